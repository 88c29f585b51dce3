theorem dX0_init_0 : decode cX0_init 0 = .ok (.aload_n 0, 1) := by decide +kernel
theorem dX0_init_1 : decode cX0_init 1 = .ok (.invokespecial 3, 3) := by decide +kernel
theorem dX0_init_4 : decode cX0_init 4 = .ok (.aload_n 0, 1) := by decide +kernel
theorem dX0_init_5 : decode cX0_init 5 = .ok (.iconst 4, 1) := by decide +kernel
theorem dX0_init_6 : decode cX0_init 6 = .ok (.newarray .int, 2) := by decide +kernel
theorem dX0_init_8 : decode cX0_init 8 = .ok (.putfield 9, 3) := by decide +kernel
theorem dX0_init_11 : decode cX0_init 11 = .ok (.aload_n 0, 1) := by decide +kernel
theorem dX0_init_12 : decode cX0_init 12 = .ok (.iconst 4, 1) := by decide +kernel
theorem dX0_init_13 : decode cX0_init 13 = .ok (.newarray .int, 2) := by decide +kernel
theorem dX0_init_15 : decode cX0_init 15 = .ok (.putfield 15, 3) := by decide +kernel
theorem dX0_init_18 : decode cX0_init 18 = .ok (.aload_n 0, 1) := by decide +kernel
theorem dX0_init_19 : decode cX0_init 19 = .ok (.iload_n 1, 1) := by decide +kernel
theorem dX0_init_20 : decode cX0_init 20 = .ok (.putfield 18, 3) := by decide +kernel
theorem dX0_init_23 : decode cX0_init 23 = .ok (.aload_n 0, 1) := by decide +kernel
theorem dX0_init_24 : decode cX0_init 24 = .ok (.iload_n 2, 1) := by decide +kernel
theorem dX0_init_25 : decode cX0_init 25 = .ok (.putfield 22, 3) := by decide +kernel
theorem dX0_init_28 : decode cX0_init 28 = .ok (.aload_n 0, 1) := by decide +kernel
theorem dX0_init_29 : decode cX0_init 29 = .ok (.iload_n 3, 1) := by decide +kernel
theorem dX0_init_30 : decode cX0_init 30 = .ok (.putfield 25, 3) := by decide +kernel
theorem dX0_init_33 : decode cX0_init 33 = .ok (.aload_n 0, 1) := by decide +kernel
theorem dX0_init_34 : decode cX0_init 34 = .ok (.iload 4, 2) := by decide +kernel
theorem dX0_init_36 : decode cX0_init 36 = .ok (.putfield 28, 3) := by decide +kernel
theorem dX0_init_39 : decode cX0_init 39 = .ok (.return_, 1) := by decide +kernel
theorem dX0_hoursOfBreaks_0 : decode cX0_hoursOfBreaks 0 = .ok (.iconst 0, 1) := by decide +kernel
theorem dX0_hoursOfBreaks_1 : decode cX0_hoursOfBreaks 1 = .ok (.istore_n 1, 1) := by decide +kernel
theorem dX0_hoursOfBreaks_2 : decode cX0_hoursOfBreaks 2 = .ok (.iconst 0, 1) := by decide +kernel
theorem dX0_hoursOfBreaks_3 : decode cX0_hoursOfBreaks 3 = .ok (.istore_n 2, 1) := by decide +kernel
theorem dX0_hoursOfBreaks_4 : decode cX0_hoursOfBreaks 4 = .ok (.iload_n 2, 1) := by decide +kernel
theorem dX0_hoursOfBreaks_5 : decode cX0_hoursOfBreaks 5 = .ok (.aload_n 0, 1) := by decide +kernel
theorem dX0_hoursOfBreaks_6 : decode cX0_hoursOfBreaks 6 = .ok (.getfield 31, 3) := by decide +kernel
theorem dX0_hoursOfBreaks_9 : decode cX0_hoursOfBreaks 9 = .ok (.if_icmp .ge 23, 3) := by decide +kernel
theorem dX0_hoursOfBreaks_12 : decode cX0_hoursOfBreaks 12 = .ok (.iload_n 2, 1) := by decide +kernel
theorem dX0_hoursOfBreaks_13 : decode cX0_hoursOfBreaks 13 = .ok (.iconst 4, 1) := by decide +kernel
theorem dX0_hoursOfBreaks_14 : decode cX0_hoursOfBreaks 14 = .ok (.if_icmp .ge 18, 3) := by decide +kernel
theorem dX0_hoursOfBreaks_17 : decode cX0_hoursOfBreaks 17 = .ok (.iload_n 1, 1) := by decide +kernel
theorem dX0_hoursOfBreaks_18 : decode cX0_hoursOfBreaks 18 = .ok (.aload_n 0, 1) := by decide +kernel
theorem dX0_hoursOfBreaks_19 : decode cX0_hoursOfBreaks 19 = .ok (.getfield 15, 3) := by decide +kernel
theorem dX0_hoursOfBreaks_22 : decode cX0_hoursOfBreaks 22 = .ok (.iload_n 2, 1) := by decide +kernel
theorem dX0_hoursOfBreaks_23 : decode cX0_hoursOfBreaks 23 = .ok (.iaload, 1) := by decide +kernel
theorem dX0_hoursOfBreaks_24 : decode cX0_hoursOfBreaks 24 = .ok (.iadd, 1) := by decide +kernel
theorem dX0_hoursOfBreaks_25 : decode cX0_hoursOfBreaks 25 = .ok (.istore_n 1, 1) := by decide +kernel
theorem dX0_hoursOfBreaks_26 : decode cX0_hoursOfBreaks 26 = .ok (.iinc 2 1, 3) := by decide +kernel
theorem dX0_hoursOfBreaks_29 : decode cX0_hoursOfBreaks 29 = .ok (.goto (-25), 3) := by decide +kernel
theorem dX0_hoursOfBreaks_32 : decode cX0_hoursOfBreaks 32 = .ok (.iload_n 1, 1) := by decide +kernel
theorem dX0_hoursOfBreaks_33 : decode cX0_hoursOfBreaks 33 = .ok (.ireturn, 1) := by decide +kernel
theorem dX0_isBusy_0 : decode cX0_isBusy 0 = .ok (.aload_n 0, 1) := by decide +kernel
theorem dX0_isBusy_1 : decode cX0_isBusy 1 = .ok (.getfield 34, 3) := by decide +kernel
theorem dX0_isBusy_4 : decode cX0_isBusy 4 = .ok (.iload_n 1, 1) := by decide +kernel
theorem dX0_isBusy_5 : decode cX0_isBusy 5 = .ok (.if_icmp .gt 15, 3) := by decide +kernel
theorem dX0_isBusy_8 : decode cX0_isBusy 8 = .ok (.iload_n 1, 1) := by decide +kernel
theorem dX0_isBusy_9 : decode cX0_isBusy 9 = .ok (.aload_n 0, 1) := by decide +kernel
theorem dX0_isBusy_10 : decode cX0_isBusy 10 = .ok (.getfield 37, 3) := by decide +kernel
theorem dX0_isBusy_13 : decode cX0_isBusy 13 = .ok (.if_icmp .ge 7, 3) := by decide +kernel
theorem dX0_isBusy_16 : decode cX0_isBusy 16 = .ok (.iconst 1, 1) := by decide +kernel
theorem dX0_isBusy_17 : decode cX0_isBusy 17 = .ok (.goto 4, 3) := by decide +kernel
theorem dX0_isBusy_20 : decode cX0_isBusy 20 = .ok (.iconst 0, 1) := by decide +kernel
theorem dX0_isBusy_21 : decode cX0_isBusy 21 = .ok (.ireturn, 1) := by decide +kernel
set_option maxRecDepth 20000 in
theorem ggX1_init_J7_fill_53178 : GoodIn wsX1_init wsJ7_fill_53178 := goodIn_r _ [18] (by decide +kernel) (by decide +kernel)
set_option maxRecDepth 20000 in
theorem gX1_init_J7_fill_53178 : GoodIn wsX1_init (va_wsS RX1 41 yJ7_fill_53178 wsJ7_fill_53178) := goodIn_app (goodIn_of _ (by decide +kernel)) ggX1_init_J7_fill_53178
set_option maxRecDepth 20000 in
theorem ggX1_init_X1_sumGains : GoodIn wsX1_init wsX1_sumGains := goodIn_r _ [23, 6, 5, 24, 25, 26, 27, 28, 29, 30, 31, 32, 33, 34, 35, 36] (by decide +kernel) (by decide +kernel)
set_option maxRecDepth 20000 in
theorem gX1_init_X1_sumGains : GoodIn wsX1_init (wsV RX1 47 RX1 yX1_sumGains wsX1_sumGains) := goodIn_app (goodIn_of _ (by decide +kernel)) ggX1_init_X1_sumGains
theorem dX1_init_0 : decode cX1_init 0 = .ok (.aload_n 0, 1) := by decide +kernel
theorem dX1_init_1 : decode cX1_init 1 = .ok (.invokespecial 1, 3) := by decide +kernel
theorem dX1_init_4 : decode cX1_init 4 = .ok (.aload_n 0, 1) := by decide +kernel
theorem dX1_init_5 : decode cX1_init 5 = .ok (.sipush 1000, 3) := by decide +kernel
theorem dX1_init_8 : decode cX1_init 8 = .ok (.newarray .int, 2) := by decide +kernel
theorem dX1_init_10 : decode cX1_init 10 = .ok (.putfield 9, 3) := by decide +kernel
theorem dX1_init_13 : decode cX1_init 13 = .ok (.aload_n 0, 1) := by decide +kernel
theorem dX1_init_14 : decode cX1_init 14 = .ok (.sipush 1001, 3) := by decide +kernel
theorem dX1_init_17 : decode cX1_init 17 = .ok (.newarray .int, 2) := by decide +kernel
theorem dX1_init_19 : decode cX1_init 19 = .ok (.putfield 13, 3) := by decide +kernel
theorem dX1_init_22 : decode cX1_init 22 = .ok (.aload_n 0, 1) := by decide +kernel
theorem dX1_init_23 : decode cX1_init 23 = .ok (.sipush 1000, 3) := by decide +kernel
theorem dX1_init_26 : decode cX1_init 26 = .ok (.newarray .int, 2) := by decide +kernel
theorem dX1_init_28 : decode cX1_init 28 = .ok (.putfield 16, 3) := by decide +kernel
theorem dX1_init_31 : decode cX1_init 31 = .ok (.aload_n 0, 1) := by decide +kernel
theorem dX1_init_32 : decode cX1_init 32 = .ok (.sipush 1001, 3) := by decide +kernel
theorem dX1_init_35 : decode cX1_init 35 = .ok (.newarray .int, 2) := by decide +kernel
theorem dX1_init_37 : decode cX1_init 37 = .ok (.putfield 19, 3) := by decide +kernel
theorem dX1_init_40 : decode cX1_init 40 = .ok (.aload_n 0, 1) := by decide +kernel
theorem dX1_init_41 : decode cX1_init 41 = .ok (.bipush 10, 2) := by decide +kernel
theorem dX1_init_43 : decode cX1_init 43 = .ok (.anewarray 22, 3) := by decide +kernel
theorem dX1_init_46 : decode cX1_init 46 = .ok (.putfield 24, 3) := by decide +kernel
theorem dX1_init_49 : decode cX1_init 49 = .ok (.aload_n 0, 1) := by decide +kernel
theorem dX1_init_50 : decode cX1_init 50 = .ok (.bipush 20, 2) := by decide +kernel
theorem dX1_init_52 : decode cX1_init 52 = .ok (.putfield 28, 3) := by decide +kernel
theorem dX1_init_55 : decode cX1_init 55 = .ok (.aload_n 0, 1) := by decide +kernel
theorem dX1_init_56 : decode cX1_init 56 = .ok (.bipush 10, 2) := by decide +kernel
theorem dX1_init_58 : decode cX1_init 58 = .ok (.putfield 32, 3) := by decide +kernel
theorem dX1_init_61 : decode cX1_init 61 = .ok (.aload_n 0, 1) := by decide +kernel
theorem dX1_init_62 : decode cX1_init 62 = .ok (.iconst 2, 1) := by decide +kernel
theorem dX1_init_63 : decode cX1_init 63 = .ok (.putfield 35, 3) := by decide +kernel
theorem dX1_init_66 : decode cX1_init 66 = .ok (.aload_n 0, 1) := by decide +kernel
theorem dX1_init_67 : decode cX1_init 67 = .ok (.iconst 3, 1) := by decide +kernel
theorem dX1_init_68 : decode cX1_init 68 = .ok (.putfield 38, 3) := by decide +kernel
theorem dX1_init_71 : decode cX1_init 71 = .ok (.aload_n 0, 1) := by decide +kernel
theorem dX1_init_72 : decode cX1_init 72 = .ok (.getfield 9, 3) := by decide +kernel
theorem dX1_init_75 : decode cX1_init 75 = .ok (.bipush 20, 2) := by decide +kernel
theorem dX1_init_77 : decode cX1_init 77 = .ok (.invokestatic 41, 3) := by decide +kernel
theorem dX1_init_80 : decode cX1_init 80 = .ok (.aload_n 0, 1) := by decide +kernel
theorem dX1_init_81 : decode cX1_init 81 = .ok (.invokevirtual 47, 3) := by decide +kernel
theorem dX1_init_84 : decode cX1_init 84 = .ok (.return_, 1) := by decide +kernel
set_option maxRecDepth 20000 in
theorem ggX1_setTemperature_X1_requireHour : GoodIn wsX1_setTemperature wsX1_requireHour := goodIn_ca (goodIn_r _ [5, 6, 7, 8, 9, 4, 10] (by decide +kernel) (by decide +kernel)) (goodIn_sub (fun _ h => List.mem_cons_of_mem _ (List.mem_append_left _ (List.mem_append_right _ h))) (by decide +kernel))
set_option maxRecDepth 20000 in
theorem gX1_setTemperature_X1_requireHour : GoodIn wsX1_setTemperature (va_wsS RX1 50 yX1_requireHour wsX1_requireHour) := goodIn_app (goodIn_of _ (by decide +kernel)) ggX1_setTemperature_X1_requireHour
set_option maxRecDepth 20000 in
theorem ggX1_setTemperature_X1_require : GoodIn wsX1_setTemperature wsX1_require := goodIn_ca (goodIn_r _ [13, 14, 15] (by decide +kernel) (by decide +kernel)) (goodIn_sub (fun _ h => List.mem_cons_of_mem _ (List.mem_append_right _ h)) (by decide +kernel))
set_option maxRecDepth 20000 in
theorem gX1_setTemperature_X1_require : GoodIn wsX1_setTemperature (va_wsS RX1 54 yX1_require wsX1_require) := goodIn_app (goodIn_of _ (by decide +kernel)) ggX1_setTemperature_X1_require
set_option maxRecDepth 20000 in
theorem ggX1_setTemperature_X1_requireRange : GoodIn wsX1_setTemperature wsX1_requireRange := goodIn_ca (goodIn_r _ [18, 11, 12, 4, 13, 14, 15] (by decide +kernel) (by decide +kernel)) (goodIn_sub (fun _ h => List.mem_cons_of_mem _ (List.mem_append_right _ h)) (by decide +kernel))
set_option maxRecDepth 20000 in
theorem gX1_setTemperature_X1_requireRange : GoodIn wsX1_setTemperature (va_wsS RX1 58 yX1_requireRange wsX1_requireRange) := goodIn_app (goodIn_of _ (by decide +kernel)) ggX1_setTemperature_X1_requireRange
set_option maxRecDepth 20000 in
theorem ggX1_setTemperature_X1_sumGains : GoodIn wsX1_setTemperature wsX1_sumGains := goodIn_r _ [22, 23, 1, 24, 25, 26, 27, 77, 78, 79, 80, 81, 82, 83, 84, 85] (by decide +kernel) (by decide +kernel)
set_option maxRecDepth 20000 in
theorem gX1_setTemperature_X1_sumGains : GoodIn wsX1_setTemperature (wsV RX1 47 RX1 yX1_sumGains wsX1_sumGains) := goodIn_app (goodIn_of _ (by decide +kernel)) ggX1_setTemperature_X1_sumGains
set_option maxRecDepth 20000 in
theorem ggX1_setTemperature_X1_scheduleAll : GoodIn wsX1_setTemperature wsX1_scheduleAll := goodIn_r _ [31, 32, 33, 34, 35, 4, 36, 37, 38, 39, 40, 41, 42, 43, 44, 45, 46, 47, 48, 49, 50, 51, 52, 53, 54, 55, 56, 57, 58, 59, 60, 61, 26, 62, 23, 63, 64, 65, 66, 67, 68, 69, 70, 71, 24, 25, 27, 72, 73, 74, 75, 76, 77, 78, 79, 80, 81, 82, 83, 84, 85, 86, 87, 88, 89, 90, 91, 92, 93, 94, 95, 96, 97, 98] (by decide +kernel) (by decide +kernel)
set_option maxRecDepth 20000 in
theorem gX1_setTemperature_X1_scheduleAll : GoodIn wsX1_setTemperature (wsV RX1 62 RX1 yX1_scheduleAll wsX1_scheduleAll) := goodIn_app (goodIn_of _ (by decide +kernel)) ggX1_setTemperature_X1_scheduleAll
theorem dX1_setTemperature_0 : decode cX1_setTemperature 0 = .ok (.iload_n 1, 1) := by decide +kernel
theorem dX1_setTemperature_1 : decode cX1_setTemperature 1 = .ok (.invokestatic 50, 3) := by decide +kernel
theorem dX1_setTemperature_4 : decode cX1_setTemperature 4 = .ok (.iload_n 2, 1) := by decide +kernel
theorem dX1_setTemperature_5 : decode cX1_setTemperature 5 = .ok (.invokestatic 50, 3) := by decide +kernel
theorem dX1_setTemperature_8 : decode cX1_setTemperature 8 = .ok (.iload_n 1, 1) := by decide +kernel
theorem dX1_setTemperature_9 : decode cX1_setTemperature 9 = .ok (.iload_n 2, 1) := by decide +kernel
theorem dX1_setTemperature_10 : decode cX1_setTemperature 10 = .ok (.if_icmp .gt 7, 3) := by decide +kernel
theorem dX1_setTemperature_13 : decode cX1_setTemperature 13 = .ok (.iconst 1, 1) := by decide +kernel
theorem dX1_setTemperature_14 : decode cX1_setTemperature 14 = .ok (.goto 4, 3) := by decide +kernel
theorem dX1_setTemperature_17 : decode cX1_setTemperature 17 = .ok (.iconst 0, 1) := by decide +kernel
theorem dX1_setTemperature_18 : decode cX1_setTemperature 18 = .ok (.invokestatic 54, 3) := by decide +kernel
theorem dX1_setTemperature_21 : decode cX1_setTemperature 21 = .ok (.iload_n 3, 1) := by decide +kernel
theorem dX1_setTemperature_22 : decode cX1_setTemperature 22 = .ok (.bipush (-40), 2) := by decide +kernel
theorem dX1_setTemperature_24 : decode cX1_setTemperature 24 = .ok (.bipush 50, 2) := by decide +kernel
theorem dX1_setTemperature_26 : decode cX1_setTemperature 26 = .ok (.invokestatic 58, 3) := by decide +kernel
theorem dX1_setTemperature_29 : decode cX1_setTemperature 29 = .ok (.iload_n 1, 1) := by decide +kernel
theorem dX1_setTemperature_30 : decode cX1_setTemperature 30 = .ok (.istore 4, 2) := by decide +kernel
theorem dX1_setTemperature_32 : decode cX1_setTemperature 32 = .ok (.iload 4, 2) := by decide +kernel
theorem dX1_setTemperature_34 : decode cX1_setTemperature 34 = .ok (.iload_n 2, 1) := by decide +kernel
theorem dX1_setTemperature_35 : decode cX1_setTemperature 35 = .ok (.if_icmp .gt 25, 3) := by decide +kernel
theorem dX1_setTemperature_38 : decode cX1_setTemperature 38 = .ok (.iload 4, 2) := by decide +kernel
theorem dX1_setTemperature_40 : decode cX1_setTemperature 40 = .ok (.sipush 1000, 3) := by decide +kernel
theorem dX1_setTemperature_43 : decode cX1_setTemperature 43 = .ok (.if_icmp .ge 17, 3) := by decide +kernel
theorem dX1_setTemperature_46 : decode cX1_setTemperature 46 = .ok (.aload_n 0, 1) := by decide +kernel
theorem dX1_setTemperature_47 : decode cX1_setTemperature 47 = .ok (.getfield 9, 3) := by decide +kernel
theorem dX1_setTemperature_50 : decode cX1_setTemperature 50 = .ok (.iload 4, 2) := by decide +kernel
theorem dX1_setTemperature_52 : decode cX1_setTemperature 52 = .ok (.iload_n 3, 1) := by decide +kernel
theorem dX1_setTemperature_53 : decode cX1_setTemperature 53 = .ok (.iastore, 1) := by decide +kernel
theorem dX1_setTemperature_54 : decode cX1_setTemperature 54 = .ok (.iinc 4 1, 3) := by decide +kernel
theorem dX1_setTemperature_57 : decode cX1_setTemperature 57 = .ok (.goto (-25), 3) := by decide +kernel
theorem dX1_setTemperature_60 : decode cX1_setTemperature 60 = .ok (.aload_n 0, 1) := by decide +kernel
theorem dX1_setTemperature_61 : decode cX1_setTemperature 61 = .ok (.invokevirtual 47, 3) := by decide +kernel
theorem dX1_setTemperature_64 : decode cX1_setTemperature 64 = .ok (.aload_n 0, 1) := by decide +kernel
theorem dX1_setTemperature_65 : decode cX1_setTemperature 65 = .ok (.invokevirtual 62, 3) := by decide +kernel
theorem dX1_setTemperature_68 : decode cX1_setTemperature 68 = .ok (.return_, 1) := by decide +kernel
set_option maxRecDepth 20000 in
theorem ggX1_maturity_X1_requireHour : GoodIn wsX1_maturity wsX1_requireHour := goodIn_ca (goodIn_r _ [4, 5, 6, 7, 8, 3, 9] (by decide +kernel) (by decide +kernel)) (goodIn_sub (fun _ h => List.mem_cons_of_mem _ (List.mem_append_right _ h)) (by decide +kernel))
set_option maxRecDepth 20000 in
theorem gX1_maturity_X1_requireHour : GoodIn wsX1_maturity (va_wsS RX1 50 yX1_requireHour wsX1_requireHour) := goodIn_app (goodIn_of _ (by decide +kernel)) ggX1_maturity_X1_requireHour
set_option maxRecDepth 20000 in
theorem ggX1_maturity_X1_gainBetween : GoodIn wsX1_maturity wsX1_gainBetween := goodIn_r _ [13, 14, 15, 16, 17, 18, 19, 20, 21, 22, 23, 24, 25, 26, 27] (by decide +kernel) (by decide +kernel)
set_option maxRecDepth 20000 in
theorem gX1_maturity_X1_gainBetween : GoodIn wsX1_maturity (wsV RX1 65 RX1 yX1_gainBetween wsX1_gainBetween) := goodIn_app (goodIn_of _ (by decide +kernel)) ggX1_maturity_X1_gainBetween
theorem dX1_maturity_0 : decode cX1_maturity 0 = .ok (.iload_n 1, 1) := by decide +kernel
theorem dX1_maturity_1 : decode cX1_maturity 1 = .ok (.invokestatic 50, 3) := by decide +kernel
theorem dX1_maturity_4 : decode cX1_maturity 4 = .ok (.iload_n 2, 1) := by decide +kernel
theorem dX1_maturity_5 : decode cX1_maturity 5 = .ok (.invokestatic 50, 3) := by decide +kernel
theorem dX1_maturity_8 : decode cX1_maturity 8 = .ok (.aload_n 0, 1) := by decide +kernel
theorem dX1_maturity_9 : decode cX1_maturity 9 = .ok (.iload_n 1, 1) := by decide +kernel
theorem dX1_maturity_10 : decode cX1_maturity 10 = .ok (.iload_n 2, 1) := by decide +kernel
theorem dX1_maturity_11 : decode cX1_maturity 11 = .ok (.invokevirtual 65, 3) := by decide +kernel
theorem dX1_maturity_14 : decode cX1_maturity 14 = .ok (.ireturn, 1) := by decide +kernel
set_option maxRecDepth 20000 in
theorem ggX1_strength_X1_requireRange : GoodIn wsX1_strength wsX1_requireRange := goodIn_ca (goodIn_r _ [5, 6, 7, 4, 8, 9, 10] (by decide +kernel) (by decide +kernel)) (goodIn_sub (fun _ h => List.mem_cons_of_mem _ (List.mem_append_right _ h)) (by decide +kernel))
set_option maxRecDepth 20000 in
theorem gX1_strength_X1_requireRange : GoodIn wsX1_strength (va_wsS RX1 58 yX1_requireRange wsX1_requireRange) := goodIn_app (goodIn_of _ (by decide +kernel)) ggX1_strength_X1_requireRange
set_option maxRecDepth 20000 in
theorem ggX1_strength_X1_strengthAt : GoodIn wsX1_strength wsX1_strengthAt := goodIn_r _ [13, 14] (by decide +kernel) (by decide +kernel)
set_option maxRecDepth 20000 in
theorem gX1_strength_X1_strengthAt : GoodIn wsX1_strength (va_wsS RX1 70 yX1_strengthAt wsX1_strengthAt) := goodIn_app (goodIn_of _ (by decide +kernel)) ggX1_strength_X1_strengthAt
theorem dX1_strength_0 : decode cX1_strength 0 = .ok (.iload_n 1, 1) := by decide +kernel
theorem dX1_strength_1 : decode cX1_strength 1 = .ok (.iconst 0, 1) := by decide +kernel
theorem dX1_strength_2 : decode cX1_strength 2 = .ok (.ldc 69, 2) := by decide +kernel
theorem dX1_strength_4 : decode cX1_strength 4 = .ok (.invokestatic 58, 3) := by decide +kernel
theorem dX1_strength_7 : decode cX1_strength 7 = .ok (.iload_n 1, 1) := by decide +kernel
theorem dX1_strength_8 : decode cX1_strength 8 = .ok (.invokestatic 70, 3) := by decide +kernel
theorem dX1_strength_11 : decode cX1_strength 11 = .ok (.ireturn, 1) := by decide +kernel
set_option maxRecDepth 20000 in
theorem ggX1_setPanels_X1_requireRange : GoodIn wsX1_setPanels wsX1_requireRange := goodIn_ca (goodIn_r _ [5, 6, 7, 4, 8, 9, 10] (by decide +kernel) (by decide +kernel)) (goodIn_sub (fun _ h => List.mem_cons_of_mem _ (List.mem_append_right _ h)) (by decide +kernel))
set_option maxRecDepth 20000 in
theorem gX1_setPanels_X1_requireRange : GoodIn wsX1_setPanels (va_wsS RX1 58 yX1_requireRange wsX1_requireRange) := goodIn_app (goodIn_of _ (by decide +kernel)) ggX1_setPanels_X1_requireRange
theorem dX1_setPanels_0 : decode cX1_setPanels 0 = .ok (.iload_n 1, 1) := by decide +kernel
theorem dX1_setPanels_1 : decode cX1_setPanels 1 = .ok (.iconst 0, 1) := by decide +kernel
theorem dX1_setPanels_2 : decode cX1_setPanels 2 = .ok (.bipush 60, 2) := by decide +kernel
theorem dX1_setPanels_4 : decode cX1_setPanels 4 = .ok (.invokestatic 58, 3) := by decide +kernel
theorem dX1_setPanels_7 : decode cX1_setPanels 7 = .ok (.aload_n 0, 1) := by decide +kernel
theorem dX1_setPanels_8 : decode cX1_setPanels 8 = .ok (.getfield 28, 3) := by decide +kernel
theorem dX1_setPanels_11 : decode cX1_setPanels 11 = .ok (.istore_n 2, 1) := by decide +kernel
theorem dX1_setPanels_12 : decode cX1_setPanels 12 = .ok (.aload_n 0, 1) := by decide +kernel
theorem dX1_setPanels_13 : decode cX1_setPanels 13 = .ok (.iload_n 1, 1) := by decide +kernel
theorem dX1_setPanels_14 : decode cX1_setPanels 14 = .ok (.putfield 28, 3) := by decide +kernel
theorem dX1_setPanels_17 : decode cX1_setPanels 17 = .ok (.iload_n 2, 1) := by decide +kernel
theorem dX1_setPanels_18 : decode cX1_setPanels 18 = .ok (.ireturn, 1) := by decide +kernel
set_option maxRecDepth 20000 in
theorem ggX1_setRates_X1_requireRange : GoodIn wsX1_setRates wsX1_requireRange := goodIn_ca (goodIn_r _ [9, 10, 11, 8, 12, 13, 14] (by decide +kernel) (by decide +kernel)) (goodIn_sub (fun _ h => List.mem_cons_of_mem _ (List.mem_append_right _ h)) (by decide +kernel))
set_option maxRecDepth 20000 in
theorem gX1_setRates_X1_requireRange : GoodIn wsX1_setRates (va_wsS RX1 58 yX1_requireRange wsX1_requireRange) := goodIn_app (goodIn_of _ (by decide +kernel)) ggX1_setRates_X1_requireRange
set_option maxRecDepth 20000 in
theorem ggX1_setRates_X1_scheduleAll : GoodIn wsX1_setRates wsX1_scheduleAll := goodIn_r _ [18, 19, 20, 21, 22, 8, 23, 24, 25, 26, 27, 5, 28, 29, 30, 31, 32, 33, 34, 35, 36, 37, 38, 39, 40, 41, 42, 43, 44, 45, 1, 2, 3, 4, 46, 47, 48, 49, 50, 51, 52, 53, 54, 55, 56, 57, 58, 59, 60, 61, 62, 63, 64, 65, 66, 67, 68, 69, 70, 71, 72, 73, 74, 75, 76, 77, 78, 79, 80, 81, 82, 83, 84, 85] (by decide +kernel) (by decide +kernel)
set_option maxRecDepth 20000 in
theorem gX1_setRates_X1_scheduleAll : GoodIn wsX1_setRates (wsV RX1 62 RX1 yX1_scheduleAll wsX1_scheduleAll) := goodIn_app (goodIn_of _ (by decide +kernel)) ggX1_setRates_X1_scheduleAll
theorem dX1_setRates_0 : decode cX1_setRates 0 = .ok (.iload_n 1, 1) := by decide +kernel
theorem dX1_setRates_1 : decode cX1_setRates 1 = .ok (.iconst 1, 1) := by decide +kernel
theorem dX1_setRates_2 : decode cX1_setRates 2 = .ok (.bipush 50, 2) := by decide +kernel
theorem dX1_setRates_4 : decode cX1_setRates 4 = .ok (.invokestatic 58, 3) := by decide +kernel
theorem dX1_setRates_7 : decode cX1_setRates 7 = .ok (.iload_n 2, 1) := by decide +kernel
theorem dX1_setRates_8 : decode cX1_setRates 8 = .ok (.iconst 1, 1) := by decide +kernel
theorem dX1_setRates_9 : decode cX1_setRates 9 = .ok (.bipush 50, 2) := by decide +kernel
theorem dX1_setRates_11 : decode cX1_setRates 11 = .ok (.invokestatic 58, 3) := by decide +kernel
theorem dX1_setRates_14 : decode cX1_setRates 14 = .ok (.aload_n 0, 1) := by decide +kernel
theorem dX1_setRates_15 : decode cX1_setRates 15 = .ok (.iload_n 1, 1) := by decide +kernel
theorem dX1_setRates_16 : decode cX1_setRates 16 = .ok (.iload_n 2, 1) := by decide +kernel
theorem dX1_setRates_17 : decode cX1_setRates 17 = .ok (.invokestatic 74, 3) := by decide +kernel
theorem dX1_setRates_20 : decode cX1_setRates 20 = .ok (.putfield 32, 3) := by decide +kernel
theorem dX1_setRates_23 : decode cX1_setRates 23 = .ok (.aload_n 0, 1) := by decide +kernel
theorem dX1_setRates_24 : decode cX1_setRates 24 = .ok (.invokevirtual 62, 3) := by decide +kernel
theorem dX1_setRates_27 : decode cX1_setRates 27 = .ok (.aload_n 0, 1) := by decide +kernel
theorem dX1_setRates_28 : decode cX1_setRates 28 = .ok (.getfield 32, 3) := by decide +kernel
theorem dX1_setRates_31 : decode cX1_setRates 31 = .ok (.ireturn, 1) := by decide +kernel
set_option maxRecDepth 20000 in
theorem ggX1_setCrew_X1_requireRange : GoodIn wsX1_setCrew wsX1_requireRange := goodIn_ca (goodIn_r _ [6, 7, 8, 5, 9, 10, 11] (by decide +kernel) (by decide +kernel)) (goodIn_sub (fun _ h => List.mem_cons_of_mem _ (List.mem_append_right _ h)) (by decide +kernel))
set_option maxRecDepth 20000 in
theorem gX1_setCrew_X1_requireRange : GoodIn wsX1_setCrew (va_wsS RX1 58 yX1_requireRange wsX1_requireRange) := goodIn_app (goodIn_of _ (by decide +kernel)) ggX1_setCrew_X1_requireRange
set_option maxRecDepth 20000 in
theorem ggX1_setCrew_X1_scheduleAll : GoodIn wsX1_setCrew wsX1_scheduleAll := goodIn_r _ [15, 16, 17, 18, 19, 5, 20, 21, 22, 23, 24, 25, 26, 27, 28, 29, 30, 31, 32, 33, 34, 35, 36, 37, 38, 39, 40, 41, 42, 43, 44, 45, 46, 47, 48, 49, 50, 51, 52, 53, 54, 55, 56, 1, 57, 58, 59, 60, 61, 62, 63, 2, 64, 65, 66, 67, 68, 69, 70, 71, 72, 73, 74, 75, 76, 77, 78, 79, 80, 81, 82, 83, 84, 85] (by decide +kernel) (by decide +kernel)
set_option maxRecDepth 20000 in
theorem gX1_setCrew_X1_scheduleAll : GoodIn wsX1_setCrew (wsV RX1 62 RX1 yX1_scheduleAll wsX1_scheduleAll) := goodIn_app (goodIn_of _ (by decide +kernel)) ggX1_setCrew_X1_scheduleAll
theorem dX1_setCrew_0 : decode cX1_setCrew 0 = .ok (.iload_n 1, 1) := by decide +kernel
theorem dX1_setCrew_1 : decode cX1_setCrew 1 = .ok (.iconst 0, 1) := by decide +kernel
theorem dX1_setCrew_2 : decode cX1_setCrew 2 = .ok (.bipush 24, 2) := by decide +kernel
theorem dX1_setCrew_4 : decode cX1_setCrew 4 = .ok (.invokestatic 58, 3) := by decide +kernel
theorem dX1_setCrew_7 : decode cX1_setCrew 7 = .ok (.iload_n 2, 1) := by decide +kernel
theorem dX1_setCrew_8 : decode cX1_setCrew 8 = .ok (.iconst 0, 1) := by decide +kernel
theorem dX1_setCrew_9 : decode cX1_setCrew 9 = .ok (.bipush 24, 2) := by decide +kernel
theorem dX1_setCrew_11 : decode cX1_setCrew 11 = .ok (.invokestatic 58, 3) := by decide +kernel
theorem dX1_setCrew_14 : decode cX1_setCrew 14 = .ok (.aload_n 0, 1) := by decide +kernel
theorem dX1_setCrew_15 : decode cX1_setCrew 15 = .ok (.iload_n 1, 1) := by decide +kernel
theorem dX1_setCrew_16 : decode cX1_setCrew 16 = .ok (.putfield 35, 3) := by decide +kernel
theorem dX1_setCrew_19 : decode cX1_setCrew 19 = .ok (.aload_n 0, 1) := by decide +kernel
theorem dX1_setCrew_20 : decode cX1_setCrew 20 = .ok (.iload_n 2, 1) := by decide +kernel
theorem dX1_setCrew_21 : decode cX1_setCrew 21 = .ok (.putfield 38, 3) := by decide +kernel
theorem dX1_setCrew_24 : decode cX1_setCrew 24 = .ok (.aload_n 0, 1) := by decide +kernel
theorem dX1_setCrew_25 : decode cX1_setCrew 25 = .ok (.invokevirtual 62, 3) := by decide +kernel
theorem dX1_setCrew_28 : decode cX1_setCrew 28 = .ok (.return_, 1) := by decide +kernel
set_option maxRecDepth 20000 in
theorem ggX1_plan_X1_requirePour : GoodIn wsX1_plan wsX1_requirePour := goodIn_ca (goodIn_r _ [10, 11, 12, 9, 13, 14, 15, 16, 17, 18] (by decide +kernel) (by decide +kernel)) (goodIn_sub (fun _ h => List.mem_cons_of_mem _ (List.mem_append_right _ h)) (by decide +kernel))
set_option maxRecDepth 20000 in
theorem gX1_plan_X1_requirePour : GoodIn wsX1_plan (va_wsS RX1 79 yX1_requirePour wsX1_requirePour) := goodIn_app (goodIn_of _ (by decide +kernel)) ggX1_plan_X1_requirePour
set_option maxRecDepth 20000 in
theorem ggX1_plan_X1_freeNumber : GoodIn wsX1_plan wsX1_freeNumber := goodIn_r _ [22, 6, 98, 99, 100, 101, 102, 103, 104, 105, 106] (by decide +kernel) (by decide +kernel)
set_option maxRecDepth 20000 in
theorem gX1_plan_X1_freeNumber : GoodIn wsX1_plan (wsV RX1 83 RX1 yX1_freeNumber wsX1_freeNumber) := goodIn_app (goodIn_of _ (by decide +kernel)) ggX1_plan_X1_freeNumber
set_option maxRecDepth 20000 in
theorem ggX1_plan_X1_isNumber : GoodIn wsX1_plan wsX1_isNumber := goodIn_r _ [25] (by decide +kernel) (by decide +kernel)
set_option maxRecDepth 20000 in
theorem gX1_plan_X1_isNumber : GoodIn wsX1_plan (va_wsS RX1 87 yX1_isNumber wsX1_isNumber) := goodIn_app (goodIn_of _ (by decide +kernel)) ggX1_plan_X1_isNumber
set_option maxRecDepth 20000 in
theorem ggX1_plan_X0_init : GoodIn wsX1_plan wsX0_init := goodIn_r _ [27, 28, 29, 30, 31, 32, 33, 34, 35, 36, 37, 85, 86, 87, 88, 89, 90, 91, 92, 93, 94, 95, 96, 97] (by decide +kernel) (by decide +kernel)
set_option maxRecDepth 20000 in
theorem gX1_plan_X0_init_n94 : GoodIn wsX1_plan (wsX0_init) := ggX1_plan_X0_init
set_option maxRecDepth 20000 in
theorem ggX1_plan_X1_schedule : GoodIn wsX1_plan wsX1_schedule := goodIn_r _ [41, 42, 43, 44, 9, 45, 46, 47, 48, 49, 50, 51, 5, 52, 53, 54, 33, 55, 56, 57, 58, 59, 60, 61, 62, 63, 64, 65, 66, 67, 68, 69, 70, 71, 72, 73, 74, 75, 76, 77, 78, 79, 80, 81, 82, 83, 84, 85, 86, 87, 88, 89, 90, 91, 92, 93, 94, 95, 96, 97, 98, 99, 100, 101, 102, 103, 104, 105, 106] (by decide +kernel) (by decide +kernel)
set_option maxRecDepth 20000 in
theorem gX1_plan_X1_schedule : GoodIn wsX1_plan (wsV RX1 96 RX1 yX1_schedule wsX1_schedule) := goodIn_app (goodIn_of _ (by decide +kernel)) ggX1_plan_X1_schedule
theorem dX1_plan_0 : decode cX1_plan 0 = .ok (.iload_n 1, 1) := by decide +kernel
theorem dX1_plan_1 : decode cX1_plan 1 = .ok (.iload_n 2, 1) := by decide +kernel
theorem dX1_plan_2 : decode cX1_plan 2 = .ok (.iload_n 3, 1) := by decide +kernel
theorem dX1_plan_3 : decode cX1_plan 3 = .ok (.iload 4, 2) := by decide +kernel
theorem dX1_plan_5 : decode cX1_plan 5 = .ok (.invokestatic 79, 3) := by decide +kernel
theorem dX1_plan_8 : decode cX1_plan 8 = .ok (.aload_n 0, 1) := by decide +kernel
theorem dX1_plan_9 : decode cX1_plan 9 = .ok (.invokevirtual 83, 3) := by decide +kernel
theorem dX1_plan_12 : decode cX1_plan 12 = .ok (.istore 5, 2) := by decide +kernel
theorem dX1_plan_14 : decode cX1_plan 14 = .ok (.iload 5, 2) := by decide +kernel
theorem dX1_plan_16 : decode cX1_plan 16 = .ok (.invokestatic 87, 3) := by decide +kernel
theorem dX1_plan_19 : decode cX1_plan 19 = .ok (.ifCond .ne 11, 3) := by decide +kernel
theorem dX1_plan_22 : decode cX1_plan 22 = .ok (.new 91, 3) := by decide +kernel
theorem dX1_plan_25 : decode cX1_plan 25 = .ok (.dup, 1) := by decide +kernel
theorem dX1_plan_26 : decode cX1_plan 26 = .ok (.invokespecial 93, 3) := by decide +kernel
theorem dX1_plan_29 : decode cX1_plan 29 = .ok (.athrow, 1) := by decide +kernel
theorem dX1_plan_30 : decode cX1_plan 30 = .ok (.new 22, 3) := by decide +kernel
theorem dX1_plan_33 : decode cX1_plan 33 = .ok (.dup, 1) := by decide +kernel
theorem dX1_plan_34 : decode cX1_plan 34 = .ok (.iload_n 1, 1) := by decide +kernel
theorem dX1_plan_35 : decode cX1_plan 35 = .ok (.iload_n 2, 1) := by decide +kernel
theorem dX1_plan_36 : decode cX1_plan 36 = .ok (.iload_n 3, 1) := by decide +kernel
theorem dX1_plan_37 : decode cX1_plan 37 = .ok (.iload 4, 2) := by decide +kernel
theorem dX1_plan_39 : decode cX1_plan 39 = .ok (.invokespecial 94, 3) := by decide +kernel
theorem dX1_plan_42 : decode cX1_plan 42 = .ok (.astore 6, 2) := by decide +kernel
theorem dX1_plan_44 : decode cX1_plan 44 = .ok (.aload_n 0, 1) := by decide +kernel
theorem dX1_plan_45 : decode cX1_plan 45 = .ok (.aload 6, 2) := by decide +kernel
theorem dX1_plan_47 : decode cX1_plan 47 = .ok (.invokevirtual 96, 3) := by decide +kernel
theorem dX1_plan_50 : decode cX1_plan 50 = .ok (.aload_n 0, 1) := by decide +kernel
theorem dX1_plan_51 : decode cX1_plan 51 = .ok (.getfield 24, 3) := by decide +kernel
theorem dX1_plan_54 : decode cX1_plan 54 = .ok (.iload 5, 2) := by decide +kernel
theorem dX1_plan_56 : decode cX1_plan 56 = .ok (.aload 6, 2) := by decide +kernel
theorem dX1_plan_58 : decode cX1_plan 58 = .ok (.aastore, 1) := by decide +kernel
theorem dX1_plan_59 : decode cX1_plan 59 = .ok (.iload 5, 2) := by decide +kernel
theorem dX1_plan_61 : decode cX1_plan 61 = .ok (.ireturn, 1) := by decide +kernel
set_option maxRecDepth 20000 in
theorem ggX1_move_X1_existing : GoodIn wsX1_move wsX1_existing := goodIn_ca (goodIn_r _ [5, 6, 7, 8, 9, 10, 4, 11, 82, 83, 84, 85, 86, 87, 88, 89, 90] (by decide +kernel) (by decide +kernel)) (goodIn_sub (fun _ h => List.mem_cons_of_mem _ (List.mem_append_left _ (List.mem_append_right _ h))) (by decide +kernel))
set_option maxRecDepth 20000 in
theorem gX1_move_X1_existing : GoodIn wsX1_move (wsV RX1 100 RX1 yX1_existing wsX1_existing) := goodIn_app (goodIn_of _ (by decide +kernel)) ggX1_move_X1_existing
set_option maxRecDepth 20000 in
theorem ggX1_move_X1_requireRange : GoodIn wsX1_move wsX1_requireRange := goodIn_ca (goodIn_r _ [14, 15, 16, 4, 17, 18, 19] (by decide +kernel) (by decide +kernel)) (goodIn_sub (fun _ h => List.mem_cons_of_mem _ (List.mem_append_right _ h)) (by decide +kernel))
set_option maxRecDepth 20000 in
theorem gX1_move_X1_requireRange : GoodIn wsX1_move (va_wsS RX1 58 yX1_requireRange wsX1_requireRange) := goodIn_app (goodIn_of _ (by decide +kernel)) ggX1_move_X1_requireRange
set_option maxRecDepth 20000 in
theorem ggX1_move_X1_schedule : GoodIn wsX1_move wsX1_schedule := goodIn_r _ [23, 24, 25, 26, 4, 27, 28, 29, 30, 31, 32, 33, 34, 35, 36, 37, 38, 39, 40, 41, 42, 43, 44, 45, 46, 47, 48, 49, 50, 51, 52, 53, 54, 55, 56, 57, 58, 59, 60, 61, 62, 63, 64, 65, 66, 67, 68, 69, 70, 71, 72, 73, 74, 75, 76, 77, 78, 79, 80, 81, 82, 83, 84, 85, 86, 87, 88, 89, 90] (by decide +kernel) (by decide +kernel)
set_option maxRecDepth 20000 in
theorem gX1_move_X1_schedule : GoodIn wsX1_move (wsV RX1 96 RX1 yX1_schedule wsX1_schedule) := goodIn_app (goodIn_of _ (by decide +kernel)) ggX1_move_X1_schedule
theorem dX1_move_0 : decode cX1_move 0 = .ok (.aload_n 0, 1) := by decide +kernel
theorem dX1_move_1 : decode cX1_move 1 = .ok (.iload_n 1, 1) := by decide +kernel
theorem dX1_move_2 : decode cX1_move 2 = .ok (.invokevirtual 100, 3) := by decide +kernel
theorem dX1_move_5 : decode cX1_move 5 = .ok (.astore_n 3, 1) := by decide +kernel
theorem dX1_move_6 : decode cX1_move 6 = .ok (.iload_n 2, 1) := by decide +kernel
theorem dX1_move_7 : decode cX1_move 7 = .ok (.iconst 0, 1) := by decide +kernel
theorem dX1_move_8 : decode cX1_move 8 = .ok (.sipush 900, 3) := by decide +kernel
theorem dX1_move_11 : decode cX1_move 11 = .ok (.invokestatic 58, 3) := by decide +kernel
theorem dX1_move_14 : decode cX1_move 14 = .ok (.aload_n 3, 1) := by decide +kernel
theorem dX1_move_15 : decode cX1_move 15 = .ok (.getfield 104, 3) := by decide +kernel
theorem dX1_move_18 : decode cX1_move 18 = .ok (.istore 4, 2) := by decide +kernel
theorem dX1_move_20 : decode cX1_move 20 = .ok (.aload_n 3, 1) := by decide +kernel
theorem dX1_move_21 : decode cX1_move 21 = .ok (.iload_n 2, 1) := by decide +kernel
theorem dX1_move_22 : decode cX1_move 22 = .ok (.putfield 104, 3) := by decide +kernel
theorem dX1_move_25 : decode cX1_move 25 = .ok (.aload_n 0, 1) := by decide +kernel
theorem dX1_move_26 : decode cX1_move 26 = .ok (.aload_n 3, 1) := by decide +kernel
theorem dX1_move_27 : decode cX1_move 27 = .ok (.invokevirtual 96, 3) := by decide +kernel
theorem dX1_move_30 : decode cX1_move 30 = .ok (.iload 4, 2) := by decide +kernel
theorem dX1_move_32 : decode cX1_move 32 = .ok (.ireturn, 1) := by decide +kernel
set_option maxRecDepth 20000 in
theorem ggX1_cancel_X1_existing : GoodIn wsX1_cancel wsX1_existing := goodIn_ca (goodIn_r _ [6, 7, 8, 1, 9, 10, 5, 11, 12, 13, 14, 15, 16, 17, 18, 19, 20] (by decide +kernel) (by decide +kernel)) (goodIn_sub (fun _ h => List.mem_cons_of_mem _ (List.mem_append_right _ h)) (by decide +kernel))
set_option maxRecDepth 20000 in
theorem gX1_cancel_X1_existing : GoodIn wsX1_cancel (wsV RX1 100 RX1 yX1_existing wsX1_existing) := goodIn_app (goodIn_of _ (by decide +kernel)) ggX1_cancel_X1_existing
theorem dX1_cancel_0 : decode cX1_cancel 0 = .ok (.aload_n 0, 1) := by decide +kernel
theorem dX1_cancel_1 : decode cX1_cancel 1 = .ok (.iload_n 1, 1) := by decide +kernel
theorem dX1_cancel_2 : decode cX1_cancel 2 = .ok (.invokevirtual 100, 3) := by decide +kernel
theorem dX1_cancel_5 : decode cX1_cancel 5 = .ok (.astore_n 2, 1) := by decide +kernel
theorem dX1_cancel_6 : decode cX1_cancel 6 = .ok (.aload_n 0, 1) := by decide +kernel
theorem dX1_cancel_7 : decode cX1_cancel 7 = .ok (.getfield 24, 3) := by decide +kernel
theorem dX1_cancel_10 : decode cX1_cancel 10 = .ok (.iload_n 1, 1) := by decide +kernel
theorem dX1_cancel_11 : decode cX1_cancel 11 = .ok (.aconst_null, 1) := by decide +kernel
theorem dX1_cancel_12 : decode cX1_cancel 12 = .ok (.aastore, 1) := by decide +kernel
theorem dX1_cancel_13 : decode cX1_cancel 13 = .ok (.aload_n 2, 1) := by decide +kernel
theorem dX1_cancel_14 : decode cX1_cancel 14 = .ok (.getfield 107, 3) := by decide +kernel
theorem dX1_cancel_17 : decode cX1_cancel 17 = .ok (.ireturn, 1) := by decide +kernel
theorem dX1_pours_0 : decode cX1_pours 0 = .ok (.iconst 0, 1) := by decide +kernel
theorem dX1_pours_1 : decode cX1_pours 1 = .ok (.istore_n 1, 1) := by decide +kernel
theorem dX1_pours_2 : decode cX1_pours 2 = .ok (.aload_n 0, 1) := by decide +kernel
theorem dX1_pours_3 : decode cX1_pours 3 = .ok (.getfield 24, 3) := by decide +kernel
theorem dX1_pours_6 : decode cX1_pours 6 = .ok (.astore_n 2, 1) := by decide +kernel
theorem dX1_pours_7 : decode cX1_pours 7 = .ok (.aload_n 2, 1) := by decide +kernel
theorem dX1_pours_8 : decode cX1_pours 8 = .ok (.arraylength, 1) := by decide +kernel
theorem dX1_pours_9 : decode cX1_pours 9 = .ok (.istore_n 3, 1) := by decide +kernel
theorem dX1_pours_10 : decode cX1_pours 10 = .ok (.iconst 0, 1) := by decide +kernel
theorem dX1_pours_11 : decode cX1_pours 11 = .ok (.istore 4, 2) := by decide +kernel
theorem dX1_pours_13 : decode cX1_pours 13 = .ok (.iload 4, 2) := by decide +kernel
theorem dX1_pours_15 : decode cX1_pours 15 = .ok (.iload_n 3, 1) := by decide +kernel
theorem dX1_pours_16 : decode cX1_pours 16 = .ok (.if_icmp .ge 23, 3) := by decide +kernel
theorem dX1_pours_19 : decode cX1_pours 19 = .ok (.aload_n 2, 1) := by decide +kernel
theorem dX1_pours_20 : decode cX1_pours 20 = .ok (.iload 4, 2) := by decide +kernel
theorem dX1_pours_22 : decode cX1_pours 22 = .ok (.aaload, 1) := by decide +kernel
theorem dX1_pours_23 : decode cX1_pours 23 = .ok (.astore 5, 2) := by decide +kernel
theorem dX1_pours_25 : decode cX1_pours 25 = .ok (.aload 5, 2) := by decide +kernel
theorem dX1_pours_27 : decode cX1_pours 27 = .ok (.ifnull 6, 3) := by decide +kernel
theorem dX1_pours_30 : decode cX1_pours 30 = .ok (.iinc 1 1, 3) := by decide +kernel
theorem dX1_pours_33 : decode cX1_pours 33 = .ok (.iinc 4 1, 3) := by decide +kernel
theorem dX1_pours_36 : decode cX1_pours 36 = .ok (.goto (-23), 3) := by decide +kernel
theorem dX1_pours_39 : decode cX1_pours 39 = .ok (.iload_n 1, 1) := by decide +kernel
theorem dX1_pours_40 : decode cX1_pours 40 = .ok (.ireturn, 1) := by decide +kernel
set_option maxRecDepth 20000 in
theorem ggX1_endOf_X1_existing : GoodIn wsX1_endOf wsX1_existing := goodIn_ca (goodIn_r _ [5, 6, 7, 8, 9, 10, 4, 11, 25, 26, 27, 28, 29, 30, 31, 32, 33] (by decide +kernel) (by decide +kernel)) (goodIn_sub (fun _ h => List.mem_cons_of_mem _ (List.mem_append_right _ h)) (by decide +kernel))
set_option maxRecDepth 20000 in
theorem gX1_endOf_X1_existing : GoodIn wsX1_endOf (wsV RX1 100 RX1 yX1_existing wsX1_existing) := goodIn_app (goodIn_of _ (by decide +kernel)) ggX1_endOf_X1_existing
theorem dX1_endOf_0 : decode cX1_endOf 0 = .ok (.aload_n 0, 1) := by decide +kernel
theorem dX1_endOf_1 : decode cX1_endOf 1 = .ok (.iload_n 1, 1) := by decide +kernel
theorem dX1_endOf_2 : decode cX1_endOf 2 = .ok (.invokevirtual 100, 3) := by decide +kernel
theorem dX1_endOf_5 : decode cX1_endOf 5 = .ok (.astore_n 2, 1) := by decide +kernel
theorem dX1_endOf_6 : decode cX1_endOf 6 = .ok (.aload_n 2, 1) := by decide +kernel
theorem dX1_endOf_7 : decode cX1_endOf 7 = .ok (.getfield 120, 3) := by decide +kernel
theorem dX1_endOf_10 : decode cX1_endOf 10 = .ok (.ireturn, 1) := by decide +kernel
set_option maxRecDepth 20000 in
theorem ggX1_struck_X1_existing : GoodIn wsX1_struck wsX1_existing := goodIn_ca (goodIn_r _ [5, 6, 7, 8, 9, 10, 4, 11, 25, 26, 27, 28, 29, 30, 31, 32, 33] (by decide +kernel) (by decide +kernel)) (goodIn_sub (fun _ h => List.mem_cons_of_mem _ (List.mem_append_right _ h)) (by decide +kernel))
set_option maxRecDepth 20000 in
theorem gX1_struck_X1_existing : GoodIn wsX1_struck (wsV RX1 100 RX1 yX1_existing wsX1_existing) := goodIn_app (goodIn_of _ (by decide +kernel)) ggX1_struck_X1_existing
theorem dX1_struck_0 : decode cX1_struck 0 = .ok (.aload_n 0, 1) := by decide +kernel
theorem dX1_struck_1 : decode cX1_struck 1 = .ok (.iload_n 1, 1) := by decide +kernel
theorem dX1_struck_2 : decode cX1_struck 2 = .ok (.invokevirtual 100, 3) := by decide +kernel
theorem dX1_struck_5 : decode cX1_struck 5 = .ok (.astore_n 2, 1) := by decide +kernel
theorem dX1_struck_6 : decode cX1_struck 6 = .ok (.aload_n 2, 1) := by decide +kernel
theorem dX1_struck_7 : decode cX1_struck 7 = .ok (.getfield 132, 3) := by decide +kernel
theorem dX1_struck_10 : decode cX1_struck 10 = .ok (.ireturn, 1) := by decide +kernel
set_option maxRecDepth 20000 in
theorem ggX1_freeFrom_X1_existing : GoodIn wsX1_freeFrom wsX1_existing := goodIn_ca (goodIn_r _ [5, 6, 7, 8, 9, 10, 4, 11, 25, 26, 27, 28, 29, 30, 31, 32, 33] (by decide +kernel) (by decide +kernel)) (goodIn_sub (fun _ h => List.mem_cons_of_mem _ (List.mem_append_right _ h)) (by decide +kernel))
set_option maxRecDepth 20000 in
theorem gX1_freeFrom_X1_existing : GoodIn wsX1_freeFrom (wsV RX1 100 RX1 yX1_existing wsX1_existing) := goodIn_app (goodIn_of _ (by decide +kernel)) ggX1_freeFrom_X1_existing
theorem dX1_freeFrom_0 : decode cX1_freeFrom 0 = .ok (.aload_n 0, 1) := by decide +kernel
theorem dX1_freeFrom_1 : decode cX1_freeFrom 1 = .ok (.iload_n 1, 1) := by decide +kernel
theorem dX1_freeFrom_2 : decode cX1_freeFrom 2 = .ok (.invokevirtual 100, 3) := by decide +kernel
theorem dX1_freeFrom_5 : decode cX1_freeFrom 5 = .ok (.astore_n 2, 1) := by decide +kernel
theorem dX1_freeFrom_6 : decode cX1_freeFrom 6 = .ok (.aload_n 2, 1) := by decide +kernel
theorem dX1_freeFrom_7 : decode cX1_freeFrom 7 = .ok (.getfield 135, 3) := by decide +kernel
theorem dX1_freeFrom_10 : decode cX1_freeFrom 10 = .ok (.sipush 1000, 3) := by decide +kernel
theorem dX1_freeFrom_13 : decode cX1_freeFrom 13 = .ok (.if_icmp .ge 10, 3) := by decide +kernel
theorem dX1_freeFrom_16 : decode cX1_freeFrom 16 = .ok (.aload_n 2, 1) := by decide +kernel
theorem dX1_freeFrom_17 : decode cX1_freeFrom 17 = .ok (.getfield 135, 3) := by decide +kernel
theorem dX1_freeFrom_20 : decode cX1_freeFrom 20 = .ok (.goto 4, 3) := by decide +kernel
theorem dX1_freeFrom_23 : decode cX1_freeFrom 23 = .ok (.iconst (-1), 1) := by decide +kernel
theorem dX1_freeFrom_24 : decode cX1_freeFrom 24 = .ok (.ireturn, 1) := by decide +kernel
set_option maxRecDepth 20000 in
theorem ggX1_need_X1_requireHour : GoodIn wsX1_need wsX1_requireHour := goodIn_ca (goodIn_r _ [4, 5, 6, 7, 8, 3, 9] (by decide +kernel) (by decide +kernel)) (goodIn_sub (fun _ h => List.mem_cons_of_mem _ (List.mem_append_right _ h)) (by decide +kernel))
set_option maxRecDepth 20000 in
theorem gX1_need_X1_requireHour : GoodIn wsX1_need (va_wsS RX1 50 yX1_requireHour wsX1_requireHour) := goodIn_app (goodIn_of _ (by decide +kernel)) ggX1_need_X1_requireHour
set_option maxRecDepth 20000 in
theorem ggX1_need_X1_needIn : GoodIn wsX1_need wsX1_needIn := goodIn_r _ [13, 14, 15, 16, 17, 18, 19, 20, 21, 22, 23, 24, 25, 26, 27, 28, 29, 30, 31, 32, 33, 34, 35, 36, 37, 38, 39, 40, 41, 42] (by decide +kernel) (by decide +kernel)
set_option maxRecDepth 20000 in
theorem gX1_need_X1_needIn : GoodIn wsX1_need (wsV RX1 138 RX1 yX1_needIn wsX1_needIn) := goodIn_app (goodIn_of _ (by decide +kernel)) ggX1_need_X1_needIn
theorem dX1_need_0 : decode cX1_need 0 = .ok (.iload_n 1, 1) := by decide +kernel
theorem dX1_need_1 : decode cX1_need 1 = .ok (.invokestatic 50, 3) := by decide +kernel
theorem dX1_need_4 : decode cX1_need 4 = .ok (.aload_n 0, 1) := by decide +kernel
theorem dX1_need_5 : decode cX1_need 5 = .ok (.iload_n 1, 1) := by decide +kernel
theorem dX1_need_6 : decode cX1_need 6 = .ok (.invokevirtual 138, 3) := by decide +kernel
theorem dX1_need_9 : decode cX1_need 9 = .ok (.ireturn, 1) := by decide +kernel
set_option maxRecDepth 20000 in
theorem ggX1_peak_X1_sumNeeds : GoodIn wsX1_peak wsX1_sumNeeds := goodIn_r _ [10, 1, 11, 12, 13, 9, 14, 15, 16, 17, 18, 19, 20, 21, 22, 23, 24, 25, 26, 27, 28, 29, 30, 31, 32, 33, 34, 35, 36, 37, 38, 39, 40, 41, 42, 43] (by decide +kernel) (by decide +kernel)
set_option maxRecDepth 20000 in
theorem gX1_peak_X1_sumNeeds : GoodIn wsX1_peak (wsV RX1 141 RX1 yX1_sumNeeds wsX1_sumNeeds) := goodIn_app (goodIn_of _ (by decide +kernel)) ggX1_peak_X1_sumNeeds
theorem dX1_peak_0 : decode cX1_peak 0 = .ok (.aload_n 0, 1) := by decide +kernel
theorem dX1_peak_1 : decode cX1_peak 1 = .ok (.invokevirtual 141, 3) := by decide +kernel
theorem dX1_peak_4 : decode cX1_peak 4 = .ok (.iconst 0, 1) := by decide +kernel
theorem dX1_peak_5 : decode cX1_peak 5 = .ok (.istore_n 1, 1) := by decide +kernel
theorem dX1_peak_6 : decode cX1_peak 6 = .ok (.aload_n 0, 1) := by decide +kernel
theorem dX1_peak_7 : decode cX1_peak 7 = .ok (.getfield 16, 3) := by decide +kernel
theorem dX1_peak_10 : decode cX1_peak 10 = .ok (.astore_n 2, 1) := by decide +kernel
theorem dX1_peak_11 : decode cX1_peak 11 = .ok (.aload_n 2, 1) := by decide +kernel
theorem dX1_peak_12 : decode cX1_peak 12 = .ok (.arraylength, 1) := by decide +kernel
theorem dX1_peak_13 : decode cX1_peak 13 = .ok (.istore_n 3, 1) := by decide +kernel
theorem dX1_peak_14 : decode cX1_peak 14 = .ok (.iconst 0, 1) := by decide +kernel
theorem dX1_peak_15 : decode cX1_peak 15 = .ok (.istore 4, 2) := by decide +kernel
theorem dX1_peak_17 : decode cX1_peak 17 = .ok (.iload 4, 2) := by decide +kernel
theorem dX1_peak_19 : decode cX1_peak 19 = .ok (.iload_n 3, 1) := by decide +kernel
theorem dX1_peak_20 : decode cX1_peak 20 = .ok (.if_icmp .ge 22, 3) := by decide +kernel
theorem dX1_peak_23 : decode cX1_peak 23 = .ok (.aload_n 2, 1) := by decide +kernel
theorem dX1_peak_24 : decode cX1_peak 24 = .ok (.iload 4, 2) := by decide +kernel
theorem dX1_peak_26 : decode cX1_peak 26 = .ok (.iaload, 1) := by decide +kernel
theorem dX1_peak_27 : decode cX1_peak 27 = .ok (.istore 5, 2) := by decide +kernel
theorem dX1_peak_29 : decode cX1_peak 29 = .ok (.iload_n 1, 1) := by decide +kernel
theorem dX1_peak_30 : decode cX1_peak 30 = .ok (.iload 5, 2) := by decide +kernel
theorem dX1_peak_32 : decode cX1_peak 32 = .ok (.invokestatic 144, 3) := by decide +kernel
theorem dX1_peak_35 : decode cX1_peak 35 = .ok (.istore_n 1, 1) := by decide +kernel
theorem dX1_peak_36 : decode cX1_peak 36 = .ok (.iinc 4 1, 3) := by decide +kernel
theorem dX1_peak_39 : decode cX1_peak 39 = .ok (.goto (-22), 3) := by decide +kernel
theorem dX1_peak_42 : decode cX1_peak 42 = .ok (.iload_n 1, 1) := by decide +kernel
theorem dX1_peak_43 : decode cX1_peak 43 = .ok (.ireturn, 1) := by decide +kernel
set_option maxRecDepth 20000 in
theorem ggX1_peakByOverlaps_X1_needIn : GoodIn wsX1_peakByOverlaps wsX1_needIn := goodIn_r _ [10, 1, 11, 12, 13, 14, 15, 16, 17, 18, 19, 20, 21, 22, 23, 24, 25, 26, 27, 28, 29, 30, 31, 32, 33, 34, 35, 36, 37, 38] (by decide +kernel) (by decide +kernel)
set_option maxRecDepth 20000 in
theorem gX1_peakByOverlaps_X1_needIn : GoodIn wsX1_peakByOverlaps (wsV RX1 138 RX1 yX1_needIn wsX1_needIn) := goodIn_app (goodIn_of _ (by decide +kernel)) ggX1_peakByOverlaps_X1_needIn
theorem dX1_peakByOverlaps_0 : decode cX1_peakByOverlaps 0 = .ok (.iconst 0, 1) := by decide +kernel
theorem dX1_peakByOverlaps_1 : decode cX1_peakByOverlaps 1 = .ok (.istore_n 1, 1) := by decide +kernel
theorem dX1_peakByOverlaps_2 : decode cX1_peakByOverlaps 2 = .ok (.aload_n 0, 1) := by decide +kernel
theorem dX1_peakByOverlaps_3 : decode cX1_peakByOverlaps 3 = .ok (.getfield 24, 3) := by decide +kernel
theorem dX1_peakByOverlaps_6 : decode cX1_peakByOverlaps 6 = .ok (.astore_n 2, 1) := by decide +kernel
theorem dX1_peakByOverlaps_7 : decode cX1_peakByOverlaps 7 = .ok (.aload_n 2, 1) := by decide +kernel
theorem dX1_peakByOverlaps_8 : decode cX1_peakByOverlaps 8 = .ok (.arraylength, 1) := by decide +kernel
theorem dX1_peakByOverlaps_9 : decode cX1_peakByOverlaps 9 = .ok (.istore_n 3, 1) := by decide +kernel
theorem dX1_peakByOverlaps_10 : decode cX1_peakByOverlaps 10 = .ok (.iconst 0, 1) := by decide +kernel
theorem dX1_peakByOverlaps_11 : decode cX1_peakByOverlaps 11 = .ok (.istore 4, 2) := by decide +kernel
theorem dX1_peakByOverlaps_13 : decode cX1_peakByOverlaps 13 = .ok (.iload 4, 2) := by decide +kernel
theorem dX1_peakByOverlaps_15 : decode cX1_peakByOverlaps 15 = .ok (.iload_n 3, 1) := by decide +kernel
theorem dX1_peakByOverlaps_16 : decode cX1_peakByOverlaps 16 = .ok (.if_icmp .ge 34, 3) := by decide +kernel
theorem dX1_peakByOverlaps_19 : decode cX1_peakByOverlaps 19 = .ok (.aload_n 2, 1) := by decide +kernel
theorem dX1_peakByOverlaps_20 : decode cX1_peakByOverlaps 20 = .ok (.iload 4, 2) := by decide +kernel
theorem dX1_peakByOverlaps_22 : decode cX1_peakByOverlaps 22 = .ok (.aaload, 1) := by decide +kernel
theorem dX1_peakByOverlaps_23 : decode cX1_peakByOverlaps 23 = .ok (.astore 5, 2) := by decide +kernel
theorem dX1_peakByOverlaps_25 : decode cX1_peakByOverlaps 25 = .ok (.aload 5, 2) := by decide +kernel
theorem dX1_peakByOverlaps_27 : decode cX1_peakByOverlaps 27 = .ok (.ifnull 17, 3) := by decide +kernel
theorem dX1_peakByOverlaps_30 : decode cX1_peakByOverlaps 30 = .ok (.iload_n 1, 1) := by decide +kernel
theorem dX1_peakByOverlaps_31 : decode cX1_peakByOverlaps 31 = .ok (.aload_n 0, 1) := by decide +kernel
theorem dX1_peakByOverlaps_32 : decode cX1_peakByOverlaps 32 = .ok (.aload 5, 2) := by decide +kernel
theorem dX1_peakByOverlaps_34 : decode cX1_peakByOverlaps 34 = .ok (.getfield 147, 3) := by decide +kernel
theorem dX1_peakByOverlaps_37 : decode cX1_peakByOverlaps 37 = .ok (.invokevirtual 138, 3) := by decide +kernel
theorem dX1_peakByOverlaps_40 : decode cX1_peakByOverlaps 40 = .ok (.invokestatic 144, 3) := by decide +kernel
theorem dX1_peakByOverlaps_43 : decode cX1_peakByOverlaps 43 = .ok (.istore_n 1, 1) := by decide +kernel
theorem dX1_peakByOverlaps_44 : decode cX1_peakByOverlaps 44 = .ok (.iinc 4 1, 3) := by decide +kernel
theorem dX1_peakByOverlaps_47 : decode cX1_peakByOverlaps 47 = .ok (.goto (-34), 3) := by decide +kernel
theorem dX1_peakByOverlaps_50 : decode cX1_peakByOverlaps 50 = .ok (.iload_n 1, 1) := by decide +kernel
theorem dX1_peakByOverlaps_51 : decode cX1_peakByOverlaps 51 = .ok (.ireturn, 1) := by decide +kernel
set_option maxRecDepth 20000 in
theorem ggX1_firstShort_X1_sumNeeds : GoodIn wsX1_firstShort wsX1_sumNeeds := goodIn_r _ [7, 1, 8, 9, 10, 6, 11, 12, 13, 14, 15, 16, 17, 18, 19, 20, 21, 22, 23, 24, 25, 26, 27, 28, 29, 30, 31, 32, 33, 34, 35, 36, 37, 38, 39, 40] (by decide +kernel) (by decide +kernel)
set_option maxRecDepth 20000 in
theorem gX1_firstShort_X1_sumNeeds : GoodIn wsX1_firstShort (wsV RX1 141 RX1 yX1_sumNeeds wsX1_sumNeeds) := goodIn_app (goodIn_of _ (by decide +kernel)) ggX1_firstShort_X1_sumNeeds
theorem dX1_firstShort_0 : decode cX1_firstShort 0 = .ok (.aload_n 0, 1) := by decide +kernel
theorem dX1_firstShort_1 : decode cX1_firstShort 1 = .ok (.invokevirtual 141, 3) := by decide +kernel
theorem dX1_firstShort_4 : decode cX1_firstShort 4 = .ok (.iconst 0, 1) := by decide +kernel
theorem dX1_firstShort_5 : decode cX1_firstShort 5 = .ok (.istore_n 1, 1) := by decide +kernel
theorem dX1_firstShort_6 : decode cX1_firstShort 6 = .ok (.iload_n 1, 1) := by decide +kernel
theorem dX1_firstShort_7 : decode cX1_firstShort 7 = .ok (.sipush 1000, 3) := by decide +kernel
theorem dX1_firstShort_10 : decode cX1_firstShort 10 = .ok (.if_icmp .ge 24, 3) := by decide +kernel
theorem dX1_firstShort_13 : decode cX1_firstShort 13 = .ok (.aload_n 0, 1) := by decide +kernel
theorem dX1_firstShort_14 : decode cX1_firstShort 14 = .ok (.getfield 16, 3) := by decide +kernel
theorem dX1_firstShort_17 : decode cX1_firstShort 17 = .ok (.iload_n 1, 1) := by decide +kernel
theorem dX1_firstShort_18 : decode cX1_firstShort 18 = .ok (.iaload, 1) := by decide +kernel
theorem dX1_firstShort_19 : decode cX1_firstShort 19 = .ok (.aload_n 0, 1) := by decide +kernel
theorem dX1_firstShort_20 : decode cX1_firstShort 20 = .ok (.getfield 28, 3) := by decide +kernel
theorem dX1_firstShort_23 : decode cX1_firstShort 23 = .ok (.if_icmp .le 5, 3) := by decide +kernel
theorem dX1_firstShort_26 : decode cX1_firstShort 26 = .ok (.iload_n 1, 1) := by decide +kernel
theorem dX1_firstShort_27 : decode cX1_firstShort 27 = .ok (.ireturn, 1) := by decide +kernel
theorem dX1_firstShort_28 : decode cX1_firstShort 28 = .ok (.iinc 1 1, 3) := by decide +kernel
theorem dX1_firstShort_31 : decode cX1_firstShort 31 = .ok (.goto (-25), 3) := by decide +kernel
theorem dX1_firstShort_34 : decode cX1_firstShort 34 = .ok (.iconst (-1), 1) := by decide +kernel
theorem dX1_firstShort_35 : decode cX1_firstShort 35 = .ok (.ireturn, 1) := by decide +kernel
set_option maxRecDepth 20000 in
theorem ggX1_panelsOf_X1_existing : GoodIn wsX1_panelsOf wsX1_existing := goodIn_ca (goodIn_r _ [5, 6, 7, 8, 9, 10, 4, 11, 55, 56, 57, 58, 59, 60, 61, 62, 63] (by decide +kernel) (by decide +kernel)) (goodIn_sub (fun _ h => List.mem_cons_of_mem _ (List.mem_append_right _ h)) (by decide +kernel))
set_option maxRecDepth 20000 in
theorem gX1_panelsOf_X1_existing : GoodIn wsX1_panelsOf (wsV RX1 100 RX1 yX1_existing wsX1_existing) := goodIn_app (goodIn_of _ (by decide +kernel)) ggX1_panelsOf_X1_existing
set_option maxRecDepth 20000 in
theorem ggX1_panelsOf_X1_giveOutPanels : GoodIn wsX1_panelsOf wsX1_giveOutPanels := goodIn_r _ [15, 8, 16, 17, 18, 4, 19, 20, 21, 22, 23, 24, 25, 26, 27, 28, 29, 30, 31, 32, 33, 34, 55, 56, 57, 58, 59, 60, 61, 62, 63, 42, 43, 44, 45, 46, 47, 48, 49, 50, 51, 52, 53, 54] (by decide +kernel) (by decide +kernel)
set_option maxRecDepth 20000 in
theorem gX1_panelsOf_X1_giveOutPanels : GoodIn wsX1_panelsOf (wsV RX1 168 RX1 yX1_giveOutPanels wsX1_giveOutPanels) := goodIn_app (goodIn_of _ (by decide +kernel)) ggX1_panelsOf_X1_giveOutPanels
set_option maxRecDepth 20000 in
theorem ggX1_panelsOf_J13_bitCount_95d88 : GoodIn wsX1_panelsOf wsJ13_bitCount_95d88 := goodIn_r _ [38, 39, 40, 41] (by decide +kernel) (by decide +kernel)
set_option maxRecDepth 20000 in
theorem gX1_panelsOf_J13_bitCount_95d88 : GoodIn wsX1_panelsOf (va_wsS RX1 175 yJ13_bitCount_95d88 wsJ13_bitCount_95d88) := goodIn_app (goodIn_of _ (by decide +kernel)) ggX1_panelsOf_J13_bitCount_95d88
theorem dX1_panelsOf_0 : decode cX1_panelsOf 0 = .ok (.aload_n 0, 1) := by decide +kernel
theorem dX1_panelsOf_1 : decode cX1_panelsOf 1 = .ok (.iload_n 1, 1) := by decide +kernel
theorem dX1_panelsOf_2 : decode cX1_panelsOf 2 = .ok (.invokevirtual 100, 3) := by decide +kernel
theorem dX1_panelsOf_5 : decode cX1_panelsOf 5 = .ok (.astore_n 2, 1) := by decide +kernel
theorem dX1_panelsOf_6 : decode cX1_panelsOf 6 = .ok (.aload_n 0, 1) := by decide +kernel
theorem dX1_panelsOf_7 : decode cX1_panelsOf 7 = .ok (.invokevirtual 168, 3) := by decide +kernel
theorem dX1_panelsOf_10 : decode cX1_panelsOf 10 = .ok (.aload_n 2, 1) := by decide +kernel
theorem dX1_panelsOf_11 : decode cX1_panelsOf 11 = .ok (.getfield 171, 3) := by decide +kernel
theorem dX1_panelsOf_14 : decode cX1_panelsOf 14 = .ok (.invokestatic 175, 3) := by decide +kernel
theorem dX1_panelsOf_17 : decode cX1_panelsOf 17 = .ok (.ireturn, 1) := by decide +kernel
set_option maxRecDepth 20000 in
theorem ggX1_pourOf_X1_requireHour : GoodIn wsX1_pourOf wsX1_requireHour := goodIn_ca (goodIn_r _ [8, 1, 2, 9, 10, 7, 11] (by decide +kernel) (by decide +kernel)) (goodIn_sub (fun _ h => List.mem_cons_of_mem _ (List.mem_append_right _ h)) (by decide +kernel))
set_option maxRecDepth 20000 in
theorem gX1_pourOf_X1_requireHour : GoodIn wsX1_pourOf (va_wsS RX1 50 yX1_requireHour wsX1_requireHour) := goodIn_app (goodIn_of _ (by decide +kernel)) ggX1_pourOf_X1_requireHour
set_option maxRecDepth 20000 in
theorem ggX1_pourOf_X1_giveOutPanels : GoodIn wsX1_pourOf wsX1_giveOutPanels := goodIn_r _ [15, 4, 16, 17, 18, 7, 19, 20, 21, 22, 23, 24, 25, 26, 27, 28, 29, 30, 31, 32, 33, 3, 34, 35, 36, 37, 38, 39, 40, 41, 42, 43, 44, 45, 46, 47, 48, 49, 50, 51, 52, 53, 54, 55] (by decide +kernel) (by decide +kernel)
set_option maxRecDepth 20000 in
theorem gX1_pourOf_X1_giveOutPanels : GoodIn wsX1_pourOf (wsV RX1 168 RX1 yX1_giveOutPanels wsX1_giveOutPanels) := goodIn_app (goodIn_of _ (by decide +kernel)) ggX1_pourOf_X1_giveOutPanels
set_option maxRecDepth 20000 in
theorem ggX1_pourOf_X0_isBusy : GoodIn wsX1_pourOf wsX0_isBusy := goodIn_r _ [27, 28, 29, 43, 44, 45, 46, 47, 48, 49, 50, 51, 52, 53, 54, 55] (by decide +kernel) (by decide +kernel)
set_option maxRecDepth 20000 in
theorem gX1_pourOf_X0_isBusy_n184 : GoodIn wsX1_pourOf (wsX0_isBusy) := ggX1_pourOf_X0_isBusy
theorem dX1_pourOf_0 : decode cX1_pourOf 0 = .ok (.iload_n 1, 1) := by decide +kernel
theorem dX1_pourOf_1 : decode cX1_pourOf 1 = .ok (.ifCond .lt 11, 3) := by decide +kernel
theorem dX1_pourOf_4 : decode cX1_pourOf 4 = .ok (.iload_n 1, 1) := by decide +kernel
theorem dX1_pourOf_5 : decode cX1_pourOf 5 = .ok (.aload_n 0, 1) := by decide +kernel
theorem dX1_pourOf_6 : decode cX1_pourOf 6 = .ok (.getfield 28, 3) := by decide +kernel
theorem dX1_pourOf_9 : decode cX1_pourOf 9 = .ok (.if_icmp .lt 11, 3) := by decide +kernel
theorem dX1_pourOf_12 : decode cX1_pourOf 12 = .ok (.new 181, 3) := by decide +kernel
theorem dX1_pourOf_15 : decode cX1_pourOf 15 = .ok (.dup, 1) := by decide +kernel
theorem dX1_pourOf_16 : decode cX1_pourOf 16 = .ok (.invokespecial 183, 3) := by decide +kernel
theorem dX1_pourOf_19 : decode cX1_pourOf 19 = .ok (.athrow, 1) := by decide +kernel
theorem dX1_pourOf_20 : decode cX1_pourOf 20 = .ok (.iload_n 2, 1) := by decide +kernel
theorem dX1_pourOf_21 : decode cX1_pourOf 21 = .ok (.invokestatic 50, 3) := by decide +kernel
theorem dX1_pourOf_24 : decode cX1_pourOf 24 = .ok (.aload_n 0, 1) := by decide +kernel
theorem dX1_pourOf_25 : decode cX1_pourOf 25 = .ok (.invokevirtual 168, 3) := by decide +kernel
theorem dX1_pourOf_28 : decode cX1_pourOf 28 = .ok (.lconst 1, 1) := by decide +kernel
theorem dX1_pourOf_29 : decode cX1_pourOf 29 = .ok (.iload_n 1, 1) := by decide +kernel
theorem dX1_pourOf_30 : decode cX1_pourOf 30 = .ok (.lshl, 1) := by decide +kernel
theorem dX1_pourOf_31 : decode cX1_pourOf 31 = .ok (.lstore_n 3, 1) := by decide +kernel
theorem dX1_pourOf_32 : decode cX1_pourOf 32 = .ok (.iconst 0, 1) := by decide +kernel
theorem dX1_pourOf_33 : decode cX1_pourOf 33 = .ok (.istore 5, 2) := by decide +kernel
theorem dX1_pourOf_35 : decode cX1_pourOf 35 = .ok (.iload 5, 2) := by decide +kernel
theorem dX1_pourOf_37 : decode cX1_pourOf 37 = .ok (.bipush 10, 2) := by decide +kernel
theorem dX1_pourOf_39 : decode cX1_pourOf 39 = .ok (.if_icmp .ge 47, 3) := by decide +kernel
theorem dX1_pourOf_42 : decode cX1_pourOf 42 = .ok (.aload_n 0, 1) := by decide +kernel
theorem dX1_pourOf_43 : decode cX1_pourOf 43 = .ok (.getfield 24, 3) := by decide +kernel
theorem dX1_pourOf_46 : decode cX1_pourOf 46 = .ok (.iload 5, 2) := by decide +kernel
theorem dX1_pourOf_48 : decode cX1_pourOf 48 = .ok (.aaload, 1) := by decide +kernel
theorem dX1_pourOf_49 : decode cX1_pourOf 49 = .ok (.astore 6, 2) := by decide +kernel
theorem dX1_pourOf_51 : decode cX1_pourOf 51 = .ok (.aload 6, 2) := by decide +kernel
theorem dX1_pourOf_53 : decode cX1_pourOf 53 = .ok (.ifnull 27, 3) := by decide +kernel
theorem dX1_pourOf_56 : decode cX1_pourOf 56 = .ok (.aload 6, 2) := by decide +kernel
theorem dX1_pourOf_58 : decode cX1_pourOf 58 = .ok (.getfield 171, 3) := by decide +kernel
theorem dX1_pourOf_61 : decode cX1_pourOf 61 = .ok (.lload_n 3, 1) := by decide +kernel
theorem dX1_pourOf_62 : decode cX1_pourOf 62 = .ok (.land, 1) := by decide +kernel
theorem dX1_pourOf_63 : decode cX1_pourOf 63 = .ok (.lconst 0, 1) := by decide +kernel
theorem dX1_pourOf_64 : decode cX1_pourOf 64 = .ok (.lcmp, 1) := by decide +kernel
theorem dX1_pourOf_65 : decode cX1_pourOf 65 = .ok (.ifCond .eq 15, 3) := by decide +kernel
theorem dX1_pourOf_68 : decode cX1_pourOf 68 = .ok (.aload 6, 2) := by decide +kernel
theorem dX1_pourOf_70 : decode cX1_pourOf 70 = .ok (.iload_n 2, 1) := by decide +kernel
theorem dX1_pourOf_71 : decode cX1_pourOf 71 = .ok (.invokevirtual 184, 3) := by decide +kernel
theorem dX1_pourOf_74 : decode cX1_pourOf 74 = .ok (.ifCond .eq 6, 3) := by decide +kernel
theorem dX1_pourOf_77 : decode cX1_pourOf 77 = .ok (.iload 5, 2) := by decide +kernel
theorem dX1_pourOf_79 : decode cX1_pourOf 79 = .ok (.ireturn, 1) := by decide +kernel
theorem dX1_pourOf_80 : decode cX1_pourOf 80 = .ok (.iinc 5 1, 3) := by decide +kernel
theorem dX1_pourOf_83 : decode cX1_pourOf 83 = .ok (.goto (-48), 3) := by decide +kernel
theorem dX1_pourOf_86 : decode cX1_pourOf 86 = .ok (.iconst (-1), 1) := by decide +kernel
theorem dX1_pourOf_87 : decode cX1_pourOf 87 = .ok (.ireturn, 1) := by decide +kernel
theorem dX1_isHour_0 : decode cX1_isHour 0 = .ok (.iload_n 0, 1) := by decide +kernel
theorem dX1_isHour_1 : decode cX1_isHour 1 = .ok (.ifCond .lt 14, 3) := by decide +kernel
theorem dX1_isHour_4 : decode cX1_isHour 4 = .ok (.iload_n 0, 1) := by decide +kernel
theorem dX1_isHour_5 : decode cX1_isHour 5 = .ok (.sipush 1000, 3) := by decide +kernel
theorem dX1_isHour_8 : decode cX1_isHour 8 = .ok (.if_icmp .ge 7, 3) := by decide +kernel
theorem dX1_isHour_11 : decode cX1_isHour 11 = .ok (.iconst 1, 1) := by decide +kernel
theorem dX1_isHour_12 : decode cX1_isHour 12 = .ok (.goto 4, 3) := by decide +kernel
theorem dX1_isHour_15 : decode cX1_isHour 15 = .ok (.iconst 0, 1) := by decide +kernel
theorem dX1_isHour_16 : decode cX1_isHour 16 = .ok (.ireturn, 1) := by decide +kernel
theorem dX1_isNumber_0 : decode cX1_isNumber 0 = .ok (.iload_n 0, 1) := by decide +kernel
theorem dX1_isNumber_1 : decode cX1_isNumber 1 = .ok (.ifCond .lt 13, 3) := by decide +kernel
theorem dX1_isNumber_4 : decode cX1_isNumber 4 = .ok (.iload_n 0, 1) := by decide +kernel
theorem dX1_isNumber_5 : decode cX1_isNumber 5 = .ok (.bipush 10, 2) := by decide +kernel
theorem dX1_isNumber_7 : decode cX1_isNumber 7 = .ok (.if_icmp .ge 7, 3) := by decide +kernel
theorem dX1_isNumber_10 : decode cX1_isNumber 10 = .ok (.iconst 1, 1) := by decide +kernel
theorem dX1_isNumber_11 : decode cX1_isNumber 11 = .ok (.goto 4, 3) := by decide +kernel
theorem dX1_isNumber_14 : decode cX1_isNumber 14 = .ok (.iconst 0, 1) := by decide +kernel
theorem dX1_isNumber_15 : decode cX1_isNumber 15 = .ok (.ireturn, 1) := by decide +kernel
set_option maxRecDepth 20000 in
theorem ggX1_requireHour_X1_isHour : GoodIn wsX1_requireHour wsX1_isHour := goodIn_r _ [6] (by decide +kernel) (by decide +kernel)
set_option maxRecDepth 20000 in
theorem gX1_requireHour_X1_isHour : GoodIn wsX1_requireHour (va_wsS RX1 165 yX1_isHour wsX1_isHour) := goodIn_app (goodIn_of _ (by decide +kernel)) ggX1_requireHour_X1_isHour
theorem dX1_requireHour_0 : decode cX1_requireHour 0 = .ok (.iload_n 0, 1) := by decide +kernel
theorem dX1_requireHour_1 : decode cX1_requireHour 1 = .ok (.invokestatic 165, 3) := by decide +kernel
theorem dX1_requireHour_4 : decode cX1_requireHour 4 = .ok (.ifCond .ne 11, 3) := by decide +kernel
theorem dX1_requireHour_7 : decode cX1_requireHour 7 = .ok (.new 181, 3) := by decide +kernel
theorem dX1_requireHour_10 : decode cX1_requireHour 10 = .ok (.dup, 1) := by decide +kernel
theorem dX1_requireHour_11 : decode cX1_requireHour 11 = .ok (.invokespecial 183, 3) := by decide +kernel
theorem dX1_requireHour_14 : decode cX1_requireHour 14 = .ok (.athrow, 1) := by decide +kernel
theorem dX1_requireHour_15 : decode cX1_requireHour 15 = .ok (.return_, 1) := by decide +kernel
theorem dX1_require_0 : decode cX1_require 0 = .ok (.iload_n 0, 1) := by decide +kernel
theorem dX1_require_1 : decode cX1_require 1 = .ok (.ifCond .ne 11, 3) := by decide +kernel
theorem dX1_require_4 : decode cX1_require 4 = .ok (.new 187, 3) := by decide +kernel
theorem dX1_require_7 : decode cX1_require 7 = .ok (.dup, 1) := by decide +kernel
theorem dX1_require_8 : decode cX1_require 8 = .ok (.invokespecial 189, 3) := by decide +kernel
theorem dX1_require_11 : decode cX1_require 11 = .ok (.athrow, 1) := by decide +kernel
theorem dX1_require_12 : decode cX1_require 12 = .ok (.return_, 1) := by decide +kernel
set_option maxRecDepth 20000 in
theorem ggX1_requireRange_X1_require : GoodIn wsX1_requireRange wsX1_require := goodIn_ca (goodIn_r _ [4, 5, 6] (by decide +kernel) (by decide +kernel)) (goodIn_sub (fun _ h => List.mem_cons_of_mem _ (List.mem_append_right _ h)) (by decide +kernel))
set_option maxRecDepth 20000 in
theorem gX1_requireRange_X1_require : GoodIn wsX1_requireRange (va_wsS RX1 54 yX1_require wsX1_require) := goodIn_app (goodIn_of _ (by decide +kernel)) ggX1_requireRange_X1_require
theorem dX1_requireRange_0 : decode cX1_requireRange 0 = .ok (.iload_n 0, 1) := by decide +kernel
theorem dX1_requireRange_1 : decode cX1_requireRange 1 = .ok (.iload_n 1, 1) := by decide +kernel
theorem dX1_requireRange_2 : decode cX1_requireRange 2 = .ok (.if_icmp .lt 12, 3) := by decide +kernel
theorem dX1_requireRange_5 : decode cX1_requireRange 5 = .ok (.iload_n 0, 1) := by decide +kernel
theorem dX1_requireRange_6 : decode cX1_requireRange 6 = .ok (.iload_n 2, 1) := by decide +kernel
theorem dX1_requireRange_7 : decode cX1_requireRange 7 = .ok (.if_icmp .gt 7, 3) := by decide +kernel
theorem dX1_requireRange_10 : decode cX1_requireRange 10 = .ok (.iconst 1, 1) := by decide +kernel
theorem dX1_requireRange_11 : decode cX1_requireRange 11 = .ok (.goto 4, 3) := by decide +kernel
theorem dX1_requireRange_14 : decode cX1_requireRange 14 = .ok (.iconst 0, 1) := by decide +kernel
theorem dX1_requireRange_15 : decode cX1_requireRange 15 = .ok (.invokestatic 54, 3) := by decide +kernel
theorem dX1_requireRange_18 : decode cX1_requireRange 18 = .ok (.return_, 1) := by decide +kernel
set_option maxRecDepth 20000 in
theorem ggX1_requirePour_X1_requireRange : GoodIn wsX1_requirePour wsX1_requireRange := goodIn_ca (goodIn_r _ [4, 5, 6, 3, 7, 8, 9] (by decide +kernel) (by decide +kernel)) (goodIn_sub (fun _ h => List.mem_cons_of_mem _ (List.mem_append_right _ h)) (by decide +kernel))
set_option maxRecDepth 20000 in
theorem gX1_requirePour_X1_requireRange : GoodIn wsX1_requirePour (va_wsS RX1 58 yX1_requireRange wsX1_requireRange) := goodIn_app (goodIn_of _ (by decide +kernel)) ggX1_requirePour_X1_requireRange
theorem dX1_requirePour_0 : decode cX1_requirePour 0 = .ok (.iload_n 0, 1) := by decide +kernel
theorem dX1_requirePour_1 : decode cX1_requirePour 1 = .ok (.iconst 0, 1) := by decide +kernel
theorem dX1_requirePour_2 : decode cX1_requirePour 2 = .ok (.sipush 900, 3) := by decide +kernel
theorem dX1_requirePour_5 : decode cX1_requirePour 5 = .ok (.invokestatic 58, 3) := by decide +kernel
theorem dX1_requirePour_8 : decode cX1_requirePour 8 = .ok (.iload_n 1, 1) := by decide +kernel
theorem dX1_requirePour_9 : decode cX1_requirePour 9 = .ok (.iconst 1, 1) := by decide +kernel
