theorem dX1_requirePour_10 : decode cX1_requirePour 10 = .ok (.sipush 200, 3) := by decide +kernel
theorem dX1_requirePour_13 : decode cX1_requirePour 13 = .ok (.invokestatic 58, 3) := by decide +kernel
theorem dX1_requirePour_16 : decode cX1_requirePour 16 = .ok (.iload_n 2, 1) := by decide +kernel
theorem dX1_requirePour_17 : decode cX1_requirePour 17 = .ok (.iconst 1, 1) := by decide +kernel
theorem dX1_requirePour_18 : decode cX1_requirePour 18 = .ok (.bipush 30, 2) := by decide +kernel
theorem dX1_requirePour_20 : decode cX1_requirePour 20 = .ok (.invokestatic 58, 3) := by decide +kernel
theorem dX1_requirePour_23 : decode cX1_requirePour 23 = .ok (.iload_n 3, 1) := by decide +kernel
theorem dX1_requirePour_24 : decode cX1_requirePour 24 = .ok (.iconst 1, 1) := by decide +kernel
theorem dX1_requirePour_25 : decode cX1_requirePour 25 = .ok (.bipush 100, 2) := by decide +kernel
theorem dX1_requirePour_27 : decode cX1_requirePour 27 = .ok (.invokestatic 58, 3) := by decide +kernel
theorem dX1_requirePour_30 : decode cX1_requirePour 30 = .ok (.return_, 1) := by decide +kernel
set_option maxRecDepth 20000 in
theorem ggX1_existing_X1_isNumber : GoodIn wsX1_existing wsX1_isNumber := goodIn_r _ [7] (by decide +kernel) (by decide +kernel)
set_option maxRecDepth 20000 in
theorem gX1_existing_X1_isNumber : GoodIn wsX1_existing (va_wsS RX1 87 yX1_isNumber wsX1_isNumber) := goodIn_app (goodIn_of _ (by decide +kernel)) ggX1_existing_X1_isNumber
theorem dX1_existing_0 : decode cX1_existing 0 = .ok (.iload_n 1, 1) := by decide +kernel
theorem dX1_existing_1 : decode cX1_existing 1 = .ok (.invokestatic 87, 3) := by decide +kernel
theorem dX1_existing_4 : decode cX1_existing 4 = .ok (.ifCond .eq 12, 3) := by decide +kernel
theorem dX1_existing_7 : decode cX1_existing 7 = .ok (.aload_n 0, 1) := by decide +kernel
theorem dX1_existing_8 : decode cX1_existing 8 = .ok (.getfield 24, 3) := by decide +kernel
theorem dX1_existing_11 : decode cX1_existing 11 = .ok (.iload_n 1, 1) := by decide +kernel
theorem dX1_existing_12 : decode cX1_existing 12 = .ok (.aaload, 1) := by decide +kernel
theorem dX1_existing_13 : decode cX1_existing 13 = .ok (.goto 4, 3) := by decide +kernel
theorem dX1_existing_16 : decode cX1_existing 16 = .ok (.aconst_null, 1) := by decide +kernel
theorem dX1_existing_17 : decode cX1_existing 17 = .ok (.astore_n 2, 1) := by decide +kernel
theorem dX1_existing_18 : decode cX1_existing 18 = .ok (.aload_n 2, 1) := by decide +kernel
theorem dX1_existing_19 : decode cX1_existing 19 = .ok (.ifnonnull 11, 3) := by decide +kernel
theorem dX1_existing_22 : decode cX1_existing 22 = .ok (.new 190, 3) := by decide +kernel
theorem dX1_existing_25 : decode cX1_existing 25 = .ok (.dup, 1) := by decide +kernel
theorem dX1_existing_26 : decode cX1_existing 26 = .ok (.invokespecial 192, 3) := by decide +kernel
theorem dX1_existing_29 : decode cX1_existing 29 = .ok (.athrow, 1) := by decide +kernel
theorem dX1_existing_30 : decode cX1_existing 30 = .ok (.aload_n 2, 1) := by decide +kernel
theorem dX1_existing_31 : decode cX1_existing 31 = .ok (.areturn, 1) := by decide +kernel
theorem dX1_freeNumber_0 : decode cX1_freeNumber 0 = .ok (.iconst 0, 1) := by decide +kernel
theorem dX1_freeNumber_1 : decode cX1_freeNumber 1 = .ok (.istore_n 1, 1) := by decide +kernel
theorem dX1_freeNumber_2 : decode cX1_freeNumber 2 = .ok (.iload_n 1, 1) := by decide +kernel
theorem dX1_freeNumber_3 : decode cX1_freeNumber 3 = .ok (.bipush 10, 2) := by decide +kernel
theorem dX1_freeNumber_5 : decode cX1_freeNumber 5 = .ok (.if_icmp .ge 20, 3) := by decide +kernel
theorem dX1_freeNumber_8 : decode cX1_freeNumber 8 = .ok (.aload_n 0, 1) := by decide +kernel
theorem dX1_freeNumber_9 : decode cX1_freeNumber 9 = .ok (.getfield 24, 3) := by decide +kernel
theorem dX1_freeNumber_12 : decode cX1_freeNumber 12 = .ok (.iload_n 1, 1) := by decide +kernel
theorem dX1_freeNumber_13 : decode cX1_freeNumber 13 = .ok (.aaload, 1) := by decide +kernel
theorem dX1_freeNumber_14 : decode cX1_freeNumber 14 = .ok (.ifnonnull 5, 3) := by decide +kernel
theorem dX1_freeNumber_17 : decode cX1_freeNumber 17 = .ok (.iload_n 1, 1) := by decide +kernel
theorem dX1_freeNumber_18 : decode cX1_freeNumber 18 = .ok (.ireturn, 1) := by decide +kernel
theorem dX1_freeNumber_19 : decode cX1_freeNumber 19 = .ok (.iinc 1 1, 3) := by decide +kernel
theorem dX1_freeNumber_22 : decode cX1_freeNumber 22 = .ok (.goto (-20), 3) := by decide +kernel
theorem dX1_freeNumber_25 : decode cX1_freeNumber 25 = .ok (.iconst (-1), 1) := by decide +kernel
theorem dX1_freeNumber_26 : decode cX1_freeNumber 26 = .ok (.ireturn, 1) := by decide +kernel
theorem dX1_sumGains_0 : decode cX1_sumGains 0 = .ok (.aload_n 0, 1) := by decide +kernel
theorem dX1_sumGains_1 : decode cX1_sumGains 1 = .ok (.getfield 13, 3) := by decide +kernel
theorem dX1_sumGains_4 : decode cX1_sumGains 4 = .ok (.iconst 0, 1) := by decide +kernel
theorem dX1_sumGains_5 : decode cX1_sumGains 5 = .ok (.iconst 0, 1) := by decide +kernel
theorem dX1_sumGains_6 : decode cX1_sumGains 6 = .ok (.iastore, 1) := by decide +kernel
theorem dX1_sumGains_7 : decode cX1_sumGains 7 = .ok (.iconst 0, 1) := by decide +kernel
theorem dX1_sumGains_8 : decode cX1_sumGains 8 = .ok (.istore_n 1, 1) := by decide +kernel
theorem dX1_sumGains_9 : decode cX1_sumGains 9 = .ok (.iload_n 1, 1) := by decide +kernel
theorem dX1_sumGains_10 : decode cX1_sumGains 10 = .ok (.sipush 1000, 3) := by decide +kernel
theorem dX1_sumGains_13 : decode cX1_sumGains 13 = .ok (.if_icmp .ge 37, 3) := by decide +kernel
theorem dX1_sumGains_16 : decode cX1_sumGains 16 = .ok (.aload_n 0, 1) := by decide +kernel
theorem dX1_sumGains_17 : decode cX1_sumGains 17 = .ok (.getfield 13, 3) := by decide +kernel
theorem dX1_sumGains_20 : decode cX1_sumGains 20 = .ok (.iload_n 1, 1) := by decide +kernel
theorem dX1_sumGains_21 : decode cX1_sumGains 21 = .ok (.iconst 1, 1) := by decide +kernel
theorem dX1_sumGains_22 : decode cX1_sumGains 22 = .ok (.iadd, 1) := by decide +kernel
theorem dX1_sumGains_23 : decode cX1_sumGains 23 = .ok (.aload_n 0, 1) := by decide +kernel
theorem dX1_sumGains_24 : decode cX1_sumGains 24 = .ok (.getfield 13, 3) := by decide +kernel
theorem dX1_sumGains_27 : decode cX1_sumGains 27 = .ok (.iload_n 1, 1) := by decide +kernel
theorem dX1_sumGains_28 : decode cX1_sumGains 28 = .ok (.iaload, 1) := by decide +kernel
theorem dX1_sumGains_29 : decode cX1_sumGains 29 = .ok (.iconst 0, 1) := by decide +kernel
theorem dX1_sumGains_30 : decode cX1_sumGains 30 = .ok (.aload_n 0, 1) := by decide +kernel
theorem dX1_sumGains_31 : decode cX1_sumGains 31 = .ok (.getfield 9, 3) := by decide +kernel
theorem dX1_sumGains_34 : decode cX1_sumGains 34 = .ok (.iload_n 1, 1) := by decide +kernel
theorem dX1_sumGains_35 : decode cX1_sumGains 35 = .ok (.iaload, 1) := by decide +kernel
theorem dX1_sumGains_36 : decode cX1_sumGains 36 = .ok (.bipush 10, 2) := by decide +kernel
theorem dX1_sumGains_38 : decode cX1_sumGains 38 = .ok (.iadd, 1) := by decide +kernel
theorem dX1_sumGains_39 : decode cX1_sumGains 39 = .ok (.invokestatic 144, 3) := by decide +kernel
theorem dX1_sumGains_42 : decode cX1_sumGains 42 = .ok (.iadd, 1) := by decide +kernel
theorem dX1_sumGains_43 : decode cX1_sumGains 43 = .ok (.iastore, 1) := by decide +kernel
theorem dX1_sumGains_44 : decode cX1_sumGains 44 = .ok (.iinc 1 1, 3) := by decide +kernel
theorem dX1_sumGains_47 : decode cX1_sumGains 47 = .ok (.goto (-38), 3) := by decide +kernel
theorem dX1_sumGains_50 : decode cX1_sumGains 50 = .ok (.return_, 1) := by decide +kernel
theorem dX1_gainBetween_0 : decode cX1_gainBetween 0 = .ok (.iload_n 2, 1) := by decide +kernel
theorem dX1_gainBetween_1 : decode cX1_gainBetween 1 = .ok (.sipush 1000, 3) := by decide +kernel
theorem dX1_gainBetween_4 : decode cX1_gainBetween 4 = .ok (.invokestatic 74, 3) := by decide +kernel
theorem dX1_gainBetween_7 : decode cX1_gainBetween 7 = .ok (.istore_n 3, 1) := by decide +kernel
theorem dX1_gainBetween_8 : decode cX1_gainBetween 8 = .ok (.iload_n 1, 1) := by decide +kernel
theorem dX1_gainBetween_9 : decode cX1_gainBetween 9 = .ok (.ifCond .lt 24, 3) := by decide +kernel
theorem dX1_gainBetween_12 : decode cX1_gainBetween 12 = .ok (.iload_n 1, 1) := by decide +kernel
theorem dX1_gainBetween_13 : decode cX1_gainBetween 13 = .ok (.iload_n 3, 1) := by decide +kernel
theorem dX1_gainBetween_14 : decode cX1_gainBetween 14 = .ok (.if_icmp .ge 19, 3) := by decide +kernel
theorem dX1_gainBetween_17 : decode cX1_gainBetween 17 = .ok (.aload_n 0, 1) := by decide +kernel
theorem dX1_gainBetween_18 : decode cX1_gainBetween 18 = .ok (.getfield 13, 3) := by decide +kernel
theorem dX1_gainBetween_21 : decode cX1_gainBetween 21 = .ok (.iload_n 3, 1) := by decide +kernel
theorem dX1_gainBetween_22 : decode cX1_gainBetween 22 = .ok (.iaload, 1) := by decide +kernel
theorem dX1_gainBetween_23 : decode cX1_gainBetween 23 = .ok (.aload_n 0, 1) := by decide +kernel
theorem dX1_gainBetween_24 : decode cX1_gainBetween 24 = .ok (.getfield 13, 3) := by decide +kernel
theorem dX1_gainBetween_27 : decode cX1_gainBetween 27 = .ok (.iload_n 1, 1) := by decide +kernel
theorem dX1_gainBetween_28 : decode cX1_gainBetween 28 = .ok (.iaload, 1) := by decide +kernel
theorem dX1_gainBetween_29 : decode cX1_gainBetween 29 = .ok (.isub, 1) := by decide +kernel
theorem dX1_gainBetween_30 : decode cX1_gainBetween 30 = .ok (.goto 4, 3) := by decide +kernel
theorem dX1_gainBetween_33 : decode cX1_gainBetween 33 = .ok (.iconst 0, 1) := by decide +kernel
theorem dX1_gainBetween_34 : decode cX1_gainBetween 34 = .ok (.ireturn, 1) := by decide +kernel
theorem dX1_strengthAt_0 : decode cX1_strengthAt 0 = .ok (.iconst 1, 1) := by decide +kernel
theorem dX1_strengthAt_1 : decode cX1_strengthAt 1 = .ok (.istore_n 1, 1) := by decide +kernel
theorem dX1_strengthAt_2 : decode cX1_strengthAt 2 = .ok (.iload_n 1, 1) := by decide +kernel
theorem dX1_strengthAt_3 : decode cX1_strengthAt 3 = .ok (.getstatic 193, 3) := by decide +kernel
theorem dX1_strengthAt_6 : decode cX1_strengthAt 6 = .ok (.arraylength, 1) := by decide +kernel
theorem dX1_strengthAt_7 : decode cX1_strengthAt 7 = .ok (.if_icmp .ge 54, 3) := by decide +kernel
theorem dX1_strengthAt_10 : decode cX1_strengthAt 10 = .ok (.getstatic 193, 3) := by decide +kernel
theorem dX1_strengthAt_13 : decode cX1_strengthAt 13 = .ok (.iload_n 1, 1) := by decide +kernel
theorem dX1_strengthAt_14 : decode cX1_strengthAt 14 = .ok (.iconst 1, 1) := by decide +kernel
theorem dX1_strengthAt_15 : decode cX1_strengthAt 15 = .ok (.isub, 1) := by decide +kernel
theorem dX1_strengthAt_16 : decode cX1_strengthAt 16 = .ok (.iaload, 1) := by decide +kernel
theorem dX1_strengthAt_17 : decode cX1_strengthAt 17 = .ok (.istore_n 2, 1) := by decide +kernel
theorem dX1_strengthAt_18 : decode cX1_strengthAt 18 = .ok (.getstatic 193, 3) := by decide +kernel
theorem dX1_strengthAt_21 : decode cX1_strengthAt 21 = .ok (.iload_n 1, 1) := by decide +kernel
theorem dX1_strengthAt_22 : decode cX1_strengthAt 22 = .ok (.iaload, 1) := by decide +kernel
theorem dX1_strengthAt_23 : decode cX1_strengthAt 23 = .ok (.iload_n 2, 1) := by decide +kernel
theorem dX1_strengthAt_24 : decode cX1_strengthAt 24 = .ok (.isub, 1) := by decide +kernel
theorem dX1_strengthAt_25 : decode cX1_strengthAt 25 = .ok (.istore_n 3, 1) := by decide +kernel
theorem dX1_strengthAt_26 : decode cX1_strengthAt 26 = .ok (.iload_n 0, 1) := by decide +kernel
theorem dX1_strengthAt_27 : decode cX1_strengthAt 27 = .ok (.getstatic 193, 3) := by decide +kernel
theorem dX1_strengthAt_30 : decode cX1_strengthAt 30 = .ok (.iload_n 1, 1) := by decide +kernel
theorem dX1_strengthAt_31 : decode cX1_strengthAt 31 = .ok (.iaload, 1) := by decide +kernel
theorem dX1_strengthAt_32 : decode cX1_strengthAt 32 = .ok (.if_icmp .ge 23, 3) := by decide +kernel
theorem dX1_strengthAt_35 : decode cX1_strengthAt 35 = .ok (.iload_n 3, 1) := by decide +kernel
theorem dX1_strengthAt_36 : decode cX1_strengthAt 36 = .ok (.ifCond .le 19, 3) := by decide +kernel
theorem dX1_strengthAt_39 : decode cX1_strengthAt 39 = .ok (.bipush 25, 2) := by decide +kernel
theorem dX1_strengthAt_41 : decode cX1_strengthAt 41 = .ok (.iload_n 1, 1) := by decide +kernel
theorem dX1_strengthAt_42 : decode cX1_strengthAt 42 = .ok (.iconst 1, 1) := by decide +kernel
theorem dX1_strengthAt_43 : decode cX1_strengthAt 43 = .ok (.isub, 1) := by decide +kernel
theorem dX1_strengthAt_44 : decode cX1_strengthAt 44 = .ok (.imul, 1) := by decide +kernel
theorem dX1_strengthAt_45 : decode cX1_strengthAt 45 = .ok (.bipush 25, 2) := by decide +kernel
theorem dX1_strengthAt_47 : decode cX1_strengthAt 47 = .ok (.iload_n 0, 1) := by decide +kernel
theorem dX1_strengthAt_48 : decode cX1_strengthAt 48 = .ok (.iload_n 2, 1) := by decide +kernel
theorem dX1_strengthAt_49 : decode cX1_strengthAt 49 = .ok (.isub, 1) := by decide +kernel
theorem dX1_strengthAt_50 : decode cX1_strengthAt 50 = .ok (.imul, 1) := by decide +kernel
theorem dX1_strengthAt_51 : decode cX1_strengthAt 51 = .ok (.iload_n 3, 1) := by decide +kernel
theorem dX1_strengthAt_52 : decode cX1_strengthAt 52 = .ok (.idiv, 1) := by decide +kernel
theorem dX1_strengthAt_53 : decode cX1_strengthAt 53 = .ok (.iadd, 1) := by decide +kernel
theorem dX1_strengthAt_54 : decode cX1_strengthAt 54 = .ok (.ireturn, 1) := by decide +kernel
theorem dX1_strengthAt_55 : decode cX1_strengthAt 55 = .ok (.iinc 1 1, 3) := by decide +kernel
theorem dX1_strengthAt_58 : decode cX1_strengthAt 58 = .ok (.goto (-56), 3) := by decide +kernel
theorem dX1_strengthAt_61 : decode cX1_strengthAt 61 = .ok (.bipush 100, 2) := by decide +kernel
theorem dX1_strengthAt_63 : decode cX1_strengthAt 63 = .ok (.ireturn, 1) := by decide +kernel
theorem dX1_fullHours_0 : decode cX1_fullHours 0 = .ok (.aload_n 0, 1) := by decide +kernel
theorem dX1_fullHours_1 : decode cX1_fullHours 1 = .ok (.getfield 32, 3) := by decide +kernel
theorem dX1_fullHours_4 : decode cX1_fullHours 4 = .ok (.ifCond .le 12, 3) := by decide +kernel
theorem dX1_fullHours_7 : decode cX1_fullHours 7 = .ok (.iload_n 1, 1) := by decide +kernel
theorem dX1_fullHours_8 : decode cX1_fullHours 8 = .ok (.aload_n 0, 1) := by decide +kernel
theorem dX1_fullHours_9 : decode cX1_fullHours 9 = .ok (.getfield 32, 3) := by decide +kernel
theorem dX1_fullHours_12 : decode cX1_fullHours 12 = .ok (.idiv, 1) := by decide +kernel
theorem dX1_fullHours_13 : decode cX1_fullHours 13 = .ok (.goto 4, 3) := by decide +kernel
theorem dX1_fullHours_16 : decode cX1_fullHours 16 = .ok (.iconst 0, 1) := by decide +kernel
theorem dX1_fullHours_17 : decode cX1_fullHours 17 = .ok (.ireturn, 1) := by decide +kernel
set_option maxRecDepth 20000 in
theorem ggX1_startedHours_X1_fullHours : GoodIn wsX1_startedHours wsX1_fullHours := goodIn_r _ [6, 1, 7, 8, 9, 10, 11, 12, 13, 14, 15] (by decide +kernel) (by decide +kernel)
set_option maxRecDepth 20000 in
theorem gX1_startedHours_X1_fullHours : GoodIn wsX1_startedHours (wsV RX1 126 RX1 yX1_fullHours wsX1_fullHours) := goodIn_app (goodIn_of _ (by decide +kernel)) ggX1_startedHours_X1_fullHours
theorem dX1_startedHours_0 : decode cX1_startedHours 0 = .ok (.aload_n 0, 1) := by decide +kernel
theorem dX1_startedHours_1 : decode cX1_startedHours 1 = .ok (.iload_n 1, 1) := by decide +kernel
theorem dX1_startedHours_2 : decode cX1_startedHours 2 = .ok (.aload_n 0, 1) := by decide +kernel
theorem dX1_startedHours_3 : decode cX1_startedHours 3 = .ok (.getfield 32, 3) := by decide +kernel
theorem dX1_startedHours_6 : decode cX1_startedHours 6 = .ok (.iadd, 1) := by decide +kernel
theorem dX1_startedHours_7 : decode cX1_startedHours 7 = .ok (.iconst 1, 1) := by decide +kernel
theorem dX1_startedHours_8 : decode cX1_startedHours 8 = .ok (.isub, 1) := by decide +kernel
theorem dX1_startedHours_9 : decode cX1_startedHours 9 = .ok (.invokevirtual 126, 3) := by decide +kernel
theorem dX1_startedHours_12 : decode cX1_startedHours 12 = .ok (.ireturn, 1) := by decide +kernel
theorem dX1_standHour_0 : decode cX1_standHour 0 = .ok (.iconst 0, 1) := by decide +kernel
theorem dX1_standHour_1 : decode cX1_standHour 1 = .ok (.iload_n 1, 1) := by decide +kernel
theorem dX1_standHour_2 : decode cX1_standHour 2 = .ok (.aload_n 0, 1) := by decide +kernel
theorem dX1_standHour_3 : decode cX1_standHour 3 = .ok (.getfield 35, 3) := by decide +kernel
theorem dX1_standHour_6 : decode cX1_standHour 6 = .ok (.isub, 1) := by decide +kernel
theorem dX1_standHour_7 : decode cX1_standHour 7 = .ok (.invokestatic 144, 3) := by decide +kernel
theorem dX1_standHour_10 : decode cX1_standHour 10 = .ok (.ireturn, 1) := by decide +kernel
set_option maxRecDepth 20000 in
theorem ggX1_strikeHour_X1_gainBetween : GoodIn wsX1_strikeHour wsX1_gainBetween := goodIn_r _ [5, 6, 7, 8, 9, 10, 15, 16, 17, 18, 19, 20, 21, 22, 23] (by decide +kernel) (by decide +kernel)
set_option maxRecDepth 20000 in
theorem gX1_strikeHour_X1_gainBetween : GoodIn wsX1_strikeHour (wsV RX1 65 RX1 yX1_gainBetween wsX1_gainBetween) := goodIn_app (goodIn_of _ (by decide +kernel)) ggX1_strikeHour_X1_gainBetween
set_option maxRecDepth 20000 in
theorem ggX1_strikeHour_X1_strengthAt : GoodIn wsX1_strikeHour wsX1_strengthAt := goodIn_r _ [13, 14] (by decide +kernel) (by decide +kernel)
set_option maxRecDepth 20000 in
theorem gX1_strikeHour_X1_strengthAt : GoodIn wsX1_strikeHour (va_wsS RX1 70 yX1_strengthAt wsX1_strengthAt) := goodIn_app (goodIn_of _ (by decide +kernel)) ggX1_strikeHour_X1_strengthAt
theorem dX1_strikeHour_0 : decode cX1_strikeHour 0 = .ok (.iload_n 1, 1) := by decide +kernel
theorem dX1_strikeHour_1 : decode cX1_strikeHour 1 = .ok (.iconst 1, 1) := by decide +kernel
theorem dX1_strikeHour_2 : decode cX1_strikeHour 2 = .ok (.isub, 1) := by decide +kernel
theorem dX1_strikeHour_3 : decode cX1_strikeHour 3 = .ok (.istore_n 3, 1) := by decide +kernel
theorem dX1_strikeHour_4 : decode cX1_strikeHour 4 = .ok (.sipush 512, 3) := by decide +kernel
theorem dX1_strikeHour_7 : decode cX1_strikeHour 7 = .ok (.istore 4, 2) := by decide +kernel
theorem dX1_strikeHour_9 : decode cX1_strikeHour 9 = .ok (.iload 4, 2) := by decide +kernel
theorem dX1_strikeHour_11 : decode cX1_strikeHour 11 = .ok (.ifCond .le 43, 3) := by decide +kernel
theorem dX1_strikeHour_14 : decode cX1_strikeHour 14 = .ok (.iload_n 3, 1) := by decide +kernel
theorem dX1_strikeHour_15 : decode cX1_strikeHour 15 = .ok (.iload 4, 2) := by decide +kernel
theorem dX1_strikeHour_17 : decode cX1_strikeHour 17 = .ok (.iadd, 1) := by decide +kernel
theorem dX1_strikeHour_18 : decode cX1_strikeHour 18 = .ok (.istore 5, 2) := by decide +kernel
theorem dX1_strikeHour_20 : decode cX1_strikeHour 20 = .ok (.iload 5, 2) := by decide +kernel
theorem dX1_strikeHour_22 : decode cX1_strikeHour 22 = .ok (.sipush 1000, 3) := by decide +kernel
theorem dX1_strikeHour_25 : decode cX1_strikeHour 25 = .ok (.if_icmp .ge 20, 3) := by decide +kernel
theorem dX1_strikeHour_28 : decode cX1_strikeHour 28 = .ok (.aload_n 0, 1) := by decide +kernel
theorem dX1_strikeHour_29 : decode cX1_strikeHour 29 = .ok (.iload_n 1, 1) := by decide +kernel
theorem dX1_strikeHour_30 : decode cX1_strikeHour 30 = .ok (.iload 5, 2) := by decide +kernel
theorem dX1_strikeHour_32 : decode cX1_strikeHour 32 = .ok (.invokevirtual 65, 3) := by decide +kernel
theorem dX1_strikeHour_35 : decode cX1_strikeHour 35 = .ok (.invokestatic 70, 3) := by decide +kernel
theorem dX1_strikeHour_38 : decode cX1_strikeHour 38 = .ok (.iload_n 2, 1) := by decide +kernel
theorem dX1_strikeHour_39 : decode cX1_strikeHour 39 = .ok (.if_icmp .ge 6, 3) := by decide +kernel
theorem dX1_strikeHour_42 : decode cX1_strikeHour 42 = .ok (.iload 5, 2) := by decide +kernel
theorem dX1_strikeHour_44 : decode cX1_strikeHour 44 = .ok (.istore_n 3, 1) := by decide +kernel
theorem dX1_strikeHour_45 : decode cX1_strikeHour 45 = .ok (.iload 4, 2) := by decide +kernel
theorem dX1_strikeHour_47 : decode cX1_strikeHour 47 = .ok (.iconst 2, 1) := by decide +kernel
theorem dX1_strikeHour_48 : decode cX1_strikeHour 48 = .ok (.idiv, 1) := by decide +kernel
theorem dX1_strikeHour_49 : decode cX1_strikeHour 49 = .ok (.istore 4, 2) := by decide +kernel
theorem dX1_strikeHour_51 : decode cX1_strikeHour 51 = .ok (.goto (-42), 3) := by decide +kernel
theorem dX1_strikeHour_54 : decode cX1_strikeHour 54 = .ok (.iload_n 3, 1) := by decide +kernel
theorem dX1_strikeHour_55 : decode cX1_strikeHour 55 = .ok (.iconst 1, 1) := by decide +kernel
theorem dX1_strikeHour_56 : decode cX1_strikeHour 56 = .ok (.iadd, 1) := by decide +kernel
theorem dX1_strikeHour_57 : decode cX1_strikeHour 57 = .ok (.istore 4, 2) := by decide +kernel
theorem dX1_strikeHour_59 : decode cX1_strikeHour 59 = .ok (.iload 4, 2) := by decide +kernel
theorem dX1_strikeHour_61 : decode cX1_strikeHour 61 = .ok (.sipush 1000, 3) := by decide +kernel
theorem dX1_strikeHour_64 : decode cX1_strikeHour 64 = .ok (.if_icmp .ge 8, 3) := by decide +kernel
theorem dX1_strikeHour_67 : decode cX1_strikeHour 67 = .ok (.iload 4, 2) := by decide +kernel
theorem dX1_strikeHour_69 : decode cX1_strikeHour 69 = .ok (.goto 4, 3) := by decide +kernel
theorem dX1_strikeHour_72 : decode cX1_strikeHour 72 = .ok (.iconst (-1), 1) := by decide +kernel
theorem dX1_strikeHour_73 : decode cX1_strikeHour 73 = .ok (.ireturn, 1) := by decide +kernel
theorem dX1_releaseHour_0 : decode cX1_releaseHour 0 = .ok (.iload_n 1, 1) := by decide +kernel
theorem dX1_releaseHour_1 : decode cX1_releaseHour 1 = .ok (.iconst (-1), 1) := by decide +kernel
theorem dX1_releaseHour_2 : decode cX1_releaseHour 2 = .ok (.if_icmp .ne 9, 3) := by decide +kernel
theorem dX1_releaseHour_5 : decode cX1_releaseHour 5 = .ok (.sipush 1000, 3) := by decide +kernel
theorem dX1_releaseHour_8 : decode cX1_releaseHour 8 = .ok (.goto 15, 3) := by decide +kernel
theorem dX1_releaseHour_11 : decode cX1_releaseHour 11 = .ok (.sipush 1000, 3) := by decide +kernel
theorem dX1_releaseHour_14 : decode cX1_releaseHour 14 = .ok (.iload_n 1, 1) := by decide +kernel
theorem dX1_releaseHour_15 : decode cX1_releaseHour 15 = .ok (.aload_n 0, 1) := by decide +kernel
theorem dX1_releaseHour_16 : decode cX1_releaseHour 16 = .ok (.getfield 38, 3) := by decide +kernel
theorem dX1_releaseHour_19 : decode cX1_releaseHour 19 = .ok (.iadd, 1) := by decide +kernel
theorem dX1_releaseHour_20 : decode cX1_releaseHour 20 = .ok (.invokestatic 74, 3) := by decide +kernel
theorem dX1_releaseHour_23 : decode cX1_releaseHour 23 = .ok (.ireturn, 1) := by decide +kernel
set_option maxRecDepth 20000 in
theorem ggX1_schedule_X1_startedHours : GoodIn wsX1_schedule wsX1_startedHours := goodIn_r _ [5, 6, 7, 8, 9, 4, 10, 60, 61, 62, 63, 64, 65, 66, 67, 68] (by decide +kernel) (by decide +kernel)
set_option maxRecDepth 20000 in
theorem gX1_schedule_X1_startedHours : GoodIn wsX1_schedule (wsV RX1 153 RX1 yX1_startedHours wsX1_startedHours) := goodIn_app (goodIn_of _ (by decide +kernel)) ggX1_schedule_X1_startedHours
set_option maxRecDepth 20000 in
theorem ggX1_schedule_X0_hoursOfBreaks : GoodIn wsX1_schedule wsX0_hoursOfBreaks := goodIn_r _ [14, 15, 16, 47, 48, 49, 50, 51, 52, 53, 54, 55, 56, 57, 58, 59] (by decide +kernel) (by decide +kernel)
set_option maxRecDepth 20000 in
theorem gX1_schedule_X0_hoursOfBreaks_n196 : GoodIn wsX1_schedule (wsX0_hoursOfBreaks) := ggX1_schedule_X0_hoursOfBreaks
set_option maxRecDepth 20000 in
theorem ggX1_schedule_X1_strikeHour : GoodIn wsX1_schedule wsX1_strikeHour := goodIn_r _ [20, 21, 22, 23, 4, 24, 25, 26, 27, 28, 29, 30, 31, 32, 33, 60, 61, 62, 63, 64, 65, 66, 67, 68] (by decide +kernel) (by decide +kernel)
set_option maxRecDepth 20000 in
theorem gX1_schedule_X1_strikeHour : GoodIn wsX1_schedule (wsV RX1 159 RX1 yX1_strikeHour wsX1_strikeHour) := goodIn_app (goodIn_of _ (by decide +kernel)) ggX1_schedule_X1_strikeHour
set_option maxRecDepth 20000 in
theorem ggX1_schedule_X1_standHour : GoodIn wsX1_schedule wsX1_standHour := goodIn_r _ [37, 38, 39, 40, 27, 41, 60, 61, 62, 63, 64, 65, 66, 67, 68] (by decide +kernel) (by decide +kernel)
set_option maxRecDepth 20000 in
theorem gX1_schedule_X1_standHour : GoodIn wsX1_schedule (wsV RX1 156 RX1 yX1_standHour wsX1_standHour) := goodIn_app (goodIn_of _ (by decide +kernel)) ggX1_schedule_X1_standHour
set_option maxRecDepth 20000 in
theorem ggX1_schedule_X1_releaseHour : GoodIn wsX1_schedule wsX1_releaseHour := goodIn_r _ [45, 46, 25, 26, 27, 28, 60, 61, 62, 63, 64, 65, 66, 67, 68] (by decide +kernel) (by decide +kernel)
set_option maxRecDepth 20000 in
theorem gX1_schedule_X1_releaseHour : GoodIn wsX1_schedule (wsV RX1 162 RX1 yX1_releaseHour wsX1_releaseHour) := goodIn_app (goodIn_of _ (by decide +kernel)) ggX1_schedule_X1_releaseHour
theorem dX1_schedule_0 : decode cX1_schedule 0 = .ok (.aload_n 1, 1) := by decide +kernel
theorem dX1_schedule_1 : decode cX1_schedule 1 = .ok (.aload_n 1, 1) := by decide +kernel
theorem dX1_schedule_2 : decode cX1_schedule 2 = .ok (.getfield 104, 3) := by decide +kernel
theorem dX1_schedule_5 : decode cX1_schedule 5 = .ok (.aload_n 0, 1) := by decide +kernel
theorem dX1_schedule_6 : decode cX1_schedule 6 = .ok (.aload_n 1, 1) := by decide +kernel
theorem dX1_schedule_7 : decode cX1_schedule 7 = .ok (.getfield 110, 3) := by decide +kernel
theorem dX1_schedule_10 : decode cX1_schedule 10 = .ok (.invokevirtual 153, 3) := by decide +kernel
theorem dX1_schedule_13 : decode cX1_schedule 13 = .ok (.iadd, 1) := by decide +kernel
theorem dX1_schedule_14 : decode cX1_schedule 14 = .ok (.aload_n 1, 1) := by decide +kernel
theorem dX1_schedule_15 : decode cX1_schedule 15 = .ok (.invokevirtual 196, 3) := by decide +kernel
theorem dX1_schedule_18 : decode cX1_schedule 18 = .ok (.iadd, 1) := by decide +kernel
theorem dX1_schedule_19 : decode cX1_schedule 19 = .ok (.putfield 120, 3) := by decide +kernel
theorem dX1_schedule_22 : decode cX1_schedule 22 = .ok (.aload_n 1, 1) := by decide +kernel
theorem dX1_schedule_23 : decode cX1_schedule 23 = .ok (.aload_n 0, 1) := by decide +kernel
theorem dX1_schedule_24 : decode cX1_schedule 24 = .ok (.aload_n 1, 1) := by decide +kernel
theorem dX1_schedule_25 : decode cX1_schedule 25 = .ok (.getfield 120, 3) := by decide +kernel
theorem dX1_schedule_28 : decode cX1_schedule 28 = .ok (.aload_n 1, 1) := by decide +kernel
theorem dX1_schedule_29 : decode cX1_schedule 29 = .ok (.getfield 199, 3) := by decide +kernel
theorem dX1_schedule_32 : decode cX1_schedule 32 = .ok (.invokevirtual 159, 3) := by decide +kernel
theorem dX1_schedule_35 : decode cX1_schedule 35 = .ok (.putfield 132, 3) := by decide +kernel
theorem dX1_schedule_38 : decode cX1_schedule 38 = .ok (.aload_n 1, 1) := by decide +kernel
theorem dX1_schedule_39 : decode cX1_schedule 39 = .ok (.aload_n 0, 1) := by decide +kernel
theorem dX1_schedule_40 : decode cX1_schedule 40 = .ok (.aload_n 1, 1) := by decide +kernel
theorem dX1_schedule_41 : decode cX1_schedule 41 = .ok (.getfield 104, 3) := by decide +kernel
theorem dX1_schedule_44 : decode cX1_schedule 44 = .ok (.invokevirtual 156, 3) := by decide +kernel
theorem dX1_schedule_47 : decode cX1_schedule 47 = .ok (.putfield 147, 3) := by decide +kernel
theorem dX1_schedule_50 : decode cX1_schedule 50 = .ok (.aload_n 1, 1) := by decide +kernel
theorem dX1_schedule_51 : decode cX1_schedule 51 = .ok (.aload_n 0, 1) := by decide +kernel
theorem dX1_schedule_52 : decode cX1_schedule 52 = .ok (.aload_n 1, 1) := by decide +kernel
theorem dX1_schedule_53 : decode cX1_schedule 53 = .ok (.getfield 132, 3) := by decide +kernel
theorem dX1_schedule_56 : decode cX1_schedule 56 = .ok (.invokevirtual 162, 3) := by decide +kernel
theorem dX1_schedule_59 : decode cX1_schedule 59 = .ok (.putfield 135, 3) := by decide +kernel
theorem dX1_schedule_62 : decode cX1_schedule 62 = .ok (.return_, 1) := by decide +kernel
set_option maxRecDepth 20000 in
theorem ggX1_scheduleAll_X1_schedule : GoodIn wsX1_scheduleAll wsX1_schedule := goodIn_r _ [6, 7, 8, 9, 5, 10, 11, 12, 13, 14, 15, 16, 17, 18, 19, 20, 21, 22, 23, 24, 25, 26, 27, 28, 29, 30, 31, 32, 33, 34, 35, 36, 37, 38, 39, 40, 41, 42, 43, 44, 45, 46, 47, 48, 49, 50, 51, 61, 62, 63, 64, 65, 66, 67, 68, 69, 70, 71, 72, 73, 52, 53, 54, 55, 56, 57, 58, 59, 60] (by decide +kernel) (by decide +kernel)
set_option maxRecDepth 20000 in
theorem gX1_scheduleAll_X1_schedule : GoodIn wsX1_scheduleAll (wsV RX1 96 RX1 yX1_schedule wsX1_schedule) := goodIn_app (goodIn_of _ (by decide +kernel)) ggX1_scheduleAll_X1_schedule
theorem dX1_scheduleAll_0 : decode cX1_scheduleAll 0 = .ok (.aload_n 0, 1) := by decide +kernel
theorem dX1_scheduleAll_1 : decode cX1_scheduleAll 1 = .ok (.getfield 24, 3) := by decide +kernel
theorem dX1_scheduleAll_4 : decode cX1_scheduleAll 4 = .ok (.astore_n 1, 1) := by decide +kernel
theorem dX1_scheduleAll_5 : decode cX1_scheduleAll 5 = .ok (.aload_n 1, 1) := by decide +kernel
theorem dX1_scheduleAll_6 : decode cX1_scheduleAll 6 = .ok (.arraylength, 1) := by decide +kernel
theorem dX1_scheduleAll_7 : decode cX1_scheduleAll 7 = .ok (.istore_n 2, 1) := by decide +kernel
theorem dX1_scheduleAll_8 : decode cX1_scheduleAll 8 = .ok (.iconst 0, 1) := by decide +kernel
theorem dX1_scheduleAll_9 : decode cX1_scheduleAll 9 = .ok (.istore_n 3, 1) := by decide +kernel
theorem dX1_scheduleAll_10 : decode cX1_scheduleAll 10 = .ok (.iload_n 3, 1) := by decide +kernel
theorem dX1_scheduleAll_11 : decode cX1_scheduleAll 11 = .ok (.iload_n 2, 1) := by decide +kernel
theorem dX1_scheduleAll_12 : decode cX1_scheduleAll 12 = .ok (.if_icmp .ge 25, 3) := by decide +kernel
theorem dX1_scheduleAll_15 : decode cX1_scheduleAll 15 = .ok (.aload_n 1, 1) := by decide +kernel
theorem dX1_scheduleAll_16 : decode cX1_scheduleAll 16 = .ok (.iload_n 3, 1) := by decide +kernel
theorem dX1_scheduleAll_17 : decode cX1_scheduleAll 17 = .ok (.aaload, 1) := by decide +kernel
theorem dX1_scheduleAll_18 : decode cX1_scheduleAll 18 = .ok (.astore 4, 2) := by decide +kernel
theorem dX1_scheduleAll_20 : decode cX1_scheduleAll 20 = .ok (.aload 4, 2) := by decide +kernel
theorem dX1_scheduleAll_22 : decode cX1_scheduleAll 22 = .ok (.ifnull 9, 3) := by decide +kernel
theorem dX1_scheduleAll_25 : decode cX1_scheduleAll 25 = .ok (.aload_n 0, 1) := by decide +kernel
theorem dX1_scheduleAll_26 : decode cX1_scheduleAll 26 = .ok (.aload 4, 2) := by decide +kernel
theorem dX1_scheduleAll_28 : decode cX1_scheduleAll 28 = .ok (.invokevirtual 96, 3) := by decide +kernel
theorem dX1_scheduleAll_31 : decode cX1_scheduleAll 31 = .ok (.iinc 3 1, 3) := by decide +kernel
theorem dX1_scheduleAll_34 : decode cX1_scheduleAll 34 = .ok (.goto (-24), 3) := by decide +kernel
theorem dX1_scheduleAll_37 : decode cX1_scheduleAll 37 = .ok (.return_, 1) := by decide +kernel
set_option maxRecDepth 20000 in
theorem ggX1_needIn_X0_isBusy : GoodIn wsX1_needIn wsX0_isBusy := goodIn_r _ [5, 6, 7, 17, 18, 19, 20, 21, 22, 23, 24, 25, 26, 27, 28, 29] (by decide +kernel) (by decide +kernel)
set_option maxRecDepth 20000 in
theorem gX1_needIn_X0_isBusy_n184 : GoodIn wsX1_needIn (wsX0_isBusy) := ggX1_needIn_X0_isBusy
theorem dX1_needIn_0 : decode cX1_needIn 0 = .ok (.iconst 0, 1) := by decide +kernel
theorem dX1_needIn_1 : decode cX1_needIn 1 = .ok (.istore_n 2, 1) := by decide +kernel
theorem dX1_needIn_2 : decode cX1_needIn 2 = .ok (.aload_n 0, 1) := by decide +kernel
theorem dX1_needIn_3 : decode cX1_needIn 3 = .ok (.getfield 24, 3) := by decide +kernel
theorem dX1_needIn_6 : decode cX1_needIn 6 = .ok (.astore_n 3, 1) := by decide +kernel
theorem dX1_needIn_7 : decode cX1_needIn 7 = .ok (.aload_n 3, 1) := by decide +kernel
theorem dX1_needIn_8 : decode cX1_needIn 8 = .ok (.arraylength, 1) := by decide +kernel
theorem dX1_needIn_9 : decode cX1_needIn 9 = .ok (.istore 4, 2) := by decide +kernel
theorem dX1_needIn_11 : decode cX1_needIn 11 = .ok (.iconst 0, 1) := by decide +kernel
theorem dX1_needIn_12 : decode cX1_needIn 12 = .ok (.istore 5, 2) := by decide +kernel
theorem dX1_needIn_14 : decode cX1_needIn 14 = .ok (.iload 5, 2) := by decide +kernel
theorem dX1_needIn_16 : decode cX1_needIn 16 = .ok (.iload 4, 2) := by decide +kernel
theorem dX1_needIn_18 : decode cX1_needIn 18 = .ok (.if_icmp .ge 37, 3) := by decide +kernel
theorem dX1_needIn_21 : decode cX1_needIn 21 = .ok (.aload_n 3, 1) := by decide +kernel
theorem dX1_needIn_22 : decode cX1_needIn 22 = .ok (.iload 5, 2) := by decide +kernel
theorem dX1_needIn_24 : decode cX1_needIn 24 = .ok (.aaload, 1) := by decide +kernel
theorem dX1_needIn_25 : decode cX1_needIn 25 = .ok (.astore 6, 2) := by decide +kernel
theorem dX1_needIn_27 : decode cX1_needIn 27 = .ok (.aload 6, 2) := by decide +kernel
theorem dX1_needIn_29 : decode cX1_needIn 29 = .ok (.ifnull 20, 3) := by decide +kernel
theorem dX1_needIn_32 : decode cX1_needIn 32 = .ok (.aload 6, 2) := by decide +kernel
theorem dX1_needIn_34 : decode cX1_needIn 34 = .ok (.iload_n 1, 1) := by decide +kernel
theorem dX1_needIn_35 : decode cX1_needIn 35 = .ok (.invokevirtual 184, 3) := by decide +kernel
theorem dX1_needIn_38 : decode cX1_needIn 38 = .ok (.ifCond .eq 11, 3) := by decide +kernel
theorem dX1_needIn_41 : decode cX1_needIn 41 = .ok (.iload_n 2, 1) := by decide +kernel
theorem dX1_needIn_42 : decode cX1_needIn 42 = .ok (.aload 6, 2) := by decide +kernel
theorem dX1_needIn_44 : decode cX1_needIn 44 = .ok (.getfield 107, 3) := by decide +kernel
theorem dX1_needIn_47 : decode cX1_needIn 47 = .ok (.iadd, 1) := by decide +kernel
theorem dX1_needIn_48 : decode cX1_needIn 48 = .ok (.istore_n 2, 1) := by decide +kernel
theorem dX1_needIn_49 : decode cX1_needIn 49 = .ok (.iinc 5 1, 3) := by decide +kernel
theorem dX1_needIn_52 : decode cX1_needIn 52 = .ok (.goto (-38), 3) := by decide +kernel
theorem dX1_needIn_55 : decode cX1_needIn 55 = .ok (.iload_n 2, 1) := by decide +kernel
theorem dX1_needIn_56 : decode cX1_needIn 56 = .ok (.ireturn, 1) := by decide +kernel
set_option maxRecDepth 20000 in
theorem ggX1_sumNeeds_X1_needIn : GoodIn wsX1_sumNeeds wsX1_needIn := goodIn_r _ [6, 7, 8, 9, 10, 11, 12, 13, 14, 15, 16, 17, 18, 19, 20, 21, 22, 23, 24, 25, 26, 27, 28, 29, 30, 31, 32, 33, 34, 35] (by decide +kernel) (by decide +kernel)
set_option maxRecDepth 20000 in
theorem gX1_sumNeeds_X1_needIn : GoodIn wsX1_sumNeeds (wsV RX1 138 RX1 yX1_needIn wsX1_needIn) := goodIn_app (goodIn_of _ (by decide +kernel)) ggX1_sumNeeds_X1_needIn
theorem dX1_sumNeeds_0 : decode cX1_sumNeeds 0 = .ok (.iconst 0, 1) := by decide +kernel
theorem dX1_sumNeeds_1 : decode cX1_sumNeeds 1 = .ok (.istore_n 1, 1) := by decide +kernel
theorem dX1_sumNeeds_2 : decode cX1_sumNeeds 2 = .ok (.iload_n 1, 1) := by decide +kernel
theorem dX1_sumNeeds_3 : decode cX1_sumNeeds 3 = .ok (.sipush 1000, 3) := by decide +kernel
theorem dX1_sumNeeds_6 : decode cX1_sumNeeds 6 = .ok (.if_icmp .ge 20, 3) := by decide +kernel
theorem dX1_sumNeeds_9 : decode cX1_sumNeeds 9 = .ok (.aload_n 0, 1) := by decide +kernel
theorem dX1_sumNeeds_10 : decode cX1_sumNeeds 10 = .ok (.getfield 16, 3) := by decide +kernel
theorem dX1_sumNeeds_13 : decode cX1_sumNeeds 13 = .ok (.iload_n 1, 1) := by decide +kernel
theorem dX1_sumNeeds_14 : decode cX1_sumNeeds 14 = .ok (.aload_n 0, 1) := by decide +kernel
theorem dX1_sumNeeds_15 : decode cX1_sumNeeds 15 = .ok (.iload_n 1, 1) := by decide +kernel
theorem dX1_sumNeeds_16 : decode cX1_sumNeeds 16 = .ok (.invokevirtual 138, 3) := by decide +kernel
theorem dX1_sumNeeds_19 : decode cX1_sumNeeds 19 = .ok (.iastore, 1) := by decide +kernel
theorem dX1_sumNeeds_20 : decode cX1_sumNeeds 20 = .ok (.iinc 1 1, 3) := by decide +kernel
theorem dX1_sumNeeds_23 : decode cX1_sumNeeds 23 = .ok (.goto (-21), 3) := by decide +kernel
theorem dX1_sumNeeds_26 : decode cX1_sumNeeds 26 = .ok (.return_, 1) := by decide +kernel
set_option maxRecDepth 20000 in
theorem ggX1_giveOutPanels_X1_nextToServe : GoodIn wsX1_giveOutPanels wsX1_nextToServe := goodIn_r _ [6, 1, 22, 23, 24, 25, 26, 27, 28, 29, 30, 31, 32, 33, 34, 35, 36, 37, 38, 39, 40, 41, 42, 43] (by decide +kernel) (by decide +kernel)
set_option maxRecDepth 20000 in
theorem gX1_giveOutPanels_X1_nextToServe : GoodIn wsX1_giveOutPanels (wsV RX1 206 RX1 yX1_nextToServe wsX1_nextToServe) := goodIn_app (goodIn_of _ (by decide +kernel)) ggX1_giveOutPanels_X1_nextToServe
set_option maxRecDepth 20000 in
theorem ggX1_giveOutPanels_X1_panelsBusyIn : GoodIn wsX1_giveOutPanels wsX1_panelsBusyIn := goodIn_r _ [10, 1, 11, 12, 13, 14, 15, 16, 22, 23, 24, 25, 26, 27, 28, 29, 30, 31, 32, 33, 34, 35, 36, 37, 38, 39, 40, 41, 42, 43] (by decide +kernel) (by decide +kernel)
set_option maxRecDepth 20000 in
theorem gX1_giveOutPanels_X1_panelsBusyIn : GoodIn wsX1_giveOutPanels (wsV RX1 210 RX1 yX1_panelsBusyIn wsX1_panelsBusyIn) := goodIn_app (goodIn_of _ (by decide +kernel)) ggX1_giveOutPanels_X1_panelsBusyIn
set_option maxRecDepth 20000 in
theorem ggX1_giveOutPanels_X1_lowestPanels : GoodIn wsX1_giveOutPanels wsX1_lowestPanels := goodIn_r _ [20, 21, 22, 23, 24, 25, 26, 27, 28, 29, 30] (by decide +kernel) (by decide +kernel)
set_option maxRecDepth 20000 in
theorem gX1_giveOutPanels_X1_lowestPanels : GoodIn wsX1_giveOutPanels (wsV RX1 214 RX1 yX1_lowestPanels wsX1_lowestPanels) := goodIn_app (goodIn_of _ (by decide +kernel)) ggX1_giveOutPanels_X1_lowestPanels
theorem dX1_giveOutPanels_0 : decode cX1_giveOutPanels 0 = .ok (.aload_n 0, 1) := by decide +kernel
theorem dX1_giveOutPanels_1 : decode cX1_giveOutPanels 1 = .ok (.getfield 24, 3) := by decide +kernel
theorem dX1_giveOutPanels_4 : decode cX1_giveOutPanels 4 = .ok (.astore_n 1, 1) := by decide +kernel
theorem dX1_giveOutPanels_5 : decode cX1_giveOutPanels 5 = .ok (.aload_n 1, 1) := by decide +kernel
theorem dX1_giveOutPanels_6 : decode cX1_giveOutPanels 6 = .ok (.arraylength, 1) := by decide +kernel
theorem dX1_giveOutPanels_7 : decode cX1_giveOutPanels 7 = .ok (.istore_n 2, 1) := by decide +kernel
theorem dX1_giveOutPanels_8 : decode cX1_giveOutPanels 8 = .ok (.iconst 0, 1) := by decide +kernel
theorem dX1_giveOutPanels_9 : decode cX1_giveOutPanels 9 = .ok (.istore_n 3, 1) := by decide +kernel
theorem dX1_giveOutPanels_10 : decode cX1_giveOutPanels 10 = .ok (.iload_n 3, 1) := by decide +kernel
theorem dX1_giveOutPanels_11 : decode cX1_giveOutPanels 11 = .ok (.iload_n 2, 1) := by decide +kernel
theorem dX1_giveOutPanels_12 : decode cX1_giveOutPanels 12 = .ok (.if_icmp .ge 31, 3) := by decide +kernel
theorem dX1_giveOutPanels_15 : decode cX1_giveOutPanels 15 = .ok (.aload_n 1, 1) := by decide +kernel
theorem dX1_giveOutPanels_16 : decode cX1_giveOutPanels 16 = .ok (.iload_n 3, 1) := by decide +kernel
theorem dX1_giveOutPanels_17 : decode cX1_giveOutPanels 17 = .ok (.aaload, 1) := by decide +kernel
theorem dX1_giveOutPanels_18 : decode cX1_giveOutPanels 18 = .ok (.astore 4, 2) := by decide +kernel
theorem dX1_giveOutPanels_20 : decode cX1_giveOutPanels 20 = .ok (.aload 4, 2) := by decide +kernel
theorem dX1_giveOutPanels_22 : decode cX1_giveOutPanels 22 = .ok (.ifnull 15, 3) := by decide +kernel
theorem dX1_giveOutPanels_25 : decode cX1_giveOutPanels 25 = .ok (.aload 4, 2) := by decide +kernel
theorem dX1_giveOutPanels_27 : decode cX1_giveOutPanels 27 = .ok (.lconst 0, 1) := by decide +kernel
theorem dX1_giveOutPanels_28 : decode cX1_giveOutPanels 28 = .ok (.putfield 171, 3) := by decide +kernel
theorem dX1_giveOutPanels_31 : decode cX1_giveOutPanels 31 = .ok (.aload 4, 2) := by decide +kernel
theorem dX1_giveOutPanels_33 : decode cX1_giveOutPanels 33 = .ok (.iconst 0, 1) := by decide +kernel
theorem dX1_giveOutPanels_34 : decode cX1_giveOutPanels 34 = .ok (.putfield 202, 3) := by decide +kernel
theorem dX1_giveOutPanels_37 : decode cX1_giveOutPanels 37 = .ok (.iinc 3 1, 3) := by decide +kernel
theorem dX1_giveOutPanels_40 : decode cX1_giveOutPanels 40 = .ok (.goto (-30), 3) := by decide +kernel
theorem dX1_giveOutPanels_43 : decode cX1_giveOutPanels 43 = .ok (.iconst 0, 1) := by decide +kernel
theorem dX1_giveOutPanels_44 : decode cX1_giveOutPanels 44 = .ok (.istore_n 1, 1) := by decide +kernel
theorem dX1_giveOutPanels_45 : decode cX1_giveOutPanels 45 = .ok (.iload_n 1, 1) := by decide +kernel
theorem dX1_giveOutPanels_46 : decode cX1_giveOutPanels 46 = .ok (.bipush 10, 2) := by decide +kernel
theorem dX1_giveOutPanels_48 : decode cX1_giveOutPanels 48 = .ok (.if_icmp .ge 44, 3) := by decide +kernel
theorem dX1_giveOutPanels_51 : decode cX1_giveOutPanels 51 = .ok (.aload_n 0, 1) := by decide +kernel
theorem dX1_giveOutPanels_52 : decode cX1_giveOutPanels 52 = .ok (.invokevirtual 206, 3) := by decide +kernel
theorem dX1_giveOutPanels_55 : decode cX1_giveOutPanels 55 = .ok (.astore_n 2, 1) := by decide +kernel
theorem dX1_giveOutPanels_56 : decode cX1_giveOutPanels 56 = .ok (.aload_n 2, 1) := by decide +kernel
theorem dX1_giveOutPanels_57 : decode cX1_giveOutPanels 57 = .ok (.ifnonnull 4, 3) := by decide +kernel
theorem dX1_giveOutPanels_60 : decode cX1_giveOutPanels 60 = .ok (.return_, 1) := by decide +kernel
theorem dX1_giveOutPanels_61 : decode cX1_giveOutPanels 61 = .ok (.aload_n 2, 1) := by decide +kernel
theorem dX1_giveOutPanels_62 : decode cX1_giveOutPanels 62 = .ok (.aload_n 0, 1) := by decide +kernel
theorem dX1_giveOutPanels_63 : decode cX1_giveOutPanels 63 = .ok (.aload_n 0, 1) := by decide +kernel
theorem dX1_giveOutPanels_64 : decode cX1_giveOutPanels 64 = .ok (.aload_n 2, 1) := by decide +kernel
theorem dX1_giveOutPanels_65 : decode cX1_giveOutPanels 65 = .ok (.getfield 147, 3) := by decide +kernel
theorem dX1_giveOutPanels_68 : decode cX1_giveOutPanels 68 = .ok (.invokevirtual 210, 3) := by decide +kernel
theorem dX1_giveOutPanels_71 : decode cX1_giveOutPanels 71 = .ok (.aload_n 2, 1) := by decide +kernel
theorem dX1_giveOutPanels_72 : decode cX1_giveOutPanels 72 = .ok (.getfield 107, 3) := by decide +kernel
theorem dX1_giveOutPanels_75 : decode cX1_giveOutPanels 75 = .ok (.invokevirtual 214, 3) := by decide +kernel
theorem dX1_giveOutPanels_78 : decode cX1_giveOutPanels 78 = .ok (.putfield 171, 3) := by decide +kernel
theorem dX1_giveOutPanels_81 : decode cX1_giveOutPanels 81 = .ok (.aload_n 2, 1) := by decide +kernel
theorem dX1_giveOutPanels_82 : decode cX1_giveOutPanels 82 = .ok (.iconst 1, 1) := by decide +kernel
theorem dX1_giveOutPanels_83 : decode cX1_giveOutPanels 83 = .ok (.putfield 202, 3) := by decide +kernel
theorem dX1_giveOutPanels_86 : decode cX1_giveOutPanels 86 = .ok (.iinc 1 1, 3) := by decide +kernel
theorem dX1_giveOutPanels_89 : decode cX1_giveOutPanels 89 = .ok (.goto (-44), 3) := by decide +kernel
theorem dX1_giveOutPanels_92 : decode cX1_giveOutPanels 92 = .ok (.return_, 1) := by decide +kernel
theorem dX1_nextToServe_0 : decode cX1_nextToServe 0 = .ok (.aconst_null, 1) := by decide +kernel
theorem dX1_nextToServe_1 : decode cX1_nextToServe 1 = .ok (.astore_n 1, 1) := by decide +kernel
theorem dX1_nextToServe_2 : decode cX1_nextToServe 2 = .ok (.aload_n 0, 1) := by decide +kernel
theorem dX1_nextToServe_3 : decode cX1_nextToServe 3 = .ok (.getfield 24, 3) := by decide +kernel
theorem dX1_nextToServe_6 : decode cX1_nextToServe 6 = .ok (.astore_n 2, 1) := by decide +kernel
theorem dX1_nextToServe_7 : decode cX1_nextToServe 7 = .ok (.aload_n 2, 1) := by decide +kernel
theorem dX1_nextToServe_8 : decode cX1_nextToServe 8 = .ok (.arraylength, 1) := by decide +kernel
theorem dX1_nextToServe_9 : decode cX1_nextToServe 9 = .ok (.istore_n 3, 1) := by decide +kernel
theorem dX1_nextToServe_10 : decode cX1_nextToServe 10 = .ok (.iconst 0, 1) := by decide +kernel
theorem dX1_nextToServe_11 : decode cX1_nextToServe 11 = .ok (.istore 4, 2) := by decide +kernel
theorem dX1_nextToServe_13 : decode cX1_nextToServe 13 = .ok (.iload 4, 2) := by decide +kernel
theorem dX1_nextToServe_15 : decode cX1_nextToServe 15 = .ok (.iload_n 3, 1) := by decide +kernel
theorem dX1_nextToServe_16 : decode cX1_nextToServe 16 = .ok (.if_icmp .ge 47, 3) := by decide +kernel
theorem dX1_nextToServe_19 : decode cX1_nextToServe 19 = .ok (.aload_n 2, 1) := by decide +kernel
theorem dX1_nextToServe_20 : decode cX1_nextToServe 20 = .ok (.iload 4, 2) := by decide +kernel
theorem dX1_nextToServe_22 : decode cX1_nextToServe 22 = .ok (.aaload, 1) := by decide +kernel
theorem dX1_nextToServe_23 : decode cX1_nextToServe 23 = .ok (.astore 5, 2) := by decide +kernel
theorem dX1_nextToServe_25 : decode cX1_nextToServe 25 = .ok (.aload 5, 2) := by decide +kernel
theorem dX1_nextToServe_27 : decode cX1_nextToServe 27 = .ok (.ifnull 30, 3) := by decide +kernel
theorem dX1_nextToServe_30 : decode cX1_nextToServe 30 = .ok (.aload 5, 2) := by decide +kernel
theorem dX1_nextToServe_32 : decode cX1_nextToServe 32 = .ok (.getfield 202, 3) := by decide +kernel
theorem dX1_nextToServe_35 : decode cX1_nextToServe 35 = .ok (.ifCond .ne 22, 3) := by decide +kernel
theorem dX1_nextToServe_38 : decode cX1_nextToServe 38 = .ok (.aload_n 1, 1) := by decide +kernel
theorem dX1_nextToServe_39 : decode cX1_nextToServe 39 = .ok (.ifnull 15, 3) := by decide +kernel
theorem dX1_nextToServe_42 : decode cX1_nextToServe 42 = .ok (.aload 5, 2) := by decide +kernel
theorem dX1_nextToServe_44 : decode cX1_nextToServe 44 = .ok (.getfield 147, 3) := by decide +kernel
theorem dX1_nextToServe_47 : decode cX1_nextToServe 47 = .ok (.aload_n 1, 1) := by decide +kernel
theorem dX1_nextToServe_48 : decode cX1_nextToServe 48 = .ok (.getfield 147, 3) := by decide +kernel
theorem dX1_nextToServe_51 : decode cX1_nextToServe 51 = .ok (.if_icmp .ge 6, 3) := by decide +kernel
theorem dX1_nextToServe_54 : decode cX1_nextToServe 54 = .ok (.aload 5, 2) := by decide +kernel
theorem dX1_nextToServe_56 : decode cX1_nextToServe 56 = .ok (.astore_n 1, 1) := by decide +kernel
theorem dX1_nextToServe_57 : decode cX1_nextToServe 57 = .ok (.iinc 4 1, 3) := by decide +kernel
theorem dX1_nextToServe_60 : decode cX1_nextToServe 60 = .ok (.goto (-47), 3) := by decide +kernel
theorem dX1_nextToServe_63 : decode cX1_nextToServe 63 = .ok (.aload_n 1, 1) := by decide +kernel
theorem dX1_nextToServe_64 : decode cX1_nextToServe 64 = .ok (.areturn, 1) := by decide +kernel
set_option maxRecDepth 20000 in
theorem ggX1_panelsBusyIn_X0_isBusy : GoodIn wsX1_panelsBusyIn wsX0_isBusy := goodIn_r _ [5, 6, 7, 17, 18, 19, 20, 21, 22, 23, 24, 25, 26, 27, 28, 29] (by decide +kernel) (by decide +kernel)
set_option maxRecDepth 20000 in
theorem gX1_panelsBusyIn_X0_isBusy_n184 : GoodIn wsX1_panelsBusyIn (wsX0_isBusy) := ggX1_panelsBusyIn_X0_isBusy
theorem dX1_panelsBusyIn_0 : decode cX1_panelsBusyIn 0 = .ok (.lconst 0, 1) := by decide +kernel
theorem dX1_panelsBusyIn_1 : decode cX1_panelsBusyIn 1 = .ok (.lstore_n 2, 1) := by decide +kernel
theorem dX1_panelsBusyIn_2 : decode cX1_panelsBusyIn 2 = .ok (.aload_n 0, 1) := by decide +kernel
theorem dX1_panelsBusyIn_3 : decode cX1_panelsBusyIn 3 = .ok (.getfield 24, 3) := by decide +kernel
theorem dX1_panelsBusyIn_6 : decode cX1_panelsBusyIn 6 = .ok (.astore 4, 2) := by decide +kernel
theorem dX1_panelsBusyIn_8 : decode cX1_panelsBusyIn 8 = .ok (.aload 4, 2) := by decide +kernel
theorem dX1_panelsBusyIn_10 : decode cX1_panelsBusyIn 10 = .ok (.arraylength, 1) := by decide +kernel
theorem dX1_panelsBusyIn_11 : decode cX1_panelsBusyIn 11 = .ok (.istore 5, 2) := by decide +kernel
theorem dX1_panelsBusyIn_13 : decode cX1_panelsBusyIn 13 = .ok (.iconst 0, 1) := by decide +kernel
theorem dX1_panelsBusyIn_14 : decode cX1_panelsBusyIn 14 = .ok (.istore 6, 2) := by decide +kernel
theorem dX1_panelsBusyIn_16 : decode cX1_panelsBusyIn 16 = .ok (.iload 6, 2) := by decide +kernel
theorem dX1_panelsBusyIn_18 : decode cX1_panelsBusyIn 18 = .ok (.iload 5, 2) := by decide +kernel
theorem dX1_panelsBusyIn_20 : decode cX1_panelsBusyIn 20 = .ok (.if_icmp .ge 38, 3) := by decide +kernel
theorem dX1_panelsBusyIn_23 : decode cX1_panelsBusyIn 23 = .ok (.aload 4, 2) := by decide +kernel
theorem dX1_panelsBusyIn_25 : decode cX1_panelsBusyIn 25 = .ok (.iload 6, 2) := by decide +kernel
theorem dX1_panelsBusyIn_27 : decode cX1_panelsBusyIn 27 = .ok (.aaload, 1) := by decide +kernel
theorem dX1_panelsBusyIn_28 : decode cX1_panelsBusyIn 28 = .ok (.astore 7, 2) := by decide +kernel
theorem dX1_panelsBusyIn_30 : decode cX1_panelsBusyIn 30 = .ok (.aload 7, 2) := by decide +kernel
theorem dX1_panelsBusyIn_32 : decode cX1_panelsBusyIn 32 = .ok (.ifnull 20, 3) := by decide +kernel
theorem dX1_panelsBusyIn_35 : decode cX1_panelsBusyIn 35 = .ok (.aload 7, 2) := by decide +kernel
theorem dX1_panelsBusyIn_37 : decode cX1_panelsBusyIn 37 = .ok (.iload_n 1, 1) := by decide +kernel
theorem dX1_panelsBusyIn_38 : decode cX1_panelsBusyIn 38 = .ok (.invokevirtual 184, 3) := by decide +kernel
theorem dX1_panelsBusyIn_41 : decode cX1_panelsBusyIn 41 = .ok (.ifCond .eq 11, 3) := by decide +kernel
theorem dX1_panelsBusyIn_44 : decode cX1_panelsBusyIn 44 = .ok (.lload_n 2, 1) := by decide +kernel
theorem dX1_panelsBusyIn_45 : decode cX1_panelsBusyIn 45 = .ok (.aload 7, 2) := by decide +kernel
theorem dX1_panelsBusyIn_47 : decode cX1_panelsBusyIn 47 = .ok (.getfield 171, 3) := by decide +kernel
theorem dX1_panelsBusyIn_50 : decode cX1_panelsBusyIn 50 = .ok (.lor, 1) := by decide +kernel
theorem dX1_panelsBusyIn_51 : decode cX1_panelsBusyIn 51 = .ok (.lstore_n 2, 1) := by decide +kernel
theorem dX1_panelsBusyIn_52 : decode cX1_panelsBusyIn 52 = .ok (.iinc 6 1, 3) := by decide +kernel
theorem dX1_panelsBusyIn_55 : decode cX1_panelsBusyIn 55 = .ok (.goto (-39), 3) := by decide +kernel
theorem dX1_panelsBusyIn_58 : decode cX1_panelsBusyIn 58 = .ok (.lload_n 2, 1) := by decide +kernel
theorem dX1_panelsBusyIn_59 : decode cX1_panelsBusyIn 59 = .ok (.lreturn, 1) := by decide +kernel
theorem dX1_lowestPanels_0 : decode cX1_lowestPanels 0 = .ok (.lconst 0, 1) := by decide +kernel
theorem dX1_lowestPanels_1 : decode cX1_lowestPanels 1 = .ok (.lstore 4, 2) := by decide +kernel
theorem dX1_lowestPanels_3 : decode cX1_lowestPanels 3 = .ok (.iconst 0, 1) := by decide +kernel
theorem dX1_lowestPanels_4 : decode cX1_lowestPanels 4 = .ok (.istore 6, 2) := by decide +kernel
theorem dX1_lowestPanels_6 : decode cX1_lowestPanels 6 = .ok (.iconst 0, 1) := by decide +kernel
theorem dX1_lowestPanels_7 : decode cX1_lowestPanels 7 = .ok (.istore 7, 2) := by decide +kernel
theorem dX1_lowestPanels_9 : decode cX1_lowestPanels 9 = .ok (.iload 7, 2) := by decide +kernel
theorem dX1_lowestPanels_11 : decode cX1_lowestPanels 11 = .ok (.aload_n 0, 1) := by decide +kernel
theorem dX1_lowestPanels_12 : decode cX1_lowestPanels 12 = .ok (.getfield 28, 3) := by decide +kernel
theorem dX1_lowestPanels_15 : decode cX1_lowestPanels 15 = .ok (.if_icmp .ge 40, 3) := by decide +kernel
theorem dX1_lowestPanels_18 : decode cX1_lowestPanels 18 = .ok (.iload 6, 2) := by decide +kernel
theorem dX1_lowestPanels_20 : decode cX1_lowestPanels 20 = .ok (.iload_n 3, 1) := by decide +kernel
theorem dX1_lowestPanels_21 : decode cX1_lowestPanels 21 = .ok (.if_icmp .ge 34, 3) := by decide +kernel
theorem dX1_lowestPanels_24 : decode cX1_lowestPanels 24 = .ok (.lconst 1, 1) := by decide +kernel
theorem dX1_lowestPanels_25 : decode cX1_lowestPanels 25 = .ok (.iload 7, 2) := by decide +kernel
theorem dX1_lowestPanels_27 : decode cX1_lowestPanels 27 = .ok (.lshl, 1) := by decide +kernel
theorem dX1_lowestPanels_28 : decode cX1_lowestPanels 28 = .ok (.lstore 8, 2) := by decide +kernel
theorem dX1_lowestPanels_30 : decode cX1_lowestPanels 30 = .ok (.lload_n 1, 1) := by decide +kernel
theorem dX1_lowestPanels_31 : decode cX1_lowestPanels 31 = .ok (.lload 8, 2) := by decide +kernel
theorem dX1_lowestPanels_33 : decode cX1_lowestPanels 33 = .ok (.land, 1) := by decide +kernel
theorem dX1_lowestPanels_34 : decode cX1_lowestPanels 34 = .ok (.lconst 0, 1) := by decide +kernel
theorem dX1_lowestPanels_35 : decode cX1_lowestPanels 35 = .ok (.lcmp, 1) := by decide +kernel
theorem dX1_lowestPanels_36 : decode cX1_lowestPanels 36 = .ok (.ifCond .ne 13, 3) := by decide +kernel
theorem dX1_lowestPanels_39 : decode cX1_lowestPanels 39 = .ok (.lload 4, 2) := by decide +kernel
theorem dX1_lowestPanels_41 : decode cX1_lowestPanels 41 = .ok (.lload 8, 2) := by decide +kernel
theorem dX1_lowestPanels_43 : decode cX1_lowestPanels 43 = .ok (.lor, 1) := by decide +kernel
theorem dX1_lowestPanels_44 : decode cX1_lowestPanels 44 = .ok (.lstore 4, 2) := by decide +kernel
theorem dX1_lowestPanels_46 : decode cX1_lowestPanels 46 = .ok (.iinc 6 1, 3) := by decide +kernel
theorem dX1_lowestPanels_49 : decode cX1_lowestPanels 49 = .ok (.iinc 7 1, 3) := by decide +kernel
theorem dX1_lowestPanels_52 : decode cX1_lowestPanels 52 = .ok (.goto (-43), 3) := by decide +kernel
theorem dX1_lowestPanels_55 : decode cX1_lowestPanels 55 = .ok (.lload 4, 2) := by decide +kernel
theorem dX1_lowestPanels_57 : decode cX1_lowestPanels 57 = .ok (.lreturn, 1) := by decide +kernel
theorem dJ13_bitCount_95d88_0 : decode cJ13_bitCount_95d88 0 = .ok (.lload_n 0, 1) := by decide +kernel
theorem dJ13_bitCount_95d88_1 : decode cJ13_bitCount_95d88 1 = .ok (.lload_n 0, 1) := by decide +kernel
theorem dJ13_bitCount_95d88_2 : decode cJ13_bitCount_95d88 2 = .ok (.iconst 1, 1) := by decide +kernel
theorem dJ13_bitCount_95d88_3 : decode cJ13_bitCount_95d88 3 = .ok (.lushr, 1) := by decide +kernel
theorem dJ13_bitCount_95d88_4 : decode cJ13_bitCount_95d88 4 = .ok (.ldc2_w 314, 3) := by decide +kernel
theorem dJ13_bitCount_95d88_7 : decode cJ13_bitCount_95d88 7 = .ok (.land, 1) := by decide +kernel
theorem dJ13_bitCount_95d88_8 : decode cJ13_bitCount_95d88 8 = .ok (.lsub, 1) := by decide +kernel
theorem dJ13_bitCount_95d88_9 : decode cJ13_bitCount_95d88 9 = .ok (.lstore_n 0, 1) := by decide +kernel
theorem dJ13_bitCount_95d88_10 : decode cJ13_bitCount_95d88 10 = .ok (.lload_n 0, 1) := by decide +kernel
theorem dJ13_bitCount_95d88_11 : decode cJ13_bitCount_95d88 11 = .ok (.ldc2_w 316, 3) := by decide +kernel
theorem dJ13_bitCount_95d88_14 : decode cJ13_bitCount_95d88 14 = .ok (.land, 1) := by decide +kernel
theorem dJ13_bitCount_95d88_15 : decode cJ13_bitCount_95d88 15 = .ok (.lload_n 0, 1) := by decide +kernel
theorem dJ13_bitCount_95d88_16 : decode cJ13_bitCount_95d88 16 = .ok (.iconst 2, 1) := by decide +kernel
theorem dJ13_bitCount_95d88_17 : decode cJ13_bitCount_95d88 17 = .ok (.lushr, 1) := by decide +kernel
theorem dJ13_bitCount_95d88_18 : decode cJ13_bitCount_95d88 18 = .ok (.ldc2_w 316, 3) := by decide +kernel
theorem dJ13_bitCount_95d88_21 : decode cJ13_bitCount_95d88 21 = .ok (.land, 1) := by decide +kernel
theorem dJ13_bitCount_95d88_22 : decode cJ13_bitCount_95d88 22 = .ok (.ladd, 1) := by decide +kernel
theorem dJ13_bitCount_95d88_23 : decode cJ13_bitCount_95d88 23 = .ok (.lstore_n 0, 1) := by decide +kernel
theorem dJ13_bitCount_95d88_24 : decode cJ13_bitCount_95d88 24 = .ok (.lload_n 0, 1) := by decide +kernel
theorem dJ13_bitCount_95d88_25 : decode cJ13_bitCount_95d88 25 = .ok (.lload_n 0, 1) := by decide +kernel
theorem dJ13_bitCount_95d88_26 : decode cJ13_bitCount_95d88 26 = .ok (.iconst 4, 1) := by decide +kernel
theorem dJ13_bitCount_95d88_27 : decode cJ13_bitCount_95d88 27 = .ok (.lushr, 1) := by decide +kernel
theorem dJ13_bitCount_95d88_28 : decode cJ13_bitCount_95d88 28 = .ok (.ladd, 1) := by decide +kernel
theorem dJ13_bitCount_95d88_29 : decode cJ13_bitCount_95d88 29 = .ok (.ldc2_w 318, 3) := by decide +kernel
theorem dJ13_bitCount_95d88_32 : decode cJ13_bitCount_95d88 32 = .ok (.land, 1) := by decide +kernel
theorem dJ13_bitCount_95d88_33 : decode cJ13_bitCount_95d88 33 = .ok (.lstore_n 0, 1) := by decide +kernel
theorem dJ13_bitCount_95d88_34 : decode cJ13_bitCount_95d88 34 = .ok (.lload_n 0, 1) := by decide +kernel
theorem dJ13_bitCount_95d88_35 : decode cJ13_bitCount_95d88 35 = .ok (.lload_n 0, 1) := by decide +kernel
theorem dJ13_bitCount_95d88_36 : decode cJ13_bitCount_95d88 36 = .ok (.bipush 8, 2) := by decide +kernel
theorem dJ13_bitCount_95d88_38 : decode cJ13_bitCount_95d88 38 = .ok (.lushr, 1) := by decide +kernel
theorem dJ13_bitCount_95d88_39 : decode cJ13_bitCount_95d88 39 = .ok (.ladd, 1) := by decide +kernel
theorem dJ13_bitCount_95d88_40 : decode cJ13_bitCount_95d88 40 = .ok (.lstore_n 0, 1) := by decide +kernel
theorem dJ13_bitCount_95d88_41 : decode cJ13_bitCount_95d88 41 = .ok (.lload_n 0, 1) := by decide +kernel
theorem dJ13_bitCount_95d88_42 : decode cJ13_bitCount_95d88 42 = .ok (.lload_n 0, 1) := by decide +kernel
theorem dJ13_bitCount_95d88_43 : decode cJ13_bitCount_95d88 43 = .ok (.bipush 16, 2) := by decide +kernel
theorem dJ13_bitCount_95d88_45 : decode cJ13_bitCount_95d88 45 = .ok (.lushr, 1) := by decide +kernel
theorem dJ13_bitCount_95d88_46 : decode cJ13_bitCount_95d88 46 = .ok (.ladd, 1) := by decide +kernel
theorem dJ13_bitCount_95d88_47 : decode cJ13_bitCount_95d88 47 = .ok (.lstore_n 0, 1) := by decide +kernel
theorem dJ13_bitCount_95d88_48 : decode cJ13_bitCount_95d88 48 = .ok (.lload_n 0, 1) := by decide +kernel
theorem dJ13_bitCount_95d88_49 : decode cJ13_bitCount_95d88 49 = .ok (.lload_n 0, 1) := by decide +kernel
theorem dJ13_bitCount_95d88_50 : decode cJ13_bitCount_95d88 50 = .ok (.bipush 32, 2) := by decide +kernel
theorem dJ13_bitCount_95d88_52 : decode cJ13_bitCount_95d88 52 = .ok (.lushr, 1) := by decide +kernel
theorem dJ13_bitCount_95d88_53 : decode cJ13_bitCount_95d88 53 = .ok (.ladd, 1) := by decide +kernel
theorem dJ13_bitCount_95d88_54 : decode cJ13_bitCount_95d88 54 = .ok (.lstore_n 0, 1) := by decide +kernel
theorem dJ13_bitCount_95d88_55 : decode cJ13_bitCount_95d88 55 = .ok (.lload_n 0, 1) := by decide +kernel
theorem dJ13_bitCount_95d88_56 : decode cJ13_bitCount_95d88 56 = .ok (.l2i, 1) := by decide +kernel
theorem dJ13_bitCount_95d88_57 : decode cJ13_bitCount_95d88 57 = .ok (.bipush 127, 2) := by decide +kernel
theorem dJ13_bitCount_95d88_59 : decode cJ13_bitCount_95d88 59 = .ok (.iand, 1) := by decide +kernel
theorem dJ13_bitCount_95d88_60 : decode cJ13_bitCount_95d88 60 = .ok (.ireturn, 1) := by decide +kernel
theorem dJ9_max_7cf53_0 : decode cJ9_max_7cf53 0 = .ok (.iload_n 0, 1) := by decide +kernel
theorem dJ9_max_7cf53_1 : decode cJ9_max_7cf53 1 = .ok (.iload_n 1, 1) := by decide +kernel
theorem dJ9_max_7cf53_2 : decode cJ9_max_7cf53 2 = .ok (.if_icmp .lt 7, 3) := by decide +kernel
theorem dJ9_max_7cf53_5 : decode cJ9_max_7cf53 5 = .ok (.iload_n 0, 1) := by decide +kernel
theorem dJ9_max_7cf53_6 : decode cJ9_max_7cf53 6 = .ok (.goto 4, 3) := by decide +kernel
theorem dJ9_max_7cf53_9 : decode cJ9_max_7cf53 9 = .ok (.iload_n 1, 1) := by decide +kernel
theorem dJ9_max_7cf53_10 : decode cJ9_max_7cf53 10 = .ok (.ireturn, 1) := by decide +kernel
theorem dJ9_min_7cf53_0 : decode cJ9_min_7cf53 0 = .ok (.iload_n 0, 1) := by decide +kernel
theorem dJ9_min_7cf53_1 : decode cJ9_min_7cf53 1 = .ok (.iload_n 1, 1) := by decide +kernel
theorem dJ9_min_7cf53_2 : decode cJ9_min_7cf53 2 = .ok (.if_icmp .gt 7, 3) := by decide +kernel
theorem dJ9_min_7cf53_5 : decode cJ9_min_7cf53 5 = .ok (.iload_n 0, 1) := by decide +kernel
theorem dJ9_min_7cf53_6 : decode cJ9_min_7cf53 6 = .ok (.goto 4, 3) := by decide +kernel
theorem dJ9_min_7cf53_9 : decode cJ9_min_7cf53 9 = .ok (.iload_n 1, 1) := by decide +kernel
theorem dJ9_min_7cf53_10 : decode cJ9_min_7cf53 10 = .ok (.ireturn, 1) := by decide +kernel
theorem dJ7_fill_53178_0 : decode cJ7_fill_53178 0 = .ok (.iconst 0, 1) := by decide +kernel
theorem dJ7_fill_53178_1 : decode cJ7_fill_53178 1 = .ok (.istore_n 2, 1) := by decide +kernel
theorem dJ7_fill_53178_2 : decode cJ7_fill_53178 2 = .ok (.aload_n 0, 1) := by decide +kernel
theorem dJ7_fill_53178_3 : decode cJ7_fill_53178 3 = .ok (.arraylength, 1) := by decide +kernel
theorem dJ7_fill_53178_4 : decode cJ7_fill_53178 4 = .ok (.istore_n 3, 1) := by decide +kernel
theorem dJ7_fill_53178_5 : decode cJ7_fill_53178 5 = .ok (.iload_n 2, 1) := by decide +kernel
theorem dJ7_fill_53178_6 : decode cJ7_fill_53178 6 = .ok (.iload_n 3, 1) := by decide +kernel
theorem dJ7_fill_53178_7 : decode cJ7_fill_53178 7 = .ok (.if_icmp .ge 13, 3) := by decide +kernel
theorem dJ7_fill_53178_10 : decode cJ7_fill_53178 10 = .ok (.aload_n 0, 1) := by decide +kernel
theorem dJ7_fill_53178_11 : decode cJ7_fill_53178 11 = .ok (.iload_n 2, 1) := by decide +kernel
theorem dJ7_fill_53178_12 : decode cJ7_fill_53178 12 = .ok (.iload_n 1, 1) := by decide +kernel
theorem dJ7_fill_53178_13 : decode cJ7_fill_53178 13 = .ok (.iastore, 1) := by decide +kernel
theorem dJ7_fill_53178_14 : decode cJ7_fill_53178 14 = .ok (.iinc 2 1, 3) := by decide +kernel
theorem dJ7_fill_53178_17 : decode cJ7_fill_53178 17 = .ok (.goto (-12), 3) := by decide +kernel
theorem dJ7_fill_53178_20 : decode cJ7_fill_53178 20 = .ok (.return_, 1) := by decide +kernel
theorem dL_cell_0 : decode cL_cell 0 = .ok (.iload_n 1, 1) := by decide +kernel
theorem dL_cell_1 : decode cL_cell 1 = .ok (.aload_n 0, 1) := by decide +kernel
theorem dL_cell_2 : decode cL_cell 2 = .ok (.arraylength, 1) := by decide +kernel
theorem dL_cell_3 : decode cL_cell 3 = .ok (.if_icmp .ge 9, 3) := by decide +kernel
theorem dL_cell_6 : decode cL_cell 6 = .ok (.aload_n 0, 1) := by decide +kernel
theorem dL_cell_7 : decode cL_cell 7 = .ok (.iload_n 1, 1) := by decide +kernel
theorem dL_cell_8 : decode cL_cell 8 = .ok (.iaload, 1) := by decide +kernel
theorem dL_cell_9 : decode cL_cell 9 = .ok (.goto 15, 3) := by decide +kernel
theorem dL_cell_12 : decode cL_cell 12 = .ok (.sipush 7919, 3) := by decide +kernel
theorem dL_cell_15 : decode cL_cell 15 = .ok (.iload_n 1, 1) := by decide +kernel
theorem dL_cell_16 : decode cL_cell 16 = .ok (.iconst 3, 1) := by decide +kernel
theorem dL_cell_17 : decode cL_cell 17 = .ok (.iadd, 1) := by decide +kernel
theorem dL_cell_18 : decode cL_cell 18 = .ok (.imul, 1) := by decide +kernel
theorem dL_cell_19 : decode cL_cell 19 = .ok (.iload_n 1, 1) := by decide +kernel
theorem dL_cell_20 : decode cL_cell 20 = .ok (.bipush 11, 2) := by decide +kernel
theorem dL_cell_22 : decode cL_cell 22 = .ok (.iadd, 1) := by decide +kernel
theorem dL_cell_23 : decode cL_cell 23 = .ok (.imul, 1) := by decide +kernel
theorem dL_cell_24 : decode cL_cell 24 = .ok (.ireturn, 1) := by decide +kernel
theorem dL_low_0 : decode cL_low 0 = .ok (.iload_n 0, 1) := by decide +kernel
theorem dL_low_1 : decode cL_low 1 = .ok (.ldc 7, 2) := by decide +kernel
theorem dL_low_3 : decode cL_low 3 = .ok (.iand, 1) := by decide +kernel
theorem dL_low_4 : decode cL_low 4 = .ok (.iload_n 1, 1) := by decide +kernel
theorem dL_low_5 : decode cL_low 5 = .ok (.irem, 1) := by decide +kernel
theorem dL_low_6 : decode cL_low 6 = .ok (.ireturn, 1) := by decide +kernel
set_option maxRecDepth 20000 in
theorem ggL_isStruck_X1_endOf : GoodIn wsL_isStruck wsX1_endOf := goodIn_ca (goodIn_r _ [5, 6, 7, 8, 4, 9, 10, 11, 12, 13, 14, 15, 62, 63, 64, 65, 66, 67, 68, 69, 70, 71, 72, 73, 74, 75, 76, 77, 78, 79, 80, 81, 82, 83] (by decide +kernel) (by decide +kernel)) (goodIn_sub (fun _ h => List.mem_cons_of_mem _ (List.mem_append_left _ (List.mem_append_left _ (List.mem_append_right _ h)))) (by decide +kernel))
set_option maxRecDepth 20000 in
theorem gL_isStruck_X1_endOf : GoodIn wsL_isStruck (wsV RL 8 RX1 yX1_endOf wsX1_endOf) := goodIn_app (goodIn_of _ (by decide +kernel)) ggL_isStruck_X1_endOf
set_option maxRecDepth 20000 in
theorem ggL_isStruck_X1_struck : GoodIn wsL_isStruck wsX1_struck := goodIn_ca (goodIn_r _ [19, 6, 7, 8, 4, 9, 10, 11, 12, 13, 14, 15, 62, 63, 64, 65, 66, 67, 68, 69, 70, 71, 72, 73, 74, 75, 76, 77, 78, 79, 80, 81, 82, 83] (by decide +kernel) (by decide +kernel)) (goodIn_sub (fun _ h => List.mem_cons_of_mem _ (List.mem_append_left _ (List.mem_append_left _ (List.mem_append_right _ h)))) (by decide +kernel))
set_option maxRecDepth 20000 in
theorem gL_isStruck_X1_struck : GoodIn wsL_isStruck (wsV RL 14 RX1 yX1_struck wsX1_struck) := goodIn_app (goodIn_of _ (by decide +kernel)) ggL_isStruck_X1_struck
set_option maxRecDepth 20000 in
theorem ggL_isStruck_X1_freeFrom : GoodIn wsL_isStruck wsX1_freeFrom := goodIn_ca (goodIn_r _ [23, 6, 7, 8, 4, 9, 10, 11, 12, 13, 14, 15, 62, 63, 64, 65, 66, 67, 68, 69, 70, 71, 72, 73, 74, 75, 76, 77, 78, 79, 80, 81, 82, 83] (by decide +kernel) (by decide +kernel)) (goodIn_sub (fun _ h => List.mem_cons_of_mem _ (List.mem_append_left _ (List.mem_append_left _ (List.mem_append_right _ h)))) (by decide +kernel))
set_option maxRecDepth 20000 in
theorem gL_isStruck_X1_freeFrom : GoodIn wsL_isStruck (wsV RL 17 RX1 yX1_freeFrom wsX1_freeFrom) := goodIn_app (goodIn_of _ (by decide +kernel)) ggL_isStruck_X1_freeFrom
set_option maxRecDepth 20000 in
theorem ggL_isStruck_X1_maturity : GoodIn wsL_isStruck wsX1_maturity := goodIn_ca (goodIn_r _ [27, 28, 29, 4, 30, 31, 32, 33, 34, 35, 36, 37, 38, 39, 40, 41, 42, 43, 44, 75, 76, 77, 78, 79, 80, 81, 82, 83] (by decide +kernel) (by decide +kernel)) (goodIn_sub (fun _ h => List.mem_cons_of_mem _ (List.mem_append_left _ (List.mem_append_right _ h))) (by decide +kernel))
set_option maxRecDepth 20000 in
theorem gL_isStruck_X1_maturity : GoodIn wsL_isStruck (wsV RL 20 RX1 yX1_maturity wsX1_maturity) := goodIn_app (goodIn_of _ (by decide +kernel)) ggL_isStruck_X1_maturity
set_option maxRecDepth 20000 in
theorem ggL_isStruck_X1_strength : GoodIn wsL_isStruck wsX1_strength := goodIn_ca (goodIn_r _ [48, 49, 50, 51, 4, 52, 53, 54, 55, 56, 57, 58, 59, 60, 61] (by decide +kernel) (by decide +kernel)) (goodIn_sub (fun _ h => List.mem_cons_of_mem _ (List.mem_append_right _ h)) (by decide +kernel))
set_option maxRecDepth 20000 in
theorem gL_isStruck_X1_strength : GoodIn wsL_isStruck (wsV RL 24 RX1 yX1_strength wsX1_strength) := goodIn_app (goodIn_of _ (by decide +kernel)) ggL_isStruck_X1_strength
theorem dL_isStruck_0 : decode cL_isStruck 0 = .ok (.aload_n 0, 1) := by decide +kernel
theorem dL_isStruck_1 : decode cL_isStruck 1 = .ok (.iload_n 3, 1) := by decide +kernel
theorem dL_isStruck_2 : decode cL_isStruck 2 = .ok (.invokevirtual 8, 3) := by decide +kernel
theorem dL_isStruck_5 : decode cL_isStruck 5 = .ok (.istore 4, 2) := by decide +kernel
theorem dL_isStruck_7 : decode cL_isStruck 7 = .ok (.aload_n 0, 1) := by decide +kernel
theorem dL_isStruck_8 : decode cL_isStruck 8 = .ok (.iload_n 3, 1) := by decide +kernel
theorem dL_isStruck_9 : decode cL_isStruck 9 = .ok (.invokevirtual 14, 3) := by decide +kernel
theorem dL_isStruck_12 : decode cL_isStruck 12 = .ok (.istore 5, 2) := by decide +kernel
theorem dL_isStruck_14 : decode cL_isStruck 14 = .ok (.aload_n 0, 1) := by decide +kernel
theorem dL_isStruck_15 : decode cL_isStruck 15 = .ok (.iload_n 3, 1) := by decide +kernel
