theorem dX8_cut_102 : decode cX8_cut 102 = .ok (.bipush 6, 2) := by decide +kernel
theorem dX8_cut_104 : decode cX8_cut 104 = .ok (.dup2, 1) := by decide +kernel
theorem dX8_cut_105 : decode cX8_cut 105 = .ok (.iaload, 1) := by decide +kernel
theorem dX8_cut_106 : decode cX8_cut 106 = .ok (.iload_n 3, 1) := by decide +kernel
theorem dX8_cut_107 : decode cX8_cut 107 = .ok (.iadd, 1) := by decide +kernel
theorem dX8_cut_108 : decode cX8_cut 108 = .ok (.iastore, 1) := by decide +kernel
theorem dX8_cut_109 : decode cX8_cut 109 = .ok (.aload_n 0, 1) := by decide +kernel
theorem dX8_cut_110 : decode cX8_cut 110 = .ok (.invokevirtual 109, 3) := by decide +kernel
theorem dX8_cut_113 : decode cX8_cut 113 = .ok (.ifCond .ge 7, 3) := by decide +kernel
theorem dX8_cut_116 : decode cX8_cut 116 = .ok (.iconst 0, 1) := by decide +kernel
theorem dX8_cut_117 : decode cX8_cut 117 = .ok (.goto 4, 3) := by decide +kernel
theorem dX8_cut_120 : decode cX8_cut 120 = .ok (.iload_n 3, 1) := by decide +kernel
theorem dX8_cut_121 : decode cX8_cut 121 = .ok (.ireturn, 1) := by decide +kernel
theorem dX8_barredMany_0 : decode cX8_barredMany 0 = .ok (.iconst 0, 1) := by decide +kernel
theorem dX8_barredMany_1 : decode cX8_barredMany 1 = .ok (.istore_n 1, 1) := by decide +kernel
theorem dX8_barredMany_2 : decode cX8_barredMany 2 = .ok (.iconst 0, 1) := by decide +kernel
theorem dX8_barredMany_3 : decode cX8_barredMany 3 = .ok (.istore_n 2, 1) := by decide +kernel
theorem dX8_barredMany_4 : decode cX8_barredMany 4 = .ok (.iload_n 2, 1) := by decide +kernel
theorem dX8_barredMany_5 : decode cX8_barredMany 5 = .ok (.bipush 100, 2) := by decide +kernel
theorem dX8_barredMany_7 : decode cX8_barredMany 7 = .ok (.if_icmp .ge 21, 3) := by decide +kernel
theorem dX8_barredMany_10 : decode cX8_barredMany 10 = .ok (.iload_n 1, 1) := by decide +kernel
theorem dX8_barredMany_11 : decode cX8_barredMany 11 = .ok (.aload_n 0, 1) := by decide +kernel
theorem dX8_barredMany_12 : decode cX8_barredMany 12 = .ok (.getfield 7, 3) := by decide +kernel
theorem dX8_barredMany_15 : decode cX8_barredMany 15 = .ok (.bipush 77, 2) := by decide +kernel
theorem dX8_barredMany_17 : decode cX8_barredMany 17 = .ok (.iload_n 2, 1) := by decide +kernel
theorem dX8_barredMany_18 : decode cX8_barredMany 18 = .ok (.iadd, 1) := by decide +kernel
theorem dX8_barredMany_19 : decode cX8_barredMany 19 = .ok (.iaload, 1) := by decide +kernel
theorem dX8_barredMany_20 : decode cX8_barredMany 20 = .ok (.iadd, 1) := by decide +kernel
theorem dX8_barredMany_21 : decode cX8_barredMany 21 = .ok (.istore_n 1, 1) := by decide +kernel
theorem dX8_barredMany_22 : decode cX8_barredMany 22 = .ok (.iinc 2 1, 3) := by decide +kernel
theorem dX8_barredMany_25 : decode cX8_barredMany 25 = .ok (.goto (-21), 3) := by decide +kernel
theorem dX8_barredMany_28 : decode cX8_barredMany 28 = .ok (.iload_n 1, 1) := by decide +kernel
theorem dX8_barredMany_29 : decode cX8_barredMany 29 = .ok (.ireturn, 1) := by decide +kernel
set_option maxRecDepth 20000 in
theorem ggX8_bar_X8_isKey : GoodIn wsX8_bar wsX8_isKey := goodIn_ca (goodIn_r _ [6, 1, 7, 8, 5, 9, 64, 65, 66, 67, 68, 69, 70, 71, 72, 73, 74, 75, 76, 77, 78, 79, 80, 81, 82, 83, 84, 85, 86, 87] (by decide +kernel) (by decide +kernel)) (goodIn_sub (fun _ h => List.mem_cons_of_mem _ (List.mem_append_right _ h)) (by decide +kernel))
set_option maxRecDepth 20000 in
theorem gX8_bar_X8_isKey : GoodIn wsX8_bar (wsV RX8 105 RX8 yX8_isKey wsX8_isKey) := goodIn_app (goodIn_of _ (by decide +kernel)) ggX8_bar_X8_isKey
set_option maxRecDepth 20000 in
theorem ggX8_bar_X8_refuses : GoodIn wsX8_bar wsX8_refuses := goodIn_r _ [13, 14, 15, 16, 17, 18, 19, 64, 65, 66, 67, 68, 69, 70, 71, 72, 73, 74, 75, 76, 77, 78, 79, 80, 81, 82, 83, 84, 85, 86, 87] (by decide +kernel) (by decide +kernel)
set_option maxRecDepth 20000 in
theorem gX8_bar_X8_refuses : GoodIn wsX8_bar (wsV RX8 98 RX8 yX8_refuses wsX8_refuses) := goodIn_app (goodIn_of _ (by decide +kernel)) ggX8_bar_X8_refuses
set_option maxRecDepth 20000 in
theorem ggX8_bar_X8_isLock : GoodIn wsX8_bar wsX8_isLock := goodIn_ca (goodIn_r _ [23, 1, 7, 8, 5, 9, 64, 65, 66, 67, 68, 69, 70, 71, 72, 73, 74, 75, 76, 77, 78, 79, 80, 81, 82, 83, 84, 85, 86, 87] (by decide +kernel) (by decide +kernel)) (goodIn_sub (fun _ h => List.mem_cons_of_mem _ (List.mem_append_right _ h)) (by decide +kernel))
set_option maxRecDepth 20000 in
theorem gX8_bar_X8_isLock : GoodIn wsX8_bar (wsV RX8 113 RX8 yX8_isLock wsX8_isLock) := goodIn_app (goodIn_of _ (by decide +kernel)) ggX8_bar_X8_isLock
set_option maxRecDepth 20000 in
theorem ggX8_bar_X8_keeps : GoodIn wsX8_bar wsX8_keeps := goodIn_ca (goodIn_r _ [27, 14, 17, 28, 29, 30, 31, 5, 32, 64, 65, 66, 67, 68, 69, 70, 71, 72, 73, 74, 75, 76, 77, 78, 79, 80, 81, 82, 83, 84, 85, 86, 87] (by decide +kernel) (by decide +kernel)) (goodIn_sub (fun _ h => List.mem_cons_of_mem _ (List.mem_append_right _ h)) (by decide +kernel))
set_option maxRecDepth 20000 in
theorem gX8_bar_X8_keeps : GoodIn wsX8_bar (wsV RX8 101 RX8 yX8_keeps wsX8_keeps) := goodIn_app (goodIn_of _ (by decide +kernel)) ggX8_bar_X8_keeps
set_option maxRecDepth 20000 in
theorem ggX8_bar_X8_falls : GoodIn wsX8_bar wsX8_falls := goodIn_ca (goodIn_r _ [36, 1, 37, 38, 39, 5, 40, 41, 42, 43, 44, 45, 46, 47, 48, 49, 50, 51, 52, 53, 54, 55, 56, 57, 58, 59, 64, 65, 66, 67, 68, 69, 70, 71, 72, 73, 74, 75, 76, 77, 78, 79, 80, 81, 82, 83, 84, 85, 86, 87] (by decide +kernel) (by decide +kernel)) (goodIn_sub (fun _ h => List.mem_cons_of_mem _ (List.mem_append_right _ h)) (by decide +kernel))
set_option maxRecDepth 20000 in
theorem gX8_bar_X8_falls : GoodIn wsX8_bar (wsV RX8 109 RX8 yX8_falls wsX8_falls) := goodIn_app (goodIn_of _ (by decide +kernel)) ggX8_bar_X8_falls
set_option maxRecDepth 20000 in
theorem ggX8_bar_X8_barredMany : GoodIn wsX8_bar wsX8_barredMany := goodIn_ca (goodIn_r _ [63, 1, 64, 65, 66, 67, 68, 69, 70, 71, 72, 73, 74, 75, 76, 77, 78, 79, 80, 81, 82, 83, 84, 85, 86, 87] (by decide +kernel) (by decide +kernel)) (goodIn_sub (fun _ h => List.mem_cons_of_mem _ (List.mem_append_right _ h)) (by decide +kernel))
set_option maxRecDepth 20000 in
theorem gX8_bar_X8_barredMany : GoodIn wsX8_bar (wsV RX8 116 RX8 yX8_barredMany wsX8_barredMany) := goodIn_app (goodIn_of _ (by decide +kernel)) ggX8_bar_X8_barredMany
theorem dX8_bar_0 : decode cX8_bar 0 = .ok (.aload_n 0, 1) := by decide +kernel
theorem dX8_bar_1 : decode cX8_bar 1 = .ok (.iload_n 1, 1) := by decide +kernel
theorem dX8_bar_2 : decode cX8_bar 2 = .ok (.invokevirtual 105, 3) := by decide +kernel
theorem dX8_bar_5 : decode cX8_bar 5 = .ok (.ifCond .ne 10, 3) := by decide +kernel
theorem dX8_bar_8 : decode cX8_bar 8 = .ok (.aload_n 0, 1) := by decide +kernel
theorem dX8_bar_9 : decode cX8_bar 9 = .ok (.iconst 3, 1) := by decide +kernel
theorem dX8_bar_10 : decode cX8_bar 10 = .ok (.iload_n 1, 1) := by decide +kernel
theorem dX8_bar_11 : decode cX8_bar 11 = .ok (.invokevirtual 98, 3) := by decide +kernel
theorem dX8_bar_14 : decode cX8_bar 14 = .ok (.ireturn, 1) := by decide +kernel
theorem dX8_bar_15 : decode cX8_bar 15 = .ok (.aload_n 0, 1) := by decide +kernel
theorem dX8_bar_16 : decode cX8_bar 16 = .ok (.iload_n 2, 1) := by decide +kernel
theorem dX8_bar_17 : decode cX8_bar 17 = .ok (.invokevirtual 113, 3) := by decide +kernel
theorem dX8_bar_20 : decode cX8_bar 20 = .ok (.ifCond .ne 10, 3) := by decide +kernel
theorem dX8_bar_23 : decode cX8_bar 23 = .ok (.aload_n 0, 1) := by decide +kernel
theorem dX8_bar_24 : decode cX8_bar 24 = .ok (.iconst 4, 1) := by decide +kernel
theorem dX8_bar_25 : decode cX8_bar 25 = .ok (.iload_n 2, 1) := by decide +kernel
theorem dX8_bar_26 : decode cX8_bar 26 = .ok (.invokevirtual 98, 3) := by decide +kernel
theorem dX8_bar_29 : decode cX8_bar 29 = .ok (.ireturn, 1) := by decide +kernel
theorem dX8_bar_30 : decode cX8_bar 30 = .ok (.iload_n 3, 1) := by decide +kernel
theorem dX8_bar_31 : decode cX8_bar 31 = .ok (.ifCond .eq 7, 3) := by decide +kernel
theorem dX8_bar_34 : decode cX8_bar 34 = .ok (.iconst 1, 1) := by decide +kernel
theorem dX8_bar_35 : decode cX8_bar 35 = .ok (.goto 4, 3) := by decide +kernel
theorem dX8_bar_38 : decode cX8_bar 38 = .ok (.iconst 0, 1) := by decide +kernel
theorem dX8_bar_39 : decode cX8_bar 39 = .ok (.istore 4, 2) := by decide +kernel
theorem dX8_bar_41 : decode cX8_bar 41 = .ok (.aload_n 0, 1) := by decide +kernel
theorem dX8_bar_42 : decode cX8_bar 42 = .ok (.getfield 7, 3) := by decide +kernel
theorem dX8_bar_45 : decode cX8_bar 45 = .ok (.bipush 77, 2) := by decide +kernel
theorem dX8_bar_47 : decode cX8_bar 47 = .ok (.bipush 10, 2) := by decide +kernel
theorem dX8_bar_49 : decode cX8_bar 49 = .ok (.iload_n 1, 1) := by decide +kernel
theorem dX8_bar_50 : decode cX8_bar 50 = .ok (.imul, 1) := by decide +kernel
theorem dX8_bar_51 : decode cX8_bar 51 = .ok (.iadd, 1) := by decide +kernel
theorem dX8_bar_52 : decode cX8_bar 52 = .ok (.iload_n 2, 1) := by decide +kernel
theorem dX8_bar_53 : decode cX8_bar 53 = .ok (.iadd, 1) := by decide +kernel
theorem dX8_bar_54 : decode cX8_bar 54 = .ok (.iaload, 1) := by decide +kernel
theorem dX8_bar_55 : decode cX8_bar 55 = .ok (.iload 4, 2) := by decide +kernel
theorem dX8_bar_57 : decode cX8_bar 57 = .ok (.if_icmp .ne 10, 3) := by decide +kernel
theorem dX8_bar_60 : decode cX8_bar 60 = .ok (.aload_n 0, 1) := by decide +kernel
theorem dX8_bar_61 : decode cX8_bar 61 = .ok (.iconst 5, 1) := by decide +kernel
theorem dX8_bar_62 : decode cX8_bar 62 = .ok (.iconst 0, 1) := by decide +kernel
theorem dX8_bar_63 : decode cX8_bar 63 = .ok (.invokevirtual 98, 3) := by decide +kernel
theorem dX8_bar_66 : decode cX8_bar 66 = .ok (.ireturn, 1) := by decide +kernel
theorem dX8_bar_67 : decode cX8_bar 67 = .ok (.aload_n 0, 1) := by decide +kernel
theorem dX8_bar_68 : decode cX8_bar 68 = .ok (.aload_n 0, 1) := by decide +kernel
theorem dX8_bar_69 : decode cX8_bar 69 = .ok (.getfield 7, 3) := by decide +kernel
theorem dX8_bar_72 : decode cX8_bar 72 = .ok (.invokevirtual 101, 3) := by decide +kernel
theorem dX8_bar_75 : decode cX8_bar 75 = .ok (.aload_n 0, 1) := by decide +kernel
theorem dX8_bar_76 : decode cX8_bar 76 = .ok (.getfield 7, 3) := by decide +kernel
theorem dX8_bar_79 : decode cX8_bar 79 = .ok (.bipush 77, 2) := by decide +kernel
theorem dX8_bar_81 : decode cX8_bar 81 = .ok (.bipush 10, 2) := by decide +kernel
theorem dX8_bar_83 : decode cX8_bar 83 = .ok (.iload_n 1, 1) := by decide +kernel
theorem dX8_bar_84 : decode cX8_bar 84 = .ok (.imul, 1) := by decide +kernel
theorem dX8_bar_85 : decode cX8_bar 85 = .ok (.iadd, 1) := by decide +kernel
theorem dX8_bar_86 : decode cX8_bar 86 = .ok (.iload_n 2, 1) := by decide +kernel
theorem dX8_bar_87 : decode cX8_bar 87 = .ok (.iadd, 1) := by decide +kernel
theorem dX8_bar_88 : decode cX8_bar 88 = .ok (.iload 4, 2) := by decide +kernel
theorem dX8_bar_90 : decode cX8_bar 90 = .ok (.iastore, 1) := by decide +kernel
theorem dX8_bar_91 : decode cX8_bar 91 = .ok (.aload_n 0, 1) := by decide +kernel
theorem dX8_bar_92 : decode cX8_bar 92 = .ok (.invokevirtual 109, 3) := by decide +kernel
theorem dX8_bar_95 : decode cX8_bar 95 = .ok (.ifCond .ge 7, 3) := by decide +kernel
theorem dX8_bar_98 : decode cX8_bar 98 = .ok (.iconst 0, 1) := by decide +kernel
theorem dX8_bar_99 : decode cX8_bar 99 = .ok (.goto 7, 3) := by decide +kernel
theorem dX8_bar_102 : decode cX8_bar 102 = .ok (.aload_n 0, 1) := by decide +kernel
theorem dX8_bar_103 : decode cX8_bar 103 = .ok (.invokevirtual 116, 3) := by decide +kernel
theorem dX8_bar_106 : decode cX8_bar 106 = .ok (.ireturn, 1) := by decide +kernel
set_option maxRecDepth 20000 in
theorem ggX8_slack_X8_in : GoodIn wsX8_slack wsX8_in := goodIn_r _ [5] (by decide +kernel) (by decide +kernel)
set_option maxRecDepth 20000 in
theorem gX8_slack_X8_in : GoodIn wsX8_slack (va_wsS RX8 72 yX8_in wsX8_in) := goodIn_app (goodIn_of _ (by decide +kernel)) ggX8_slack_X8_in
set_option maxRecDepth 20000 in
theorem ggX8_slack_X8_refuses : GoodIn wsX8_slack wsX8_refuses := goodIn_r _ [9, 10, 11, 12, 13, 14, 15, 52, 53, 54, 55, 56, 57, 58, 59, 60, 61, 62, 63, 64, 65, 66, 67, 68, 69, 70, 71, 72, 73, 74, 75] (by decide +kernel) (by decide +kernel)
set_option maxRecDepth 20000 in
theorem gX8_slack_X8_refuses : GoodIn wsX8_slack (wsV RX8 98 RX8 yX8_refuses wsX8_refuses) := goodIn_app (goodIn_of _ (by decide +kernel)) ggX8_slack_X8_refuses
set_option maxRecDepth 20000 in
theorem ggX8_slack_X8_keeps : GoodIn wsX8_slack wsX8_keeps := goodIn_ca (goodIn_r _ [19, 10, 13, 20, 21, 22, 23, 4, 24, 52, 53, 54, 55, 56, 57, 58, 59, 60, 61, 62, 63, 64, 65, 66, 67, 68, 69, 70, 71, 72, 73, 74, 75] (by decide +kernel) (by decide +kernel)) (goodIn_sub (fun _ h => List.mem_cons_of_mem _ (List.mem_append_right _ h)) (by decide +kernel))
set_option maxRecDepth 20000 in
theorem gX8_slack_X8_keeps : GoodIn wsX8_slack (wsV RX8 101 RX8 yX8_keeps wsX8_keeps) := goodIn_app (goodIn_of _ (by decide +kernel)) ggX8_slack_X8_keeps
set_option maxRecDepth 20000 in
theorem ggX8_slack_X8_falls : GoodIn wsX8_slack wsX8_falls := goodIn_ca (goodIn_r _ [28, 1, 29, 30, 31, 4, 32, 33, 34, 35, 36, 37, 38, 39, 40, 41, 42, 43, 44, 45, 46, 47, 48, 49, 50, 51, 52, 53, 54, 55, 56, 57, 58, 59, 60, 61, 62, 63, 64, 65, 66, 67, 68, 69, 70, 71, 72, 73, 74, 75] (by decide +kernel) (by decide +kernel)) (goodIn_sub (fun _ h => List.mem_cons_of_mem _ (List.mem_append_right _ h)) (by decide +kernel))
set_option maxRecDepth 20000 in
theorem gX8_slack_X8_falls : GoodIn wsX8_slack (wsV RX8 109 RX8 yX8_falls wsX8_falls) := goodIn_app (goodIn_of _ (by decide +kernel)) ggX8_slack_X8_falls
theorem dX8_slack_0 : decode cX8_slack 0 = .ok (.iload_n 1, 1) := by decide +kernel
theorem dX8_slack_1 : decode cX8_slack 1 = .ok (.iconst 0, 1) := by decide +kernel
theorem dX8_slack_2 : decode cX8_slack 2 = .ok (.bipush 6, 2) := by decide +kernel
theorem dX8_slack_4 : decode cX8_slack 4 = .ok (.invokestatic 72, 3) := by decide +kernel
theorem dX8_slack_7 : decode cX8_slack 7 = .ok (.ifCond .ne 10, 3) := by decide +kernel
theorem dX8_slack_10 : decode cX8_slack 10 = .ok (.aload_n 0, 1) := by decide +kernel
theorem dX8_slack_11 : decode cX8_slack 11 = .ok (.iconst 1, 1) := by decide +kernel
theorem dX8_slack_12 : decode cX8_slack 12 = .ok (.iconst 0, 1) := by decide +kernel
theorem dX8_slack_13 : decode cX8_slack 13 = .ok (.invokevirtual 98, 3) := by decide +kernel
theorem dX8_slack_16 : decode cX8_slack 16 = .ok (.ireturn, 1) := by decide +kernel
theorem dX8_slack_17 : decode cX8_slack 17 = .ok (.iload_n 1, 1) := by decide +kernel
theorem dX8_slack_18 : decode cX8_slack 18 = .ok (.aload_n 0, 1) := by decide +kernel
theorem dX8_slack_19 : decode cX8_slack 19 = .ok (.getfield 7, 3) := by decide +kernel
theorem dX8_slack_22 : decode cX8_slack 22 = .ok (.iconst 2, 1) := by decide +kernel
theorem dX8_slack_23 : decode cX8_slack 23 = .ok (.iaload, 1) := by decide +kernel
theorem dX8_slack_24 : decode cX8_slack 24 = .ok (.if_icmp .ne 10, 3) := by decide +kernel
theorem dX8_slack_27 : decode cX8_slack 27 = .ok (.aload_n 0, 1) := by decide +kernel
theorem dX8_slack_28 : decode cX8_slack 28 = .ok (.iconst 5, 1) := by decide +kernel
theorem dX8_slack_29 : decode cX8_slack 29 = .ok (.iconst 0, 1) := by decide +kernel
theorem dX8_slack_30 : decode cX8_slack 30 = .ok (.invokevirtual 98, 3) := by decide +kernel
theorem dX8_slack_33 : decode cX8_slack 33 = .ok (.ireturn, 1) := by decide +kernel
theorem dX8_slack_34 : decode cX8_slack 34 = .ok (.aload_n 0, 1) := by decide +kernel
theorem dX8_slack_35 : decode cX8_slack 35 = .ok (.aload_n 0, 1) := by decide +kernel
theorem dX8_slack_36 : decode cX8_slack 36 = .ok (.getfield 7, 3) := by decide +kernel
theorem dX8_slack_39 : decode cX8_slack 39 = .ok (.invokevirtual 101, 3) := by decide +kernel
theorem dX8_slack_42 : decode cX8_slack 42 = .ok (.aload_n 0, 1) := by decide +kernel
theorem dX8_slack_43 : decode cX8_slack 43 = .ok (.getfield 7, 3) := by decide +kernel
theorem dX8_slack_46 : decode cX8_slack 46 = .ok (.iconst 2, 1) := by decide +kernel
theorem dX8_slack_47 : decode cX8_slack 47 = .ok (.iload_n 1, 1) := by decide +kernel
theorem dX8_slack_48 : decode cX8_slack 48 = .ok (.iastore, 1) := by decide +kernel
theorem dX8_slack_49 : decode cX8_slack 49 = .ok (.aload_n 0, 1) := by decide +kernel
theorem dX8_slack_50 : decode cX8_slack 50 = .ok (.invokevirtual 109, 3) := by decide +kernel
theorem dX8_slack_53 : decode cX8_slack 53 = .ok (.ireturn, 1) := by decide +kernel
set_option maxRecDepth 20000 in
theorem ggX8_put_X8_isKey : GoodIn wsX8_put wsX8_isKey := goodIn_ca (goodIn_r _ [6, 1, 7, 8, 5, 9, 60, 61, 62, 63, 64, 65, 66, 67, 68, 69, 70, 71, 72, 73, 74, 75, 76, 77, 78, 79, 80, 81, 82, 83] (by decide +kernel) (by decide +kernel)) (goodIn_sub (fun _ h => List.mem_cons_of_mem _ (List.mem_append_right _ h)) (by decide +kernel))
set_option maxRecDepth 20000 in
theorem gX8_put_X8_isKey : GoodIn wsX8_put (wsV RX8 105 RX8 yX8_isKey wsX8_isKey) := goodIn_app (goodIn_of _ (by decide +kernel)) ggX8_put_X8_isKey
set_option maxRecDepth 20000 in
theorem ggX8_put_X8_refuses : GoodIn wsX8_put wsX8_refuses := goodIn_r _ [13, 14, 15, 16, 17, 18, 19, 60, 61, 62, 63, 64, 65, 66, 67, 68, 69, 70, 71, 72, 73, 74, 75, 76, 77, 78, 79, 80, 81, 82, 83] (by decide +kernel) (by decide +kernel)
set_option maxRecDepth 20000 in
theorem gX8_put_X8_refuses : GoodIn wsX8_put (wsV RX8 98 RX8 yX8_refuses wsX8_refuses) := goodIn_app (goodIn_of _ (by decide +kernel)) ggX8_put_X8_refuses
set_option maxRecDepth 20000 in
theorem ggX8_put_X8_isLock : GoodIn wsX8_put wsX8_isLock := goodIn_ca (goodIn_r _ [23, 1, 7, 8, 5, 9, 60, 61, 62, 63, 64, 65, 66, 67, 68, 69, 70, 71, 72, 73, 74, 75, 76, 77, 78, 79, 80, 81, 82, 83] (by decide +kernel) (by decide +kernel)) (goodIn_sub (fun _ h => List.mem_cons_of_mem _ (List.mem_append_right _ h)) (by decide +kernel))
set_option maxRecDepth 20000 in
theorem gX8_put_X8_isLock : GoodIn wsX8_put (wsV RX8 113 RX8 yX8_isLock wsX8_isLock) := goodIn_app (goodIn_of _ (by decide +kernel)) ggX8_put_X8_isLock
set_option maxRecDepth 20000 in
theorem ggX8_put_X8_ofKey : GoodIn wsX8_put wsX8_ofKey := goodIn_ca (goodIn_r _ [27, 1, 60, 61, 62, 63, 64, 65, 66, 67, 68, 69, 70, 71, 72, 73, 74, 75, 76, 77, 78, 79, 80, 81, 82, 83] (by decide +kernel) (by decide +kernel)) (goodIn_sub (fun _ h => List.mem_cons_of_mem _ (List.mem_append_right _ h)) (by decide +kernel))
set_option maxRecDepth 20000 in
theorem gX8_put_X8_ofKey : GoodIn wsX8_put (wsV RX8 80 RX8 yX8_ofKey wsX8_ofKey) := goodIn_app (goodIn_of _ (by decide +kernel)) ggX8_put_X8_ofKey
set_option maxRecDepth 20000 in
theorem ggX8_put_X8_ofLock : GoodIn wsX8_put wsX8_ofLock := goodIn_ca (goodIn_r _ [31, 1, 60, 61, 62, 63, 64, 65, 66, 67, 68, 69, 70, 71, 72, 73, 74, 75, 76, 77, 78, 79, 80, 81, 82, 83] (by decide +kernel) (by decide +kernel)) (goodIn_sub (fun _ h => List.mem_cons_of_mem _ (List.mem_append_right _ h)) (by decide +kernel))
set_option maxRecDepth 20000 in
theorem gX8_put_X8_ofLock : GoodIn wsX8_put (wsV RX8 76 RX8 yX8_ofLock wsX8_ofLock) := goodIn_app (goodIn_of _ (by decide +kernel)) ggX8_put_X8_ofLock
set_option maxRecDepth 20000 in
theorem ggX8_put_X8_isFit : GoodIn wsX8_put wsX8_isFit := goodIn_ca (goodIn_r _ [35, 1, 36, 37, 38, 5, 39, 28, 29, 30, 31, 24, 25, 26, 27, 40, 41, 42, 60, 61, 62, 63, 64, 65, 66, 67, 68, 69, 70, 71, 72, 73, 74, 75, 76, 77, 78, 79, 80, 81, 82, 83] (by decide +kernel) (by decide +kernel)) (goodIn_sub (fun _ h => List.mem_cons_of_mem _ (List.mem_append_right _ h)) (by decide +kernel))
set_option maxRecDepth 20000 in
theorem gX8_put_X8_isFit : GoodIn wsX8_put (wsV RX8 90 RX8 yX8_isFit wsX8_isFit) := goodIn_app (goodIn_of _ (by decide +kernel)) ggX8_put_X8_isFit
set_option maxRecDepth 20000 in
theorem ggX8_put_X8_lacks : GoodIn wsX8_put wsX8_lacks := goodIn_ca (goodIn_r _ [39, 28, 29, 30, 5, 31, 1, 24, 25, 26, 27, 40, 41, 42, 60, 61, 62, 63, 64, 65, 66, 67, 68, 69, 70, 71, 72, 73, 74, 75, 76, 77, 78, 79, 80, 81, 82, 83] (by decide +kernel) (by decide +kernel)) (goodIn_sub (fun _ h => List.mem_cons_of_mem _ (List.mem_append_right _ h)) (by decide +kernel))
set_option maxRecDepth 20000 in
theorem gX8_put_X8_lacks : GoodIn wsX8_put (wsV RX8 87 RX8 yX8_lacks wsX8_lacks) := goodIn_app (goodIn_of _ (by decide +kernel)) ggX8_put_X8_lacks
set_option maxRecDepth 20000 in
theorem ggX8_put_X8_keeps : GoodIn wsX8_put wsX8_keeps := goodIn_ca (goodIn_r _ [46, 14, 17, 47, 48, 49, 50, 5, 51, 60, 61, 62, 63, 64, 65, 66, 67, 68, 69, 70, 71, 72, 73, 74, 75, 76, 77, 78, 79, 80, 81, 82, 83] (by decide +kernel) (by decide +kernel)) (goodIn_sub (fun _ h => List.mem_cons_of_mem _ (List.mem_append_right _ h)) (by decide +kernel))
set_option maxRecDepth 20000 in
theorem gX8_put_X8_keeps : GoodIn wsX8_put (wsV RX8 101 RX8 yX8_keeps wsX8_keeps) := goodIn_app (goodIn_of _ (by decide +kernel)) ggX8_put_X8_keeps
set_option maxRecDepth 20000 in
theorem ggX8_put_X8_puts : GoodIn wsX8_put wsX8_puts := goodIn_ca (goodIn_r _ [55, 1, 60, 61, 62, 63, 64, 65, 66, 67, 68, 69, 70, 71, 72, 73, 74, 75, 76, 77, 78, 79, 80, 81, 82, 83] (by decide +kernel) (by decide +kernel)) (goodIn_sub (fun _ h => List.mem_cons_of_mem _ (List.mem_append_right _ h)) (by decide +kernel))
set_option maxRecDepth 20000 in
theorem gX8_put_X8_puts : GoodIn wsX8_put (wsV RX8 119 RX8 yX8_puts wsX8_puts) := goodIn_app (goodIn_of _ (by decide +kernel)) ggX8_put_X8_puts
set_option maxRecDepth 20000 in
theorem ggX8_put_X8_openMany : GoodIn wsX8_put wsX8_openMany := goodIn_ca (goodIn_r _ [59, 1, 28, 29, 30, 5, 31, 60, 61, 62, 63, 64, 65, 66, 67, 68, 69, 70, 71, 72, 73, 74, 75, 76, 77, 78, 79, 80, 81, 82, 83] (by decide +kernel) (by decide +kernel)) (goodIn_sub (fun _ h => List.mem_cons_of_mem _ (List.mem_append_right _ h)) (by decide +kernel))
set_option maxRecDepth 20000 in
theorem gX8_put_X8_openMany : GoodIn wsX8_put (wsV RX8 122 RX8 yX8_openMany wsX8_openMany) := goodIn_app (goodIn_of _ (by decide +kernel)) ggX8_put_X8_openMany
theorem dX8_put_0 : decode cX8_put 0 = .ok (.aload_n 0, 1) := by decide +kernel
theorem dX8_put_1 : decode cX8_put 1 = .ok (.iload_n 1, 1) := by decide +kernel
theorem dX8_put_2 : decode cX8_put 2 = .ok (.invokevirtual 105, 3) := by decide +kernel
theorem dX8_put_5 : decode cX8_put 5 = .ok (.ifCond .ne 10, 3) := by decide +kernel
theorem dX8_put_8 : decode cX8_put 8 = .ok (.aload_n 0, 1) := by decide +kernel
theorem dX8_put_9 : decode cX8_put 9 = .ok (.iconst 3, 1) := by decide +kernel
theorem dX8_put_10 : decode cX8_put 10 = .ok (.iload_n 1, 1) := by decide +kernel
theorem dX8_put_11 : decode cX8_put 11 = .ok (.invokevirtual 98, 3) := by decide +kernel
theorem dX8_put_14 : decode cX8_put 14 = .ok (.ireturn, 1) := by decide +kernel
theorem dX8_put_15 : decode cX8_put 15 = .ok (.aload_n 0, 1) := by decide +kernel
theorem dX8_put_16 : decode cX8_put 16 = .ok (.iload_n 2, 1) := by decide +kernel
theorem dX8_put_17 : decode cX8_put 17 = .ok (.invokevirtual 113, 3) := by decide +kernel
theorem dX8_put_20 : decode cX8_put 20 = .ok (.ifCond .ne 10, 3) := by decide +kernel
theorem dX8_put_23 : decode cX8_put 23 = .ok (.aload_n 0, 1) := by decide +kernel
theorem dX8_put_24 : decode cX8_put 24 = .ok (.iconst 4, 1) := by decide +kernel
theorem dX8_put_25 : decode cX8_put 25 = .ok (.iload_n 2, 1) := by decide +kernel
theorem dX8_put_26 : decode cX8_put 26 = .ok (.invokevirtual 98, 3) := by decide +kernel
theorem dX8_put_29 : decode cX8_put 29 = .ok (.ireturn, 1) := by decide +kernel
theorem dX8_put_30 : decode cX8_put 30 = .ok (.aload_n 0, 1) := by decide +kernel
theorem dX8_put_31 : decode cX8_put 31 = .ok (.iload_n 1, 1) := by decide +kernel
theorem dX8_put_32 : decode cX8_put 32 = .ok (.iconst 2, 1) := by decide +kernel
theorem dX8_put_33 : decode cX8_put 33 = .ok (.invokevirtual 80, 3) := by decide +kernel
theorem dX8_put_36 : decode cX8_put 36 = .ok (.ifCond .lt 16, 3) := by decide +kernel
theorem dX8_put_39 : decode cX8_put 39 = .ok (.aload_n 0, 1) := by decide +kernel
theorem dX8_put_40 : decode cX8_put 40 = .ok (.bipush 8, 2) := by decide +kernel
theorem dX8_put_42 : decode cX8_put 42 = .ok (.aload_n 0, 1) := by decide +kernel
theorem dX8_put_43 : decode cX8_put 43 = .ok (.iload_n 1, 1) := by decide +kernel
theorem dX8_put_44 : decode cX8_put 44 = .ok (.iconst 2, 1) := by decide +kernel
theorem dX8_put_45 : decode cX8_put 45 = .ok (.invokevirtual 80, 3) := by decide +kernel
theorem dX8_put_48 : decode cX8_put 48 = .ok (.invokevirtual 98, 3) := by decide +kernel
theorem dX8_put_51 : decode cX8_put 51 = .ok (.ireturn, 1) := by decide +kernel
theorem dX8_put_52 : decode cX8_put 52 = .ok (.aload_n 0, 1) := by decide +kernel
theorem dX8_put_53 : decode cX8_put 53 = .ok (.iload_n 2, 1) := by decide +kernel
theorem dX8_put_54 : decode cX8_put 54 = .ok (.iconst 1, 1) := by decide +kernel
theorem dX8_put_55 : decode cX8_put 55 = .ok (.invokevirtual 76, 3) := by decide +kernel
theorem dX8_put_58 : decode cX8_put 58 = .ok (.ifCond .lt 16, 3) := by decide +kernel
theorem dX8_put_61 : decode cX8_put 61 = .ok (.aload_n 0, 1) := by decide +kernel
theorem dX8_put_62 : decode cX8_put 62 = .ok (.bipush 7, 2) := by decide +kernel
theorem dX8_put_64 : decode cX8_put 64 = .ok (.aload_n 0, 1) := by decide +kernel
theorem dX8_put_65 : decode cX8_put 65 = .ok (.iload_n 2, 1) := by decide +kernel
theorem dX8_put_66 : decode cX8_put 66 = .ok (.iconst 1, 1) := by decide +kernel
theorem dX8_put_67 : decode cX8_put 67 = .ok (.invokevirtual 76, 3) := by decide +kernel
theorem dX8_put_70 : decode cX8_put 70 = .ok (.invokevirtual 98, 3) := by decide +kernel
theorem dX8_put_73 : decode cX8_put 73 = .ok (.ireturn, 1) := by decide +kernel
theorem dX8_put_74 : decode cX8_put 74 = .ok (.aload_n 0, 1) := by decide +kernel
theorem dX8_put_75 : decode cX8_put 75 = .ok (.iload_n 1, 1) := by decide +kernel
theorem dX8_put_76 : decode cX8_put 76 = .ok (.iload_n 2, 1) := by decide +kernel
theorem dX8_put_77 : decode cX8_put 77 = .ok (.invokevirtual 90, 3) := by decide +kernel
theorem dX8_put_80 : decode cX8_put 80 = .ok (.ifCond .ne 16, 3) := by decide +kernel
theorem dX8_put_83 : decode cX8_put 83 = .ok (.aload_n 0, 1) := by decide +kernel
theorem dX8_put_84 : decode cX8_put 84 = .ok (.bipush 6, 2) := by decide +kernel
theorem dX8_put_86 : decode cX8_put 86 = .ok (.aload_n 0, 1) := by decide +kernel
theorem dX8_put_87 : decode cX8_put 87 = .ok (.iload_n 1, 1) := by decide +kernel
theorem dX8_put_88 : decode cX8_put 88 = .ok (.iload_n 2, 1) := by decide +kernel
theorem dX8_put_89 : decode cX8_put 89 = .ok (.invokevirtual 87, 3) := by decide +kernel
theorem dX8_put_92 : decode cX8_put 92 = .ok (.invokevirtual 98, 3) := by decide +kernel
theorem dX8_put_95 : decode cX8_put 95 = .ok (.ireturn, 1) := by decide +kernel
theorem dX8_put_96 : decode cX8_put 96 = .ok (.aload_n 0, 1) := by decide +kernel
theorem dX8_put_97 : decode cX8_put 97 = .ok (.aload_n 0, 1) := by decide +kernel
theorem dX8_put_98 : decode cX8_put 98 = .ok (.getfield 7, 3) := by decide +kernel
theorem dX8_put_101 : decode cX8_put 101 = .ok (.invokevirtual 101, 3) := by decide +kernel
theorem dX8_put_104 : decode cX8_put 104 = .ok (.aload_n 0, 1) := by decide +kernel
theorem dX8_put_105 : decode cX8_put 105 = .ok (.iload_n 1, 1) := by decide +kernel
theorem dX8_put_106 : decode cX8_put 106 = .ok (.iload_n 2, 1) := by decide +kernel
theorem dX8_put_107 : decode cX8_put 107 = .ok (.invokevirtual 119, 3) := by decide +kernel
theorem dX8_put_110 : decode cX8_put 110 = .ok (.aload_n 0, 1) := by decide +kernel
theorem dX8_put_111 : decode cX8_put 111 = .ok (.invokevirtual 122, 3) := by decide +kernel
theorem dX8_put_114 : decode cX8_put 114 = .ok (.ireturn, 1) := by decide +kernel
set_option maxRecDepth 20000 in
theorem ggX8_take_X8_isKey : GoodIn wsX8_take wsX8_isKey := goodIn_ca (goodIn_r _ [6, 1, 7, 8, 5, 9, 37, 38, 39, 40, 41, 42, 43, 44, 45, 46, 47, 48, 49, 50, 51, 52, 53, 54, 55, 56, 57, 58, 59, 60] (by decide +kernel) (by decide +kernel)) (goodIn_sub (fun _ h => List.mem_cons_of_mem _ (List.mem_append_right _ h)) (by decide +kernel))
set_option maxRecDepth 20000 in
theorem gX8_take_X8_isKey : GoodIn wsX8_take (wsV RX8 105 RX8 yX8_isKey wsX8_isKey) := goodIn_app (goodIn_of _ (by decide +kernel)) ggX8_take_X8_isKey
set_option maxRecDepth 20000 in
theorem ggX8_take_X8_refuses : GoodIn wsX8_take wsX8_refuses := goodIn_r _ [13, 14, 15, 16, 17, 18, 19, 37, 38, 39, 40, 41, 42, 43, 44, 45, 46, 47, 48, 49, 50, 51, 52, 53, 54, 55, 56, 57, 58, 59, 60] (by decide +kernel) (by decide +kernel)
set_option maxRecDepth 20000 in
theorem gX8_take_X8_refuses : GoodIn wsX8_take (wsV RX8 98 RX8 yX8_refuses wsX8_refuses) := goodIn_app (goodIn_of _ (by decide +kernel)) ggX8_take_X8_refuses
set_option maxRecDepth 20000 in
theorem ggX8_take_X8_ofKey : GoodIn wsX8_take wsX8_ofKey := goodIn_ca (goodIn_r _ [23, 1, 37, 38, 39, 40, 41, 42, 43, 44, 45, 46, 47, 48, 49, 50, 51, 52, 53, 54, 55, 56, 57, 58, 59, 60] (by decide +kernel) (by decide +kernel)) (goodIn_sub (fun _ h => List.mem_cons_of_mem _ (List.mem_append_right _ h)) (by decide +kernel))
set_option maxRecDepth 20000 in
theorem gX8_take_X8_ofKey : GoodIn wsX8_take (wsV RX8 80 RX8 yX8_ofKey wsX8_ofKey) := goodIn_app (goodIn_of _ (by decide +kernel)) ggX8_take_X8_ofKey
set_option maxRecDepth 20000 in
theorem ggX8_take_X8_keeps : GoodIn wsX8_take wsX8_keeps := goodIn_ca (goodIn_r _ [27, 14, 17, 28, 29, 30, 31, 5, 32, 37, 38, 39, 40, 41, 42, 43, 44, 45, 46, 47, 48, 49, 50, 51, 52, 53, 54, 55, 56, 57, 58, 59, 60] (by decide +kernel) (by decide +kernel)) (goodIn_sub (fun _ h => List.mem_cons_of_mem _ (List.mem_append_right _ h)) (by decide +kernel))
set_option maxRecDepth 20000 in
theorem gX8_take_X8_keeps : GoodIn wsX8_take (wsV RX8 101 RX8 yX8_keeps wsX8_keeps) := goodIn_app (goodIn_of _ (by decide +kernel)) ggX8_take_X8_keeps
set_option maxRecDepth 20000 in
theorem ggX8_take_X8_lets : GoodIn wsX8_take wsX8_lets := goodIn_ca (goodIn_r _ [36, 1, 37, 38, 39, 40, 41, 42, 43, 44, 45, 46, 47, 48, 49, 50, 51, 52, 53, 54, 55, 56, 57, 58, 59, 60] (by decide +kernel) (by decide +kernel)) (goodIn_sub (fun _ h => List.mem_cons_of_mem _ (List.mem_append_right _ h)) (by decide +kernel))
set_option maxRecDepth 20000 in
theorem gX8_take_X8_lets : GoodIn wsX8_take (wsV RX8 94 RX8 yX8_lets wsX8_lets) := goodIn_app (goodIn_of _ (by decide +kernel)) ggX8_take_X8_lets
theorem dX8_take_0 : decode cX8_take 0 = .ok (.aload_n 0, 1) := by decide +kernel
theorem dX8_take_1 : decode cX8_take 1 = .ok (.iload_n 1, 1) := by decide +kernel
theorem dX8_take_2 : decode cX8_take 2 = .ok (.invokevirtual 105, 3) := by decide +kernel
theorem dX8_take_5 : decode cX8_take 5 = .ok (.ifCond .ne 10, 3) := by decide +kernel
theorem dX8_take_8 : decode cX8_take 8 = .ok (.aload_n 0, 1) := by decide +kernel
theorem dX8_take_9 : decode cX8_take 9 = .ok (.iconst 3, 1) := by decide +kernel
theorem dX8_take_10 : decode cX8_take 10 = .ok (.iload_n 1, 1) := by decide +kernel
theorem dX8_take_11 : decode cX8_take 11 = .ok (.invokevirtual 98, 3) := by decide +kernel
theorem dX8_take_14 : decode cX8_take 14 = .ok (.ireturn, 1) := by decide +kernel
theorem dX8_take_15 : decode cX8_take 15 = .ok (.aload_n 0, 1) := by decide +kernel
theorem dX8_take_16 : decode cX8_take 16 = .ok (.iload_n 1, 1) := by decide +kernel
theorem dX8_take_17 : decode cX8_take 17 = .ok (.iconst 2, 1) := by decide +kernel
theorem dX8_take_18 : decode cX8_take 18 = .ok (.invokevirtual 80, 3) := by decide +kernel
theorem dX8_take_21 : decode cX8_take 21 = .ok (.istore_n 2, 1) := by decide +kernel
theorem dX8_take_22 : decode cX8_take 22 = .ok (.iload_n 2, 1) := by decide +kernel
theorem dX8_take_23 : decode cX8_take 23 = .ok (.ifCond .ge 11, 3) := by decide +kernel
theorem dX8_take_26 : decode cX8_take 26 = .ok (.aload_n 0, 1) := by decide +kernel
theorem dX8_take_27 : decode cX8_take 27 = .ok (.bipush 9, 2) := by decide +kernel
theorem dX8_take_29 : decode cX8_take 29 = .ok (.iload_n 1, 1) := by decide +kernel
theorem dX8_take_30 : decode cX8_take 30 = .ok (.invokevirtual 98, 3) := by decide +kernel
theorem dX8_take_33 : decode cX8_take 33 = .ok (.ireturn, 1) := by decide +kernel
theorem dX8_take_34 : decode cX8_take 34 = .ok (.aload_n 0, 1) := by decide +kernel
theorem dX8_take_35 : decode cX8_take 35 = .ok (.aload_n 0, 1) := by decide +kernel
theorem dX8_take_36 : decode cX8_take 36 = .ok (.getfield 7, 3) := by decide +kernel
theorem dX8_take_39 : decode cX8_take 39 = .ok (.invokevirtual 101, 3) := by decide +kernel
theorem dX8_take_42 : decode cX8_take 42 = .ok (.aload_n 0, 1) := by decide +kernel
theorem dX8_take_43 : decode cX8_take 43 = .ok (.iload_n 1, 1) := by decide +kernel
theorem dX8_take_44 : decode cX8_take 44 = .ok (.iload_n 2, 1) := by decide +kernel
theorem dX8_take_45 : decode cX8_take 45 = .ok (.invokevirtual 94, 3) := by decide +kernel
theorem dX8_take_48 : decode cX8_take 48 = .ok (.iload_n 2, 1) := by decide +kernel
theorem dX8_take_49 : decode cX8_take 49 = .ok (.ireturn, 1) := by decide +kernel
set_option maxRecDepth 20000 in
theorem ggX8_levels_X8_ofKey : GoodIn wsX8_levels wsX8_ofKey := goodIn_ca (goodIn_r _ [8, 2, 24, 25, 26, 27, 28, 29, 30, 31, 32, 33, 34, 35, 36, 37, 38, 39, 40, 41, 42, 43, 44, 45, 46, 47] (by decide +kernel) (by decide +kernel)) (goodIn_sub (fun _ h => List.mem_cons_of_mem _ (List.mem_append_right _ h)) (by decide +kernel))
set_option maxRecDepth 20000 in
theorem gX8_levels_X8_ofKey : GoodIn wsX8_levels (wsV RX8 80 RX8 yX8_ofKey wsX8_ofKey) := goodIn_app (goodIn_of _ (by decide +kernel)) ggX8_levels_X8_ofKey
set_option maxRecDepth 20000 in
theorem ggX8_levels_X8_isFit : GoodIn wsX8_levels wsX8_isFit := goodIn_ca (goodIn_r _ [12, 2, 13, 14, 15, 7, 16, 17, 18, 19, 20, 4, 5, 6, 8, 21, 22, 23, 24, 25, 26, 27, 28, 29, 30, 31, 32, 33, 34, 35, 36, 37, 38, 39, 40, 41, 42, 43, 44, 45, 46, 47] (by decide +kernel) (by decide +kernel)) (goodIn_sub (fun _ h => List.mem_cons_of_mem _ (List.mem_append_right _ h)) (by decide +kernel))
set_option maxRecDepth 20000 in
theorem gX8_levels_X8_isFit : GoodIn wsX8_levels (wsV RX8 90 RX8 yX8_isFit wsX8_isFit) := goodIn_app (goodIn_of _ (by decide +kernel)) ggX8_levels_X8_isFit
set_option maxRecDepth 20000 in
theorem ggX8_levels_X8_ofLock : GoodIn wsX8_levels wsX8_ofLock := goodIn_ca (goodIn_r _ [20, 2, 24, 25, 26, 27, 28, 29, 30, 31, 32, 33, 34, 35, 36, 37, 38, 39, 40, 41, 42, 43, 44, 45, 46, 47] (by decide +kernel) (by decide +kernel)) (goodIn_sub (fun _ h => List.mem_cons_of_mem _ (List.mem_append_right _ h)) (by decide +kernel))
set_option maxRecDepth 20000 in
theorem gX8_levels_X8_ofLock : GoodIn wsX8_levels (wsV RX8 76 RX8 yX8_ofLock wsX8_ofLock) := goodIn_app (goodIn_of _ (by decide +kernel)) ggX8_levels_X8_ofLock
theorem dX8_levels_0 : decode cX8_levels 0 = .ok (.iconst 0, 1) := by decide +kernel
theorem dX8_levels_1 : decode cX8_levels 1 = .ok (.istore_n 1, 1) := by decide +kernel
theorem dX8_levels_2 : decode cX8_levels 2 = .ok (.iload_n 1, 1) := by decide +kernel
theorem dX8_levels_3 : decode cX8_levels 3 = .ok (.bipush 10, 2) := by decide +kernel
theorem dX8_levels_5 : decode cX8_levels 5 = .ok (.if_icmp .ge 39, 3) := by decide +kernel
theorem dX8_levels_8 : decode cX8_levels 8 = .ok (.aload_n 0, 1) := by decide +kernel
theorem dX8_levels_9 : decode cX8_levels 9 = .ok (.getfield 36, 3) := by decide +kernel
theorem dX8_levels_12 : decode cX8_levels 12 = .ok (.iload_n 1, 1) := by decide +kernel
theorem dX8_levels_13 : decode cX8_levels 13 = .ok (.iload_n 1, 1) := by decide +kernel
theorem dX8_levels_14 : decode cX8_levels 14 = .ok (.aload_n 0, 1) := by decide +kernel
theorem dX8_levels_15 : decode cX8_levels 15 = .ok (.getfield 7, 3) := by decide +kernel
theorem dX8_levels_18 : decode cX8_levels 18 = .ok (.iconst 0, 1) := by decide +kernel
theorem dX8_levels_19 : decode cX8_levels 19 = .ok (.iaload, 1) := by decide +kernel
theorem dX8_levels_20 : decode cX8_levels 20 = .ok (.if_icmp .ge 16, 3) := by decide +kernel
theorem dX8_levels_23 : decode cX8_levels 23 = .ok (.aload_n 0, 1) := by decide +kernel
theorem dX8_levels_24 : decode cX8_levels 24 = .ok (.iload_n 1, 1) := by decide +kernel
theorem dX8_levels_25 : decode cX8_levels 25 = .ok (.iconst 2, 1) := by decide +kernel
theorem dX8_levels_26 : decode cX8_levels 26 = .ok (.invokevirtual 80, 3) := by decide +kernel
theorem dX8_levels_29 : decode cX8_levels 29 = .ok (.ifCond .ge 7, 3) := by decide +kernel
theorem dX8_levels_32 : decode cX8_levels 32 = .ok (.iconst 0, 1) := by decide +kernel
theorem dX8_levels_33 : decode cX8_levels 33 = .ok (.goto 4, 3) := by decide +kernel
theorem dX8_levels_36 : decode cX8_levels 36 = .ok (.iconst (-1), 1) := by decide +kernel
theorem dX8_levels_37 : decode cX8_levels 37 = .ok (.iastore, 1) := by decide +kernel
theorem dX8_levels_38 : decode cX8_levels 38 = .ok (.iinc 1 1, 3) := by decide +kernel
theorem dX8_levels_41 : decode cX8_levels 41 = .ok (.goto (-39), 3) := by decide +kernel
theorem dX8_levels_44 : decode cX8_levels 44 = .ok (.aload_n 0, 1) := by decide +kernel
theorem dX8_levels_45 : decode cX8_levels 45 = .ok (.iconst (-1), 1) := by decide +kernel
theorem dX8_levels_46 : decode cX8_levels 46 = .ok (.putfield 125, 3) := by decide +kernel
theorem dX8_levels_49 : decode cX8_levels 49 = .ok (.iconst 0, 1) := by decide +kernel
theorem dX8_levels_50 : decode cX8_levels 50 = .ok (.istore_n 1, 1) := by decide +kernel
theorem dX8_levels_51 : decode cX8_levels 51 = .ok (.iload_n 1, 1) := by decide +kernel
theorem dX8_levels_52 : decode cX8_levels 52 = .ok (.bipush 10, 2) := by decide +kernel
theorem dX8_levels_54 : decode cX8_levels 54 = .ok (.if_icmp .ge 125, 3) := by decide +kernel
theorem dX8_levels_57 : decode cX8_levels 57 = .ok (.iconst 0, 1) := by decide +kernel
theorem dX8_levels_58 : decode cX8_levels 58 = .ok (.istore_n 2, 1) := by decide +kernel
theorem dX8_levels_59 : decode cX8_levels 59 = .ok (.iload_n 2, 1) := by decide +kernel
theorem dX8_levels_60 : decode cX8_levels 60 = .ok (.aload_n 0, 1) := by decide +kernel
theorem dX8_levels_61 : decode cX8_levels 61 = .ok (.getfield 7, 3) := by decide +kernel
theorem dX8_levels_64 : decode cX8_levels 64 = .ok (.iconst 0, 1) := by decide +kernel
theorem dX8_levels_65 : decode cX8_levels 65 = .ok (.iaload, 1) := by decide +kernel
theorem dX8_levels_66 : decode cX8_levels 66 = .ok (.if_icmp .ge 107, 3) := by decide +kernel
theorem dX8_levels_69 : decode cX8_levels 69 = .ok (.aload_n 0, 1) := by decide +kernel
theorem dX8_levels_70 : decode cX8_levels 70 = .ok (.getfield 36, 3) := by decide +kernel
theorem dX8_levels_73 : decode cX8_levels 73 = .ok (.iload_n 2, 1) := by decide +kernel
theorem dX8_levels_74 : decode cX8_levels 74 = .ok (.iaload, 1) := by decide +kernel
theorem dX8_levels_75 : decode cX8_levels 75 = .ok (.iload_n 1, 1) := by decide +kernel
theorem dX8_levels_76 : decode cX8_levels 76 = .ok (.if_icmp .eq 6, 3) := by decide +kernel
theorem dX8_levels_79 : decode cX8_levels 79 = .ok (.goto 88, 3) := by decide +kernel
theorem dX8_levels_82 : decode cX8_levels 82 = .ok (.iconst 0, 1) := by decide +kernel
theorem dX8_levels_83 : decode cX8_levels 83 = .ok (.istore_n 3, 1) := by decide +kernel
theorem dX8_levels_84 : decode cX8_levels 84 = .ok (.iload_n 3, 1) := by decide +kernel
theorem dX8_levels_85 : decode cX8_levels 85 = .ok (.aload_n 0, 1) := by decide +kernel
theorem dX8_levels_86 : decode cX8_levels 86 = .ok (.getfield 7, 3) := by decide +kernel
theorem dX8_levels_89 : decode cX8_levels 89 = .ok (.iconst 1, 1) := by decide +kernel
theorem dX8_levels_90 : decode cX8_levels 90 = .ok (.iaload, 1) := by decide +kernel
theorem dX8_levels_91 : decode cX8_levels 91 = .ok (.if_icmp .ge 76, 3) := by decide +kernel
theorem dX8_levels_94 : decode cX8_levels 94 = .ok (.aload_n 0, 1) := by decide +kernel
theorem dX8_levels_95 : decode cX8_levels 95 = .ok (.iload_n 2, 1) := by decide +kernel
theorem dX8_levels_96 : decode cX8_levels 96 = .ok (.iload_n 3, 1) := by decide +kernel
theorem dX8_levels_97 : decode cX8_levels 97 = .ok (.invokevirtual 90, 3) := by decide +kernel
theorem dX8_levels_100 : decode cX8_levels 100 = .ok (.ifCond .ne 6, 3) := by decide +kernel
theorem dX8_levels_103 : decode cX8_levels 103 = .ok (.goto 58, 3) := by decide +kernel
theorem dX8_levels_106 : decode cX8_levels 106 = .ok (.aload_n 0, 1) := by decide +kernel
theorem dX8_levels_107 : decode cX8_levels 107 = .ok (.iload_n 3, 1) := by decide +kernel
theorem dX8_levels_108 : decode cX8_levels 108 = .ok (.iconst 1, 1) := by decide +kernel
theorem dX8_levels_109 : decode cX8_levels 109 = .ok (.invokevirtual 76, 3) := by decide +kernel
theorem dX8_levels_112 : decode cX8_levels 112 = .ok (.istore 4, 2) := by decide +kernel
theorem dX8_levels_114 : decode cX8_levels 114 = .ok (.iload 4, 2) := by decide +kernel
theorem dX8_levels_116 : decode cX8_levels 116 = .ok (.ifCond .ge 25, 3) := by decide +kernel
theorem dX8_levels_119 : decode cX8_levels 119 = .ok (.aload_n 0, 1) := by decide +kernel
theorem dX8_levels_120 : decode cX8_levels 120 = .ok (.aload_n 0, 1) := by decide +kernel
theorem dX8_levels_121 : decode cX8_levels 121 = .ok (.getfield 125, 3) := by decide +kernel
theorem dX8_levels_124 : decode cX8_levels 124 = .ok (.ifCond .ge 7, 3) := by decide +kernel
theorem dX8_levels_127 : decode cX8_levels 127 = .ok (.iload_n 1, 1) := by decide +kernel
theorem dX8_levels_128 : decode cX8_levels 128 = .ok (.goto 7, 3) := by decide +kernel
theorem dX8_levels_131 : decode cX8_levels 131 = .ok (.aload_n 0, 1) := by decide +kernel
theorem dX8_levels_132 : decode cX8_levels 132 = .ok (.getfield 125, 3) := by decide +kernel
theorem dX8_levels_135 : decode cX8_levels 135 = .ok (.putfield 125, 3) := by decide +kernel
theorem dX8_levels_138 : decode cX8_levels 138 = .ok (.goto 23, 3) := by decide +kernel
theorem dX8_levels_141 : decode cX8_levels 141 = .ok (.aload_n 0, 1) := by decide +kernel
theorem dX8_levels_142 : decode cX8_levels 142 = .ok (.getfield 36, 3) := by decide +kernel
theorem dX8_levels_145 : decode cX8_levels 145 = .ok (.iload 4, 2) := by decide +kernel
theorem dX8_levels_147 : decode cX8_levels 147 = .ok (.iaload, 1) := by decide +kernel
theorem dX8_levels_148 : decode cX8_levels 148 = .ok (.ifCond .ge 13, 3) := by decide +kernel
theorem dX8_levels_151 : decode cX8_levels 151 = .ok (.aload_n 0, 1) := by decide +kernel
theorem dX8_levels_152 : decode cX8_levels 152 = .ok (.getfield 36, 3) := by decide +kernel
theorem dX8_levels_155 : decode cX8_levels 155 = .ok (.iload 4, 2) := by decide +kernel
theorem dX8_levels_157 : decode cX8_levels 157 = .ok (.iload_n 1, 1) := by decide +kernel
theorem dX8_levels_158 : decode cX8_levels 158 = .ok (.iconst 1, 1) := by decide +kernel
theorem dX8_levels_159 : decode cX8_levels 159 = .ok (.iadd, 1) := by decide +kernel
theorem dX8_levels_160 : decode cX8_levels 160 = .ok (.iastore, 1) := by decide +kernel
theorem dX8_levels_161 : decode cX8_levels 161 = .ok (.iinc 3 1, 3) := by decide +kernel
theorem dX8_levels_164 : decode cX8_levels 164 = .ok (.goto (-80), 3) := by decide +kernel
theorem dX8_levels_167 : decode cX8_levels 167 = .ok (.iinc 2 1, 3) := by decide +kernel
theorem dX8_levels_170 : decode cX8_levels 170 = .ok (.goto (-111), 3) := by decide +kernel
theorem dX8_levels_173 : decode cX8_levels 173 = .ok (.iinc 1 1, 3) := by decide +kernel
theorem dX8_levels_176 : decode cX8_levels 176 = .ok (.goto (-125), 3) := by decide +kernel
theorem dX8_levels_179 : decode cX8_levels 179 = .ok (.aload_n 0, 1) := by decide +kernel
theorem dX8_levels_180 : decode cX8_levels 180 = .ok (.getfield 125, 3) := by decide +kernel
theorem dX8_levels_183 : decode cX8_levels 183 = .ok (.ifCond .lt 7, 3) := by decide +kernel
theorem dX8_levels_186 : decode cX8_levels 186 = .ok (.iconst 1, 1) := by decide +kernel
theorem dX8_levels_187 : decode cX8_levels 187 = .ok (.goto 4, 3) := by decide +kernel
theorem dX8_levels_190 : decode cX8_levels 190 = .ok (.iconst 0, 1) := by decide +kernel
theorem dX8_levels_191 : decode cX8_levels 191 = .ok (.ireturn, 1) := by decide +kernel
set_option maxRecDepth 20000 in
theorem ggX8_takes_X8_isFit : GoodIn wsX8_takes wsX8_isFit := goodIn_ca (goodIn_r _ [9, 1, 10, 11, 12, 8, 13, 14, 15, 16, 17, 18, 19, 20, 21, 22, 23, 24, 32, 33, 34, 35, 36, 37, 38, 39, 40, 41, 42, 43, 44, 45, 46, 47, 48, 49, 50, 51, 52, 53, 54, 55] (by decide +kernel) (by decide +kernel)) (goodIn_sub (fun _ h => List.mem_cons_of_mem _ (List.mem_append_right _ h)) (by decide +kernel))
set_option maxRecDepth 20000 in
theorem gX8_takes_X8_isFit : GoodIn wsX8_takes (wsV RX8 90 RX8 yX8_isFit wsX8_isFit) := goodIn_app (goodIn_of _ (by decide +kernel)) ggX8_takes_X8_isFit
set_option maxRecDepth 20000 in
theorem ggX8_takes_X8_ofLock : GoodIn wsX8_takes wsX8_ofLock := goodIn_ca (goodIn_r _ [17, 1, 32, 33, 34, 35, 36, 37, 38, 39, 40, 41, 42, 43, 44, 45, 46, 47, 48, 49, 50, 51, 52, 53, 54, 55] (by decide +kernel) (by decide +kernel)) (goodIn_sub (fun _ h => List.mem_cons_of_mem _ (List.mem_append_right _ h)) (by decide +kernel))
set_option maxRecDepth 20000 in
theorem gX8_takes_X8_ofLock : GoodIn wsX8_takes (wsV RX8 76 RX8 yX8_ofLock wsX8_ofLock) := goodIn_app (goodIn_of _ (by decide +kernel)) ggX8_takes_X8_ofLock
set_option maxRecDepth 20000 in
theorem ggX8_takes_X8_takes : GoodIn wsX8_takes wsX8_takes := goodIn_ca (goodIn_r _ [0, 1, 2, 3, 4, 5, 6, 7, 8, 9, 10, 11, 12, 13, 14, 15, 16, 17, 18, 19, 20, 21, 22, 23, 24, 25, 26, 27, 28, 29, 30, 31, 32, 33, 34, 35, 36, 37, 38, 39, 40, 41, 42, 43, 44, 45, 46, 47, 48, 49, 50, 51, 52, 53, 54, 55] (by decide +kernel) (by decide +kernel)) (goodIn_sub (fun _ h => List.mem_cons_of_mem _ (List.mem_append_right _ h)) (by decide +kernel))
set_option maxRecDepth 20000 in
theorem gX8_takes_X8_takes : GoodIn wsX8_takes (wsV RX8 128 RX8 yX8_takes wsX8_takes) := goodIn_app (goodIn_of _ (by decide +kernel)) ggX8_takes_X8_takes
set_option maxRecDepth 20000 in
theorem ggX8_takes_X8_puts : GoodIn wsX8_takes wsX8_puts := goodIn_ca (goodIn_r _ [31, 1, 32, 33, 34, 35, 36, 37, 38, 39, 40, 41, 42, 43, 44, 45, 46, 47, 48, 49, 50, 51, 52, 53, 54, 55] (by decide +kernel) (by decide +kernel)) (goodIn_sub (fun _ h => List.mem_cons_of_mem _ (List.mem_append_right _ h)) (by decide +kernel))
set_option maxRecDepth 20000 in
theorem gX8_takes_X8_puts : GoodIn wsX8_takes (wsV RX8 119 RX8 yX8_puts wsX8_puts) := goodIn_app (goodIn_of _ (by decide +kernel)) ggX8_takes_X8_puts
theorem dX8_takes_0 : decode cX8_takes 0 = .ok (.iconst 0, 1) := by decide +kernel
theorem dX8_takes_1 : decode cX8_takes 1 = .ok (.istore_n 2, 1) := by decide +kernel
theorem dX8_takes_2 : decode cX8_takes 2 = .ok (.iload_n 2, 1) := by decide +kernel
theorem dX8_takes_3 : decode cX8_takes 3 = .ok (.aload_n 0, 1) := by decide +kernel
theorem dX8_takes_4 : decode cX8_takes 4 = .ok (.getfield 7, 3) := by decide +kernel
theorem dX8_takes_7 : decode cX8_takes 7 = .ok (.iconst 1, 1) := by decide +kernel
theorem dX8_takes_8 : decode cX8_takes 8 = .ok (.iaload, 1) := by decide +kernel
theorem dX8_takes_9 : decode cX8_takes 9 = .ok (.if_icmp .ge 102, 3) := by decide +kernel
theorem dX8_takes_12 : decode cX8_takes 12 = .ok (.aload_n 0, 1) := by decide +kernel
theorem dX8_takes_13 : decode cX8_takes 13 = .ok (.iload_n 1, 1) := by decide +kernel
theorem dX8_takes_14 : decode cX8_takes 14 = .ok (.iload_n 2, 1) := by decide +kernel
theorem dX8_takes_15 : decode cX8_takes 15 = .ok (.invokevirtual 90, 3) := by decide +kernel
theorem dX8_takes_18 : decode cX8_takes 18 = .ok (.ifCond .ne 6, 3) := by decide +kernel
theorem dX8_takes_21 : decode cX8_takes 21 = .ok (.goto 84, 3) := by decide +kernel
theorem dX8_takes_24 : decode cX8_takes 24 = .ok (.aload_n 0, 1) := by decide +kernel
theorem dX8_takes_25 : decode cX8_takes 25 = .ok (.iload_n 2, 1) := by decide +kernel
theorem dX8_takes_26 : decode cX8_takes 26 = .ok (.iconst 1, 1) := by decide +kernel
theorem dX8_takes_27 : decode cX8_takes 27 = .ok (.invokevirtual 76, 3) := by decide +kernel
theorem dX8_takes_30 : decode cX8_takes 30 = .ok (.istore_n 3, 1) := by decide +kernel
theorem dX8_takes_31 : decode cX8_takes 31 = .ok (.iload_n 3, 1) := by decide +kernel
theorem dX8_takes_32 : decode cX8_takes 32 = .ok (.ifCond .lt 50, 3) := by decide +kernel
theorem dX8_takes_35 : decode cX8_takes 35 = .ok (.aload_n 0, 1) := by decide +kernel
theorem dX8_takes_36 : decode cX8_takes 36 = .ok (.getfield 36, 3) := by decide +kernel
theorem dX8_takes_39 : decode cX8_takes 39 = .ok (.iload_n 3, 1) := by decide +kernel
theorem dX8_takes_40 : decode cX8_takes 40 = .ok (.iaload, 1) := by decide +kernel
theorem dX8_takes_41 : decode cX8_takes 41 = .ok (.aload_n 0, 1) := by decide +kernel
theorem dX8_takes_42 : decode cX8_takes 42 = .ok (.getfield 36, 3) := by decide +kernel
theorem dX8_takes_45 : decode cX8_takes 45 = .ok (.iload_n 1, 1) := by decide +kernel
theorem dX8_takes_46 : decode cX8_takes 46 = .ok (.iaload, 1) := by decide +kernel
theorem dX8_takes_47 : decode cX8_takes 47 = .ok (.iconst 1, 1) := by decide +kernel
theorem dX8_takes_48 : decode cX8_takes 48 = .ok (.iadd, 1) := by decide +kernel
theorem dX8_takes_49 : decode cX8_takes 49 = .ok (.if_icmp .ne 37, 3) := by decide +kernel
theorem dX8_takes_52 : decode cX8_takes 52 = .ok (.aload_n 0, 1) := by decide +kernel
theorem dX8_takes_53 : decode cX8_takes 53 = .ok (.getfield 36, 3) := by decide +kernel
theorem dX8_takes_56 : decode cX8_takes 56 = .ok (.iload_n 3, 1) := by decide +kernel
theorem dX8_takes_57 : decode cX8_takes 57 = .ok (.iaload, 1) := by decide +kernel
theorem dX8_takes_58 : decode cX8_takes 58 = .ok (.aload_n 0, 1) := by decide +kernel
theorem dX8_takes_59 : decode cX8_takes 59 = .ok (.getfield 125, 3) := by decide +kernel
theorem dX8_takes_62 : decode cX8_takes 62 = .ok (.if_icmp .gt 24, 3) := by decide +kernel
theorem dX8_takes_65 : decode cX8_takes 65 = .ok (.aload_n 0, 1) := by decide +kernel
theorem dX8_takes_66 : decode cX8_takes 66 = .ok (.getfield 39, 3) := by decide +kernel
theorem dX8_takes_69 : decode cX8_takes 69 = .ok (.iload_n 3, 1) := by decide +kernel
theorem dX8_takes_70 : decode cX8_takes 70 = .ok (.baload, 1) := by decide +kernel
theorem dX8_takes_71 : decode cX8_takes 71 = .ok (.ifCond .ne 15, 3) := by decide +kernel
theorem dX8_takes_74 : decode cX8_takes 74 = .ok (.aload_n 0, 1) := by decide +kernel
theorem dX8_takes_75 : decode cX8_takes 75 = .ok (.iload_n 3, 1) := by decide +kernel
theorem dX8_takes_76 : decode cX8_takes 76 = .ok (.invokevirtual 128, 3) := by decide +kernel
theorem dX8_takes_79 : decode cX8_takes 79 = .ok (.ifCond .eq 7, 3) := by decide +kernel
theorem dX8_takes_82 : decode cX8_takes 82 = .ok (.iconst 1, 1) := by decide +kernel
theorem dX8_takes_83 : decode cX8_takes 83 = .ok (.goto 4, 3) := by decide +kernel
theorem dX8_takes_86 : decode cX8_takes 86 = .ok (.iconst 0, 1) := by decide +kernel
theorem dX8_takes_87 : decode cX8_takes 87 = .ok (.istore 4, 2) := by decide +kernel
theorem dX8_takes_89 : decode cX8_takes 89 = .ok (.iload 4, 2) := by decide +kernel
theorem dX8_takes_91 : decode cX8_takes 91 = .ok (.ifCond .ne 6, 3) := by decide +kernel
theorem dX8_takes_94 : decode cX8_takes 94 = .ok (.goto 11, 3) := by decide +kernel
theorem dX8_takes_97 : decode cX8_takes 97 = .ok (.aload_n 0, 1) := by decide +kernel
theorem dX8_takes_98 : decode cX8_takes 98 = .ok (.iload_n 1, 1) := by decide +kernel
theorem dX8_takes_99 : decode cX8_takes 99 = .ok (.iload_n 2, 1) := by decide +kernel
theorem dX8_takes_100 : decode cX8_takes 100 = .ok (.invokevirtual 119, 3) := by decide +kernel
theorem dX8_takes_103 : decode cX8_takes 103 = .ok (.iconst 1, 1) := by decide +kernel
theorem dX8_takes_104 : decode cX8_takes 104 = .ok (.ireturn, 1) := by decide +kernel
theorem dX8_takes_105 : decode cX8_takes 105 = .ok (.iinc 2 1, 3) := by decide +kernel
theorem dX8_takes_108 : decode cX8_takes 108 = .ok (.goto (-106), 3) := by decide +kernel
theorem dX8_takes_111 : decode cX8_takes 111 = .ok (.aload_n 0, 1) := by decide +kernel
theorem dX8_takes_112 : decode cX8_takes 112 = .ok (.getfield 39, 3) := by decide +kernel
theorem dX8_takes_115 : decode cX8_takes 115 = .ok (.iload_n 1, 1) := by decide +kernel
theorem dX8_takes_116 : decode cX8_takes 116 = .ok (.iconst 1, 1) := by decide +kernel
theorem dX8_takes_117 : decode cX8_takes 117 = .ok (.bastore, 1) := by decide +kernel
theorem dX8_takes_118 : decode cX8_takes 118 = .ok (.iconst 0, 1) := by decide +kernel
theorem dX8_takes_119 : decode cX8_takes 119 = .ok (.ireturn, 1) := by decide +kernel
set_option maxRecDepth 20000 in
theorem ggX8_adds0_X8_levels : GoodIn wsX8_adds0 wsX8_levels := goodIn_ca (goodIn_r _ [8, 3, 2, 9, 10, 11, 12, 7, 13, 14, 15, 16, 17, 18, 19, 20, 21, 22, 23, 24, 25, 26, 27, 28, 37, 38, 39, 40, 41, 42, 43, 44, 45, 46, 47, 48, 49, 50, 51, 52, 53, 54, 55, 56, 57, 58, 59, 60] (by decide +kernel) (by decide +kernel)) (goodIn_sub (fun _ h => List.mem_cons_of_mem _ (List.mem_append_right _ h)) (by decide +kernel))
set_option maxRecDepth 20000 in
theorem gX8_adds0_X8_levels : GoodIn wsX8_adds0 (wsV RX8 131 RX8 yX8_levels wsX8_levels) := goodIn_app (goodIn_of _ (by decide +kernel)) ggX8_adds0_X8_levels
set_option maxRecDepth 20000 in
theorem ggX8_adds0_X8_takes : GoodIn wsX8_adds0 wsX8_takes := goodIn_ca (goodIn_r _ [32, 2, 3, 9, 1, 14, 15, 16, 7, 17, 18, 19, 20, 21, 22, 23, 24, 25, 10, 11, 12, 13, 26, 27, 28, 29, 30, 31, 33, 34, 35, 36, 37, 38, 39, 40, 41, 42, 43, 44, 45, 46, 47, 48, 49, 50, 51, 52, 53, 54, 55, 56, 57, 58, 59, 60] (by decide +kernel) (by decide +kernel)) (goodIn_sub (fun _ h => List.mem_cons_of_mem _ (List.mem_append_right _ h)) (by decide +kernel))
set_option maxRecDepth 20000 in
theorem gX8_adds0_X8_takes : GoodIn wsX8_adds0 (wsV RX8 128 RX8 yX8_takes wsX8_takes) := goodIn_app (goodIn_of _ (by decide +kernel)) ggX8_adds0_X8_takes
theorem dX8_adds0_0 : decode cX8_adds0 0 = .ok (.aload_n 0, 1) := by decide +kernel
theorem dX8_adds0_1 : decode cX8_adds0 1 = .ok (.invokevirtual 131, 3) := by decide +kernel
theorem dX8_adds0_4 : decode cX8_adds0 4 = .ok (.ifCond .ne 5, 3) := by decide +kernel
theorem dX8_adds0_7 : decode cX8_adds0 7 = .ok (.iconst 0, 1) := by decide +kernel
theorem dX8_adds0_8 : decode cX8_adds0 8 = .ok (.ireturn, 1) := by decide +kernel
theorem dX8_adds0_9 : decode cX8_adds0 9 = .ok (.iconst 0, 1) := by decide +kernel
theorem dX8_adds0_10 : decode cX8_adds0 10 = .ok (.istore_n 1, 1) := by decide +kernel
theorem dX8_adds0_11 : decode cX8_adds0 11 = .ok (.iconst 0, 1) := by decide +kernel
theorem dX8_adds0_12 : decode cX8_adds0 12 = .ok (.istore_n 2, 1) := by decide +kernel
theorem dX8_adds0_13 : decode cX8_adds0 13 = .ok (.iload_n 2, 1) := by decide +kernel
theorem dX8_adds0_14 : decode cX8_adds0 14 = .ok (.bipush 10, 2) := by decide +kernel
theorem dX8_adds0_16 : decode cX8_adds0 16 = .ok (.if_icmp .ge 16, 3) := by decide +kernel
theorem dX8_adds0_19 : decode cX8_adds0 19 = .ok (.aload_n 0, 1) := by decide +kernel
theorem dX8_adds0_20 : decode cX8_adds0 20 = .ok (.getfield 39, 3) := by decide +kernel
theorem dX8_adds0_23 : decode cX8_adds0 23 = .ok (.iload_n 2, 1) := by decide +kernel
theorem dX8_adds0_24 : decode cX8_adds0 24 = .ok (.iconst 0, 1) := by decide +kernel
theorem dX8_adds0_25 : decode cX8_adds0 25 = .ok (.bastore, 1) := by decide +kernel
theorem dX8_adds0_26 : decode cX8_adds0 26 = .ok (.iinc 2 1, 3) := by decide +kernel
theorem dX8_adds0_29 : decode cX8_adds0 29 = .ok (.goto (-16), 3) := by decide +kernel
theorem dX8_adds0_32 : decode cX8_adds0 32 = .ok (.iconst 0, 1) := by decide +kernel
theorem dX8_adds0_33 : decode cX8_adds0 33 = .ok (.istore_n 2, 1) := by decide +kernel
theorem dX8_adds0_34 : decode cX8_adds0 34 = .ok (.iload_n 2, 1) := by decide +kernel
theorem dX8_adds0_35 : decode cX8_adds0 35 = .ok (.aload_n 0, 1) := by decide +kernel
theorem dX8_adds0_36 : decode cX8_adds0 36 = .ok (.getfield 7, 3) := by decide +kernel
theorem dX8_adds0_39 : decode cX8_adds0 39 = .ok (.iconst 0, 1) := by decide +kernel
theorem dX8_adds0_40 : decode cX8_adds0 40 = .ok (.iaload, 1) := by decide +kernel
theorem dX8_adds0_41 : decode cX8_adds0 41 = .ok (.if_icmp .ge 34, 3) := by decide +kernel
theorem dX8_adds0_44 : decode cX8_adds0 44 = .ok (.iload_n 1, 1) := by decide +kernel
theorem dX8_adds0_45 : decode cX8_adds0 45 = .ok (.aload_n 0, 1) := by decide +kernel
theorem dX8_adds0_46 : decode cX8_adds0 46 = .ok (.getfield 36, 3) := by decide +kernel
theorem dX8_adds0_49 : decode cX8_adds0 49 = .ok (.iload_n 2, 1) := by decide +kernel
theorem dX8_adds0_50 : decode cX8_adds0 50 = .ok (.iaload, 1) := by decide +kernel
theorem dX8_adds0_51 : decode cX8_adds0 51 = .ok (.ifCond .ne 15, 3) := by decide +kernel
theorem dX8_adds0_54 : decode cX8_adds0 54 = .ok (.aload_n 0, 1) := by decide +kernel
theorem dX8_adds0_55 : decode cX8_adds0 55 = .ok (.iload_n 2, 1) := by decide +kernel
theorem dX8_adds0_56 : decode cX8_adds0 56 = .ok (.invokevirtual 128, 3) := by decide +kernel
theorem dX8_adds0_59 : decode cX8_adds0 59 = .ok (.ifCond .eq 7, 3) := by decide +kernel
theorem dX8_adds0_62 : decode cX8_adds0 62 = .ok (.iconst 1, 1) := by decide +kernel
theorem dX8_adds0_63 : decode cX8_adds0 63 = .ok (.goto 4, 3) := by decide +kernel
theorem dX8_adds0_66 : decode cX8_adds0 66 = .ok (.iconst 0, 1) := by decide +kernel
theorem dX8_adds0_67 : decode cX8_adds0 67 = .ok (.iadd, 1) := by decide +kernel
theorem dX8_adds0_68 : decode cX8_adds0 68 = .ok (.istore_n 1, 1) := by decide +kernel
theorem dX8_adds0_69 : decode cX8_adds0 69 = .ok (.iinc 2 1, 3) := by decide +kernel
theorem dX8_adds0_72 : decode cX8_adds0 72 = .ok (.goto (-38), 3) := by decide +kernel
theorem dX8_adds0_75 : decode cX8_adds0 75 = .ok (.iload_n 1, 1) := by decide +kernel
theorem dX8_adds0_76 : decode cX8_adds0 76 = .ok (.ireturn, 1) := by decide +kernel
set_option maxRecDepth 20000 in
theorem ggX8_wave_X8_levels : GoodIn wsX8_wave wsX8_levels := goodIn_ca (goodIn_r _ [6, 7, 1, 8, 9, 10, 11, 5, 12, 13, 14, 15, 16, 17, 18, 19, 20, 21, 22, 23, 24, 25, 26, 27, 64, 65, 66, 67, 68, 69, 70, 71, 72, 73, 74, 75, 76, 77, 78, 79, 80, 81, 82, 83, 84, 85, 86, 87] (by decide +kernel) (by decide +kernel)) (goodIn_sub (fun _ h => List.mem_cons_of_mem _ (List.mem_append_right _ h)) (by decide +kernel))
set_option maxRecDepth 20000 in
theorem gX8_wave_X8_levels : GoodIn wsX8_wave (wsV RX8 131 RX8 yX8_levels wsX8_levels) := goodIn_app (goodIn_of _ (by decide +kernel)) ggX8_wave_X8_levels
set_option maxRecDepth 20000 in
theorem ggX8_wave_X8_openMany : GoodIn wsX8_wave wsX8_openMany := goodIn_ca (goodIn_r _ [31, 1, 21, 22, 23, 5, 24, 64, 65, 66, 67, 68, 69, 70, 71, 72, 73, 74, 75, 76, 77, 78, 79, 80, 81, 82, 83, 84, 85, 86, 87] (by decide +kernel) (by decide +kernel)) (goodIn_sub (fun _ h => List.mem_cons_of_mem _ (List.mem_append_right _ h)) (by decide +kernel))
set_option maxRecDepth 20000 in
theorem gX8_wave_X8_openMany : GoodIn wsX8_wave (wsV RX8 122 RX8 yX8_openMany wsX8_openMany) := goodIn_app (goodIn_of _ (by decide +kernel)) ggX8_wave_X8_openMany
set_option maxRecDepth 20000 in
theorem ggX8_wave_X8_refuses : GoodIn wsX8_wave wsX8_refuses := goodIn_r _ [35, 36, 37, 38, 39, 40, 41, 64, 65, 66, 67, 68, 69, 70, 71, 72, 73, 74, 75, 76, 77, 78, 79, 80, 81, 82, 83, 84, 85, 86, 87] (by decide +kernel) (by decide +kernel)
set_option maxRecDepth 20000 in
theorem gX8_wave_X8_refuses : GoodIn wsX8_wave (wsV RX8 98 RX8 yX8_refuses wsX8_refuses) := goodIn_app (goodIn_of _ (by decide +kernel)) ggX8_wave_X8_refuses
set_option maxRecDepth 20000 in
theorem ggX8_wave_X8_keeps : GoodIn wsX8_wave wsX8_keeps := goodIn_ca (goodIn_r _ [45, 36, 39, 46, 47, 48, 49, 5, 50, 64, 65, 66, 67, 68, 69, 70, 71, 72, 73, 74, 75, 76, 77, 78, 79, 80, 81, 82, 83, 84, 85, 86, 87] (by decide +kernel) (by decide +kernel)) (goodIn_sub (fun _ h => List.mem_cons_of_mem _ (List.mem_append_right _ h)) (by decide +kernel))
set_option maxRecDepth 20000 in
theorem gX8_wave_X8_keeps : GoodIn wsX8_wave (wsV RX8 101 RX8 yX8_keeps wsX8_keeps) := goodIn_app (goodIn_of _ (by decide +kernel)) ggX8_wave_X8_keeps
set_option maxRecDepth 20000 in
theorem ggX8_wave_X8_adds0 : GoodIn wsX8_wave wsX8_adds0 := goodIn_ca (goodIn_r _ [54, 55, 1, 7, 2, 3, 4, 5, 6, 8, 9, 10, 11, 12, 13, 14, 15, 16, 17, 18, 19, 20, 21, 22, 23, 24, 25, 26, 27, 56, 57, 58, 59, 60, 61, 62, 63, 64, 65, 66, 67, 68, 69, 70, 71, 72, 73, 74, 75, 76, 77, 78, 79, 80, 81, 82, 83, 84, 85, 86, 87] (by decide +kernel) (by decide +kernel)) (goodIn_sub (fun _ h => List.mem_cons_of_mem _ (List.mem_append_right _ h)) (by decide +kernel))
set_option maxRecDepth 20000 in
theorem gX8_wave_X8_adds0 : GoodIn wsX8_wave (wsV RX8 135 RX8 yX8_adds0 wsX8_adds0) := goodIn_app (goodIn_of _ (by decide +kernel)) ggX8_wave_X8_adds0
theorem dX8_wave_0 : decode cX8_wave 0 = .ok (.aload_n 0, 1) := by decide +kernel
theorem dX8_wave_1 : decode cX8_wave 1 = .ok (.invokevirtual 131, 3) := by decide +kernel
theorem dX8_wave_4 : decode cX8_wave 4 = .ok (.ifCond .ne 14, 3) := by decide +kernel
theorem dX8_wave_7 : decode cX8_wave 7 = .ok (.aload_n 0, 1) := by decide +kernel
theorem dX8_wave_8 : decode cX8_wave 8 = .ok (.bipush 10, 2) := by decide +kernel
theorem dX8_wave_10 : decode cX8_wave 10 = .ok (.aload_n 0, 1) := by decide +kernel
theorem dX8_wave_11 : decode cX8_wave 11 = .ok (.invokevirtual 122, 3) := by decide +kernel
theorem dX8_wave_14 : decode cX8_wave 14 = .ok (.invokevirtual 98, 3) := by decide +kernel
theorem dX8_wave_17 : decode cX8_wave 17 = .ok (.ireturn, 1) := by decide +kernel
theorem dX8_wave_18 : decode cX8_wave 18 = .ok (.aload_n 0, 1) := by decide +kernel
theorem dX8_wave_19 : decode cX8_wave 19 = .ok (.aload_n 0, 1) := by decide +kernel
theorem dX8_wave_20 : decode cX8_wave 20 = .ok (.getfield 7, 3) := by decide +kernel
theorem dX8_wave_23 : decode cX8_wave 23 = .ok (.invokevirtual 101, 3) := by decide +kernel
theorem dX8_wave_26 : decode cX8_wave 26 = .ok (.aload_n 0, 1) := by decide +kernel
theorem dX8_wave_27 : decode cX8_wave 27 = .ok (.invokevirtual 135, 3) := by decide +kernel
theorem dX8_wave_30 : decode cX8_wave 30 = .ok (.istore_n 1, 1) := by decide +kernel
theorem dX8_wave_31 : decode cX8_wave 31 = .ok (.aload_n 0, 1) := by decide +kernel
theorem dX8_wave_32 : decode cX8_wave 32 = .ok (.getfield 7, 3) := by decide +kernel
theorem dX8_wave_35 : decode cX8_wave 35 = .ok (.iconst 3, 1) := by decide +kernel
theorem dX8_wave_36 : decode cX8_wave 36 = .ok (.dup2, 1) := by decide +kernel
theorem dX8_wave_37 : decode cX8_wave 37 = .ok (.iaload, 1) := by decide +kernel
theorem dX8_wave_38 : decode cX8_wave 38 = .ok (.iconst 1, 1) := by decide +kernel
theorem dX8_wave_39 : decode cX8_wave 39 = .ok (.iadd, 1) := by decide +kernel
theorem dX8_wave_40 : decode cX8_wave 40 = .ok (.iastore, 1) := by decide +kernel
theorem dX8_wave_41 : decode cX8_wave 41 = .ok (.aload_n 0, 1) := by decide +kernel
theorem dX8_wave_42 : decode cX8_wave 42 = .ok (.getfield 7, 3) := by decide +kernel
theorem dX8_wave_45 : decode cX8_wave 45 = .ok (.iconst 4, 1) := by decide +kernel
theorem dX8_wave_46 : decode cX8_wave 46 = .ok (.dup2, 1) := by decide +kernel
theorem dX8_wave_47 : decode cX8_wave 47 = .ok (.iaload, 1) := by decide +kernel
theorem dX8_wave_48 : decode cX8_wave 48 = .ok (.iload_n 1, 1) := by decide +kernel
theorem dX8_wave_49 : decode cX8_wave 49 = .ok (.iadd, 1) := by decide +kernel
theorem dX8_wave_50 : decode cX8_wave 50 = .ok (.iastore, 1) := by decide +kernel
theorem dX8_wave_51 : decode cX8_wave 51 = .ok (.iload_n 1, 1) := by decide +kernel
theorem dX8_wave_52 : decode cX8_wave 52 = .ok (.ireturn, 1) := by decide +kernel
set_option maxRecDepth 20000 in
theorem ggX8_fitsOf_X8_isFit : GoodIn wsX8_fitsOf wsX8_isFit := goodIn_ca (goodIn_r _ [6, 1, 7, 8, 9, 5, 10, 11, 12, 13, 14, 15, 16, 17, 18, 19, 20, 21, 22, 23, 24, 25, 26, 27, 28, 29, 30, 31, 32, 33, 34, 35, 36, 37, 38, 39, 40, 41, 42, 43, 44, 45] (by decide +kernel) (by decide +kernel)) (goodIn_sub (fun _ h => List.mem_cons_of_mem _ (List.mem_append_right _ h)) (by decide +kernel))
set_option maxRecDepth 20000 in
theorem gX8_fitsOf_X8_isFit : GoodIn wsX8_fitsOf (wsV RX8 90 RX8 yX8_isFit wsX8_isFit) := goodIn_app (goodIn_of _ (by decide +kernel)) ggX8_fitsOf_X8_isFit
theorem dX8_fitsOf_0 : decode cX8_fitsOf 0 = .ok (.iconst 0, 1) := by decide +kernel
theorem dX8_fitsOf_1 : decode cX8_fitsOf 1 = .ok (.istore_n 2, 1) := by decide +kernel
theorem dX8_fitsOf_2 : decode cX8_fitsOf 2 = .ok (.iconst 0, 1) := by decide +kernel
theorem dX8_fitsOf_3 : decode cX8_fitsOf 3 = .ok (.istore_n 3, 1) := by decide +kernel
theorem dX8_fitsOf_4 : decode cX8_fitsOf 4 = .ok (.iload_n 3, 1) := by decide +kernel
theorem dX8_fitsOf_5 : decode cX8_fitsOf 5 = .ok (.aload_n 0, 1) := by decide +kernel
theorem dX8_fitsOf_6 : decode cX8_fitsOf 6 = .ok (.getfield 7, 3) := by decide +kernel
theorem dX8_fitsOf_9 : decode cX8_fitsOf 9 = .ok (.iconst 1, 1) := by decide +kernel
theorem dX8_fitsOf_10 : decode cX8_fitsOf 10 = .ok (.iaload, 1) := by decide +kernel
theorem dX8_fitsOf_11 : decode cX8_fitsOf 11 = .ok (.if_icmp .ge 26, 3) := by decide +kernel
theorem dX8_fitsOf_14 : decode cX8_fitsOf 14 = .ok (.iload_n 2, 1) := by decide +kernel
theorem dX8_fitsOf_15 : decode cX8_fitsOf 15 = .ok (.aload_n 0, 1) := by decide +kernel
theorem dX8_fitsOf_16 : decode cX8_fitsOf 16 = .ok (.iload_n 1, 1) := by decide +kernel
theorem dX8_fitsOf_17 : decode cX8_fitsOf 17 = .ok (.iload_n 3, 1) := by decide +kernel
theorem dX8_fitsOf_18 : decode cX8_fitsOf 18 = .ok (.invokevirtual 90, 3) := by decide +kernel
theorem dX8_fitsOf_21 : decode cX8_fitsOf 21 = .ok (.ifCond .eq 7, 3) := by decide +kernel
theorem dX8_fitsOf_24 : decode cX8_fitsOf 24 = .ok (.iconst 1, 1) := by decide +kernel
theorem dX8_fitsOf_25 : decode cX8_fitsOf 25 = .ok (.goto 4, 3) := by decide +kernel
theorem dX8_fitsOf_28 : decode cX8_fitsOf 28 = .ok (.iconst 0, 1) := by decide +kernel
theorem dX8_fitsOf_29 : decode cX8_fitsOf 29 = .ok (.iadd, 1) := by decide +kernel
theorem dX8_fitsOf_30 : decode cX8_fitsOf 30 = .ok (.istore_n 2, 1) := by decide +kernel
theorem dX8_fitsOf_31 : decode cX8_fitsOf 31 = .ok (.iinc 3 1, 3) := by decide +kernel
theorem dX8_fitsOf_34 : decode cX8_fitsOf 34 = .ok (.goto (-30), 3) := by decide +kernel
theorem dX8_fitsOf_37 : decode cX8_fitsOf 37 = .ok (.iload_n 2, 1) := by decide +kernel
theorem dX8_fitsOf_38 : decode cX8_fitsOf 38 = .ok (.ireturn, 1) := by decide +kernel
set_option maxRecDepth 20000 in
theorem ggX8_levelOf_X8_levels : GoodIn wsX8_levelOf wsX8_levels := goodIn_ca (goodIn_r _ [6, 1, 7, 8, 9, 10, 11, 5, 12, 13, 14, 15, 16, 17, 18, 19, 20, 21, 22, 23, 24, 25, 26, 27, 28, 29, 30, 31, 32, 33, 34, 35, 36, 37, 38, 39, 40, 41, 42, 43, 44, 45, 46, 47, 48, 49, 50, 51] (by decide +kernel) (by decide +kernel)) (goodIn_sub (fun _ h => List.mem_cons_of_mem _ (List.mem_append_right _ h)) (by decide +kernel))
set_option maxRecDepth 20000 in
theorem gX8_levelOf_X8_levels : GoodIn wsX8_levelOf (wsV RX8 131 RX8 yX8_levels wsX8_levels) := goodIn_app (goodIn_of _ (by decide +kernel)) ggX8_levelOf_X8_levels
theorem dX8_levelOf_0 : decode cX8_levelOf 0 = .ok (.aload_n 0, 1) := by decide +kernel
theorem dX8_levelOf_1 : decode cX8_levelOf 1 = .ok (.invokevirtual 131, 3) := by decide +kernel
theorem dX8_levelOf_4 : decode cX8_levelOf 4 = .ok (.istore_n 2, 1) := by decide +kernel
theorem dX8_levelOf_5 : decode cX8_levelOf 5 = .ok (.iload_n 2, 1) := by decide +kernel
theorem dX8_levelOf_6 : decode cX8_levelOf 6 = .ok (.ifCond .ne 12, 3) := by decide +kernel
theorem dX8_levelOf_9 : decode cX8_levelOf 9 = .ok (.aload_n 0, 1) := by decide +kernel
theorem dX8_levelOf_10 : decode cX8_levelOf 10 = .ok (.getfield 36, 3) := by decide +kernel
theorem dX8_levelOf_13 : decode cX8_levelOf 13 = .ok (.iload_n 1, 1) := by decide +kernel
theorem dX8_levelOf_14 : decode cX8_levelOf 14 = .ok (.iaload, 1) := by decide +kernel
theorem dX8_levelOf_15 : decode cX8_levelOf 15 = .ok (.ifCond .lt 12, 3) := by decide +kernel
theorem dX8_levelOf_18 : decode cX8_levelOf 18 = .ok (.aload_n 0, 1) := by decide +kernel
theorem dX8_levelOf_19 : decode cX8_levelOf 19 = .ok (.getfield 36, 3) := by decide +kernel
theorem dX8_levelOf_22 : decode cX8_levelOf 22 = .ok (.iload_n 1, 1) := by decide +kernel
theorem dX8_levelOf_23 : decode cX8_levelOf 23 = .ok (.iaload, 1) := by decide +kernel
theorem dX8_levelOf_24 : decode cX8_levelOf 24 = .ok (.goto 4, 3) := by decide +kernel
theorem dX8_levelOf_27 : decode cX8_levelOf 27 = .ok (.iconst (-1), 1) := by decide +kernel
theorem dX8_levelOf_28 : decode cX8_levelOf 28 = .ok (.ireturn, 1) := by decide +kernel
set_option maxRecDepth 20000 in
theorem ggX8_keyOf_X8_isKey : GoodIn wsX8_keyOf wsX8_isKey := goodIn_ca (goodIn_r _ [5, 6, 7, 8, 4, 9, 48, 49, 50, 51, 52, 53, 54, 55, 56, 57, 58, 59, 60, 61, 62, 63, 64, 65, 66, 67, 68, 69, 70, 71] (by decide +kernel) (by decide +kernel)) (goodIn_sub (fun _ h => List.mem_cons_of_mem _ (List.mem_append_right _ h)) (by decide +kernel))
set_option maxRecDepth 20000 in
theorem gX8_keyOf_X8_isKey : GoodIn wsX8_keyOf (wsV RX8 105 RX8 yX8_isKey wsX8_isKey) := goodIn_app (goodIn_of _ (by decide +kernel)) ggX8_keyOf_X8_isKey
set_option maxRecDepth 20000 in
theorem ggX8_keyOf_X8_in : GoodIn wsX8_keyOf wsX8_in := goodIn_r _ [9] (by decide +kernel) (by decide +kernel)
set_option maxRecDepth 20000 in
theorem gX8_keyOf_X8_in : GoodIn wsX8_keyOf (va_wsS RX8 72 yX8_in wsX8_in) := goodIn_app (goodIn_of _ (by decide +kernel)) ggX8_keyOf_X8_in
set_option maxRecDepth 20000 in
theorem ggX8_keyOf_X8_fails : GoodIn wsX8_keyOf wsX8_fails := goodIn_r _ [13, 14, 48, 49, 50, 51, 52, 53, 54, 55, 56, 57, 58, 59, 60, 61, 62, 63, 64, 65, 66, 67, 68, 69, 70, 71] (by decide +kernel) (by decide +kernel)
set_option maxRecDepth 20000 in
theorem gX8_keyOf_X8_fails : GoodIn wsX8_keyOf (wsV RX8 138 RX8 yX8_fails wsX8_fails) := goodIn_app (goodIn_of _ (by decide +kernel)) ggX8_keyOf_X8_fails
set_option maxRecDepth 20000 in
theorem ggX8_keyOf_X8_levelOf : GoodIn wsX8_keyOf wsX8_levelOf := goodIn_ca (goodIn_r _ [18, 19, 20, 21, 22, 4, 23, 6, 24, 25, 26, 27, 28, 29, 30, 31, 32, 33, 34, 35, 36, 37, 38, 39, 40, 41, 42, 43, 48, 49, 50, 51, 52, 53, 54, 55, 56, 57, 58, 59, 60, 61, 62, 63, 64, 65, 66, 67, 68, 69, 70, 71] (by decide +kernel) (by decide +kernel)) (goodIn_sub (fun _ h => List.mem_cons_of_mem _ (List.mem_append_right _ h)) (by decide +kernel))
set_option maxRecDepth 20000 in
theorem gX8_keyOf_X8_levelOf : GoodIn wsX8_keyOf (wsV RX8 141 RX8 yX8_levelOf wsX8_levelOf) := goodIn_app (goodIn_of _ (by decide +kernel)) ggX8_keyOf_X8_levelOf
set_option maxRecDepth 20000 in
theorem ggX8_keyOf_X8_fitsOf : GoodIn wsX8_keyOf wsX8_fitsOf := goodIn_ca (goodIn_r _ [47, 6, 29, 30, 31, 4, 32, 33, 34, 35, 36, 37, 38, 39, 40, 25, 26, 27, 28, 41, 42, 43, 48, 49, 50, 51, 52, 53, 54, 55, 56, 57, 58, 59, 60, 61, 62, 63, 64, 65, 66, 67, 68, 69, 70, 71] (by decide +kernel) (by decide +kernel)) (goodIn_sub (fun _ h => List.mem_cons_of_mem _ (List.mem_append_right _ h)) (by decide +kernel))
set_option maxRecDepth 20000 in
theorem gX8_keyOf_X8_fitsOf : GoodIn wsX8_keyOf (wsV RX8 144 RX8 yX8_fitsOf wsX8_fitsOf) := goodIn_app (goodIn_of _ (by decide +kernel)) ggX8_keyOf_X8_fitsOf
set_option maxRecDepth 20000 in
theorem ggX8_keyOf_X8_ofKey : GoodIn wsX8_keyOf wsX8_ofKey := goodIn_ca (goodIn_r _ [28, 6, 48, 49, 50, 51, 52, 53, 54, 55, 56, 57, 58, 59, 60, 61, 62, 63, 64, 65, 66, 67, 68, 69, 70, 71] (by decide +kernel) (by decide +kernel)) (goodIn_sub (fun _ h => List.mem_cons_of_mem _ (List.mem_append_right _ h)) (by decide +kernel))
set_option maxRecDepth 20000 in
theorem gX8_keyOf_X8_ofKey : GoodIn wsX8_keyOf (wsV RX8 80 RX8 yX8_ofKey wsX8_ofKey) := goodIn_app (goodIn_of _ (by decide +kernel)) ggX8_keyOf_X8_ofKey
theorem dX8_keyOf_0 : decode cX8_keyOf 0 = .ok (.aload_n 0, 1) := by decide +kernel
theorem dX8_keyOf_1 : decode cX8_keyOf 1 = .ok (.aload_n 0, 1) := by decide +kernel
theorem dX8_keyOf_2 : decode cX8_keyOf 2 = .ok (.iload_n 1, 1) := by decide +kernel
theorem dX8_keyOf_3 : decode cX8_keyOf 3 = .ok (.invokevirtual 105, 3) := by decide +kernel
theorem dX8_keyOf_6 : decode cX8_keyOf 6 = .ok (.ifCond .ne 7, 3) := by decide +kernel
theorem dX8_keyOf_9 : decode cX8_keyOf 9 = .ok (.iconst 1, 1) := by decide +kernel
theorem dX8_keyOf_10 : decode cX8_keyOf 10 = .ok (.goto 17, 3) := by decide +kernel
theorem dX8_keyOf_13 : decode cX8_keyOf 13 = .ok (.iload_n 2, 1) := by decide +kernel
theorem dX8_keyOf_14 : decode cX8_keyOf 14 = .ok (.iconst 0, 1) := by decide +kernel
theorem dX8_keyOf_15 : decode cX8_keyOf 15 = .ok (.iconst 5, 1) := by decide +kernel
theorem dX8_keyOf_16 : decode cX8_keyOf 16 = .ok (.invokestatic 72, 3) := by decide +kernel
theorem dX8_keyOf_19 : decode cX8_keyOf 19 = .ok (.ifCond .eq 7, 3) := by decide +kernel
theorem dX8_keyOf_22 : decode cX8_keyOf 22 = .ok (.iconst 0, 1) := by decide +kernel
theorem dX8_keyOf_23 : decode cX8_keyOf 23 = .ok (.goto 4, 3) := by decide +kernel
theorem dX8_keyOf_26 : decode cX8_keyOf 26 = .ok (.iconst 2, 1) := by decide +kernel
theorem dX8_keyOf_27 : decode cX8_keyOf 27 = .ok (.invokevirtual 138, 3) := by decide +kernel
theorem dX8_keyOf_30 : decode cX8_keyOf 30 = .ok (.ifCond .eq 5, 3) := by decide +kernel
theorem dX8_keyOf_33 : decode cX8_keyOf 33 = .ok (.iconst 0, 1) := by decide +kernel
theorem dX8_keyOf_34 : decode cX8_keyOf 34 = .ok (.ireturn, 1) := by decide +kernel
theorem dX8_keyOf_35 : decode cX8_keyOf 35 = .ok (.iload_n 2, 1) := by decide +kernel
theorem dX8_keyOf_36 : decode cX8_keyOf 36 = .ok (.tableswitch 47 3 5 #[28, 34, 40], 28) := by decide +kernel
theorem dX8_keyOf_64 : decode cX8_keyOf 64 = .ok (.aload_n 0, 1) := by decide +kernel
theorem dX8_keyOf_65 : decode cX8_keyOf 65 = .ok (.iload_n 1, 1) := by decide +kernel
theorem dX8_keyOf_66 : decode cX8_keyOf 66 = .ok (.invokevirtual 141, 3) := by decide +kernel
theorem dX8_keyOf_69 : decode cX8_keyOf 69 = .ok (.ireturn, 1) := by decide +kernel
theorem dX8_keyOf_70 : decode cX8_keyOf 70 = .ok (.aload_n 0, 1) := by decide +kernel
theorem dX8_keyOf_71 : decode cX8_keyOf 71 = .ok (.iload_n 1, 1) := by decide +kernel
theorem dX8_keyOf_72 : decode cX8_keyOf 72 = .ok (.invokevirtual 144, 3) := by decide +kernel
theorem dX8_keyOf_75 : decode cX8_keyOf 75 = .ok (.ireturn, 1) := by decide +kernel
theorem dX8_keyOf_76 : decode cX8_keyOf 76 = .ok (.aload_n 0, 1) := by decide +kernel
theorem dX8_keyOf_77 : decode cX8_keyOf 77 = .ok (.iload_n 1, 1) := by decide +kernel
theorem dX8_keyOf_78 : decode cX8_keyOf 78 = .ok (.iconst 3, 1) := by decide +kernel
theorem dX8_keyOf_79 : decode cX8_keyOf 79 = .ok (.invokevirtual 80, 3) := by decide +kernel
theorem dX8_keyOf_82 : decode cX8_keyOf 82 = .ok (.ireturn, 1) := by decide +kernel
theorem dX8_keyOf_83 : decode cX8_keyOf 83 = .ok (.aload_n 0, 1) := by decide +kernel
theorem dX8_keyOf_84 : decode cX8_keyOf 84 = .ok (.iload_n 1, 1) := by decide +kernel
theorem dX8_keyOf_85 : decode cX8_keyOf 85 = .ok (.iload_n 2, 1) := by decide +kernel
theorem dX8_keyOf_86 : decode cX8_keyOf 86 = .ok (.invokevirtual 80, 3) := by decide +kernel
theorem dX8_keyOf_89 : decode cX8_keyOf 89 = .ok (.ireturn, 1) := by decide +kernel
set_option maxRecDepth 20000 in
theorem ggX8_lockOf_X8_isLock : GoodIn wsX8_lockOf wsX8_isLock := goodIn_ca (goodIn_r _ [6, 1, 7, 8, 5, 9, 34, 35, 36, 37, 38, 39, 40, 41, 42, 43, 44, 45, 46, 47, 48, 49, 50, 51, 52, 53, 54, 55, 56, 57] (by decide +kernel) (by decide +kernel)) (goodIn_sub (fun _ h => List.mem_cons_of_mem _ (List.mem_append_right _ h)) (by decide +kernel))
set_option maxRecDepth 20000 in
theorem gX8_lockOf_X8_isLock : GoodIn wsX8_lockOf (wsV RX8 113 RX8 yX8_isLock wsX8_isLock) := goodIn_app (goodIn_of _ (by decide +kernel)) ggX8_lockOf_X8_isLock
set_option maxRecDepth 20000 in
theorem ggX8_lockOf_X8_in : GoodIn wsX8_lockOf wsX8_in := goodIn_r _ [9] (by decide +kernel) (by decide +kernel)
set_option maxRecDepth 20000 in
theorem gX8_lockOf_X8_in : GoodIn wsX8_lockOf (va_wsS RX8 72 yX8_in wsX8_in) := goodIn_app (goodIn_of _ (by decide +kernel)) ggX8_lockOf_X8_in
set_option maxRecDepth 20000 in
theorem ggX8_lockOf_X8_fails : GoodIn wsX8_lockOf wsX8_fails := goodIn_r _ [13, 14, 34, 35, 36, 37, 38, 39, 40, 41, 42, 43, 44, 45, 46, 47, 48, 49, 50, 51, 52, 53, 54, 55, 56, 57] (by decide +kernel) (by decide +kernel)
set_option maxRecDepth 20000 in
theorem gX8_lockOf_X8_fails : GoodIn wsX8_lockOf (wsV RX8 138 RX8 yX8_fails wsX8_fails) := goodIn_app (goodIn_of _ (by decide +kernel)) ggX8_lockOf_X8_fails
set_option maxRecDepth 20000 in
theorem ggX8_lockOf_X8_ofLock : GoodIn wsX8_lockOf wsX8_ofLock := goodIn_ca (goodIn_r _ [18, 1, 34, 35, 36, 37, 38, 39, 40, 41, 42, 43, 44, 45, 46, 47, 48, 49, 50, 51, 52, 53, 54, 55, 56, 57] (by decide +kernel) (by decide +kernel)) (goodIn_sub (fun _ h => List.mem_cons_of_mem _ (List.mem_append_right _ h)) (by decide +kernel))
set_option maxRecDepth 20000 in
theorem gX8_lockOf_X8_ofLock : GoodIn wsX8_lockOf (wsV RX8 76 RX8 yX8_ofLock wsX8_ofLock) := goodIn_app (goodIn_of _ (by decide +kernel)) ggX8_lockOf_X8_ofLock
set_option maxRecDepth 20000 in
theorem ggX8_lockOf_X8_isFit : GoodIn wsX8_lockOf wsX8_isFit := goodIn_ca (goodIn_r _ [22, 1, 23, 24, 25, 5, 26, 15, 16, 17, 18, 27, 28, 29, 30, 31, 32, 33, 34, 35, 36, 37, 38, 39, 40, 41, 42, 43, 44, 45, 46, 47, 48, 49, 50, 51, 52, 53, 54, 55, 56, 57] (by decide +kernel) (by decide +kernel)) (goodIn_sub (fun _ h => List.mem_cons_of_mem _ (List.mem_append_right _ h)) (by decide +kernel))
set_option maxRecDepth 20000 in
theorem gX8_lockOf_X8_isFit : GoodIn wsX8_lockOf (wsV RX8 90 RX8 yX8_isFit wsX8_isFit) := goodIn_app (goodIn_of _ (by decide +kernel)) ggX8_lockOf_X8_isFit
theorem dX8_lockOf_0 : decode cX8_lockOf 0 = .ok (.aload_n 0, 1) := by decide +kernel
theorem dX8_lockOf_1 : decode cX8_lockOf 1 = .ok (.aload_n 0, 1) := by decide +kernel
theorem dX8_lockOf_2 : decode cX8_lockOf 2 = .ok (.iload_n 1, 1) := by decide +kernel
theorem dX8_lockOf_3 : decode cX8_lockOf 3 = .ok (.invokevirtual 113, 3) := by decide +kernel
theorem dX8_lockOf_6 : decode cX8_lockOf 6 = .ok (.ifCond .ne 7, 3) := by decide +kernel
theorem dX8_lockOf_9 : decode cX8_lockOf 9 = .ok (.iconst 1, 1) := by decide +kernel
theorem dX8_lockOf_10 : decode cX8_lockOf 10 = .ok (.goto 17, 3) := by decide +kernel
theorem dX8_lockOf_13 : decode cX8_lockOf 13 = .ok (.iload_n 2, 1) := by decide +kernel
theorem dX8_lockOf_14 : decode cX8_lockOf 14 = .ok (.iconst 0, 1) := by decide +kernel
theorem dX8_lockOf_15 : decode cX8_lockOf 15 = .ok (.iconst 3, 1) := by decide +kernel
theorem dX8_lockOf_16 : decode cX8_lockOf 16 = .ok (.invokestatic 72, 3) := by decide +kernel
theorem dX8_lockOf_19 : decode cX8_lockOf 19 = .ok (.ifCond .eq 7, 3) := by decide +kernel
theorem dX8_lockOf_22 : decode cX8_lockOf 22 = .ok (.iconst 0, 1) := by decide +kernel
theorem dX8_lockOf_23 : decode cX8_lockOf 23 = .ok (.goto 4, 3) := by decide +kernel
theorem dX8_lockOf_26 : decode cX8_lockOf 26 = .ok (.iconst 2, 1) := by decide +kernel
theorem dX8_lockOf_27 : decode cX8_lockOf 27 = .ok (.invokevirtual 138, 3) := by decide +kernel
theorem dX8_lockOf_30 : decode cX8_lockOf 30 = .ok (.ifCond .eq 5, 3) := by decide +kernel
theorem dX8_lockOf_33 : decode cX8_lockOf 33 = .ok (.iconst 0, 1) := by decide +kernel
theorem dX8_lockOf_34 : decode cX8_lockOf 34 = .ok (.ireturn, 1) := by decide +kernel
theorem dX8_lockOf_35 : decode cX8_lockOf 35 = .ok (.iload_n 2, 1) := by decide +kernel
theorem dX8_lockOf_36 : decode cX8_lockOf 36 = .ok (.iconst 2, 1) := by decide +kernel
theorem dX8_lockOf_37 : decode cX8_lockOf 37 = .ok (.if_icmp .eq 19, 3) := by decide +kernel
theorem dX8_lockOf_40 : decode cX8_lockOf 40 = .ok (.aload_n 0, 1) := by decide +kernel
theorem dX8_lockOf_41 : decode cX8_lockOf 41 = .ok (.iload_n 1, 1) := by decide +kernel
theorem dX8_lockOf_42 : decode cX8_lockOf 42 = .ok (.iload_n 2, 1) := by decide +kernel
theorem dX8_lockOf_43 : decode cX8_lockOf 43 = .ok (.iconst 3, 1) := by decide +kernel
theorem dX8_lockOf_44 : decode cX8_lockOf 44 = .ok (.if_icmp .ne 7, 3) := by decide +kernel
theorem dX8_lockOf_47 : decode cX8_lockOf 47 = .ok (.iconst 2, 1) := by decide +kernel
theorem dX8_lockOf_48 : decode cX8_lockOf 48 = .ok (.goto 4, 3) := by decide +kernel
theorem dX8_lockOf_51 : decode cX8_lockOf 51 = .ok (.iload_n 2, 1) := by decide +kernel
theorem dX8_lockOf_52 : decode cX8_lockOf 52 = .ok (.invokevirtual 76, 3) := by decide +kernel
theorem dX8_lockOf_55 : decode cX8_lockOf 55 = .ok (.ireturn, 1) := by decide +kernel
theorem dX8_lockOf_56 : decode cX8_lockOf 56 = .ok (.iconst 0, 1) := by decide +kernel
theorem dX8_lockOf_57 : decode cX8_lockOf 57 = .ok (.istore_n 3, 1) := by decide +kernel
theorem dX8_lockOf_58 : decode cX8_lockOf 58 = .ok (.iconst 0, 1) := by decide +kernel
theorem dX8_lockOf_59 : decode cX8_lockOf 59 = .ok (.istore 4, 2) := by decide +kernel
theorem dX8_lockOf_61 : decode cX8_lockOf 61 = .ok (.iload 4, 2) := by decide +kernel
theorem dX8_lockOf_63 : decode cX8_lockOf 63 = .ok (.aload_n 0, 1) := by decide +kernel
theorem dX8_lockOf_64 : decode cX8_lockOf 64 = .ok (.getfield 7, 3) := by decide +kernel
theorem dX8_lockOf_67 : decode cX8_lockOf 67 = .ok (.iconst 0, 1) := by decide +kernel
theorem dX8_lockOf_68 : decode cX8_lockOf 68 = .ok (.iaload, 1) := by decide +kernel
theorem dX8_lockOf_69 : decode cX8_lockOf 69 = .ok (.if_icmp .ge 27, 3) := by decide +kernel
theorem dX8_lockOf_72 : decode cX8_lockOf 72 = .ok (.iload_n 3, 1) := by decide +kernel
theorem dX8_lockOf_73 : decode cX8_lockOf 73 = .ok (.aload_n 0, 1) := by decide +kernel
theorem dX8_lockOf_74 : decode cX8_lockOf 74 = .ok (.iload 4, 2) := by decide +kernel
theorem dX8_lockOf_76 : decode cX8_lockOf 76 = .ok (.iload_n 1, 1) := by decide +kernel
theorem dX8_lockOf_77 : decode cX8_lockOf 77 = .ok (.invokevirtual 90, 3) := by decide +kernel
theorem dX8_lockOf_80 : decode cX8_lockOf 80 = .ok (.ifCond .eq 7, 3) := by decide +kernel
theorem dX8_lockOf_83 : decode cX8_lockOf 83 = .ok (.iconst 1, 1) := by decide +kernel
theorem dX8_lockOf_84 : decode cX8_lockOf 84 = .ok (.goto 4, 3) := by decide +kernel
theorem dX8_lockOf_87 : decode cX8_lockOf 87 = .ok (.iconst 0, 1) := by decide +kernel
theorem dX8_lockOf_88 : decode cX8_lockOf 88 = .ok (.iadd, 1) := by decide +kernel
theorem dX8_lockOf_89 : decode cX8_lockOf 89 = .ok (.istore_n 3, 1) := by decide +kernel
theorem dX8_lockOf_90 : decode cX8_lockOf 90 = .ok (.iinc 4 1, 3) := by decide +kernel
theorem dX8_lockOf_93 : decode cX8_lockOf 93 = .ok (.goto (-32), 3) := by decide +kernel
theorem dX8_lockOf_96 : decode cX8_lockOf 96 = .ok (.iload_n 3, 1) := by decide +kernel
theorem dX8_lockOf_97 : decode cX8_lockOf 97 = .ok (.ireturn, 1) := by decide +kernel
set_option maxRecDepth 20000 in
theorem ggX8_isNoPair_X8_isKey : GoodIn wsX8_isNoPair wsX8_isKey := goodIn_ca (goodIn_r _ [5, 6, 7, 8, 4, 9, 19, 20, 21, 22, 23, 24, 25, 26, 27, 28, 29, 30, 31, 32, 33, 34, 35, 36, 37, 38, 39, 40, 41, 42] (by decide +kernel) (by decide +kernel)) (goodIn_sub (fun _ h => List.mem_cons_of_mem _ (List.mem_append_right _ h)) (by decide +kernel))
set_option maxRecDepth 20000 in
theorem gX8_isNoPair_X8_isKey : GoodIn wsX8_isNoPair (wsV RX8 105 RX8 yX8_isKey wsX8_isKey) := goodIn_app (goodIn_of _ (by decide +kernel)) ggX8_isNoPair_X8_isKey
set_option maxRecDepth 20000 in
theorem ggX8_isNoPair_X8_isLock : GoodIn wsX8_isNoPair wsX8_isLock := goodIn_ca (goodIn_r _ [13, 6, 7, 8, 4, 9, 19, 20, 21, 22, 23, 24, 25, 26, 27, 28, 29, 30, 31, 32, 33, 34, 35, 36, 37, 38, 39, 40, 41, 42] (by decide +kernel) (by decide +kernel)) (goodIn_sub (fun _ h => List.mem_cons_of_mem _ (List.mem_append_right _ h)) (by decide +kernel))
set_option maxRecDepth 20000 in
theorem gX8_isNoPair_X8_isLock : GoodIn wsX8_isNoPair (wsV RX8 113 RX8 yX8_isLock wsX8_isLock) := goodIn_app (goodIn_of _ (by decide +kernel)) ggX8_isNoPair_X8_isLock
set_option maxRecDepth 20000 in
theorem ggX8_isNoPair_X8_fails : GoodIn wsX8_isNoPair wsX8_fails := goodIn_r _ [17, 18, 19, 20, 21, 22, 23, 24, 25, 26, 27, 28, 29, 30, 31, 32, 33, 34, 35, 36, 37, 38, 39, 40, 41, 42] (by decide +kernel) (by decide +kernel)
set_option maxRecDepth 20000 in
theorem gX8_isNoPair_X8_fails : GoodIn wsX8_isNoPair (wsV RX8 138 RX8 yX8_fails wsX8_fails) := goodIn_app (goodIn_of _ (by decide +kernel)) ggX8_isNoPair_X8_fails
theorem dX8_isNoPair_0 : decode cX8_isNoPair 0 = .ok (.aload_n 0, 1) := by decide +kernel
theorem dX8_isNoPair_1 : decode cX8_isNoPair 1 = .ok (.aload_n 0, 1) := by decide +kernel
theorem dX8_isNoPair_2 : decode cX8_isNoPair 2 = .ok (.iload_n 1, 1) := by decide +kernel
theorem dX8_isNoPair_3 : decode cX8_isNoPair 3 = .ok (.invokevirtual 105, 3) := by decide +kernel
theorem dX8_isNoPair_6 : decode cX8_isNoPair 6 = .ok (.ifCond .eq 15, 3) := by decide +kernel
theorem dX8_isNoPair_9 : decode cX8_isNoPair 9 = .ok (.aload_n 0, 1) := by decide +kernel
theorem dX8_isNoPair_10 : decode cX8_isNoPair 10 = .ok (.iload_n 2, 1) := by decide +kernel
theorem dX8_isNoPair_11 : decode cX8_isNoPair 11 = .ok (.invokevirtual 113, 3) := by decide +kernel
theorem dX8_isNoPair_14 : decode cX8_isNoPair 14 = .ok (.ifCond .eq 7, 3) := by decide +kernel
theorem dX8_isNoPair_17 : decode cX8_isNoPair 17 = .ok (.iconst 0, 1) := by decide +kernel
theorem dX8_isNoPair_18 : decode cX8_isNoPair 18 = .ok (.goto 4, 3) := by decide +kernel
theorem dX8_isNoPair_21 : decode cX8_isNoPair 21 = .ok (.iconst 1, 1) := by decide +kernel
theorem dX8_isNoPair_22 : decode cX8_isNoPair 22 = .ok (.invokevirtual 138, 3) := by decide +kernel
theorem dX8_isNoPair_25 : decode cX8_isNoPair 25 = .ok (.ireturn, 1) := by decide +kernel
set_option maxRecDepth 20000 in
theorem ggX8_fits_X8_isNoPair : GoodIn wsX8_fits wsX8_isNoPair := goodIn_ca (goodIn_r _ [5, 6, 7, 8, 4, 9, 10, 11, 12, 13, 14, 15, 16, 17, 18, 19, 20, 21, 22, 42, 43, 44, 45, 46, 47, 48, 49, 50, 51, 52, 53, 54, 55, 56, 57, 58, 59, 60, 61, 62, 63, 64, 65] (by decide +kernel) (by decide +kernel)) (goodIn_sub (fun _ h => List.mem_cons_of_mem _ (List.mem_append_right _ h)) (by decide +kernel))
set_option maxRecDepth 20000 in
theorem gX8_fits_X8_isNoPair : GoodIn wsX8_fits (wsV RX8 147 RX8 yX8_isNoPair wsX8_isNoPair) := goodIn_app (goodIn_of _ (by decide +kernel)) ggX8_fits_X8_isNoPair
set_option maxRecDepth 20000 in
theorem ggX8_fits_X8_isFit : GoodIn wsX8_fits wsX8_isFit := goodIn_ca (goodIn_r _ [26, 10, 27, 28, 29, 4, 30, 31, 32, 33, 34, 35, 36, 37, 38, 39, 40, 41, 42, 43, 44, 45, 46, 47, 48, 49, 50, 51, 52, 53, 54, 55, 56, 57, 58, 59, 60, 61, 62, 63, 64, 65] (by decide +kernel) (by decide +kernel)) (goodIn_sub (fun _ h => List.mem_cons_of_mem _ (List.mem_append_right _ h)) (by decide +kernel))
set_option maxRecDepth 20000 in
theorem gX8_fits_X8_isFit : GoodIn wsX8_fits (wsV RX8 90 RX8 yX8_isFit wsX8_isFit) := goodIn_app (goodIn_of _ (by decide +kernel)) ggX8_fits_X8_isFit
theorem dX8_fits_0 : decode cX8_fits 0 = .ok (.aload_n 0, 1) := by decide +kernel
theorem dX8_fits_1 : decode cX8_fits 1 = .ok (.iload_n 1, 1) := by decide +kernel
theorem dX8_fits_2 : decode cX8_fits 2 = .ok (.iload_n 2, 1) := by decide +kernel
theorem dX8_fits_3 : decode cX8_fits 3 = .ok (.invokevirtual 147, 3) := by decide +kernel
theorem dX8_fits_6 : decode cX8_fits 6 = .ok (.ifCond .ne 16, 3) := by decide +kernel
theorem dX8_fits_9 : decode cX8_fits 9 = .ok (.aload_n 0, 1) := by decide +kernel
theorem dX8_fits_10 : decode cX8_fits 10 = .ok (.iload_n 1, 1) := by decide +kernel
theorem dX8_fits_11 : decode cX8_fits 11 = .ok (.iload_n 2, 1) := by decide +kernel
theorem dX8_fits_12 : decode cX8_fits 12 = .ok (.invokevirtual 90, 3) := by decide +kernel
theorem dX8_fits_15 : decode cX8_fits 15 = .ok (.ifCond .eq 7, 3) := by decide +kernel
theorem dX8_fits_18 : decode cX8_fits 18 = .ok (.iconst 1, 1) := by decide +kernel
theorem dX8_fits_19 : decode cX8_fits 19 = .ok (.goto 4, 3) := by decide +kernel
theorem dX8_fits_22 : decode cX8_fits 22 = .ok (.iconst 0, 1) := by decide +kernel
theorem dX8_fits_23 : decode cX8_fits 23 = .ok (.ireturn, 1) := by decide +kernel
set_option maxRecDepth 20000 in
theorem ggX8_isBarred_X8_isNoPair : GoodIn wsX8_isBarred wsX8_isNoPair := goodIn_ca (goodIn_r _ [6, 7, 8, 9, 5, 10, 1, 11, 12, 13, 14, 15, 16, 17, 18, 19, 20, 21, 22, 23, 24, 25, 26, 27, 28, 29, 30, 31, 32, 33, 34, 35, 36, 37, 38, 39, 40, 41, 42, 43, 44, 45, 46] (by decide +kernel) (by decide +kernel)) (goodIn_sub (fun _ h => List.mem_cons_of_mem _ (List.mem_append_right _ h)) (by decide +kernel))
set_option maxRecDepth 20000 in
theorem gX8_isBarred_X8_isNoPair : GoodIn wsX8_isBarred (wsV RX8 147 RX8 yX8_isNoPair wsX8_isNoPair) := goodIn_app (goodIn_of _ (by decide +kernel)) ggX8_isBarred_X8_isNoPair
theorem dX8_isBarred_0 : decode cX8_isBarred 0 = .ok (.aload_n 0, 1) := by decide +kernel
theorem dX8_isBarred_1 : decode cX8_isBarred 1 = .ok (.iload_n 1, 1) := by decide +kernel
theorem dX8_isBarred_2 : decode cX8_isBarred 2 = .ok (.iload_n 2, 1) := by decide +kernel
theorem dX8_isBarred_3 : decode cX8_isBarred 3 = .ok (.invokevirtual 147, 3) := by decide +kernel
theorem dX8_isBarred_6 : decode cX8_isBarred 6 = .ok (.ifCond .ne 25, 3) := by decide +kernel
theorem dX8_isBarred_9 : decode cX8_isBarred 9 = .ok (.aload_n 0, 1) := by decide +kernel
theorem dX8_isBarred_10 : decode cX8_isBarred 10 = .ok (.getfield 7, 3) := by decide +kernel
theorem dX8_isBarred_13 : decode cX8_isBarred 13 = .ok (.bipush 77, 2) := by decide +kernel
theorem dX8_isBarred_15 : decode cX8_isBarred 15 = .ok (.bipush 10, 2) := by decide +kernel
theorem dX8_isBarred_17 : decode cX8_isBarred 17 = .ok (.iload_n 1, 1) := by decide +kernel
theorem dX8_isBarred_18 : decode cX8_isBarred 18 = .ok (.imul, 1) := by decide +kernel
theorem dX8_isBarred_19 : decode cX8_isBarred 19 = .ok (.iadd, 1) := by decide +kernel
theorem dX8_isBarred_20 : decode cX8_isBarred 20 = .ok (.iload_n 2, 1) := by decide +kernel
theorem dX8_isBarred_21 : decode cX8_isBarred 21 = .ok (.iadd, 1) := by decide +kernel
theorem dX8_isBarred_22 : decode cX8_isBarred 22 = .ok (.iaload, 1) := by decide +kernel
theorem dX8_isBarred_23 : decode cX8_isBarred 23 = .ok (.iconst 1, 1) := by decide +kernel
theorem dX8_isBarred_24 : decode cX8_isBarred 24 = .ok (.if_icmp .ne 7, 3) := by decide +kernel
theorem dX8_isBarred_27 : decode cX8_isBarred 27 = .ok (.iconst 1, 1) := by decide +kernel
theorem dX8_isBarred_28 : decode cX8_isBarred 28 = .ok (.goto 4, 3) := by decide +kernel
theorem dX8_isBarred_31 : decode cX8_isBarred 31 = .ok (.iconst 0, 1) := by decide +kernel
theorem dX8_isBarred_32 : decode cX8_isBarred 32 = .ok (.ireturn, 1) := by decide +kernel
set_option maxRecDepth 20000 in
theorem ggX8_costOf_X8_ofKey : GoodIn wsX8_costOf wsX8_ofKey := goodIn_ca (goodIn_r _ [6, 1, 18, 19, 20, 21, 22, 23, 24, 25, 26, 27, 28, 29, 30, 31, 32, 33, 34, 35, 36, 37, 38, 39, 40, 41] (by decide +kernel) (by decide +kernel)) (goodIn_sub (fun _ h => List.mem_cons_of_mem _ (List.mem_append_right _ h)) (by decide +kernel))
set_option maxRecDepth 20000 in
theorem gX8_costOf_X8_ofKey : GoodIn wsX8_costOf (wsV RX8 80 RX8 yX8_ofKey wsX8_ofKey) := goodIn_app (goodIn_of _ (by decide +kernel)) ggX8_costOf_X8_ofKey
set_option maxRecDepth 20000 in
theorem ggX8_costOf_X8_ofLock : GoodIn wsX8_costOf wsX8_ofLock := goodIn_ca (goodIn_r _ [10, 1, 18, 19, 20, 21, 22, 23, 24, 25, 26, 27, 28, 29, 30, 31, 32, 33, 34, 35, 36, 37, 38, 39, 40, 41] (by decide +kernel) (by decide +kernel)) (goodIn_sub (fun _ h => List.mem_cons_of_mem _ (List.mem_append_right _ h)) (by decide +kernel))
set_option maxRecDepth 20000 in
theorem gX8_costOf_X8_ofLock : GoodIn wsX8_costOf (wsV RX8 76 RX8 yX8_ofLock wsX8_ofLock) := goodIn_app (goodIn_of _ (by decide +kernel)) ggX8_costOf_X8_ofLock
set_option maxRecDepth 20000 in
theorem ggX8_costOf_X8_many : GoodIn wsX8_costOf wsX8_many := goodIn_r _ [13] (by decide +kernel) (by decide +kernel)
set_option maxRecDepth 20000 in
theorem gX8_costOf_X8_many : GoodIn wsX8_costOf (va_wsS RX8 83 yX8_many wsX8_many) := goodIn_app (goodIn_of _ (by decide +kernel)) ggX8_costOf_X8_many
set_option maxRecDepth 20000 in
theorem ggX8_costOf_X8_lacks : GoodIn wsX8_costOf wsX8_lacks := goodIn_ca (goodIn_r _ [17, 7, 8, 9, 5, 10, 1, 2, 3, 4, 6, 11, 12, 13, 18, 19, 20, 21, 22, 23, 24, 25, 26, 27, 28, 29, 30, 31, 32, 33, 34, 35, 36, 37, 38, 39, 40, 41] (by decide +kernel) (by decide +kernel)) (goodIn_sub (fun _ h => List.mem_cons_of_mem _ (List.mem_append_right _ h)) (by decide +kernel))
set_option maxRecDepth 20000 in
theorem gX8_costOf_X8_lacks : GoodIn wsX8_costOf (wsV RX8 87 RX8 yX8_lacks wsX8_lacks) := goodIn_app (goodIn_of _ (by decide +kernel)) ggX8_costOf_X8_lacks
theorem dX8_costOf_0 : decode cX8_costOf 0 = .ok (.aload_n 0, 1) := by decide +kernel
theorem dX8_costOf_1 : decode cX8_costOf 1 = .ok (.iload_n 1, 1) := by decide +kernel
theorem dX8_costOf_2 : decode cX8_costOf 2 = .ok (.iconst 0, 1) := by decide +kernel
theorem dX8_costOf_3 : decode cX8_costOf 3 = .ok (.invokevirtual 80, 3) := by decide +kernel
theorem dX8_costOf_6 : decode cX8_costOf 6 = .ok (.aload_n 0, 1) := by decide +kernel
theorem dX8_costOf_7 : decode cX8_costOf 7 = .ok (.iload_n 2, 1) := by decide +kernel
theorem dX8_costOf_8 : decode cX8_costOf 8 = .ok (.iconst 0, 1) := by decide +kernel
theorem dX8_costOf_9 : decode cX8_costOf 9 = .ok (.invokevirtual 76, 3) := by decide +kernel
theorem dX8_costOf_12 : decode cX8_costOf 12 = .ok (.ior, 1) := by decide +kernel
theorem dX8_costOf_13 : decode cX8_costOf 13 = .ok (.invokestatic 83, 3) := by decide +kernel
theorem dX8_costOf_16 : decode cX8_costOf 16 = .ok (.aload_n 0, 1) := by decide +kernel
theorem dX8_costOf_17 : decode cX8_costOf 17 = .ok (.iload_n 2, 1) := by decide +kernel
theorem dX8_costOf_18 : decode cX8_costOf 18 = .ok (.iconst 0, 1) := by decide +kernel
theorem dX8_costOf_19 : decode cX8_costOf 19 = .ok (.invokevirtual 76, 3) := by decide +kernel
theorem dX8_costOf_22 : decode cX8_costOf 22 = .ok (.invokestatic 83, 3) := by decide +kernel
theorem dX8_costOf_25 : decode cX8_costOf 25 = .ok (.isub, 1) := by decide +kernel
theorem dX8_costOf_26 : decode cX8_costOf 26 = .ok (.aload_n 0, 1) := by decide +kernel
theorem dX8_costOf_27 : decode cX8_costOf 27 = .ok (.getfield 7, 3) := by decide +kernel
theorem dX8_costOf_30 : decode cX8_costOf 30 = .ok (.iconst 2, 1) := by decide +kernel
theorem dX8_costOf_31 : decode cX8_costOf 31 = .ok (.iaload, 1) := by decide +kernel
theorem dX8_costOf_32 : decode cX8_costOf 32 = .ok (.isub, 1) := by decide +kernel
theorem dX8_costOf_33 : decode cX8_costOf 33 = .ok (.istore_n 3, 1) := by decide +kernel
theorem dX8_costOf_34 : decode cX8_costOf 34 = .ok (.aload_n 0, 1) := by decide +kernel
theorem dX8_costOf_35 : decode cX8_costOf 35 = .ok (.iload_n 1, 1) := by decide +kernel
theorem dX8_costOf_36 : decode cX8_costOf 36 = .ok (.iload_n 2, 1) := by decide +kernel
theorem dX8_costOf_37 : decode cX8_costOf 37 = .ok (.invokevirtual 87, 3) := by decide +kernel
theorem dX8_costOf_40 : decode cX8_costOf 40 = .ok (.iload_n 3, 1) := by decide +kernel
theorem dX8_costOf_41 : decode cX8_costOf 41 = .ok (.ifCond .le 7, 3) := by decide +kernel
theorem dX8_costOf_44 : decode cX8_costOf 44 = .ok (.iload_n 3, 1) := by decide +kernel
theorem dX8_costOf_45 : decode cX8_costOf 45 = .ok (.goto 4, 3) := by decide +kernel
theorem dX8_costOf_48 : decode cX8_costOf 48 = .ok (.iconst 0, 1) := by decide +kernel
theorem dX8_costOf_49 : decode cX8_costOf 49 = .ok (.iadd, 1) := by decide +kernel
theorem dX8_costOf_50 : decode cX8_costOf 50 = .ok (.ireturn, 1) := by decide +kernel
set_option maxRecDepth 20000 in
theorem ggX8_costFor_X8_isNoPair : GoodIn wsX8_costFor wsX8_isNoPair := goodIn_ca (goodIn_r _ [5, 6, 7, 8, 4, 9, 10, 11, 12, 13, 14, 15, 16, 17, 18, 19, 20, 21, 22, 42, 43, 44, 45, 46, 47, 48, 49, 50, 51, 52, 53, 54, 55, 56, 57, 58, 59, 60, 61, 62, 63, 64, 65] (by decide +kernel) (by decide +kernel)) (goodIn_sub (fun _ h => List.mem_cons_of_mem _ (List.mem_append_right _ h)) (by decide +kernel))
set_option maxRecDepth 20000 in
theorem gX8_costFor_X8_isNoPair : GoodIn wsX8_costFor (wsV RX8 147 RX8 yX8_isNoPair wsX8_isNoPair) := goodIn_app (goodIn_of _ (by decide +kernel)) ggX8_costFor_X8_isNoPair
set_option maxRecDepth 20000 in
theorem ggX8_costFor_X8_costOf : GoodIn wsX8_costFor wsX8_costOf := goodIn_ca (goodIn_r _ [26, 10, 27, 28, 29, 4, 30, 31, 32, 33, 34, 35, 36, 37, 38, 39, 40, 41, 42, 43, 44, 45, 46, 47, 48, 49, 50, 51, 52, 53, 54, 55, 56, 57, 58, 59, 60, 61, 62, 63, 64, 65] (by decide +kernel) (by decide +kernel)) (goodIn_sub (fun _ h => List.mem_cons_of_mem _ (List.mem_append_right _ h)) (by decide +kernel))
set_option maxRecDepth 20000 in
theorem gX8_costFor_X8_costOf : GoodIn wsX8_costFor (wsV RX8 150 RX8 yX8_costOf wsX8_costOf) := goodIn_app (goodIn_of _ (by decide +kernel)) ggX8_costFor_X8_costOf
theorem dX8_costFor_0 : decode cX8_costFor 0 = .ok (.aload_n 0, 1) := by decide +kernel
theorem dX8_costFor_1 : decode cX8_costFor 1 = .ok (.iload_n 1, 1) := by decide +kernel
theorem dX8_costFor_2 : decode cX8_costFor 2 = .ok (.iload_n 2, 1) := by decide +kernel
theorem dX8_costFor_3 : decode cX8_costFor 3 = .ok (.invokevirtual 147, 3) := by decide +kernel
theorem dX8_costFor_6 : decode cX8_costFor 6 = .ok (.ifCond .eq 7, 3) := by decide +kernel
theorem dX8_costFor_9 : decode cX8_costFor 9 = .ok (.iconst 0, 1) := by decide +kernel
theorem dX8_costFor_10 : decode cX8_costFor 10 = .ok (.goto 9, 3) := by decide +kernel
theorem dX8_costFor_13 : decode cX8_costFor 13 = .ok (.aload_n 0, 1) := by decide +kernel
theorem dX8_costFor_14 : decode cX8_costFor 14 = .ok (.iload_n 1, 1) := by decide +kernel
theorem dX8_costFor_15 : decode cX8_costFor 15 = .ok (.iload_n 2, 1) := by decide +kernel
theorem dX8_costFor_16 : decode cX8_costFor 16 = .ok (.invokevirtual 150, 3) := by decide +kernel
theorem dX8_costFor_19 : decode cX8_costFor 19 = .ok (.ireturn, 1) := by decide +kernel
set_option maxRecDepth 20000 in
theorem ggX8_cheapest_X8_isLock : GoodIn wsX8_cheapest wsX8_isLock := goodIn_ca (goodIn_r _ [7, 1, 8, 9, 6, 10, 34, 35, 36, 37, 38, 39, 40, 41, 42, 43, 44, 45, 46, 47, 48, 49, 50, 51, 52, 53, 54, 55, 56, 57] (by decide +kernel) (by decide +kernel)) (goodIn_sub (fun _ h => List.mem_cons_of_mem _ (List.mem_append_right _ h)) (by decide +kernel))
set_option maxRecDepth 20000 in
theorem gX8_cheapest_X8_isLock : GoodIn wsX8_cheapest (wsV RX8 113 RX8 yX8_isLock wsX8_isLock) := goodIn_app (goodIn_of _ (by decide +kernel)) ggX8_cheapest_X8_isLock
set_option maxRecDepth 20000 in
theorem ggX8_cheapest_X8_fails : GoodIn wsX8_cheapest wsX8_fails := goodIn_r _ [14, 2, 34, 35, 36, 37, 38, 39, 40, 41, 42, 43, 44, 45, 46, 47, 48, 49, 50, 51, 52, 53, 54, 55, 56, 57] (by decide +kernel) (by decide +kernel)
set_option maxRecDepth 20000 in
theorem gX8_cheapest_X8_fails : GoodIn wsX8_cheapest (wsV RX8 138 RX8 yX8_fails wsX8_fails) := goodIn_app (goodIn_of _ (by decide +kernel)) ggX8_cheapest_X8_fails
set_option maxRecDepth 20000 in
theorem ggX8_cheapest_X8_costOf : GoodIn wsX8_cheapest wsX8_costOf := goodIn_ca (goodIn_r _ [18, 1, 19, 20, 21, 6, 22, 23, 24, 25, 26, 27, 28, 29, 30, 31, 32, 33, 34, 35, 36, 37, 38, 39, 40, 41, 42, 43, 44, 45, 46, 47, 48, 49, 50, 51, 52, 53, 54, 55, 56, 57] (by decide +kernel) (by decide +kernel)) (goodIn_sub (fun _ h => List.mem_cons_of_mem _ (List.mem_append_right _ h)) (by decide +kernel))
set_option maxRecDepth 20000 in
theorem gX8_cheapest_X8_costOf : GoodIn wsX8_cheapest (wsV RX8 150 RX8 yX8_costOf wsX8_costOf) := goodIn_app (goodIn_of _ (by decide +kernel)) ggX8_cheapest_X8_costOf
theorem dX8_cheapest_0 : decode cX8_cheapest 0 = .ok (.aload_n 0, 1) := by decide +kernel
theorem dX8_cheapest_1 : decode cX8_cheapest 1 = .ok (.aload_n 0, 1) := by decide +kernel
theorem dX8_cheapest_2 : decode cX8_cheapest 2 = .ok (.iload_n 1, 1) := by decide +kernel
theorem dX8_cheapest_3 : decode cX8_cheapest 3 = .ok (.invokevirtual 113, 3) := by decide +kernel
theorem dX8_cheapest_6 : decode cX8_cheapest 6 = .ok (.ifCond .eq 7, 3) := by decide +kernel
theorem dX8_cheapest_9 : decode cX8_cheapest 9 = .ok (.iconst 0, 1) := by decide +kernel
theorem dX8_cheapest_10 : decode cX8_cheapest 10 = .ok (.goto 4, 3) := by decide +kernel
theorem dX8_cheapest_13 : decode cX8_cheapest 13 = .ok (.iconst 1, 1) := by decide +kernel
theorem dX8_cheapest_14 : decode cX8_cheapest 14 = .ok (.invokevirtual 138, 3) := by decide +kernel
theorem dX8_cheapest_17 : decode cX8_cheapest 17 = .ok (.ifCond .eq 5, 3) := by decide +kernel
theorem dX8_cheapest_20 : decode cX8_cheapest 20 = .ok (.iconst 0, 1) := by decide +kernel
theorem dX8_cheapest_21 : decode cX8_cheapest 21 = .ok (.ireturn, 1) := by decide +kernel
theorem dX8_cheapest_22 : decode cX8_cheapest 22 = .ok (.iconst 0, 1) := by decide +kernel
theorem dX8_cheapest_23 : decode cX8_cheapest 23 = .ok (.istore_n 3, 1) := by decide +kernel
theorem dX8_cheapest_24 : decode cX8_cheapest 24 = .ok (.iload_n 3, 1) := by decide +kernel
theorem dX8_cheapest_25 : decode cX8_cheapest 25 = .ok (.aload_n 0, 1) := by decide +kernel
theorem dX8_cheapest_26 : decode cX8_cheapest 26 = .ok (.getfield 7, 3) := by decide +kernel
theorem dX8_cheapest_29 : decode cX8_cheapest 29 = .ok (.iconst 0, 1) := by decide +kernel
theorem dX8_cheapest_30 : decode cX8_cheapest 30 = .ok (.iaload, 1) := by decide +kernel
theorem dX8_cheapest_31 : decode cX8_cheapest 31 = .ok (.if_icmp .ge 125, 3) := by decide +kernel
theorem dX8_cheapest_34 : decode cX8_cheapest 34 = .ok (.aload_n 0, 1) := by decide +kernel
theorem dX8_cheapest_35 : decode cX8_cheapest 35 = .ok (.getfield 7, 3) := by decide +kernel
theorem dX8_cheapest_38 : decode cX8_cheapest 38 = .ok (.bipush 77, 2) := by decide +kernel
theorem dX8_cheapest_40 : decode cX8_cheapest 40 = .ok (.bipush 10, 2) := by decide +kernel
theorem dX8_cheapest_42 : decode cX8_cheapest 42 = .ok (.iload_n 3, 1) := by decide +kernel
theorem dX8_cheapest_43 : decode cX8_cheapest 43 = .ok (.imul, 1) := by decide +kernel
theorem dX8_cheapest_44 : decode cX8_cheapest 44 = .ok (.iadd, 1) := by decide +kernel
theorem dX8_cheapest_45 : decode cX8_cheapest 45 = .ok (.iload_n 1, 1) := by decide +kernel
theorem dX8_cheapest_46 : decode cX8_cheapest 46 = .ok (.iadd, 1) := by decide +kernel
theorem dX8_cheapest_47 : decode cX8_cheapest 47 = .ok (.iaload, 1) := by decide +kernel
theorem dX8_cheapest_48 : decode cX8_cheapest 48 = .ok (.iconst 1, 1) := by decide +kernel
theorem dX8_cheapest_49 : decode cX8_cheapest 49 = .ok (.if_icmp .ne 6, 3) := by decide +kernel
theorem dX8_cheapest_52 : decode cX8_cheapest 52 = .ok (.goto 98, 3) := by decide +kernel
theorem dX8_cheapest_55 : decode cX8_cheapest 55 = .ok (.iconst 0, 1) := by decide +kernel
theorem dX8_cheapest_56 : decode cX8_cheapest 56 = .ok (.istore 4, 2) := by decide +kernel
theorem dX8_cheapest_58 : decode cX8_cheapest 58 = .ok (.iconst 0, 1) := by decide +kernel
theorem dX8_cheapest_59 : decode cX8_cheapest 59 = .ok (.istore 5, 2) := by decide +kernel
theorem dX8_cheapest_61 : decode cX8_cheapest 61 = .ok (.iload 5, 2) := by decide +kernel
theorem dX8_cheapest_63 : decode cX8_cheapest 63 = .ok (.aload_n 0, 1) := by decide +kernel
theorem dX8_cheapest_64 : decode cX8_cheapest 64 = .ok (.getfield 7, 3) := by decide +kernel
theorem dX8_cheapest_67 : decode cX8_cheapest 67 = .ok (.iconst 0, 1) := by decide +kernel
theorem dX8_cheapest_68 : decode cX8_cheapest 68 = .ok (.iaload, 1) := by decide +kernel
theorem dX8_cheapest_69 : decode cX8_cheapest 69 = .ok (.if_icmp .ge 73, 3) := by decide +kernel
theorem dX8_cheapest_72 : decode cX8_cheapest 72 = .ok (.aload_n 0, 1) := by decide +kernel
theorem dX8_cheapest_73 : decode cX8_cheapest 73 = .ok (.getfield 7, 3) := by decide +kernel
theorem dX8_cheapest_76 : decode cX8_cheapest 76 = .ok (.bipush 77, 2) := by decide +kernel
theorem dX8_cheapest_78 : decode cX8_cheapest 78 = .ok (.bipush 10, 2) := by decide +kernel
theorem dX8_cheapest_80 : decode cX8_cheapest 80 = .ok (.iload 5, 2) := by decide +kernel
theorem dX8_cheapest_82 : decode cX8_cheapest 82 = .ok (.imul, 1) := by decide +kernel
theorem dX8_cheapest_83 : decode cX8_cheapest 83 = .ok (.iadd, 1) := by decide +kernel
theorem dX8_cheapest_84 : decode cX8_cheapest 84 = .ok (.iload_n 1, 1) := by decide +kernel
theorem dX8_cheapest_85 : decode cX8_cheapest 85 = .ok (.iadd, 1) := by decide +kernel
theorem dX8_cheapest_86 : decode cX8_cheapest 86 = .ok (.iaload, 1) := by decide +kernel
theorem dX8_cheapest_87 : decode cX8_cheapest 87 = .ok (.iconst 1, 1) := by decide +kernel
theorem dX8_cheapest_88 : decode cX8_cheapest 88 = .ok (.if_icmp .ne 6, 3) := by decide +kernel
theorem dX8_cheapest_91 : decode cX8_cheapest 91 = .ok (.goto 45, 3) := by decide +kernel
theorem dX8_cheapest_94 : decode cX8_cheapest 94 = .ok (.aload_n 0, 1) := by decide +kernel
theorem dX8_cheapest_95 : decode cX8_cheapest 95 = .ok (.iload 5, 2) := by decide +kernel
theorem dX8_cheapest_97 : decode cX8_cheapest 97 = .ok (.iload_n 1, 1) := by decide +kernel
theorem dX8_cheapest_98 : decode cX8_cheapest 98 = .ok (.invokevirtual 150, 3) := by decide +kernel
theorem dX8_cheapest_101 : decode cX8_cheapest 101 = .ok (.aload_n 0, 1) := by decide +kernel
theorem dX8_cheapest_102 : decode cX8_cheapest 102 = .ok (.iload_n 3, 1) := by decide +kernel
theorem dX8_cheapest_103 : decode cX8_cheapest 103 = .ok (.iload_n 1, 1) := by decide +kernel
theorem dX8_cheapest_104 : decode cX8_cheapest 104 = .ok (.invokevirtual 150, 3) := by decide +kernel
theorem dX8_cheapest_107 : decode cX8_cheapest 107 = .ok (.isub, 1) := by decide +kernel
theorem dX8_cheapest_108 : decode cX8_cheapest 108 = .ok (.istore 6, 2) := by decide +kernel
theorem dX8_cheapest_110 : decode cX8_cheapest 110 = .ok (.iload 4, 2) := by decide +kernel
theorem dX8_cheapest_112 : decode cX8_cheapest 112 = .ok (.iload 6, 2) := by decide +kernel
theorem dX8_cheapest_114 : decode cX8_cheapest 114 = .ok (.ifCond .lt 14, 3) := by decide +kernel
theorem dX8_cheapest_117 : decode cX8_cheapest 117 = .ok (.iload 6, 2) := by decide +kernel
theorem dX8_cheapest_119 : decode cX8_cheapest 119 = .ok (.ifCond .ne 13, 3) := by decide +kernel
theorem dX8_cheapest_122 : decode cX8_cheapest 122 = .ok (.iload 5, 2) := by decide +kernel
theorem dX8_cheapest_124 : decode cX8_cheapest 124 = .ok (.iload_n 3, 1) := by decide +kernel
theorem dX8_cheapest_125 : decode cX8_cheapest 125 = .ok (.if_icmp .ge 7, 3) := by decide +kernel
theorem dX8_cheapest_128 : decode cX8_cheapest 128 = .ok (.iconst 1, 1) := by decide +kernel
theorem dX8_cheapest_129 : decode cX8_cheapest 129 = .ok (.goto 4, 3) := by decide +kernel
theorem dX8_cheapest_132 : decode cX8_cheapest 132 = .ok (.iconst 0, 1) := by decide +kernel
theorem dX8_cheapest_133 : decode cX8_cheapest 133 = .ok (.iadd, 1) := by decide +kernel
theorem dX8_cheapest_134 : decode cX8_cheapest 134 = .ok (.istore 4, 2) := by decide +kernel
theorem dX8_cheapest_136 : decode cX8_cheapest 136 = .ok (.iinc 5 1, 3) := by decide +kernel
theorem dX8_cheapest_139 : decode cX8_cheapest 139 = .ok (.goto (-78), 3) := by decide +kernel
theorem dX8_cheapest_142 : decode cX8_cheapest 142 = .ok (.iload 4, 2) := by decide +kernel
theorem dX8_cheapest_144 : decode cX8_cheapest 144 = .ok (.iload_n 2, 1) := by decide +kernel
theorem dX8_cheapest_145 : decode cX8_cheapest 145 = .ok (.if_icmp .ne 5, 3) := by decide +kernel
theorem dX8_cheapest_148 : decode cX8_cheapest 148 = .ok (.iload_n 3, 1) := by decide +kernel
theorem dX8_cheapest_149 : decode cX8_cheapest 149 = .ok (.ireturn, 1) := by decide +kernel
theorem dX8_cheapest_150 : decode cX8_cheapest 150 = .ok (.iinc 3 1, 3) := by decide +kernel
theorem dX8_cheapest_153 : decode cX8_cheapest 153 = .ok (.goto (-129), 3) := by decide +kernel
theorem dX8_cheapest_156 : decode cX8_cheapest 156 = .ok (.aload_n 0, 1) := by decide +kernel
theorem dX8_cheapest_157 : decode cX8_cheapest 157 = .ok (.iconst 2, 1) := by decide +kernel
theorem dX8_cheapest_158 : decode cX8_cheapest 158 = .ok (.putfield 46, 3) := by decide +kernel
theorem dX8_cheapest_161 : decode cX8_cheapest 161 = .ok (.iconst 0, 1) := by decide +kernel
theorem dX8_cheapest_162 : decode cX8_cheapest 162 = .ok (.ireturn, 1) := by decide +kernel
set_option maxRecDepth 20000 in
theorem ggX8_length_X8_levels : GoodIn wsX8_length wsX8_levels := goodIn_ca (goodIn_r _ [6, 7, 8, 1, 9, 10, 11, 5, 12, 13, 14, 15, 16, 17, 18, 19, 20, 21, 22, 23, 24, 25, 26, 27, 33, 34, 35, 36, 37, 38, 39, 40, 41, 42, 43, 44, 45, 46, 47, 48, 49, 50, 51, 52, 53, 54, 55, 56] (by decide +kernel) (by decide +kernel)) (goodIn_sub (fun _ h => List.mem_cons_of_mem _ (List.mem_append_right _ h)) (by decide +kernel))
set_option maxRecDepth 20000 in
theorem gX8_length_X8_levels : GoodIn wsX8_length (wsV RX8 131 RX8 yX8_levels wsX8_levels) := goodIn_app (goodIn_of _ (by decide +kernel)) ggX8_length_X8_levels
set_option maxRecDepth 20000 in
theorem ggX8_length_X8_fails : GoodIn wsX8_length wsX8_fails := goodIn_r _ [31, 32, 33, 34, 35, 36, 37, 38, 39, 40, 41, 42, 43, 44, 45, 46, 47, 48, 49, 50, 51, 52, 53, 54, 55, 56] (by decide +kernel) (by decide +kernel)
set_option maxRecDepth 20000 in
theorem gX8_length_X8_fails : GoodIn wsX8_length (wsV RX8 138 RX8 yX8_fails wsX8_fails) := goodIn_app (goodIn_of _ (by decide +kernel)) ggX8_length_X8_fails
theorem dX8_length_0 : decode cX8_length 0 = .ok (.aload_n 0, 1) := by decide +kernel
theorem dX8_length_1 : decode cX8_length 1 = .ok (.invokevirtual 131, 3) := by decide +kernel
theorem dX8_length_4 : decode cX8_length 4 = .ok (.istore_n 1, 1) := by decide +kernel
theorem dX8_length_5 : decode cX8_length 5 = .ok (.aload_n 0, 1) := by decide +kernel
theorem dX8_length_6 : decode cX8_length 6 = .ok (.iload_n 1, 1) := by decide +kernel
theorem dX8_length_7 : decode cX8_length 7 = .ok (.ifCond .eq 7, 3) := by decide +kernel
theorem dX8_length_10 : decode cX8_length 10 = .ok (.iconst 0, 1) := by decide +kernel
theorem dX8_length_11 : decode cX8_length 11 = .ok (.goto 4, 3) := by decide +kernel
theorem dX8_length_14 : decode cX8_length 14 = .ok (.iconst 1, 1) := by decide +kernel
theorem dX8_length_15 : decode cX8_length 15 = .ok (.invokevirtual 138, 3) := by decide +kernel
theorem dX8_length_18 : decode cX8_length 18 = .ok (.ifCond .eq 7, 3) := by decide +kernel
theorem dX8_length_21 : decode cX8_length 21 = .ok (.iconst 0, 1) := by decide +kernel
theorem dX8_length_22 : decode cX8_length 22 = .ok (.goto 9, 3) := by decide +kernel
theorem dX8_length_25 : decode cX8_length 25 = .ok (.aload_n 0, 1) := by decide +kernel
theorem dX8_length_26 : decode cX8_length 26 = .ok (.getfield 125, 3) := by decide +kernel
theorem dX8_length_29 : decode cX8_length 29 = .ok (.iconst 1, 1) := by decide +kernel
theorem dX8_length_30 : decode cX8_length 30 = .ok (.iadd, 1) := by decide +kernel
theorem dX8_length_31 : decode cX8_length 31 = .ok (.ireturn, 1) := by decide +kernel
set_option maxRecDepth 20000 in
theorem ggX8_adds_X8_copies : GoodIn wsX8_adds wsX8_copies := goodIn_ca (goodIn_r _ [7] (by decide +kernel) (by decide +kernel)) (goodIn_sub (fun _ h => List.mem_cons_of_mem _ (List.mem_append_right _ h)) (by decide +kernel))
set_option maxRecDepth 20000 in
theorem gX8_adds_X8_copies : GoodIn wsX8_adds (va_wsS RX8 68 yX8_copies wsX8_copies) := goodIn_app (goodIn_of _ (by decide +kernel)) ggX8_adds_X8_copies
set_option maxRecDepth 20000 in
theorem ggX8_adds_X8_adds0 : GoodIn wsX8_adds wsX8_adds0 := goodIn_ca (goodIn_r _ [11, 12, 2, 13, 14, 15, 16, 6, 17, 18, 19, 20, 21, 22, 23, 24, 25, 26, 27, 28, 29, 30, 31, 32, 33, 34, 35, 36, 37, 38, 39, 40, 41, 42, 43, 44, 45, 46, 47, 48, 49, 50, 51, 52, 53, 54, 55, 56, 57, 58, 59, 60, 61, 62, 63, 64, 65, 66, 67, 68, 69] (by decide +kernel) (by decide +kernel)) (goodIn_sub (fun _ h => List.mem_cons_of_mem _ (List.mem_append_right _ h)) (by decide +kernel))
set_option maxRecDepth 20000 in
theorem gX8_adds_X8_adds0 : GoodIn wsX8_adds (wsV RX8 135 RX8 yX8_adds0 wsX8_adds0) := goodIn_app (goodIn_of _ (by decide +kernel)) ggX8_adds_X8_adds0
theorem dX8_adds_0 : decode cX8_adds 0 = .ok (.aload_n 0, 1) := by decide +kernel
theorem dX8_adds_1 : decode cX8_adds 1 = .ok (.iconst 0, 1) := by decide +kernel
theorem dX8_adds_2 : decode cX8_adds 2 = .ok (.putfield 46, 3) := by decide +kernel
theorem dX8_adds_5 : decode cX8_adds 5 = .ok (.aload_n 0, 1) := by decide +kernel
theorem dX8_adds_6 : decode cX8_adds 6 = .ok (.getfield 7, 3) := by decide +kernel
theorem dX8_adds_9 : decode cX8_adds 9 = .ok (.iconst 0, 1) := by decide +kernel
theorem dX8_adds_10 : decode cX8_adds 10 = .ok (.aload_n 0, 1) := by decide +kernel
theorem dX8_adds_11 : decode cX8_adds 11 = .ok (.getfield 22, 3) := by decide +kernel
theorem dX8_adds_14 : decode cX8_adds 14 = .ok (.iconst 0, 1) := by decide +kernel
theorem dX8_adds_15 : decode cX8_adds 15 = .ok (.invokestatic 68, 3) := by decide +kernel
theorem dX8_adds_18 : decode cX8_adds 18 = .ok (.aload_n 0, 1) := by decide +kernel
theorem dX8_adds_19 : decode cX8_adds 19 = .ok (.invokevirtual 135, 3) := by decide +kernel
theorem dX8_adds_22 : decode cX8_adds 22 = .ok (.istore_n 1, 1) := by decide +kernel
theorem dX8_adds_23 : decode cX8_adds 23 = .ok (.aload_n 0, 1) := by decide +kernel
theorem dX8_adds_24 : decode cX8_adds 24 = .ok (.getfield 22, 3) := by decide +kernel
theorem dX8_adds_27 : decode cX8_adds 27 = .ok (.iconst 0, 1) := by decide +kernel
theorem dX8_adds_28 : decode cX8_adds 28 = .ok (.aload_n 0, 1) := by decide +kernel
theorem dX8_adds_29 : decode cX8_adds 29 = .ok (.getfield 7, 3) := by decide +kernel
theorem dX8_adds_32 : decode cX8_adds 32 = .ok (.iconst 0, 1) := by decide +kernel
theorem dX8_adds_33 : decode cX8_adds 33 = .ok (.invokestatic 68, 3) := by decide +kernel
theorem dX8_adds_36 : decode cX8_adds 36 = .ok (.iload_n 1, 1) := by decide +kernel
theorem dX8_adds_37 : decode cX8_adds 37 = .ok (.ireturn, 1) := by decide +kernel
set_option maxRecDepth 20000 in
theorem ggX8_comesToEnd_X8_adds0 : GoodIn wsX8_comesToEnd wsX8_adds0 := goodIn_ca (goodIn_r _ [5, 6, 7, 8, 9, 10, 11, 4, 12, 13, 14, 15, 16, 17, 18, 19, 20, 21, 22, 23, 24, 25, 26, 27, 28, 29, 30, 31, 32, 33, 34, 35, 36, 37, 38, 39, 40, 41, 42, 43, 44, 45, 46, 47, 48, 49, 50, 51, 52, 53, 54, 55, 56, 57, 58, 59, 60, 61, 62, 63, 64] (by decide +kernel) (by decide +kernel)) (goodIn_sub (fun _ h => List.mem_cons_of_mem _ (List.mem_append_right _ h)) (by decide +kernel))
set_option maxRecDepth 20000 in
theorem gX8_comesToEnd_X8_adds0 : GoodIn wsX8_comesToEnd (wsV RX8 135 RX8 yX8_adds0 wsX8_adds0) := goodIn_app (goodIn_of _ (by decide +kernel)) ggX8_comesToEnd_X8_adds0
theorem dX8_comesToEnd_0 : decode cX8_comesToEnd 0 = .ok (.iconst 0, 1) := by decide +kernel
theorem dX8_comesToEnd_1 : decode cX8_comesToEnd 1 = .ok (.istore_n 1, 1) := by decide +kernel
theorem dX8_comesToEnd_2 : decode cX8_comesToEnd 2 = .ok (.aload_n 0, 1) := by decide +kernel
theorem dX8_comesToEnd_3 : decode cX8_comesToEnd 3 = .ok (.invokevirtual 135, 3) := by decide +kernel
theorem dX8_comesToEnd_6 : decode cX8_comesToEnd 6 = .ok (.ifCond .le 9, 3) := by decide +kernel
theorem dX8_comesToEnd_9 : decode cX8_comesToEnd 9 = .ok (.iinc 1 1, 3) := by decide +kernel
theorem dX8_comesToEnd_12 : decode cX8_comesToEnd 12 = .ok (.goto (-10), 3) := by decide +kernel
theorem dX8_comesToEnd_15 : decode cX8_comesToEnd 15 = .ok (.iload_n 1, 1) := by decide +kernel
theorem dX8_comesToEnd_16 : decode cX8_comesToEnd 16 = .ok (.ireturn, 1) := by decide +kernel
set_option maxRecDepth 20000 in
theorem ggX8_waves_X8_copies : GoodIn wsX8_waves wsX8_copies := goodIn_ca (goodIn_r _ [7] (by decide +kernel) (by decide +kernel)) (goodIn_sub (fun _ h => List.mem_cons_of_mem _ (List.mem_append_right _ h)) (by decide +kernel))
set_option maxRecDepth 20000 in
theorem gX8_waves_X8_copies : GoodIn wsX8_waves (va_wsS RX8 68 yX8_copies wsX8_copies) := goodIn_app (goodIn_of _ (by decide +kernel)) ggX8_waves_X8_copies
set_option maxRecDepth 20000 in
theorem ggX8_waves_X8_comesToEnd : GoodIn wsX8_waves wsX8_comesToEnd := goodIn_ca (goodIn_r _ [11, 12, 13, 14, 6, 15, 16, 2, 17, 18, 19, 20, 21, 22, 23, 24, 25, 26, 27, 28, 29, 30, 31, 32, 33, 34, 35, 36, 37, 38, 39, 40, 41, 42, 43, 44, 45, 46, 47, 48, 49, 50, 51, 52, 53, 54, 55, 56, 57, 58, 59, 60, 61, 62, 63, 64, 65, 66, 67, 68, 69, 70, 71, 72, 73] (by decide +kernel) (by decide +kernel)) (goodIn_sub (fun _ h => List.mem_cons_of_mem _ (List.mem_append_right _ h)) (by decide +kernel))
set_option maxRecDepth 20000 in
theorem gX8_waves_X8_comesToEnd : GoodIn wsX8_waves (wsV RX8 153 RX8 yX8_comesToEnd wsX8_comesToEnd) := goodIn_app (goodIn_of _ (by decide +kernel)) ggX8_waves_X8_comesToEnd
theorem dX8_waves_0 : decode cX8_waves 0 = .ok (.aload_n 0, 1) := by decide +kernel
theorem dX8_waves_1 : decode cX8_waves 1 = .ok (.iconst 0, 1) := by decide +kernel
theorem dX8_waves_2 : decode cX8_waves 2 = .ok (.putfield 46, 3) := by decide +kernel
theorem dX8_waves_5 : decode cX8_waves 5 = .ok (.aload_n 0, 1) := by decide +kernel
theorem dX8_waves_6 : decode cX8_waves 6 = .ok (.getfield 7, 3) := by decide +kernel
theorem dX8_waves_9 : decode cX8_waves 9 = .ok (.iconst 0, 1) := by decide +kernel
theorem dX8_waves_10 : decode cX8_waves 10 = .ok (.aload_n 0, 1) := by decide +kernel
theorem dX8_waves_11 : decode cX8_waves 11 = .ok (.getfield 22, 3) := by decide +kernel
theorem dX8_waves_14 : decode cX8_waves 14 = .ok (.iconst 0, 1) := by decide +kernel
theorem dX8_waves_15 : decode cX8_waves 15 = .ok (.invokestatic 68, 3) := by decide +kernel
theorem dX8_waves_18 : decode cX8_waves 18 = .ok (.aload_n 0, 1) := by decide +kernel
theorem dX8_waves_19 : decode cX8_waves 19 = .ok (.invokevirtual 153, 3) := by decide +kernel
theorem dX8_waves_22 : decode cX8_waves 22 = .ok (.istore_n 1, 1) := by decide +kernel
theorem dX8_waves_23 : decode cX8_waves 23 = .ok (.aload_n 0, 1) := by decide +kernel
theorem dX8_waves_24 : decode cX8_waves 24 = .ok (.getfield 22, 3) := by decide +kernel
theorem dX8_waves_27 : decode cX8_waves 27 = .ok (.iconst 0, 1) := by decide +kernel
theorem dX8_waves_28 : decode cX8_waves 28 = .ok (.aload_n 0, 1) := by decide +kernel
theorem dX8_waves_29 : decode cX8_waves 29 = .ok (.getfield 7, 3) := by decide +kernel
theorem dX8_waves_32 : decode cX8_waves 32 = .ok (.iconst 0, 1) := by decide +kernel
theorem dX8_waves_33 : decode cX8_waves 33 = .ok (.invokestatic 68, 3) := by decide +kernel
theorem dX8_waves_36 : decode cX8_waves 36 = .ok (.iload_n 1, 1) := by decide +kernel
theorem dX8_waves_37 : decode cX8_waves 37 = .ok (.ireturn, 1) := by decide +kernel
set_option maxRecDepth 20000 in
theorem ggX8_mostWithout_X8_copies : GoodIn wsX8_mostWithout wsX8_copies := goodIn_ca (goodIn_r _ [6] (by decide +kernel) (by decide +kernel)) (goodIn_sub (fun _ h => List.mem_cons_of_mem _ (List.mem_append_right _ h)) (by decide +kernel))
set_option maxRecDepth 20000 in
theorem gX8_mostWithout_X8_copies : GoodIn wsX8_mostWithout (va_wsS RX8 68 yX8_copies wsX8_copies) := goodIn_app (goodIn_of _ (by decide +kernel)) ggX8_mostWithout_X8_copies
set_option maxRecDepth 20000 in
theorem ggX8_mostWithout_X8_ofKey : GoodIn wsX8_mostWithout wsX8_ofKey := goodIn_ca (goodIn_r _ [10, 1, 57, 58, 59, 60, 61, 62, 63, 64, 65, 66, 67, 68, 69, 70, 71, 72, 73, 74, 75, 76, 77, 78, 79, 80] (by decide +kernel) (by decide +kernel)) (goodIn_sub (fun _ h => List.mem_cons_of_mem _ (List.mem_append_right _ h)) (by decide +kernel))
set_option maxRecDepth 20000 in
theorem gX8_mostWithout_X8_ofKey : GoodIn wsX8_mostWithout (wsV RX8 80 RX8 yX8_ofKey wsX8_ofKey) := goodIn_app (goodIn_of _ (by decide +kernel)) ggX8_mostWithout_X8_ofKey
set_option maxRecDepth 20000 in
theorem ggX8_mostWithout_X8_lets : GoodIn wsX8_mostWithout wsX8_lets := goodIn_ca (goodIn_r _ [14, 1, 57, 58, 59, 60, 61, 62, 63, 64, 65, 66, 67, 68, 69, 70, 71, 72, 73, 74, 75, 76, 77, 78, 79, 80] (by decide +kernel) (by decide +kernel)) (goodIn_sub (fun _ h => List.mem_cons_of_mem _ (List.mem_append_right _ h)) (by decide +kernel))
set_option maxRecDepth 20000 in
theorem gX8_mostWithout_X8_lets : GoodIn wsX8_mostWithout (wsV RX8 94 RX8 yX8_lets wsX8_lets) := goodIn_app (goodIn_of _ (by decide +kernel)) ggX8_mostWithout_X8_lets
set_option maxRecDepth 20000 in
theorem ggX8_mostWithout_X8_comesToEnd : GoodIn wsX8_mostWithout wsX8_comesToEnd := goodIn_ca (goodIn_r _ [18, 19, 20, 21, 5, 22, 23, 1, 24, 25, 26, 27, 28, 29, 7, 8, 9, 10, 30, 31, 32, 33, 34, 35, 36, 37, 38, 39, 40, 41, 42, 43, 44, 45, 46, 47, 48, 49, 50, 51, 52, 57, 58, 59, 60, 61, 62, 63, 64, 65, 66, 67, 68, 69, 70, 71, 72, 73, 74, 75, 76, 77, 78, 79, 80] (by decide +kernel) (by decide +kernel)) (goodIn_sub (fun _ h => List.mem_cons_of_mem _ (List.mem_append_right _ h)) (by decide +kernel))
set_option maxRecDepth 20000 in
theorem gX8_mostWithout_X8_comesToEnd : GoodIn wsX8_mostWithout (wsV RX8 153 RX8 yX8_comesToEnd wsX8_comesToEnd) := goodIn_app (goodIn_of _ (by decide +kernel)) ggX8_mostWithout_X8_comesToEnd
set_option maxRecDepth 20000 in
theorem ggX8_mostWithout_X8_openMany : GoodIn wsX8_mostWithout wsX8_openMany := goodIn_ca (goodIn_r _ [56, 1, 38, 39, 40, 5, 41, 57, 58, 59, 60, 61, 62, 63, 64, 65, 66, 67, 68, 69, 70, 71, 72, 73, 74, 75, 76, 77, 78, 79, 80] (by decide +kernel) (by decide +kernel)) (goodIn_sub (fun _ h => List.mem_cons_of_mem _ (List.mem_append_right _ h)) (by decide +kernel))
set_option maxRecDepth 20000 in
theorem gX8_mostWithout_X8_openMany : GoodIn wsX8_mostWithout (wsV RX8 122 RX8 yX8_openMany wsX8_openMany) := goodIn_app (goodIn_of _ (by decide +kernel)) ggX8_mostWithout_X8_openMany
theorem dX8_mostWithout_0 : decode cX8_mostWithout 0 = .ok (.aload_n 0, 1) := by decide +kernel
theorem dX8_mostWithout_1 : decode cX8_mostWithout 1 = .ok (.getfield 7, 3) := by decide +kernel
theorem dX8_mostWithout_4 : decode cX8_mostWithout 4 = .ok (.iconst 0, 1) := by decide +kernel
theorem dX8_mostWithout_5 : decode cX8_mostWithout 5 = .ok (.aload_n 0, 1) := by decide +kernel
theorem dX8_mostWithout_6 : decode cX8_mostWithout 6 = .ok (.getfield 22, 3) := by decide +kernel
theorem dX8_mostWithout_9 : decode cX8_mostWithout 9 = .ok (.iconst 0, 1) := by decide +kernel
theorem dX8_mostWithout_10 : decode cX8_mostWithout 10 = .ok (.invokestatic 68, 3) := by decide +kernel
theorem dX8_mostWithout_13 : decode cX8_mostWithout 13 = .ok (.iconst 0, 1) := by decide +kernel
theorem dX8_mostWithout_14 : decode cX8_mostWithout 14 = .ok (.istore_n 3, 1) := by decide +kernel
theorem dX8_mostWithout_15 : decode cX8_mostWithout 15 = .ok (.iload_n 3, 1) := by decide +kernel
theorem dX8_mostWithout_16 : decode cX8_mostWithout 16 = .ok (.aload_n 0, 1) := by decide +kernel
theorem dX8_mostWithout_17 : decode cX8_mostWithout 17 = .ok (.getfield 7, 3) := by decide +kernel
theorem dX8_mostWithout_20 : decode cX8_mostWithout 20 = .ok (.iconst 0, 1) := by decide +kernel
theorem dX8_mostWithout_21 : decode cX8_mostWithout 21 = .ok (.iaload, 1) := by decide +kernel
theorem dX8_mostWithout_22 : decode cX8_mostWithout 22 = .ok (.if_icmp .ge 29, 3) := by decide +kernel
theorem dX8_mostWithout_25 : decode cX8_mostWithout 25 = .ok (.aload_n 0, 1) := by decide +kernel
theorem dX8_mostWithout_26 : decode cX8_mostWithout 26 = .ok (.iload_n 3, 1) := by decide +kernel
theorem dX8_mostWithout_27 : decode cX8_mostWithout 27 = .ok (.iconst 2, 1) := by decide +kernel
theorem dX8_mostWithout_28 : decode cX8_mostWithout 28 = .ok (.invokevirtual 80, 3) := by decide +kernel
theorem dX8_mostWithout_31 : decode cX8_mostWithout 31 = .ok (.ifCond .lt 14, 3) := by decide +kernel
theorem dX8_mostWithout_34 : decode cX8_mostWithout 34 = .ok (.aload_n 0, 1) := by decide +kernel
theorem dX8_mostWithout_35 : decode cX8_mostWithout 35 = .ok (.iload_n 3, 1) := by decide +kernel
theorem dX8_mostWithout_36 : decode cX8_mostWithout 36 = .ok (.aload_n 0, 1) := by decide +kernel
theorem dX8_mostWithout_37 : decode cX8_mostWithout 37 = .ok (.iload_n 3, 1) := by decide +kernel
theorem dX8_mostWithout_38 : decode cX8_mostWithout 38 = .ok (.iconst 2, 1) := by decide +kernel
theorem dX8_mostWithout_39 : decode cX8_mostWithout 39 = .ok (.invokevirtual 80, 3) := by decide +kernel
theorem dX8_mostWithout_42 : decode cX8_mostWithout 42 = .ok (.invokevirtual 94, 3) := by decide +kernel
theorem dX8_mostWithout_45 : decode cX8_mostWithout 45 = .ok (.iinc 3 1, 3) := by decide +kernel
theorem dX8_mostWithout_48 : decode cX8_mostWithout 48 = .ok (.goto (-33), 3) := by decide +kernel
theorem dX8_mostWithout_51 : decode cX8_mostWithout 51 = .ok (.iconst 0, 1) := by decide +kernel
theorem dX8_mostWithout_52 : decode cX8_mostWithout 52 = .ok (.istore_n 3, 1) := by decide +kernel
theorem dX8_mostWithout_53 : decode cX8_mostWithout 53 = .ok (.iload_n 3, 1) := by decide +kernel
theorem dX8_mostWithout_54 : decode cX8_mostWithout 54 = .ok (.aload_n 0, 1) := by decide +kernel
theorem dX8_mostWithout_55 : decode cX8_mostWithout 55 = .ok (.getfield 7, 3) := by decide +kernel
theorem dX8_mostWithout_58 : decode cX8_mostWithout 58 = .ok (.iconst 0, 1) := by decide +kernel
theorem dX8_mostWithout_59 : decode cX8_mostWithout 59 = .ok (.iaload, 1) := by decide +kernel
theorem dX8_mostWithout_60 : decode cX8_mostWithout 60 = .ok (.if_icmp .ge 56, 3) := by decide +kernel
theorem dX8_mostWithout_63 : decode cX8_mostWithout 63 = .ok (.iconst 0, 1) := by decide +kernel
theorem dX8_mostWithout_64 : decode cX8_mostWithout 64 = .ok (.istore 4, 2) := by decide +kernel
theorem dX8_mostWithout_66 : decode cX8_mostWithout 66 = .ok (.iload 4, 2) := by decide +kernel
theorem dX8_mostWithout_68 : decode cX8_mostWithout 68 = .ok (.aload_n 0, 1) := by decide +kernel
theorem dX8_mostWithout_69 : decode cX8_mostWithout 69 = .ok (.getfield 7, 3) := by decide +kernel
theorem dX8_mostWithout_72 : decode cX8_mostWithout 72 = .ok (.iconst 1, 1) := by decide +kernel
theorem dX8_mostWithout_73 : decode cX8_mostWithout 73 = .ok (.iaload, 1) := by decide +kernel
theorem dX8_mostWithout_74 : decode cX8_mostWithout 74 = .ok (.if_icmp .ge 36, 3) := by decide +kernel
theorem dX8_mostWithout_77 : decode cX8_mostWithout 77 = .ok (.iload_n 3, 1) := by decide +kernel
theorem dX8_mostWithout_78 : decode cX8_mostWithout 78 = .ok (.iload_n 1, 1) := by decide +kernel
theorem dX8_mostWithout_79 : decode cX8_mostWithout 79 = .ok (.if_icmp .eq 9, 3) := by decide +kernel
theorem dX8_mostWithout_82 : decode cX8_mostWithout 82 = .ok (.iload 4, 2) := by decide +kernel
theorem dX8_mostWithout_84 : decode cX8_mostWithout 84 = .ok (.iload_n 2, 1) := by decide +kernel
theorem dX8_mostWithout_85 : decode cX8_mostWithout 85 = .ok (.if_icmp .ne 19, 3) := by decide +kernel
theorem dX8_mostWithout_88 : decode cX8_mostWithout 88 = .ok (.aload_n 0, 1) := by decide +kernel
theorem dX8_mostWithout_89 : decode cX8_mostWithout 89 = .ok (.getfield 7, 3) := by decide +kernel
theorem dX8_mostWithout_92 : decode cX8_mostWithout 92 = .ok (.bipush 77, 2) := by decide +kernel
theorem dX8_mostWithout_94 : decode cX8_mostWithout 94 = .ok (.bipush 10, 2) := by decide +kernel
theorem dX8_mostWithout_96 : decode cX8_mostWithout 96 = .ok (.iload_n 3, 1) := by decide +kernel
theorem dX8_mostWithout_97 : decode cX8_mostWithout 97 = .ok (.imul, 1) := by decide +kernel
theorem dX8_mostWithout_98 : decode cX8_mostWithout 98 = .ok (.iadd, 1) := by decide +kernel
theorem dX8_mostWithout_99 : decode cX8_mostWithout 99 = .ok (.iload 4, 2) := by decide +kernel
theorem dX8_mostWithout_101 : decode cX8_mostWithout 101 = .ok (.iadd, 1) := by decide +kernel
theorem dX8_mostWithout_102 : decode cX8_mostWithout 102 = .ok (.iconst 1, 1) := by decide +kernel
theorem dX8_mostWithout_103 : decode cX8_mostWithout 103 = .ok (.iastore, 1) := by decide +kernel
theorem dX8_mostWithout_104 : decode cX8_mostWithout 104 = .ok (.iinc 4 1, 3) := by decide +kernel
theorem dX8_mostWithout_107 : decode cX8_mostWithout 107 = .ok (.goto (-41), 3) := by decide +kernel
theorem dX8_mostWithout_110 : decode cX8_mostWithout 110 = .ok (.iinc 3 1, 3) := by decide +kernel
theorem dX8_mostWithout_113 : decode cX8_mostWithout 113 = .ok (.goto (-60), 3) := by decide +kernel
theorem dX8_mostWithout_116 : decode cX8_mostWithout 116 = .ok (.aload_n 0, 1) := by decide +kernel
theorem dX8_mostWithout_117 : decode cX8_mostWithout 117 = .ok (.invokevirtual 153, 3) := by decide +kernel
theorem dX8_mostWithout_120 : decode cX8_mostWithout 120 = .ok (.istore_n 3, 1) := by decide +kernel
theorem dX8_mostWithout_121 : decode cX8_mostWithout 121 = .ok (.iload_n 3, 1) := by decide +kernel
theorem dX8_mostWithout_122 : decode cX8_mostWithout 122 = .ok (.ifCond .ge 7, 3) := by decide +kernel
theorem dX8_mostWithout_125 : decode cX8_mostWithout 125 = .ok (.iconst 0, 1) := by decide +kernel
theorem dX8_mostWithout_126 : decode cX8_mostWithout 126 = .ok (.goto 7, 3) := by decide +kernel
theorem dX8_mostWithout_129 : decode cX8_mostWithout 129 = .ok (.aload_n 0, 1) := by decide +kernel
theorem dX8_mostWithout_130 : decode cX8_mostWithout 130 = .ok (.invokevirtual 122, 3) := by decide +kernel
theorem dX8_mostWithout_133 : decode cX8_mostWithout 133 = .ok (.istore_n 3, 1) := by decide +kernel
theorem dX8_mostWithout_134 : decode cX8_mostWithout 134 = .ok (.aload_n 0, 1) := by decide +kernel
theorem dX8_mostWithout_135 : decode cX8_mostWithout 135 = .ok (.getfield 22, 3) := by decide +kernel
theorem dX8_mostWithout_138 : decode cX8_mostWithout 138 = .ok (.iconst 0, 1) := by decide +kernel
theorem dX8_mostWithout_139 : decode cX8_mostWithout 139 = .ok (.aload_n 0, 1) := by decide +kernel
theorem dX8_mostWithout_140 : decode cX8_mostWithout 140 = .ok (.getfield 7, 3) := by decide +kernel
theorem dX8_mostWithout_143 : decode cX8_mostWithout 143 = .ok (.iconst 0, 1) := by decide +kernel
theorem dX8_mostWithout_144 : decode cX8_mostWithout 144 = .ok (.invokestatic 68, 3) := by decide +kernel
theorem dX8_mostWithout_147 : decode cX8_mostWithout 147 = .ok (.iload_n 3, 1) := by decide +kernel
theorem dX8_mostWithout_148 : decode cX8_mostWithout 148 = .ok (.ireturn, 1) := by decide +kernel
set_option maxRecDepth 20000 in
theorem ggX8_most_X8_mostWithout : GoodIn wsX8_most wsX8_mostWithout := goodIn_ca (goodIn_r _ [6, 7, 8, 9, 10, 5, 11, 12, 13, 14, 15, 16, 17, 18, 19, 20, 21, 22, 23, 24, 25, 26, 27, 28, 29, 30, 31, 32, 33, 34, 35, 36, 37, 38, 39, 40, 41, 42, 43, 44, 45, 46, 47, 48, 49, 50, 51, 52, 53, 54, 55, 56, 57, 58, 59, 60, 61, 62, 63, 64, 65, 66, 67, 68, 69, 70, 71, 72, 73, 74, 75, 76, 77, 78, 79, 80, 81, 82, 83, 84, 85] (by decide +kernel) (by decide +kernel)) (goodIn_sub (fun _ h => List.mem_cons_of_mem _ (List.mem_append_right _ h)) (by decide +kernel))
set_option maxRecDepth 20000 in
theorem gX8_most_X8_mostWithout : GoodIn wsX8_most (wsV RX8 156 RX8 yX8_mostWithout wsX8_mostWithout) := goodIn_app (goodIn_of _ (by decide +kernel)) ggX8_most_X8_mostWithout
theorem dX8_most_0 : decode cX8_most 0 = .ok (.aload_n 0, 1) := by decide +kernel
theorem dX8_most_1 : decode cX8_most 1 = .ok (.iconst 0, 1) := by decide +kernel
theorem dX8_most_2 : decode cX8_most 2 = .ok (.putfield 46, 3) := by decide +kernel
theorem dX8_most_5 : decode cX8_most 5 = .ok (.aload_n 0, 1) := by decide +kernel
theorem dX8_most_6 : decode cX8_most 6 = .ok (.iconst (-1), 1) := by decide +kernel
theorem dX8_most_7 : decode cX8_most 7 = .ok (.iconst (-1), 1) := by decide +kernel
theorem dX8_most_8 : decode cX8_most 8 = .ok (.invokevirtual 156, 3) := by decide +kernel
theorem dX8_most_11 : decode cX8_most 11 = .ok (.ireturn, 1) := by decide +kernel
set_option maxRecDepth 20000 in
theorem ggX8_mostAgain_X8_mostWithout : GoodIn wsX8_mostAgain wsX8_mostWithout := goodIn_ca (goodIn_r _ [6, 7, 8, 9, 10, 5, 11, 12, 13, 14, 15, 16, 17, 18, 19, 20, 21, 22, 23, 24, 25, 26, 27, 28, 29, 30, 31, 32, 33, 34, 35, 36, 37, 38, 39, 40, 41, 42, 43, 44, 45, 46, 47, 48, 49, 50, 51, 52, 53, 54, 55, 56, 57, 58, 59, 60, 61, 62, 63, 64, 65, 66, 67, 68, 69, 70, 71, 72, 73, 74, 75, 76, 77, 78, 79, 80, 81, 82, 83, 84, 85] (by decide +kernel) (by decide +kernel)) (goodIn_sub (fun _ h => List.mem_cons_of_mem _ (List.mem_append_right _ h)) (by decide +kernel))
set_option maxRecDepth 20000 in
theorem gX8_mostAgain_X8_mostWithout : GoodIn wsX8_mostAgain (wsV RX8 156 RX8 yX8_mostWithout wsX8_mostWithout) := goodIn_app (goodIn_of _ (by decide +kernel)) ggX8_mostAgain_X8_mostWithout
theorem dX8_mostAgain_0 : decode cX8_mostAgain 0 = .ok (.aload_n 0, 1) := by decide +kernel
theorem dX8_mostAgain_1 : decode cX8_mostAgain 1 = .ok (.iconst 0, 1) := by decide +kernel
theorem dX8_mostAgain_2 : decode cX8_mostAgain 2 = .ok (.putfield 46, 3) := by decide +kernel
theorem dX8_mostAgain_5 : decode cX8_mostAgain 5 = .ok (.aload_n 0, 1) := by decide +kernel
theorem dX8_mostAgain_6 : decode cX8_mostAgain 6 = .ok (.iconst (-1), 1) := by decide +kernel
theorem dX8_mostAgain_7 : decode cX8_mostAgain 7 = .ok (.iconst (-1), 1) := by decide +kernel
theorem dX8_mostAgain_8 : decode cX8_mostAgain 8 = .ok (.invokevirtual 156, 3) := by decide +kernel
theorem dX8_mostAgain_11 : decode cX8_mostAgain 11 = .ok (.ireturn, 1) := by decide +kernel
set_option maxRecDepth 20000 in
theorem ggX8_cover_X8_copies : GoodIn wsX8_cover wsX8_copies := goodIn_ca (goodIn_r _ [8] (by decide +kernel) (by decide +kernel)) (goodIn_sub (fun _ h => List.mem_cons_of_mem _ (List.mem_append_right _ h)) (by decide +kernel))
set_option maxRecDepth 20000 in
theorem gX8_cover_X8_copies : GoodIn wsX8_cover (va_wsS RX8 68 yX8_copies wsX8_copies) := goodIn_app (goodIn_of _ (by decide +kernel)) ggX8_cover_X8_copies
set_option maxRecDepth 20000 in
theorem ggX8_cover_X8_comesToEnd : GoodIn wsX8_cover wsX8_comesToEnd := goodIn_ca (goodIn_r _ [12, 13, 14, 15, 7, 16, 17, 2, 4, 18, 19, 20, 21, 22, 23, 24, 25, 26, 27, 28, 29, 30, 31, 32, 33, 34, 35, 36, 37, 38, 39, 40, 41, 42, 43, 44, 45, 46, 47, 48, 49, 50, 51, 52, 53, 54, 55, 56, 57, 58, 59, 60, 61, 62, 63, 64, 65, 66, 67, 68, 69, 70, 71, 72, 73] (by decide +kernel) (by decide +kernel)) (goodIn_sub (fun _ h => List.mem_cons_of_mem _ (List.mem_append_right _ h)) (by decide +kernel))
set_option maxRecDepth 20000 in
theorem gX8_cover_X8_comesToEnd : GoodIn wsX8_cover (wsV RX8 153 RX8 yX8_comesToEnd wsX8_comesToEnd) := goodIn_app (goodIn_of _ (by decide +kernel)) ggX8_cover_X8_comesToEnd
set_option maxRecDepth 20000 in
theorem ggX8_cover_X8_levels : GoodIn wsX8_cover wsX8_levels := goodIn_ca (goodIn_r _ [21, 4, 2, 22, 23, 24, 25, 7, 26, 27, 28, 29, 30, 31, 32, 33, 34, 35, 36, 37, 38, 39, 40, 41, 50, 51, 52, 53, 54, 55, 56, 57, 58, 59, 60, 61, 62, 63, 64, 65, 66, 67, 68, 69, 70, 71, 72, 73] (by decide +kernel) (by decide +kernel)) (goodIn_sub (fun _ h => List.mem_cons_of_mem _ (List.mem_append_right _ h)) (by decide +kernel))
set_option maxRecDepth 20000 in
theorem gX8_cover_X8_levels : GoodIn wsX8_cover (wsV RX8 131 RX8 yX8_levels wsX8_levels) := goodIn_app (goodIn_of _ (by decide +kernel)) ggX8_cover_X8_levels
set_option maxRecDepth 20000 in
theorem ggX8_cover_X8_isFit : GoodIn wsX8_cover wsX8_isFit := goodIn_ca (goodIn_r _ [30, 2, 31, 32, 33, 7, 34, 35, 36, 37, 38, 23, 24, 25, 26, 39, 40, 41, 50, 51, 52, 53, 54, 55, 56, 57, 58, 59, 60, 61, 62, 63, 64, 65, 66, 67, 68, 69, 70, 71, 72, 73] (by decide +kernel) (by decide +kernel)) (goodIn_sub (fun _ h => List.mem_cons_of_mem _ (List.mem_append_right _ h)) (by decide +kernel))
set_option maxRecDepth 20000 in
theorem gX8_cover_X8_isFit : GoodIn wsX8_cover (wsV RX8 90 RX8 yX8_isFit wsX8_isFit) := goodIn_app (goodIn_of _ (by decide +kernel)) ggX8_cover_X8_isFit
set_option maxRecDepth 20000 in
theorem ggX8_cover_X8_ofKey : GoodIn wsX8_cover wsX8_ofKey := goodIn_ca (goodIn_r _ [26, 2, 50, 51, 52, 53, 54, 55, 56, 57, 58, 59, 60, 61, 62, 63, 64, 65, 66, 67, 68, 69, 70, 71, 72, 73] (by decide +kernel) (by decide +kernel)) (goodIn_sub (fun _ h => List.mem_cons_of_mem _ (List.mem_append_right _ h)) (by decide +kernel))
set_option maxRecDepth 20000 in
theorem gX8_cover_X8_ofKey : GoodIn wsX8_cover (wsV RX8 80 RX8 yX8_ofKey wsX8_ofKey) := goodIn_app (goodIn_of _ (by decide +kernel)) ggX8_cover_X8_ofKey
theorem dX8_cover_0 : decode cX8_cover 0 = .ok (.aload_n 0, 1) := by decide +kernel
theorem dX8_cover_1 : decode cX8_cover 1 = .ok (.iconst 0, 1) := by decide +kernel
theorem dX8_cover_2 : decode cX8_cover 2 = .ok (.putfield 46, 3) := by decide +kernel
theorem dX8_cover_5 : decode cX8_cover 5 = .ok (.aload_n 0, 1) := by decide +kernel
theorem dX8_cover_6 : decode cX8_cover 6 = .ok (.getfield 7, 3) := by decide +kernel
theorem dX8_cover_9 : decode cX8_cover 9 = .ok (.iconst 0, 1) := by decide +kernel
theorem dX8_cover_10 : decode cX8_cover 10 = .ok (.aload_n 0, 1) := by decide +kernel
theorem dX8_cover_11 : decode cX8_cover 11 = .ok (.getfield 22, 3) := by decide +kernel
theorem dX8_cover_14 : decode cX8_cover 14 = .ok (.iconst 0, 1) := by decide +kernel
theorem dX8_cover_15 : decode cX8_cover 15 = .ok (.invokestatic 68, 3) := by decide +kernel
theorem dX8_cover_18 : decode cX8_cover 18 = .ok (.aload_n 0, 1) := by decide +kernel
theorem dX8_cover_19 : decode cX8_cover 19 = .ok (.invokevirtual 153, 3) := by decide +kernel
theorem dX8_cover_22 : decode cX8_cover 22 = .ok (.istore_n 2, 1) := by decide +kernel
theorem dX8_cover_23 : decode cX8_cover 23 = .ok (.iconst 0, 1) := by decide +kernel
theorem dX8_cover_24 : decode cX8_cover 24 = .ok (.istore_n 3, 1) := by decide +kernel
theorem dX8_cover_25 : decode cX8_cover 25 = .ok (.aload_n 0, 1) := by decide +kernel
theorem dX8_cover_26 : decode cX8_cover 26 = .ok (.invokevirtual 131, 3) := by decide +kernel
theorem dX8_cover_29 : decode cX8_cover 29 = .ok (.ifCond .eq 11, 3) := by decide +kernel
theorem dX8_cover_32 : decode cX8_cover 32 = .ok (.iload_n 2, 1) := by decide +kernel
theorem dX8_cover_33 : decode cX8_cover 33 = .ok (.ifCond .ge 7, 3) := by decide +kernel
theorem dX8_cover_36 : decode cX8_cover 36 = .ok (.iconst 1, 1) := by decide +kernel
theorem dX8_cover_37 : decode cX8_cover 37 = .ok (.goto 4, 3) := by decide +kernel
theorem dX8_cover_40 : decode cX8_cover 40 = .ok (.iconst 0, 1) := by decide +kernel
theorem dX8_cover_41 : decode cX8_cover 41 = .ok (.istore 4, 2) := by decide +kernel
theorem dX8_cover_43 : decode cX8_cover 43 = .ok (.iconst 0, 1) := by decide +kernel
theorem dX8_cover_44 : decode cX8_cover 44 = .ok (.istore 5, 2) := by decide +kernel
theorem dX8_cover_46 : decode cX8_cover 46 = .ok (.iload_n 1, 1) := by decide +kernel
theorem dX8_cover_47 : decode cX8_cover 47 = .ok (.ifCond .eq 103, 3) := by decide +kernel
theorem dX8_cover_50 : decode cX8_cover 50 = .ok (.iload 5, 2) := by decide +kernel
theorem dX8_cover_52 : decode cX8_cover 52 = .ok (.aload_n 0, 1) := by decide +kernel
theorem dX8_cover_53 : decode cX8_cover 53 = .ok (.getfield 7, 3) := by decide +kernel
theorem dX8_cover_56 : decode cX8_cover 56 = .ok (.iconst 1, 1) := by decide +kernel
theorem dX8_cover_57 : decode cX8_cover 57 = .ok (.iaload, 1) := by decide +kernel
theorem dX8_cover_58 : decode cX8_cover 58 = .ok (.if_icmp .ge 92, 3) := by decide +kernel
theorem dX8_cover_61 : decode cX8_cover 61 = .ok (.iload 4, 2) := by decide +kernel
theorem dX8_cover_63 : decode cX8_cover 63 = .ok (.istore 6, 2) := by decide +kernel
theorem dX8_cover_65 : decode cX8_cover 65 = .ok (.iconst 0, 1) := by decide +kernel
theorem dX8_cover_66 : decode cX8_cover 66 = .ok (.istore 7, 2) := by decide +kernel
theorem dX8_cover_68 : decode cX8_cover 68 = .ok (.iload 7, 2) := by decide +kernel
theorem dX8_cover_70 : decode cX8_cover 70 = .ok (.aload_n 0, 1) := by decide +kernel
theorem dX8_cover_71 : decode cX8_cover 71 = .ok (.getfield 7, 3) := by decide +kernel
theorem dX8_cover_74 : decode cX8_cover 74 = .ok (.iconst 0, 1) := by decide +kernel
theorem dX8_cover_75 : decode cX8_cover 75 = .ok (.iaload, 1) := by decide +kernel
theorem dX8_cover_76 : decode cX8_cover 76 = .ok (.if_icmp .ge 52, 3) := by decide +kernel
theorem dX8_cover_79 : decode cX8_cover 79 = .ok (.iload 6, 2) := by decide +kernel
theorem dX8_cover_81 : decode cX8_cover 81 = .ok (.aload_n 0, 1) := by decide +kernel
theorem dX8_cover_82 : decode cX8_cover 82 = .ok (.getfield 36, 3) := by decide +kernel
theorem dX8_cover_85 : decode cX8_cover 85 = .ok (.iload 7, 2) := by decide +kernel
theorem dX8_cover_87 : decode cX8_cover 87 = .ok (.iaload, 1) := by decide +kernel
theorem dX8_cover_88 : decode cX8_cover 88 = .ok (.ifCond .lt 30, 3) := by decide +kernel
theorem dX8_cover_91 : decode cX8_cover 91 = .ok (.aload_n 0, 1) := by decide +kernel
theorem dX8_cover_92 : decode cX8_cover 92 = .ok (.iload 7, 2) := by decide +kernel
theorem dX8_cover_94 : decode cX8_cover 94 = .ok (.iload 5, 2) := by decide +kernel
theorem dX8_cover_96 : decode cX8_cover 96 = .ok (.invokevirtual 90, 3) := by decide +kernel
theorem dX8_cover_99 : decode cX8_cover 99 = .ok (.ifCond .eq 19, 3) := by decide +kernel
theorem dX8_cover_102 : decode cX8_cover 102 = .ok (.aload_n 0, 1) := by decide +kernel
theorem dX8_cover_103 : decode cX8_cover 103 = .ok (.iload 7, 2) := by decide +kernel
theorem dX8_cover_105 : decode cX8_cover 105 = .ok (.iconst 2, 1) := by decide +kernel
theorem dX8_cover_106 : decode cX8_cover 106 = .ok (.invokevirtual 80, 3) := by decide +kernel
theorem dX8_cover_109 : decode cX8_cover 109 = .ok (.iload 5, 2) := by decide +kernel
theorem dX8_cover_111 : decode cX8_cover 111 = .ok (.if_icmp .eq 7, 3) := by decide +kernel
theorem dX8_cover_114 : decode cX8_cover 114 = .ok (.iconst 1, 1) := by decide +kernel
theorem dX8_cover_115 : decode cX8_cover 115 = .ok (.goto 4, 3) := by decide +kernel
theorem dX8_cover_118 : decode cX8_cover 118 = .ok (.iconst 0, 1) := by decide +kernel
theorem dX8_cover_119 : decode cX8_cover 119 = .ok (.ior, 1) := by decide +kernel
theorem dX8_cover_120 : decode cX8_cover 120 = .ok (.istore 6, 2) := by decide +kernel
theorem dX8_cover_122 : decode cX8_cover 122 = .ok (.iinc 7 1, 3) := by decide +kernel
theorem dX8_cover_125 : decode cX8_cover 125 = .ok (.goto (-57), 3) := by decide +kernel
theorem dX8_cover_128 : decode cX8_cover 128 = .ok (.iload_n 3, 1) := by decide +kernel
theorem dX8_cover_129 : decode cX8_cover 129 = .ok (.iload 6, 2) := by decide +kernel
theorem dX8_cover_131 : decode cX8_cover 131 = .ok (.ifCond .eq 10, 3) := by decide +kernel
theorem dX8_cover_134 : decode cX8_cover 134 = .ok (.iconst 1, 1) := by decide +kernel
theorem dX8_cover_135 : decode cX8_cover 135 = .ok (.iload 5, 2) := by decide +kernel
theorem dX8_cover_137 : decode cX8_cover 137 = .ok (.ishl, 1) := by decide +kernel
theorem dX8_cover_138 : decode cX8_cover 138 = .ok (.goto 4, 3) := by decide +kernel
theorem dX8_cover_141 : decode cX8_cover 141 = .ok (.iconst 0, 1) := by decide +kernel
theorem dX8_cover_142 : decode cX8_cover 142 = .ok (.ior, 1) := by decide +kernel
theorem dX8_cover_143 : decode cX8_cover 143 = .ok (.istore_n 3, 1) := by decide +kernel
theorem dX8_cover_144 : decode cX8_cover 144 = .ok (.iinc 5 1, 3) := by decide +kernel
theorem dX8_cover_147 : decode cX8_cover 147 = .ok (.goto (-101), 3) := by decide +kernel
theorem dX8_cover_150 : decode cX8_cover 150 = .ok (.iconst 0, 1) := by decide +kernel
theorem dX8_cover_151 : decode cX8_cover 151 = .ok (.istore 5, 2) := by decide +kernel
theorem dX8_cover_153 : decode cX8_cover 153 = .ok (.iload_n 1, 1) := by decide +kernel
theorem dX8_cover_154 : decode cX8_cover 154 = .ok (.ifCond .ne 51, 3) := by decide +kernel
theorem dX8_cover_157 : decode cX8_cover 157 = .ok (.iload 5, 2) := by decide +kernel
theorem dX8_cover_159 : decode cX8_cover 159 = .ok (.aload_n 0, 1) := by decide +kernel
theorem dX8_cover_160 : decode cX8_cover 160 = .ok (.getfield 7, 3) := by decide +kernel
theorem dX8_cover_163 : decode cX8_cover 163 = .ok (.iconst 0, 1) := by decide +kernel
theorem dX8_cover_164 : decode cX8_cover 164 = .ok (.iaload, 1) := by decide +kernel
theorem dX8_cover_165 : decode cX8_cover 165 = .ok (.if_icmp .ge 40, 3) := by decide +kernel
theorem dX8_cover_168 : decode cX8_cover 168 = .ok (.iload_n 3, 1) := by decide +kernel
theorem dX8_cover_169 : decode cX8_cover 169 = .ok (.aload_n 0, 1) := by decide +kernel
theorem dX8_cover_170 : decode cX8_cover 170 = .ok (.iload 5, 2) := by decide +kernel
theorem dX8_cover_172 : decode cX8_cover 172 = .ok (.iconst 2, 1) := by decide +kernel
theorem dX8_cover_173 : decode cX8_cover 173 = .ok (.invokevirtual 80, 3) := by decide +kernel
theorem dX8_cover_176 : decode cX8_cover 176 = .ok (.ifCond .lt 20, 3) := by decide +kernel
theorem dX8_cover_179 : decode cX8_cover 179 = .ok (.aload_n 0, 1) := by decide +kernel
theorem dX8_cover_180 : decode cX8_cover 180 = .ok (.getfield 36, 3) := by decide +kernel
theorem dX8_cover_183 : decode cX8_cover 183 = .ok (.iload 5, 2) := by decide +kernel
theorem dX8_cover_185 : decode cX8_cover 185 = .ok (.iaload, 1) := by decide +kernel
theorem dX8_cover_186 : decode cX8_cover 186 = .ok (.ifCond .ge 10, 3) := by decide +kernel
theorem dX8_cover_189 : decode cX8_cover 189 = .ok (.iconst 1, 1) := by decide +kernel
theorem dX8_cover_190 : decode cX8_cover 190 = .ok (.iload 5, 2) := by decide +kernel
theorem dX8_cover_192 : decode cX8_cover 192 = .ok (.ishl, 1) := by decide +kernel
theorem dX8_cover_193 : decode cX8_cover 193 = .ok (.goto 4, 3) := by decide +kernel
theorem dX8_cover_196 : decode cX8_cover 196 = .ok (.iconst 0, 1) := by decide +kernel
theorem dX8_cover_197 : decode cX8_cover 197 = .ok (.ior, 1) := by decide +kernel
theorem dX8_cover_198 : decode cX8_cover 198 = .ok (.istore_n 3, 1) := by decide +kernel
theorem dX8_cover_199 : decode cX8_cover 199 = .ok (.iinc 5 1, 3) := by decide +kernel
theorem dX8_cover_202 : decode cX8_cover 202 = .ok (.goto (-49), 3) := by decide +kernel
theorem dX8_cover_205 : decode cX8_cover 205 = .ok (.aload_n 0, 1) := by decide +kernel
theorem dX8_cover_206 : decode cX8_cover 206 = .ok (.getfield 22, 3) := by decide +kernel
theorem dX8_cover_209 : decode cX8_cover 209 = .ok (.iconst 0, 1) := by decide +kernel
theorem dX8_cover_210 : decode cX8_cover 210 = .ok (.aload_n 0, 1) := by decide +kernel
theorem dX8_cover_211 : decode cX8_cover 211 = .ok (.getfield 7, 3) := by decide +kernel
theorem dX8_cover_214 : decode cX8_cover 214 = .ok (.iconst 0, 1) := by decide +kernel
theorem dX8_cover_215 : decode cX8_cover 215 = .ok (.invokestatic 68, 3) := by decide +kernel
theorem dX8_cover_218 : decode cX8_cover 218 = .ok (.iload_n 3, 1) := by decide +kernel
theorem dX8_cover_219 : decode cX8_cover 219 = .ok (.ireturn, 1) := by decide +kernel
set_option maxRecDepth 20000 in
theorem ggX8_canBeOpen_X8_isLock : GoodIn wsX8_canBeOpen wsX8_isLock := goodIn_ca (goodIn_r _ [6, 1, 7, 8, 5, 9, 73, 74, 75, 76, 77, 78, 79, 80, 81, 82, 83, 84, 85, 86, 87, 88, 89, 90, 91, 92, 93, 94, 95, 96] (by decide +kernel) (by decide +kernel)) (goodIn_sub (fun _ h => List.mem_cons_of_mem _ (List.mem_append_right _ h)) (by decide +kernel))
set_option maxRecDepth 20000 in
theorem gX8_canBeOpen_X8_isLock : GoodIn wsX8_canBeOpen (wsV RX8 113 RX8 yX8_isLock wsX8_isLock) := goodIn_app (goodIn_of _ (by decide +kernel)) ggX8_canBeOpen_X8_isLock
set_option maxRecDepth 20000 in
theorem ggX8_canBeOpen_X8_fails : GoodIn wsX8_canBeOpen wsX8_fails := goodIn_r _ [13, 14, 73, 74, 75, 76, 77, 78, 79, 80, 81, 82, 83, 84, 85, 86, 87, 88, 89, 90, 91, 92, 93, 94, 95, 96] (by decide +kernel) (by decide +kernel)
set_option maxRecDepth 20000 in
theorem gX8_canBeOpen_X8_fails : GoodIn wsX8_canBeOpen (wsV RX8 138 RX8 yX8_fails wsX8_fails) := goodIn_app (goodIn_of _ (by decide +kernel)) ggX8_canBeOpen_X8_fails
set_option maxRecDepth 20000 in
theorem ggX8_canBeOpen_X8_mostWithout : GoodIn wsX8_canBeOpen wsX8_mostWithout := goodIn_ca (goodIn_r _ [18, 1, 19, 20, 21, 5, 22, 23, 24, 25, 26, 27, 28, 29, 30, 31, 32, 33, 34, 35, 36, 37, 38, 39, 40, 41, 42, 43, 44, 45, 46, 47, 48, 49, 50, 51, 52, 53, 54, 55, 56, 57, 58, 59, 60, 61, 62, 63, 64, 65, 66, 67, 68, 69, 70, 71, 72, 73, 74, 75, 76, 77, 78, 79, 80, 81, 82, 83, 84, 85, 86, 87, 88, 89, 90, 91, 92, 93, 94, 95, 96] (by decide +kernel) (by decide +kernel)) (goodIn_sub (fun _ h => List.mem_cons_of_mem _ (List.mem_append_right _ h)) (by decide +kernel))
set_option maxRecDepth 20000 in
theorem gX8_canBeOpen_X8_mostWithout : GoodIn wsX8_canBeOpen (wsV RX8 156 RX8 yX8_mostWithout wsX8_mostWithout) := goodIn_app (goodIn_of _ (by decide +kernel)) ggX8_canBeOpen_X8_mostWithout
set_option maxRecDepth 20000 in
theorem ggX8_canBeOpen_X8_isFit : GoodIn wsX8_canBeOpen wsX8_isFit := goodIn_ca (goodIn_r _ [49, 1, 50, 51, 52, 5, 53, 54, 55, 56, 57, 23, 24, 25, 26, 58, 59, 60, 73, 74, 75, 76, 77, 78, 79, 80, 81, 82, 83, 84, 85, 86, 87, 88, 89, 90, 91, 92, 93, 94, 95, 96] (by decide +kernel) (by decide +kernel)) (goodIn_sub (fun _ h => List.mem_cons_of_mem _ (List.mem_append_right _ h)) (by decide +kernel))
set_option maxRecDepth 20000 in
theorem gX8_canBeOpen_X8_isFit : GoodIn wsX8_canBeOpen (wsV RX8 90 RX8 yX8_isFit wsX8_isFit) := goodIn_app (goodIn_of _ (by decide +kernel)) ggX8_canBeOpen_X8_isFit
theorem dX8_canBeOpen_0 : decode cX8_canBeOpen 0 = .ok (.aload_n 0, 1) := by decide +kernel
theorem dX8_canBeOpen_1 : decode cX8_canBeOpen 1 = .ok (.aload_n 0, 1) := by decide +kernel
theorem dX8_canBeOpen_2 : decode cX8_canBeOpen 2 = .ok (.iload_n 1, 1) := by decide +kernel
theorem dX8_canBeOpen_3 : decode cX8_canBeOpen 3 = .ok (.invokevirtual 113, 3) := by decide +kernel
theorem dX8_canBeOpen_6 : decode cX8_canBeOpen 6 = .ok (.ifCond .eq 7, 3) := by decide +kernel
theorem dX8_canBeOpen_9 : decode cX8_canBeOpen 9 = .ok (.iconst 0, 1) := by decide +kernel
theorem dX8_canBeOpen_10 : decode cX8_canBeOpen 10 = .ok (.goto 4, 3) := by decide +kernel
theorem dX8_canBeOpen_13 : decode cX8_canBeOpen 13 = .ok (.iconst 1, 1) := by decide +kernel
theorem dX8_canBeOpen_14 : decode cX8_canBeOpen 14 = .ok (.invokevirtual 138, 3) := by decide +kernel
theorem dX8_canBeOpen_17 : decode cX8_canBeOpen 17 = .ok (.ifCond .eq 5, 3) := by decide +kernel
theorem dX8_canBeOpen_20 : decode cX8_canBeOpen 20 = .ok (.iconst 0, 1) := by decide +kernel
theorem dX8_canBeOpen_21 : decode cX8_canBeOpen 21 = .ok (.ireturn, 1) := by decide +kernel
theorem dX8_canBeOpen_22 : decode cX8_canBeOpen 22 = .ok (.aload_n 0, 1) := by decide +kernel
theorem dX8_canBeOpen_23 : decode cX8_canBeOpen 23 = .ok (.iconst (-1), 1) := by decide +kernel
theorem dX8_canBeOpen_24 : decode cX8_canBeOpen 24 = .ok (.iconst (-1), 1) := by decide +kernel
theorem dX8_canBeOpen_25 : decode cX8_canBeOpen 25 = .ok (.invokevirtual 156, 3) := by decide +kernel
theorem dX8_canBeOpen_28 : decode cX8_canBeOpen 28 = .ok (.istore_n 2, 1) := by decide +kernel
theorem dX8_canBeOpen_29 : decode cX8_canBeOpen 29 = .ok (.iconst 0, 1) := by decide +kernel
theorem dX8_canBeOpen_30 : decode cX8_canBeOpen 30 = .ok (.istore_n 3, 1) := by decide +kernel
theorem dX8_canBeOpen_31 : decode cX8_canBeOpen 31 = .ok (.iload_n 3, 1) := by decide +kernel
theorem dX8_canBeOpen_32 : decode cX8_canBeOpen 32 = .ok (.aload_n 0, 1) := by decide +kernel
theorem dX8_canBeOpen_33 : decode cX8_canBeOpen 33 = .ok (.getfield 7, 3) := by decide +kernel
theorem dX8_canBeOpen_36 : decode cX8_canBeOpen 36 = .ok (.iconst 0, 1) := by decide +kernel
theorem dX8_canBeOpen_37 : decode cX8_canBeOpen 37 = .ok (.iaload, 1) := by decide +kernel
theorem dX8_canBeOpen_38 : decode cX8_canBeOpen 38 = .ok (.if_icmp .ge 32, 3) := by decide +kernel
theorem dX8_canBeOpen_41 : decode cX8_canBeOpen 41 = .ok (.aload_n 0, 1) := by decide +kernel
theorem dX8_canBeOpen_42 : decode cX8_canBeOpen 42 = .ok (.iload_n 3, 1) := by decide +kernel
theorem dX8_canBeOpen_43 : decode cX8_canBeOpen 43 = .ok (.iload_n 1, 1) := by decide +kernel
theorem dX8_canBeOpen_44 : decode cX8_canBeOpen 44 = .ok (.invokevirtual 90, 3) := by decide +kernel
theorem dX8_canBeOpen_47 : decode cX8_canBeOpen 47 = .ok (.ifCond .eq 17, 3) := by decide +kernel
theorem dX8_canBeOpen_50 : decode cX8_canBeOpen 50 = .ok (.aload_n 0, 1) := by decide +kernel
theorem dX8_canBeOpen_51 : decode cX8_canBeOpen 51 = .ok (.iload_n 3, 1) := by decide +kernel
theorem dX8_canBeOpen_52 : decode cX8_canBeOpen 52 = .ok (.iload_n 1, 1) := by decide +kernel
theorem dX8_canBeOpen_53 : decode cX8_canBeOpen 53 = .ok (.invokevirtual 156, 3) := by decide +kernel
theorem dX8_canBeOpen_56 : decode cX8_canBeOpen 56 = .ok (.iconst 1, 1) := by decide +kernel
theorem dX8_canBeOpen_57 : decode cX8_canBeOpen 57 = .ok (.iadd, 1) := by decide +kernel
theorem dX8_canBeOpen_58 : decode cX8_canBeOpen 58 = .ok (.iload_n 2, 1) := by decide +kernel
theorem dX8_canBeOpen_59 : decode cX8_canBeOpen 59 = .ok (.if_icmp .ne 5, 3) := by decide +kernel
theorem dX8_canBeOpen_62 : decode cX8_canBeOpen 62 = .ok (.iconst 1, 1) := by decide +kernel
theorem dX8_canBeOpen_63 : decode cX8_canBeOpen 63 = .ok (.ireturn, 1) := by decide +kernel
theorem dX8_canBeOpen_64 : decode cX8_canBeOpen 64 = .ok (.iinc 3 1, 3) := by decide +kernel
theorem dX8_canBeOpen_67 : decode cX8_canBeOpen 67 = .ok (.goto (-36), 3) := by decide +kernel
theorem dX8_canBeOpen_70 : decode cX8_canBeOpen 70 = .ok (.iconst 0, 1) := by decide +kernel
theorem dX8_canBeOpen_71 : decode cX8_canBeOpen 71 = .ok (.ireturn, 1) := by decide +kernel
set_option maxRecDepth 20000 in
theorem ggX8_isNeeded_X8_isKey : GoodIn wsX8_isNeeded wsX8_isKey := goodIn_ca (goodIn_r _ [5, 6, 7, 8, 4, 9, 73, 74, 75, 76, 77, 78, 79, 80, 81, 82, 83, 84, 85, 86, 87, 88, 89, 90, 91, 92, 93, 94, 95, 96] (by decide +kernel) (by decide +kernel)) (goodIn_sub (fun _ h => List.mem_cons_of_mem _ (List.mem_append_right _ h)) (by decide +kernel))
set_option maxRecDepth 20000 in
theorem gX8_isNeeded_X8_isKey : GoodIn wsX8_isNeeded (wsV RX8 105 RX8 yX8_isKey wsX8_isKey) := goodIn_app (goodIn_of _ (by decide +kernel)) ggX8_isNeeded_X8_isKey
set_option maxRecDepth 20000 in
theorem ggX8_isNeeded_X8_fails : GoodIn wsX8_isNeeded wsX8_fails := goodIn_r _ [13, 14, 73, 74, 75, 76, 77, 78, 79, 80, 81, 82, 83, 84, 85, 86, 87, 88, 89, 90, 91, 92, 93, 94, 95, 96] (by decide +kernel) (by decide +kernel)
set_option maxRecDepth 20000 in
theorem gX8_isNeeded_X8_fails : GoodIn wsX8_isNeeded (wsV RX8 138 RX8 yX8_fails wsX8_fails) := goodIn_app (goodIn_of _ (by decide +kernel)) ggX8_isNeeded_X8_fails
set_option maxRecDepth 20000 in
theorem ggX8_isNeeded_X8_mostWithout : GoodIn wsX8_isNeeded wsX8_mostWithout := goodIn_ca (goodIn_r _ [18, 6, 19, 20, 21, 4, 22, 23, 24, 25, 26, 27, 28, 29, 30, 31, 32, 33, 34, 35, 36, 37, 38, 39, 40, 41, 42, 43, 44, 45, 46, 47, 48, 49, 50, 51, 52, 53, 54, 55, 56, 57, 58, 59, 60, 61, 62, 63, 64, 65, 66, 67, 68, 69, 70, 71, 72, 73, 74, 75, 76, 77, 78, 79, 80, 81, 82, 83, 84, 85, 86, 87, 88, 89, 90, 91, 92, 93, 94, 95, 96] (by decide +kernel) (by decide +kernel)) (goodIn_sub (fun _ h => List.mem_cons_of_mem _ (List.mem_append_right _ h)) (by decide +kernel))
set_option maxRecDepth 20000 in
theorem gX8_isNeeded_X8_mostWithout : GoodIn wsX8_isNeeded (wsV RX8 156 RX8 yX8_mostWithout wsX8_mostWithout) := goodIn_app (goodIn_of _ (by decide +kernel)) ggX8_isNeeded_X8_mostWithout
theorem dX8_isNeeded_0 : decode cX8_isNeeded 0 = .ok (.aload_n 0, 1) := by decide +kernel
theorem dX8_isNeeded_1 : decode cX8_isNeeded 1 = .ok (.aload_n 0, 1) := by decide +kernel
theorem dX8_isNeeded_2 : decode cX8_isNeeded 2 = .ok (.iload_n 1, 1) := by decide +kernel
theorem dX8_isNeeded_3 : decode cX8_isNeeded 3 = .ok (.invokevirtual 105, 3) := by decide +kernel
theorem dX8_isNeeded_6 : decode cX8_isNeeded 6 = .ok (.ifCond .eq 7, 3) := by decide +kernel
theorem dX8_isNeeded_9 : decode cX8_isNeeded 9 = .ok (.iconst 0, 1) := by decide +kernel
theorem dX8_isNeeded_10 : decode cX8_isNeeded 10 = .ok (.goto 4, 3) := by decide +kernel
theorem dX8_isNeeded_13 : decode cX8_isNeeded 13 = .ok (.iconst 1, 1) := by decide +kernel
theorem dX8_isNeeded_14 : decode cX8_isNeeded 14 = .ok (.invokevirtual 138, 3) := by decide +kernel
theorem dX8_isNeeded_17 : decode cX8_isNeeded 17 = .ok (.ifCond .ne 22, 3) := by decide +kernel
theorem dX8_isNeeded_20 : decode cX8_isNeeded 20 = .ok (.aload_n 0, 1) := by decide +kernel
theorem dX8_isNeeded_21 : decode cX8_isNeeded 21 = .ok (.iload_n 1, 1) := by decide +kernel
theorem dX8_isNeeded_22 : decode cX8_isNeeded 22 = .ok (.iconst (-1), 1) := by decide +kernel
theorem dX8_isNeeded_23 : decode cX8_isNeeded 23 = .ok (.invokevirtual 156, 3) := by decide +kernel
theorem dX8_isNeeded_26 : decode cX8_isNeeded 26 = .ok (.aload_n 0, 1) := by decide +kernel
theorem dX8_isNeeded_27 : decode cX8_isNeeded 27 = .ok (.iconst (-1), 1) := by decide +kernel
theorem dX8_isNeeded_28 : decode cX8_isNeeded 28 = .ok (.iconst (-1), 1) := by decide +kernel
theorem dX8_isNeeded_29 : decode cX8_isNeeded 29 = .ok (.invokevirtual 156, 3) := by decide +kernel
theorem dX8_isNeeded_32 : decode cX8_isNeeded 32 = .ok (.if_icmp .ge 7, 3) := by decide +kernel
theorem dX8_isNeeded_35 : decode cX8_isNeeded 35 = .ok (.iconst 1, 1) := by decide +kernel
theorem dX8_isNeeded_36 : decode cX8_isNeeded 36 = .ok (.goto 4, 3) := by decide +kernel
theorem dX8_isNeeded_39 : decode cX8_isNeeded 39 = .ok (.iconst 0, 1) := by decide +kernel
theorem dX8_isNeeded_40 : decode cX8_isNeeded 40 = .ok (.ireturn, 1) := by decide +kernel
set_option maxRecDepth 20000 in
theorem ggX8_porterOf_X8_in : GoodIn wsX8_porterOf wsX8_in := goodIn_r _ [5] (by decide +kernel) (by decide +kernel)
set_option maxRecDepth 20000 in
theorem gX8_porterOf_X8_in : GoodIn wsX8_porterOf (va_wsS RX8 72 yX8_in wsX8_in) := goodIn_app (goodIn_of _ (by decide +kernel)) ggX8_porterOf_X8_in
set_option maxRecDepth 20000 in
theorem ggX8_porterOf_X8_fails : GoodIn wsX8_porterOf wsX8_fails := goodIn_r _ [9, 10, 15, 16, 17, 18, 19, 20, 21, 22, 23, 24, 25, 26, 27, 28, 29, 30, 31, 32, 33, 34, 35, 36, 37, 38] (by decide +kernel) (by decide +kernel)
set_option maxRecDepth 20000 in
theorem gX8_porterOf_X8_fails : GoodIn wsX8_porterOf (wsV RX8 138 RX8 yX8_fails wsX8_fails) := goodIn_app (goodIn_of _ (by decide +kernel)) ggX8_porterOf_X8_fails
set_option maxRecDepth 20000 in
theorem ggX8_porterOf_X8_ofKey : GoodIn wsX8_porterOf wsX8_ofKey := goodIn_ca (goodIn_r _ [14, 1, 15, 16, 17, 18, 19, 20, 21, 22, 23, 24, 25, 26, 27, 28, 29, 30, 31, 32, 33, 34, 35, 36, 37, 38] (by decide +kernel) (by decide +kernel)) (goodIn_sub (fun _ h => List.mem_cons_of_mem _ (List.mem_append_right _ h)) (by decide +kernel))
set_option maxRecDepth 20000 in
theorem gX8_porterOf_X8_ofKey : GoodIn wsX8_porterOf (wsV RX8 80 RX8 yX8_ofKey wsX8_ofKey) := goodIn_app (goodIn_of _ (by decide +kernel)) ggX8_porterOf_X8_ofKey
theorem dX8_porterOf_0 : decode cX8_porterOf 0 = .ok (.aload_n 0, 1) := by decide +kernel
theorem dX8_porterOf_1 : decode cX8_porterOf 1 = .ok (.iload_n 1, 1) := by decide +kernel
theorem dX8_porterOf_2 : decode cX8_porterOf 2 = .ok (.iconst 0, 1) := by decide +kernel
theorem dX8_porterOf_3 : decode cX8_porterOf 3 = .ok (.iconst 3, 1) := by decide +kernel
theorem dX8_porterOf_4 : decode cX8_porterOf 4 = .ok (.invokestatic 72, 3) := by decide +kernel
theorem dX8_porterOf_7 : decode cX8_porterOf 7 = .ok (.ifCond .eq 16, 3) := by decide +kernel
theorem dX8_porterOf_10 : decode cX8_porterOf 10 = .ok (.iload_n 2, 1) := by decide +kernel
theorem dX8_porterOf_11 : decode cX8_porterOf 11 = .ok (.iconst 0, 1) := by decide +kernel
theorem dX8_porterOf_12 : decode cX8_porterOf 12 = .ok (.iconst 2, 1) := by decide +kernel
theorem dX8_porterOf_13 : decode cX8_porterOf 13 = .ok (.invokestatic 72, 3) := by decide +kernel
theorem dX8_porterOf_16 : decode cX8_porterOf 16 = .ok (.ifCond .eq 7, 3) := by decide +kernel
theorem dX8_porterOf_19 : decode cX8_porterOf 19 = .ok (.iconst 0, 1) := by decide +kernel
theorem dX8_porterOf_20 : decode cX8_porterOf 20 = .ok (.goto 4, 3) := by decide +kernel
theorem dX8_porterOf_23 : decode cX8_porterOf 23 = .ok (.iconst 1, 1) := by decide +kernel
theorem dX8_porterOf_24 : decode cX8_porterOf 24 = .ok (.invokevirtual 138, 3) := by decide +kernel
theorem dX8_porterOf_27 : decode cX8_porterOf 27 = .ok (.ifCond .eq 5, 3) := by decide +kernel
theorem dX8_porterOf_30 : decode cX8_porterOf 30 = .ok (.iconst 0, 1) := by decide +kernel
theorem dX8_porterOf_31 : decode cX8_porterOf 31 = .ok (.ireturn, 1) := by decide +kernel
theorem dX8_porterOf_32 : decode cX8_porterOf 32 = .ok (.iconst 0, 1) := by decide +kernel
theorem dX8_porterOf_33 : decode cX8_porterOf 33 = .ok (.istore_n 3, 1) := by decide +kernel
theorem dX8_porterOf_34 : decode cX8_porterOf 34 = .ok (.iconst 0, 1) := by decide +kernel
theorem dX8_porterOf_35 : decode cX8_porterOf 35 = .ok (.istore 4, 2) := by decide +kernel
theorem dX8_porterOf_37 : decode cX8_porterOf 37 = .ok (.iload 4, 2) := by decide +kernel
theorem dX8_porterOf_39 : decode cX8_porterOf 39 = .ok (.aload_n 0, 1) := by decide +kernel
theorem dX8_porterOf_40 : decode cX8_porterOf 40 = .ok (.getfield 7, 3) := by decide +kernel
theorem dX8_porterOf_43 : decode cX8_porterOf 43 = .ok (.iconst 0, 1) := by decide +kernel
theorem dX8_porterOf_44 : decode cX8_porterOf 44 = .ok (.iaload, 1) := by decide +kernel
theorem dX8_porterOf_45 : decode cX8_porterOf 45 = .ok (.if_icmp .ge 61, 3) := by decide +kernel
theorem dX8_porterOf_48 : decode cX8_porterOf 48 = .ok (.aload_n 0, 1) := by decide +kernel
theorem dX8_porterOf_49 : decode cX8_porterOf 49 = .ok (.iload 4, 2) := by decide +kernel
theorem dX8_porterOf_51 : decode cX8_porterOf 51 = .ok (.iconst 1, 1) := by decide +kernel
theorem dX8_porterOf_52 : decode cX8_porterOf 52 = .ok (.invokevirtual 80, 3) := by decide +kernel
theorem dX8_porterOf_55 : decode cX8_porterOf 55 = .ok (.iload_n 1, 1) := by decide +kernel
theorem dX8_porterOf_56 : decode cX8_porterOf 56 = .ok (.if_icmp .ne 44, 3) := by decide +kernel
theorem dX8_porterOf_59 : decode cX8_porterOf 59 = .ok (.iload_n 3, 1) := by decide +kernel
theorem dX8_porterOf_60 : decode cX8_porterOf 60 = .ok (.iload_n 2, 1) := by decide +kernel
theorem dX8_porterOf_61 : decode cX8_porterOf 61 = .ok (.ifCond .ne 7, 3) := by decide +kernel
theorem dX8_porterOf_64 : decode cX8_porterOf 64 = .ok (.iconst 1, 1) := by decide +kernel
theorem dX8_porterOf_65 : decode cX8_porterOf 65 = .ok (.goto 33, 3) := by decide +kernel
theorem dX8_porterOf_68 : decode cX8_porterOf 68 = .ok (.iload_n 2, 1) := by decide +kernel
theorem dX8_porterOf_69 : decode cX8_porterOf 69 = .ok (.iconst 2, 1) := by decide +kernel
theorem dX8_porterOf_70 : decode cX8_porterOf 70 = .ok (.if_icmp .ne 13, 3) := by decide +kernel
theorem dX8_porterOf_73 : decode cX8_porterOf 73 = .ok (.aload_n 0, 1) := by decide +kernel
theorem dX8_porterOf_74 : decode cX8_porterOf 74 = .ok (.iload 4, 2) := by decide +kernel
theorem dX8_porterOf_76 : decode cX8_porterOf 76 = .ok (.iconst 3, 1) := by decide +kernel
theorem dX8_porterOf_77 : decode cX8_porterOf 77 = .ok (.invokevirtual 80, 3) := by decide +kernel
theorem dX8_porterOf_80 : decode cX8_porterOf 80 = .ok (.goto 18, 3) := by decide +kernel
theorem dX8_porterOf_83 : decode cX8_porterOf 83 = .ok (.aload_n 0, 1) := by decide +kernel
