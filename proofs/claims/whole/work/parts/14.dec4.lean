theorem dX8_porterOf_84 : decode cX8_porterOf 84 = .ok (.iload 4, 2) := by decide +kernel
theorem dX8_porterOf_86 : decode cX8_porterOf 86 = .ok (.iconst 2, 1) := by decide +kernel
theorem dX8_porterOf_87 : decode cX8_porterOf 87 = .ok (.invokevirtual 80, 3) := by decide +kernel
theorem dX8_porterOf_90 : decode cX8_porterOf 90 = .ok (.ifCond .lt 7, 3) := by decide +kernel
theorem dX8_porterOf_93 : decode cX8_porterOf 93 = .ok (.iconst 1, 1) := by decide +kernel
theorem dX8_porterOf_94 : decode cX8_porterOf 94 = .ok (.goto 4, 3) := by decide +kernel
theorem dX8_porterOf_97 : decode cX8_porterOf 97 = .ok (.iconst 0, 1) := by decide +kernel
theorem dX8_porterOf_98 : decode cX8_porterOf 98 = .ok (.iadd, 1) := by decide +kernel
theorem dX8_porterOf_99 : decode cX8_porterOf 99 = .ok (.istore_n 3, 1) := by decide +kernel
theorem dX8_porterOf_100 : decode cX8_porterOf 100 = .ok (.iinc 4 1, 3) := by decide +kernel
theorem dX8_porterOf_103 : decode cX8_porterOf 103 = .ok (.goto (-66), 3) := by decide +kernel
theorem dX8_porterOf_106 : decode cX8_porterOf 106 = .ok (.iload_n 3, 1) := by decide +kernel
theorem dX8_porterOf_107 : decode cX8_porterOf 107 = .ok (.ireturn, 1) := by decide +kernel
set_option maxRecDepth 20000 in
theorem ggX8_isAhead_X8_fitsOf : GoodIn wsX8_isAhead wsX8_fitsOf := goodIn_ca (goodIn_r _ [5, 6, 7, 8, 9, 4, 10, 11, 12, 13, 14, 15, 16, 17, 18, 19, 20, 21, 22, 23, 24, 25, 26, 27, 28, 29, 30, 31, 32, 33, 34, 35, 36, 37, 38, 39, 40, 41, 42, 43, 44, 45, 46, 47, 48, 49] (by decide +kernel) (by decide +kernel)) (goodIn_sub (fun _ h => List.mem_cons_of_mem _ (List.mem_append_right _ h)) (by decide +kernel))
set_option maxRecDepth 20000 in
theorem gX8_isAhead_X8_fitsOf : GoodIn wsX8_isAhead (wsV RX8 144 RX8 yX8_fitsOf wsX8_fitsOf) := goodIn_app (goodIn_of _ (by decide +kernel)) ggX8_isAhead_X8_fitsOf
set_option maxRecDepth 20000 in
theorem ggX8_isAhead_X8_ofKey : GoodIn wsX8_isAhead wsX8_ofKey := goodIn_ca (goodIn_r _ [22, 6, 26, 27, 28, 29, 30, 31, 32, 33, 34, 35, 36, 37, 38, 39, 40, 41, 42, 43, 44, 45, 46, 47, 48, 49] (by decide +kernel) (by decide +kernel)) (goodIn_sub (fun _ h => List.mem_cons_of_mem _ (List.mem_append_right _ h)) (by decide +kernel))
set_option maxRecDepth 20000 in
theorem gX8_isAhead_X8_ofKey : GoodIn wsX8_isAhead (wsV RX8 80 RX8 yX8_ofKey wsX8_ofKey) := goodIn_app (goodIn_of _ (by decide +kernel)) ggX8_isAhead_X8_ofKey
set_option maxRecDepth 20000 in
theorem ggX8_isAhead_X8_many : GoodIn wsX8_isAhead wsX8_many := goodIn_r _ [25] (by decide +kernel) (by decide +kernel)
set_option maxRecDepth 20000 in
theorem gX8_isAhead_X8_many : GoodIn wsX8_isAhead (va_wsS RX8 83 yX8_many wsX8_many) := goodIn_app (goodIn_of _ (by decide +kernel)) ggX8_isAhead_X8_many
theorem dX8_isAhead_0 : decode cX8_isAhead 0 = .ok (.aload_n 0, 1) := by decide +kernel
theorem dX8_isAhead_1 : decode cX8_isAhead 1 = .ok (.iload_n 1, 1) := by decide +kernel
theorem dX8_isAhead_2 : decode cX8_isAhead 2 = .ok (.invokevirtual 144, 3) := by decide +kernel
theorem dX8_isAhead_5 : decode cX8_isAhead 5 = .ok (.aload_n 0, 1) := by decide +kernel
theorem dX8_isAhead_6 : decode cX8_isAhead 6 = .ok (.iload_n 2, 1) := by decide +kernel
theorem dX8_isAhead_7 : decode cX8_isAhead 7 = .ok (.invokevirtual 144, 3) := by decide +kernel
theorem dX8_isAhead_10 : decode cX8_isAhead 10 = .ok (.if_icmp .eq 22, 3) := by decide +kernel
theorem dX8_isAhead_13 : decode cX8_isAhead 13 = .ok (.aload_n 0, 1) := by decide +kernel
theorem dX8_isAhead_14 : decode cX8_isAhead 14 = .ok (.iload_n 1, 1) := by decide +kernel
theorem dX8_isAhead_15 : decode cX8_isAhead 15 = .ok (.invokevirtual 144, 3) := by decide +kernel
theorem dX8_isAhead_18 : decode cX8_isAhead 18 = .ok (.aload_n 0, 1) := by decide +kernel
theorem dX8_isAhead_19 : decode cX8_isAhead 19 = .ok (.iload_n 2, 1) := by decide +kernel
theorem dX8_isAhead_20 : decode cX8_isAhead 20 = .ok (.invokevirtual 144, 3) := by decide +kernel
theorem dX8_isAhead_23 : decode cX8_isAhead 23 = .ok (.if_icmp .ge 7, 3) := by decide +kernel
theorem dX8_isAhead_26 : decode cX8_isAhead 26 = .ok (.iconst 1, 1) := by decide +kernel
theorem dX8_isAhead_27 : decode cX8_isAhead 27 = .ok (.goto 4, 3) := by decide +kernel
theorem dX8_isAhead_30 : decode cX8_isAhead 30 = .ok (.iconst 0, 1) := by decide +kernel
theorem dX8_isAhead_31 : decode cX8_isAhead 31 = .ok (.ireturn, 1) := by decide +kernel
theorem dX8_isAhead_32 : decode cX8_isAhead 32 = .ok (.aload_n 0, 1) := by decide +kernel
theorem dX8_isAhead_33 : decode cX8_isAhead 33 = .ok (.iload_n 1, 1) := by decide +kernel
theorem dX8_isAhead_34 : decode cX8_isAhead 34 = .ok (.iconst 0, 1) := by decide +kernel
theorem dX8_isAhead_35 : decode cX8_isAhead 35 = .ok (.invokevirtual 80, 3) := by decide +kernel
theorem dX8_isAhead_38 : decode cX8_isAhead 38 = .ok (.invokestatic 83, 3) := by decide +kernel
theorem dX8_isAhead_41 : decode cX8_isAhead 41 = .ok (.aload_n 0, 1) := by decide +kernel
theorem dX8_isAhead_42 : decode cX8_isAhead 42 = .ok (.iload_n 2, 1) := by decide +kernel
theorem dX8_isAhead_43 : decode cX8_isAhead 43 = .ok (.iconst 0, 1) := by decide +kernel
theorem dX8_isAhead_44 : decode cX8_isAhead 44 = .ok (.invokevirtual 80, 3) := by decide +kernel
theorem dX8_isAhead_47 : decode cX8_isAhead 47 = .ok (.invokestatic 83, 3) := by decide +kernel
theorem dX8_isAhead_50 : decode cX8_isAhead 50 = .ok (.isub, 1) := by decide +kernel
theorem dX8_isAhead_51 : decode cX8_isAhead 51 = .ok (.istore_n 3, 1) := by decide +kernel
theorem dX8_isAhead_52 : decode cX8_isAhead 52 = .ok (.iload_n 3, 1) := by decide +kernel
theorem dX8_isAhead_53 : decode cX8_isAhead 53 = .ok (.ifCond .gt 12, 3) := by decide +kernel
theorem dX8_isAhead_56 : decode cX8_isAhead 56 = .ok (.iload_n 3, 1) := by decide +kernel
theorem dX8_isAhead_57 : decode cX8_isAhead 57 = .ok (.ifCond .ne 12, 3) := by decide +kernel
theorem dX8_isAhead_60 : decode cX8_isAhead 60 = .ok (.iload_n 1, 1) := by decide +kernel
theorem dX8_isAhead_61 : decode cX8_isAhead 61 = .ok (.iload_n 2, 1) := by decide +kernel
theorem dX8_isAhead_62 : decode cX8_isAhead 62 = .ok (.if_icmp .ge 7, 3) := by decide +kernel
theorem dX8_isAhead_65 : decode cX8_isAhead 65 = .ok (.iconst 1, 1) := by decide +kernel
theorem dX8_isAhead_66 : decode cX8_isAhead 66 = .ok (.goto 4, 3) := by decide +kernel
theorem dX8_isAhead_69 : decode cX8_isAhead 69 = .ok (.iconst 0, 1) := by decide +kernel
theorem dX8_isAhead_70 : decode cX8_isAhead 70 = .ok (.ireturn, 1) := by decide +kernel
set_option maxRecDepth 20000 in
theorem ggX8_ranked_X8_isAhead : GoodIn wsX8_ranked wsX8_isAhead := goodIn_ca (goodIn_r _ [7, 8, 9, 10, 6, 11, 1, 12, 13, 14, 15, 16, 17, 18, 19, 20, 21, 22, 23, 24, 25, 26, 27, 28, 29, 30, 31, 32, 33, 34, 35, 36, 37, 38, 39, 40, 41, 42, 43, 44, 45, 46, 47, 48, 49, 50, 51, 52, 53, 54] (by decide +kernel) (by decide +kernel)) (goodIn_sub (fun _ h => List.mem_cons_of_mem _ (List.mem_append_right _ h)) (by decide +kernel))
set_option maxRecDepth 20000 in
theorem gX8_ranked_X8_isAhead : GoodIn wsX8_ranked (wsV RX8 159 RX8 yX8_isAhead wsX8_isAhead) := goodIn_app (goodIn_of _ (by decide +kernel)) ggX8_ranked_X8_isAhead
theorem dX8_ranked_0 : decode cX8_ranked 0 = .ok (.iconst 0, 1) := by decide +kernel
theorem dX8_ranked_1 : decode cX8_ranked 1 = .ok (.istore_n 2, 1) := by decide +kernel
theorem dX8_ranked_2 : decode cX8_ranked 2 = .ok (.iload_n 2, 1) := by decide +kernel
theorem dX8_ranked_3 : decode cX8_ranked 3 = .ok (.aload_n 0, 1) := by decide +kernel
theorem dX8_ranked_4 : decode cX8_ranked 4 = .ok (.getfield 7, 3) := by decide +kernel
theorem dX8_ranked_7 : decode cX8_ranked 7 = .ok (.iconst 0, 1) := by decide +kernel
theorem dX8_ranked_8 : decode cX8_ranked 8 = .ok (.iaload, 1) := by decide +kernel
theorem dX8_ranked_9 : decode cX8_ranked 9 = .ok (.if_icmp .ge 64, 3) := by decide +kernel
theorem dX8_ranked_12 : decode cX8_ranked 12 = .ok (.iconst 0, 1) := by decide +kernel
theorem dX8_ranked_13 : decode cX8_ranked 13 = .ok (.istore_n 3, 1) := by decide +kernel
theorem dX8_ranked_14 : decode cX8_ranked 14 = .ok (.iconst 0, 1) := by decide +kernel
theorem dX8_ranked_15 : decode cX8_ranked 15 = .ok (.istore 4, 2) := by decide +kernel
theorem dX8_ranked_17 : decode cX8_ranked 17 = .ok (.iload 4, 2) := by decide +kernel
theorem dX8_ranked_19 : decode cX8_ranked 19 = .ok (.aload_n 0, 1) := by decide +kernel
theorem dX8_ranked_20 : decode cX8_ranked 20 = .ok (.getfield 7, 3) := by decide +kernel
theorem dX8_ranked_23 : decode cX8_ranked 23 = .ok (.iconst 0, 1) := by decide +kernel
theorem dX8_ranked_24 : decode cX8_ranked 24 = .ok (.iaload, 1) := by decide +kernel
theorem dX8_ranked_25 : decode cX8_ranked 25 = .ok (.if_icmp .ge 27, 3) := by decide +kernel
theorem dX8_ranked_28 : decode cX8_ranked 28 = .ok (.iload_n 3, 1) := by decide +kernel
theorem dX8_ranked_29 : decode cX8_ranked 29 = .ok (.aload_n 0, 1) := by decide +kernel
theorem dX8_ranked_30 : decode cX8_ranked 30 = .ok (.iload 4, 2) := by decide +kernel
theorem dX8_ranked_32 : decode cX8_ranked 32 = .ok (.iload_n 2, 1) := by decide +kernel
theorem dX8_ranked_33 : decode cX8_ranked 33 = .ok (.invokevirtual 159, 3) := by decide +kernel
theorem dX8_ranked_36 : decode cX8_ranked 36 = .ok (.ifCond .eq 7, 3) := by decide +kernel
theorem dX8_ranked_39 : decode cX8_ranked 39 = .ok (.iconst 1, 1) := by decide +kernel
theorem dX8_ranked_40 : decode cX8_ranked 40 = .ok (.goto 4, 3) := by decide +kernel
theorem dX8_ranked_43 : decode cX8_ranked 43 = .ok (.iconst 0, 1) := by decide +kernel
theorem dX8_ranked_44 : decode cX8_ranked 44 = .ok (.iadd, 1) := by decide +kernel
theorem dX8_ranked_45 : decode cX8_ranked 45 = .ok (.istore_n 3, 1) := by decide +kernel
theorem dX8_ranked_46 : decode cX8_ranked 46 = .ok (.iinc 4 1, 3) := by decide +kernel
theorem dX8_ranked_49 : decode cX8_ranked 49 = .ok (.goto (-32), 3) := by decide +kernel
theorem dX8_ranked_52 : decode cX8_ranked 52 = .ok (.iload_n 3, 1) := by decide +kernel
theorem dX8_ranked_53 : decode cX8_ranked 53 = .ok (.iload_n 1, 1) := by decide +kernel
theorem dX8_ranked_54 : decode cX8_ranked 54 = .ok (.if_icmp .eq 6, 3) := by decide +kernel
theorem dX8_ranked_57 : decode cX8_ranked 57 = .ok (.goto 10, 3) := by decide +kernel
theorem dX8_ranked_60 : decode cX8_ranked 60 = .ok (.aload_n 0, 1) := by decide +kernel
theorem dX8_ranked_61 : decode cX8_ranked 61 = .ok (.iconst 0, 1) := by decide +kernel
theorem dX8_ranked_62 : decode cX8_ranked 62 = .ok (.putfield 46, 3) := by decide +kernel
theorem dX8_ranked_65 : decode cX8_ranked 65 = .ok (.iload_n 2, 1) := by decide +kernel
theorem dX8_ranked_66 : decode cX8_ranked 66 = .ok (.ireturn, 1) := by decide +kernel
theorem dX8_ranked_67 : decode cX8_ranked 67 = .ok (.iinc 2 1, 3) := by decide +kernel
theorem dX8_ranked_70 : decode cX8_ranked 70 = .ok (.goto (-68), 3) := by decide +kernel
theorem dX8_ranked_73 : decode cX8_ranked 73 = .ok (.aload_n 0, 1) := by decide +kernel
theorem dX8_ranked_74 : decode cX8_ranked 74 = .ok (.iconst 1, 1) := by decide +kernel
theorem dX8_ranked_75 : decode cX8_ranked 75 = .ok (.putfield 46, 3) := by decide +kernel
theorem dX8_ranked_78 : decode cX8_ranked 78 = .ok (.iconst 0, 1) := by decide +kernel
theorem dX8_ranked_79 : decode cX8_ranked 79 = .ok (.ireturn, 1) := by decide +kernel
set_option maxRecDepth 20000 in
theorem ggX8_append_X8_fails : GoodIn wsX8_append wsX8_fails := goodIn_r _ [7, 8, 9, 10, 11, 12, 13, 14, 15, 16, 17, 18, 19, 20, 21, 22, 23, 24, 25, 26, 27, 28, 29, 30, 31, 32] (by decide +kernel) (by decide +kernel)
set_option maxRecDepth 20000 in
theorem gX8_append_X8_fails : GoodIn wsX8_append (wsV RX8 138 RX8 yX8_fails wsX8_fails) := goodIn_app (goodIn_of _ (by decide +kernel)) ggX8_append_X8_fails
theorem dX8_append_0 : decode cX8_append 0 = .ok (.aload_n 0, 1) := by decide +kernel
theorem dX8_append_1 : decode cX8_append 1 = .ok (.aload_n 0, 1) := by decide +kernel
theorem dX8_append_2 : decode cX8_append 2 = .ok (.getfield 162, 3) := by decide +kernel
theorem dX8_append_5 : decode cX8_append 5 = .ok (.bipush 60, 2) := by decide +kernel
theorem dX8_append_7 : decode cX8_append 7 = .ok (.if_icmp .ne 7, 3) := by decide +kernel
theorem dX8_append_10 : decode cX8_append 10 = .ok (.iconst 1, 1) := by decide +kernel
theorem dX8_append_11 : decode cX8_append 11 = .ok (.goto 4, 3) := by decide +kernel
theorem dX8_append_14 : decode cX8_append 14 = .ok (.iconst 0, 1) := by decide +kernel
theorem dX8_append_15 : decode cX8_append 15 = .ok (.invokevirtual 138, 3) := by decide +kernel
theorem dX8_append_18 : decode cX8_append 18 = .ok (.ifCond .eq 5, 3) := by decide +kernel
theorem dX8_append_21 : decode cX8_append 21 = .ok (.iconst 0, 1) := by decide +kernel
theorem dX8_append_22 : decode cX8_append 22 = .ok (.ireturn, 1) := by decide +kernel
theorem dX8_append_23 : decode cX8_append 23 = .ok (.aload_n 0, 1) := by decide +kernel
theorem dX8_append_24 : decode cX8_append 24 = .ok (.getfield 25, 3) := by decide +kernel
theorem dX8_append_27 : decode cX8_append 27 = .ok (.aload_n 0, 1) := by decide +kernel
theorem dX8_append_28 : decode cX8_append 28 = .ok (.getfield 162, 3) := by decide +kernel
theorem dX8_append_31 : decode cX8_append 31 = .ok (.iload_n 1, 1) := by decide +kernel
theorem dX8_append_32 : decode cX8_append 32 = .ok (.iastore, 1) := by decide +kernel
theorem dX8_append_33 : decode cX8_append 33 = .ok (.aload_n 0, 1) := by decide +kernel
theorem dX8_append_34 : decode cX8_append 34 = .ok (.dup, 1) := by decide +kernel
theorem dX8_append_35 : decode cX8_append 35 = .ok (.getfield 162, 3) := by decide +kernel
theorem dX8_append_38 : decode cX8_append 38 = .ok (.iconst 1, 1) := by decide +kernel
theorem dX8_append_39 : decode cX8_append 39 = .ok (.iadd, 1) := by decide +kernel
theorem dX8_append_40 : decode cX8_append 40 = .ok (.putfield 162, 3) := by decide +kernel
theorem dX8_append_43 : decode cX8_append 43 = .ok (.aload_n 0, 1) := by decide +kernel
theorem dX8_append_44 : decode cX8_append 44 = .ok (.getfield 162, 3) := by decide +kernel
theorem dX8_append_47 : decode cX8_append 47 = .ok (.ireturn, 1) := by decide +kernel
theorem dX8_here_0 : decode cX8_here 0 = .ok (.aload_n 0, 1) := by decide +kernel
theorem dX8_here_1 : decode cX8_here 1 = .ok (.getfield 165, 3) := by decide +kernel
theorem dX8_here_4 : decode cX8_here 4 = .ok (.aload_n 0, 1) := by decide +kernel
theorem dX8_here_5 : decode cX8_here 5 = .ok (.getfield 162, 3) := by decide +kernel
theorem dX8_here_8 : decode cX8_here 8 = .ok (.if_icmp .ge 15, 3) := by decide +kernel
theorem dX8_here_11 : decode cX8_here 11 = .ok (.aload_n 0, 1) := by decide +kernel
theorem dX8_here_12 : decode cX8_here 12 = .ok (.getfield 25, 3) := by decide +kernel
theorem dX8_here_15 : decode cX8_here 15 = .ok (.aload_n 0, 1) := by decide +kernel
theorem dX8_here_16 : decode cX8_here 16 = .ok (.getfield 165, 3) := by decide +kernel
theorem dX8_here_19 : decode cX8_here 19 = .ok (.iaload, 1) := by decide +kernel
theorem dX8_here_20 : decode cX8_here 20 = .ok (.goto 4, 3) := by decide +kernel
theorem dX8_here_23 : decode cX8_here 23 = .ok (.iconst (-1), 1) := by decide +kernel
theorem dX8_here_24 : decode cX8_here 24 = .ok (.ireturn, 1) := by decide +kernel
set_option maxRecDepth 20000 in
theorem ggX8_skips_X8_here : GoodIn wsX8_skips wsX8_here := goodIn_ca (goodIn_r _ [6, 1, 7, 8, 9, 10, 11, 12, 13, 14, 15, 16, 17, 18, 19, 20, 21, 22, 23, 24, 25, 26, 27, 28, 29, 30, 31, 32] (by decide +kernel) (by decide +kernel)) (goodIn_sub (fun _ h => List.mem_cons_of_mem _ (List.mem_append_right _ h)) (by decide +kernel))
set_option maxRecDepth 20000 in
theorem gX8_skips_X8_here : GoodIn wsX8_skips (wsV RX8 168 RX8 yX8_here wsX8_here) := goodIn_app (goodIn_of _ (by decide +kernel)) ggX8_skips_X8_here
theorem dX8_skips_0 : decode cX8_skips 0 = .ok (.aload_n 0, 1) := by decide +kernel
theorem dX8_skips_1 : decode cX8_skips 1 = .ok (.invokevirtual 168, 3) := by decide +kernel
theorem dX8_skips_4 : decode cX8_skips 4 = .ok (.iload_n 1, 1) := by decide +kernel
theorem dX8_skips_5 : decode cX8_skips 5 = .ok (.if_icmp .eq 5, 3) := by decide +kernel
theorem dX8_skips_8 : decode cX8_skips 8 = .ok (.iconst 0, 1) := by decide +kernel
theorem dX8_skips_9 : decode cX8_skips 9 = .ok (.ireturn, 1) := by decide +kernel
theorem dX8_skips_10 : decode cX8_skips 10 = .ok (.aload_n 0, 1) := by decide +kernel
theorem dX8_skips_11 : decode cX8_skips 11 = .ok (.dup, 1) := by decide +kernel
theorem dX8_skips_12 : decode cX8_skips 12 = .ok (.getfield 165, 3) := by decide +kernel
theorem dX8_skips_15 : decode cX8_skips 15 = .ok (.iconst 1, 1) := by decide +kernel
theorem dX8_skips_16 : decode cX8_skips 16 = .ok (.iadd, 1) := by decide +kernel
theorem dX8_skips_17 : decode cX8_skips 17 = .ok (.putfield 165, 3) := by decide +kernel
theorem dX8_skips_20 : decode cX8_skips 20 = .ok (.iconst 1, 1) := by decide +kernel
theorem dX8_skips_21 : decode cX8_skips 21 = .ok (.ireturn, 1) := by decide +kernel
set_option maxRecDepth 20000 in
theorem ggX8_figures_X8_here : GoodIn wsX8_figures wsX8_here := goodIn_ca (goodIn_r _ [7, 2, 8, 9, 13, 14, 15, 16, 17, 18, 19, 20, 21, 22, 23, 24, 25, 26, 27, 28, 29, 30, 31, 32, 33, 34, 35, 36] (by decide +kernel) (by decide +kernel)) (goodIn_sub (fun _ h => List.mem_cons_of_mem _ (List.mem_append_right _ h)) (by decide +kernel))
set_option maxRecDepth 20000 in
theorem gX8_figures_X8_here : GoodIn wsX8_figures (wsV RX8 168 RX8 yX8_here wsX8_here) := goodIn_app (goodIn_of _ (by decide +kernel)) ggX8_figures_X8_here
set_option maxRecDepth 20000 in
theorem ggX8_figures_X8_in : GoodIn wsX8_figures wsX8_in := goodIn_r _ [12] (by decide +kernel) (by decide +kernel)
set_option maxRecDepth 20000 in
theorem gX8_figures_X8_in : GoodIn wsX8_figures (va_wsS RX8 72 yX8_in wsX8_in) := goodIn_app (goodIn_of _ (by decide +kernel)) ggX8_figures_X8_in
theorem dX8_figures_0 : decode cX8_figures 0 = .ok (.aload_n 0, 1) := by decide +kernel
theorem dX8_figures_1 : decode cX8_figures 1 = .ok (.invokevirtual 168, 3) := by decide +kernel
theorem dX8_figures_4 : decode cX8_figures 4 = .ok (.bipush 48, 2) := by decide +kernel
theorem dX8_figures_6 : decode cX8_figures 6 = .ok (.bipush 57, 2) := by decide +kernel
theorem dX8_figures_8 : decode cX8_figures 8 = .ok (.invokestatic 72, 3) := by decide +kernel
theorem dX8_figures_11 : decode cX8_figures 11 = .ok (.ifCond .ne 5, 3) := by decide +kernel
theorem dX8_figures_14 : decode cX8_figures 14 = .ok (.iconst 0, 1) := by decide +kernel
theorem dX8_figures_15 : decode cX8_figures 15 = .ok (.ireturn, 1) := by decide +kernel
theorem dX8_figures_16 : decode cX8_figures 16 = .ok (.aload_n 0, 1) := by decide +kernel
theorem dX8_figures_17 : decode cX8_figures 17 = .ok (.getfield 43, 3) := by decide +kernel
theorem dX8_figures_20 : decode cX8_figures 20 = .ok (.iload_n 1, 1) := by decide +kernel
theorem dX8_figures_21 : decode cX8_figures 21 = .ok (.iconst 0, 1) := by decide +kernel
theorem dX8_figures_22 : decode cX8_figures 22 = .ok (.iastore, 1) := by decide +kernel
theorem dX8_figures_23 : decode cX8_figures 23 = .ok (.iconst 0, 1) := by decide +kernel
theorem dX8_figures_24 : decode cX8_figures 24 = .ok (.istore_n 3, 1) := by decide +kernel
theorem dX8_figures_25 : decode cX8_figures 25 = .ok (.iload_n 3, 1) := by decide +kernel
theorem dX8_figures_26 : decode cX8_figures 26 = .ok (.iload_n 2, 1) := by decide +kernel
theorem dX8_figures_27 : decode cX8_figures 27 = .ok (.if_icmp .ge 56, 3) := by decide +kernel
theorem dX8_figures_30 : decode cX8_figures 30 = .ok (.aload_n 0, 1) := by decide +kernel
theorem dX8_figures_31 : decode cX8_figures 31 = .ok (.invokevirtual 168, 3) := by decide +kernel
theorem dX8_figures_34 : decode cX8_figures 34 = .ok (.bipush 48, 2) := by decide +kernel
theorem dX8_figures_36 : decode cX8_figures 36 = .ok (.bipush 57, 2) := by decide +kernel
theorem dX8_figures_38 : decode cX8_figures 38 = .ok (.invokestatic 72, 3) := by decide +kernel
theorem dX8_figures_41 : decode cX8_figures 41 = .ok (.ifCond .eq 42, 3) := by decide +kernel
theorem dX8_figures_44 : decode cX8_figures 44 = .ok (.aload_n 0, 1) := by decide +kernel
theorem dX8_figures_45 : decode cX8_figures 45 = .ok (.getfield 43, 3) := by decide +kernel
theorem dX8_figures_48 : decode cX8_figures 48 = .ok (.iload_n 1, 1) := by decide +kernel
theorem dX8_figures_49 : decode cX8_figures 49 = .ok (.bipush 10, 2) := by decide +kernel
theorem dX8_figures_51 : decode cX8_figures 51 = .ok (.aload_n 0, 1) := by decide +kernel
theorem dX8_figures_52 : decode cX8_figures 52 = .ok (.getfield 43, 3) := by decide +kernel
theorem dX8_figures_55 : decode cX8_figures 55 = .ok (.iload_n 1, 1) := by decide +kernel
theorem dX8_figures_56 : decode cX8_figures 56 = .ok (.iaload, 1) := by decide +kernel
theorem dX8_figures_57 : decode cX8_figures 57 = .ok (.imul, 1) := by decide +kernel
theorem dX8_figures_58 : decode cX8_figures 58 = .ok (.aload_n 0, 1) := by decide +kernel
theorem dX8_figures_59 : decode cX8_figures 59 = .ok (.invokevirtual 168, 3) := by decide +kernel
theorem dX8_figures_62 : decode cX8_figures 62 = .ok (.iadd, 1) := by decide +kernel
theorem dX8_figures_63 : decode cX8_figures 63 = .ok (.bipush 48, 2) := by decide +kernel
theorem dX8_figures_65 : decode cX8_figures 65 = .ok (.isub, 1) := by decide +kernel
theorem dX8_figures_66 : decode cX8_figures 66 = .ok (.iastore, 1) := by decide +kernel
theorem dX8_figures_67 : decode cX8_figures 67 = .ok (.aload_n 0, 1) := by decide +kernel
theorem dX8_figures_68 : decode cX8_figures 68 = .ok (.dup, 1) := by decide +kernel
theorem dX8_figures_69 : decode cX8_figures 69 = .ok (.getfield 165, 3) := by decide +kernel
theorem dX8_figures_72 : decode cX8_figures 72 = .ok (.iconst 1, 1) := by decide +kernel
theorem dX8_figures_73 : decode cX8_figures 73 = .ok (.iadd, 1) := by decide +kernel
theorem dX8_figures_74 : decode cX8_figures 74 = .ok (.putfield 165, 3) := by decide +kernel
theorem dX8_figures_77 : decode cX8_figures 77 = .ok (.iinc 3 1, 3) := by decide +kernel
theorem dX8_figures_80 : decode cX8_figures 80 = .ok (.goto (-55), 3) := by decide +kernel
theorem dX8_figures_83 : decode cX8_figures 83 = .ok (.iconst 1, 1) := by decide +kernel
theorem dX8_figures_84 : decode cX8_figures 84 = .ok (.ireturn, 1) := by decide +kernel
set_option maxRecDepth 20000 in
theorem ggX8_commandHere_X8_here : GoodIn wsX8_commandHere wsX8_here := goodIn_ca (goodIn_r _ [7, 8, 9, 10, 22, 23, 24, 25, 26, 27, 28, 29, 30, 31, 32, 33, 34, 35, 36, 37, 38, 39, 40, 41, 42, 43, 44, 45] (by decide +kernel) (by decide +kernel)) (goodIn_sub (fun _ h => List.mem_cons_of_mem _ (List.mem_append_right _ h)) (by decide +kernel))
set_option maxRecDepth 20000 in
theorem gX8_commandHere_X8_here : GoodIn wsX8_commandHere (wsV RX8 168 RX8 yX8_here wsX8_here) := goodIn_app (goodIn_of _ (by decide +kernel)) ggX8_commandHere_X8_here
set_option maxRecDepth 20000 in
theorem ggX8_commandHere_X8_skips : GoodIn wsX8_commandHere wsX8_skips := goodIn_ca (goodIn_r _ [14, 8, 3, 4, 5, 6, 7, 9, 10, 22, 23, 24, 25, 26, 27, 28, 29, 30, 31, 32, 33, 34, 35, 36, 37, 38, 39, 40, 41, 42, 43, 44, 45] (by decide +kernel) (by decide +kernel)) (goodIn_sub (fun _ h => List.mem_cons_of_mem _ (List.mem_append_right _ h)) (by decide +kernel))
set_option maxRecDepth 20000 in
theorem gX8_commandHere_X8_skips : GoodIn wsX8_commandHere (wsV RX8 174 RX8 yX8_skips wsX8_skips) := goodIn_app (goodIn_of _ (by decide +kernel)) ggX8_commandHere_X8_skips
set_option maxRecDepth 20000 in
theorem ggX8_commandHere_X8_figures : GoodIn wsX8_commandHere wsX8_figures := goodIn_ca (goodIn_r _ [18, 2, 8, 3, 4, 5, 6, 7, 9, 10, 19, 20, 21, 22, 23, 24, 25, 26, 27, 28, 29, 30, 31, 32, 33, 34, 35, 36, 37, 38, 39, 40, 41, 42, 43, 44, 45] (by decide +kernel) (by decide +kernel)) (goodIn_sub (fun _ h => List.mem_cons_of_mem _ (List.mem_append_right _ h)) (by decide +kernel))
set_option maxRecDepth 20000 in
theorem gX8_commandHere_X8_figures : GoodIn wsX8_commandHere (wsV RX8 177 RX8 yX8_figures wsX8_figures) := goodIn_app (goodIn_of _ (by decide +kernel)) ggX8_commandHere_X8_figures
theorem dX8_commandHere_0 : decode cX8_commandHere 0 = .ok (.iconst 4, 1) := by decide +kernel
theorem dX8_commandHere_1 : decode cX8_commandHere 1 = .ok (.aload_n 0, 1) := by decide +kernel
theorem dX8_commandHere_2 : decode cX8_commandHere 2 = .ok (.getfield 171, 3) := by decide +kernel
theorem dX8_commandHere_5 : decode cX8_commandHere 5 = .ok (.imul, 1) := by decide +kernel
theorem dX8_commandHere_6 : decode cX8_commandHere 6 = .ok (.istore_n 1, 1) := by decide +kernel
theorem dX8_commandHere_7 : decode cX8_commandHere 7 = .ok (.aload_n 0, 1) := by decide +kernel
theorem dX8_commandHere_8 : decode cX8_commandHere 8 = .ok (.getfield 43, 3) := by decide +kernel
theorem dX8_commandHere_11 : decode cX8_commandHere 11 = .ok (.iload_n 1, 1) := by decide +kernel
theorem dX8_commandHere_12 : decode cX8_commandHere 12 = .ok (.aload_n 0, 1) := by decide +kernel
theorem dX8_commandHere_13 : decode cX8_commandHere 13 = .ok (.invokevirtual 168, 3) := by decide +kernel
theorem dX8_commandHere_16 : decode cX8_commandHere 16 = .ok (.iastore, 1) := by decide +kernel
theorem dX8_commandHere_17 : decode cX8_commandHere 17 = .ok (.aload_n 0, 1) := by decide +kernel
theorem dX8_commandHere_18 : decode cX8_commandHere 18 = .ok (.bipush 119, 2) := by decide +kernel
theorem dX8_commandHere_20 : decode cX8_commandHere 20 = .ok (.invokevirtual 174, 3) := by decide +kernel
theorem dX8_commandHere_23 : decode cX8_commandHere 23 = .ok (.ifCond .eq 5, 3) := by decide +kernel
theorem dX8_commandHere_26 : decode cX8_commandHere 26 = .ok (.iconst 1, 1) := by decide +kernel
theorem dX8_commandHere_27 : decode cX8_commandHere 27 = .ok (.ireturn, 1) := by decide +kernel
theorem dX8_commandHere_28 : decode cX8_commandHere 28 = .ok (.aload_n 0, 1) := by decide +kernel
theorem dX8_commandHere_29 : decode cX8_commandHere 29 = .ok (.bipush 107, 2) := by decide +kernel
theorem dX8_commandHere_31 : decode cX8_commandHere 31 = .ok (.invokevirtual 174, 3) := by decide +kernel
theorem dX8_commandHere_34 : decode cX8_commandHere 34 = .ok (.ifCond .eq 40, 3) := by decide +kernel
theorem dX8_commandHere_37 : decode cX8_commandHere 37 = .ok (.aload_n 0, 1) := by decide +kernel
theorem dX8_commandHere_38 : decode cX8_commandHere 38 = .ok (.iload_n 1, 1) := by decide +kernel
theorem dX8_commandHere_39 : decode cX8_commandHere 39 = .ok (.iconst 1, 1) := by decide +kernel
theorem dX8_commandHere_40 : decode cX8_commandHere 40 = .ok (.iadd, 1) := by decide +kernel
theorem dX8_commandHere_41 : decode cX8_commandHere 41 = .ok (.iconst 2, 1) := by decide +kernel
theorem dX8_commandHere_42 : decode cX8_commandHere 42 = .ok (.invokevirtual 177, 3) := by decide +kernel
theorem dX8_commandHere_45 : decode cX8_commandHere 45 = .ok (.ifCond .eq 27, 3) := by decide +kernel
theorem dX8_commandHere_48 : decode cX8_commandHere 48 = .ok (.aload_n 0, 1) := by decide +kernel
theorem dX8_commandHere_49 : decode cX8_commandHere 49 = .ok (.bipush 47, 2) := by decide +kernel
theorem dX8_commandHere_51 : decode cX8_commandHere 51 = .ok (.invokevirtual 174, 3) := by decide +kernel
theorem dX8_commandHere_54 : decode cX8_commandHere 54 = .ok (.ifCond .eq 18, 3) := by decide +kernel
theorem dX8_commandHere_57 : decode cX8_commandHere 57 = .ok (.aload_n 0, 1) := by decide +kernel
theorem dX8_commandHere_58 : decode cX8_commandHere 58 = .ok (.iload_n 1, 1) := by decide +kernel
theorem dX8_commandHere_59 : decode cX8_commandHere 59 = .ok (.iconst 2, 1) := by decide +kernel
theorem dX8_commandHere_60 : decode cX8_commandHere 60 = .ok (.iadd, 1) := by decide +kernel
theorem dX8_commandHere_61 : decode cX8_commandHere 61 = .ok (.iconst 1, 1) := by decide +kernel
theorem dX8_commandHere_62 : decode cX8_commandHere 62 = .ok (.invokevirtual 177, 3) := by decide +kernel
theorem dX8_commandHere_65 : decode cX8_commandHere 65 = .ok (.ifCond .eq 7, 3) := by decide +kernel
theorem dX8_commandHere_68 : decode cX8_commandHere 68 = .ok (.iconst 1, 1) := by decide +kernel
theorem dX8_commandHere_69 : decode cX8_commandHere 69 = .ok (.goto 4, 3) := by decide +kernel
theorem dX8_commandHere_72 : decode cX8_commandHere 72 = .ok (.iconst 0, 1) := by decide +kernel
theorem dX8_commandHere_73 : decode cX8_commandHere 73 = .ok (.ireturn, 1) := by decide +kernel
theorem dX8_commandHere_74 : decode cX8_commandHere 74 = .ok (.aload_n 0, 1) := by decide +kernel
theorem dX8_commandHere_75 : decode cX8_commandHere 75 = .ok (.bipush 99, 2) := by decide +kernel
theorem dX8_commandHere_77 : decode cX8_commandHere 77 = .ok (.invokevirtual 174, 3) := by decide +kernel
theorem dX8_commandHere_80 : decode cX8_commandHere 80 = .ok (.ifCond .eq 40, 3) := by decide +kernel
theorem dX8_commandHere_83 : decode cX8_commandHere 83 = .ok (.aload_n 0, 1) := by decide +kernel
theorem dX8_commandHere_84 : decode cX8_commandHere 84 = .ok (.iload_n 1, 1) := by decide +kernel
theorem dX8_commandHere_85 : decode cX8_commandHere 85 = .ok (.iconst 1, 1) := by decide +kernel
theorem dX8_commandHere_86 : decode cX8_commandHere 86 = .ok (.iadd, 1) := by decide +kernel
theorem dX8_commandHere_87 : decode cX8_commandHere 87 = .ok (.iconst 1, 1) := by decide +kernel
theorem dX8_commandHere_88 : decode cX8_commandHere 88 = .ok (.invokevirtual 177, 3) := by decide +kernel
theorem dX8_commandHere_91 : decode cX8_commandHere 91 = .ok (.ifCond .eq 27, 3) := by decide +kernel
theorem dX8_commandHere_94 : decode cX8_commandHere 94 = .ok (.aload_n 0, 1) := by decide +kernel
theorem dX8_commandHere_95 : decode cX8_commandHere 95 = .ok (.bipush 47, 2) := by decide +kernel
theorem dX8_commandHere_97 : decode cX8_commandHere 97 = .ok (.invokevirtual 174, 3) := by decide +kernel
theorem dX8_commandHere_100 : decode cX8_commandHere 100 = .ok (.ifCond .eq 18, 3) := by decide +kernel
theorem dX8_commandHere_103 : decode cX8_commandHere 103 = .ok (.aload_n 0, 1) := by decide +kernel
theorem dX8_commandHere_104 : decode cX8_commandHere 104 = .ok (.iload_n 1, 1) := by decide +kernel
theorem dX8_commandHere_105 : decode cX8_commandHere 105 = .ok (.iconst 2, 1) := by decide +kernel
theorem dX8_commandHere_106 : decode cX8_commandHere 106 = .ok (.iadd, 1) := by decide +kernel
theorem dX8_commandHere_107 : decode cX8_commandHere 107 = .ok (.iconst 2, 1) := by decide +kernel
theorem dX8_commandHere_108 : decode cX8_commandHere 108 = .ok (.invokevirtual 177, 3) := by decide +kernel
theorem dX8_commandHere_111 : decode cX8_commandHere 111 = .ok (.ifCond .eq 7, 3) := by decide +kernel
theorem dX8_commandHere_114 : decode cX8_commandHere 114 = .ok (.iconst 1, 1) := by decide +kernel
theorem dX8_commandHere_115 : decode cX8_commandHere 115 = .ok (.goto 4, 3) := by decide +kernel
theorem dX8_commandHere_118 : decode cX8_commandHere 118 = .ok (.iconst 0, 1) := by decide +kernel
theorem dX8_commandHere_119 : decode cX8_commandHere 119 = .ok (.ireturn, 1) := by decide +kernel
theorem dX8_commandHere_120 : decode cX8_commandHere 120 = .ok (.aload_n 0, 1) := by decide +kernel
theorem dX8_commandHere_121 : decode cX8_commandHere 121 = .ok (.bipush 108, 2) := by decide +kernel
theorem dX8_commandHere_123 : decode cX8_commandHere 123 = .ok (.invokevirtual 174, 3) := by decide +kernel
theorem dX8_commandHere_126 : decode cX8_commandHere 126 = .ok (.ifCond .eq 12, 3) := by decide +kernel
theorem dX8_commandHere_129 : decode cX8_commandHere 129 = .ok (.aload_n 0, 1) := by decide +kernel
theorem dX8_commandHere_130 : decode cX8_commandHere 130 = .ok (.iload_n 1, 1) := by decide +kernel
theorem dX8_commandHere_131 : decode cX8_commandHere 131 = .ok (.iconst 1, 1) := by decide +kernel
theorem dX8_commandHere_132 : decode cX8_commandHere 132 = .ok (.iadd, 1) := by decide +kernel
theorem dX8_commandHere_133 : decode cX8_commandHere 133 = .ok (.iconst 2, 1) := by decide +kernel
theorem dX8_commandHere_134 : decode cX8_commandHere 134 = .ok (.invokevirtual 177, 3) := by decide +kernel
theorem dX8_commandHere_137 : decode cX8_commandHere 137 = .ok (.ireturn, 1) := by decide +kernel
theorem dX8_commandHere_138 : decode cX8_commandHere 138 = .ok (.aload_n 0, 1) := by decide +kernel
theorem dX8_commandHere_139 : decode cX8_commandHere 139 = .ok (.bipush 98, 2) := by decide +kernel
theorem dX8_commandHere_141 : decode cX8_commandHere 141 = .ok (.invokevirtual 174, 3) := by decide +kernel
theorem dX8_commandHere_144 : decode cX8_commandHere 144 = .ok (.ifCond .ne 21, 3) := by decide +kernel
theorem dX8_commandHere_147 : decode cX8_commandHere 147 = .ok (.aload_n 0, 1) := by decide +kernel
theorem dX8_commandHere_148 : decode cX8_commandHere 148 = .ok (.bipush 117, 2) := by decide +kernel
theorem dX8_commandHere_150 : decode cX8_commandHere 150 = .ok (.invokevirtual 174, 3) := by decide +kernel
theorem dX8_commandHere_153 : decode cX8_commandHere 153 = .ok (.ifCond .ne 12, 3) := by decide +kernel
theorem dX8_commandHere_156 : decode cX8_commandHere 156 = .ok (.aload_n 0, 1) := by decide +kernel
theorem dX8_commandHere_157 : decode cX8_commandHere 157 = .ok (.bipush 112, 2) := by decide +kernel
theorem dX8_commandHere_159 : decode cX8_commandHere 159 = .ok (.invokevirtual 174, 3) := by decide +kernel
theorem dX8_commandHere_162 : decode cX8_commandHere 162 = .ok (.ifCond .eq 31, 3) := by decide +kernel
theorem dX8_commandHere_165 : decode cX8_commandHere 165 = .ok (.aload_n 0, 1) := by decide +kernel
theorem dX8_commandHere_166 : decode cX8_commandHere 166 = .ok (.iload_n 1, 1) := by decide +kernel
theorem dX8_commandHere_167 : decode cX8_commandHere 167 = .ok (.iconst 1, 1) := by decide +kernel
theorem dX8_commandHere_168 : decode cX8_commandHere 168 = .ok (.iadd, 1) := by decide +kernel
theorem dX8_commandHere_169 : decode cX8_commandHere 169 = .ok (.iconst 1, 1) := by decide +kernel
theorem dX8_commandHere_170 : decode cX8_commandHere 170 = .ok (.invokevirtual 177, 3) := by decide +kernel
theorem dX8_commandHere_173 : decode cX8_commandHere 173 = .ok (.ifCond .eq 18, 3) := by decide +kernel
theorem dX8_commandHere_176 : decode cX8_commandHere 176 = .ok (.aload_n 0, 1) := by decide +kernel
theorem dX8_commandHere_177 : decode cX8_commandHere 177 = .ok (.iload_n 1, 1) := by decide +kernel
theorem dX8_commandHere_178 : decode cX8_commandHere 178 = .ok (.iconst 2, 1) := by decide +kernel
theorem dX8_commandHere_179 : decode cX8_commandHere 179 = .ok (.iadd, 1) := by decide +kernel
theorem dX8_commandHere_180 : decode cX8_commandHere 180 = .ok (.iconst 1, 1) := by decide +kernel
theorem dX8_commandHere_181 : decode cX8_commandHere 181 = .ok (.invokevirtual 177, 3) := by decide +kernel
theorem dX8_commandHere_184 : decode cX8_commandHere 184 = .ok (.ifCond .eq 7, 3) := by decide +kernel
theorem dX8_commandHere_187 : decode cX8_commandHere 187 = .ok (.iconst 1, 1) := by decide +kernel
theorem dX8_commandHere_188 : decode cX8_commandHere 188 = .ok (.goto 4, 3) := by decide +kernel
theorem dX8_commandHere_191 : decode cX8_commandHere 191 = .ok (.iconst 0, 1) := by decide +kernel
theorem dX8_commandHere_192 : decode cX8_commandHere 192 = .ok (.ireturn, 1) := by decide +kernel
theorem dX8_commandHere_193 : decode cX8_commandHere 193 = .ok (.aload_n 0, 1) := by decide +kernel
theorem dX8_commandHere_194 : decode cX8_commandHere 194 = .ok (.bipush 116, 2) := by decide +kernel
theorem dX8_commandHere_196 : decode cX8_commandHere 196 = .ok (.invokevirtual 174, 3) := by decide +kernel
theorem dX8_commandHere_199 : decode cX8_commandHere 199 = .ok (.ifCond .ne 12, 3) := by decide +kernel
theorem dX8_commandHere_202 : decode cX8_commandHere 202 = .ok (.aload_n 0, 1) := by decide +kernel
theorem dX8_commandHere_203 : decode cX8_commandHere 203 = .ok (.bipush 115, 2) := by decide +kernel
theorem dX8_commandHere_205 : decode cX8_commandHere 205 = .ok (.invokevirtual 174, 3) := by decide +kernel
theorem dX8_commandHere_208 : decode cX8_commandHere 208 = .ok (.ifCond .eq 18, 3) := by decide +kernel
theorem dX8_commandHere_211 : decode cX8_commandHere 211 = .ok (.aload_n 0, 1) := by decide +kernel
theorem dX8_commandHere_212 : decode cX8_commandHere 212 = .ok (.iload_n 1, 1) := by decide +kernel
theorem dX8_commandHere_213 : decode cX8_commandHere 213 = .ok (.iconst 1, 1) := by decide +kernel
theorem dX8_commandHere_214 : decode cX8_commandHere 214 = .ok (.iadd, 1) := by decide +kernel
theorem dX8_commandHere_215 : decode cX8_commandHere 215 = .ok (.iconst 1, 1) := by decide +kernel
theorem dX8_commandHere_216 : decode cX8_commandHere 216 = .ok (.invokevirtual 177, 3) := by decide +kernel
theorem dX8_commandHere_219 : decode cX8_commandHere 219 = .ok (.ifCond .eq 7, 3) := by decide +kernel
theorem dX8_commandHere_222 : decode cX8_commandHere 222 = .ok (.iconst 1, 1) := by decide +kernel
theorem dX8_commandHere_223 : decode cX8_commandHere 223 = .ok (.goto 4, 3) := by decide +kernel
theorem dX8_commandHere_226 : decode cX8_commandHere 226 = .ok (.iconst 0, 1) := by decide +kernel
theorem dX8_commandHere_227 : decode cX8_commandHere 227 = .ok (.ireturn, 1) := by decide +kernel
set_option maxRecDepth 20000 in
theorem ggX8_isText_X8_commandHere : GoodIn wsX8_isText wsX8_commandHere := goodIn_ca (goodIn_r _ [8, 2, 9, 10, 11, 12, 7, 13, 1, 3, 14, 15, 16, 17, 18, 19, 20, 21, 22, 23, 24, 25, 26, 27, 28, 29, 30, 31, 32, 33, 34, 35, 36, 37, 38, 39, 40, 41, 42, 43, 44, 45, 46, 47, 48, 49] (by decide +kernel) (by decide +kernel)) (goodIn_sub (fun _ h => List.mem_cons_of_mem _ (List.mem_append_right _ h)) (by decide +kernel))
set_option maxRecDepth 20000 in
theorem gX8_isText_X8_commandHere : GoodIn wsX8_isText (wsV RX8 180 RX8 yX8_commandHere wsX8_commandHere) := goodIn_app (goodIn_of _ (by decide +kernel)) ggX8_isText_X8_commandHere
set_option maxRecDepth 20000 in
theorem ggX8_isText_X8_skips : GoodIn wsX8_isText wsX8_skips := goodIn_ca (goodIn_r _ [18, 1, 10, 11, 12, 7, 13, 3, 14, 26, 27, 28, 29, 30, 31, 32, 33, 34, 35, 36, 37, 38, 39, 40, 41, 42, 43, 44, 45, 46, 47, 48, 49] (by decide +kernel) (by decide +kernel)) (goodIn_sub (fun _ h => List.mem_cons_of_mem _ (List.mem_append_right _ h)) (by decide +kernel))
set_option maxRecDepth 20000 in
theorem gX8_isText_X8_skips : GoodIn wsX8_isText (wsV RX8 174 RX8 yX8_skips wsX8_skips) := goodIn_app (goodIn_of _ (by decide +kernel)) ggX8_isText_X8_skips
theorem dX8_isText_0 : decode cX8_isText 0 = .ok (.aload_n 0, 1) := by decide +kernel
theorem dX8_isText_1 : decode cX8_isText 1 = .ok (.iconst 0, 1) := by decide +kernel
theorem dX8_isText_2 : decode cX8_isText 2 = .ok (.putfield 165, 3) := by decide +kernel
theorem dX8_isText_5 : decode cX8_isText 5 = .ok (.aload_n 0, 1) := by decide +kernel
theorem dX8_isText_6 : decode cX8_isText 6 = .ok (.iconst 0, 1) := by decide +kernel
theorem dX8_isText_7 : decode cX8_isText 7 = .ok (.putfield 171, 3) := by decide +kernel
theorem dX8_isText_10 : decode cX8_isText 10 = .ok (.aload_n 0, 1) := by decide +kernel
theorem dX8_isText_11 : decode cX8_isText 11 = .ok (.invokevirtual 180, 3) := by decide +kernel
theorem dX8_isText_14 : decode cX8_isText 14 = .ok (.ifCond .ne 5, 3) := by decide +kernel
theorem dX8_isText_17 : decode cX8_isText 17 = .ok (.iconst 0, 1) := by decide +kernel
theorem dX8_isText_18 : decode cX8_isText 18 = .ok (.ireturn, 1) := by decide +kernel
theorem dX8_isText_19 : decode cX8_isText 19 = .ok (.aload_n 0, 1) := by decide +kernel
theorem dX8_isText_20 : decode cX8_isText 20 = .ok (.dup, 1) := by decide +kernel
theorem dX8_isText_21 : decode cX8_isText 21 = .ok (.getfield 171, 3) := by decide +kernel
theorem dX8_isText_24 : decode cX8_isText 24 = .ok (.iconst 1, 1) := by decide +kernel
theorem dX8_isText_25 : decode cX8_isText 25 = .ok (.iadd, 1) := by decide +kernel
theorem dX8_isText_26 : decode cX8_isText 26 = .ok (.putfield 171, 3) := by decide +kernel
theorem dX8_isText_29 : decode cX8_isText 29 = .ok (.aload_n 0, 1) := by decide +kernel
theorem dX8_isText_30 : decode cX8_isText 30 = .ok (.bipush 59, 2) := by decide +kernel
theorem dX8_isText_32 : decode cX8_isText 32 = .ok (.invokevirtual 174, 3) := by decide +kernel
theorem dX8_isText_35 : decode cX8_isText 35 = .ok (.ifCond .ne (-25), 3) := by decide +kernel
theorem dX8_isText_38 : decode cX8_isText 38 = .ok (.aload_n 0, 1) := by decide +kernel
theorem dX8_isText_39 : decode cX8_isText 39 = .ok (.getfield 165, 3) := by decide +kernel
theorem dX8_isText_42 : decode cX8_isText 42 = .ok (.aload_n 0, 1) := by decide +kernel
theorem dX8_isText_43 : decode cX8_isText 43 = .ok (.getfield 162, 3) := by decide +kernel
theorem dX8_isText_46 : decode cX8_isText 46 = .ok (.if_icmp .ne 7, 3) := by decide +kernel
theorem dX8_isText_49 : decode cX8_isText 49 = .ok (.iconst 1, 1) := by decide +kernel
theorem dX8_isText_50 : decode cX8_isText 50 = .ok (.goto 4, 3) := by decide +kernel
theorem dX8_isText_53 : decode cX8_isText 53 = .ok (.iconst 0, 1) := by decide +kernel
theorem dX8_isText_54 : decode cX8_isText 54 = .ok (.ireturn, 1) := by decide +kernel
set_option maxRecDepth 20000 in
theorem ggX8_carries_X8_wave : GoodIn wsX8_carries wsX8_wave := goodIn_ca (goodIn_r _ [6, 7, 8, 9, 10, 5, 11, 12, 13, 14, 15, 16, 17, 18, 19, 20, 21, 22, 23, 24, 25, 26, 27, 28, 29, 30, 31, 32, 33, 34, 35, 36, 37, 38, 39, 40, 41, 42, 43, 44, 45, 46, 47, 48, 49, 50, 51, 52, 53, 54, 55, 56, 57, 58, 59, 60, 61, 62, 63, 64, 65, 66, 67, 68, 120, 121, 122, 123, 124, 125, 126, 127, 128, 129, 130, 131, 132, 133, 134, 135, 136, 137, 138, 139, 140, 141, 142, 143] (by decide +kernel) (by decide +kernel)) (goodIn_sub (fun _ h => List.mem_cons_of_mem _ (List.mem_append_right _ h)) (by decide +kernel))
set_option maxRecDepth 20000 in
theorem gX8_carries_X8_wave : GoodIn wsX8_carries (wsV RX8 183 RX8 yX8_wave wsX8_wave) := goodIn_app (goodIn_of _ (by decide +kernel)) ggX8_carries_X8_wave
set_option maxRecDepth 20000 in
theorem ggX8_carries_X8_key : GoodIn wsX8_carries wsX8_key := goodIn_ca (goodIn_r _ [72, 7, 73, 74, 5, 75, 37, 38, 39, 40, 41, 42, 43, 44, 45, 46, 47, 48, 49, 50, 51, 52, 53, 54, 55, 120, 121, 122, 123, 124, 125, 126, 127, 128, 129, 130, 131, 132, 133, 134, 135, 136, 137, 138, 139, 140, 141, 142, 143] (by decide +kernel) (by decide +kernel)) (goodIn_sub (fun _ h => List.mem_cons_of_mem _ (List.mem_append_right _ h)) (by decide +kernel))
set_option maxRecDepth 20000 in
theorem gX8_carries_X8_key : GoodIn wsX8_carries (wsV RX8 186 RX8 yX8_key wsX8_key) := goodIn_app (goodIn_of _ (by decide +kernel)) ggX8_carries_X8_key
set_option maxRecDepth 20000 in
theorem ggX8_carries_X8_cut : GoodIn wsX8_carries wsX8_cut := goodIn_ca (goodIn_r _ [79, 7, 80, 81, 82, 5, 83, 73, 74, 75, 37, 38, 39, 40, 41, 42, 43, 44, 45, 46, 14, 15, 16, 17, 47, 48, 49, 50, 51, 52, 53, 54, 55, 30, 31, 32, 84, 85, 86, 87, 18, 19, 20, 21, 22, 23, 24, 25, 26, 27, 28, 29, 88, 89, 90, 91, 120, 121, 122, 123, 124, 125, 126, 127, 128, 129, 130, 131, 132, 133, 134, 135, 136, 137, 138, 139, 140, 141, 142, 143] (by decide +kernel) (by decide +kernel)) (goodIn_sub (fun _ h => List.mem_cons_of_mem _ (List.mem_append_right _ h)) (by decide +kernel))
set_option maxRecDepth 20000 in
theorem gX8_carries_X8_cut : GoodIn wsX8_carries (wsV RX8 189 RX8 yX8_cut wsX8_cut) := goodIn_app (goodIn_of _ (by decide +kernel)) ggX8_carries_X8_cut
set_option maxRecDepth 20000 in
theorem ggX8_carries_X8_lock : GoodIn wsX8_carries wsX8_lock := goodIn_ca (goodIn_r _ [95, 7, 73, 74, 5, 75, 37, 38, 39, 40, 41, 42, 43, 44, 45, 46, 47, 48, 49, 50, 51, 52, 53, 54, 55, 120, 121, 122, 123, 124, 125, 126, 127, 128, 129, 130, 131, 132, 133, 134, 135, 136, 137, 138, 139, 140, 141, 142, 143] (by decide +kernel) (by decide +kernel)) (goodIn_sub (fun _ h => List.mem_cons_of_mem _ (List.mem_append_right _ h)) (by decide +kernel))
set_option maxRecDepth 20000 in
theorem gX8_carries_X8_lock : GoodIn wsX8_carries (wsV RX8 192 RX8 yX8_lock wsX8_lock) := goodIn_app (goodIn_of _ (by decide +kernel)) ggX8_carries_X8_lock
set_option maxRecDepth 20000 in
theorem ggX8_carries_X8_bar : GoodIn wsX8_carries wsX8_bar := goodIn_ca (goodIn_r _ [99, 7, 80, 81, 82, 5, 83, 73, 74, 75, 37, 38, 39, 40, 41, 42, 43, 44, 45, 46, 100, 101, 102, 103, 47, 48, 49, 50, 51, 52, 53, 54, 55, 84, 85, 86, 87, 14, 15, 16, 17, 18, 19, 20, 21, 22, 23, 24, 25, 26, 27, 28, 29, 30, 31, 32, 88, 89, 90, 91, 104, 105, 106, 107, 120, 121, 122, 123, 124, 125, 126, 127, 128, 129, 130, 131, 132, 133, 134, 135, 136, 137, 138, 139, 140, 141, 142, 143] (by decide +kernel) (by decide +kernel)) (goodIn_sub (fun _ h => List.mem_cons_of_mem _ (List.mem_append_right _ h)) (by decide +kernel))
set_option maxRecDepth 20000 in
theorem gX8_carries_X8_bar : GoodIn wsX8_carries (wsV RX8 195 RX8 yX8_bar wsX8_bar) := goodIn_app (goodIn_of _ (by decide +kernel)) ggX8_carries_X8_bar
set_option maxRecDepth 20000 in
theorem ggX8_carries_X8_put : GoodIn wsX8_carries wsX8_put := goodIn_ca (goodIn_r _ [111, 7, 80, 81, 82, 5, 83, 73, 74, 75, 37, 38, 39, 40, 41, 42, 43, 44, 45, 46, 100, 101, 102, 103, 14, 15, 16, 17, 26, 27, 28, 29, 18, 19, 20, 21, 22, 23, 24, 25, 30, 31, 32, 47, 48, 49, 50, 51, 52, 53, 54, 55, 65, 66, 67, 68, 33, 34, 35, 36, 120, 121, 122, 123, 124, 125, 126, 127, 128, 129, 130, 131, 132, 133, 134, 135, 136, 137, 138, 139, 140, 141, 142, 143] (by decide +kernel) (by decide +kernel)) (goodIn_sub (fun _ h => List.mem_cons_of_mem _ (List.mem_append_right _ h)) (by decide +kernel))
set_option maxRecDepth 20000 in
theorem gX8_carries_X8_put : GoodIn wsX8_carries (wsV RX8 199 RX8 yX8_put wsX8_put) := goodIn_app (goodIn_of _ (by decide +kernel)) ggX8_carries_X8_put
set_option maxRecDepth 20000 in
theorem ggX8_carries_X8_take : GoodIn wsX8_carries wsX8_take := goodIn_ca (goodIn_r _ [115, 7, 80, 81, 82, 5, 83, 73, 74, 75, 37, 38, 39, 40, 41, 42, 43, 44, 45, 46, 14, 15, 16, 17, 47, 48, 49, 50, 51, 52, 53, 54, 55, 88, 89, 90, 91, 120, 121, 122, 123, 124, 125, 126, 127, 128, 129, 130, 131, 132, 133, 134, 135, 136, 137, 138, 139, 140, 141, 142, 143] (by decide +kernel) (by decide +kernel)) (goodIn_sub (fun _ h => List.mem_cons_of_mem _ (List.mem_append_right _ h)) (by decide +kernel))
set_option maxRecDepth 20000 in
theorem gX8_carries_X8_take : GoodIn wsX8_carries (wsV RX8 202 RX8 yX8_take wsX8_take) := goodIn_app (goodIn_of _ (by decide +kernel)) ggX8_carries_X8_take
set_option maxRecDepth 20000 in
theorem ggX8_carries_X8_slack : GoodIn wsX8_carries wsX8_slack := goodIn_ca (goodIn_r _ [119, 7, 73, 74, 5, 75, 37, 38, 39, 40, 41, 42, 43, 44, 45, 46, 47, 48, 49, 50, 51, 52, 53, 54, 55, 84, 85, 86, 87, 14, 15, 16, 17, 18, 19, 20, 21, 22, 23, 24, 25, 26, 27, 28, 29, 30, 31, 32, 88, 89, 90, 91, 120, 121, 122, 123, 124, 125, 126, 127, 128, 129, 130, 131, 132, 133, 134, 135, 136, 137, 138, 139, 140, 141, 142, 143] (by decide +kernel) (by decide +kernel)) (goodIn_sub (fun _ h => List.mem_cons_of_mem _ (List.mem_append_right _ h)) (by decide +kernel))
set_option maxRecDepth 20000 in
theorem gX8_carries_X8_slack : GoodIn wsX8_carries (wsV RX8 205 RX8 yX8_slack wsX8_slack) := goodIn_app (goodIn_of _ (by decide +kernel)) ggX8_carries_X8_slack
theorem dX8_carries_0 : decode cX8_carries 0 = .ok (.aload_n 0, 1) := by decide +kernel
theorem dX8_carries_1 : decode cX8_carries 1 = .ok (.getfield 43, 3) := by decide +kernel
theorem dX8_carries_4 : decode cX8_carries 4 = .ok (.iload_n 1, 1) := by decide +kernel
theorem dX8_carries_5 : decode cX8_carries 5 = .ok (.iaload, 1) := by decide +kernel
theorem dX8_carries_6 : decode cX8_carries 6 = .ok (.tableswitch 240 98 119 #[162, 128, 240, 240, 240, 240, 240, 240, 240, 107, 149, 240, 240, 240, 206, 240, 240, 240, 227, 184, 240, 102], 102) := by decide +kernel
theorem dX8_carries_108 : decode cX8_carries 108 = .ok (.aload_n 0, 1) := by decide +kernel
theorem dX8_carries_109 : decode cX8_carries 109 = .ok (.invokevirtual 183, 3) := by decide +kernel
theorem dX8_carries_112 : decode cX8_carries 112 = .ok (.ireturn, 1) := by decide +kernel
theorem dX8_carries_113 : decode cX8_carries 113 = .ok (.aload_n 0, 1) := by decide +kernel
theorem dX8_carries_114 : decode cX8_carries 114 = .ok (.aload_n 0, 1) := by decide +kernel
theorem dX8_carries_115 : decode cX8_carries 115 = .ok (.getfield 43, 3) := by decide +kernel
theorem dX8_carries_118 : decode cX8_carries 118 = .ok (.iload_n 1, 1) := by decide +kernel
theorem dX8_carries_119 : decode cX8_carries 119 = .ok (.iconst 1, 1) := by decide +kernel
theorem dX8_carries_120 : decode cX8_carries 120 = .ok (.iadd, 1) := by decide +kernel
theorem dX8_carries_121 : decode cX8_carries 121 = .ok (.iaload, 1) := by decide +kernel
theorem dX8_carries_122 : decode cX8_carries 122 = .ok (.aload_n 0, 1) := by decide +kernel
theorem dX8_carries_123 : decode cX8_carries 123 = .ok (.getfield 43, 3) := by decide +kernel
theorem dX8_carries_126 : decode cX8_carries 126 = .ok (.iload_n 1, 1) := by decide +kernel
theorem dX8_carries_127 : decode cX8_carries 127 = .ok (.iconst 2, 1) := by decide +kernel
theorem dX8_carries_128 : decode cX8_carries 128 = .ok (.iadd, 1) := by decide +kernel
theorem dX8_carries_129 : decode cX8_carries 129 = .ok (.iaload, 1) := by decide +kernel
theorem dX8_carries_130 : decode cX8_carries 130 = .ok (.invokevirtual 186, 3) := by decide +kernel
theorem dX8_carries_133 : decode cX8_carries 133 = .ok (.ireturn, 1) := by decide +kernel
theorem dX8_carries_134 : decode cX8_carries 134 = .ok (.aload_n 0, 1) := by decide +kernel
theorem dX8_carries_135 : decode cX8_carries 135 = .ok (.aload_n 0, 1) := by decide +kernel
theorem dX8_carries_136 : decode cX8_carries 136 = .ok (.getfield 43, 3) := by decide +kernel
theorem dX8_carries_139 : decode cX8_carries 139 = .ok (.iload_n 1, 1) := by decide +kernel
theorem dX8_carries_140 : decode cX8_carries 140 = .ok (.iconst 1, 1) := by decide +kernel
theorem dX8_carries_141 : decode cX8_carries 141 = .ok (.iadd, 1) := by decide +kernel
theorem dX8_carries_142 : decode cX8_carries 142 = .ok (.iaload, 1) := by decide +kernel
theorem dX8_carries_143 : decode cX8_carries 143 = .ok (.aload_n 0, 1) := by decide +kernel
theorem dX8_carries_144 : decode cX8_carries 144 = .ok (.getfield 43, 3) := by decide +kernel
theorem dX8_carries_147 : decode cX8_carries 147 = .ok (.iload_n 1, 1) := by decide +kernel
theorem dX8_carries_148 : decode cX8_carries 148 = .ok (.iconst 2, 1) := by decide +kernel
theorem dX8_carries_149 : decode cX8_carries 149 = .ok (.iadd, 1) := by decide +kernel
theorem dX8_carries_150 : decode cX8_carries 150 = .ok (.iaload, 1) := by decide +kernel
theorem dX8_carries_151 : decode cX8_carries 151 = .ok (.invokevirtual 189, 3) := by decide +kernel
theorem dX8_carries_154 : decode cX8_carries 154 = .ok (.ireturn, 1) := by decide +kernel
theorem dX8_carries_155 : decode cX8_carries 155 = .ok (.aload_n 0, 1) := by decide +kernel
theorem dX8_carries_156 : decode cX8_carries 156 = .ok (.aload_n 0, 1) := by decide +kernel
theorem dX8_carries_157 : decode cX8_carries 157 = .ok (.getfield 43, 3) := by decide +kernel
theorem dX8_carries_160 : decode cX8_carries 160 = .ok (.iload_n 1, 1) := by decide +kernel
theorem dX8_carries_161 : decode cX8_carries 161 = .ok (.iconst 1, 1) := by decide +kernel
theorem dX8_carries_162 : decode cX8_carries 162 = .ok (.iadd, 1) := by decide +kernel
theorem dX8_carries_163 : decode cX8_carries 163 = .ok (.iaload, 1) := by decide +kernel
theorem dX8_carries_164 : decode cX8_carries 164 = .ok (.invokevirtual 192, 3) := by decide +kernel
theorem dX8_carries_167 : decode cX8_carries 167 = .ok (.ireturn, 1) := by decide +kernel
theorem dX8_carries_168 : decode cX8_carries 168 = .ok (.aload_n 0, 1) := by decide +kernel
theorem dX8_carries_169 : decode cX8_carries 169 = .ok (.aload_n 0, 1) := by decide +kernel
theorem dX8_carries_170 : decode cX8_carries 170 = .ok (.getfield 43, 3) := by decide +kernel
theorem dX8_carries_173 : decode cX8_carries 173 = .ok (.iload_n 1, 1) := by decide +kernel
theorem dX8_carries_174 : decode cX8_carries 174 = .ok (.iconst 1, 1) := by decide +kernel
theorem dX8_carries_175 : decode cX8_carries 175 = .ok (.iadd, 1) := by decide +kernel
theorem dX8_carries_176 : decode cX8_carries 176 = .ok (.iaload, 1) := by decide +kernel
theorem dX8_carries_177 : decode cX8_carries 177 = .ok (.aload_n 0, 1) := by decide +kernel
theorem dX8_carries_178 : decode cX8_carries 178 = .ok (.getfield 43, 3) := by decide +kernel
theorem dX8_carries_181 : decode cX8_carries 181 = .ok (.iload_n 1, 1) := by decide +kernel
theorem dX8_carries_182 : decode cX8_carries 182 = .ok (.iconst 2, 1) := by decide +kernel
theorem dX8_carries_183 : decode cX8_carries 183 = .ok (.iadd, 1) := by decide +kernel
theorem dX8_carries_184 : decode cX8_carries 184 = .ok (.iaload, 1) := by decide +kernel
theorem dX8_carries_185 : decode cX8_carries 185 = .ok (.iconst 1, 1) := by decide +kernel
theorem dX8_carries_186 : decode cX8_carries 186 = .ok (.invokevirtual 195, 3) := by decide +kernel
theorem dX8_carries_189 : decode cX8_carries 189 = .ok (.ireturn, 1) := by decide +kernel
theorem dX8_carries_190 : decode cX8_carries 190 = .ok (.aload_n 0, 1) := by decide +kernel
theorem dX8_carries_191 : decode cX8_carries 191 = .ok (.aload_n 0, 1) := by decide +kernel
theorem dX8_carries_192 : decode cX8_carries 192 = .ok (.getfield 43, 3) := by decide +kernel
theorem dX8_carries_195 : decode cX8_carries 195 = .ok (.iload_n 1, 1) := by decide +kernel
theorem dX8_carries_196 : decode cX8_carries 196 = .ok (.iconst 1, 1) := by decide +kernel
theorem dX8_carries_197 : decode cX8_carries 197 = .ok (.iadd, 1) := by decide +kernel
theorem dX8_carries_198 : decode cX8_carries 198 = .ok (.iaload, 1) := by decide +kernel
theorem dX8_carries_199 : decode cX8_carries 199 = .ok (.aload_n 0, 1) := by decide +kernel
theorem dX8_carries_200 : decode cX8_carries 200 = .ok (.getfield 43, 3) := by decide +kernel
theorem dX8_carries_203 : decode cX8_carries 203 = .ok (.iload_n 1, 1) := by decide +kernel
theorem dX8_carries_204 : decode cX8_carries 204 = .ok (.iconst 2, 1) := by decide +kernel
theorem dX8_carries_205 : decode cX8_carries 205 = .ok (.iadd, 1) := by decide +kernel
theorem dX8_carries_206 : decode cX8_carries 206 = .ok (.iaload, 1) := by decide +kernel
theorem dX8_carries_207 : decode cX8_carries 207 = .ok (.iconst 0, 1) := by decide +kernel
theorem dX8_carries_208 : decode cX8_carries 208 = .ok (.invokevirtual 195, 3) := by decide +kernel
theorem dX8_carries_211 : decode cX8_carries 211 = .ok (.ireturn, 1) := by decide +kernel
theorem dX8_carries_212 : decode cX8_carries 212 = .ok (.aload_n 0, 1) := by decide +kernel
theorem dX8_carries_213 : decode cX8_carries 213 = .ok (.aload_n 0, 1) := by decide +kernel
theorem dX8_carries_214 : decode cX8_carries 214 = .ok (.getfield 43, 3) := by decide +kernel
theorem dX8_carries_217 : decode cX8_carries 217 = .ok (.iload_n 1, 1) := by decide +kernel
theorem dX8_carries_218 : decode cX8_carries 218 = .ok (.iconst 1, 1) := by decide +kernel
theorem dX8_carries_219 : decode cX8_carries 219 = .ok (.iadd, 1) := by decide +kernel
theorem dX8_carries_220 : decode cX8_carries 220 = .ok (.iaload, 1) := by decide +kernel
theorem dX8_carries_221 : decode cX8_carries 221 = .ok (.aload_n 0, 1) := by decide +kernel
theorem dX8_carries_222 : decode cX8_carries 222 = .ok (.getfield 43, 3) := by decide +kernel
theorem dX8_carries_225 : decode cX8_carries 225 = .ok (.iload_n 1, 1) := by decide +kernel
theorem dX8_carries_226 : decode cX8_carries 226 = .ok (.iconst 2, 1) := by decide +kernel
theorem dX8_carries_227 : decode cX8_carries 227 = .ok (.iadd, 1) := by decide +kernel
theorem dX8_carries_228 : decode cX8_carries 228 = .ok (.iaload, 1) := by decide +kernel
theorem dX8_carries_229 : decode cX8_carries 229 = .ok (.invokevirtual 199, 3) := by decide +kernel
theorem dX8_carries_232 : decode cX8_carries 232 = .ok (.ireturn, 1) := by decide +kernel
theorem dX8_carries_233 : decode cX8_carries 233 = .ok (.aload_n 0, 1) := by decide +kernel
theorem dX8_carries_234 : decode cX8_carries 234 = .ok (.aload_n 0, 1) := by decide +kernel
theorem dX8_carries_235 : decode cX8_carries 235 = .ok (.getfield 43, 3) := by decide +kernel
theorem dX8_carries_238 : decode cX8_carries 238 = .ok (.iload_n 1, 1) := by decide +kernel
theorem dX8_carries_239 : decode cX8_carries 239 = .ok (.iconst 1, 1) := by decide +kernel
theorem dX8_carries_240 : decode cX8_carries 240 = .ok (.iadd, 1) := by decide +kernel
theorem dX8_carries_241 : decode cX8_carries 241 = .ok (.iaload, 1) := by decide +kernel
theorem dX8_carries_242 : decode cX8_carries 242 = .ok (.invokevirtual 202, 3) := by decide +kernel
theorem dX8_carries_245 : decode cX8_carries 245 = .ok (.ireturn, 1) := by decide +kernel
theorem dX8_carries_246 : decode cX8_carries 246 = .ok (.aload_n 0, 1) := by decide +kernel
theorem dX8_carries_247 : decode cX8_carries 247 = .ok (.aload_n 0, 1) := by decide +kernel
theorem dX8_carries_248 : decode cX8_carries 248 = .ok (.getfield 43, 3) := by decide +kernel
theorem dX8_carries_251 : decode cX8_carries 251 = .ok (.iload_n 1, 1) := by decide +kernel
theorem dX8_carries_252 : decode cX8_carries 252 = .ok (.iconst 1, 1) := by decide +kernel
theorem dX8_carries_253 : decode cX8_carries 253 = .ok (.iadd, 1) := by decide +kernel
theorem dX8_carries_254 : decode cX8_carries 254 = .ok (.iaload, 1) := by decide +kernel
theorem dX8_carries_255 : decode cX8_carries 255 = .ok (.invokevirtual 205, 3) := by decide +kernel
theorem dX8_carries_258 : decode cX8_carries 258 = .ok (.ireturn, 1) := by decide +kernel
set_option maxRecDepth 20000 in
theorem ggX8_commands_X8_isText : GoodIn wsX8_commands wsX8_isText := goodIn_ca (goodIn_r _ [14, 1, 8, 3, 15, 16, 17, 13, 18, 19, 20, 21, 22, 23, 24, 25, 26, 27, 28, 29, 30, 31, 32, 33, 34, 35, 154, 155, 156, 157, 158, 159, 160, 161, 162, 163, 164, 165, 166, 167, 168, 169, 170, 171, 172, 173, 174, 175, 176, 177] (by decide +kernel) (by decide +kernel)) (goodIn_sub (fun _ h => List.mem_cons_of_mem _ (List.mem_append_right _ h)) (by decide +kernel))
set_option maxRecDepth 20000 in
theorem gX8_commands_X8_isText : GoodIn wsX8_commands (wsV RX8 208 RX8 yX8_isText wsX8_isText) := goodIn_app (goodIn_of _ (by decide +kernel)) ggX8_commands_X8_isText
set_option maxRecDepth 20000 in
theorem ggX8_commands_X8_fails : GoodIn wsX8_commands wsX8_fails := goodIn_r _ [39, 9, 154, 155, 156, 157, 158, 159, 160, 161, 162, 163, 164, 165, 166, 167, 168, 169, 170, 171, 172, 173, 174, 175, 176, 177] (by decide +kernel) (by decide +kernel)
set_option maxRecDepth 20000 in
theorem gX8_commands_X8_fails : GoodIn wsX8_commands (wsV RX8 138 RX8 yX8_fails wsX8_fails) := goodIn_app (goodIn_of _ (by decide +kernel)) ggX8_commands_X8_fails
set_option maxRecDepth 20000 in
theorem ggX8_commands_X8_copies : GoodIn wsX8_commands wsX8_copies := goodIn_ca (goodIn_r _ [42] (by decide +kernel) (by decide +kernel)) (goodIn_sub (fun _ h => List.mem_cons_of_mem _ (List.mem_append_right _ h)) (by decide +kernel))
set_option maxRecDepth 20000 in
theorem gX8_commands_X8_copies : GoodIn wsX8_commands (va_wsS RX8 68 yX8_copies wsX8_copies) := goodIn_app (goodIn_of _ (by decide +kernel)) ggX8_commands_X8_copies
set_option maxRecDepth 20000 in
theorem ggX8_commands_X8_carries : GoodIn wsX8_commands wsX8_carries := goodIn_ca (goodIn_r _ [46, 19, 47, 48, 49, 13, 50, 4, 51, 52, 53, 54, 55, 56, 57, 58, 59, 60, 61, 62, 63, 64, 65, 66, 67, 68, 69, 70, 71, 72, 73, 74, 75, 76, 77, 78, 79, 80, 81, 82, 83, 9, 84, 85, 6, 7, 86, 87, 88, 89, 90, 91, 92, 40, 41, 42, 93, 94, 95, 96, 97, 98, 99, 100, 101, 102, 103, 104, 105, 106, 107, 108, 109, 33, 34, 35, 110, 111, 112, 113, 114, 115, 116, 117, 118, 119, 120, 121, 122, 123, 124, 125, 126, 127, 128, 129, 130, 131, 132, 133, 134, 135, 136, 137, 138, 139, 140, 141, 142, 143, 144, 145, 146, 147, 148, 149, 150, 151, 152, 153, 154, 155, 156, 157, 158, 159, 160, 161, 162, 163, 164, 165, 166, 167, 168, 169, 170, 171, 172, 173, 174, 175, 176, 177] (by decide +kernel) (by decide +kernel)) (goodIn_sub (fun _ h => List.mem_cons_of_mem _ (List.mem_append_right _ h)) (by decide +kernel))
set_option maxRecDepth 20000 in
theorem gX8_commands_X8_carries : GoodIn wsX8_commands (wsV RX8 211 RX8 yX8_carries wsX8_carries) := goodIn_app (goodIn_of _ (by decide +kernel)) ggX8_commands_X8_carries
set_option maxRecDepth 20000 in
theorem ggX8_commands_X8_keeps : GoodIn wsX8_commands wsX8_keeps := goodIn_ca (goodIn_r _ [90, 9, 6, 91, 92, 40, 41, 13, 42, 154, 155, 156, 157, 158, 159, 160, 161, 162, 163, 164, 165, 166, 167, 168, 169, 170, 171, 172, 173, 174, 175, 176, 177] (by decide +kernel) (by decide +kernel)) (goodIn_sub (fun _ h => List.mem_cons_of_mem _ (List.mem_append_right _ h)) (by decide +kernel))
set_option maxRecDepth 20000 in
theorem gX8_commands_X8_keeps : GoodIn wsX8_commands (wsV RX8 101 RX8 yX8_keeps wsX8_keeps) := goodIn_app (goodIn_of _ (by decide +kernel)) ggX8_commands_X8_keeps
theorem dX8_commands_0 : decode cX8_commands 0 = .ok (.aload_n 0, 1) := by decide +kernel
theorem dX8_commands_1 : decode cX8_commands 1 = .ok (.invokevirtual 208, 3) := by decide +kernel
theorem dX8_commands_4 : decode cX8_commands 4 = .ok (.istore_n 1, 1) := by decide +kernel
theorem dX8_commands_5 : decode cX8_commands 5 = .ok (.aload_n 0, 1) := by decide +kernel
theorem dX8_commands_6 : decode cX8_commands 6 = .ok (.iload_n 1, 1) := by decide +kernel
theorem dX8_commands_7 : decode cX8_commands 7 = .ok (.ifCond .eq 7, 3) := by decide +kernel
theorem dX8_commands_10 : decode cX8_commands 10 = .ok (.iconst (-1), 1) := by decide +kernel
theorem dX8_commands_11 : decode cX8_commands 11 = .ok (.goto 7, 3) := by decide +kernel
theorem dX8_commands_14 : decode cX8_commands 14 = .ok (.aload_n 0, 1) := by decide +kernel
theorem dX8_commands_15 : decode cX8_commands 15 = .ok (.getfield 165, 3) := by decide +kernel
theorem dX8_commands_18 : decode cX8_commands 18 = .ok (.putfield 28, 3) := by decide +kernel
theorem dX8_commands_21 : decode cX8_commands 21 = .ok (.aload_n 0, 1) := by decide +kernel
theorem dX8_commands_22 : decode cX8_commands 22 = .ok (.iconst 0, 1) := by decide +kernel
theorem dX8_commands_23 : decode cX8_commands 23 = .ok (.putfield 162, 3) := by decide +kernel
theorem dX8_commands_26 : decode cX8_commands 26 = .ok (.aload_n 0, 1) := by decide +kernel
theorem dX8_commands_27 : decode cX8_commands 27 = .ok (.iload_n 1, 1) := by decide +kernel
theorem dX8_commands_28 : decode cX8_commands 28 = .ok (.ifCond .eq 7, 3) := by decide +kernel
theorem dX8_commands_31 : decode cX8_commands 31 = .ok (.iconst 0, 1) := by decide +kernel
theorem dX8_commands_32 : decode cX8_commands 32 = .ok (.goto 4, 3) := by decide +kernel
theorem dX8_commands_35 : decode cX8_commands 35 = .ok (.iconst 1, 1) := by decide +kernel
theorem dX8_commands_36 : decode cX8_commands 36 = .ok (.invokevirtual 138, 3) := by decide +kernel
theorem dX8_commands_39 : decode cX8_commands 39 = .ok (.ifCond .eq 5, 3) := by decide +kernel
theorem dX8_commands_42 : decode cX8_commands 42 = .ok (.iconst 0, 1) := by decide +kernel
theorem dX8_commands_43 : decode cX8_commands 43 = .ok (.ireturn, 1) := by decide +kernel
theorem dX8_commands_44 : decode cX8_commands 44 = .ok (.aload_n 0, 1) := by decide +kernel
theorem dX8_commands_45 : decode cX8_commands 45 = .ok (.getfield 7, 3) := by decide +kernel
theorem dX8_commands_48 : decode cX8_commands 48 = .ok (.iconst 0, 1) := by decide +kernel
theorem dX8_commands_49 : decode cX8_commands 49 = .ok (.aload_n 0, 1) := by decide +kernel
theorem dX8_commands_50 : decode cX8_commands 50 = .ok (.getfield 19, 3) := by decide +kernel
theorem dX8_commands_53 : decode cX8_commands 53 = .ok (.iconst 0, 1) := by decide +kernel
theorem dX8_commands_54 : decode cX8_commands 54 = .ok (.invokestatic 68, 3) := by decide +kernel
theorem dX8_commands_57 : decode cX8_commands 57 = .ok (.aload_n 0, 1) := by decide +kernel
theorem dX8_commands_58 : decode cX8_commands 58 = .ok (.iconst 1, 1) := by decide +kernel
theorem dX8_commands_59 : decode cX8_commands 59 = .ok (.putfield 55, 3) := by decide +kernel
theorem dX8_commands_62 : decode cX8_commands 62 = .ok (.aload_n 0, 1) := by decide +kernel
theorem dX8_commands_63 : decode cX8_commands 63 = .ok (.iconst 0, 1) := by decide +kernel
theorem dX8_commands_64 : decode cX8_commands 64 = .ok (.putfield 59, 3) := by decide +kernel
theorem dX8_commands_67 : decode cX8_commands 67 = .ok (.iconst 0, 1) := by decide +kernel
theorem dX8_commands_68 : decode cX8_commands 68 = .ok (.istore_n 2, 1) := by decide +kernel
theorem dX8_commands_69 : decode cX8_commands 69 = .ok (.aload_n 0, 1) := by decide +kernel
theorem dX8_commands_70 : decode cX8_commands 70 = .ok (.getfield 59, 3) := by decide +kernel
theorem dX8_commands_73 : decode cX8_commands 73 = .ok (.aload_n 0, 1) := by decide +kernel
theorem dX8_commands_74 : decode cX8_commands 74 = .ok (.getfield 171, 3) := by decide +kernel
theorem dX8_commands_77 : decode cX8_commands 77 = .ok (.if_icmp .ge 41, 3) := by decide +kernel
theorem dX8_commands_80 : decode cX8_commands 80 = .ok (.aload_n 0, 1) := by decide +kernel
theorem dX8_commands_81 : decode cX8_commands 81 = .ok (.getfield 46, 3) := by decide +kernel
theorem dX8_commands_84 : decode cX8_commands 84 = .ok (.ifCond .ne 34, 3) := by decide +kernel
theorem dX8_commands_87 : decode cX8_commands 87 = .ok (.aload_n 0, 1) := by decide +kernel
theorem dX8_commands_88 : decode cX8_commands 88 = .ok (.iconst 4, 1) := by decide +kernel
theorem dX8_commands_89 : decode cX8_commands 89 = .ok (.aload_n 0, 1) := by decide +kernel
theorem dX8_commands_90 : decode cX8_commands 90 = .ok (.getfield 59, 3) := by decide +kernel
theorem dX8_commands_93 : decode cX8_commands 93 = .ok (.imul, 1) := by decide +kernel
theorem dX8_commands_94 : decode cX8_commands 94 = .ok (.invokevirtual 211, 3) := by decide +kernel
theorem dX8_commands_97 : decode cX8_commands 97 = .ok (.istore_n 2, 1) := by decide +kernel
theorem dX8_commands_98 : decode cX8_commands 98 = .ok (.aload_n 0, 1) := by decide +kernel
theorem dX8_commands_99 : decode cX8_commands 99 = .ok (.getfield 46, 3) := by decide +kernel
theorem dX8_commands_102 : decode cX8_commands 102 = .ok (.ifCond .ne (-33), 3) := by decide +kernel
theorem dX8_commands_105 : decode cX8_commands 105 = .ok (.aload_n 0, 1) := by decide +kernel
theorem dX8_commands_106 : decode cX8_commands 106 = .ok (.dup, 1) := by decide +kernel
theorem dX8_commands_107 : decode cX8_commands 107 = .ok (.getfield 59, 3) := by decide +kernel
theorem dX8_commands_110 : decode cX8_commands 110 = .ok (.iconst 1, 1) := by decide +kernel
theorem dX8_commands_111 : decode cX8_commands 111 = .ok (.iadd, 1) := by decide +kernel
theorem dX8_commands_112 : decode cX8_commands 112 = .ok (.putfield 59, 3) := by decide +kernel
theorem dX8_commands_115 : decode cX8_commands 115 = .ok (.goto (-46), 3) := by decide +kernel
theorem dX8_commands_118 : decode cX8_commands 118 = .ok (.aload_n 0, 1) := by decide +kernel
theorem dX8_commands_119 : decode cX8_commands 119 = .ok (.iconst 0, 1) := by decide +kernel
theorem dX8_commands_120 : decode cX8_commands 120 = .ok (.putfield 55, 3) := by decide +kernel
theorem dX8_commands_123 : decode cX8_commands 123 = .ok (.aload_n 0, 1) := by decide +kernel
theorem dX8_commands_124 : decode cX8_commands 124 = .ok (.getfield 46, 3) := by decide +kernel
theorem dX8_commands_127 : decode cX8_commands 127 = .ok (.ifCond .le 31, 3) := by decide +kernel
theorem dX8_commands_130 : decode cX8_commands 130 = .ok (.aload_n 0, 1) := by decide +kernel
theorem dX8_commands_131 : decode cX8_commands 131 = .ok (.getfield 19, 3) := by decide +kernel
theorem dX8_commands_134 : decode cX8_commands 134 = .ok (.iconst 0, 1) := by decide +kernel
theorem dX8_commands_135 : decode cX8_commands 135 = .ok (.aload_n 0, 1) := by decide +kernel
theorem dX8_commands_136 : decode cX8_commands 136 = .ok (.getfield 7, 3) := by decide +kernel
theorem dX8_commands_139 : decode cX8_commands 139 = .ok (.iconst 0, 1) := by decide +kernel
theorem dX8_commands_140 : decode cX8_commands 140 = .ok (.invokestatic 68, 3) := by decide +kernel
theorem dX8_commands_143 : decode cX8_commands 143 = .ok (.aload_n 0, 1) := by decide +kernel
theorem dX8_commands_144 : decode cX8_commands 144 = .ok (.iconst 2, 1) := by decide +kernel
theorem dX8_commands_145 : decode cX8_commands 145 = .ok (.putfield 46, 3) := by decide +kernel
theorem dX8_commands_148 : decode cX8_commands 148 = .ok (.iload_n 2, 1) := by decide +kernel
theorem dX8_commands_149 : decode cX8_commands 149 = .ok (.ifCond .le 7, 3) := by decide +kernel
theorem dX8_commands_152 : decode cX8_commands 152 = .ok (.iconst 0, 1) := by decide +kernel
theorem dX8_commands_153 : decode cX8_commands 153 = .ok (.goto 4, 3) := by decide +kernel
theorem dX8_commands_156 : decode cX8_commands 156 = .ok (.iload_n 2, 1) := by decide +kernel
theorem dX8_commands_157 : decode cX8_commands 157 = .ok (.ireturn, 1) := by decide +kernel
theorem dX8_commands_158 : decode cX8_commands 158 = .ok (.aload_n 0, 1) := by decide +kernel
theorem dX8_commands_159 : decode cX8_commands 159 = .ok (.aload_n 0, 1) := by decide +kernel
theorem dX8_commands_160 : decode cX8_commands 160 = .ok (.getfield 19, 3) := by decide +kernel
theorem dX8_commands_163 : decode cX8_commands 163 = .ok (.invokevirtual 101, 3) := by decide +kernel
theorem dX8_commands_166 : decode cX8_commands 166 = .ok (.aload_n 0, 1) := by decide +kernel
theorem dX8_commands_167 : decode cX8_commands 167 = .ok (.getfield 171, 3) := by decide +kernel
theorem dX8_commands_170 : decode cX8_commands 170 = .ok (.ireturn, 1) := by decide +kernel
theorem dX8_faultPosition_0 : decode cX8_faultPosition 0 = .ok (.aload_n 0, 1) := by decide +kernel
theorem dX8_faultPosition_1 : decode cX8_faultPosition 1 = .ok (.iconst 0, 1) := by decide +kernel
theorem dX8_faultPosition_2 : decode cX8_faultPosition 2 = .ok (.putfield 46, 3) := by decide +kernel
theorem dX8_faultPosition_5 : decode cX8_faultPosition 5 = .ok (.aload_n 0, 1) := by decide +kernel
theorem dX8_faultPosition_6 : decode cX8_faultPosition 6 = .ok (.getfield 28, 3) := by decide +kernel
theorem dX8_faultPosition_9 : decode cX8_faultPosition 9 = .ok (.ireturn, 1) := by decide +kernel
set_option maxRecDepth 20000 in
theorem ggX8_reason_X8_in : GoodIn wsX8_reason wsX8_in := goodIn_r _ [7] (by decide +kernel) (by decide +kernel)
set_option maxRecDepth 20000 in
theorem gX8_reason_X8_in : GoodIn wsX8_reason (va_wsS RX8 72 yX8_in wsX8_in) := goodIn_app (goodIn_of _ (by decide +kernel)) ggX8_reason_X8_in
set_option maxRecDepth 20000 in
theorem ggX8_reason_X8_fails : GoodIn wsX8_reason wsX8_fails := goodIn_r _ [11, 12, 13, 14, 15, 16, 17, 18, 19, 20, 21, 22, 23, 24, 25, 26, 27, 28, 29, 30, 31, 32, 33, 34, 35, 36] (by decide +kernel) (by decide +kernel)
set_option maxRecDepth 20000 in
theorem gX8_reason_X8_fails : GoodIn wsX8_reason (wsV RX8 138 RX8 yX8_fails wsX8_fails) := goodIn_app (goodIn_of _ (by decide +kernel)) ggX8_reason_X8_fails
theorem dX8_reason_0 : decode cX8_reason 0 = .ok (.aload_n 0, 1) := by decide +kernel
theorem dX8_reason_1 : decode cX8_reason 1 = .ok (.iload_n 1, 1) := by decide +kernel
theorem dX8_reason_2 : decode cX8_reason 2 = .ok (.iconst 0, 1) := by decide +kernel
theorem dX8_reason_3 : decode cX8_reason 3 = .ok (.iconst 2, 1) := by decide +kernel
theorem dX8_reason_4 : decode cX8_reason 4 = .ok (.invokestatic 72, 3) := by decide +kernel
theorem dX8_reason_7 : decode cX8_reason 7 = .ok (.ifCond .ne 7, 3) := by decide +kernel
theorem dX8_reason_10 : decode cX8_reason 10 = .ok (.iconst 1, 1) := by decide +kernel
theorem dX8_reason_11 : decode cX8_reason 11 = .ok (.goto 15, 3) := by decide +kernel
theorem dX8_reason_14 : decode cX8_reason 14 = .ok (.aload_n 0, 1) := by decide +kernel
theorem dX8_reason_15 : decode cX8_reason 15 = .ok (.getfield 49, 3) := by decide +kernel
theorem dX8_reason_18 : decode cX8_reason 18 = .ok (.ifCond .ne 7, 3) := by decide +kernel
theorem dX8_reason_21 : decode cX8_reason 21 = .ok (.iconst 2, 1) := by decide +kernel
theorem dX8_reason_22 : decode cX8_reason 22 = .ok (.goto 4, 3) := by decide +kernel
theorem dX8_reason_25 : decode cX8_reason 25 = .ok (.iconst 0, 1) := by decide +kernel
theorem dX8_reason_26 : decode cX8_reason 26 = .ok (.invokevirtual 138, 3) := by decide +kernel
theorem dX8_reason_29 : decode cX8_reason 29 = .ok (.ifCond .eq 7, 3) := by decide +kernel
theorem dX8_reason_32 : decode cX8_reason 32 = .ok (.iconst 0, 1) := by decide +kernel
theorem dX8_reason_33 : decode cX8_reason 33 = .ok (.goto 30, 3) := by decide +kernel
theorem dX8_reason_36 : decode cX8_reason 36 = .ok (.iload_n 1, 1) := by decide +kernel
theorem dX8_reason_37 : decode cX8_reason 37 = .ok (.ifCond .ne 10, 3) := by decide +kernel
theorem dX8_reason_40 : decode cX8_reason 40 = .ok (.aload_n 0, 1) := by decide +kernel
theorem dX8_reason_41 : decode cX8_reason 41 = .ok (.getfield 49, 3) := by decide +kernel
theorem dX8_reason_44 : decode cX8_reason 44 = .ok (.goto 19, 3) := by decide +kernel
theorem dX8_reason_47 : decode cX8_reason 47 = .ok (.iload_n 1, 1) := by decide +kernel
theorem dX8_reason_48 : decode cX8_reason 48 = .ok (.iconst 1, 1) := by decide +kernel
theorem dX8_reason_49 : decode cX8_reason 49 = .ok (.if_icmp .ne 10, 3) := by decide +kernel
theorem dX8_reason_52 : decode cX8_reason 52 = .ok (.aload_n 0, 1) := by decide +kernel
theorem dX8_reason_53 : decode cX8_reason 53 = .ok (.getfield 52, 3) := by decide +kernel
theorem dX8_reason_56 : decode cX8_reason 56 = .ok (.goto 7, 3) := by decide +kernel
theorem dX8_reason_59 : decode cX8_reason 59 = .ok (.aload_n 0, 1) := by decide +kernel
theorem dX8_reason_60 : decode cX8_reason 60 = .ok (.getfield 62, 3) := by decide +kernel
theorem dX8_reason_63 : decode cX8_reason 63 = .ok (.ireturn, 1) := by decide +kernel
theorem dX8_writes_0 : decode cX8_writes 0 = .ok (.aload_n 0, 1) := by decide +kernel
theorem dX8_writes_1 : decode cX8_writes 1 = .ok (.getfield 32, 3) := by decide +kernel
theorem dX8_writes_4 : decode cX8_writes 4 = .ok (.aload_n 0, 1) := by decide +kernel
theorem dX8_writes_5 : decode cX8_writes 5 = .ok (.getfield 214, 3) := by decide +kernel
theorem dX8_writes_8 : decode cX8_writes 8 = .ok (.iload_n 1, 1) := by decide +kernel
theorem dX8_writes_9 : decode cX8_writes 9 = .ok (.i2c, 1) := by decide +kernel
theorem dX8_writes_10 : decode cX8_writes 10 = .ok (.castore, 1) := by decide +kernel
theorem dX8_writes_11 : decode cX8_writes 11 = .ok (.aload_n 0, 1) := by decide +kernel
theorem dX8_writes_12 : decode cX8_writes 12 = .ok (.dup, 1) := by decide +kernel
theorem dX8_writes_13 : decode cX8_writes 13 = .ok (.getfield 214, 3) := by decide +kernel
theorem dX8_writes_16 : decode cX8_writes 16 = .ok (.iconst 1, 1) := by decide +kernel
theorem dX8_writes_17 : decode cX8_writes 17 = .ok (.iadd, 1) := by decide +kernel
theorem dX8_writes_18 : decode cX8_writes 18 = .ok (.putfield 214, 3) := by decide +kernel
theorem dX8_writes_21 : decode cX8_writes 21 = .ok (.return_, 1) := by decide +kernel
set_option maxRecDepth 20000 in
theorem ggX8_writesNumber_X8_writes : GoodIn wsX8_writesNumber wsX8_writes := goodIn_ca (goodIn_r _ [5, 6, 7, 8, 9, 10, 11, 12, 13, 14, 15, 16, 17, 18, 19, 20, 21, 22, 23, 24, 25, 26, 27, 28, 29, 30, 31] (by decide +kernel) (by decide +kernel)) (goodIn_sub (fun _ h => List.mem_cons_of_mem _ (List.mem_append_right _ h)) (by decide +kernel))
set_option maxRecDepth 20000 in
theorem gX8_writesNumber_X8_writes : GoodIn wsX8_writesNumber (wsV RX8 217 RX8 yX8_writes wsX8_writes) := goodIn_app (goodIn_of _ (by decide +kernel)) ggX8_writesNumber_X8_writes
theorem dX8_writesNumber_0 : decode cX8_writesNumber 0 = .ok (.iload_n 1, 1) := by decide +kernel
theorem dX8_writesNumber_1 : decode cX8_writesNumber 1 = .ok (.bipush 9, 2) := by decide +kernel
theorem dX8_writesNumber_3 : decode cX8_writesNumber 3 = .ok (.if_icmp .le 14, 3) := by decide +kernel
theorem dX8_writesNumber_6 : decode cX8_writesNumber 6 = .ok (.aload_n 0, 1) := by decide +kernel
theorem dX8_writesNumber_7 : decode cX8_writesNumber 7 = .ok (.bipush 48, 2) := by decide +kernel
theorem dX8_writesNumber_9 : decode cX8_writesNumber 9 = .ok (.iload_n 1, 1) := by decide +kernel
theorem dX8_writesNumber_10 : decode cX8_writesNumber 10 = .ok (.bipush 10, 2) := by decide +kernel
theorem dX8_writesNumber_12 : decode cX8_writesNumber 12 = .ok (.idiv, 1) := by decide +kernel
theorem dX8_writesNumber_13 : decode cX8_writesNumber 13 = .ok (.iadd, 1) := by decide +kernel
theorem dX8_writesNumber_14 : decode cX8_writesNumber 14 = .ok (.invokevirtual 217, 3) := by decide +kernel
theorem dX8_writesNumber_17 : decode cX8_writesNumber 17 = .ok (.aload_n 0, 1) := by decide +kernel
theorem dX8_writesNumber_18 : decode cX8_writesNumber 18 = .ok (.bipush 48, 2) := by decide +kernel
theorem dX8_writesNumber_20 : decode cX8_writesNumber 20 = .ok (.iload_n 1, 1) := by decide +kernel
theorem dX8_writesNumber_21 : decode cX8_writesNumber 21 = .ok (.bipush 10, 2) := by decide +kernel
theorem dX8_writesNumber_23 : decode cX8_writesNumber 23 = .ok (.irem, 1) := by decide +kernel
theorem dX8_writesNumber_24 : decode cX8_writesNumber 24 = .ok (.iadd, 1) := by decide +kernel
theorem dX8_writesNumber_25 : decode cX8_writesNumber 25 = .ok (.invokevirtual 217, 3) := by decide +kernel
theorem dX8_writesNumber_28 : decode cX8_writesNumber 28 = .ok (.return_, 1) := by decide +kernel
set_option maxRecDepth 20000 in
theorem ggX8_line_X8_writes : GoodIn wsX8_line wsX8_writes := goodIn_ca (goodIn_r _ [8, 9, 2, 22, 23, 24, 25, 26, 27, 28, 29, 30, 31, 32, 33, 34, 35, 36, 37, 38, 39, 40, 41, 42, 43, 44, 45] (by decide +kernel) (by decide +kernel)) (goodIn_sub (fun _ h => List.mem_cons_of_mem _ (List.mem_append_right _ h)) (by decide +kernel))
set_option maxRecDepth 20000 in
theorem gX8_line_X8_writes : GoodIn wsX8_line (wsV RX8 217 RX8 yX8_writes wsX8_writes) := goodIn_app (goodIn_of _ (by decide +kernel)) ggX8_line_X8_writes
set_option maxRecDepth 20000 in
theorem ggX8_line_X8_writesNumber : GoodIn wsX8_line wsX8_writesNumber := goodIn_ca (goodIn_r _ [13, 4, 5, 6, 7, 8, 9, 2, 22, 23, 24, 25, 26, 27, 28, 29, 30, 31, 32, 33, 34, 35, 36, 37, 38, 39, 40, 41, 42, 43, 44, 45] (by decide +kernel) (by decide +kernel)) (goodIn_sub (fun _ h => List.mem_cons_of_mem _ (List.mem_append_right _ h)) (by decide +kernel))
set_option maxRecDepth 20000 in
theorem gX8_line_X8_writesNumber : GoodIn wsX8_line (wsV RX8 221 RX8 yX8_writesNumber wsX8_writesNumber) := goodIn_app (goodIn_of _ (by decide +kernel)) ggX8_line_X8_writesNumber
set_option maxRecDepth 20000 in
theorem ggX8_line_X8_ofLock : GoodIn wsX8_line wsX8_ofLock := goodIn_ca (goodIn_r _ [17, 3, 22, 23, 24, 25, 26, 27, 28, 29, 30, 31, 32, 33, 34, 35, 36, 37, 38, 39, 40, 41, 42, 43, 44, 45] (by decide +kernel) (by decide +kernel)) (goodIn_sub (fun _ h => List.mem_cons_of_mem _ (List.mem_append_right _ h)) (by decide +kernel))
set_option maxRecDepth 20000 in
theorem gX8_line_X8_ofLock : GoodIn wsX8_line (wsV RX8 76 RX8 yX8_ofLock wsX8_ofLock) := goodIn_app (goodIn_of _ (by decide +kernel)) ggX8_line_X8_ofLock
set_option maxRecDepth 20000 in
theorem ggX8_line_X8_ofKey : GoodIn wsX8_line wsX8_ofKey := goodIn_ca (goodIn_r _ [21, 3, 22, 23, 24, 25, 26, 27, 28, 29, 30, 31, 32, 33, 34, 35, 36, 37, 38, 39, 40, 41, 42, 43, 44, 45] (by decide +kernel) (by decide +kernel)) (goodIn_sub (fun _ h => List.mem_cons_of_mem _ (List.mem_append_right _ h)) (by decide +kernel))
set_option maxRecDepth 20000 in
theorem gX8_line_X8_ofKey : GoodIn wsX8_line (wsV RX8 80 RX8 yX8_ofKey wsX8_ofKey) := goodIn_app (goodIn_of _ (by decide +kernel)) ggX8_line_X8_ofKey
theorem dX8_line_0 : decode cX8_line 0 = .ok (.aload_n 0, 1) := by decide +kernel
theorem dX8_line_1 : decode cX8_line 1 = .ok (.iconst 0, 1) := by decide +kernel
theorem dX8_line_2 : decode cX8_line 2 = .ok (.putfield 46, 3) := by decide +kernel
theorem dX8_line_5 : decode cX8_line 5 = .ok (.aload_n 0, 1) := by decide +kernel
theorem dX8_line_6 : decode cX8_line 6 = .ok (.iconst 0, 1) := by decide +kernel
theorem dX8_line_7 : decode cX8_line 7 = .ok (.putfield 214, 3) := by decide +kernel
theorem dX8_line_10 : decode cX8_line 10 = .ok (.iconst 0, 1) := by decide +kernel
theorem dX8_line_11 : decode cX8_line 11 = .ok (.istore_n 2, 1) := by decide +kernel
theorem dX8_line_12 : decode cX8_line 12 = .ok (.iload_n 2, 1) := by decide +kernel
theorem dX8_line_13 : decode cX8_line 13 = .ok (.aload_n 0, 1) := by decide +kernel
theorem dX8_line_14 : decode cX8_line 14 = .ok (.getfield 7, 3) := by decide +kernel
theorem dX8_line_17 : decode cX8_line 17 = .ok (.iload_n 1, 1) := by decide +kernel
theorem dX8_line_18 : decode cX8_line 18 = .ok (.ifCond .eq 7, 3) := by decide +kernel
theorem dX8_line_21 : decode cX8_line 21 = .ok (.iconst 1, 1) := by decide +kernel
theorem dX8_line_22 : decode cX8_line 22 = .ok (.goto 4, 3) := by decide +kernel
theorem dX8_line_25 : decode cX8_line 25 = .ok (.iconst 0, 1) := by decide +kernel
theorem dX8_line_26 : decode cX8_line 26 = .ok (.iaload, 1) := by decide +kernel
theorem dX8_line_27 : decode cX8_line 27 = .ok (.if_icmp .ge 91, 3) := by decide +kernel
theorem dX8_line_30 : decode cX8_line 30 = .ok (.iload_n 2, 1) := by decide +kernel
theorem dX8_line_31 : decode cX8_line 31 = .ok (.ifCond .le 9, 3) := by decide +kernel
theorem dX8_line_34 : decode cX8_line 34 = .ok (.aload_n 0, 1) := by decide +kernel
theorem dX8_line_35 : decode cX8_line 35 = .ok (.bipush 32, 2) := by decide +kernel
theorem dX8_line_37 : decode cX8_line 37 = .ok (.invokevirtual 217, 3) := by decide +kernel
theorem dX8_line_40 : decode cX8_line 40 = .ok (.aload_n 0, 1) := by decide +kernel
theorem dX8_line_41 : decode cX8_line 41 = .ok (.iload_n 2, 1) := by decide +kernel
theorem dX8_line_42 : decode cX8_line 42 = .ok (.invokevirtual 221, 3) := by decide +kernel
theorem dX8_line_45 : decode cX8_line 45 = .ok (.aload_n 0, 1) := by decide +kernel
theorem dX8_line_46 : decode cX8_line 46 = .ok (.bipush 35, 2) := by decide +kernel
theorem dX8_line_48 : decode cX8_line 48 = .ok (.invokevirtual 217, 3) := by decide +kernel
theorem dX8_line_51 : decode cX8_line 51 = .ok (.aload_n 0, 1) := by decide +kernel
theorem dX8_line_52 : decode cX8_line 52 = .ok (.iload_n 1, 1) := by decide +kernel
theorem dX8_line_53 : decode cX8_line 53 = .ok (.ifCond .eq 12, 3) := by decide +kernel
theorem dX8_line_56 : decode cX8_line 56 = .ok (.aload_n 0, 1) := by decide +kernel
theorem dX8_line_57 : decode cX8_line 57 = .ok (.iload_n 2, 1) := by decide +kernel
theorem dX8_line_58 : decode cX8_line 58 = .ok (.iconst 0, 1) := by decide +kernel
theorem dX8_line_59 : decode cX8_line 59 = .ok (.invokevirtual 76, 3) := by decide +kernel
theorem dX8_line_62 : decode cX8_line 62 = .ok (.goto 9, 3) := by decide +kernel
theorem dX8_line_65 : decode cX8_line 65 = .ok (.aload_n 0, 1) := by decide +kernel
theorem dX8_line_66 : decode cX8_line 66 = .ok (.iload_n 2, 1) := by decide +kernel
theorem dX8_line_67 : decode cX8_line 67 = .ok (.iconst 0, 1) := by decide +kernel
theorem dX8_line_68 : decode cX8_line 68 = .ok (.invokevirtual 80, 3) := by decide +kernel
theorem dX8_line_71 : decode cX8_line 71 = .ok (.invokevirtual 221, 3) := by decide +kernel
theorem dX8_line_74 : decode cX8_line 74 = .ok (.iload_n 1, 1) := by decide +kernel
theorem dX8_line_75 : decode cX8_line 75 = .ok (.ifCond .eq 12, 3) := by decide +kernel
theorem dX8_line_78 : decode cX8_line 78 = .ok (.aload_n 0, 1) := by decide +kernel
theorem dX8_line_79 : decode cX8_line 79 = .ok (.iload_n 2, 1) := by decide +kernel
theorem dX8_line_80 : decode cX8_line 80 = .ok (.iconst 1, 1) := by decide +kernel
theorem dX8_line_81 : decode cX8_line 81 = .ok (.invokevirtual 76, 3) := by decide +kernel
theorem dX8_line_84 : decode cX8_line 84 = .ok (.goto 9, 3) := by decide +kernel
theorem dX8_line_87 : decode cX8_line 87 = .ok (.aload_n 0, 1) := by decide +kernel
theorem dX8_line_88 : decode cX8_line 88 = .ok (.iload_n 2, 1) := by decide +kernel
theorem dX8_line_89 : decode cX8_line 89 = .ok (.iconst 2, 1) := by decide +kernel
theorem dX8_line_90 : decode cX8_line 90 = .ok (.invokevirtual 80, 3) := by decide +kernel
theorem dX8_line_93 : decode cX8_line 93 = .ok (.istore_n 3, 1) := by decide +kernel
theorem dX8_line_94 : decode cX8_line 94 = .ok (.iload_n 3, 1) := by decide +kernel
theorem dX8_line_95 : decode cX8_line 95 = .ok (.ifCond .ge 6, 3) := by decide +kernel
theorem dX8_line_98 : decode cX8_line 98 = .ok (.goto 14, 3) := by decide +kernel
theorem dX8_line_101 : decode cX8_line 101 = .ok (.aload_n 0, 1) := by decide +kernel
theorem dX8_line_102 : decode cX8_line 102 = .ok (.bipush 45, 2) := by decide +kernel
theorem dX8_line_104 : decode cX8_line 104 = .ok (.invokevirtual 217, 3) := by decide +kernel
theorem dX8_line_107 : decode cX8_line 107 = .ok (.aload_n 0, 1) := by decide +kernel
theorem dX8_line_108 : decode cX8_line 108 = .ok (.iload_n 3, 1) := by decide +kernel
theorem dX8_line_109 : decode cX8_line 109 = .ok (.invokevirtual 221, 3) := by decide +kernel
theorem dX8_line_112 : decode cX8_line 112 = .ok (.iinc 2 1, 3) := by decide +kernel
theorem dX8_line_115 : decode cX8_line 115 = .ok (.goto (-103), 3) := by decide +kernel
theorem dX8_line_118 : decode cX8_line 118 = .ok (.aload_n 0, 1) := by decide +kernel
theorem dX8_line_119 : decode cX8_line 119 = .ok (.getfield 214, 3) := by decide +kernel
theorem dX8_line_122 : decode cX8_line 122 = .ok (.ireturn, 1) := by decide +kernel
set_option maxRecDepth 20000 in
theorem ggX8_character_X8_in : GoodIn wsX8_character wsX8_in := goodIn_r _ [6] (by decide +kernel) (by decide +kernel)
set_option maxRecDepth 20000 in
theorem gX8_character_X8_in : GoodIn wsX8_character (va_wsS RX8 72 yX8_in wsX8_in) := goodIn_app (goodIn_of _ (by decide +kernel)) ggX8_character_X8_in
set_option maxRecDepth 20000 in
theorem ggX8_character_X8_fails : GoodIn wsX8_character wsX8_fails := goodIn_r _ [10, 11, 12, 13, 14, 15, 16, 17, 18, 19, 20, 21, 22, 23, 24, 25, 26, 27, 28, 29, 30, 31, 32, 33, 34, 35] (by decide +kernel) (by decide +kernel)
set_option maxRecDepth 20000 in
theorem gX8_character_X8_fails : GoodIn wsX8_character (wsV RX8 138 RX8 yX8_fails wsX8_fails) := goodIn_app (goodIn_of _ (by decide +kernel)) ggX8_character_X8_fails
theorem dX8_character_0 : decode cX8_character 0 = .ok (.aload_n 0, 1) := by decide +kernel
theorem dX8_character_1 : decode cX8_character 1 = .ok (.iload_n 1, 1) := by decide +kernel
theorem dX8_character_2 : decode cX8_character 2 = .ok (.iconst 0, 1) := by decide +kernel
theorem dX8_character_3 : decode cX8_character 3 = .ok (.aload_n 0, 1) := by decide +kernel
theorem dX8_character_4 : decode cX8_character 4 = .ok (.getfield 214, 3) := by decide +kernel
theorem dX8_character_7 : decode cX8_character 7 = .ok (.iconst 1, 1) := by decide +kernel
theorem dX8_character_8 : decode cX8_character 8 = .ok (.isub, 1) := by decide +kernel
theorem dX8_character_9 : decode cX8_character 9 = .ok (.invokestatic 72, 3) := by decide +kernel
theorem dX8_character_12 : decode cX8_character 12 = .ok (.ifCond .eq 7, 3) := by decide +kernel
theorem dX8_character_15 : decode cX8_character 15 = .ok (.iconst 0, 1) := by decide +kernel
theorem dX8_character_16 : decode cX8_character 16 = .ok (.goto 4, 3) := by decide +kernel
theorem dX8_character_19 : decode cX8_character 19 = .ok (.iconst 1, 1) := by decide +kernel
theorem dX8_character_20 : decode cX8_character 20 = .ok (.invokevirtual 138, 3) := by decide +kernel
theorem dX8_character_23 : decode cX8_character 23 = .ok (.ifCond .eq 8, 3) := by decide +kernel
theorem dX8_character_26 : decode cX8_character 26 = .ok (.bipush 32, 2) := by decide +kernel
theorem dX8_character_28 : decode cX8_character 28 = .ok (.goto 9, 3) := by decide +kernel
theorem dX8_character_31 : decode cX8_character 31 = .ok (.aload_n 0, 1) := by decide +kernel
theorem dX8_character_32 : decode cX8_character 32 = .ok (.getfield 32, 3) := by decide +kernel
theorem dX8_character_35 : decode cX8_character 35 = .ok (.iload_n 1, 1) := by decide +kernel
theorem dX8_character_36 : decode cX8_character 36 = .ok (.caload, 1) := by decide +kernel
theorem dX8_character_37 : decode cX8_character 37 = .ok (.ireturn, 1) := by decide +kernel
set_option maxRecDepth 20000 in
theorem ggX8_pairs_X8_fitsOf : GoodIn wsX8_pairs wsX8_fitsOf := goodIn_ca (goodIn_r _ [6, 1, 7, 8, 9, 5, 10, 11, 12, 13, 14, 15, 16, 17, 18, 19, 20, 21, 22, 23, 24, 25, 26, 27, 28, 29, 30, 31, 32, 33, 34, 35, 36, 37, 38, 39, 40, 41, 42, 43, 44, 45, 46, 47, 48, 49] (by decide +kernel) (by decide +kernel)) (goodIn_sub (fun _ h => List.mem_cons_of_mem _ (List.mem_append_right _ h)) (by decide +kernel))
set_option maxRecDepth 20000 in
theorem gX8_pairs_X8_fitsOf : GoodIn wsX8_pairs (wsV RX8 144 RX8 yX8_fitsOf wsX8_fitsOf) := goodIn_app (goodIn_of _ (by decide +kernel)) ggX8_pairs_X8_fitsOf
theorem dX8_pairs_0 : decode cX8_pairs 0 = .ok (.iconst 0, 1) := by decide +kernel
theorem dX8_pairs_1 : decode cX8_pairs 1 = .ok (.istore_n 1, 1) := by decide +kernel
theorem dX8_pairs_2 : decode cX8_pairs 2 = .ok (.iconst 0, 1) := by decide +kernel
theorem dX8_pairs_3 : decode cX8_pairs 3 = .ok (.istore_n 2, 1) := by decide +kernel
theorem dX8_pairs_4 : decode cX8_pairs 4 = .ok (.iload_n 2, 1) := by decide +kernel
theorem dX8_pairs_5 : decode cX8_pairs 5 = .ok (.aload_n 0, 1) := by decide +kernel
theorem dX8_pairs_6 : decode cX8_pairs 6 = .ok (.getfield 7, 3) := by decide +kernel
theorem dX8_pairs_9 : decode cX8_pairs 9 = .ok (.iconst 0, 1) := by decide +kernel
theorem dX8_pairs_10 : decode cX8_pairs 10 = .ok (.iaload, 1) := by decide +kernel
theorem dX8_pairs_11 : decode cX8_pairs 11 = .ok (.if_icmp .ge 17, 3) := by decide +kernel
theorem dX8_pairs_14 : decode cX8_pairs 14 = .ok (.iload_n 1, 1) := by decide +kernel
theorem dX8_pairs_15 : decode cX8_pairs 15 = .ok (.aload_n 0, 1) := by decide +kernel
theorem dX8_pairs_16 : decode cX8_pairs 16 = .ok (.iload_n 2, 1) := by decide +kernel
theorem dX8_pairs_17 : decode cX8_pairs 17 = .ok (.invokevirtual 144, 3) := by decide +kernel
theorem dX8_pairs_20 : decode cX8_pairs 20 = .ok (.iadd, 1) := by decide +kernel
theorem dX8_pairs_21 : decode cX8_pairs 21 = .ok (.istore_n 1, 1) := by decide +kernel
theorem dX8_pairs_22 : decode cX8_pairs 22 = .ok (.iinc 2 1, 3) := by decide +kernel
theorem dX8_pairs_25 : decode cX8_pairs 25 = .ok (.goto (-21), 3) := by decide +kernel
theorem dX8_pairs_28 : decode cX8_pairs 28 = .ok (.iload_n 1, 1) := by decide +kernel
theorem dX8_pairs_29 : decode cX8_pairs 29 = .ok (.ireturn, 1) := by decide +kernel
set_option maxRecDepth 20000 in
theorem ggX8_meanFits_X8_fails : GoodIn wsX8_meanFits wsX8_fails := goodIn_r _ [6, 7, 35, 36, 37, 38, 39, 40, 41, 42, 43, 44, 45, 46, 47, 48, 49, 50, 51, 52, 53, 54, 55, 56, 57, 58] (by decide +kernel) (by decide +kernel)
set_option maxRecDepth 20000 in
theorem gX8_meanFits_X8_fails : GoodIn wsX8_meanFits (wsV RX8 138 RX8 yX8_fails wsX8_fails) := goodIn_app (goodIn_of _ (by decide +kernel)) ggX8_meanFits_X8_fails
set_option maxRecDepth 20000 in
theorem ggX8_meanFits_X8_pairs : GoodIn wsX8_meanFits wsX8_pairs := goodIn_ca (goodIn_r _ [11, 1, 12, 13, 14, 5, 15, 16, 17, 18, 19, 20, 21, 22, 23, 24, 25, 26, 27, 28, 29, 30, 31, 32, 33, 34, 35, 36, 37, 38, 39, 40, 41, 42, 43, 44, 45, 46, 47, 48, 49, 50, 51, 52, 53, 54, 55, 56, 57, 58] (by decide +kernel) (by decide +kernel)) (goodIn_sub (fun _ h => List.mem_cons_of_mem _ (List.mem_append_right _ h)) (by decide +kernel))
set_option maxRecDepth 20000 in
theorem gX8_meanFits_X8_pairs : GoodIn wsX8_meanFits (wsV RX8 224 RX8 yX8_pairs wsX8_pairs) := goodIn_app (goodIn_of _ (by decide +kernel)) ggX8_meanFits_X8_pairs
theorem dX8_meanFits_0 : decode cX8_meanFits 0 = .ok (.aload_n 0, 1) := by decide +kernel
theorem dX8_meanFits_1 : decode cX8_meanFits 1 = .ok (.aload_n 0, 1) := by decide +kernel
theorem dX8_meanFits_2 : decode cX8_meanFits 2 = .ok (.getfield 7, 3) := by decide +kernel
theorem dX8_meanFits_5 : decode cX8_meanFits 5 = .ok (.iconst 0, 1) := by decide +kernel
theorem dX8_meanFits_6 : decode cX8_meanFits 6 = .ok (.iaload, 1) := by decide +kernel
theorem dX8_meanFits_7 : decode cX8_meanFits 7 = .ok (.ifCond .ne 7, 3) := by decide +kernel
theorem dX8_meanFits_10 : decode cX8_meanFits 10 = .ok (.iconst 1, 1) := by decide +kernel
theorem dX8_meanFits_11 : decode cX8_meanFits 11 = .ok (.goto 4, 3) := by decide +kernel
theorem dX8_meanFits_14 : decode cX8_meanFits 14 = .ok (.iconst 0, 1) := by decide +kernel
theorem dX8_meanFits_15 : decode cX8_meanFits 15 = .ok (.invokevirtual 138, 3) := by decide +kernel
theorem dX8_meanFits_18 : decode cX8_meanFits 18 = .ok (.ifCond .eq 7, 3) := by decide +kernel
theorem dX8_meanFits_21 : decode cX8_meanFits 21 = .ok (.dconst 0, 1) := by decide +kernel
theorem dX8_meanFits_22 : decode cX8_meanFits 22 = .ok (.goto 16, 3) := by decide +kernel
theorem dX8_meanFits_25 : decode cX8_meanFits 25 = .ok (.aload_n 0, 1) := by decide +kernel
theorem dX8_meanFits_26 : decode cX8_meanFits 26 = .ok (.invokevirtual 224, 3) := by decide +kernel
theorem dX8_meanFits_29 : decode cX8_meanFits 29 = .ok (.i2d, 1) := by decide +kernel
theorem dX8_meanFits_30 : decode cX8_meanFits 30 = .ok (.aload_n 0, 1) := by decide +kernel
theorem dX8_meanFits_31 : decode cX8_meanFits 31 = .ok (.getfield 7, 3) := by decide +kernel
theorem dX8_meanFits_34 : decode cX8_meanFits 34 = .ok (.iconst 0, 1) := by decide +kernel
theorem dX8_meanFits_35 : decode cX8_meanFits 35 = .ok (.iaload, 1) := by decide +kernel
theorem dX8_meanFits_36 : decode cX8_meanFits 36 = .ok (.i2d, 1) := by decide +kernel
theorem dX8_meanFits_37 : decode cX8_meanFits 37 = .ok (.ddiv, 1) := by decide +kernel
theorem dX8_meanFits_38 : decode cX8_meanFits 38 = .ok (.dreturn, 1) := by decide +kernel
set_option maxRecDepth 20000 in
theorem ggX8_openShare_X8_fails : GoodIn wsX8_openShare wsX8_fails := goodIn_r _ [6, 7, 16, 17, 18, 19, 20, 21, 22, 23, 24, 25, 26, 27, 28, 29, 30, 31, 32, 33, 34, 35, 36, 37, 38, 39] (by decide +kernel) (by decide +kernel)
set_option maxRecDepth 20000 in
theorem gX8_openShare_X8_fails : GoodIn wsX8_openShare (wsV RX8 138 RX8 yX8_fails wsX8_fails) := goodIn_app (goodIn_of _ (by decide +kernel)) ggX8_openShare_X8_fails
set_option maxRecDepth 20000 in
theorem ggX8_openShare_X8_openMany : GoodIn wsX8_openShare wsX8_openMany := goodIn_ca (goodIn_r _ [11, 1, 12, 13, 14, 5, 15, 16, 17, 18, 19, 20, 21, 22, 23, 24, 25, 26, 27, 28, 29, 30, 31, 32, 33, 34, 35, 36, 37, 38, 39] (by decide +kernel) (by decide +kernel)) (goodIn_sub (fun _ h => List.mem_cons_of_mem _ (List.mem_append_right _ h)) (by decide +kernel))
set_option maxRecDepth 20000 in
theorem gX8_openShare_X8_openMany : GoodIn wsX8_openShare (wsV RX8 122 RX8 yX8_openMany wsX8_openMany) := goodIn_app (goodIn_of _ (by decide +kernel)) ggX8_openShare_X8_openMany
theorem dX8_openShare_0 : decode cX8_openShare 0 = .ok (.aload_n 0, 1) := by decide +kernel
theorem dX8_openShare_1 : decode cX8_openShare 1 = .ok (.aload_n 0, 1) := by decide +kernel
theorem dX8_openShare_2 : decode cX8_openShare 2 = .ok (.getfield 7, 3) := by decide +kernel
theorem dX8_openShare_5 : decode cX8_openShare 5 = .ok (.iconst 1, 1) := by decide +kernel
theorem dX8_openShare_6 : decode cX8_openShare 6 = .ok (.iaload, 1) := by decide +kernel
theorem dX8_openShare_7 : decode cX8_openShare 7 = .ok (.ifCond .ne 7, 3) := by decide +kernel
theorem dX8_openShare_10 : decode cX8_openShare 10 = .ok (.iconst 1, 1) := by decide +kernel
theorem dX8_openShare_11 : decode cX8_openShare 11 = .ok (.goto 4, 3) := by decide +kernel
theorem dX8_openShare_14 : decode cX8_openShare 14 = .ok (.iconst 0, 1) := by decide +kernel
theorem dX8_openShare_15 : decode cX8_openShare 15 = .ok (.invokevirtual 138, 3) := by decide +kernel
theorem dX8_openShare_18 : decode cX8_openShare 18 = .ok (.ifCond .eq 7, 3) := by decide +kernel
theorem dX8_openShare_21 : decode cX8_openShare 21 = .ok (.fconst 0, 1) := by decide +kernel
theorem dX8_openShare_22 : decode cX8_openShare 22 = .ok (.goto 16, 3) := by decide +kernel
theorem dX8_openShare_25 : decode cX8_openShare 25 = .ok (.aload_n 0, 1) := by decide +kernel
theorem dX8_openShare_26 : decode cX8_openShare 26 = .ok (.invokevirtual 122, 3) := by decide +kernel
theorem dX8_openShare_29 : decode cX8_openShare 29 = .ok (.i2f, 1) := by decide +kernel
theorem dX8_openShare_30 : decode cX8_openShare 30 = .ok (.aload_n 0, 1) := by decide +kernel
theorem dX8_openShare_31 : decode cX8_openShare 31 = .ok (.getfield 7, 3) := by decide +kernel
theorem dX8_openShare_34 : decode cX8_openShare 34 = .ok (.iconst 1, 1) := by decide +kernel
theorem dX8_openShare_35 : decode cX8_openShare 35 = .ok (.iaload, 1) := by decide +kernel
theorem dX8_openShare_36 : decode cX8_openShare 36 = .ok (.i2f, 1) := by decide +kernel
theorem dX8_openShare_37 : decode cX8_openShare 37 = .ok (.fdiv, 1) := by decide +kernel
theorem dX8_openShare_38 : decode cX8_openShare 38 = .ok (.freturn, 1) := by decide +kernel
set_option maxRecDepth 20000 in
theorem ggX8_account_X8_in : GoodIn wsX8_account wsX8_in := goodIn_r _ [7] (by decide +kernel) (by decide +kernel)
set_option maxRecDepth 20000 in
theorem gX8_account_X8_in : GoodIn wsX8_account (va_wsS RX8 72 yX8_in wsX8_in) := goodIn_app (goodIn_of _ (by decide +kernel)) ggX8_account_X8_in
set_option maxRecDepth 20000 in
theorem ggX8_account_X8_fails : GoodIn wsX8_account wsX8_fails := goodIn_r _ [11, 12, 48, 49, 50, 51, 52, 53, 54, 55, 56, 57, 58, 59, 60, 61, 62, 63, 64, 65, 66, 67, 68, 69, 70, 71] (by decide +kernel) (by decide +kernel)
set_option maxRecDepth 20000 in
theorem gX8_account_X8_fails : GoodIn wsX8_account (wsV RX8 138 RX8 yX8_fails wsX8_fails) := goodIn_app (goodIn_of _ (by decide +kernel)) ggX8_account_X8_fails
set_option maxRecDepth 20000 in
theorem ggX8_account_X8_openMany : GoodIn wsX8_account wsX8_openMany := goodIn_ca (goodIn_r _ [16, 1, 17, 18, 19, 6, 20, 48, 49, 50, 51, 52, 53, 54, 55, 56, 57, 58, 59, 60, 61, 62, 63, 64, 65, 66, 67, 68, 69, 70, 71] (by decide +kernel) (by decide +kernel)) (goodIn_sub (fun _ h => List.mem_cons_of_mem _ (List.mem_append_right _ h)) (by decide +kernel))
set_option maxRecDepth 20000 in
theorem gX8_account_X8_openMany : GoodIn wsX8_account (wsV RX8 122 RX8 yX8_openMany wsX8_openMany) := goodIn_app (goodIn_of _ (by decide +kernel)) ggX8_account_X8_openMany
set_option maxRecDepth 20000 in
theorem ggX8_account_X8_pairs : GoodIn wsX8_account wsX8_pairs := goodIn_ca (goodIn_r _ [24, 1, 25, 26, 27, 6, 28, 29, 30, 31, 32, 33, 34, 35, 36, 17, 18, 19, 20, 37, 38, 39, 40, 41, 42, 43, 48, 49, 50, 51, 52, 53, 54, 55, 56, 57, 58, 59, 60, 61, 62, 63, 64, 65, 66, 67, 68, 69, 70, 71] (by decide +kernel) (by decide +kernel)) (goodIn_sub (fun _ h => List.mem_cons_of_mem _ (List.mem_append_right _ h)) (by decide +kernel))
set_option maxRecDepth 20000 in
theorem gX8_account_X8_pairs : GoodIn wsX8_account (wsV RX8 224 RX8 yX8_pairs wsX8_pairs) := goodIn_app (goodIn_of _ (by decide +kernel)) ggX8_account_X8_pairs
set_option maxRecDepth 20000 in
theorem ggX8_account_X8_barredMany : GoodIn wsX8_account wsX8_barredMany := goodIn_ca (goodIn_r _ [47, 1, 48, 49, 50, 51, 52, 53, 54, 55, 56, 57, 58, 59, 60, 61, 62, 63, 64, 65, 66, 67, 68, 69, 70, 71] (by decide +kernel) (by decide +kernel)) (goodIn_sub (fun _ h => List.mem_cons_of_mem _ (List.mem_append_right _ h)) (by decide +kernel))
set_option maxRecDepth 20000 in
theorem gX8_account_X8_barredMany : GoodIn wsX8_account (wsV RX8 116 RX8 yX8_barredMany wsX8_barredMany) := goodIn_app (goodIn_of _ (by decide +kernel)) ggX8_account_X8_barredMany
theorem dX8_account_0 : decode cX8_account 0 = .ok (.aload_n 0, 1) := by decide +kernel
theorem dX8_account_1 : decode cX8_account 1 = .ok (.iload_n 1, 1) := by decide +kernel
theorem dX8_account_2 : decode cX8_account 2 = .ok (.iconst 0, 1) := by decide +kernel
theorem dX8_account_3 : decode cX8_account 3 = .ok (.bipush 11, 2) := by decide +kernel
theorem dX8_account_5 : decode cX8_account 5 = .ok (.invokestatic 72, 3) := by decide +kernel
theorem dX8_account_8 : decode cX8_account 8 = .ok (.ifCond .eq 7, 3) := by decide +kernel
theorem dX8_account_11 : decode cX8_account 11 = .ok (.iconst 0, 1) := by decide +kernel
theorem dX8_account_12 : decode cX8_account 12 = .ok (.goto 4, 3) := by decide +kernel
theorem dX8_account_15 : decode cX8_account 15 = .ok (.iconst 1, 1) := by decide +kernel
theorem dX8_account_16 : decode cX8_account 16 = .ok (.invokevirtual 138, 3) := by decide +kernel
theorem dX8_account_19 : decode cX8_account 19 = .ok (.ifCond .eq 5, 3) := by decide +kernel
theorem dX8_account_22 : decode cX8_account 22 = .ok (.iconst 0, 1) := by decide +kernel
theorem dX8_account_23 : decode cX8_account 23 = .ok (.ireturn, 1) := by decide +kernel
theorem dX8_account_24 : decode cX8_account 24 = .ok (.iload_n 1, 1) := by decide +kernel
theorem dX8_account_25 : decode cX8_account 25 = .ok (.tableswitch 122 0 10 #[59, 59, 66, 71, 76, 81, 88, 95, 102, 109, 117], 59) := by decide +kernel
theorem dX8_account_84 : decode cX8_account 84 = .ok (.aload_n 0, 1) := by decide +kernel
theorem dX8_account_85 : decode cX8_account 85 = .ok (.getfield 7, 3) := by decide +kernel
theorem dX8_account_88 : decode cX8_account 88 = .ok (.iload_n 1, 1) := by decide +kernel
theorem dX8_account_89 : decode cX8_account 89 = .ok (.iaload, 1) := by decide +kernel
theorem dX8_account_90 : decode cX8_account 90 = .ok (.ireturn, 1) := by decide +kernel
theorem dX8_account_91 : decode cX8_account 91 = .ok (.aload_n 0, 1) := by decide +kernel
theorem dX8_account_92 : decode cX8_account 92 = .ok (.invokevirtual 122, 3) := by decide +kernel
theorem dX8_account_95 : decode cX8_account 95 = .ok (.ireturn, 1) := by decide +kernel
theorem dX8_account_96 : decode cX8_account 96 = .ok (.aload_n 0, 1) := by decide +kernel
theorem dX8_account_97 : decode cX8_account 97 = .ok (.invokevirtual 224, 3) := by decide +kernel
theorem dX8_account_100 : decode cX8_account 100 = .ok (.ireturn, 1) := by decide +kernel
theorem dX8_account_101 : decode cX8_account 101 = .ok (.aload_n 0, 1) := by decide +kernel
theorem dX8_account_102 : decode cX8_account 102 = .ok (.invokevirtual 116, 3) := by decide +kernel
theorem dX8_account_105 : decode cX8_account 105 = .ok (.ireturn, 1) := by decide +kernel
theorem dX8_account_106 : decode cX8_account 106 = .ok (.aload_n 0, 1) := by decide +kernel
theorem dX8_account_107 : decode cX8_account 107 = .ok (.getfield 7, 3) := by decide +kernel
theorem dX8_account_110 : decode cX8_account 110 = .ok (.iconst 2, 1) := by decide +kernel
theorem dX8_account_111 : decode cX8_account 111 = .ok (.iaload, 1) := by decide +kernel
theorem dX8_account_112 : decode cX8_account 112 = .ok (.ireturn, 1) := by decide +kernel
theorem dX8_account_113 : decode cX8_account 113 = .ok (.aload_n 0, 1) := by decide +kernel
theorem dX8_account_114 : decode cX8_account 114 = .ok (.getfield 7, 3) := by decide +kernel
theorem dX8_account_117 : decode cX8_account 117 = .ok (.iconst 3, 1) := by decide +kernel
theorem dX8_account_118 : decode cX8_account 118 = .ok (.iaload, 1) := by decide +kernel
theorem dX8_account_119 : decode cX8_account 119 = .ok (.ireturn, 1) := by decide +kernel
theorem dX8_account_120 : decode cX8_account 120 = .ok (.aload_n 0, 1) := by decide +kernel
theorem dX8_account_121 : decode cX8_account 121 = .ok (.getfield 7, 3) := by decide +kernel
theorem dX8_account_124 : decode cX8_account 124 = .ok (.iconst 4, 1) := by decide +kernel
theorem dX8_account_125 : decode cX8_account 125 = .ok (.iaload, 1) := by decide +kernel
theorem dX8_account_126 : decode cX8_account 126 = .ok (.ireturn, 1) := by decide +kernel
theorem dX8_account_127 : decode cX8_account 127 = .ok (.aload_n 0, 1) := by decide +kernel
theorem dX8_account_128 : decode cX8_account 128 = .ok (.getfield 7, 3) := by decide +kernel
theorem dX8_account_131 : decode cX8_account 131 = .ok (.iconst 5, 1) := by decide +kernel
theorem dX8_account_132 : decode cX8_account 132 = .ok (.iaload, 1) := by decide +kernel
theorem dX8_account_133 : decode cX8_account 133 = .ok (.ireturn, 1) := by decide +kernel
theorem dX8_account_134 : decode cX8_account 134 = .ok (.aload_n 0, 1) := by decide +kernel
theorem dX8_account_135 : decode cX8_account 135 = .ok (.getfield 7, 3) := by decide +kernel
theorem dX8_account_138 : decode cX8_account 138 = .ok (.bipush 6, 2) := by decide +kernel
theorem dX8_account_140 : decode cX8_account 140 = .ok (.iaload, 1) := by decide +kernel
theorem dX8_account_141 : decode cX8_account 141 = .ok (.ireturn, 1) := by decide +kernel
theorem dX8_account_142 : decode cX8_account 142 = .ok (.aload_n 0, 1) := by decide +kernel
theorem dX8_account_143 : decode cX8_account 143 = .ok (.getfield 65, 3) := by decide +kernel
theorem dX8_account_146 : decode cX8_account 146 = .ok (.ireturn, 1) := by decide +kernel
theorem dX8_account_147 : decode cX8_account 147 = .ok (.aload_n 0, 1) := by decide +kernel
theorem dX8_account_148 : decode cX8_account 148 = .ok (.getfield 162, 3) := by decide +kernel
theorem dX8_account_151 : decode cX8_account 151 = .ok (.ireturn, 1) := by decide +kernel
set_option maxRecDepth 20000 in
theorem ggX8_undo_X8_fails : GoodIn wsX8_undo wsX8_fails := goodIn_r _ [8, 9, 13, 14, 15, 16, 17, 18, 19, 20, 21, 22, 23, 24, 25, 26, 27, 28, 29, 30, 31, 32, 33, 34, 35, 36] (by decide +kernel) (by decide +kernel)
set_option maxRecDepth 20000 in
theorem gX8_undo_X8_fails : GoodIn wsX8_undo (wsV RX8 138 RX8 yX8_fails wsX8_fails) := goodIn_app (goodIn_of _ (by decide +kernel)) ggX8_undo_X8_fails
set_option maxRecDepth 20000 in
theorem ggX8_undo_X8_copies : GoodIn wsX8_undo wsX8_copies := goodIn_ca (goodIn_r _ [12] (by decide +kernel) (by decide +kernel)) (goodIn_sub (fun _ h => List.mem_cons_of_mem _ (List.mem_append_right _ h)) (by decide +kernel))
set_option maxRecDepth 20000 in
theorem gX8_undo_X8_copies : GoodIn wsX8_undo (va_wsS RX8 68 yX8_copies wsX8_copies) := goodIn_app (goodIn_of _ (by decide +kernel)) ggX8_undo_X8_copies
theorem dX8_undo_0 : decode cX8_undo 0 = .ok (.aload_n 0, 1) := by decide +kernel
theorem dX8_undo_1 : decode cX8_undo 1 = .ok (.aload_n 0, 1) := by decide +kernel
theorem dX8_undo_2 : decode cX8_undo 2 = .ok (.getfield 65, 3) := by decide +kernel
theorem dX8_undo_5 : decode cX8_undo 5 = .ok (.ifCond .ne 7, 3) := by decide +kernel
theorem dX8_undo_8 : decode cX8_undo 8 = .ok (.iconst 1, 1) := by decide +kernel
theorem dX8_undo_9 : decode cX8_undo 9 = .ok (.goto 4, 3) := by decide +kernel
theorem dX8_undo_12 : decode cX8_undo 12 = .ok (.iconst 0, 1) := by decide +kernel
theorem dX8_undo_13 : decode cX8_undo 13 = .ok (.invokevirtual 138, 3) := by decide +kernel
theorem dX8_undo_16 : decode cX8_undo 16 = .ok (.ifCond .eq 5, 3) := by decide +kernel
theorem dX8_undo_19 : decode cX8_undo 19 = .ok (.iconst 0, 1) := by decide +kernel
theorem dX8_undo_20 : decode cX8_undo 20 = .ok (.ireturn, 1) := by decide +kernel
theorem dX8_undo_21 : decode cX8_undo 21 = .ok (.aload_n 0, 1) := by decide +kernel
theorem dX8_undo_22 : decode cX8_undo 22 = .ok (.dup, 1) := by decide +kernel
theorem dX8_undo_23 : decode cX8_undo 23 = .ok (.getfield 65, 3) := by decide +kernel
theorem dX8_undo_26 : decode cX8_undo 26 = .ok (.iconst 1, 1) := by decide +kernel
theorem dX8_undo_27 : decode cX8_undo 27 = .ok (.isub, 1) := by decide +kernel
theorem dX8_undo_28 : decode cX8_undo 28 = .ok (.putfield 65, 3) := by decide +kernel
theorem dX8_undo_31 : decode cX8_undo 31 = .ok (.aload_n 0, 1) := by decide +kernel
theorem dX8_undo_32 : decode cX8_undo 32 = .ok (.getfield 13, 3) := by decide +kernel
theorem dX8_undo_35 : decode cX8_undo 35 = .ok (.sipush 177, 3) := by decide +kernel
theorem dX8_undo_38 : decode cX8_undo 38 = .ok (.aload_n 0, 1) := by decide +kernel
theorem dX8_undo_39 : decode cX8_undo 39 = .ok (.getfield 65, 3) := by decide +kernel
theorem dX8_undo_42 : decode cX8_undo 42 = .ok (.imul, 1) := by decide +kernel
theorem dX8_undo_43 : decode cX8_undo 43 = .ok (.aload_n 0, 1) := by decide +kernel
theorem dX8_undo_44 : decode cX8_undo 44 = .ok (.getfield 7, 3) := by decide +kernel
theorem dX8_undo_47 : decode cX8_undo 47 = .ok (.iconst 0, 1) := by decide +kernel
theorem dX8_undo_48 : decode cX8_undo 48 = .ok (.invokestatic 68, 3) := by decide +kernel
theorem dX8_undo_51 : decode cX8_undo 51 = .ok (.aload_n 0, 1) := by decide +kernel
theorem dX8_undo_52 : decode cX8_undo 52 = .ok (.getfield 65, 3) := by decide +kernel
theorem dX8_undo_55 : decode cX8_undo 55 = .ok (.ireturn, 1) := by decide +kernel
set_option maxRecDepth 20000 in
theorem ggX8_save_X8_copies : GoodIn wsX8_save wsX8_copies := goodIn_ca (goodIn_r _ [8] (by decide +kernel) (by decide +kernel)) (goodIn_sub (fun _ h => List.mem_cons_of_mem _ (List.mem_append_right _ h)) (by decide +kernel))
set_option maxRecDepth 20000 in
theorem gX8_save_X8_copies : GoodIn wsX8_save (va_wsS RX8 68 yX8_copies wsX8_copies) := goodIn_app (goodIn_of _ (by decide +kernel)) ggX8_save_X8_copies
set_option maxRecDepth 20000 in
theorem ggX8_save_X8_openMany : GoodIn wsX8_save wsX8_openMany := goodIn_ca (goodIn_r _ [12, 3, 13, 14, 15, 7, 16, 17, 18, 19, 20, 21, 22, 23, 24, 25, 26, 27, 28, 29, 30, 31, 32, 33, 34, 35, 36, 37, 38, 39, 40] (by decide +kernel) (by decide +kernel)) (goodIn_sub (fun _ h => List.mem_cons_of_mem _ (List.mem_append_right _ h)) (by decide +kernel))
set_option maxRecDepth 20000 in
theorem gX8_save_X8_openMany : GoodIn wsX8_save (wsV RX8 122 RX8 yX8_openMany wsX8_openMany) := goodIn_app (goodIn_of _ (by decide +kernel)) ggX8_save_X8_openMany
theorem dX8_save_0 : decode cX8_save 0 = .ok (.aload_n 0, 1) := by decide +kernel
theorem dX8_save_1 : decode cX8_save 1 = .ok (.iconst 0, 1) := by decide +kernel
theorem dX8_save_2 : decode cX8_save 2 = .ok (.putfield 46, 3) := by decide +kernel
theorem dX8_save_5 : decode cX8_save 5 = .ok (.aload_n 0, 1) := by decide +kernel
theorem dX8_save_6 : decode cX8_save 6 = .ok (.iconst 1, 1) := by decide +kernel
theorem dX8_save_7 : decode cX8_save 7 = .ok (.putfield 227, 3) := by decide +kernel
theorem dX8_save_10 : decode cX8_save 10 = .ok (.aload_n 0, 1) := by decide +kernel
theorem dX8_save_11 : decode cX8_save 11 = .ok (.getfield 7, 3) := by decide +kernel
theorem dX8_save_14 : decode cX8_save 14 = .ok (.iconst 0, 1) := by decide +kernel
theorem dX8_save_15 : decode cX8_save 15 = .ok (.aload_n 0, 1) := by decide +kernel
theorem dX8_save_16 : decode cX8_save 16 = .ok (.getfield 16, 3) := by decide +kernel
theorem dX8_save_19 : decode cX8_save 19 = .ok (.iconst 0, 1) := by decide +kernel
theorem dX8_save_20 : decode cX8_save 20 = .ok (.invokestatic 68, 3) := by decide +kernel
theorem dX8_save_23 : decode cX8_save 23 = .ok (.aload_n 0, 1) := by decide +kernel
theorem dX8_save_24 : decode cX8_save 24 = .ok (.invokevirtual 122, 3) := by decide +kernel
theorem dX8_save_27 : decode cX8_save 27 = .ok (.ireturn, 1) := by decide +kernel
set_option maxRecDepth 20000 in
theorem ggX8_restore_X8_fails : GoodIn wsX8_restore wsX8_fails := goodIn_r _ [9, 10, 22, 23, 24, 25, 26, 27, 28, 29, 30, 31, 32, 33, 34, 35, 36, 37, 38, 39, 40, 41, 42, 43, 44, 45] (by decide +kernel) (by decide +kernel)
set_option maxRecDepth 20000 in
theorem gX8_restore_X8_fails : GoodIn wsX8_restore (wsV RX8 138 RX8 yX8_fails wsX8_fails) := goodIn_app (goodIn_of _ (by decide +kernel)) ggX8_restore_X8_fails
set_option maxRecDepth 20000 in
theorem ggX8_restore_X8_copies : GoodIn wsX8_restore wsX8_copies := goodIn_ca (goodIn_r _ [13] (by decide +kernel) (by decide +kernel)) (goodIn_sub (fun _ h => List.mem_cons_of_mem _ (List.mem_append_right _ h)) (by decide +kernel))
set_option maxRecDepth 20000 in
theorem gX8_restore_X8_copies : GoodIn wsX8_restore (va_wsS RX8 68 yX8_copies wsX8_copies) := goodIn_app (goodIn_of _ (by decide +kernel)) ggX8_restore_X8_copies
set_option maxRecDepth 20000 in
theorem ggX8_restore_X8_openMany : GoodIn wsX8_restore wsX8_openMany := goodIn_ca (goodIn_r _ [17, 3, 18, 19, 20, 8, 21, 22, 23, 24, 25, 26, 27, 28, 29, 30, 31, 32, 33, 34, 35, 36, 37, 38, 39, 40, 41, 42, 43, 44, 45] (by decide +kernel) (by decide +kernel)) (goodIn_sub (fun _ h => List.mem_cons_of_mem _ (List.mem_append_right _ h)) (by decide +kernel))
set_option maxRecDepth 20000 in
theorem gX8_restore_X8_openMany : GoodIn wsX8_restore (wsV RX8 122 RX8 yX8_openMany wsX8_openMany) := goodIn_app (goodIn_of _ (by decide +kernel)) ggX8_restore_X8_openMany
theorem dX8_restore_0 : decode cX8_restore 0 = .ok (.aload_n 0, 1) := by decide +kernel
theorem dX8_restore_1 : decode cX8_restore 1 = .ok (.aload_n 0, 1) := by decide +kernel
theorem dX8_restore_2 : decode cX8_restore 2 = .ok (.getfield 227, 3) := by decide +kernel
theorem dX8_restore_5 : decode cX8_restore 5 = .ok (.ifCond .eq 7, 3) := by decide +kernel
theorem dX8_restore_8 : decode cX8_restore 8 = .ok (.iconst 0, 1) := by decide +kernel
theorem dX8_restore_9 : decode cX8_restore 9 = .ok (.goto 4, 3) := by decide +kernel
theorem dX8_restore_12 : decode cX8_restore 12 = .ok (.iconst 1, 1) := by decide +kernel
theorem dX8_restore_13 : decode cX8_restore 13 = .ok (.invokevirtual 138, 3) := by decide +kernel
theorem dX8_restore_16 : decode cX8_restore 16 = .ok (.ifCond .eq 5, 3) := by decide +kernel
theorem dX8_restore_19 : decode cX8_restore 19 = .ok (.iconst 0, 1) := by decide +kernel
theorem dX8_restore_20 : decode cX8_restore 20 = .ok (.ireturn, 1) := by decide +kernel
theorem dX8_restore_21 : decode cX8_restore 21 = .ok (.aload_n 0, 1) := by decide +kernel
theorem dX8_restore_22 : decode cX8_restore 22 = .ok (.getfield 16, 3) := by decide +kernel
theorem dX8_restore_25 : decode cX8_restore 25 = .ok (.iconst 0, 1) := by decide +kernel
theorem dX8_restore_26 : decode cX8_restore 26 = .ok (.aload_n 0, 1) := by decide +kernel
theorem dX8_restore_27 : decode cX8_restore 27 = .ok (.getfield 7, 3) := by decide +kernel
theorem dX8_restore_30 : decode cX8_restore 30 = .ok (.iconst 0, 1) := by decide +kernel
theorem dX8_restore_31 : decode cX8_restore 31 = .ok (.invokestatic 68, 3) := by decide +kernel
theorem dX8_restore_34 : decode cX8_restore 34 = .ok (.aload_n 0, 1) := by decide +kernel
theorem dX8_restore_35 : decode cX8_restore 35 = .ok (.iconst 0, 1) := by decide +kernel
theorem dX8_restore_36 : decode cX8_restore 36 = .ok (.putfield 65, 3) := by decide +kernel
theorem dX8_restore_39 : decode cX8_restore 39 = .ok (.aload_n 0, 1) := by decide +kernel
theorem dX8_restore_40 : decode cX8_restore 40 = .ok (.invokevirtual 122, 3) := by decide +kernel
theorem dX8_restore_43 : decode cX8_restore 43 = .ok (.ireturn, 1) := by decide +kernel
theorem dJx00060_init_a7421_0 : decode cJx00060_init_a7421 0 = .ok (.aload_n 0, 1) := by decide +kernel
theorem dJx00060_init_a7421_1 : decode cJx00060_init_a7421 1 = .ok (.aload_n 1, 1) := by decide +kernel
theorem dJx00060_init_a7421_2 : decode cJx00060_init_a7421 2 = .ok (.invokespecial 7, 3) := by decide +kernel
theorem dJx00060_init_a7421_5 : decode cJx00060_init_a7421 5 = .ok (.return_, 1) := by decide +kernel
theorem dJ6_bitCount_0f7a4_0 : decode cJ6_bitCount_0f7a4 0 = .ok (.iload_n 0, 1) := by decide +kernel
theorem dJ6_bitCount_0f7a4_1 : decode cJ6_bitCount_0f7a4 1 = .ok (.iload_n 0, 1) := by decide +kernel
theorem dJ6_bitCount_0f7a4_2 : decode cJ6_bitCount_0f7a4 2 = .ok (.iconst 1, 1) := by decide +kernel
theorem dJ6_bitCount_0f7a4_3 : decode cJ6_bitCount_0f7a4 3 = .ok (.iushr, 1) := by decide +kernel
theorem dJ6_bitCount_0f7a4_4 : decode cJ6_bitCount_0f7a4 4 = .ok (.ldc_w 265, 3) := by decide +kernel
theorem dJ6_bitCount_0f7a4_7 : decode cJ6_bitCount_0f7a4 7 = .ok (.iand, 1) := by decide +kernel
theorem dJ6_bitCount_0f7a4_8 : decode cJ6_bitCount_0f7a4 8 = .ok (.isub, 1) := by decide +kernel
theorem dJ6_bitCount_0f7a4_9 : decode cJ6_bitCount_0f7a4 9 = .ok (.istore_n 0, 1) := by decide +kernel
theorem dJ6_bitCount_0f7a4_10 : decode cJ6_bitCount_0f7a4 10 = .ok (.iload_n 0, 1) := by decide +kernel
theorem dJ6_bitCount_0f7a4_11 : decode cJ6_bitCount_0f7a4 11 = .ok (.ldc_w 266, 3) := by decide +kernel
theorem dJ6_bitCount_0f7a4_14 : decode cJ6_bitCount_0f7a4 14 = .ok (.iand, 1) := by decide +kernel
theorem dJ6_bitCount_0f7a4_15 : decode cJ6_bitCount_0f7a4 15 = .ok (.iload_n 0, 1) := by decide +kernel
theorem dJ6_bitCount_0f7a4_16 : decode cJ6_bitCount_0f7a4 16 = .ok (.iconst 2, 1) := by decide +kernel
theorem dJ6_bitCount_0f7a4_17 : decode cJ6_bitCount_0f7a4 17 = .ok (.iushr, 1) := by decide +kernel
theorem dJ6_bitCount_0f7a4_18 : decode cJ6_bitCount_0f7a4 18 = .ok (.ldc_w 266, 3) := by decide +kernel
theorem dJ6_bitCount_0f7a4_21 : decode cJ6_bitCount_0f7a4 21 = .ok (.iand, 1) := by decide +kernel
theorem dJ6_bitCount_0f7a4_22 : decode cJ6_bitCount_0f7a4 22 = .ok (.iadd, 1) := by decide +kernel
theorem dJ6_bitCount_0f7a4_23 : decode cJ6_bitCount_0f7a4 23 = .ok (.istore_n 0, 1) := by decide +kernel
theorem dJ6_bitCount_0f7a4_24 : decode cJ6_bitCount_0f7a4 24 = .ok (.iload_n 0, 1) := by decide +kernel
theorem dJ6_bitCount_0f7a4_25 : decode cJ6_bitCount_0f7a4 25 = .ok (.iload_n 0, 1) := by decide +kernel
theorem dJ6_bitCount_0f7a4_26 : decode cJ6_bitCount_0f7a4 26 = .ok (.iconst 4, 1) := by decide +kernel
theorem dJ6_bitCount_0f7a4_27 : decode cJ6_bitCount_0f7a4 27 = .ok (.iushr, 1) := by decide +kernel
theorem dJ6_bitCount_0f7a4_28 : decode cJ6_bitCount_0f7a4 28 = .ok (.iadd, 1) := by decide +kernel
theorem dJ6_bitCount_0f7a4_29 : decode cJ6_bitCount_0f7a4 29 = .ok (.ldc_w 267, 3) := by decide +kernel
theorem dJ6_bitCount_0f7a4_32 : decode cJ6_bitCount_0f7a4 32 = .ok (.iand, 1) := by decide +kernel
theorem dJ6_bitCount_0f7a4_33 : decode cJ6_bitCount_0f7a4 33 = .ok (.istore_n 0, 1) := by decide +kernel
theorem dJ6_bitCount_0f7a4_34 : decode cJ6_bitCount_0f7a4 34 = .ok (.iload_n 0, 1) := by decide +kernel
theorem dJ6_bitCount_0f7a4_35 : decode cJ6_bitCount_0f7a4 35 = .ok (.iload_n 0, 1) := by decide +kernel
theorem dJ6_bitCount_0f7a4_36 : decode cJ6_bitCount_0f7a4 36 = .ok (.bipush 8, 2) := by decide +kernel
theorem dJ6_bitCount_0f7a4_38 : decode cJ6_bitCount_0f7a4 38 = .ok (.iushr, 1) := by decide +kernel
theorem dJ6_bitCount_0f7a4_39 : decode cJ6_bitCount_0f7a4 39 = .ok (.iadd, 1) := by decide +kernel
theorem dJ6_bitCount_0f7a4_40 : decode cJ6_bitCount_0f7a4 40 = .ok (.istore_n 0, 1) := by decide +kernel
theorem dJ6_bitCount_0f7a4_41 : decode cJ6_bitCount_0f7a4 41 = .ok (.iload_n 0, 1) := by decide +kernel
theorem dJ6_bitCount_0f7a4_42 : decode cJ6_bitCount_0f7a4 42 = .ok (.iload_n 0, 1) := by decide +kernel
theorem dJ6_bitCount_0f7a4_43 : decode cJ6_bitCount_0f7a4 43 = .ok (.bipush 16, 2) := by decide +kernel
theorem dJ6_bitCount_0f7a4_45 : decode cJ6_bitCount_0f7a4 45 = .ok (.iushr, 1) := by decide +kernel
theorem dJ6_bitCount_0f7a4_46 : decode cJ6_bitCount_0f7a4 46 = .ok (.iadd, 1) := by decide +kernel
theorem dJ6_bitCount_0f7a4_47 : decode cJ6_bitCount_0f7a4 47 = .ok (.istore_n 0, 1) := by decide +kernel
theorem dJ6_bitCount_0f7a4_48 : decode cJ6_bitCount_0f7a4 48 = .ok (.iload_n 0, 1) := by decide +kernel
theorem dJ6_bitCount_0f7a4_49 : decode cJ6_bitCount_0f7a4 49 = .ok (.bipush 63, 2) := by decide +kernel
theorem dJ6_bitCount_0f7a4_51 : decode cJ6_bitCount_0f7a4 51 = .ok (.iand, 1) := by decide +kernel
theorem dJ6_bitCount_0f7a4_52 : decode cJ6_bitCount_0f7a4 52 = .ok (.ireturn, 1) := by decide +kernel
theorem dJ9_max_7cf53_0 : decode cJ9_max_7cf53 0 = .ok (.iload_n 0, 1) := by decide +kernel
theorem dJ9_max_7cf53_1 : decode cJ9_max_7cf53 1 = .ok (.iload_n 1, 1) := by decide +kernel
theorem dJ9_max_7cf53_2 : decode cJ9_max_7cf53 2 = .ok (.if_icmp .lt 7, 3) := by decide +kernel
theorem dJ9_max_7cf53_5 : decode cJ9_max_7cf53 5 = .ok (.iload_n 0, 1) := by decide +kernel
theorem dJ9_max_7cf53_6 : decode cJ9_max_7cf53 6 = .ok (.goto 4, 3) := by decide +kernel
theorem dJ9_max_7cf53_9 : decode cJ9_max_7cf53 9 = .ok (.iload_n 1, 1) := by decide +kernel
theorem dJ9_max_7cf53_10 : decode cJ9_max_7cf53 10 = .ok (.ireturn, 1) := by decide +kernel
set_option maxRecDepth 20000 in
theorem ggL_key_X7_key : GoodIn wsL_key wsX7_key := goodIn_ca (goodIn_ca (goodIn_r _ [6, 7, 8, 9, 10, 11, 12, 13, 14, 15, 16, 17, 18, 19, 20, 21, 22, 23, 24, 25, 26, 27, 28, 29, 30, 31, 32, 33, 34, 35, 36, 37, 5, 38, 39, 40, 41, 42, 43, 44, 45, 46, 47, 48, 49, 50, 51, 52, 53, 54, 55, 56, 57, 58, 59, 60, 61, 62, 63, 64, 65, 66, 67, 68, 69, 70, 71, 72, 73, 74, 75, 76, 77, 78, 79, 80, 81, 82, 83, 84, 85, 86, 87, 88, 89, 90, 91, 92, 93, 94, 95, 96, 97, 98, 99, 100, 101, 102] (by decide +kernel) (by decide +kernel)) (goodIn_sub (fun _ h => List.mem_cons_of_mem _ (List.mem_append_left _ (List.mem_append_right _ h))) (by decide +kernel))) (goodIn_sub (fun _ h => List.mem_cons_of_mem _ (List.mem_append_right _ h)) (by decide +kernel))
set_option maxRecDepth 20000 in
theorem gL_key_X7_key : GoodIn wsL_key (wsV RL 7 RX7 yX7_key wsX7_key) := goodIn_app (goodIn_of _ (by decide +kernel)) ggL_key_X7_key
theorem dL_key_0 : decode cL_key 0 = .ok (.aload_n 3, 1) := by decide +kernel
theorem dL_key_1 : decode cL_key 1 = .ok (.iconst 0, 1) := by decide +kernel
theorem dL_key_2 : decode cL_key 2 = .ok (.aload_n 0, 1) := by decide +kernel
theorem dL_key_3 : decode cL_key 3 = .ok (.iload_n 1, 1) := by decide +kernel
theorem dL_key_4 : decode cL_key 4 = .ok (.iload_n 2, 1) := by decide +kernel
theorem dL_key_5 : decode cL_key 5 = .ok (.invokevirtual 7, 3) := by decide +kernel
theorem dL_key_8 : decode cL_key 8 = .ok (.i2l, 1) := by decide +kernel
theorem dL_key_9 : decode cL_key 9 = .ok (.lastore, 1) := by decide +kernel
theorem dL_key_10 : decode cL_key 10 = .ok (.goto 7, 3) := by decide +kernel
theorem dL_key_13 : decode cL_key 13 = .ok (.astore 4, 2) := by decide +kernel
theorem dL_key_15 : decode cL_key 15 = .ok (.iconst 1, 1) := by decide +kernel
theorem dL_key_16 : decode cL_key 16 = .ok (.ireturn, 1) := by decide +kernel
theorem dL_key_17 : decode cL_key 17 = .ok (.iconst 0, 1) := by decide +kernel
theorem dL_key_18 : decode cL_key 18 = .ok (.ireturn, 1) := by decide +kernel
set_option maxRecDepth 20000 in
theorem ggL_lock_X7_lock : GoodIn wsL_lock wsX7_lock := goodIn_ca (goodIn_ca (goodIn_r _ [6, 7, 8, 9, 10, 11, 12, 13, 14, 15, 16, 17, 18, 19, 20, 21, 22, 23, 24, 25, 26, 27, 28, 29, 30, 31, 32, 33, 34, 35, 36, 37, 5, 38, 39, 40, 41, 42, 43, 44, 45, 46, 47, 48, 49, 50, 51, 52, 53, 54, 55, 56, 57, 58, 59, 60, 61, 62, 63, 64, 65, 66, 67, 68, 69, 70, 71, 72, 73, 74, 75, 76, 77, 78, 79, 80, 81, 82, 83, 84, 85, 86, 87, 88, 89, 90, 91, 92, 93, 94, 95, 96, 97, 98, 99, 100] (by decide +kernel) (by decide +kernel)) (goodIn_sub (fun _ h => List.mem_cons_of_mem _ (List.mem_append_left _ (List.mem_append_right _ h))) (by decide +kernel))) (goodIn_sub (fun _ h => List.mem_cons_of_mem _ (List.mem_append_right _ h)) (by decide +kernel))
set_option maxRecDepth 20000 in
theorem gL_lock_X7_lock : GoodIn wsL_lock (wsV RL 15 RX7 yX7_lock wsX7_lock) := goodIn_app (goodIn_of _ (by decide +kernel)) ggL_lock_X7_lock
theorem dL_lock_0 : decode cL_lock 0 = .ok (.aload_n 2, 1) := by decide +kernel
theorem dL_lock_1 : decode cL_lock 1 = .ok (.iconst 0, 1) := by decide +kernel
theorem dL_lock_2 : decode cL_lock 2 = .ok (.aload_n 0, 1) := by decide +kernel
theorem dL_lock_3 : decode cL_lock 3 = .ok (.iload_n 1, 1) := by decide +kernel
theorem dL_lock_4 : decode cL_lock 4 = .ok (.invokevirtual 15, 3) := by decide +kernel
theorem dL_lock_7 : decode cL_lock 7 = .ok (.i2l, 1) := by decide +kernel
theorem dL_lock_8 : decode cL_lock 8 = .ok (.lastore, 1) := by decide +kernel
theorem dL_lock_9 : decode cL_lock 9 = .ok (.goto 6, 3) := by decide +kernel
theorem dL_lock_12 : decode cL_lock 12 = .ok (.astore_n 3, 1) := by decide +kernel
theorem dL_lock_13 : decode cL_lock 13 = .ok (.iconst 1, 1) := by decide +kernel
theorem dL_lock_14 : decode cL_lock 14 = .ok (.ireturn, 1) := by decide +kernel
theorem dL_lock_15 : decode cL_lock 15 = .ok (.iconst 0, 1) := by decide +kernel
theorem dL_lock_16 : decode cL_lock 16 = .ok (.ireturn, 1) := by decide +kernel
set_option maxRecDepth 20000 in
theorem ggL_cut_X7_cut : GoodIn wsL_cut wsX7_cut := goodIn_ca (goodIn_ca (goodIn_r _ [6, 7, 8, 9, 10, 11, 12, 13, 14, 15, 16, 17, 18, 19, 20, 21, 22, 23, 24, 25, 26, 27, 28, 29, 30, 31, 32, 33, 34, 35, 36, 37, 38, 39, 40, 41, 42, 43, 44, 45, 46, 47, 48, 5, 49, 50, 51, 52, 53, 54, 55, 56, 57, 58, 59, 60, 61, 62, 63, 64, 65, 66, 67, 68, 69, 70, 71, 72, 73, 74, 75, 76, 77, 78, 79, 80, 81, 82, 83, 84, 85, 86, 87, 88, 89, 90, 91, 92, 93, 94, 95, 96, 97, 98, 99, 100, 101, 102, 103, 104, 105, 106, 107, 108, 109, 110, 111, 112, 113, 114, 115, 116, 117, 118, 119, 120, 121, 122, 123, 124, 125, 126, 127] (by decide +kernel) (by decide +kernel)) (goodIn_sub (fun _ h => List.mem_cons_of_mem _ (List.mem_append_left _ (List.mem_append_right _ h))) (by decide +kernel))) (goodIn_sub (fun _ h => List.mem_cons_of_mem _ (List.mem_append_right _ h)) (by decide +kernel))
set_option maxRecDepth 20000 in
theorem gL_cut_X7_cut : GoodIn wsL_cut (wsV RL 19 RX7 yX7_cut wsX7_cut) := goodIn_app (goodIn_of _ (by decide +kernel)) ggL_cut_X7_cut
theorem dL_cut_0 : decode cL_cut 0 = .ok (.aload_n 3, 1) := by decide +kernel
theorem dL_cut_1 : decode cL_cut 1 = .ok (.iconst 0, 1) := by decide +kernel
theorem dL_cut_2 : decode cL_cut 2 = .ok (.aload_n 0, 1) := by decide +kernel
theorem dL_cut_3 : decode cL_cut 3 = .ok (.iload_n 1, 1) := by decide +kernel
theorem dL_cut_4 : decode cL_cut 4 = .ok (.iload_n 2, 1) := by decide +kernel
theorem dL_cut_5 : decode cL_cut 5 = .ok (.invokevirtual 19, 3) := by decide +kernel
theorem dL_cut_8 : decode cL_cut 8 = .ok (.i2l, 1) := by decide +kernel
theorem dL_cut_9 : decode cL_cut 9 = .ok (.lastore, 1) := by decide +kernel
theorem dL_cut_10 : decode cL_cut 10 = .ok (.goto 7, 3) := by decide +kernel
theorem dL_cut_13 : decode cL_cut 13 = .ok (.astore 4, 2) := by decide +kernel
theorem dL_cut_15 : decode cL_cut 15 = .ok (.iconst 1, 1) := by decide +kernel
theorem dL_cut_16 : decode cL_cut 16 = .ok (.ireturn, 1) := by decide +kernel
theorem dL_cut_17 : decode cL_cut 17 = .ok (.iconst 0, 1) := by decide +kernel
theorem dL_cut_18 : decode cL_cut 18 = .ok (.ireturn, 1) := by decide +kernel
set_option maxRecDepth 20000 in
theorem ggL_bar_X7_bar : GoodIn wsL_bar wsX7_bar := goodIn_ca (goodIn_ca (goodIn_r _ [6, 7, 8, 9, 10, 11, 12, 13, 14, 15, 16, 17, 18, 19, 20, 21, 22, 23, 24, 25, 26, 27, 28, 29, 30, 31, 32, 33, 34, 35, 36, 37, 38, 39, 40, 41, 42, 43, 44, 45, 46, 47, 48, 49, 50, 51, 52, 53, 54, 55, 56, 57, 58, 59, 60, 61, 62, 63, 64, 65, 66, 67, 68, 69, 70, 71, 72, 73, 74, 75, 76, 77, 78, 79, 80, 81, 82, 83, 84, 85, 5, 86, 87, 88, 89, 90, 91, 92, 93, 94, 95, 96, 97, 98, 99, 100, 101, 102, 103, 104, 105, 106, 107, 108, 109, 110, 111, 112, 113, 114, 115, 116, 117, 118, 119, 120, 121, 122, 123, 124, 125, 126, 127, 128, 129, 130, 131, 132, 133, 134, 135, 136, 137] (by decide +kernel) (by decide +kernel)) (goodIn_sub (fun _ h => List.mem_cons_of_mem _ (List.mem_append_left _ (List.mem_append_right _ h))) (by decide +kernel))) (goodIn_sub (fun _ h => List.mem_cons_of_mem _ (List.mem_append_right _ h)) (by decide +kernel))
set_option maxRecDepth 20000 in
theorem gL_bar_X7_bar : GoodIn wsL_bar (wsV RL 22 RX7 yX7_bar wsX7_bar) := goodIn_app (goodIn_of _ (by decide +kernel)) ggL_bar_X7_bar
theorem dL_bar_0 : decode cL_bar 0 = .ok (.aload 4, 2) := by decide +kernel
theorem dL_bar_2 : decode cL_bar 2 = .ok (.iconst 0, 1) := by decide +kernel
theorem dL_bar_3 : decode cL_bar 3 = .ok (.aload_n 0, 1) := by decide +kernel
theorem dL_bar_4 : decode cL_bar 4 = .ok (.iload_n 1, 1) := by decide +kernel
theorem dL_bar_5 : decode cL_bar 5 = .ok (.iload_n 2, 1) := by decide +kernel
theorem dL_bar_6 : decode cL_bar 6 = .ok (.iload_n 3, 1) := by decide +kernel
theorem dL_bar_7 : decode cL_bar 7 = .ok (.invokevirtual 22, 3) := by decide +kernel
theorem dL_bar_10 : decode cL_bar 10 = .ok (.i2l, 1) := by decide +kernel
theorem dL_bar_11 : decode cL_bar 11 = .ok (.lastore, 1) := by decide +kernel
theorem dL_bar_12 : decode cL_bar 12 = .ok (.goto 7, 3) := by decide +kernel
theorem dL_bar_15 : decode cL_bar 15 = .ok (.astore 5, 2) := by decide +kernel
theorem dL_bar_17 : decode cL_bar 17 = .ok (.iconst 1, 1) := by decide +kernel
theorem dL_bar_18 : decode cL_bar 18 = .ok (.ireturn, 1) := by decide +kernel
theorem dL_bar_19 : decode cL_bar 19 = .ok (.iconst 0, 1) := by decide +kernel
theorem dL_bar_20 : decode cL_bar 20 = .ok (.ireturn, 1) := by decide +kernel
set_option maxRecDepth 20000 in
theorem ggL_slack_X7_slack : GoodIn wsL_slack wsX7_slack := goodIn_ca (goodIn_ca (goodIn_r _ [6, 7, 8, 9, 10, 11, 12, 13, 14, 15, 16, 17, 18, 19, 20, 21, 22, 23, 24, 25, 26, 27, 28, 29, 30, 31, 32, 33, 34, 35, 36, 37, 38, 39, 40, 41, 42, 43, 44, 45, 46, 47, 48, 49, 50, 51, 52, 53, 54, 55, 56, 57, 58, 59, 60, 61, 62, 63, 64, 65, 66, 67, 68, 69, 70, 71, 72, 73, 5, 74, 75, 76, 77, 78, 79, 80, 81, 82, 83, 84, 85, 86, 87, 88, 89, 90, 91, 92, 93, 94, 95, 96, 97, 98, 99, 100, 101, 102, 103, 104, 105, 106, 107, 108, 109, 110, 111, 112, 113, 114, 115, 116, 117, 118, 119, 120, 121, 122, 123, 124, 125] (by decide +kernel) (by decide +kernel)) (goodIn_sub (fun _ h => List.mem_cons_of_mem _ (List.mem_append_left _ (List.mem_append_right _ h))) (by decide +kernel))) (goodIn_sub (fun _ h => List.mem_cons_of_mem _ (List.mem_append_right _ h)) (by decide +kernel))
set_option maxRecDepth 20000 in
theorem gL_slack_X7_slack : GoodIn wsL_slack (wsV RL 26 RX7 yX7_slack wsX7_slack) := goodIn_app (goodIn_of _ (by decide +kernel)) ggL_slack_X7_slack
theorem dL_slack_0 : decode cL_slack 0 = .ok (.aload_n 2, 1) := by decide +kernel
theorem dL_slack_1 : decode cL_slack 1 = .ok (.iconst 0, 1) := by decide +kernel
theorem dL_slack_2 : decode cL_slack 2 = .ok (.aload_n 0, 1) := by decide +kernel
theorem dL_slack_3 : decode cL_slack 3 = .ok (.iload_n 1, 1) := by decide +kernel
theorem dL_slack_4 : decode cL_slack 4 = .ok (.invokevirtual 26, 3) := by decide +kernel
theorem dL_slack_7 : decode cL_slack 7 = .ok (.i2l, 1) := by decide +kernel
theorem dL_slack_8 : decode cL_slack 8 = .ok (.lastore, 1) := by decide +kernel
theorem dL_slack_9 : decode cL_slack 9 = .ok (.goto 6, 3) := by decide +kernel
theorem dL_slack_12 : decode cL_slack 12 = .ok (.astore_n 3, 1) := by decide +kernel
theorem dL_slack_13 : decode cL_slack 13 = .ok (.iconst 1, 1) := by decide +kernel
theorem dL_slack_14 : decode cL_slack 14 = .ok (.ireturn, 1) := by decide +kernel
theorem dL_slack_15 : decode cL_slack 15 = .ok (.iconst 0, 1) := by decide +kernel
theorem dL_slack_16 : decode cL_slack 16 = .ok (.ireturn, 1) := by decide +kernel
set_option maxRecDepth 20000 in
theorem ggL_put_X7_put : GoodIn wsL_put wsX7_put := goodIn_ca (goodIn_ca (goodIn_r _ [6, 7, 8, 9, 10, 11, 12, 13, 14, 15, 16, 17, 18, 19, 20, 21, 22, 23, 24, 25, 26, 27, 28, 29, 30, 31, 32, 33, 34, 35, 36, 37, 38, 39, 40, 41, 42, 43, 44, 45, 46, 47, 48, 49, 50, 51, 52, 53, 54, 55, 56, 57, 58, 59, 60, 61, 62, 63, 64, 65, 66, 67, 68, 69, 70, 71, 72, 73, 74, 75, 76, 77, 78, 79, 80, 81, 82, 83, 84, 85, 86, 87, 88, 89, 5, 90, 91, 92, 93, 94, 95, 96, 97, 98, 99, 100, 101, 102, 103, 104, 105, 106, 107, 108, 109, 110, 111, 112, 113, 114, 115, 116, 117, 118, 119, 120, 121, 122, 123, 124, 125, 126, 127, 128, 129, 130, 131, 132, 133, 134, 135, 136, 137, 138, 139, 140, 141] (by decide +kernel) (by decide +kernel)) (goodIn_sub (fun _ h => List.mem_cons_of_mem _ (List.mem_append_left _ (List.mem_append_right _ h))) (by decide +kernel))) (goodIn_sub (fun _ h => List.mem_cons_of_mem _ (List.mem_append_right _ h)) (by decide +kernel))
set_option maxRecDepth 20000 in
theorem gL_put_X7_put : GoodIn wsL_put (wsV RL 29 RX7 yX7_put wsX7_put) := goodIn_app (goodIn_of _ (by decide +kernel)) ggL_put_X7_put
theorem dL_put_0 : decode cL_put 0 = .ok (.aload_n 3, 1) := by decide +kernel
theorem dL_put_1 : decode cL_put 1 = .ok (.iconst 0, 1) := by decide +kernel
theorem dL_put_2 : decode cL_put 2 = .ok (.aload_n 0, 1) := by decide +kernel
theorem dL_put_3 : decode cL_put 3 = .ok (.iload_n 1, 1) := by decide +kernel
theorem dL_put_4 : decode cL_put 4 = .ok (.iload_n 2, 1) := by decide +kernel
theorem dL_put_5 : decode cL_put 5 = .ok (.invokevirtual 29, 3) := by decide +kernel
theorem dL_put_8 : decode cL_put 8 = .ok (.i2l, 1) := by decide +kernel
theorem dL_put_9 : decode cL_put 9 = .ok (.lastore, 1) := by decide +kernel
theorem dL_put_10 : decode cL_put 10 = .ok (.goto 7, 3) := by decide +kernel
theorem dL_put_13 : decode cL_put 13 = .ok (.astore 4, 2) := by decide +kernel
theorem dL_put_15 : decode cL_put 15 = .ok (.iconst 1, 1) := by decide +kernel
theorem dL_put_16 : decode cL_put 16 = .ok (.ireturn, 1) := by decide +kernel
theorem dL_put_17 : decode cL_put 17 = .ok (.iconst 0, 1) := by decide +kernel
theorem dL_put_18 : decode cL_put 18 = .ok (.ireturn, 1) := by decide +kernel
set_option maxRecDepth 20000 in
theorem ggL_take_X7_take : GoodIn wsL_take wsX7_take := goodIn_ca (goodIn_ca (goodIn_r _ [6, 7, 8, 9, 10, 11, 12, 13, 14, 15, 16, 17, 18, 19, 20, 21, 22, 23, 24, 25, 26, 27, 28, 29, 30, 31, 32, 33, 34, 35, 36, 37, 38, 39, 40, 41, 42, 43, 44, 45, 46, 47, 48, 49, 50, 51, 52, 53, 54, 5, 55, 56, 57, 58, 59, 60, 61, 62, 63, 64, 65, 66, 67, 68, 69, 70, 71, 72, 73, 74, 75, 76, 77, 78, 79, 80, 81, 82, 83, 84, 85, 86, 87, 88, 89, 90, 91, 92, 93, 94, 95, 96, 97, 98, 99, 100, 101, 102, 103, 104, 105, 106] (by decide +kernel) (by decide +kernel)) (goodIn_sub (fun _ h => List.mem_cons_of_mem _ (List.mem_append_left _ (List.mem_append_right _ h))) (by decide +kernel))) (goodIn_sub (fun _ h => List.mem_cons_of_mem _ (List.mem_append_right _ h)) (by decide +kernel))
set_option maxRecDepth 20000 in
theorem gL_take_X7_take : GoodIn wsL_take (wsV RL 32 RX7 yX7_take wsX7_take) := goodIn_app (goodIn_of _ (by decide +kernel)) ggL_take_X7_take
theorem dL_take_0 : decode cL_take 0 = .ok (.aload_n 2, 1) := by decide +kernel
theorem dL_take_1 : decode cL_take 1 = .ok (.iconst 0, 1) := by decide +kernel
theorem dL_take_2 : decode cL_take 2 = .ok (.aload_n 0, 1) := by decide +kernel
theorem dL_take_3 : decode cL_take 3 = .ok (.iload_n 1, 1) := by decide +kernel
theorem dL_take_4 : decode cL_take 4 = .ok (.invokevirtual 32, 3) := by decide +kernel
theorem dL_take_7 : decode cL_take 7 = .ok (.i2l, 1) := by decide +kernel
theorem dL_take_8 : decode cL_take 8 = .ok (.lastore, 1) := by decide +kernel
theorem dL_take_9 : decode cL_take 9 = .ok (.goto 6, 3) := by decide +kernel
theorem dL_take_12 : decode cL_take 12 = .ok (.astore_n 3, 1) := by decide +kernel
theorem dL_take_13 : decode cL_take 13 = .ok (.iconst 1, 1) := by decide +kernel
theorem dL_take_14 : decode cL_take 14 = .ok (.ireturn, 1) := by decide +kernel
theorem dL_take_15 : decode cL_take 15 = .ok (.iconst 0, 1) := by decide +kernel
theorem dL_take_16 : decode cL_take 16 = .ok (.ireturn, 1) := by decide +kernel
set_option maxRecDepth 20000 in
theorem ggL_wave_X7_wave : GoodIn wsL_wave wsX7_wave := goodIn_ca (goodIn_ca (goodIn_r _ [6, 7, 8, 9, 10, 11, 12, 13, 14, 15, 16, 17, 18, 19, 20, 21, 22, 23, 24, 25, 26, 27, 28, 29, 30, 31, 32, 33, 34, 5, 35, 36, 37, 38, 39, 40, 41, 42, 43, 44, 45, 46, 47, 48, 49, 50, 51, 52, 53, 54, 55, 56, 57, 58, 59, 60, 61, 62, 63, 64, 65, 66, 67, 68, 69, 70, 71, 72, 73, 74, 75, 76, 77, 78, 79, 80, 81, 82, 83, 84, 85, 86, 87, 88, 89, 90, 91, 92, 93, 94, 95, 96, 97, 98, 99, 100, 101, 102, 103, 104, 105, 106, 107, 108, 109, 110, 111, 112, 113, 114, 115, 116, 117, 118, 119, 120, 121, 122, 123, 124, 125, 126, 127, 128, 129, 130, 131, 132, 133, 134, 135, 136, 137, 138, 139, 140, 141, 142, 143, 144, 145, 146, 147, 148, 149, 150, 151, 152, 153, 154, 155, 156, 157, 158, 159, 160, 161, 162, 163, 164, 165, 166, 167, 168, 169, 170, 171, 172, 173, 174, 175, 176, 177, 178, 179, 180, 181, 182, 183, 184, 185, 186, 187, 188, 189, 190, 191, 192, 193, 194, 195, 196, 197, 198, 199, 200, 201, 202, 203, 204, 205, 206, 207, 208, 209, 210, 211, 212, 213, 214, 215, 216, 217, 218, 219, 220, 221, 222, 223, 224, 225, 226, 227, 228, 229, 230, 231, 232, 233, 234, 235] (by decide +kernel) (by decide +kernel)) (goodIn_sub (fun _ h => List.mem_cons_of_mem _ (List.mem_append_left _ (List.mem_append_right _ h))) (by decide +kernel))) (goodIn_sub (fun _ h => List.mem_cons_of_mem _ (List.mem_append_right _ h)) (by decide +kernel))
set_option maxRecDepth 20000 in
theorem gL_wave_X7_wave : GoodIn wsL_wave (wsV RL 35 RX7 yX7_wave wsX7_wave) := goodIn_app (goodIn_of _ (by decide +kernel)) ggL_wave_X7_wave
theorem dL_wave_0 : decode cL_wave 0 = .ok (.aload_n 1, 1) := by decide +kernel
theorem dL_wave_1 : decode cL_wave 1 = .ok (.iconst 0, 1) := by decide +kernel
theorem dL_wave_2 : decode cL_wave 2 = .ok (.aload_n 0, 1) := by decide +kernel
theorem dL_wave_3 : decode cL_wave 3 = .ok (.invokevirtual 35, 3) := by decide +kernel
theorem dL_wave_6 : decode cL_wave 6 = .ok (.i2l, 1) := by decide +kernel
theorem dL_wave_7 : decode cL_wave 7 = .ok (.lastore, 1) := by decide +kernel
theorem dL_wave_8 : decode cL_wave 8 = .ok (.goto 6, 3) := by decide +kernel
theorem dL_wave_11 : decode cL_wave 11 = .ok (.astore_n 2, 1) := by decide +kernel
theorem dL_wave_12 : decode cL_wave 12 = .ok (.iconst 1, 1) := by decide +kernel
theorem dL_wave_13 : decode cL_wave 13 = .ok (.ireturn, 1) := by decide +kernel
theorem dL_wave_14 : decode cL_wave 14 = .ok (.iconst 0, 1) := by decide +kernel
theorem dL_wave_15 : decode cL_wave 15 = .ok (.ireturn, 1) := by decide +kernel
set_option maxRecDepth 20000 in
theorem ggL_keyOf_X7_keyOf : GoodIn wsL_keyOf wsX7_keyOf := goodIn_ca (goodIn_ca (goodIn_ca (goodIn_r _ [7, 8, 9, 10, 11, 12, 13, 14, 6, 15, 16, 17, 18, 19, 20, 21, 22, 23, 24, 25, 26, 27, 28, 29, 30, 31, 32, 33, 34, 35, 36, 37, 38, 39, 40, 41, 42, 43, 44, 45, 46, 47, 48, 49, 50, 51, 52, 53, 54, 55, 56, 57, 58, 59, 60, 61, 62, 63, 64, 65, 66, 67, 68, 69, 70, 71, 72, 73, 74, 75, 76, 77, 78, 79, 80, 81, 82, 83, 84, 85, 86, 87, 88, 89, 90, 91, 92, 93, 94, 95, 96, 97, 98, 99, 100, 101, 102, 103, 104, 105, 106, 107, 108, 109, 110, 111, 112, 113, 114, 115, 116, 117, 118, 119, 120, 121, 122, 123, 124, 125] (by decide +kernel) (by decide +kernel)) (goodIn_sub (fun _ h => List.mem_cons_of_mem _ (List.mem_append_left _ (List.mem_append_right _ h))) (by decide +kernel))) (goodIn_sub (fun _ h => List.mem_cons_of_mem _ (List.mem_append_right _ h)) (by decide +kernel))) (goodIn_sub (fun _ h => List.mem_cons_of_mem _ (List.mem_append_left _ (List.mem_append_left _ (List.mem_append_right _ h)))) (by decide +kernel))
set_option maxRecDepth 20000 in
theorem gL_keyOf_X7_keyOf : GoodIn wsL_keyOf (wsV RL 39 RX7 yX7_keyOf wsX7_keyOf) := goodIn_app (goodIn_of _ (by decide +kernel)) ggL_keyOf_X7_keyOf
theorem dL_keyOf_0 : decode cL_keyOf 0 = .ok (.aload_n 3, 1) := by decide +kernel
theorem dL_keyOf_1 : decode cL_keyOf 1 = .ok (.iconst 0, 1) := by decide +kernel
theorem dL_keyOf_2 : decode cL_keyOf 2 = .ok (.aload_n 0, 1) := by decide +kernel
theorem dL_keyOf_3 : decode cL_keyOf 3 = .ok (.iload_n 1, 1) := by decide +kernel
theorem dL_keyOf_4 : decode cL_keyOf 4 = .ok (.iload_n 2, 1) := by decide +kernel
theorem dL_keyOf_5 : decode cL_keyOf 5 = .ok (.invokevirtual 39, 3) := by decide +kernel
theorem dL_keyOf_8 : decode cL_keyOf 8 = .ok (.i2l, 1) := by decide +kernel
theorem dL_keyOf_9 : decode cL_keyOf 9 = .ok (.lastore, 1) := by decide +kernel
theorem dL_keyOf_10 : decode cL_keyOf 10 = .ok (.goto 11, 3) := by decide +kernel
theorem dL_keyOf_13 : decode cL_keyOf 13 = .ok (.astore 4, 2) := by decide +kernel
theorem dL_keyOf_15 : decode cL_keyOf 15 = .ok (.iconst 1, 1) := by decide +kernel
theorem dL_keyOf_16 : decode cL_keyOf 16 = .ok (.ireturn, 1) := by decide +kernel
theorem dL_keyOf_17 : decode cL_keyOf 17 = .ok (.astore 4, 2) := by decide +kernel
theorem dL_keyOf_19 : decode cL_keyOf 19 = .ok (.iconst 2, 1) := by decide +kernel
theorem dL_keyOf_20 : decode cL_keyOf 20 = .ok (.ireturn, 1) := by decide +kernel
theorem dL_keyOf_21 : decode cL_keyOf 21 = .ok (.iconst 0, 1) := by decide +kernel
theorem dL_keyOf_22 : decode cL_keyOf 22 = .ok (.ireturn, 1) := by decide +kernel
set_option maxRecDepth 20000 in
theorem ggL_lockOf_X7_lockOf : GoodIn wsL_lockOf wsX7_lockOf := goodIn_ca (goodIn_ca (goodIn_ca (goodIn_r _ [7, 8, 9, 10, 11, 12, 13, 6, 14, 15, 16, 17, 18, 19, 20, 21, 22, 23, 24, 25, 26, 27, 28, 29, 30, 31, 32, 33, 34, 35, 36, 37, 38, 39, 40, 41, 42, 43, 44, 45, 46, 47, 48, 49, 50, 51, 52, 53, 54, 55, 56, 57, 58, 59, 60, 61, 62, 63, 64, 65, 66, 67, 68, 69, 70, 71, 72, 73, 74, 75, 76, 77, 78, 79, 80, 81, 82, 83, 84, 85, 86, 87] (by decide +kernel) (by decide +kernel)) (goodIn_sub (fun _ h => List.mem_cons_of_mem _ (List.mem_append_left _ (List.mem_append_right _ h))) (by decide +kernel))) (goodIn_sub (fun _ h => List.mem_cons_of_mem _ (List.mem_append_right _ h)) (by decide +kernel))) (goodIn_sub (fun _ h => List.mem_cons_of_mem _ (List.mem_append_left _ (List.mem_append_left _ (List.mem_append_right _ h)))) (by decide +kernel))
set_option maxRecDepth 20000 in
theorem gL_lockOf_X7_lockOf : GoodIn wsL_lockOf (wsV RL 46 RX7 yX7_lockOf wsX7_lockOf) := goodIn_app (goodIn_of _ (by decide +kernel)) ggL_lockOf_X7_lockOf
theorem dL_lockOf_0 : decode cL_lockOf 0 = .ok (.aload_n 3, 1) := by decide +kernel
theorem dL_lockOf_1 : decode cL_lockOf 1 = .ok (.iconst 0, 1) := by decide +kernel
theorem dL_lockOf_2 : decode cL_lockOf 2 = .ok (.aload_n 0, 1) := by decide +kernel
theorem dL_lockOf_3 : decode cL_lockOf 3 = .ok (.iload_n 1, 1) := by decide +kernel
theorem dL_lockOf_4 : decode cL_lockOf 4 = .ok (.iload_n 2, 1) := by decide +kernel
theorem dL_lockOf_5 : decode cL_lockOf 5 = .ok (.invokevirtual 46, 3) := by decide +kernel
theorem dL_lockOf_8 : decode cL_lockOf 8 = .ok (.i2l, 1) := by decide +kernel
theorem dL_lockOf_9 : decode cL_lockOf 9 = .ok (.lastore, 1) := by decide +kernel
theorem dL_lockOf_10 : decode cL_lockOf 10 = .ok (.goto 11, 3) := by decide +kernel
theorem dL_lockOf_13 : decode cL_lockOf 13 = .ok (.astore 4, 2) := by decide +kernel
theorem dL_lockOf_15 : decode cL_lockOf 15 = .ok (.iconst 1, 1) := by decide +kernel
theorem dL_lockOf_16 : decode cL_lockOf 16 = .ok (.ireturn, 1) := by decide +kernel
theorem dL_lockOf_17 : decode cL_lockOf 17 = .ok (.astore 4, 2) := by decide +kernel
theorem dL_lockOf_19 : decode cL_lockOf 19 = .ok (.iconst 2, 1) := by decide +kernel
theorem dL_lockOf_20 : decode cL_lockOf 20 = .ok (.ireturn, 1) := by decide +kernel
theorem dL_lockOf_21 : decode cL_lockOf 21 = .ok (.iconst 0, 1) := by decide +kernel
theorem dL_lockOf_22 : decode cL_lockOf 22 = .ok (.ireturn, 1) := by decide +kernel
set_option maxRecDepth 20000 in
theorem ggL_fits_X7_fits : GoodIn wsL_fits wsX7_fits := goodIn_ca (goodIn_ca (goodIn_r _ [6, 7, 8, 9, 10, 5, 11, 12, 13, 14, 15, 16, 17, 18, 19, 20, 21, 22, 23, 24, 25, 26, 27, 28, 29, 30, 31, 32, 33, 34, 35, 36, 37, 38, 39, 40, 41, 42, 43, 44, 45, 46, 47, 48, 49, 50, 51, 52, 53, 54, 55, 56, 57, 58, 59, 60, 61, 62, 63, 64, 65, 66, 67, 68, 69, 70, 71] (by decide +kernel) (by decide +kernel)) (goodIn_sub (fun _ h => List.mem_cons_of_mem _ (List.mem_append_right _ h)) (by decide +kernel))) (goodIn_sub (fun _ h => List.mem_cons_of_mem _ (List.mem_append_left _ (List.mem_append_right _ h))) (by decide +kernel))
set_option maxRecDepth 20000 in
theorem gL_fits_X7_fits : GoodIn wsL_fits (wsV RL 49 RX7 yX7_fits wsX7_fits) := goodIn_app (goodIn_of _ (by decide +kernel)) ggL_fits_X7_fits
theorem dL_fits_0 : decode cL_fits 0 = .ok (.aload_n 3, 1) := by decide +kernel
theorem dL_fits_1 : decode cL_fits 1 = .ok (.iconst 0, 1) := by decide +kernel
theorem dL_fits_2 : decode cL_fits 2 = .ok (.aload_n 0, 1) := by decide +kernel
theorem dL_fits_3 : decode cL_fits 3 = .ok (.iload_n 1, 1) := by decide +kernel
theorem dL_fits_4 : decode cL_fits 4 = .ok (.iload_n 2, 1) := by decide +kernel
theorem dL_fits_5 : decode cL_fits 5 = .ok (.invokevirtual 49, 3) := by decide +kernel
theorem dL_fits_8 : decode cL_fits 8 = .ok (.ifCond .eq 7, 3) := by decide +kernel
theorem dL_fits_11 : decode cL_fits 11 = .ok (.lconst 1, 1) := by decide +kernel
theorem dL_fits_12 : decode cL_fits 12 = .ok (.goto 4, 3) := by decide +kernel
theorem dL_fits_15 : decode cL_fits 15 = .ok (.lconst 0, 1) := by decide +kernel
theorem dL_fits_16 : decode cL_fits 16 = .ok (.lastore, 1) := by decide +kernel
theorem dL_fits_17 : decode cL_fits 17 = .ok (.goto 7, 3) := by decide +kernel
theorem dL_fits_20 : decode cL_fits 20 = .ok (.astore 4, 2) := by decide +kernel
theorem dL_fits_22 : decode cL_fits 22 = .ok (.iconst 1, 1) := by decide +kernel
theorem dL_fits_23 : decode cL_fits 23 = .ok (.ireturn, 1) := by decide +kernel
theorem dL_fits_24 : decode cL_fits 24 = .ok (.iconst 0, 1) := by decide +kernel
theorem dL_fits_25 : decode cL_fits 25 = .ok (.ireturn, 1) := by decide +kernel
set_option maxRecDepth 20000 in
theorem ggL_isBarred_X7_isBarred : GoodIn wsL_isBarred wsX7_isBarred := goodIn_ca (goodIn_ca (goodIn_r _ [6, 7, 8, 9, 10, 5, 11, 12, 13, 14, 15, 16, 17, 18, 19, 20, 21, 22, 23, 24, 25, 26, 27, 28, 29, 30, 31, 32, 33, 34, 35, 36, 37, 38, 39, 40, 41, 42, 43, 44, 45, 46, 47, 48, 49, 50, 51, 52, 53, 54, 55, 56, 57, 58, 59, 60, 61, 62, 63, 64, 65] (by decide +kernel) (by decide +kernel)) (goodIn_sub (fun _ h => List.mem_cons_of_mem _ (List.mem_append_right _ h)) (by decide +kernel))) (goodIn_sub (fun _ h => List.mem_cons_of_mem _ (List.mem_append_left _ (List.mem_append_right _ h))) (by decide +kernel))
set_option maxRecDepth 20000 in
theorem gL_isBarred_X7_isBarred : GoodIn wsL_isBarred (wsV RL 53 RX7 yX7_isBarred wsX7_isBarred) := goodIn_app (goodIn_of _ (by decide +kernel)) ggL_isBarred_X7_isBarred
theorem dL_isBarred_0 : decode cL_isBarred 0 = .ok (.aload_n 3, 1) := by decide +kernel
theorem dL_isBarred_1 : decode cL_isBarred 1 = .ok (.iconst 0, 1) := by decide +kernel
theorem dL_isBarred_2 : decode cL_isBarred 2 = .ok (.aload_n 0, 1) := by decide +kernel
theorem dL_isBarred_3 : decode cL_isBarred 3 = .ok (.iload_n 1, 1) := by decide +kernel
theorem dL_isBarred_4 : decode cL_isBarred 4 = .ok (.iload_n 2, 1) := by decide +kernel
theorem dL_isBarred_5 : decode cL_isBarred 5 = .ok (.invokevirtual 53, 3) := by decide +kernel
theorem dL_isBarred_8 : decode cL_isBarred 8 = .ok (.ifCond .eq 7, 3) := by decide +kernel
theorem dL_isBarred_11 : decode cL_isBarred 11 = .ok (.lconst 1, 1) := by decide +kernel
theorem dL_isBarred_12 : decode cL_isBarred 12 = .ok (.goto 4, 3) := by decide +kernel
theorem dL_isBarred_15 : decode cL_isBarred 15 = .ok (.lconst 0, 1) := by decide +kernel
theorem dL_isBarred_16 : decode cL_isBarred 16 = .ok (.lastore, 1) := by decide +kernel
theorem dL_isBarred_17 : decode cL_isBarred 17 = .ok (.goto 7, 3) := by decide +kernel
theorem dL_isBarred_20 : decode cL_isBarred 20 = .ok (.astore 4, 2) := by decide +kernel
theorem dL_isBarred_22 : decode cL_isBarred 22 = .ok (.iconst 1, 1) := by decide +kernel
theorem dL_isBarred_23 : decode cL_isBarred 23 = .ok (.ireturn, 1) := by decide +kernel
theorem dL_isBarred_24 : decode cL_isBarred 24 = .ok (.iconst 0, 1) := by decide +kernel
theorem dL_isBarred_25 : decode cL_isBarred 25 = .ok (.ireturn, 1) := by decide +kernel
set_option maxRecDepth 20000 in
theorem ggL_costFor_X7_costFor : GoodIn wsL_costFor wsX7_costFor := goodIn_ca (goodIn_ca (goodIn_r _ [6, 7, 8, 9, 10, 5, 11, 12, 13, 14, 15, 16, 17, 18, 19, 20, 21, 22, 23, 24, 25, 26, 27, 28, 29, 30, 31, 32, 33, 34, 35, 36, 37, 38, 39, 40, 41, 42, 43, 44, 45, 46, 47, 48, 49, 50, 51, 52, 53, 54, 55, 56, 57, 58, 59, 60, 61, 62, 63, 64, 65, 66, 67, 68, 69, 70, 71, 72, 73, 74, 75, 76, 77, 78, 79, 80, 81, 82, 83, 84, 85, 86] (by decide +kernel) (by decide +kernel)) (goodIn_sub (fun _ h => List.mem_cons_of_mem _ (List.mem_append_right _ h)) (by decide +kernel))) (goodIn_sub (fun _ h => List.mem_cons_of_mem _ (List.mem_append_left _ (List.mem_append_right _ h))) (by decide +kernel))
set_option maxRecDepth 20000 in
theorem gL_costFor_X7_costFor : GoodIn wsL_costFor (wsV RL 56 RX7 yX7_costFor wsX7_costFor) := goodIn_app (goodIn_of _ (by decide +kernel)) ggL_costFor_X7_costFor
theorem dL_costFor_0 : decode cL_costFor 0 = .ok (.aload_n 3, 1) := by decide +kernel
theorem dL_costFor_1 : decode cL_costFor 1 = .ok (.iconst 0, 1) := by decide +kernel
theorem dL_costFor_2 : decode cL_costFor 2 = .ok (.aload_n 0, 1) := by decide +kernel
theorem dL_costFor_3 : decode cL_costFor 3 = .ok (.iload_n 1, 1) := by decide +kernel
theorem dL_costFor_4 : decode cL_costFor 4 = .ok (.iload_n 2, 1) := by decide +kernel
theorem dL_costFor_5 : decode cL_costFor 5 = .ok (.invokevirtual 56, 3) := by decide +kernel
theorem dL_costFor_8 : decode cL_costFor 8 = .ok (.i2l, 1) := by decide +kernel
theorem dL_costFor_9 : decode cL_costFor 9 = .ok (.lastore, 1) := by decide +kernel
theorem dL_costFor_10 : decode cL_costFor 10 = .ok (.goto 7, 3) := by decide +kernel
theorem dL_costFor_13 : decode cL_costFor 13 = .ok (.astore 4, 2) := by decide +kernel
theorem dL_costFor_15 : decode cL_costFor 15 = .ok (.iconst 1, 1) := by decide +kernel
theorem dL_costFor_16 : decode cL_costFor 16 = .ok (.ireturn, 1) := by decide +kernel
theorem dL_costFor_17 : decode cL_costFor 17 = .ok (.iconst 0, 1) := by decide +kernel
theorem dL_costFor_18 : decode cL_costFor 18 = .ok (.ireturn, 1) := by decide +kernel
set_option maxRecDepth 20000 in
theorem ggL_cheapest_X7_cheapest : GoodIn wsL_cheapest wsX7_cheapest := goodIn_ca (goodIn_ca (goodIn_ca (goodIn_r _ [7, 8, 9, 10, 11, 12, 13, 6, 14, 15, 16, 17, 18, 19, 20, 21, 22, 23, 24, 25, 26, 27, 28, 29, 30, 31, 32, 33, 34, 35, 36, 37, 38, 39, 40, 41, 42, 43, 44, 45, 46, 47, 48, 49, 50, 51, 52, 53, 54, 55, 56, 57, 58, 59, 60, 61, 62, 63, 64, 65, 66, 67, 68, 69, 70, 71, 72, 73, 74, 75, 76, 77, 78, 79, 80, 81, 82, 83, 84, 85, 86, 87, 88, 89, 90, 91, 92, 93, 94, 95, 96, 97, 98, 99, 100, 101] (by decide +kernel) (by decide +kernel)) (goodIn_sub (fun _ h => List.mem_cons_of_mem _ (List.mem_append_left _ (List.mem_append_right _ h))) (by decide +kernel))) (goodIn_sub (fun _ h => List.mem_cons_of_mem _ (List.mem_append_right _ h)) (by decide +kernel))) (goodIn_sub (fun _ h => List.mem_cons_of_mem _ (List.mem_append_left _ (List.mem_append_left _ (List.mem_append_right _ h)))) (by decide +kernel))
set_option maxRecDepth 20000 in
theorem gL_cheapest_X7_cheapest : GoodIn wsL_cheapest (wsV RL 59 RX7 yX7_cheapest wsX7_cheapest) := goodIn_app (goodIn_of _ (by decide +kernel)) ggL_cheapest_X7_cheapest
theorem dL_cheapest_0 : decode cL_cheapest 0 = .ok (.aload_n 3, 1) := by decide +kernel
theorem dL_cheapest_1 : decode cL_cheapest 1 = .ok (.iconst 0, 1) := by decide +kernel
theorem dL_cheapest_2 : decode cL_cheapest 2 = .ok (.aload_n 0, 1) := by decide +kernel
theorem dL_cheapest_3 : decode cL_cheapest 3 = .ok (.iload_n 1, 1) := by decide +kernel
theorem dL_cheapest_4 : decode cL_cheapest 4 = .ok (.iload_n 2, 1) := by decide +kernel
theorem dL_cheapest_5 : decode cL_cheapest 5 = .ok (.invokevirtual 59, 3) := by decide +kernel
theorem dL_cheapest_8 : decode cL_cheapest 8 = .ok (.i2l, 1) := by decide +kernel
theorem dL_cheapest_9 : decode cL_cheapest 9 = .ok (.lastore, 1) := by decide +kernel
theorem dL_cheapest_10 : decode cL_cheapest 10 = .ok (.goto 11, 3) := by decide +kernel
theorem dL_cheapest_13 : decode cL_cheapest 13 = .ok (.astore 4, 2) := by decide +kernel
theorem dL_cheapest_15 : decode cL_cheapest 15 = .ok (.iconst 1, 1) := by decide +kernel
theorem dL_cheapest_16 : decode cL_cheapest 16 = .ok (.ireturn, 1) := by decide +kernel
theorem dL_cheapest_17 : decode cL_cheapest 17 = .ok (.astore 4, 2) := by decide +kernel
theorem dL_cheapest_19 : decode cL_cheapest 19 = .ok (.iconst 2, 1) := by decide +kernel
theorem dL_cheapest_20 : decode cL_cheapest 20 = .ok (.ireturn, 1) := by decide +kernel
theorem dL_cheapest_21 : decode cL_cheapest 21 = .ok (.iconst 0, 1) := by decide +kernel
theorem dL_cheapest_22 : decode cL_cheapest 22 = .ok (.ireturn, 1) := by decide +kernel
set_option maxRecDepth 20000 in
theorem ggL_length_X7_length : GoodIn wsL_length wsX7_length := goodIn_ca (goodIn_ca (goodIn_r _ [6, 7, 8, 9, 10, 11, 12, 13, 14, 15, 16, 17, 18, 19, 20, 21, 22, 23, 24, 25, 26, 27, 28, 29, 30, 31, 32, 33, 34, 35, 36, 37, 38, 39, 40, 41, 42, 43, 44, 45, 46, 47, 48, 49, 50, 51, 52, 53, 54, 55, 56, 57, 58, 59, 60, 61, 62, 63, 64, 65, 66, 67, 68, 69, 70, 71, 72, 73, 74, 75, 76, 77, 78, 79, 80, 81, 82, 83, 84, 85, 86, 87, 88, 89, 90, 91, 92, 93, 94, 95, 96, 97] (by decide +kernel) (by decide +kernel)) (goodIn_sub (fun _ h => List.mem_cons_of_mem _ (List.mem_append_right _ h)) (by decide +kernel))) (goodIn_sub (fun _ h => List.mem_cons_of_mem _ (List.mem_append_left _ (List.mem_append_right _ h))) (by decide +kernel))
set_option maxRecDepth 20000 in
theorem gL_length_X7_length : GoodIn wsL_length (wsV RL 64 RX7 yX7_length wsX7_length) := goodIn_app (goodIn_of _ (by decide +kernel)) ggL_length_X7_length
theorem dL_length_0 : decode cL_length 0 = .ok (.aload_n 1, 1) := by decide +kernel
theorem dL_length_1 : decode cL_length 1 = .ok (.iconst 0, 1) := by decide +kernel
theorem dL_length_2 : decode cL_length 2 = .ok (.aload_n 0, 1) := by decide +kernel
theorem dL_length_3 : decode cL_length 3 = .ok (.invokevirtual 64, 3) := by decide +kernel
theorem dL_length_6 : decode cL_length 6 = .ok (.i2l, 1) := by decide +kernel
theorem dL_length_7 : decode cL_length 7 = .ok (.lastore, 1) := by decide +kernel
theorem dL_length_8 : decode cL_length 8 = .ok (.goto 6, 3) := by decide +kernel
theorem dL_length_11 : decode cL_length 11 = .ok (.astore_n 2, 1) := by decide +kernel
theorem dL_length_12 : decode cL_length 12 = .ok (.iconst 1, 1) := by decide +kernel
theorem dL_length_13 : decode cL_length 13 = .ok (.ireturn, 1) := by decide +kernel
theorem dL_length_14 : decode cL_length 14 = .ok (.iconst 0, 1) := by decide +kernel
theorem dL_length_15 : decode cL_length 15 = .ok (.ireturn, 1) := by decide +kernel
set_option maxRecDepth 20000 in
theorem ggL_canBeOpen_X7_canBeOpen : GoodIn wsL_canBeOpen wsX7_canBeOpen := goodIn_ca (goodIn_ca (goodIn_r _ [6, 7, 8, 9, 10, 5, 11, 12, 13, 14, 15, 16, 17, 18, 19, 20, 21, 22, 23, 24, 25, 26, 27, 28, 29, 30, 31, 32, 33, 34, 35, 36, 37, 38, 39, 40, 41, 42, 43, 44, 45, 46, 47, 48, 49, 50, 51, 52, 53, 54, 55, 56, 57, 58, 59, 60, 61, 62, 63, 64, 65, 66, 67, 68, 69, 70] (by decide +kernel) (by decide +kernel)) (goodIn_sub (fun _ h => List.mem_cons_of_mem _ (List.mem_append_right _ h)) (by decide +kernel))) (goodIn_sub (fun _ h => List.mem_cons_of_mem _ (List.mem_append_left _ (List.mem_append_right _ h))) (by decide +kernel))
set_option maxRecDepth 20000 in
theorem gL_canBeOpen_X7_canBeOpen : GoodIn wsL_canBeOpen (wsV RL 67 RX7 yX7_canBeOpen wsX7_canBeOpen) := goodIn_app (goodIn_of _ (by decide +kernel)) ggL_canBeOpen_X7_canBeOpen
theorem dL_canBeOpen_0 : decode cL_canBeOpen 0 = .ok (.aload_n 2, 1) := by decide +kernel
theorem dL_canBeOpen_1 : decode cL_canBeOpen 1 = .ok (.iconst 0, 1) := by decide +kernel
theorem dL_canBeOpen_2 : decode cL_canBeOpen 2 = .ok (.aload_n 0, 1) := by decide +kernel
theorem dL_canBeOpen_3 : decode cL_canBeOpen 3 = .ok (.iload_n 1, 1) := by decide +kernel
theorem dL_canBeOpen_4 : decode cL_canBeOpen 4 = .ok (.invokevirtual 67, 3) := by decide +kernel
theorem dL_canBeOpen_7 : decode cL_canBeOpen 7 = .ok (.ifCond .eq 7, 3) := by decide +kernel
theorem dL_canBeOpen_10 : decode cL_canBeOpen 10 = .ok (.lconst 1, 1) := by decide +kernel
theorem dL_canBeOpen_11 : decode cL_canBeOpen 11 = .ok (.goto 4, 3) := by decide +kernel
theorem dL_canBeOpen_14 : decode cL_canBeOpen 14 = .ok (.lconst 0, 1) := by decide +kernel
theorem dL_canBeOpen_15 : decode cL_canBeOpen 15 = .ok (.lastore, 1) := by decide +kernel
theorem dL_canBeOpen_16 : decode cL_canBeOpen 16 = .ok (.goto 6, 3) := by decide +kernel
theorem dL_canBeOpen_19 : decode cL_canBeOpen 19 = .ok (.astore_n 3, 1) := by decide +kernel
theorem dL_canBeOpen_20 : decode cL_canBeOpen 20 = .ok (.iconst 1, 1) := by decide +kernel
theorem dL_canBeOpen_21 : decode cL_canBeOpen 21 = .ok (.ireturn, 1) := by decide +kernel
theorem dL_canBeOpen_22 : decode cL_canBeOpen 22 = .ok (.iconst 0, 1) := by decide +kernel
theorem dL_canBeOpen_23 : decode cL_canBeOpen 23 = .ok (.ireturn, 1) := by decide +kernel
set_option maxRecDepth 20000 in
theorem ggL_isNeeded_X7_isNeeded : GoodIn wsL_isNeeded wsX7_isNeeded := goodIn_ca (goodIn_ca (goodIn_r _ [6, 7, 8, 9, 10, 11, 5, 12, 13, 14, 15, 16, 17, 18, 19, 20, 21, 22, 23, 24, 25, 26, 27, 28, 29, 30, 31, 32, 33, 34, 35, 36, 37, 38, 39, 40, 41, 42, 43, 44, 45, 46, 47, 48, 49, 50, 51, 52, 53, 54, 55, 56, 57, 58, 59, 60, 61, 62, 63, 64, 65, 66, 67, 68, 69, 70, 71, 72, 73, 74, 75, 76, 77, 78, 79, 80, 81, 82, 83, 84, 85] (by decide +kernel) (by decide +kernel)) (goodIn_sub (fun _ h => List.mem_cons_of_mem _ (List.mem_append_right _ h)) (by decide +kernel))) (goodIn_sub (fun _ h => List.mem_cons_of_mem _ (List.mem_append_left _ (List.mem_append_right _ h))) (by decide +kernel))
set_option maxRecDepth 20000 in
theorem gL_isNeeded_X7_isNeeded : GoodIn wsL_isNeeded (wsV RL 71 RX7 yX7_isNeeded wsX7_isNeeded) := goodIn_app (goodIn_of _ (by decide +kernel)) ggL_isNeeded_X7_isNeeded
theorem dL_isNeeded_0 : decode cL_isNeeded 0 = .ok (.aload_n 2, 1) := by decide +kernel
theorem dL_isNeeded_1 : decode cL_isNeeded 1 = .ok (.iconst 0, 1) := by decide +kernel
theorem dL_isNeeded_2 : decode cL_isNeeded 2 = .ok (.aload_n 0, 1) := by decide +kernel
theorem dL_isNeeded_3 : decode cL_isNeeded 3 = .ok (.iload_n 1, 1) := by decide +kernel
theorem dL_isNeeded_4 : decode cL_isNeeded 4 = .ok (.invokevirtual 71, 3) := by decide +kernel
theorem dL_isNeeded_7 : decode cL_isNeeded 7 = .ok (.ifCond .eq 7, 3) := by decide +kernel
theorem dL_isNeeded_10 : decode cL_isNeeded 10 = .ok (.lconst 1, 1) := by decide +kernel
theorem dL_isNeeded_11 : decode cL_isNeeded 11 = .ok (.goto 4, 3) := by decide +kernel
theorem dL_isNeeded_14 : decode cL_isNeeded 14 = .ok (.lconst 0, 1) := by decide +kernel
theorem dL_isNeeded_15 : decode cL_isNeeded 15 = .ok (.lastore, 1) := by decide +kernel
theorem dL_isNeeded_16 : decode cL_isNeeded 16 = .ok (.goto 6, 3) := by decide +kernel
theorem dL_isNeeded_19 : decode cL_isNeeded 19 = .ok (.astore_n 3, 1) := by decide +kernel
theorem dL_isNeeded_20 : decode cL_isNeeded 20 = .ok (.iconst 1, 1) := by decide +kernel
theorem dL_isNeeded_21 : decode cL_isNeeded 21 = .ok (.ireturn, 1) := by decide +kernel
theorem dL_isNeeded_22 : decode cL_isNeeded 22 = .ok (.iconst 0, 1) := by decide +kernel
theorem dL_isNeeded_23 : decode cL_isNeeded 23 = .ok (.ireturn, 1) := by decide +kernel
set_option maxRecDepth 20000 in
theorem ggL_porterOf_X7_porterOf : GoodIn wsL_porterOf wsX7_porterOf := goodIn_ca (goodIn_ca (goodIn_r _ [6, 7, 8, 9, 10, 11, 5, 12, 13, 14, 15, 16, 17, 18, 19, 20, 21, 22, 23, 24, 25, 26, 27, 28, 29, 30, 31, 32, 33, 34, 35, 36, 37, 38, 39, 40, 41, 42, 43, 44, 45, 46, 47, 48, 49, 50, 51, 52, 53, 54, 55, 56, 57, 58, 59, 60, 61, 62, 63, 64, 65, 66, 67, 68, 69, 70, 71] (by decide +kernel) (by decide +kernel)) (goodIn_sub (fun _ h => List.mem_cons_of_mem _ (List.mem_append_right _ h)) (by decide +kernel))) (goodIn_sub (fun _ h => List.mem_cons_of_mem _ (List.mem_append_left _ (List.mem_append_right _ h))) (by decide +kernel))
set_option maxRecDepth 20000 in
theorem gL_porterOf_X7_porterOf : GoodIn wsL_porterOf (wsV RL 74 RX7 yX7_porterOf wsX7_porterOf) := goodIn_app (goodIn_of _ (by decide +kernel)) ggL_porterOf_X7_porterOf
theorem dL_porterOf_0 : decode cL_porterOf 0 = .ok (.aload_n 3, 1) := by decide +kernel
theorem dL_porterOf_1 : decode cL_porterOf 1 = .ok (.iconst 0, 1) := by decide +kernel
theorem dL_porterOf_2 : decode cL_porterOf 2 = .ok (.aload_n 0, 1) := by decide +kernel
theorem dL_porterOf_3 : decode cL_porterOf 3 = .ok (.iload_n 1, 1) := by decide +kernel
theorem dL_porterOf_4 : decode cL_porterOf 4 = .ok (.iload_n 2, 1) := by decide +kernel
theorem dL_porterOf_5 : decode cL_porterOf 5 = .ok (.invokevirtual 74, 3) := by decide +kernel
theorem dL_porterOf_8 : decode cL_porterOf 8 = .ok (.i2l, 1) := by decide +kernel
theorem dL_porterOf_9 : decode cL_porterOf 9 = .ok (.lastore, 1) := by decide +kernel
theorem dL_porterOf_10 : decode cL_porterOf 10 = .ok (.goto 7, 3) := by decide +kernel
theorem dL_porterOf_13 : decode cL_porterOf 13 = .ok (.astore 4, 2) := by decide +kernel
theorem dL_porterOf_15 : decode cL_porterOf 15 = .ok (.iconst 1, 1) := by decide +kernel
theorem dL_porterOf_16 : decode cL_porterOf 16 = .ok (.ireturn, 1) := by decide +kernel
theorem dL_porterOf_17 : decode cL_porterOf 17 = .ok (.iconst 0, 1) := by decide +kernel
theorem dL_porterOf_18 : decode cL_porterOf 18 = .ok (.ireturn, 1) := by decide +kernel
set_option maxRecDepth 20000 in
theorem ggL_ranked_X7_ranked : GoodIn wsL_ranked wsX7_ranked := goodIn_ca (goodIn_ca (goodIn_r _ [6, 7, 8, 9, 10, 11, 12, 13, 14, 15, 16, 17, 18, 19, 20, 21, 22, 23, 24, 25, 26, 27, 28, 29, 30, 31, 32, 33, 34, 35, 36, 37, 38, 39, 40, 41, 42, 43, 44, 45, 46, 47, 48, 49, 50, 51, 52, 53, 54, 55, 56, 57, 58, 59, 60, 61, 62, 63, 64, 65, 66, 67, 68, 69, 70, 71, 72, 73, 74, 75, 76, 77, 78, 79, 80, 81] (by decide +kernel) (by decide +kernel)) (goodIn_sub (fun _ h => List.mem_cons_of_mem _ (List.mem_append_right _ h)) (by decide +kernel))) (goodIn_sub (fun _ h => List.mem_cons_of_mem _ (List.mem_append_left _ (List.mem_append_right _ h))) (by decide +kernel))
set_option maxRecDepth 20000 in
theorem gL_ranked_X7_ranked : GoodIn wsL_ranked (wsV RL 77 RX7 yX7_ranked wsX7_ranked) := goodIn_app (goodIn_of _ (by decide +kernel)) ggL_ranked_X7_ranked
theorem dL_ranked_0 : decode cL_ranked 0 = .ok (.aload_n 2, 1) := by decide +kernel
theorem dL_ranked_1 : decode cL_ranked 1 = .ok (.iconst 0, 1) := by decide +kernel
theorem dL_ranked_2 : decode cL_ranked 2 = .ok (.aload_n 0, 1) := by decide +kernel
theorem dL_ranked_3 : decode cL_ranked 3 = .ok (.iload_n 1, 1) := by decide +kernel
theorem dL_ranked_4 : decode cL_ranked 4 = .ok (.invokevirtual 77, 3) := by decide +kernel
theorem dL_ranked_7 : decode cL_ranked 7 = .ok (.i2l, 1) := by decide +kernel
theorem dL_ranked_8 : decode cL_ranked 8 = .ok (.lastore, 1) := by decide +kernel
theorem dL_ranked_9 : decode cL_ranked 9 = .ok (.goto 6, 3) := by decide +kernel
theorem dL_ranked_12 : decode cL_ranked 12 = .ok (.astore_n 3, 1) := by decide +kernel
theorem dL_ranked_13 : decode cL_ranked 13 = .ok (.iconst 1, 1) := by decide +kernel
theorem dL_ranked_14 : decode cL_ranked 14 = .ok (.ireturn, 1) := by decide +kernel
theorem dL_ranked_15 : decode cL_ranked 15 = .ok (.iconst 0, 1) := by decide +kernel
theorem dL_ranked_16 : decode cL_ranked 16 = .ok (.ireturn, 1) := by decide +kernel
set_option maxRecDepth 20000 in
theorem ggL_append_X7_append : GoodIn wsL_append wsX7_append := goodIn_ca (goodIn_ca (goodIn_r _ [6, 7, 8, 9, 10, 11, 12, 13, 14, 15, 16, 17, 18, 19, 20, 21, 22, 23, 24, 25, 26, 27, 28, 29, 30, 31, 32, 33, 34, 35, 36] (by decide +kernel) (by decide +kernel)) (goodIn_sub (fun _ h => List.mem_cons_of_mem _ (List.mem_append_right _ h)) (by decide +kernel))) (goodIn_sub (fun _ h => List.mem_cons_of_mem _ (List.mem_append_left _ (List.mem_append_right _ h))) (by decide +kernel))
set_option maxRecDepth 20000 in
theorem gL_append_X7_append : GoodIn wsL_append (wsV RL 80 RX7 yX7_append wsX7_append) := goodIn_app (goodIn_of _ (by decide +kernel)) ggL_append_X7_append
theorem dL_append_0 : decode cL_append 0 = .ok (.aload_n 2, 1) := by decide +kernel
theorem dL_append_1 : decode cL_append 1 = .ok (.iconst 0, 1) := by decide +kernel
theorem dL_append_2 : decode cL_append 2 = .ok (.aload_n 0, 1) := by decide +kernel
theorem dL_append_3 : decode cL_append 3 = .ok (.iload_n 1, 1) := by decide +kernel
theorem dL_append_4 : decode cL_append 4 = .ok (.invokevirtual 80, 3) := by decide +kernel
theorem dL_append_7 : decode cL_append 7 = .ok (.i2l, 1) := by decide +kernel
theorem dL_append_8 : decode cL_append 8 = .ok (.lastore, 1) := by decide +kernel
theorem dL_append_9 : decode cL_append 9 = .ok (.goto 6, 3) := by decide +kernel
theorem dL_append_12 : decode cL_append 12 = .ok (.astore_n 3, 1) := by decide +kernel
theorem dL_append_13 : decode cL_append 13 = .ok (.iconst 1, 1) := by decide +kernel
theorem dL_append_14 : decode cL_append 14 = .ok (.ireturn, 1) := by decide +kernel
theorem dL_append_15 : decode cL_append 15 = .ok (.iconst 0, 1) := by decide +kernel
theorem dL_append_16 : decode cL_append 16 = .ok (.ireturn, 1) := by decide +kernel
set_option maxRecDepth 20000 in
theorem ggL_commands_X7_commands : GoodIn wsL_commands wsX7_commands := goodIn_ca (goodIn_ca (goodIn_ca (goodIn_r _ [7, 8, 9, 10, 11, 12, 13, 14, 15, 16, 17, 18, 19, 20, 21, 22, 23, 24, 25, 26, 27, 28, 29, 30, 31, 32, 33, 34, 35, 36, 37, 38, 39, 40, 41, 42, 43, 44, 45, 46, 47, 48, 49, 50, 51, 52, 53, 54, 55, 56, 57, 58, 59, 60, 61, 62, 63, 64, 65, 66, 67, 68, 69, 70, 71, 72, 73, 74, 75, 76, 77, 78, 79, 80, 81, 82, 83, 84, 85, 86, 87, 88, 89, 90, 91, 92, 93, 94, 95, 96, 6, 97, 98, 99, 100, 101, 102, 103, 104, 105, 106, 107, 108, 109, 110, 111, 112, 113, 114, 115, 116, 117, 118, 119, 120, 121, 122, 123, 124, 125, 126, 127, 128, 129, 130, 131, 132, 133, 134, 135, 136, 137, 138, 139, 140, 141, 142, 143, 144, 145, 146, 147, 148, 149, 150, 151, 152, 153, 154, 155, 156, 157, 158, 159, 160, 161, 162, 163, 164, 165, 166, 167, 168, 169, 170, 171, 172, 173, 174, 175, 176, 177, 178, 179, 180, 181, 182, 183, 184, 185, 186, 187, 188, 189, 190, 191, 192, 193, 194, 195, 196, 197, 198, 199, 200, 201, 202, 203, 204, 205, 206, 207, 208, 209, 210, 211, 212, 213, 214, 215, 216, 217, 218, 219, 220, 221, 222, 223, 224, 225, 226, 227, 228, 229, 230, 231, 232, 233, 234, 235, 236, 237, 238, 239, 240, 241, 242, 243, 244, 245, 246, 247, 248, 249, 250, 251, 252, 253, 254, 255, 256, 257, 258, 259, 260, 261, 262, 263, 264, 265, 266, 267, 268, 269, 270, 271, 272, 273, 274, 275, 276, 277, 278, 279, 280, 281, 282, 283, 284, 285, 286, 287, 288, 289, 290, 291, 292, 293, 294, 295, 296, 297, 298, 299, 300, 301, 302, 303, 304] (by decide +kernel) (by decide +kernel)) (goodIn_sub (fun _ h => List.mem_cons_of_mem _ (List.mem_append_left _ (List.mem_append_right _ h))) (by decide +kernel))) (goodIn_sub (fun _ h => List.mem_cons_of_mem _ (List.mem_append_left _ (List.mem_append_left _ (List.mem_append_right _ h)))) (by decide +kernel))) (goodIn_sub (fun _ h => List.mem_cons_of_mem _ (List.mem_append_right _ h)) (by decide +kernel))
set_option maxRecDepth 20000 in
theorem gL_commands_X7_commands : GoodIn wsL_commands (wsV RL 86 RX7 yX7_commands wsX7_commands) := goodIn_app (goodIn_of _ (by decide +kernel)) ggL_commands_X7_commands
theorem dL_commands_0 : decode cL_commands 0 = .ok (.aload_n 1, 1) := by decide +kernel
theorem dL_commands_1 : decode cL_commands 1 = .ok (.iconst 0, 1) := by decide +kernel
theorem dL_commands_2 : decode cL_commands 2 = .ok (.aload_n 0, 1) := by decide +kernel
theorem dL_commands_3 : decode cL_commands 3 = .ok (.invokevirtual 86, 3) := by decide +kernel
theorem dL_commands_6 : decode cL_commands 6 = .ok (.i2l, 1) := by decide +kernel
theorem dL_commands_7 : decode cL_commands 7 = .ok (.lastore, 1) := by decide +kernel
theorem dL_commands_8 : decode cL_commands 8 = .ok (.goto 9, 3) := by decide +kernel
theorem dL_commands_11 : decode cL_commands 11 = .ok (.astore_n 2, 1) := by decide +kernel
theorem dL_commands_12 : decode cL_commands 12 = .ok (.iconst 1, 1) := by decide +kernel
theorem dL_commands_13 : decode cL_commands 13 = .ok (.ireturn, 1) := by decide +kernel
theorem dL_commands_14 : decode cL_commands 14 = .ok (.astore_n 2, 1) := by decide +kernel
theorem dL_commands_15 : decode cL_commands 15 = .ok (.iconst 2, 1) := by decide +kernel
theorem dL_commands_16 : decode cL_commands 16 = .ok (.ireturn, 1) := by decide +kernel
theorem dL_commands_17 : decode cL_commands 17 = .ok (.iconst 0, 1) := by decide +kernel
theorem dL_commands_18 : decode cL_commands 18 = .ok (.ireturn, 1) := by decide +kernel
set_option maxRecDepth 20000 in
theorem ggL_reason_X7_reason : GoodIn wsL_reason wsX7_reason := goodIn_ca (goodIn_ca (goodIn_r _ [7, 8, 9, 10, 11, 12, 13, 14, 15, 16, 17, 18, 19, 20, 21, 22, 23, 24, 25, 26, 27, 28, 29, 30] (by decide +kernel) (by decide +kernel)) (goodIn_sub (fun _ h => List.mem_cons_of_mem _ (List.mem_append_left _ (List.mem_append_right _ h))) (by decide +kernel))) (goodIn_sub (fun _ h => List.mem_cons_of_mem _ (List.mem_append_right _ h)) (by decide +kernel))
set_option maxRecDepth 20000 in
theorem gL_reason_X7_reason : GoodIn wsL_reason (wsV RL 89 RX7 yX7_reason wsX7_reason) := goodIn_app (goodIn_of _ (by decide +kernel)) ggL_reason_X7_reason
theorem dL_reason_0 : decode cL_reason 0 = .ok (.aload_n 2, 1) := by decide +kernel
theorem dL_reason_1 : decode cL_reason 1 = .ok (.iconst 0, 1) := by decide +kernel
theorem dL_reason_2 : decode cL_reason 2 = .ok (.aload_n 0, 1) := by decide +kernel
theorem dL_reason_3 : decode cL_reason 3 = .ok (.iload_n 1, 1) := by decide +kernel
theorem dL_reason_4 : decode cL_reason 4 = .ok (.invokevirtual 89, 3) := by decide +kernel
theorem dL_reason_7 : decode cL_reason 7 = .ok (.i2l, 1) := by decide +kernel
theorem dL_reason_8 : decode cL_reason 8 = .ok (.lastore, 1) := by decide +kernel
theorem dL_reason_9 : decode cL_reason 9 = .ok (.goto 9, 3) := by decide +kernel
theorem dL_reason_12 : decode cL_reason 12 = .ok (.astore_n 3, 1) := by decide +kernel
theorem dL_reason_13 : decode cL_reason 13 = .ok (.iconst 1, 1) := by decide +kernel
theorem dL_reason_14 : decode cL_reason 14 = .ok (.ireturn, 1) := by decide +kernel
theorem dL_reason_15 : decode cL_reason 15 = .ok (.astore_n 3, 1) := by decide +kernel
theorem dL_reason_16 : decode cL_reason 16 = .ok (.iconst 2, 1) := by decide +kernel
theorem dL_reason_17 : decode cL_reason 17 = .ok (.ireturn, 1) := by decide +kernel
theorem dL_reason_18 : decode cL_reason 18 = .ok (.iconst 0, 1) := by decide +kernel
theorem dL_reason_19 : decode cL_reason 19 = .ok (.ireturn, 1) := by decide +kernel
set_option maxRecDepth 20000 in
theorem ggL_character_X7_character : GoodIn wsL_character wsX7_character := goodIn_ca (goodIn_ca (goodIn_r _ [6, 7, 8, 9, 10, 11, 12, 13, 14, 15, 16, 17, 18, 19, 20, 21, 22, 23, 24, 25, 26, 27, 28, 29, 30, 31, 32, 33, 34, 35] (by decide +kernel) (by decide +kernel)) (goodIn_sub (fun _ h => List.mem_cons_of_mem _ (List.mem_append_right _ h)) (by decide +kernel))) (goodIn_sub (fun _ h => List.mem_cons_of_mem _ (List.mem_append_left _ (List.mem_append_right _ h))) (by decide +kernel))
set_option maxRecDepth 20000 in
theorem gL_character_X7_character : GoodIn wsL_character (wsV RL 92 RX7 yX7_character wsX7_character) := goodIn_app (goodIn_of _ (by decide +kernel)) ggL_character_X7_character
