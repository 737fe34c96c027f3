theorem dX8_porterOf_84 : decode cX8_porterOf 84 = .ok (.iload 4, 2) := by decide +kernel
theorem dX8_porterOf_86 : decode cX8_porterOf 86 = .ok (.iconst 2, 1) := by decide +kernel
theorem dX8_porterOf_87 : decode cX8_porterOf 87 = .ok (.invokevirtual 80, 3) := by decide +kernel
theorem dX8_porterOf_90 : decode cX8_porterOf 90 = .ok (.ifCond .lt 7, 3) := by decide +kernel
theorem dX8_porterOf_93 : decode cX8_porterOf 93 = .ok (.iconst 1, 1) := by decide +kernel
theorem dX8_porterOf_94 : decode cX8_porterOf 94 = .ok (.goto 4, 3) := by decide +kernel
theorem dX8_porterOf_97 : decode cX8_porterOf 97 = .ok (.iconst 0, 1) := by decide +kernel
theorem dX8_porterOf_98 : decode cX8_porterOf 98 = .ok (.iadd, 1) := by decide +kernel
theorem dX8_porterOf_99 : decode cX8_porterOf 99 = .ok (.istore_n 3, 1) := by decide +kernel
theorem dX8_porterOf_100 : decode cX8_porterOf 100 = .ok (.iinc 4 1, 3) := by decide +kernel
theorem dX8_porterOf_103 : decode cX8_porterOf 103 = .ok (.goto (-66), 3) := by decide +kernel
theorem dX8_porterOf_106 : decode cX8_porterOf 106 = .ok (.iload_n 3, 1) := by decide +kernel
theorem dX8_porterOf_107 : decode cX8_porterOf 107 = .ok (.ireturn, 1) := by decide +kernel
set_option maxRecDepth 20000 in
theorem ggX8_isAhead_X8_fitsOf : GoodIn wsX8_isAhead wsX8_fitsOf := goodIn_ca (goodIn_r _ [5, 6, 7, 8, 9, 4, 10, 11, 12, 13, 14, 15, 16, 17, 18, 19, 20, 21, 22, 23, 24, 25, 26, 27, 28, 29, 30, 31, 32, 33, 34, 35, 36, 37, 38, 39, 40, 41, 42, 43, 44, 45, 46, 47, 48, 49] (by decide +kernel) (by decide +kernel)) (goodIn_sub (fun _ h => List.mem_cons_of_mem _ (List.mem_append_right _ h)) (by decide +kernel))
set_option maxRecDepth 20000 in
theorem gX8_isAhead_X8_fitsOf : GoodIn wsX8_isAhead (wsV RX8 144 RX8 yX8_fitsOf wsX8_fitsOf) := goodIn_app (goodIn_of _ (by decide +kernel)) ggX8_isAhead_X8_fitsOf
set_option maxRecDepth 20000 in
theorem ggX8_isAhead_X8_ofKey : GoodIn wsX8_isAhead wsX8_ofKey := goodIn_ca (goodIn_r _ [22, 6, 26, 27, 28, 29, 30, 31, 32, 33, 34, 35, 36, 37, 38, 39, 40, 41, 42, 43, 44, 45, 46, 47, 48, 49] (by decide +kernel) (by decide +kernel)) (goodIn_sub (fun _ h => List.mem_cons_of_mem _ (List.mem_append_right _ h)) (by decide +kernel))
set_option maxRecDepth 20000 in
theorem gX8_isAhead_X8_ofKey : GoodIn wsX8_isAhead (wsV RX8 80 RX8 yX8_ofKey wsX8_ofKey) := goodIn_app (goodIn_of _ (by decide +kernel)) ggX8_isAhead_X8_ofKey
set_option maxRecDepth 20000 in
theorem ggX8_isAhead_X8_many : GoodIn wsX8_isAhead wsX8_many := goodIn_r _ [25] (by decide +kernel) (by decide +kernel)
set_option maxRecDepth 20000 in
theorem gX8_isAhead_X8_many : GoodIn wsX8_isAhead (va_wsS RX8 83 yX8_many wsX8_many) := goodIn_app (goodIn_of _ (by decide +kernel)) ggX8_isAhead_X8_many
theorem dX8_isAhead_0 : decode cX8_isAhead 0 = .ok (.aload_n 0, 1) := by decide +kernel
theorem dX8_isAhead_1 : decode cX8_isAhead 1 = .ok (.iload_n 1, 1) := by decide +kernel
theorem dX8_isAhead_2 : decode cX8_isAhead 2 = .ok (.invokevirtual 144, 3) := by decide +kernel
theorem dX8_isAhead_5 : decode cX8_isAhead 5 = .ok (.aload_n 0, 1) := by decide +kernel
theorem dX8_isAhead_6 : decode cX8_isAhead 6 = .ok (.iload_n 2, 1) := by decide +kernel
theorem dX8_isAhead_7 : decode cX8_isAhead 7 = .ok (.invokevirtual 144, 3) := by decide +kernel
theorem dX8_isAhead_10 : decode cX8_isAhead 10 = .ok (.if_icmp .eq 22, 3) := by decide +kernel
theorem dX8_isAhead_13 : decode cX8_isAhead 13 = .ok (.aload_n 0, 1) := by decide +kernel
theorem dX8_isAhead_14 : decode cX8_isAhead 14 = .ok (.iload_n 1, 1) := by decide +kernel
theorem dX8_isAhead_15 : decode cX8_isAhead 15 = .ok (.invokevirtual 144, 3) := by decide +kernel
theorem dX8_isAhead_18 : decode cX8_isAhead 18 = .ok (.aload_n 0, 1) := by decide +kernel
theorem dX8_isAhead_19 : decode cX8_isAhead 19 = .ok (.iload_n 2, 1) := by decide +kernel
theorem dX8_isAhead_20 : decode cX8_isAhead 20 = .ok (.invokevirtual 144, 3) := by decide +kernel
theorem dX8_isAhead_23 : decode cX8_isAhead 23 = .ok (.if_icmp .ge 7, 3) := by decide +kernel
theorem dX8_isAhead_26 : decode cX8_isAhead 26 = .ok (.iconst 1, 1) := by decide +kernel
theorem dX8_isAhead_27 : decode cX8_isAhead 27 = .ok (.goto 4, 3) := by decide +kernel
theorem dX8_isAhead_30 : decode cX8_isAhead 30 = .ok (.iconst 0, 1) := by decide +kernel
theorem dX8_isAhead_31 : decode cX8_isAhead 31 = .ok (.ireturn, 1) := by decide +kernel
theorem dX8_isAhead_32 : decode cX8_isAhead 32 = .ok (.aload_n 0, 1) := by decide +kernel
theorem dX8_isAhead_33 : decode cX8_isAhead 33 = .ok (.iload_n 1, 1) := by decide +kernel
theorem dX8_isAhead_34 : decode cX8_isAhead 34 = .ok (.iconst 0, 1) := by decide +kernel
theorem dX8_isAhead_35 : decode cX8_isAhead 35 = .ok (.invokevirtual 80, 3) := by decide +kernel
theorem dX8_isAhead_38 : decode cX8_isAhead 38 = .ok (.invokestatic 83, 3) := by decide +kernel
theorem dX8_isAhead_41 : decode cX8_isAhead 41 = .ok (.aload_n 0, 1) := by decide +kernel
theorem dX8_isAhead_42 : decode cX8_isAhead 42 = .ok (.iload_n 2, 1) := by decide +kernel
theorem dX8_isAhead_43 : decode cX8_isAhead 43 = .ok (.iconst 0, 1) := by decide +kernel
theorem dX8_isAhead_44 : decode cX8_isAhead 44 = .ok (.invokevirtual 80, 3) := by decide +kernel
theorem dX8_isAhead_47 : decode cX8_isAhead 47 = .ok (.invokestatic 83, 3) := by decide +kernel
theorem dX8_isAhead_50 : decode cX8_isAhead 50 = .ok (.isub, 1) := by decide +kernel
theorem dX8_isAhead_51 : decode cX8_isAhead 51 = .ok (.istore_n 3, 1) := by decide +kernel
theorem dX8_isAhead_52 : decode cX8_isAhead 52 = .ok (.iload_n 3, 1) := by decide +kernel
theorem dX8_isAhead_53 : decode cX8_isAhead 53 = .ok (.ifCond .gt 12, 3) := by decide +kernel
theorem dX8_isAhead_56 : decode cX8_isAhead 56 = .ok (.iload_n 3, 1) := by decide +kernel
theorem dX8_isAhead_57 : decode cX8_isAhead 57 = .ok (.ifCond .ne 12, 3) := by decide +kernel
theorem dX8_isAhead_60 : decode cX8_isAhead 60 = .ok (.iload_n 1, 1) := by decide +kernel
theorem dX8_isAhead_61 : decode cX8_isAhead 61 = .ok (.iload_n 2, 1) := by decide +kernel
theorem dX8_isAhead_62 : decode cX8_isAhead 62 = .ok (.if_icmp .ge 7, 3) := by decide +kernel
theorem dX8_isAhead_65 : decode cX8_isAhead 65 = .ok (.iconst 1, 1) := by decide +kernel
theorem dX8_isAhead_66 : decode cX8_isAhead 66 = .ok (.goto 4, 3) := by decide +kernel
theorem dX8_isAhead_69 : decode cX8_isAhead 69 = .ok (.iconst 0, 1) := by decide +kernel
theorem dX8_isAhead_70 : decode cX8_isAhead 70 = .ok (.ireturn, 1) := by decide +kernel
set_option maxRecDepth 20000 in
theorem ggX8_ranked_X8_isAhead : GoodIn wsX8_ranked wsX8_isAhead := goodIn_ca (goodIn_r _ [7, 8, 9, 10, 6, 11, 1, 12, 13, 14, 15, 16, 17, 18, 19, 20, 21, 22, 23, 24, 25, 26, 27, 28, 29, 30, 31, 32, 33, 34, 35, 36, 37, 38, 39, 40, 41, 42, 43, 44, 45, 46, 47, 48, 49, 50, 51, 52, 53, 54] (by decide +kernel) (by decide +kernel)) (goodIn_sub (fun _ h => List.mem_cons_of_mem _ (List.mem_append_right _ h)) (by decide +kernel))
set_option maxRecDepth 20000 in
theorem gX8_ranked_X8_isAhead : GoodIn wsX8_ranked (wsV RX8 159 RX8 yX8_isAhead wsX8_isAhead) := goodIn_app (goodIn_of _ (by decide +kernel)) ggX8_ranked_X8_isAhead
theorem dX8_ranked_0 : decode cX8_ranked 0 = .ok (.iconst 0, 1) := by decide +kernel
theorem dX8_ranked_1 : decode cX8_ranked 1 = .ok (.istore_n 2, 1) := by decide +kernel
theorem dX8_ranked_2 : decode cX8_ranked 2 = .ok (.iload_n 2, 1) := by decide +kernel
theorem dX8_ranked_3 : decode cX8_ranked 3 = .ok (.aload_n 0, 1) := by decide +kernel
theorem dX8_ranked_4 : decode cX8_ranked 4 = .ok (.getfield 7, 3) := by decide +kernel
theorem dX8_ranked_7 : decode cX8_ranked 7 = .ok (.iconst 0, 1) := by decide +kernel
theorem dX8_ranked_8 : decode cX8_ranked 8 = .ok (.iaload, 1) := by decide +kernel
theorem dX8_ranked_9 : decode cX8_ranked 9 = .ok (.if_icmp .ge 64, 3) := by decide +kernel
theorem dX8_ranked_12 : decode cX8_ranked 12 = .ok (.iconst 0, 1) := by decide +kernel
theorem dX8_ranked_13 : decode cX8_ranked 13 = .ok (.istore_n 3, 1) := by decide +kernel
theorem dX8_ranked_14 : decode cX8_ranked 14 = .ok (.iconst 0, 1) := by decide +kernel
theorem dX8_ranked_15 : decode cX8_ranked 15 = .ok (.istore 4, 2) := by decide +kernel
theorem dX8_ranked_17 : decode cX8_ranked 17 = .ok (.iload 4, 2) := by decide +kernel
theorem dX8_ranked_19 : decode cX8_ranked 19 = .ok (.aload_n 0, 1) := by decide +kernel
theorem dX8_ranked_20 : decode cX8_ranked 20 = .ok (.getfield 7, 3) := by decide +kernel
theorem dX8_ranked_23 : decode cX8_ranked 23 = .ok (.iconst 0, 1) := by decide +kernel
theorem dX8_ranked_24 : decode cX8_ranked 24 = .ok (.iaload, 1) := by decide +kernel
theorem dX8_ranked_25 : decode cX8_ranked 25 = .ok (.if_icmp .ge 27, 3) := by decide +kernel
theorem dX8_ranked_28 : decode cX8_ranked 28 = .ok (.iload_n 3, 1) := by decide +kernel
theorem dX8_ranked_29 : decode cX8_ranked 29 = .ok (.aload_n 0, 1) := by decide +kernel
theorem dX8_ranked_30 : decode cX8_ranked 30 = .ok (.iload 4, 2) := by decide +kernel
theorem dX8_ranked_32 : decode cX8_ranked 32 = .ok (.iload_n 2, 1) := by decide +kernel
theorem dX8_ranked_33 : decode cX8_ranked 33 = .ok (.invokevirtual 159, 3) := by decide +kernel
theorem dX8_ranked_36 : decode cX8_ranked 36 = .ok (.ifCond .eq 7, 3) := by decide +kernel
theorem dX8_ranked_39 : decode cX8_ranked 39 = .ok (.iconst 1, 1) := by decide +kernel
theorem dX8_ranked_40 : decode cX8_ranked 40 = .ok (.goto 4, 3) := by decide +kernel
theorem dX8_ranked_43 : decode cX8_ranked 43 = .ok (.iconst 0, 1) := by decide +kernel
theorem dX8_ranked_44 : decode cX8_ranked 44 = .ok (.iadd, 1) := by decide +kernel
theorem dX8_ranked_45 : decode cX8_ranked 45 = .ok (.istore_n 3, 1) := by decide +kernel
theorem dX8_ranked_46 : decode cX8_ranked 46 = .ok (.iinc 4 1, 3) := by decide +kernel
theorem dX8_ranked_49 : decode cX8_ranked 49 = .ok (.goto (-32), 3) := by decide +kernel
theorem dX8_ranked_52 : decode cX8_ranked 52 = .ok (.iload_n 3, 1) := by decide +kernel
theorem dX8_ranked_53 : decode cX8_ranked 53 = .ok (.iload_n 1, 1) := by decide +kernel
theorem dX8_ranked_54 : decode cX8_ranked 54 = .ok (.if_icmp .eq 6, 3) := by decide +kernel
theorem dX8_ranked_57 : decode cX8_ranked 57 = .ok (.goto 10, 3) := by decide +kernel
theorem dX8_ranked_60 : decode cX8_ranked 60 = .ok (.aload_n 0, 1) := by decide +kernel
theorem dX8_ranked_61 : decode cX8_ranked 61 = .ok (.iconst 0, 1) := by decide +kernel
theorem dX8_ranked_62 : decode cX8_ranked 62 = .ok (.putfield 46, 3) := by decide +kernel
theorem dX8_ranked_65 : decode cX8_ranked 65 = .ok (.iload_n 2, 1) := by decide +kernel
theorem dX8_ranked_66 : decode cX8_ranked 66 = .ok (.ireturn, 1) := by decide +kernel
theorem dX8_ranked_67 : decode cX8_ranked 67 = .ok (.iinc 2 1, 3) := by decide +kernel
theorem dX8_ranked_70 : decode cX8_ranked 70 = .ok (.goto (-68), 3) := by decide +kernel
theorem dX8_ranked_73 : decode cX8_ranked 73 = .ok (.aload_n 0, 1) := by decide +kernel
theorem dX8_ranked_74 : decode cX8_ranked 74 = .ok (.iconst 1, 1) := by decide +kernel
theorem dX8_ranked_75 : decode cX8_ranked 75 = .ok (.putfield 46, 3) := by decide +kernel
theorem dX8_ranked_78 : decode cX8_ranked 78 = .ok (.iconst 0, 1) := by decide +kernel
theorem dX8_ranked_79 : decode cX8_ranked 79 = .ok (.ireturn, 1) := by decide +kernel
set_option maxRecDepth 20000 in
theorem ggX8_append_X8_fails : GoodIn wsX8_append wsX8_fails := goodIn_r _ [7, 8, 9, 10, 11, 12, 13, 14, 15, 16, 17, 18, 19, 20, 21, 22, 23, 24, 25, 26, 27, 28, 29, 30, 31, 32] (by decide +kernel) (by decide +kernel)
set_option maxRecDepth 20000 in
theorem gX8_append_X8_fails : GoodIn wsX8_append (wsV RX8 138 RX8 yX8_fails wsX8_fails) := goodIn_app (goodIn_of _ (by decide +kernel)) ggX8_append_X8_fails
theorem dX8_append_0 : decode cX8_append 0 = .ok (.aload_n 0, 1) := by decide +kernel
theorem dX8_append_1 : decode cX8_append 1 = .ok (.aload_n 0, 1) := by decide +kernel
theorem dX8_append_2 : decode cX8_append 2 = .ok (.getfield 162, 3) := by decide +kernel
theorem dX8_append_5 : decode cX8_append 5 = .ok (.bipush 60, 2) := by decide +kernel
theorem dX8_append_7 : decode cX8_append 7 = .ok (.if_icmp .ne 7, 3) := by decide +kernel
theorem dX8_append_10 : decode cX8_append 10 = .ok (.iconst 1, 1) := by decide +kernel
theorem dX8_append_11 : decode cX8_append 11 = .ok (.goto 4, 3) := by decide +kernel
theorem dX8_append_14 : decode cX8_append 14 = .ok (.iconst 0, 1) := by decide +kernel
theorem dX8_append_15 : decode cX8_append 15 = .ok (.invokevirtual 138, 3) := by decide +kernel
theorem dX8_append_18 : decode cX8_append 18 = .ok (.ifCond .eq 5, 3) := by decide +kernel
theorem dX8_append_21 : decode cX8_append 21 = .ok (.iconst 0, 1) := by decide +kernel
theorem dX8_append_22 : decode cX8_append 22 = .ok (.ireturn, 1) := by decide +kernel
theorem dX8_append_23 : decode cX8_append 23 = .ok (.aload_n 0, 1) := by decide +kernel
theorem dX8_append_24 : decode cX8_append 24 = .ok (.getfield 25, 3) := by decide +kernel
theorem dX8_append_27 : decode cX8_append 27 = .ok (.aload_n 0, 1) := by decide +kernel
theorem dX8_append_28 : decode cX8_append 28 = .ok (.getfield 162, 3) := by decide +kernel
theorem dX8_append_31 : decode cX8_append 31 = .ok (.iload_n 1, 1) := by decide +kernel
theorem dX8_append_32 : decode cX8_append 32 = .ok (.iastore, 1) := by decide +kernel
theorem dX8_append_33 : decode cX8_append 33 = .ok (.aload_n 0, 1) := by decide +kernel
theorem dX8_append_34 : decode cX8_append 34 = .ok (.dup, 1) := by decide +kernel
theorem dX8_append_35 : decode cX8_append 35 = .ok (.getfield 162, 3) := by decide +kernel
theorem dX8_append_38 : decode cX8_append 38 = .ok (.iconst 1, 1) := by decide +kernel
theorem dX8_append_39 : decode cX8_append 39 = .ok (.iadd, 1) := by decide +kernel
theorem dX8_append_40 : decode cX8_append 40 = .ok (.putfield 162, 3) := by decide +kernel
theorem dX8_append_43 : decode cX8_append 43 = .ok (.aload_n 0, 1) := by decide +kernel
theorem dX8_append_44 : decode cX8_append 44 = .ok (.getfield 162, 3) := by decide +kernel
theorem dX8_append_47 : decode cX8_append 47 = .ok (.ireturn, 1) := by decide +kernel
theorem dX8_here_0 : decode cX8_here 0 = .ok (.aload_n 0, 1) := by decide +kernel
theorem dX8_here_1 : decode cX8_here 1 = .ok (.getfield 165, 3) := by decide +kernel
theorem dX8_here_4 : decode cX8_here 4 = .ok (.aload_n 0, 1) := by decide +kernel
theorem dX8_here_5 : decode cX8_here 5 = .ok (.getfield 162, 3) := by decide +kernel
theorem dX8_here_8 : decode cX8_here 8 = .ok (.if_icmp .ge 15, 3) := by decide +kernel
theorem dX8_here_11 : decode cX8_here 11 = .ok (.aload_n 0, 1) := by decide +kernel
theorem dX8_here_12 : decode cX8_here 12 = .ok (.getfield 25, 3) := by decide +kernel
theorem dX8_here_15 : decode cX8_here 15 = .ok (.aload_n 0, 1) := by decide +kernel
theorem dX8_here_16 : decode cX8_here 16 = .ok (.getfield 165, 3) := by decide +kernel
theorem dX8_here_19 : decode cX8_here 19 = .ok (.iaload, 1) := by decide +kernel
theorem dX8_here_20 : decode cX8_here 20 = .ok (.goto 4, 3) := by decide +kernel
theorem dX8_here_23 : decode cX8_here 23 = .ok (.iconst (-1), 1) := by decide +kernel
theorem dX8_here_24 : decode cX8_here 24 = .ok (.ireturn, 1) := by decide +kernel
set_option maxRecDepth 20000 in
theorem ggX8_skips_X8_here : GoodIn wsX8_skips wsX8_here := goodIn_ca (goodIn_r _ [6, 1, 7, 8, 9, 10, 11, 12, 13, 14, 15, 16, 17, 18, 19, 20, 21, 22, 23, 24, 25, 26, 27, 28, 29, 30, 31, 32] (by decide +kernel) (by decide +kernel)) (goodIn_sub (fun _ h => List.mem_cons_of_mem _ (List.mem_append_right _ h)) (by decide +kernel))
set_option maxRecDepth 20000 in
theorem gX8_skips_X8_here : GoodIn wsX8_skips (wsV RX8 168 RX8 yX8_here wsX8_here) := goodIn_app (goodIn_of _ (by decide +kernel)) ggX8_skips_X8_here
theorem dX8_skips_0 : decode cX8_skips 0 = .ok (.aload_n 0, 1) := by decide +kernel
theorem dX8_skips_1 : decode cX8_skips 1 = .ok (.invokevirtual 168, 3) := by decide +kernel
theorem dX8_skips_4 : decode cX8_skips 4 = .ok (.iload_n 1, 1) := by decide +kernel
theorem dX8_skips_5 : decode cX8_skips 5 = .ok (.if_icmp .eq 5, 3) := by decide +kernel
theorem dX8_skips_8 : decode cX8_skips 8 = .ok (.iconst 0, 1) := by decide +kernel
theorem dX8_skips_9 : decode cX8_skips 9 = .ok (.ireturn, 1) := by decide +kernel
theorem dX8_skips_10 : decode cX8_skips 10 = .ok (.aload_n 0, 1) := by decide +kernel
theorem dX8_skips_11 : decode cX8_skips 11 = .ok (.dup, 1) := by decide +kernel
theorem dX8_skips_12 : decode cX8_skips 12 = .ok (.getfield 165, 3) := by decide +kernel
theorem dX8_skips_15 : decode cX8_skips 15 = .ok (.iconst 1, 1) := by decide +kernel
theorem dX8_skips_16 : decode cX8_skips 16 = .ok (.iadd, 1) := by decide +kernel
theorem dX8_skips_17 : decode cX8_skips 17 = .ok (.putfield 165, 3) := by decide +kernel
theorem dX8_skips_20 : decode cX8_skips 20 = .ok (.iconst 1, 1) := by decide +kernel
theorem dX8_skips_21 : decode cX8_skips 21 = .ok (.ireturn, 1) := by decide +kernel
set_option maxRecDepth 20000 in
theorem ggX8_figures_X8_here : GoodIn wsX8_figures wsX8_here := goodIn_ca (goodIn_r _ [7, 2, 8, 9, 13, 14, 15, 16, 17, 18, 19, 20, 21, 22, 23, 24, 25, 26, 27, 28, 29, 30, 31, 32, 33, 34, 35, 36] (by decide +kernel) (by decide +kernel)) (goodIn_sub (fun _ h => List.mem_cons_of_mem _ (List.mem_append_right _ h)) (by decide +kernel))
set_option maxRecDepth 20000 in
theorem gX8_figures_X8_here : GoodIn wsX8_figures (wsV RX8 168 RX8 yX8_here wsX8_here) := goodIn_app (goodIn_of _ (by decide +kernel)) ggX8_figures_X8_here
set_option maxRecDepth 20000 in
theorem ggX8_figures_X8_in : GoodIn wsX8_figures wsX8_in := goodIn_r _ [12] (by decide +kernel) (by decide +kernel)
set_option maxRecDepth 20000 in
theorem gX8_figures_X8_in : GoodIn wsX8_figures (va_wsS RX8 72 yX8_in wsX8_in) := goodIn_app (goodIn_of _ (by decide +kernel)) ggX8_figures_X8_in
theorem dX8_figures_0 : decode cX8_figures 0 = .ok (.aload_n 0, 1) := by decide +kernel
theorem dX8_figures_1 : decode cX8_figures 1 = .ok (.invokevirtual 168, 3) := by decide +kernel
theorem dX8_figures_4 : decode cX8_figures 4 = .ok (.bipush 48, 2) := by decide +kernel
theorem dX8_figures_6 : decode cX8_figures 6 = .ok (.bipush 57, 2) := by decide +kernel
theorem dX8_figures_8 : decode cX8_figures 8 = .ok (.invokestatic 72, 3) := by decide +kernel
theorem dX8_figures_11 : decode cX8_figures 11 = .ok (.ifCond .ne 5, 3) := by decide +kernel
theorem dX8_figures_14 : decode cX8_figures 14 = .ok (.iconst 0, 1) := by decide +kernel
theorem dX8_figures_15 : decode cX8_figures 15 = .ok (.ireturn, 1) := by decide +kernel
theorem dX8_figures_16 : decode cX8_figures 16 = .ok (.aload_n 0, 1) := by decide +kernel
theorem dX8_figures_17 : decode cX8_figures 17 = .ok (.getfield 43, 3) := by decide +kernel
theorem dX8_figures_20 : decode cX8_figures 20 = .ok (.iload_n 1, 1) := by decide +kernel
theorem dX8_figures_21 : decode cX8_figures 21 = .ok (.iconst 0, 1) := by decide +kernel
theorem dX8_figures_22 : decode cX8_figures 22 = .ok (.iastore, 1) := by decide +kernel
theorem dX8_figures_23 : decode cX8_figures 23 = .ok (.iconst 0, 1) := by decide +kernel
theorem dX8_figures_24 : decode cX8_figures 24 = .ok (.istore_n 3, 1) := by decide +kernel
theorem dX8_figures_25 : decode cX8_figures 25 = .ok (.iload_n 3, 1) := by decide +kernel
theorem dX8_figures_26 : decode cX8_figures 26 = .ok (.iload_n 2, 1) := by decide +kernel
theorem dX8_figures_27 : decode cX8_figures 27 = .ok (.if_icmp .ge 56, 3) := by decide +kernel
theorem dX8_figures_30 : decode cX8_figures 30 = .ok (.aload_n 0, 1) := by decide +kernel
theorem dX8_figures_31 : decode cX8_figures 31 = .ok (.invokevirtual 168, 3) := by decide +kernel
theorem dX8_figures_34 : decode cX8_figures 34 = .ok (.bipush 48, 2) := by decide +kernel
theorem dX8_figures_36 : decode cX8_figures 36 = .ok (.bipush 57, 2) := by decide +kernel
theorem dX8_figures_38 : decode cX8_figures 38 = .ok (.invokestatic 72, 3) := by decide +kernel
theorem dX8_figures_41 : decode cX8_figures 41 = .ok (.ifCond .eq 42, 3) := by decide +kernel
theorem dX8_figures_44 : decode cX8_figures 44 = .ok (.aload_n 0, 1) := by decide +kernel
theorem dX8_figures_45 : decode cX8_figures 45 = .ok (.getfield 43, 3) := by decide +kernel
theorem dX8_figures_48 : decode cX8_figures 48 = .ok (.iload_n 1, 1) := by decide +kernel
theorem dX8_figures_49 : decode cX8_figures 49 = .ok (.bipush 10, 2) := by decide +kernel
theorem dX8_figures_51 : decode cX8_figures 51 = .ok (.aload_n 0, 1) := by decide +kernel
theorem dX8_figures_52 : decode cX8_figures 52 = .ok (.getfield 43, 3) := by decide +kernel
theorem dX8_figures_55 : decode cX8_figures 55 = .ok (.iload_n 1, 1) := by decide +kernel
theorem dX8_figures_56 : decode cX8_figures 56 = .ok (.iaload, 1) := by decide +kernel
theorem dX8_figures_57 : decode cX8_figures 57 = .ok (.imul, 1) := by decide +kernel
theorem dX8_figures_58 : decode cX8_figures 58 = .ok (.aload_n 0, 1) := by decide +kernel
theorem dX8_figures_59 : decode cX8_figures 59 = .ok (.invokevirtual 168, 3) := by decide +kernel
theorem dX8_figures_62 : decode cX8_figures 62 = .ok (.iadd, 1) := by decide +kernel
theorem dX8_figures_63 : decode cX8_figures 63 = .ok (.bipush 48, 2) := by decide +kernel
theorem dX8_figures_65 : decode cX8_figures 65 = .ok (.isub, 1) := by decide +kernel
theorem dX8_figures_66 : decode cX8_figures 66 = .ok (.iastore, 1) := by decide +kernel
theorem dX8_figures_67 : decode cX8_figures 67 = .ok (.aload_n 0, 1) := by decide +kernel
theorem dX8_figures_68 : decode cX8_figures 68 = .ok (.dup, 1) := by decide +kernel
theorem dX8_figures_69 : decode cX8_figures 69 = .ok (.getfield 165, 3) := by decide +kernel
theorem dX8_figures_72 : decode cX8_figures 72 = .ok (.iconst 1, 1) := by decide +kernel
theorem dX8_figures_73 : decode cX8_figures 73 = .ok (.iadd, 1) := by decide +kernel
theorem dX8_figures_74 : decode cX8_figures 74 = .ok (.putfield 165, 3) := by decide +kernel
theorem dX8_figures_77 : decode cX8_figures 77 = .ok (.iinc 3 1, 3) := by decide +kernel
theorem dX8_figures_80 : decode cX8_figures 80 = .ok (.goto (-55), 3) := by decide +kernel
theorem dX8_figures_83 : decode cX8_figures 83 = .ok (.iconst 1, 1) := by decide +kernel
theorem dX8_figures_84 : decode cX8_figures 84 = .ok (.ireturn, 1) := by decide +kernel
set_option maxRecDepth 20000 in
theorem ggX8_commandHere_X8_here : GoodIn wsX8_commandHere wsX8_here := goodIn_ca (goodIn_r _ [7, 8, 9, 10, 22, 23, 24, 25, 26, 27, 28, 29, 30, 31, 32, 33, 34, 35, 36, 37, 38, 39, 40, 41, 42, 43, 44, 45] (by decide +kernel) (by decide +kernel)) (goodIn_sub (fun _ h => List.mem_cons_of_mem _ (List.mem_append_right _ h)) (by decide +kernel))
set_option maxRecDepth 20000 in
theorem gX8_commandHere_X8_here : GoodIn wsX8_commandHere (wsV RX8 168 RX8 yX8_here wsX8_here) := goodIn_app (goodIn_of _ (by decide +kernel)) ggX8_commandHere_X8_here
set_option maxRecDepth 20000 in
theorem ggX8_commandHere_X8_skips : GoodIn wsX8_commandHere wsX8_skips := goodIn_ca (goodIn_r _ [14, 8, 3, 4, 5, 6, 7, 9, 10, 22, 23, 24, 25, 26, 27, 28, 29, 30, 31, 32, 33, 34, 35, 36, 37, 38, 39, 40, 41, 42, 43, 44, 45] (by decide +kernel) (by decide +kernel)) (goodIn_sub (fun _ h => List.mem_cons_of_mem _ (List.mem_append_right _ h)) (by decide +kernel))
set_option maxRecDepth 20000 in
theorem gX8_commandHere_X8_skips : GoodIn wsX8_commandHere (wsV RX8 174 RX8 yX8_skips wsX8_skips) := goodIn_app (goodIn_of _ (by decide +kernel)) ggX8_commandHere_X8_skips
set_option maxRecDepth 20000 in
theorem ggX8_commandHere_X8_figures : GoodIn wsX8_commandHere wsX8_figures := goodIn_ca (goodIn_r _ [18, 2, 8, 3, 4, 5, 6, 7, 9, 10, 19, 20, 21, 22, 23, 24, 25, 26, 27, 28, 29, 30, 31, 32, 33, 34, 35, 36, 37, 38, 39, 40, 41, 42, 43, 44, 45] (by decide +kernel) (by decide +kernel)) (goodIn_sub (fun _ h => List.mem_cons_of_mem _ (List.mem_append_right _ h)) (by decide +kernel))
set_option maxRecDepth 20000 in
theorem gX8_commandHere_X8_figures : GoodIn wsX8_commandHere (wsV RX8 177 RX8 yX8_figures wsX8_figures) := goodIn_app (goodIn_of _ (by decide +kernel)) ggX8_commandHere_X8_figures
theorem dX8_commandHere_0 : decode cX8_commandHere 0 = .ok (.iconst 4, 1) := by decide +kernel
theorem dX8_commandHere_1 : decode cX8_commandHere 1 = .ok (.aload_n 0, 1) := by decide +kernel
theorem dX8_commandHere_2 : decode cX8_commandHere 2 = .ok (.getfield 171, 3) := by decide +kernel
theorem dX8_commandHere_5 : decode cX8_commandHere 5 = .ok (.imul, 1) := by decide +kernel
theorem dX8_commandHere_6 : decode cX8_commandHere 6 = .ok (.istore_n 1, 1) := by decide +kernel
theorem dX8_commandHere_7 : decode cX8_commandHere 7 = .ok (.aload_n 0, 1) := by decide +kernel
theorem dX8_commandHere_8 : decode cX8_commandHere 8 = .ok (.getfield 43, 3) := by decide +kernel
theorem dX8_commandHere_11 : decode cX8_commandHere 11 = .ok (.iload_n 1, 1) := by decide +kernel
theorem dX8_commandHere_12 : decode cX8_commandHere 12 = .ok (.aload_n 0, 1) := by decide +kernel
theorem dX8_commandHere_13 : decode cX8_commandHere 13 = .ok (.invokevirtual 168, 3) := by decide +kernel
theorem dX8_commandHere_16 : decode cX8_commandHere 16 = .ok (.iastore, 1) := by decide +kernel
theorem dX8_commandHere_17 : decode cX8_commandHere 17 = .ok (.aload_n 0, 1) := by decide +kernel
theorem dX8_commandHere_18 : decode cX8_commandHere 18 = .ok (.bipush 119, 2) := by decide +kernel
theorem dX8_commandHere_20 : decode cX8_commandHere 20 = .ok (.invokevirtual 174, 3) := by decide +kernel
theorem dX8_commandHere_23 : decode cX8_commandHere 23 = .ok (.ifCond .eq 5, 3) := by decide +kernel
theorem dX8_commandHere_26 : decode cX8_commandHere 26 = .ok (.iconst 1, 1) := by decide +kernel
theorem dX8_commandHere_27 : decode cX8_commandHere 27 = .ok (.ireturn, 1) := by decide +kernel
theorem dX8_commandHere_28 : decode cX8_commandHere 28 = .ok (.aload_n 0, 1) := by decide +kernel
theorem dX8_commandHere_29 : decode cX8_commandHere 29 = .ok (.bipush 107, 2) := by decide +kernel
theorem dX8_commandHere_31 : decode cX8_commandHere 31 = .ok (.invokevirtual 174, 3) := by decide +kernel
theorem dX8_commandHere_34 : decode cX8_commandHere 34 = .ok (.ifCond .eq 40, 3) := by decide +kernel
theorem dX8_commandHere_37 : decode cX8_commandHere 37 = .ok (.aload_n 0, 1) := by decide +kernel
theorem dX8_commandHere_38 : decode cX8_commandHere 38 = .ok (.iload_n 1, 1) := by decide +kernel
theorem dX8_commandHere_39 : decode cX8_commandHere 39 = .ok (.iconst 1, 1) := by decide +kernel
theorem dX8_commandHere_40 : decode cX8_commandHere 40 = .ok (.iadd, 1) := by decide +kernel
theorem dX8_commandHere_41 : decode cX8_commandHere 41 = .ok (.iconst 2, 1) := by decide +kernel
theorem dX8_commandHere_42 : decode cX8_commandHere 42 = .ok (.invokevirtual 177, 3) := by decide +kernel
theorem dX8_commandHere_45 : decode cX8_commandHere 45 = .ok (.ifCond .eq 27, 3) := by decide +kernel
theorem dX8_commandHere_48 : decode cX8_commandHere 48 = .ok (.aload_n 0, 1) := by decide +kernel
theorem dX8_commandHere_49 : decode cX8_commandHere 49 = .ok (.bipush 47, 2) := by decide +kernel
theorem dX8_commandHere_51 : decode cX8_commandHere 51 = .ok (.invokevirtual 174, 3) := by decide +kernel
theorem dX8_commandHere_54 : decode cX8_commandHere 54 = .ok (.ifCond .eq 18, 3) := by decide +kernel
theorem dX8_commandHere_57 : decode cX8_commandHere 57 = .ok (.aload_n 0, 1) := by decide +kernel
theorem dX8_commandHere_58 : decode cX8_commandHere 58 = .ok (.iload_n 1, 1) := by decide +kernel
theorem dX8_commandHere_59 : decode cX8_commandHere 59 = .ok (.iconst 2, 1) := by decide +kernel
theorem dX8_commandHere_60 : decode cX8_commandHere 60 = .ok (.iadd, 1) := by decide +kernel
theorem dX8_commandHere_61 : decode cX8_commandHere 61 = .ok (.iconst 1, 1) := by decide +kernel
theorem dX8_commandHere_62 : decode cX8_commandHere 62 = .ok (.invokevirtual 177, 3) := by decide +kernel
theorem dX8_commandHere_65 : decode cX8_commandHere 65 = .ok (.ifCond .eq 7, 3) := by decide +kernel
theorem dX8_commandHere_68 : decode cX8_commandHere 68 = .ok (.iconst 1, 1) := by decide +kernel
theorem dX8_commandHere_69 : decode cX8_commandHere 69 = .ok (.goto 4, 3) := by decide +kernel
theorem dX8_commandHere_72 : decode cX8_commandHere 72 = .ok (.iconst 0, 1) := by decide +kernel
theorem dX8_commandHere_73 : decode cX8_commandHere 73 = .ok (.ireturn, 1) := by decide +kernel
theorem dX8_commandHere_74 : decode cX8_commandHere 74 = .ok (.aload_n 0, 1) := by decide +kernel
theorem dX8_commandHere_75 : decode cX8_commandHere 75 = .ok (.bipush 99, 2) := by decide +kernel
theorem dX8_commandHere_77 : decode cX8_commandHere 77 = .ok (.invokevirtual 174, 3) := by decide +kernel
theorem dX8_commandHere_80 : decode cX8_commandHere 80 = .ok (.ifCond .eq 40, 3) := by decide +kernel
theorem dX8_commandHere_83 : decode cX8_commandHere 83 = .ok (.aload_n 0, 1) := by decide +kernel
theorem dX8_commandHere_84 : decode cX8_commandHere 84 = .ok (.iload_n 1, 1) := by decide +kernel
theorem dX8_commandHere_85 : decode cX8_commandHere 85 = .ok (.iconst 1, 1) := by decide +kernel
theorem dX8_commandHere_86 : decode cX8_commandHere 86 = .ok (.iadd, 1) := by decide +kernel
theorem dX8_commandHere_87 : decode cX8_commandHere 87 = .ok (.iconst 1, 1) := by decide +kernel
theorem dX8_commandHere_88 : decode cX8_commandHere 88 = .ok (.invokevirtual 177, 3) := by decide +kernel
theorem dX8_commandHere_91 : decode cX8_commandHere 91 = .ok (.ifCond .eq 27, 3) := by decide +kernel
theorem dX8_commandHere_94 : decode cX8_commandHere 94 = .ok (.aload_n 0, 1) := by decide +kernel
theorem dX8_commandHere_95 : decode cX8_commandHere 95 = .ok (.bipush 47, 2) := by decide +kernel
theorem dX8_commandHere_97 : decode cX8_commandHere 97 = .ok (.invokevirtual 174, 3) := by decide +kernel
theorem dX8_commandHere_100 : decode cX8_commandHere 100 = .ok (.ifCond .eq 18, 3) := by decide +kernel
theorem dX8_commandHere_103 : decode cX8_commandHere 103 = .ok (.aload_n 0, 1) := by decide +kernel
theorem dX8_commandHere_104 : decode cX8_commandHere 104 = .ok (.iload_n 1, 1) := by decide +kernel
theorem dX8_commandHere_105 : decode cX8_commandHere 105 = .ok (.iconst 2, 1) := by decide +kernel
theorem dX8_commandHere_106 : decode cX8_commandHere 106 = .ok (.iadd, 1) := by decide +kernel
theorem dX8_commandHere_107 : decode cX8_commandHere 107 = .ok (.iconst 2, 1) := by decide +kernel
theorem dX8_commandHere_108 : decode cX8_commandHere 108 = .ok (.invokevirtual 177, 3) := by decide +kernel
theorem dX8_commandHere_111 : decode cX8_commandHere 111 = .ok (.ifCond .eq 7, 3) := by decide +kernel
theorem dX8_commandHere_114 : decode cX8_commandHere 114 = .ok (.iconst 1, 1) := by decide +kernel
theorem dX8_commandHere_115 : decode cX8_commandHere 115 = .ok (.goto 4, 3) := by decide +kernel
theorem dX8_commandHere_118 : decode cX8_commandHere 118 = .ok (.iconst 0, 1) := by decide +kernel
theorem dX8_commandHere_119 : decode cX8_commandHere 119 = .ok (.ireturn, 1) := by decide +kernel
theorem dX8_commandHere_120 : decode cX8_commandHere 120 = .ok (.aload_n 0, 1) := by decide +kernel
theorem dX8_commandHere_121 : decode cX8_commandHere 121 = .ok (.bipush 108, 2) := by decide +kernel
theorem dX8_commandHere_123 : decode cX8_commandHere 123 = .ok (.invokevirtual 174, 3) := by decide +kernel
theorem dX8_commandHere_126 : decode cX8_commandHere 126 = .ok (.ifCond .eq 12, 3) := by decide +kernel
theorem dX8_commandHere_129 : decode cX8_commandHere 129 = .ok (.aload_n 0, 1) := by decide +kernel
theorem dX8_commandHere_130 : decode cX8_commandHere 130 = .ok (.iload_n 1, 1) := by decide +kernel
theorem dX8_commandHere_131 : decode cX8_commandHere 131 = .ok (.iconst 1, 1) := by decide +kernel
theorem dX8_commandHere_132 : decode cX8_commandHere 132 = .ok (.iadd, 1) := by decide +kernel
theorem dX8_commandHere_133 : decode cX8_commandHere 133 = .ok (.iconst 2, 1) := by decide +kernel
theorem dX8_commandHere_134 : decode cX8_commandHere 134 = .ok (.invokevirtual 177, 3) := by decide +kernel
theorem dX8_commandHere_137 : decode cX8_commandHere 137 = .ok (.ireturn, 1) := by decide +kernel
theorem dX8_commandHere_138 : decode cX8_commandHere 138 = .ok (.aload_n 0, 1) := by decide +kernel
theorem dX8_commandHere_139 : decode cX8_commandHere 139 = .ok (.bipush 98, 2) := by decide +kernel
theorem dX8_commandHere_141 : decode cX8_commandHere 141 = .ok (.invokevirtual 174, 3) := by decide +kernel
theorem dX8_commandHere_144 : decode cX8_commandHere 144 = .ok (.ifCond .ne 21, 3) := by decide +kernel
theorem dX8_commandHere_147 : decode cX8_commandHere 147 = .ok (.aload_n 0, 1) := by decide +kernel
theorem dX8_commandHere_148 : decode cX8_commandHere 148 = .ok (.bipush 117, 2) := by decide +kernel
theorem dX8_commandHere_150 : decode cX8_commandHere 150 = .ok (.invokevirtual 174, 3) := by decide +kernel
theorem dX8_commandHere_153 : decode cX8_commandHere 153 = .ok (.ifCond .ne 12, 3) := by decide +kernel
theorem dX8_commandHere_156 : decode cX8_commandHere 156 = .ok (.aload_n 0, 1) := by decide +kernel
theorem dX8_commandHere_157 : decode cX8_commandHere 157 = .ok (.bipush 112, 2) := by decide +kernel
theorem dX8_commandHere_159 : decode cX8_commandHere 159 = .ok (.invokevirtual 174, 3) := by decide +kernel
theorem dX8_commandHere_162 : decode cX8_commandHere 162 = .ok (.ifCond .eq 31, 3) := by decide +kernel
theorem dX8_commandHere_165 : decode cX8_commandHere 165 = .ok (.aload_n 0, 1) := by decide +kernel
theorem dX8_commandHere_166 : decode cX8_commandHere 166 = .ok (.iload_n 1, 1) := by decide +kernel
theorem dX8_commandHere_167 : decode cX8_commandHere 167 = .ok (.iconst 1, 1) := by decide +kernel
theorem dX8_commandHere_168 : decode cX8_commandHere 168 = .ok (.iadd, 1) := by decide +kernel
theorem dX8_commandHere_169 : decode cX8_commandHere 169 = .ok (.iconst 1, 1) := by decide +kernel
theorem dX8_commandHere_170 : decode cX8_commandHere 170 = .ok (.invokevirtual 177, 3) := by decide +kernel
theorem dX8_commandHere_173 : decode cX8_commandHere 173 = .ok (.ifCond .eq 18, 3) := by decide +kernel
theorem dX8_commandHere_176 : decode cX8_commandHere 176 = .ok (.aload_n 0, 1) := by decide +kernel
theorem dX8_commandHere_177 : decode cX8_commandHere 177 = .ok (.iload_n 1, 1) := by decide +kernel
theorem dX8_commandHere_178 : decode cX8_commandHere 178 = .ok (.iconst 2, 1) := by decide +kernel
theorem dX8_commandHere_179 : decode cX8_commandHere 179 = .ok (.iadd, 1) := by decide +kernel
theorem dX8_commandHere_180 : decode cX8_commandHere 180 = .ok (.iconst 1, 1) := by decide +kernel
theorem dX8_commandHere_181 : decode cX8_commandHere 181 = .ok (.invokevirtual 177, 3) := by decide +kernel
theorem dX8_commandHere_184 : decode cX8_commandHere 184 = .ok (.ifCond .eq 7, 3) := by decide +kernel
theorem dX8_commandHere_187 : decode cX8_commandHere 187 = .ok (.iconst 1, 1) := by decide +kernel
theorem dX8_commandHere_188 : decode cX8_commandHere 188 = .ok (.goto 4, 3) := by decide +kernel
theorem dX8_commandHere_191 : decode cX8_commandHere 191 = .ok (.iconst 0, 1) := by decide +kernel
theorem dX8_commandHere_192 : decode cX8_commandHere 192 = .ok (.ireturn, 1) := by decide +kernel
theorem dX8_commandHere_193 : decode cX8_commandHere 193 = .ok (.aload_n 0, 1) := by decide +kernel
theorem dX8_commandHere_194 : decode cX8_commandHere 194 = .ok (.bipush 116, 2) := by decide +kernel
theorem dX8_commandHere_196 : decode cX8_commandHere 196 = .ok (.invokevirtual 174, 3) := by decide +kernel
theorem dX8_commandHere_199 : decode cX8_commandHere 199 = .ok (.ifCond .ne 12, 3) := by decide +kernel
theorem dX8_commandHere_202 : decode cX8_commandHere 202 = .ok (.aload_n 0, 1) := by decide +kernel
theorem dX8_commandHere_203 : decode cX8_commandHere 203 = .ok (.bipush 115, 2) := by decide +kernel
theorem dX8_commandHere_205 : decode cX8_commandHere 205 = .ok (.invokevirtual 174, 3) := by decide +kernel
theorem dX8_commandHere_208 : decode cX8_commandHere 208 = .ok (.ifCond .eq 18, 3) := by decide +kernel
theorem dX8_commandHere_211 : decode cX8_commandHere 211 = .ok (.aload_n 0, 1) := by decide +kernel
theorem dX8_commandHere_212 : decode cX8_commandHere 212 = .ok (.iload_n 1, 1) := by decide +kernel
theorem dX8_commandHere_213 : decode cX8_commandHere 213 = .ok (.iconst 1, 1) := by decide +kernel
theorem dX8_commandHere_214 : decode cX8_commandHere 214 = .ok (.iadd, 1) := by decide +kernel
theorem dX8_commandHere_215 : decode cX8_commandHere 215 = .ok (.iconst 1, 1) := by decide +kernel
theorem dX8_commandHere_216 : decode cX8_commandHere 216 = .ok (.invokevirtual 177, 3) := by decide +kernel
theorem dX8_commandHere_219 : decode cX8_commandHere 219 = .ok (.ifCond .eq 7, 3) := by decide +kernel
theorem dX8_commandHere_222 : decode cX8_commandHere 222 = .ok (.iconst 1, 1) := by decide +kernel
theorem dX8_commandHere_223 : decode cX8_commandHere 223 = .ok (.goto 4, 3) := by decide +kernel
theorem dX8_commandHere_226 : decode cX8_commandHere 226 = .ok (.iconst 0, 1) := by decide +kernel
theorem dX8_commandHere_227 : decode cX8_commandHere 227 = .ok (.ireturn, 1) := by decide +kernel
set_option maxRecDepth 20000 in
theorem ggX8_isText_X8_commandHere : GoodIn wsX8_isText wsX8_commandHere := goodIn_ca (goodIn_r _ [8, 2, 9, 10, 11, 12, 7, 13, 1, 3, 14, 15, 16, 17, 18, 19, 20, 21, 22, 23, 24, 25, 26, 27, 28, 29, 30, 31, 32, 33, 34, 35, 36, 37, 38, 39, 40, 41, 42, 43, 44, 45, 46, 47, 48, 49] (by decide +kernel) (by decide +kernel)) (goodIn_sub (fun _ h => List.mem_cons_of_mem _ (List.mem_append_right _ h)) (by decide +kernel))
set_option maxRecDepth 20000 in
theorem gX8_isText_X8_commandHere : GoodIn wsX8_isText (wsV RX8 180 RX8 yX8_commandHere wsX8_commandHere) := goodIn_app (goodIn_of _ (by decide +kernel)) ggX8_isText_X8_commandHere
set_option maxRecDepth 20000 in
theorem ggX8_isText_X8_skips : GoodIn wsX8_isText wsX8_skips := goodIn_ca (goodIn_r _ [18, 1, 10, 11, 12, 7, 13, 3, 14, 26, 27, 28, 29, 30, 31, 32, 33, 34, 35, 36, 37, 38, 39, 40, 41, 42, 43, 44, 45, 46, 47, 48, 49] (by decide +kernel) (by decide +kernel)) (goodIn_sub (fun _ h => List.mem_cons_of_mem _ (List.mem_append_right _ h)) (by decide +kernel))
set_option maxRecDepth 20000 in
theorem gX8_isText_X8_skips : GoodIn wsX8_isText (wsV RX8 174 RX8 yX8_skips wsX8_skips) := goodIn_app (goodIn_of _ (by decide +kernel)) ggX8_isText_X8_skips
theorem dX8_isText_0 : decode cX8_isText 0 = .ok (.aload_n 0, 1) := by decide +kernel
theorem dX8_isText_1 : decode cX8_isText 1 = .ok (.iconst 0, 1) := by decide +kernel
theorem dX8_isText_2 : decode cX8_isText 2 = .ok (.putfield 165, 3) := by decide +kernel
theorem dX8_isText_5 : decode cX8_isText 5 = .ok (.aload_n 0, 1) := by decide +kernel
theorem dX8_isText_6 : decode cX8_isText 6 = .ok (.iconst 0, 1) := by decide +kernel
theorem dX8_isText_7 : decode cX8_isText 7 = .ok (.putfield 171, 3) := by decide +kernel
theorem dX8_isText_10 : decode cX8_isText 10 = .ok (.aload_n 0, 1) := by decide +kernel
theorem dX8_isText_11 : decode cX8_isText 11 = .ok (.invokevirtual 180, 3) := by decide +kernel
theorem dX8_isText_14 : decode cX8_isText 14 = .ok (.ifCond .ne 5, 3) := by decide +kernel
theorem dX8_isText_17 : decode cX8_isText 17 = .ok (.iconst 0, 1) := by decide +kernel
theorem dX8_isText_18 : decode cX8_isText 18 = .ok (.ireturn, 1) := by decide +kernel
theorem dX8_isText_19 : decode cX8_isText 19 = .ok (.aload_n 0, 1) := by decide +kernel
theorem dX8_isText_20 : decode cX8_isText 20 = .ok (.dup, 1) := by decide +kernel
theorem dX8_isText_21 : decode cX8_isText 21 = .ok (.getfield 171, 3) := by decide +kernel
theorem dX8_isText_24 : decode cX8_isText 24 = .ok (.iconst 1, 1) := by decide +kernel
theorem dX8_isText_25 : decode cX8_isText 25 = .ok (.iadd, 1) := by decide +kernel
theorem dX8_isText_26 : decode cX8_isText 26 = .ok (.putfield 171, 3) := by decide +kernel
theorem dX8_isText_29 : decode cX8_isText 29 = .ok (.aload_n 0, 1) := by decide +kernel
theorem dX8_isText_30 : decode cX8_isText 30 = .ok (.bipush 59, 2) := by decide +kernel
theorem dX8_isText_32 : decode cX8_isText 32 = .ok (.invokevirtual 174, 3) := by decide +kernel
theorem dX8_isText_35 : decode cX8_isText 35 = .ok (.ifCond .ne (-25), 3) := by decide +kernel
theorem dX8_isText_38 : decode cX8_isText 38 = .ok (.aload_n 0, 1) := by decide +kernel
theorem dX8_isText_39 : decode cX8_isText 39 = .ok (.getfield 165, 3) := by decide +kernel
theorem dX8_isText_42 : decode cX8_isText 42 = .ok (.aload_n 0, 1) := by decide +kernel
theorem dX8_isText_43 : decode cX8_isText 43 = .ok (.getfield 162, 3) := by decide +kernel
theorem dX8_isText_46 : decode cX8_isText 46 = .ok (.if_icmp .ne 7, 3) := by decide +kernel
theorem dX8_isText_49 : decode cX8_isText 49 = .ok (.iconst 1, 1) := by decide +kernel
theorem dX8_isText_50 : decode cX8_isText 50 = .ok (.goto 4, 3) := by decide +kernel
theorem dX8_isText_53 : decode cX8_isText 53 = .ok (.iconst 0, 1) := by decide +kernel
theorem dX8_isText_54 : decode cX8_isText 54 = .ok (.ireturn, 1) := by decide +kernel
set_option maxRecDepth 20000 in
theorem ggX8_carries_X8_wave : GoodIn wsX8_carries wsX8_wave := goodIn_ca (goodIn_r _ [6, 7, 8, 9, 10, 5, 11, 12, 13, 14, 15, 16, 17, 18, 19, 20, 21, 22, 23, 24, 25, 26, 27, 28, 29, 30, 31, 32, 33, 34, 35, 36, 37, 38, 39, 40, 41, 42, 43, 44, 45, 46, 47, 48, 49, 50, 51, 52, 53, 54, 55, 56, 57, 58, 59, 60, 61, 62, 63, 64, 65, 66, 67, 68, 120, 121, 122, 123, 124, 125, 126, 127, 128, 129, 130, 131, 132, 133, 134, 135, 136, 137, 138, 139, 140, 141, 142, 143] (by decide +kernel) (by decide +kernel)) (goodIn_sub (fun _ h => List.mem_cons_of_mem _ (List.mem_append_right _ h)) (by decide +kernel))
set_option maxRecDepth 20000 in
theorem gX8_carries_X8_wave : GoodIn wsX8_carries (wsV RX8 183 RX8 yX8_wave wsX8_wave) := goodIn_app (goodIn_of _ (by decide +kernel)) ggX8_carries_X8_wave
set_option maxRecDepth 20000 in
theorem ggX8_carries_X8_key : GoodIn wsX8_carries wsX8_key := goodIn_ca (goodIn_r _ [72, 7, 73, 74, 5, 75, 37, 38, 39, 40, 41, 42, 43, 44, 45, 46, 47, 48, 49, 50, 51, 52, 53, 54, 55, 120, 121, 122, 123, 124, 125, 126, 127, 128, 129, 130, 131, 132, 133, 134, 135, 136, 137, 138, 139, 140, 141, 142, 143] (by decide +kernel) (by decide +kernel)) (goodIn_sub (fun _ h => List.mem_cons_of_mem _ (List.mem_append_right _ h)) (by decide +kernel))
set_option maxRecDepth 20000 in
theorem gX8_carries_X8_key : GoodIn wsX8_carries (wsV RX8 186 RX8 yX8_key wsX8_key) := goodIn_app (goodIn_of _ (by decide +kernel)) ggX8_carries_X8_key
set_option maxRecDepth 20000 in
theorem ggX8_carries_X8_cut : GoodIn wsX8_carries wsX8_cut := goodIn_ca (goodIn_r _ [79, 7, 80, 81, 82, 5, 83, 73, 74, 75, 37, 38, 39, 40, 41, 42, 43, 44, 45, 46, 14, 15, 16, 17, 47, 48, 49, 50, 51, 52, 53, 54, 55, 30, 31, 32, 84, 85, 86, 87, 18, 19, 20, 21, 22, 23, 24, 25, 26, 27, 28, 29, 88, 89, 90, 91, 120, 121, 122, 123, 124, 125, 126, 127, 128, 129, 130, 131, 132, 133, 134, 135, 136, 137, 138, 139, 140, 141, 142, 143] (by decide +kernel) (by decide +kernel)) (goodIn_sub (fun _ h => List.mem_cons_of_mem _ (List.mem_append_right _ h)) (by decide +kernel))
set_option maxRecDepth 20000 in
theorem gX8_carries_X8_cut : GoodIn wsX8_carries (wsV RX8 189 RX8 yX8_cut wsX8_cut) := goodIn_app (goodIn_of _ (by decide +kernel)) ggX8_carries_X8_cut
set_option maxRecDepth 20000 in
theorem ggX8_carries_X8_lock : GoodIn wsX8_carries wsX8_lock := goodIn_ca (goodIn_r _ [95, 7, 73, 74, 5, 75, 37, 38, 39, 40, 41, 42, 43, 44, 45, 46, 47, 48, 49, 50, 51, 52, 53, 54, 55, 120, 121, 122, 123, 124, 125, 126, 127, 128, 129, 130, 131, 132, 133, 134, 135, 136, 137, 138, 139, 140, 141, 142, 143] (by decide +kernel) (by decide +kernel)) (goodIn_sub (fun _ h => List.mem_cons_of_mem _ (List.mem_append_right _ h)) (by decide +kernel))
set_option maxRecDepth 20000 in
theorem gX8_carries_X8_lock : GoodIn wsX8_carries (wsV RX8 192 RX8 yX8_lock wsX8_lock) := goodIn_app (goodIn_of _ (by decide +kernel)) ggX8_carries_X8_lock
set_option maxRecDepth 20000 in
theorem ggX8_carries_X8_bar : GoodIn wsX8_carries wsX8_bar := goodIn_ca (goodIn_r _ [99, 7, 80, 81, 82, 5, 83, 73, 74, 75, 37, 38, 39, 40, 41, 42, 43, 44, 45, 46, 100, 101, 102, 103, 47, 48, 49, 50, 51, 52, 53, 54, 55, 84, 85, 86, 87, 14, 15, 16, 17, 18, 19, 20, 21, 22, 23, 24, 25, 26, 27, 28, 29, 30, 31, 32, 88, 89, 90, 91, 104, 105, 106, 107, 120, 121, 122, 123, 124, 125, 126, 127, 128, 129, 130, 131, 132, 133, 134, 135, 136, 137, 138, 139, 140, 141, 142, 143] (by decide +kernel) (by decide +kernel)) (goodIn_sub (fun _ h => List.mem_cons_of_mem _ (List.mem_append_right _ h)) (by decide +kernel))
set_option maxRecDepth 20000 in
theorem gX8_carries_X8_bar : GoodIn wsX8_carries (wsV RX8 195 RX8 yX8_bar wsX8_bar) := goodIn_app (goodIn_of _ (by decide +kernel)) ggX8_carries_X8_bar
set_option maxRecDepth 20000 in
theorem ggX8_carries_X8_put : GoodIn wsX8_carries wsX8_put := goodIn_ca (goodIn_r _ [111, 7, 80, 81, 82, 5, 83, 73, 74, 75, 37, 38, 39, 40, 41, 42, 43, 44, 45, 46, 100, 101, 102, 103, 14, 15, 16, 17, 26, 27, 28, 29, 18, 19, 20, 21, 22, 23, 24, 25, 30, 31, 32, 47, 48, 49, 50, 51, 52, 53, 54, 55, 65, 66, 67, 68, 33, 34, 35, 36, 120, 121, 122, 123, 124, 125, 126, 127, 128, 129, 130, 131, 132, 133, 134, 135, 136, 137, 138, 139, 140, 141, 142, 143] (by decide +kernel) (by decide +kernel)) (goodIn_sub (fun _ h => List.mem_cons_of_mem _ (List.mem_append_right _ h)) (by decide +kernel))
set_option maxRecDepth 20000 in
theorem gX8_carries_X8_put : GoodIn wsX8_carries (wsV RX8 199 RX8 yX8_put wsX8_put) := goodIn_app (goodIn_of _ (by decide +kernel)) ggX8_carries_X8_put
set_option maxRecDepth 20000 in
theorem ggX8_carries_X8_take : GoodIn wsX8_carries wsX8_take := goodIn_ca (goodIn_r _ [115, 7, 80, 81, 82, 5, 83, 73, 74, 75, 37, 38, 39, 40, 41, 42, 43, 44, 45, 46, 14, 15, 16, 17, 47, 48, 49, 50, 51, 52, 53, 54, 55, 88, 89, 90, 91, 120, 121, 122, 123, 124, 125, 126, 127, 128, 129, 130, 131, 132, 133, 134, 135, 136, 137, 138, 139, 140, 141, 142, 143] (by decide +kernel) (by decide +kernel)) (goodIn_sub (fun _ h => List.mem_cons_of_mem _ (List.mem_append_right _ h)) (by decide +kernel))
set_option maxRecDepth 20000 in
theorem gX8_carries_X8_take : GoodIn wsX8_carries (wsV RX8 202 RX8 yX8_take wsX8_take) := goodIn_app (goodIn_of _ (by decide +kernel)) ggX8_carries_X8_take
set_option maxRecDepth 20000 in
theorem ggX8_carries_X8_slack : GoodIn wsX8_carries wsX8_slack := goodIn_ca (goodIn_r _ [119, 7, 73, 74, 5, 75, 37, 38, 39, 40, 41, 42, 43, 44, 45, 46, 47, 48, 49, 50, 51, 52, 53, 54, 55, 84, 85, 86, 87, 14, 15, 16, 17, 18, 19, 20, 21, 22, 23, 24, 25, 26, 27, 28, 29, 30, 31, 32, 88, 89, 90, 91, 120, 121, 122, 123, 124, 125, 126, 127, 128, 129, 130, 131, 132, 133, 134, 135, 136, 137, 138, 139, 140, 141, 142, 143] (by decide +kernel) (by decide +kernel)) (goodIn_sub (fun _ h => List.mem_cons_of_mem _ (List.mem_append_right _ h)) (by decide +kernel))
set_option maxRecDepth 20000 in
theorem gX8_carries_X8_slack : GoodIn wsX8_carries (wsV RX8 205 RX8 yX8_slack wsX8_slack) := goodIn_app (goodIn_of _ (by decide +kernel)) ggX8_carries_X8_slack
theorem dX8_carries_0 : decode cX8_carries 0 = .ok (.aload_n 0, 1) := by decide +kernel
theorem dX8_carries_1 : decode cX8_carries 1 = .ok (.getfield 43, 3) := by decide +kernel
theorem dX8_carries_4 : decode cX8_carries 4 = .ok (.iload_n 1, 1) := by decide +kernel
theorem dX8_carries_5 : decode cX8_carries 5 = .ok (.iaload, 1) := by decide +kernel
theorem dX8_carries_6 : decode cX8_carries 6 = .ok (.tableswitch 240 98 119 #[162, 128, 240, 240, 240, 240, 240, 240, 240, 107, 149, 240, 240, 240, 206, 240, 240, 240, 227, 184, 240, 102], 102) := by decide +kernel
theorem dX8_carries_108 : decode cX8_carries 108 = .ok (.aload_n 0, 1) := by decide +kernel
theorem dX8_carries_109 : decode cX8_carries 109 = .ok (.invokevirtual 183, 3) := by decide +kernel
theorem dX8_carries_112 : decode cX8_carries 112 = .ok (.ireturn, 1) := by decide +kernel
theorem dX8_carries_113 : decode cX8_carries 113 = .ok (.aload_n 0, 1) := by decide +kernel
theorem dX8_carries_114 : decode cX8_carries 114 = .ok (.aload_n 0, 1) := by decide +kernel
theorem dX8_carries_115 : decode cX8_carries 115 = .ok (.getfield 43, 3) := by decide +kernel
theorem dX8_carries_118 : decode cX8_carries 118 = .ok (.iload_n 1, 1) := by decide +kernel
theorem dX8_carries_119 : decode cX8_carries 119 = .ok (.iconst 1, 1) := by decide +kernel
theorem dX8_carries_120 : decode cX8_carries 120 = .ok (.iadd, 1) := by decide +kernel
theorem dX8_carries_121 : decode cX8_carries 121 = .ok (.iaload, 1) := by decide +kernel
theorem dX8_carries_122 : decode cX8_carries 122 = .ok (.aload_n 0, 1) := by decide +kernel
theorem dX8_carries_123 : decode cX8_carries 123 = .ok (.getfield 43, 3) := by decide +kernel
theorem dX8_carries_126 : decode cX8_carries 126 = .ok (.iload_n 1, 1) := by decide +kernel
theorem dX8_carries_127 : decode cX8_carries 127 = .ok (.iconst 2, 1) := by decide +kernel
theorem dX8_carries_128 : decode cX8_carries 128 = .ok (.iadd, 1) := by decide +kernel
theorem dX8_carries_129 : decode cX8_carries 129 = .ok (.iaload, 1) := by decide +kernel
theorem dX8_carries_130 : decode cX8_carries 130 = .ok (.invokevirtual 186, 3) := by decide +kernel
theorem dX8_carries_133 : decode cX8_carries 133 = .ok (.ireturn, 1) := by decide +kernel
theorem dX8_carries_134 : decode cX8_carries 134 = .ok (.aload_n 0, 1) := by decide +kernel
theorem dX8_carries_135 : decode cX8_carries 135 = .ok (.aload_n 0, 1) := by decide +kernel
theorem dX8_carries_136 : decode cX8_carries 136 = .ok (.getfield 43, 3) := by decide +kernel
theorem dX8_carries_139 : decode cX8_carries 139 = .ok (.iload_n 1, 1) := by decide +kernel
theorem dX8_carries_140 : decode cX8_carries 140 = .ok (.iconst 1, 1) := by decide +kernel
theorem dX8_carries_141 : decode cX8_carries 141 = .ok (.iadd, 1) := by decide +kernel
theorem dX8_carries_142 : decode cX8_carries 142 = .ok (.iaload, 1) := by decide +kernel
theorem dX8_carries_143 : decode cX8_carries 143 = .ok (.aload_n 0, 1) := by decide +kernel
theorem dX8_carries_144 : decode cX8_carries 144 = .ok (.getfield 43, 3) := by decide +kernel
theorem dX8_carries_147 : decode cX8_carries 147 = .ok (.iload_n 1, 1) := by decide +kernel
theorem dX8_carries_148 : decode cX8_carries 148 = .ok (.iconst 2, 1) := by decide +kernel
theorem dX8_carries_149 : decode cX8_carries 149 = .ok (.iadd, 1) := by decide +kernel
theorem dX8_carries_150 : decode cX8_carries 150 = .ok (.iaload, 1) := by decide +kernel
theorem dX8_carries_151 : decode cX8_carries 151 = .ok (.invokevirtual 189, 3) := by decide +kernel
theorem dX8_carries_154 : decode cX8_carries 154 = .ok (.ireturn, 1) := by decide +kernel
theorem dX8_carries_155 : decode cX8_carries 155 = .ok (.aload_n 0, 1) := by decide +kernel
theorem dX8_carries_156 : decode cX8_carries 156 = .ok (.aload_n 0, 1) := by decide +kernel
theorem dX8_carries_157 : decode cX8_carries 157 = .ok (.getfield 43, 3) := by decide +kernel
theorem dX8_carries_160 : decode cX8_carries 160 = .ok (.iload_n 1, 1) := by decide +kernel
theorem dX8_carries_161 : decode cX8_carries 161 = .ok (.iconst 1, 1) := by decide +kernel
theorem dX8_carries_162 : decode cX8_carries 162 = .ok (.iadd, 1) := by decide +kernel
theorem dX8_carries_163 : decode cX8_carries 163 = .ok (.iaload, 1) := by decide +kernel
theorem dX8_carries_164 : decode cX8_carries 164 = .ok (.invokevirtual 192, 3) := by decide +kernel
theorem dX8_carries_167 : decode cX8_carries 167 = .ok (.ireturn, 1) := by decide +kernel
theorem dX8_carries_168 : decode cX8_carries 168 = .ok (.aload_n 0, 1) := by decide +kernel
theorem dX8_carries_169 : decode cX8_carries 169 = .ok (.aload_n 0, 1) := by decide +kernel
theorem dX8_carries_170 : decode cX8_carries 170 = .ok (.getfield 43, 3) := by decide +kernel
theorem dX8_carries_173 : decode cX8_carries 173 = .ok (.iload_n 1, 1) := by decide +kernel
theorem dX8_carries_174 : decode cX8_carries 174 = .ok (.iconst 1, 1) := by decide +kernel
theorem dX8_carries_175 : decode cX8_carries 175 = .ok (.iadd, 1) := by decide +kernel
theorem dX8_carries_176 : decode cX8_carries 176 = .ok (.iaload, 1) := by decide +kernel
theorem dX8_carries_177 : decode cX8_carries 177 = .ok (.aload_n 0, 1) := by decide +kernel
theorem dX8_carries_178 : decode cX8_carries 178 = .ok (.getfield 43, 3) := by decide +kernel
theorem dX8_carries_181 : decode cX8_carries 181 = .ok (.iload_n 1, 1) := by decide +kernel
theorem dX8_carries_182 : decode cX8_carries 182 = .ok (.iconst 2, 1) := by decide +kernel
theorem dX8_carries_183 : decode cX8_carries 183 = .ok (.iadd, 1) := by decide +kernel
theorem dX8_carries_184 : decode cX8_carries 184 = .ok (.iaload, 1) := by decide +kernel
theorem dX8_carries_185 : decode cX8_carries 185 = .ok (.iconst 1, 1) := by decide +kernel
theorem dX8_carries_186 : decode cX8_carries 186 = .ok (.invokevirtual 195, 3) := by decide +kernel
theorem dX8_carries_189 : decode cX8_carries 189 = .ok (.ireturn, 1) := by decide +kernel
theorem dX8_carries_190 : decode cX8_carries 190 = .ok (.aload_n 0, 1) := by decide +kernel
theorem dX8_carries_191 : decode cX8_carries 191 = .ok (.aload_n 0, 1) := by decide +kernel
theorem dX8_carries_192 : decode cX8_carries 192 = .ok (.getfield 43, 3) := by decide +kernel
theorem dX8_carries_195 : decode cX8_carries 195 = .ok (.iload_n 1, 1) := by decide +kernel
theorem dX8_carries_196 : decode cX8_carries 196 = .ok (.iconst 1, 1) := by decide +kernel
theorem dX8_carries_197 : decode cX8_carries 197 = .ok (.iadd, 1) := by decide +kernel
theorem dX8_carries_198 : decode cX8_carries 198 = .ok (.iaload, 1) := by decide +kernel
theorem dX8_carries_199 : decode cX8_carries 199 = .ok (.aload_n 0, 1) := by decide +kernel
theorem dX8_carries_200 : decode cX8_carries 200 = .ok (.getfield 43, 3) := by decide +kernel
theorem dX8_carries_203 : decode cX8_carries 203 = .ok (.iload_n 1, 1) := by decide +kernel
theorem dX8_carries_204 : decode cX8_carries 204 = .ok (.iconst 2, 1) := by decide +kernel
theorem dX8_carries_205 : decode cX8_carries 205 = .ok (.iadd, 1) := by decide +kernel
theorem dX8_carries_206 : decode cX8_carries 206 = .ok (.iaload, 1) := by decide +kernel
theorem dX8_carries_207 : decode cX8_carries 207 = .ok (.iconst 0, 1) := by decide +kernel
theorem dX8_carries_208 : decode cX8_carries 208 = .ok (.invokevirtual 195, 3) := by decide +kernel
theorem dX8_carries_211 : decode cX8_carries 211 = .ok (.ireturn, 1) := by decide +kernel
theorem dX8_carries_212 : decode cX8_carries 212 = .ok (.aload_n 0, 1) := by decide +kernel
theorem dX8_carries_213 : decode cX8_carries 213 = .ok (.aload_n 0, 1) := by decide +kernel
theorem dX8_carries_214 : decode cX8_carries 214 = .ok (.getfield 43, 3) := by decide +kernel
theorem dX8_carries_217 : decode cX8_carries 217 = .ok (.iload_n 1, 1) := by decide +kernel
theorem dX8_carries_218 : decode cX8_carries 218 = .ok (.iconst 1, 1) := by decide +kernel
theorem dX8_carries_219 : decode cX8_carries 219 = .ok (.iadd, 1) := by decide +kernel
theorem dX8_carries_220 : decode cX8_carries 220 = .ok (.iaload, 1) := by decide +kernel
