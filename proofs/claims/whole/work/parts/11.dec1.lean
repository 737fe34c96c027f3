theorem dX3_place_40 : decode cX3_place 40 = .ok (.return_, 1) := by decide +kernel
set_option maxRecDepth 20000 in
theorem ggX3_dropUnfit_X3_lockWith : GoodIn wsX3_dropUnfit wsX3_lockWith := goodIn_ca (goodIn_r _ [9, 2, 10, 11, 12, 8, 13, 1, 34, 35, 36, 37, 38, 39, 40, 41, 42, 43, 44, 45, 46, 47] (by decide +kernel) (by decide +kernel)) (goodIn_sub (fun _ h => List.mem_cons_of_mem _ (List.mem_append_right _ h)) (by decide +kernel))
set_option maxRecDepth 20000 in
theorem gX3_dropUnfit_X3_lockWith : GoodIn wsX3_dropUnfit (wsV RX3 124 RX3 yX3_lockWith wsX3_lockWith) := goodIn_app (goodIn_of _ (by decide +kernel)) ggX3_dropUnfit_X3_lockWith
set_option maxRecDepth 20000 in
theorem ggX3_dropUnfit_X3_hasLock : GoodIn wsX3_dropUnfit wsX3_hasLock := goodIn_r _ [17, 18, 34, 35, 36, 37, 38, 39, 40, 41, 42, 43, 44, 45, 46, 47] (by decide +kernel) (by decide +kernel)
set_option maxRecDepth 20000 in
theorem gX3_dropUnfit_X3_hasLock : GoodIn wsX3_dropUnfit (wsV RX3 65 RX3 yX3_hasLock wsX3_hasLock) := goodIn_app (goodIn_of _ (by decide +kernel)) ggX3_dropUnfit_X3_hasLock
set_option maxRecDepth 20000 in
theorem ggX3_dropUnfit_X3_isFit : GoodIn wsX3_dropUnfit wsX3_isFit := goodIn_ca (goodIn_r _ [22, 23, 24, 25, 26, 10, 11, 12, 8, 13, 1, 14, 15, 16, 17, 18, 27, 28, 29, 30, 31, 32, 33, 34, 35, 36, 37, 38, 39, 40, 41, 42, 43, 44, 45, 46, 47] (by decide +kernel) (by decide +kernel)) (goodIn_sub (fun _ h => List.mem_cons_of_mem _ (List.mem_append_right _ h)) (by decide +kernel))
set_option maxRecDepth 20000 in
theorem gX3_dropUnfit_X3_isFit : GoodIn wsX3_dropUnfit (wsV RX3 114 RX3 yX3_isFit wsX3_isFit) := goodIn_app (goodIn_of _ (by decide +kernel)) ggX3_dropUnfit_X3_isFit
theorem dX3_dropUnfit_0 : decode cX3_dropUnfit 0 = .ok (.iconst 0, 1) := by decide +kernel
theorem dX3_dropUnfit_1 : decode cX3_dropUnfit 1 = .ok (.istore_n 1, 1) := by decide +kernel
theorem dX3_dropUnfit_2 : decode cX3_dropUnfit 2 = .ok (.iconst 0, 1) := by decide +kernel
theorem dX3_dropUnfit_3 : decode cX3_dropUnfit 3 = .ok (.istore_n 2, 1) := by decide +kernel
theorem dX3_dropUnfit_4 : decode cX3_dropUnfit 4 = .ok (.iload_n 2, 1) := by decide +kernel
theorem dX3_dropUnfit_5 : decode cX3_dropUnfit 5 = .ok (.aload_n 0, 1) := by decide +kernel
theorem dX3_dropUnfit_6 : decode cX3_dropUnfit 6 = .ok (.getfield 36, 3) := by decide +kernel
theorem dX3_dropUnfit_9 : decode cX3_dropUnfit 9 = .ok (.if_icmp .ge 49, 3) := by decide +kernel
theorem dX3_dropUnfit_12 : decode cX3_dropUnfit 12 = .ok (.aload_n 0, 1) := by decide +kernel
theorem dX3_dropUnfit_13 : decode cX3_dropUnfit 13 = .ok (.iload_n 2, 1) := by decide +kernel
theorem dX3_dropUnfit_14 : decode cX3_dropUnfit 14 = .ok (.invokevirtual 124, 3) := by decide +kernel
theorem dX3_dropUnfit_17 : decode cX3_dropUnfit 17 = .ok (.istore_n 3, 1) := by decide +kernel
theorem dX3_dropUnfit_18 : decode cX3_dropUnfit 18 = .ok (.aload_n 0, 1) := by decide +kernel
theorem dX3_dropUnfit_19 : decode cX3_dropUnfit 19 = .ok (.iload_n 3, 1) := by decide +kernel
theorem dX3_dropUnfit_20 : decode cX3_dropUnfit 20 = .ok (.invokevirtual 65, 3) := by decide +kernel
theorem dX3_dropUnfit_23 : decode cX3_dropUnfit 23 = .ok (.ifCond .eq 29, 3) := by decide +kernel
theorem dX3_dropUnfit_26 : decode cX3_dropUnfit 26 = .ok (.aload_n 0, 1) := by decide +kernel
theorem dX3_dropUnfit_27 : decode cX3_dropUnfit 27 = .ok (.iload_n 2, 1) := by decide +kernel
theorem dX3_dropUnfit_28 : decode cX3_dropUnfit 28 = .ok (.iload_n 3, 1) := by decide +kernel
theorem dX3_dropUnfit_29 : decode cX3_dropUnfit 29 = .ok (.invokevirtual 114, 3) := by decide +kernel
theorem dX3_dropUnfit_32 : decode cX3_dropUnfit 32 = .ok (.ifCond .ne 20, 3) := by decide +kernel
theorem dX3_dropUnfit_35 : decode cX3_dropUnfit 35 = .ok (.aload_n 0, 1) := by decide +kernel
theorem dX3_dropUnfit_36 : decode cX3_dropUnfit 36 = .ok (.getfield 24, 3) := by decide +kernel
theorem dX3_dropUnfit_39 : decode cX3_dropUnfit 39 = .ok (.iload_n 2, 1) := by decide +kernel
theorem dX3_dropUnfit_40 : decode cX3_dropUnfit 40 = .ok (.iconst (-1), 1) := by decide +kernel
theorem dX3_dropUnfit_41 : decode cX3_dropUnfit 41 = .ok (.iastore, 1) := by decide +kernel
theorem dX3_dropUnfit_42 : decode cX3_dropUnfit 42 = .ok (.aload_n 0, 1) := by decide +kernel
theorem dX3_dropUnfit_43 : decode cX3_dropUnfit 43 = .ok (.getfield 30, 3) := by decide +kernel
theorem dX3_dropUnfit_46 : decode cX3_dropUnfit 46 = .ok (.iload_n 3, 1) := by decide +kernel
theorem dX3_dropUnfit_47 : decode cX3_dropUnfit 47 = .ok (.iconst (-1), 1) := by decide +kernel
theorem dX3_dropUnfit_48 : decode cX3_dropUnfit 48 = .ok (.iastore, 1) := by decide +kernel
theorem dX3_dropUnfit_49 : decode cX3_dropUnfit 49 = .ok (.iinc 1 1, 3) := by decide +kernel
theorem dX3_dropUnfit_52 : decode cX3_dropUnfit 52 = .ok (.iinc 2 1, 3) := by decide +kernel
theorem dX3_dropUnfit_55 : decode cX3_dropUnfit 55 = .ok (.goto (-51), 3) := by decide +kernel
theorem dX3_dropUnfit_58 : decode cX3_dropUnfit 58 = .ok (.aload_n 0, 1) := by decide +kernel
theorem dX3_dropUnfit_59 : decode cX3_dropUnfit 59 = .ok (.dup, 1) := by decide +kernel
theorem dX3_dropUnfit_60 : decode cX3_dropUnfit 60 = .ok (.getfield 52, 3) := by decide +kernel
theorem dX3_dropUnfit_63 : decode cX3_dropUnfit 63 = .ok (.iload_n 1, 1) := by decide +kernel
theorem dX3_dropUnfit_64 : decode cX3_dropUnfit 64 = .ok (.iadd, 1) := by decide +kernel
theorem dX3_dropUnfit_65 : decode cX3_dropUnfit 65 = .ok (.putfield 52, 3) := by decide +kernel
theorem dX3_dropUnfit_68 : decode cX3_dropUnfit 68 = .ok (.iload_n 1, 1) := by decide +kernel
theorem dX3_dropUnfit_69 : decode cX3_dropUnfit 69 = .ok (.ireturn, 1) := by decide +kernel
set_option maxRecDepth 20000 in
theorem ggX3_countOpen_X3_keyIn : GoodIn wsX3_countOpen wsX3_keyIn := goodIn_ca (goodIn_r _ [6, 7, 8, 9, 10, 5, 11, 1, 12, 13, 14, 15, 16, 17, 18, 19, 20, 21, 22, 23, 24, 25] (by decide +kernel) (by decide +kernel)) (goodIn_sub (fun _ h => List.mem_cons_of_mem _ (List.mem_append_right _ h)) (by decide +kernel))
set_option maxRecDepth 20000 in
theorem gX3_countOpen_X3_keyIn : GoodIn wsX3_countOpen (wsV RX3 127 RX3 yX3_keyIn wsX3_keyIn) := goodIn_app (goodIn_of _ (by decide +kernel)) ggX3_countOpen_X3_keyIn
theorem dX3_countOpen_0 : decode cX3_countOpen 0 = .ok (.iconst 0, 1) := by decide +kernel
theorem dX3_countOpen_1 : decode cX3_countOpen 1 = .ok (.istore_n 1, 1) := by decide +kernel
theorem dX3_countOpen_2 : decode cX3_countOpen 2 = .ok (.iconst 0, 1) := by decide +kernel
theorem dX3_countOpen_3 : decode cX3_countOpen 3 = .ok (.istore_n 2, 1) := by decide +kernel
theorem dX3_countOpen_4 : decode cX3_countOpen 4 = .ok (.iload_n 2, 1) := by decide +kernel
theorem dX3_countOpen_5 : decode cX3_countOpen 5 = .ok (.aload_n 0, 1) := by decide +kernel
theorem dX3_countOpen_6 : decode cX3_countOpen 6 = .ok (.getfield 40, 3) := by decide +kernel
theorem dX3_countOpen_9 : decode cX3_countOpen 9 = .ok (.if_icmp .ge 21, 3) := by decide +kernel
theorem dX3_countOpen_12 : decode cX3_countOpen 12 = .ok (.aload_n 0, 1) := by decide +kernel
theorem dX3_countOpen_13 : decode cX3_countOpen 13 = .ok (.iload_n 2, 1) := by decide +kernel
theorem dX3_countOpen_14 : decode cX3_countOpen 14 = .ok (.invokevirtual 127, 3) := by decide +kernel
theorem dX3_countOpen_17 : decode cX3_countOpen 17 = .ok (.iconst (-1), 1) := by decide +kernel
theorem dX3_countOpen_18 : decode cX3_countOpen 18 = .ok (.if_icmp .eq 6, 3) := by decide +kernel
theorem dX3_countOpen_21 : decode cX3_countOpen 21 = .ok (.iinc 1 1, 3) := by decide +kernel
theorem dX3_countOpen_24 : decode cX3_countOpen 24 = .ok (.iinc 2 1, 3) := by decide +kernel
theorem dX3_countOpen_27 : decode cX3_countOpen 27 = .ok (.goto (-23), 3) := by decide +kernel
theorem dX3_countOpen_30 : decode cX3_countOpen 30 = .ok (.iload_n 1, 1) := by decide +kernel
theorem dX3_countOpen_31 : decode cX3_countOpen 31 = .ok (.ireturn, 1) := by decide +kernel
set_option maxRecDepth 20000 in
theorem ggX3_countLocksFor_X3_isFit : GoodIn wsX3_countLocksFor wsX3_isFit := goodIn_ca (goodIn_r _ [6, 7, 8, 9, 10, 11, 12, 13, 5, 14, 15, 16, 17, 18, 19, 1, 20, 21, 22, 23, 24, 25, 26, 27, 28, 29, 30, 31, 32, 33, 34, 35, 36, 37, 38, 39, 40] (by decide +kernel) (by decide +kernel)) (goodIn_sub (fun _ h => List.mem_cons_of_mem _ (List.mem_append_right _ h)) (by decide +kernel))
set_option maxRecDepth 20000 in
theorem gX3_countLocksFor_X3_isFit : GoodIn wsX3_countLocksFor (wsV RX3 114 RX3 yX3_isFit wsX3_isFit) := goodIn_app (goodIn_of _ (by decide +kernel)) ggX3_countLocksFor_X3_isFit
theorem dX3_countLocksFor_0 : decode cX3_countLocksFor 0 = .ok (.iconst 0, 1) := by decide +kernel
theorem dX3_countLocksFor_1 : decode cX3_countLocksFor 1 = .ok (.istore_n 2, 1) := by decide +kernel
theorem dX3_countLocksFor_2 : decode cX3_countLocksFor 2 = .ok (.iconst 0, 1) := by decide +kernel
theorem dX3_countLocksFor_3 : decode cX3_countLocksFor 3 = .ok (.istore_n 3, 1) := by decide +kernel
theorem dX3_countLocksFor_4 : decode cX3_countLocksFor 4 = .ok (.iload_n 3, 1) := by decide +kernel
theorem dX3_countLocksFor_5 : decode cX3_countLocksFor 5 = .ok (.aload_n 0, 1) := by decide +kernel
theorem dX3_countLocksFor_6 : decode cX3_countLocksFor 6 = .ok (.getfield 40, 3) := by decide +kernel
theorem dX3_countLocksFor_9 : decode cX3_countLocksFor 9 = .ok (.if_icmp .ge 21, 3) := by decide +kernel
theorem dX3_countLocksFor_12 : decode cX3_countLocksFor 12 = .ok (.aload_n 0, 1) := by decide +kernel
theorem dX3_countLocksFor_13 : decode cX3_countLocksFor 13 = .ok (.iload_n 1, 1) := by decide +kernel
theorem dX3_countLocksFor_14 : decode cX3_countLocksFor 14 = .ok (.iload_n 3, 1) := by decide +kernel
theorem dX3_countLocksFor_15 : decode cX3_countLocksFor 15 = .ok (.invokevirtual 114, 3) := by decide +kernel
theorem dX3_countLocksFor_18 : decode cX3_countLocksFor 18 = .ok (.ifCond .eq 6, 3) := by decide +kernel
theorem dX3_countLocksFor_21 : decode cX3_countLocksFor 21 = .ok (.iinc 2 1, 3) := by decide +kernel
theorem dX3_countLocksFor_24 : decode cX3_countLocksFor 24 = .ok (.iinc 3 1, 3) := by decide +kernel
theorem dX3_countLocksFor_27 : decode cX3_countLocksFor 27 = .ok (.goto (-23), 3) := by decide +kernel
theorem dX3_countLocksFor_30 : decode cX3_countLocksFor 30 = .ok (.iload_n 2, 1) := by decide +kernel
theorem dX3_countLocksFor_31 : decode cX3_countLocksFor 31 = .ok (.ireturn, 1) := by decide +kernel
set_option maxRecDepth 20000 in
theorem ggX3_countKeysFor_X3_isFit : GoodIn wsX3_countKeysFor wsX3_isFit := goodIn_ca (goodIn_r _ [6, 7, 8, 9, 10, 11, 12, 13, 5, 14, 1, 15, 16, 17, 18, 19, 20, 21, 22, 23, 24, 25, 26, 27, 28, 29, 30, 31, 32, 33, 34, 35, 36, 37, 38, 39, 40] (by decide +kernel) (by decide +kernel)) (goodIn_sub (fun _ h => List.mem_cons_of_mem _ (List.mem_append_right _ h)) (by decide +kernel))
set_option maxRecDepth 20000 in
theorem gX3_countKeysFor_X3_isFit : GoodIn wsX3_countKeysFor (wsV RX3 114 RX3 yX3_isFit wsX3_isFit) := goodIn_app (goodIn_of _ (by decide +kernel)) ggX3_countKeysFor_X3_isFit
theorem dX3_countKeysFor_0 : decode cX3_countKeysFor 0 = .ok (.iconst 0, 1) := by decide +kernel
theorem dX3_countKeysFor_1 : decode cX3_countKeysFor 1 = .ok (.istore_n 2, 1) := by decide +kernel
theorem dX3_countKeysFor_2 : decode cX3_countKeysFor 2 = .ok (.iconst 0, 1) := by decide +kernel
theorem dX3_countKeysFor_3 : decode cX3_countKeysFor 3 = .ok (.istore_n 3, 1) := by decide +kernel
theorem dX3_countKeysFor_4 : decode cX3_countKeysFor 4 = .ok (.iload_n 3, 1) := by decide +kernel
theorem dX3_countKeysFor_5 : decode cX3_countKeysFor 5 = .ok (.aload_n 0, 1) := by decide +kernel
theorem dX3_countKeysFor_6 : decode cX3_countKeysFor 6 = .ok (.getfield 36, 3) := by decide +kernel
theorem dX3_countKeysFor_9 : decode cX3_countKeysFor 9 = .ok (.if_icmp .ge 21, 3) := by decide +kernel
theorem dX3_countKeysFor_12 : decode cX3_countKeysFor 12 = .ok (.aload_n 0, 1) := by decide +kernel
theorem dX3_countKeysFor_13 : decode cX3_countKeysFor 13 = .ok (.iload_n 3, 1) := by decide +kernel
theorem dX3_countKeysFor_14 : decode cX3_countKeysFor 14 = .ok (.iload_n 1, 1) := by decide +kernel
theorem dX3_countKeysFor_15 : decode cX3_countKeysFor 15 = .ok (.invokevirtual 114, 3) := by decide +kernel
theorem dX3_countKeysFor_18 : decode cX3_countKeysFor 18 = .ok (.ifCond .eq 6, 3) := by decide +kernel
theorem dX3_countKeysFor_21 : decode cX3_countKeysFor 21 = .ok (.iinc 2 1, 3) := by decide +kernel
theorem dX3_countKeysFor_24 : decode cX3_countKeysFor 24 = .ok (.iinc 3 1, 3) := by decide +kernel
theorem dX3_countKeysFor_27 : decode cX3_countKeysFor 27 = .ok (.goto (-23), 3) := by decide +kernel
theorem dX3_countKeysFor_30 : decode cX3_countKeysFor 30 = .ok (.iload_n 2, 1) := by decide +kernel
theorem dX3_countKeysFor_31 : decode cX3_countKeysFor 31 = .ok (.ireturn, 1) := by decide +kernel
set_option maxRecDepth 20000 in
theorem ggX3_countFits_X3_countLocksFor : GoodIn wsX3_countFits wsX3_countLocksFor := goodIn_ca (goodIn_r _ [6, 7, 8, 9, 10, 5, 11, 12, 13, 14, 15, 16, 17, 18, 19, 1, 20, 21, 22, 23, 24, 25, 26, 27, 28, 29, 30, 31, 32, 33, 34, 35, 36, 37, 38, 39, 40, 41, 42, 43, 44] (by decide +kernel) (by decide +kernel)) (goodIn_sub (fun _ h => List.mem_cons_of_mem _ (List.mem_append_right _ h)) (by decide +kernel))
set_option maxRecDepth 20000 in
theorem gX3_countFits_X3_countLocksFor : GoodIn wsX3_countFits (wsV RX3 130 RX3 yX3_countLocksFor wsX3_countLocksFor) := goodIn_app (goodIn_of _ (by decide +kernel)) ggX3_countFits_X3_countLocksFor
theorem dX3_countFits_0 : decode cX3_countFits 0 = .ok (.iconst 0, 1) := by decide +kernel
theorem dX3_countFits_1 : decode cX3_countFits 1 = .ok (.istore_n 1, 1) := by decide +kernel
theorem dX3_countFits_2 : decode cX3_countFits 2 = .ok (.iconst 0, 1) := by decide +kernel
theorem dX3_countFits_3 : decode cX3_countFits 3 = .ok (.istore_n 2, 1) := by decide +kernel
theorem dX3_countFits_4 : decode cX3_countFits 4 = .ok (.iload_n 2, 1) := by decide +kernel
theorem dX3_countFits_5 : decode cX3_countFits 5 = .ok (.aload_n 0, 1) := by decide +kernel
theorem dX3_countFits_6 : decode cX3_countFits 6 = .ok (.getfield 36, 3) := by decide +kernel
theorem dX3_countFits_9 : decode cX3_countFits 9 = .ok (.if_icmp .ge 17, 3) := by decide +kernel
theorem dX3_countFits_12 : decode cX3_countFits 12 = .ok (.iload_n 1, 1) := by decide +kernel
theorem dX3_countFits_13 : decode cX3_countFits 13 = .ok (.aload_n 0, 1) := by decide +kernel
theorem dX3_countFits_14 : decode cX3_countFits 14 = .ok (.iload_n 2, 1) := by decide +kernel
theorem dX3_countFits_15 : decode cX3_countFits 15 = .ok (.invokevirtual 130, 3) := by decide +kernel
theorem dX3_countFits_18 : decode cX3_countFits 18 = .ok (.iadd, 1) := by decide +kernel
theorem dX3_countFits_19 : decode cX3_countFits 19 = .ok (.istore_n 1, 1) := by decide +kernel
theorem dX3_countFits_20 : decode cX3_countFits 20 = .ok (.iinc 2 1, 3) := by decide +kernel
theorem dX3_countFits_23 : decode cX3_countFits 23 = .ok (.goto (-19), 3) := by decide +kernel
theorem dX3_countFits_26 : decode cX3_countFits 26 = .ok (.iload_n 1, 1) := by decide +kernel
theorem dX3_countFits_27 : decode cX3_countFits 27 = .ok (.ireturn, 1) := by decide +kernel
set_option maxRecDepth 20000 in
theorem ggX3_countBars_X3_barsOf : GoodIn wsX3_countBars wsX3_barsOf := goodIn_ca (goodIn_r _ [6, 7, 8, 9, 10, 5, 11, 1, 19, 20, 21, 22, 23, 24, 25, 26, 27, 28, 29, 30, 31, 32] (by decide +kernel) (by decide +kernel)) (goodIn_sub (fun _ h => List.mem_cons_of_mem _ (List.mem_append_right _ h)) (by decide +kernel))
set_option maxRecDepth 20000 in
theorem gX3_countBars_X3_barsOf : GoodIn wsX3_countBars (wsV RX3 68 RX3 yX3_barsOf wsX3_barsOf) := goodIn_app (goodIn_of _ (by decide +kernel)) ggX3_countBars_X3_barsOf
set_option maxRecDepth 20000 in
theorem ggX3_countBars_J6_bitCount_0f7a4 : GoodIn wsX3_countBars wsJ6_bitCount_0f7a4 := goodIn_r _ [15, 16, 17, 18] (by decide +kernel) (by decide +kernel)
set_option maxRecDepth 20000 in
theorem gX3_countBars_J6_bitCount_0f7a4 : GoodIn wsX3_countBars (va_wsS RX3 72 yJ6_bitCount_0f7a4 wsJ6_bitCount_0f7a4) := goodIn_app (goodIn_of _ (by decide +kernel)) ggX3_countBars_J6_bitCount_0f7a4
theorem dX3_countBars_0 : decode cX3_countBars 0 = .ok (.iconst 0, 1) := by decide +kernel
theorem dX3_countBars_1 : decode cX3_countBars 1 = .ok (.istore_n 1, 1) := by decide +kernel
theorem dX3_countBars_2 : decode cX3_countBars 2 = .ok (.iconst 0, 1) := by decide +kernel
theorem dX3_countBars_3 : decode cX3_countBars 3 = .ok (.istore_n 2, 1) := by decide +kernel
theorem dX3_countBars_4 : decode cX3_countBars 4 = .ok (.iload_n 2, 1) := by decide +kernel
theorem dX3_countBars_5 : decode cX3_countBars 5 = .ok (.aload_n 0, 1) := by decide +kernel
theorem dX3_countBars_6 : decode cX3_countBars 6 = .ok (.getfield 36, 3) := by decide +kernel
theorem dX3_countBars_9 : decode cX3_countBars 9 = .ok (.if_icmp .ge 20, 3) := by decide +kernel
theorem dX3_countBars_12 : decode cX3_countBars 12 = .ok (.iload_n 1, 1) := by decide +kernel
theorem dX3_countBars_13 : decode cX3_countBars 13 = .ok (.aload_n 0, 1) := by decide +kernel
theorem dX3_countBars_14 : decode cX3_countBars 14 = .ok (.iload_n 2, 1) := by decide +kernel
theorem dX3_countBars_15 : decode cX3_countBars 15 = .ok (.invokevirtual 68, 3) := by decide +kernel
theorem dX3_countBars_18 : decode cX3_countBars 18 = .ok (.invokestatic 72, 3) := by decide +kernel
theorem dX3_countBars_21 : decode cX3_countBars 21 = .ok (.iadd, 1) := by decide +kernel
theorem dX3_countBars_22 : decode cX3_countBars 22 = .ok (.istore_n 1, 1) := by decide +kernel
theorem dX3_countBars_23 : decode cX3_countBars 23 = .ok (.iinc 2 1, 3) := by decide +kernel
theorem dX3_countBars_26 : decode cX3_countBars 26 = .ok (.goto (-22), 3) := by decide +kernel
theorem dX3_countBars_29 : decode cX3_countBars 29 = .ok (.iload_n 1, 1) := by decide +kernel
theorem dX3_countBars_30 : decode cX3_countBars 30 = .ok (.ireturn, 1) := by decide +kernel
set_option maxRecDepth 20000 in
theorem ggX3_sumCosts_X3_cutCostOf : GoodIn wsX3_sumCosts wsX3_cutCostOf := goodIn_ca (goodIn_r _ [6, 7, 8, 9, 10, 5, 11, 1, 12, 13, 14, 15, 16, 17, 18, 19, 20, 21, 22, 23, 24, 25] (by decide +kernel) (by decide +kernel)) (goodIn_sub (fun _ h => List.mem_cons_of_mem _ (List.mem_append_right _ h)) (by decide +kernel))
set_option maxRecDepth 20000 in
theorem gX3_sumCosts_X3_cutCostOf : GoodIn wsX3_sumCosts (wsV RX3 133 RX3 yX3_cutCostOf wsX3_cutCostOf) := goodIn_app (goodIn_of _ (by decide +kernel)) ggX3_sumCosts_X3_cutCostOf
theorem dX3_sumCosts_0 : decode cX3_sumCosts 0 = .ok (.iconst 0, 1) := by decide +kernel
theorem dX3_sumCosts_1 : decode cX3_sumCosts 1 = .ok (.istore_n 1, 1) := by decide +kernel
theorem dX3_sumCosts_2 : decode cX3_sumCosts 2 = .ok (.iconst 0, 1) := by decide +kernel
theorem dX3_sumCosts_3 : decode cX3_sumCosts 3 = .ok (.istore_n 2, 1) := by decide +kernel
theorem dX3_sumCosts_4 : decode cX3_sumCosts 4 = .ok (.iload_n 2, 1) := by decide +kernel
theorem dX3_sumCosts_5 : decode cX3_sumCosts 5 = .ok (.aload_n 0, 1) := by decide +kernel
theorem dX3_sumCosts_6 : decode cX3_sumCosts 6 = .ok (.getfield 36, 3) := by decide +kernel
theorem dX3_sumCosts_9 : decode cX3_sumCosts 9 = .ok (.if_icmp .ge 17, 3) := by decide +kernel
theorem dX3_sumCosts_12 : decode cX3_sumCosts 12 = .ok (.iload_n 1, 1) := by decide +kernel
theorem dX3_sumCosts_13 : decode cX3_sumCosts 13 = .ok (.aload_n 0, 1) := by decide +kernel
theorem dX3_sumCosts_14 : decode cX3_sumCosts 14 = .ok (.iload_n 2, 1) := by decide +kernel
theorem dX3_sumCosts_15 : decode cX3_sumCosts 15 = .ok (.invokevirtual 133, 3) := by decide +kernel
theorem dX3_sumCosts_18 : decode cX3_sumCosts 18 = .ok (.iadd, 1) := by decide +kernel
theorem dX3_sumCosts_19 : decode cX3_sumCosts 19 = .ok (.istore_n 1, 1) := by decide +kernel
theorem dX3_sumCosts_20 : decode cX3_sumCosts 20 = .ok (.iinc 2 1, 3) := by decide +kernel
theorem dX3_sumCosts_23 : decode cX3_sumCosts 23 = .ok (.goto (-19), 3) := by decide +kernel
theorem dX3_sumCosts_26 : decode cX3_sumCosts 26 = .ok (.iload_n 1, 1) := by decide +kernel
theorem dX3_sumCosts_27 : decode cX3_sumCosts 27 = .ok (.ireturn, 1) := by decide +kernel
set_option maxRecDepth 20000 in
theorem ggX3_countKeysOn_X3_porterWith : GoodIn wsX3_countKeysOn wsX3_porterWith := goodIn_ca (goodIn_r _ [6, 7, 8, 9, 10, 5, 11, 1, 12, 13, 14, 15, 16, 17, 18, 19, 20, 21, 22, 23, 24, 25] (by decide +kernel) (by decide +kernel)) (goodIn_sub (fun _ h => List.mem_cons_of_mem _ (List.mem_append_right _ h)) (by decide +kernel))
set_option maxRecDepth 20000 in
theorem gX3_countKeysOn_X3_porterWith : GoodIn wsX3_countKeysOn (wsV RX3 136 RX3 yX3_porterWith wsX3_porterWith) := goodIn_app (goodIn_of _ (by decide +kernel)) ggX3_countKeysOn_X3_porterWith
theorem dX3_countKeysOn_0 : decode cX3_countKeysOn 0 = .ok (.iconst 0, 1) := by decide +kernel
theorem dX3_countKeysOn_1 : decode cX3_countKeysOn 1 = .ok (.istore_n 2, 1) := by decide +kernel
theorem dX3_countKeysOn_2 : decode cX3_countKeysOn 2 = .ok (.iconst 0, 1) := by decide +kernel
theorem dX3_countKeysOn_3 : decode cX3_countKeysOn 3 = .ok (.istore_n 3, 1) := by decide +kernel
theorem dX3_countKeysOn_4 : decode cX3_countKeysOn 4 = .ok (.iload_n 3, 1) := by decide +kernel
theorem dX3_countKeysOn_5 : decode cX3_countKeysOn 5 = .ok (.aload_n 0, 1) := by decide +kernel
theorem dX3_countKeysOn_6 : decode cX3_countKeysOn 6 = .ok (.getfield 36, 3) := by decide +kernel
theorem dX3_countKeysOn_9 : decode cX3_countKeysOn 9 = .ok (.if_icmp .ge 21, 3) := by decide +kernel
theorem dX3_countKeysOn_12 : decode cX3_countKeysOn 12 = .ok (.aload_n 0, 1) := by decide +kernel
theorem dX3_countKeysOn_13 : decode cX3_countKeysOn 13 = .ok (.iload_n 3, 1) := by decide +kernel
theorem dX3_countKeysOn_14 : decode cX3_countKeysOn 14 = .ok (.invokevirtual 136, 3) := by decide +kernel
theorem dX3_countKeysOn_17 : decode cX3_countKeysOn 17 = .ok (.iload_n 1, 1) := by decide +kernel
theorem dX3_countKeysOn_18 : decode cX3_countKeysOn 18 = .ok (.if_icmp .ne 6, 3) := by decide +kernel
theorem dX3_countKeysOn_21 : decode cX3_countKeysOn 21 = .ok (.iinc 2 1, 3) := by decide +kernel
theorem dX3_countKeysOn_24 : decode cX3_countKeysOn 24 = .ok (.iinc 3 1, 3) := by decide +kernel
theorem dX3_countKeysOn_27 : decode cX3_countKeysOn 27 = .ok (.goto (-23), 3) := by decide +kernel
theorem dX3_countKeysOn_30 : decode cX3_countKeysOn 30 = .ok (.iload_n 2, 1) := by decide +kernel
theorem dX3_countKeysOn_31 : decode cX3_countKeysOn 31 = .ok (.ireturn, 1) := by decide +kernel
set_option maxRecDepth 20000 in
theorem ggX3_countKeysInLocks_X3_porterWith : GoodIn wsX3_countKeysInLocks wsX3_porterWith := goodIn_ca (goodIn_r _ [6, 7, 8, 9, 10, 5, 11, 1, 17, 18, 19, 20, 21, 22, 23, 24, 25, 26, 27, 28, 29, 30] (by decide +kernel) (by decide +kernel)) (goodIn_sub (fun _ h => List.mem_cons_of_mem _ (List.mem_append_right _ h)) (by decide +kernel))
set_option maxRecDepth 20000 in
theorem gX3_countKeysInLocks_X3_porterWith : GoodIn wsX3_countKeysInLocks (wsV RX3 136 RX3 yX3_porterWith wsX3_porterWith) := goodIn_app (goodIn_of _ (by decide +kernel)) ggX3_countKeysInLocks_X3_porterWith
set_option maxRecDepth 20000 in
theorem ggX3_countKeysInLocks_X3_lockWith : GoodIn wsX3_countKeysInLocks wsX3_lockWith := goodIn_ca (goodIn_r _ [15, 16, 8, 9, 10, 5, 11, 1, 17, 18, 19, 20, 21, 22, 23, 24, 25, 26, 27, 28, 29, 30] (by decide +kernel) (by decide +kernel)) (goodIn_sub (fun _ h => List.mem_cons_of_mem _ (List.mem_append_right _ h)) (by decide +kernel))
set_option maxRecDepth 20000 in
theorem gX3_countKeysInLocks_X3_lockWith : GoodIn wsX3_countKeysInLocks (wsV RX3 124 RX3 yX3_lockWith wsX3_lockWith) := goodIn_app (goodIn_of _ (by decide +kernel)) ggX3_countKeysInLocks_X3_lockWith
theorem dX3_countKeysInLocks_0 : decode cX3_countKeysInLocks 0 = .ok (.iconst 0, 1) := by decide +kernel
theorem dX3_countKeysInLocks_1 : decode cX3_countKeysInLocks 1 = .ok (.istore_n 2, 1) := by decide +kernel
theorem dX3_countKeysInLocks_2 : decode cX3_countKeysInLocks 2 = .ok (.iconst 0, 1) := by decide +kernel
theorem dX3_countKeysInLocks_3 : decode cX3_countKeysInLocks 3 = .ok (.istore_n 3, 1) := by decide +kernel
theorem dX3_countKeysInLocks_4 : decode cX3_countKeysInLocks 4 = .ok (.iload_n 3, 1) := by decide +kernel
theorem dX3_countKeysInLocks_5 : decode cX3_countKeysInLocks 5 = .ok (.aload_n 0, 1) := by decide +kernel
theorem dX3_countKeysInLocks_6 : decode cX3_countKeysInLocks 6 = .ok (.getfield 36, 3) := by decide +kernel
theorem dX3_countKeysInLocks_9 : decode cX3_countKeysInLocks 9 = .ok (.if_icmp .ge 30, 3) := by decide +kernel
theorem dX3_countKeysInLocks_12 : decode cX3_countKeysInLocks 12 = .ok (.aload_n 0, 1) := by decide +kernel
theorem dX3_countKeysInLocks_13 : decode cX3_countKeysInLocks 13 = .ok (.iload_n 3, 1) := by decide +kernel
theorem dX3_countKeysInLocks_14 : decode cX3_countKeysInLocks 14 = .ok (.invokevirtual 136, 3) := by decide +kernel
theorem dX3_countKeysInLocks_17 : decode cX3_countKeysInLocks 17 = .ok (.iload_n 1, 1) := by decide +kernel
theorem dX3_countKeysInLocks_18 : decode cX3_countKeysInLocks 18 = .ok (.if_icmp .ne 15, 3) := by decide +kernel
theorem dX3_countKeysInLocks_21 : decode cX3_countKeysInLocks 21 = .ok (.aload_n 0, 1) := by decide +kernel
theorem dX3_countKeysInLocks_22 : decode cX3_countKeysInLocks 22 = .ok (.iload_n 3, 1) := by decide +kernel
theorem dX3_countKeysInLocks_23 : decode cX3_countKeysInLocks 23 = .ok (.invokevirtual 124, 3) := by decide +kernel
theorem dX3_countKeysInLocks_26 : decode cX3_countKeysInLocks 26 = .ok (.iconst (-1), 1) := by decide +kernel
theorem dX3_countKeysInLocks_27 : decode cX3_countKeysInLocks 27 = .ok (.if_icmp .eq 6, 3) := by decide +kernel
theorem dX3_countKeysInLocks_30 : decode cX3_countKeysInLocks 30 = .ok (.iinc 2 1, 3) := by decide +kernel
theorem dX3_countKeysInLocks_33 : decode cX3_countKeysInLocks 33 = .ok (.iinc 3 1, 3) := by decide +kernel
theorem dX3_countKeysInLocks_36 : decode cX3_countKeysInLocks 36 = .ok (.goto (-32), 3) := by decide +kernel
theorem dX3_countKeysInLocks_39 : decode cX3_countKeysInLocks 39 = .ok (.iload_n 2, 1) := by decide +kernel
theorem dX3_countKeysInLocks_40 : decode cX3_countKeysInLocks 40 = .ok (.ireturn, 1) := by decide +kernel
set_option maxRecDepth 20000 in
theorem ggX3_sumCostsOn_X3_porterWith : GoodIn wsX3_sumCostsOn wsX3_porterWith := goodIn_ca (goodIn_r _ [6, 7, 8, 9, 10, 5, 11, 1, 17, 18, 19, 20, 21, 22, 23, 24, 25, 26, 27, 28, 29, 30] (by decide +kernel) (by decide +kernel)) (goodIn_sub (fun _ h => List.mem_cons_of_mem _ (List.mem_append_right _ h)) (by decide +kernel))
set_option maxRecDepth 20000 in
theorem gX3_sumCostsOn_X3_porterWith : GoodIn wsX3_sumCostsOn (wsV RX3 136 RX3 yX3_porterWith wsX3_porterWith) := goodIn_app (goodIn_of _ (by decide +kernel)) ggX3_sumCostsOn_X3_porterWith
set_option maxRecDepth 20000 in
theorem ggX3_sumCostsOn_X3_cutCostOf : GoodIn wsX3_sumCostsOn wsX3_cutCostOf := goodIn_ca (goodIn_r _ [15, 16, 8, 9, 10, 5, 11, 1, 17, 18, 19, 20, 21, 22, 23, 24, 25, 26, 27, 28, 29, 30] (by decide +kernel) (by decide +kernel)) (goodIn_sub (fun _ h => List.mem_cons_of_mem _ (List.mem_append_right _ h)) (by decide +kernel))
set_option maxRecDepth 20000 in
theorem gX3_sumCostsOn_X3_cutCostOf : GoodIn wsX3_sumCostsOn (wsV RX3 133 RX3 yX3_cutCostOf wsX3_cutCostOf) := goodIn_app (goodIn_of _ (by decide +kernel)) ggX3_sumCostsOn_X3_cutCostOf
theorem dX3_sumCostsOn_0 : decode cX3_sumCostsOn 0 = .ok (.iconst 0, 1) := by decide +kernel
theorem dX3_sumCostsOn_1 : decode cX3_sumCostsOn 1 = .ok (.istore_n 2, 1) := by decide +kernel
theorem dX3_sumCostsOn_2 : decode cX3_sumCostsOn 2 = .ok (.iconst 0, 1) := by decide +kernel
theorem dX3_sumCostsOn_3 : decode cX3_sumCostsOn 3 = .ok (.istore_n 3, 1) := by decide +kernel
theorem dX3_sumCostsOn_4 : decode cX3_sumCostsOn 4 = .ok (.iload_n 3, 1) := by decide +kernel
theorem dX3_sumCostsOn_5 : decode cX3_sumCostsOn 5 = .ok (.aload_n 0, 1) := by decide +kernel
theorem dX3_sumCostsOn_6 : decode cX3_sumCostsOn 6 = .ok (.getfield 36, 3) := by decide +kernel
theorem dX3_sumCostsOn_9 : decode cX3_sumCostsOn 9 = .ok (.if_icmp .ge 26, 3) := by decide +kernel
theorem dX3_sumCostsOn_12 : decode cX3_sumCostsOn 12 = .ok (.aload_n 0, 1) := by decide +kernel
theorem dX3_sumCostsOn_13 : decode cX3_sumCostsOn 13 = .ok (.iload_n 3, 1) := by decide +kernel
theorem dX3_sumCostsOn_14 : decode cX3_sumCostsOn 14 = .ok (.invokevirtual 136, 3) := by decide +kernel
theorem dX3_sumCostsOn_17 : decode cX3_sumCostsOn 17 = .ok (.iload_n 1, 1) := by decide +kernel
theorem dX3_sumCostsOn_18 : decode cX3_sumCostsOn 18 = .ok (.if_icmp .ne 11, 3) := by decide +kernel
theorem dX3_sumCostsOn_21 : decode cX3_sumCostsOn 21 = .ok (.iload_n 2, 1) := by decide +kernel
theorem dX3_sumCostsOn_22 : decode cX3_sumCostsOn 22 = .ok (.aload_n 0, 1) := by decide +kernel
theorem dX3_sumCostsOn_23 : decode cX3_sumCostsOn 23 = .ok (.iload_n 3, 1) := by decide +kernel
theorem dX3_sumCostsOn_24 : decode cX3_sumCostsOn 24 = .ok (.invokevirtual 133, 3) := by decide +kernel
theorem dX3_sumCostsOn_27 : decode cX3_sumCostsOn 27 = .ok (.iadd, 1) := by decide +kernel
theorem dX3_sumCostsOn_28 : decode cX3_sumCostsOn 28 = .ok (.istore_n 2, 1) := by decide +kernel
theorem dX3_sumCostsOn_29 : decode cX3_sumCostsOn 29 = .ok (.iinc 3 1, 3) := by decide +kernel
theorem dX3_sumCostsOn_32 : decode cX3_sumCostsOn 32 = .ok (.goto (-28), 3) := by decide +kernel
theorem dX3_sumCostsOn_35 : decode cX3_sumCostsOn 35 = .ok (.iload_n 2, 1) := by decide +kernel
theorem dX3_sumCostsOn_36 : decode cX3_sumCostsOn 36 = .ok (.ireturn, 1) := by decide +kernel
set_option maxRecDepth 20000 in
theorem ggX3_keyByCost_X3_hasBar : GoodIn wsX3_keyByCost wsX3_hasBar := goodIn_ca (goodIn_r _ [6, 7, 8, 9, 5, 10, 11, 12, 13, 14, 15, 16, 17, 18, 19, 20, 1, 55, 56, 57, 58, 59, 60, 61, 62, 63, 64, 65, 66, 67, 68] (by decide +kernel) (by decide +kernel)) (goodIn_sub (fun _ h => List.mem_cons_of_mem _ (List.mem_append_right _ h)) (by decide +kernel))
set_option maxRecDepth 20000 in
theorem gX3_keyByCost_X3_hasBar : GoodIn wsX3_keyByCost (wsV RX3 107 RX3 yX3_hasBar wsX3_hasBar) := goodIn_app (goodIn_of _ (by decide +kernel)) ggX3_keyByCost_X3_hasBar
set_option maxRecDepth 20000 in
theorem ggX3_keyByCost_X3_countCheaper : GoodIn wsX3_keyByCost wsX3_countCheaper := goodIn_ca (goodIn_r _ [24, 1, 25, 26, 27, 5, 28, 29, 30, 31, 32, 33, 34, 35, 36, 37, 38, 39, 40, 41, 42, 7, 8, 9, 10, 11, 43, 44, 45, 46, 47, 17, 18, 19, 20, 48, 49, 50, 51, 52, 53, 54, 2, 3, 4, 6, 12, 13, 14, 15, 16, 55, 56, 57, 58, 59, 60, 61, 62, 63, 64, 65, 66, 67, 68] (by decide +kernel) (by decide +kernel)) (goodIn_sub (fun _ h => List.mem_cons_of_mem _ (List.mem_append_right _ h)) (by decide +kernel))
set_option maxRecDepth 20000 in
theorem gX3_keyByCost_X3_countCheaper : GoodIn wsX3_keyByCost (wsV RX3 139 RX3 yX3_countCheaper wsX3_countCheaper) := goodIn_app (goodIn_of _ (by decide +kernel)) ggX3_keyByCost_X3_countCheaper
theorem dX3_keyByCost_0 : decode cX3_keyByCost 0 = .ok (.iconst 0, 1) := by decide +kernel
theorem dX3_keyByCost_1 : decode cX3_keyByCost 1 = .ok (.istore_n 3, 1) := by decide +kernel
theorem dX3_keyByCost_2 : decode cX3_keyByCost 2 = .ok (.iload_n 3, 1) := by decide +kernel
theorem dX3_keyByCost_3 : decode cX3_keyByCost 3 = .ok (.aload_n 0, 1) := by decide +kernel
theorem dX3_keyByCost_4 : decode cX3_keyByCost 4 = .ok (.getfield 36, 3) := by decide +kernel
theorem dX3_keyByCost_7 : decode cX3_keyByCost 7 = .ok (.if_icmp .ge 30, 3) := by decide +kernel
theorem dX3_keyByCost_10 : decode cX3_keyByCost 10 = .ok (.aload_n 0, 1) := by decide +kernel
theorem dX3_keyByCost_11 : decode cX3_keyByCost 11 = .ok (.iload_n 3, 1) := by decide +kernel
theorem dX3_keyByCost_12 : decode cX3_keyByCost 12 = .ok (.iload_n 1, 1) := by decide +kernel
theorem dX3_keyByCost_13 : decode cX3_keyByCost 13 = .ok (.invokevirtual 107, 3) := by decide +kernel
theorem dX3_keyByCost_16 : decode cX3_keyByCost 16 = .ok (.ifCond .ne 15, 3) := by decide +kernel
theorem dX3_keyByCost_19 : decode cX3_keyByCost 19 = .ok (.aload_n 0, 1) := by decide +kernel
theorem dX3_keyByCost_20 : decode cX3_keyByCost 20 = .ok (.iload_n 3, 1) := by decide +kernel
theorem dX3_keyByCost_21 : decode cX3_keyByCost 21 = .ok (.iload_n 1, 1) := by decide +kernel
theorem dX3_keyByCost_22 : decode cX3_keyByCost 22 = .ok (.invokevirtual 139, 3) := by decide +kernel
theorem dX3_keyByCost_25 : decode cX3_keyByCost 25 = .ok (.iload_n 2, 1) := by decide +kernel
theorem dX3_keyByCost_26 : decode cX3_keyByCost 26 = .ok (.if_icmp .ne 5, 3) := by decide +kernel
theorem dX3_keyByCost_29 : decode cX3_keyByCost 29 = .ok (.iload_n 3, 1) := by decide +kernel
theorem dX3_keyByCost_30 : decode cX3_keyByCost 30 = .ok (.ireturn, 1) := by decide +kernel
theorem dX3_keyByCost_31 : decode cX3_keyByCost 31 = .ok (.iinc 3 1, 3) := by decide +kernel
theorem dX3_keyByCost_34 : decode cX3_keyByCost 34 = .ok (.goto (-32), 3) := by decide +kernel
theorem dX3_keyByCost_37 : decode cX3_keyByCost 37 = .ok (.iconst (-1), 1) := by decide +kernel
theorem dX3_keyByCost_38 : decode cX3_keyByCost 38 = .ok (.ireturn, 1) := by decide +kernel
set_option maxRecDepth 20000 in
theorem ggX3_countCheaper_X3_costToFit : GoodIn wsX3_countCheaper wsX3_costToFit := goodIn_ca (goodIn_r _ [6, 7, 8, 9, 10, 11, 12, 13, 14, 5, 15, 16, 17, 18, 19, 20, 21, 22, 23, 24, 25, 26, 27, 28, 29, 30, 31, 32, 33, 34, 1, 35, 36, 37, 38, 39, 40, 41, 51, 52, 53, 54, 55, 56, 57, 58, 59, 60, 61, 62, 63, 64] (by decide +kernel) (by decide +kernel)) (goodIn_sub (fun _ h => List.mem_cons_of_mem _ (List.mem_append_right _ h)) (by decide +kernel))
set_option maxRecDepth 20000 in
theorem gX3_countCheaper_X3_costToFit : GoodIn wsX3_countCheaper (wsV RX3 142 RX3 yX3_costToFit wsX3_costToFit) := goodIn_app (goodIn_of _ (by decide +kernel)) ggX3_countCheaper_X3_costToFit
set_option maxRecDepth 20000 in
theorem ggX3_countCheaper_X3_hasBar : GoodIn wsX3_countCheaper wsX3_hasBar := goodIn_ca (goodIn_r _ [45, 21, 22, 23, 5, 24, 25, 46, 47, 48, 49, 50, 31, 32, 33, 34, 1, 51, 52, 53, 54, 55, 56, 57, 58, 59, 60, 61, 62, 63, 64] (by decide +kernel) (by decide +kernel)) (goodIn_sub (fun _ h => List.mem_cons_of_mem _ (List.mem_append_right _ h)) (by decide +kernel))
set_option maxRecDepth 20000 in
theorem gX3_countCheaper_X3_hasBar : GoodIn wsX3_countCheaper (wsV RX3 107 RX3 yX3_hasBar wsX3_hasBar) := goodIn_app (goodIn_of _ (by decide +kernel)) ggX3_countCheaper_X3_hasBar
theorem dX3_countCheaper_0 : decode cX3_countCheaper 0 = .ok (.aload_n 0, 1) := by decide +kernel
theorem dX3_countCheaper_1 : decode cX3_countCheaper 1 = .ok (.iload_n 1, 1) := by decide +kernel
theorem dX3_countCheaper_2 : decode cX3_countCheaper 2 = .ok (.iload_n 2, 1) := by decide +kernel
theorem dX3_countCheaper_3 : decode cX3_countCheaper 3 = .ok (.invokevirtual 142, 3) := by decide +kernel
theorem dX3_countCheaper_6 : decode cX3_countCheaper 6 = .ok (.istore_n 3, 1) := by decide +kernel
theorem dX3_countCheaper_7 : decode cX3_countCheaper 7 = .ok (.iconst 0, 1) := by decide +kernel
theorem dX3_countCheaper_8 : decode cX3_countCheaper 8 = .ok (.istore 4, 2) := by decide +kernel
theorem dX3_countCheaper_10 : decode cX3_countCheaper 10 = .ok (.iconst 0, 1) := by decide +kernel
theorem dX3_countCheaper_11 : decode cX3_countCheaper 11 = .ok (.istore 5, 2) := by decide +kernel
theorem dX3_countCheaper_13 : decode cX3_countCheaper 13 = .ok (.iload 5, 2) := by decide +kernel
theorem dX3_countCheaper_15 : decode cX3_countCheaper 15 = .ok (.aload_n 0, 1) := by decide +kernel
theorem dX3_countCheaper_16 : decode cX3_countCheaper 16 = .ok (.getfield 36, 3) := by decide +kernel
theorem dX3_countCheaper_19 : decode cX3_countCheaper 19 = .ok (.if_icmp .ge 61, 3) := by decide +kernel
theorem dX3_countCheaper_22 : decode cX3_countCheaper 22 = .ok (.aload_n 0, 1) := by decide +kernel
theorem dX3_countCheaper_23 : decode cX3_countCheaper 23 = .ok (.iload 5, 2) := by decide +kernel
theorem dX3_countCheaper_25 : decode cX3_countCheaper 25 = .ok (.iload_n 2, 1) := by decide +kernel
theorem dX3_countCheaper_26 : decode cX3_countCheaper 26 = .ok (.invokevirtual 142, 3) := by decide +kernel
theorem dX3_countCheaper_29 : decode cX3_countCheaper 29 = .ok (.istore 6, 2) := by decide +kernel
theorem dX3_countCheaper_31 : decode cX3_countCheaper 31 = .ok (.iload 6, 2) := by decide +kernel
theorem dX3_countCheaper_33 : decode cX3_countCheaper 33 = .ok (.iload_n 3, 1) := by decide +kernel
theorem dX3_countCheaper_34 : decode cX3_countCheaper 34 = .ok (.if_icmp .lt 15, 3) := by decide +kernel
theorem dX3_countCheaper_37 : decode cX3_countCheaper 37 = .ok (.iload 6, 2) := by decide +kernel
theorem dX3_countCheaper_39 : decode cX3_countCheaper 39 = .ok (.iload_n 3, 1) := by decide +kernel
theorem dX3_countCheaper_40 : decode cX3_countCheaper 40 = .ok (.if_icmp .ne 13, 3) := by decide +kernel
theorem dX3_countCheaper_43 : decode cX3_countCheaper 43 = .ok (.iload 5, 2) := by decide +kernel
theorem dX3_countCheaper_45 : decode cX3_countCheaper 45 = .ok (.iload_n 1, 1) := by decide +kernel
theorem dX3_countCheaper_46 : decode cX3_countCheaper 46 = .ok (.if_icmp .ge 7, 3) := by decide +kernel
theorem dX3_countCheaper_49 : decode cX3_countCheaper 49 = .ok (.iconst 1, 1) := by decide +kernel
theorem dX3_countCheaper_50 : decode cX3_countCheaper 50 = .ok (.goto 4, 3) := by decide +kernel
theorem dX3_countCheaper_53 : decode cX3_countCheaper 53 = .ok (.iconst 0, 1) := by decide +kernel
theorem dX3_countCheaper_54 : decode cX3_countCheaper 54 = .ok (.istore 7, 2) := by decide +kernel
theorem dX3_countCheaper_56 : decode cX3_countCheaper 56 = .ok (.aload_n 0, 1) := by decide +kernel
theorem dX3_countCheaper_57 : decode cX3_countCheaper 57 = .ok (.iload 5, 2) := by decide +kernel
theorem dX3_countCheaper_59 : decode cX3_countCheaper 59 = .ok (.iload_n 2, 1) := by decide +kernel
theorem dX3_countCheaper_60 : decode cX3_countCheaper 60 = .ok (.invokevirtual 107, 3) := by decide +kernel
theorem dX3_countCheaper_63 : decode cX3_countCheaper 63 = .ok (.ifCond .ne 11, 3) := by decide +kernel
theorem dX3_countCheaper_66 : decode cX3_countCheaper 66 = .ok (.iload 7, 2) := by decide +kernel
theorem dX3_countCheaper_68 : decode cX3_countCheaper 68 = .ok (.ifCond .eq 6, 3) := by decide +kernel
theorem dX3_countCheaper_71 : decode cX3_countCheaper 71 = .ok (.iinc 4 1, 3) := by decide +kernel
theorem dX3_countCheaper_74 : decode cX3_countCheaper 74 = .ok (.iinc 5 1, 3) := by decide +kernel
theorem dX3_countCheaper_77 : decode cX3_countCheaper 77 = .ok (.goto (-64), 3) := by decide +kernel
theorem dX3_countCheaper_80 : decode cX3_countCheaper 80 = .ok (.iload 4, 2) := by decide +kernel
theorem dX3_countCheaper_82 : decode cX3_countCheaper 82 = .ok (.ireturn, 1) := by decide +kernel
set_option maxRecDepth 20000 in
theorem ggX3_keyByRank_X3_countRankedBefore : GoodIn wsX3_keyByRank wsX3_countRankedBefore := goodIn_ca (goodIn_r _ [6, 1, 7, 8, 9, 5, 10, 11, 12, 13, 14, 15, 16, 17, 18, 19, 20, 21, 22, 23, 24, 25, 26, 27, 28, 29, 30, 31, 32, 33, 34, 35, 36, 37, 38, 39, 40, 41, 42, 43, 44, 45, 46, 47, 48, 49, 50, 51, 52, 53, 54, 55, 56] (by decide +kernel) (by decide +kernel)) (goodIn_sub (fun _ h => List.mem_cons_of_mem _ (List.mem_append_right _ h)) (by decide +kernel))
set_option maxRecDepth 20000 in
theorem gX3_keyByRank_X3_countRankedBefore : GoodIn wsX3_keyByRank (wsV RX3 145 RX3 yX3_countRankedBefore wsX3_countRankedBefore) := goodIn_app (goodIn_of _ (by decide +kernel)) ggX3_keyByRank_X3_countRankedBefore
theorem dX3_keyByRank_0 : decode cX3_keyByRank 0 = .ok (.iconst 0, 1) := by decide +kernel
theorem dX3_keyByRank_1 : decode cX3_keyByRank 1 = .ok (.istore_n 2, 1) := by decide +kernel
theorem dX3_keyByRank_2 : decode cX3_keyByRank 2 = .ok (.iload_n 2, 1) := by decide +kernel
theorem dX3_keyByRank_3 : decode cX3_keyByRank 3 = .ok (.aload_n 0, 1) := by decide +kernel
theorem dX3_keyByRank_4 : decode cX3_keyByRank 4 = .ok (.getfield 36, 3) := by decide +kernel
theorem dX3_keyByRank_7 : decode cX3_keyByRank 7 = .ok (.if_icmp .ge 20, 3) := by decide +kernel
theorem dX3_keyByRank_10 : decode cX3_keyByRank 10 = .ok (.aload_n 0, 1) := by decide +kernel
theorem dX3_keyByRank_11 : decode cX3_keyByRank 11 = .ok (.iload_n 2, 1) := by decide +kernel
theorem dX3_keyByRank_12 : decode cX3_keyByRank 12 = .ok (.invokevirtual 145, 3) := by decide +kernel
theorem dX3_keyByRank_15 : decode cX3_keyByRank 15 = .ok (.iload_n 1, 1) := by decide +kernel
theorem dX3_keyByRank_16 : decode cX3_keyByRank 16 = .ok (.if_icmp .ne 5, 3) := by decide +kernel
theorem dX3_keyByRank_19 : decode cX3_keyByRank 19 = .ok (.iload_n 2, 1) := by decide +kernel
theorem dX3_keyByRank_20 : decode cX3_keyByRank 20 = .ok (.ireturn, 1) := by decide +kernel
theorem dX3_keyByRank_21 : decode cX3_keyByRank 21 = .ok (.iinc 2 1, 3) := by decide +kernel
theorem dX3_keyByRank_24 : decode cX3_keyByRank 24 = .ok (.goto (-22), 3) := by decide +kernel
theorem dX3_keyByRank_27 : decode cX3_keyByRank 27 = .ok (.iconst (-1), 1) := by decide +kernel
theorem dX3_keyByRank_28 : decode cX3_keyByRank 28 = .ok (.ireturn, 1) := by decide +kernel
set_option maxRecDepth 20000 in
theorem ggX3_countRankedBefore_X3_isRankedBefore : GoodIn wsX3_countRankedBefore wsX3_isRankedBefore := goodIn_ca (goodIn_r _ [6, 7, 8, 9, 5, 10, 11, 12, 13, 14, 15, 16, 17, 18, 19, 20, 21, 22, 23, 1, 24, 25, 26, 27, 28, 29, 30, 31, 32, 33, 34, 35, 36, 37, 38, 39, 40, 41, 42, 43, 44, 45, 46, 47, 48, 49, 50, 51, 52] (by decide +kernel) (by decide +kernel)) (goodIn_sub (fun _ h => List.mem_cons_of_mem _ (List.mem_append_right _ h)) (by decide +kernel))
set_option maxRecDepth 20000 in
theorem gX3_countRankedBefore_X3_isRankedBefore : GoodIn wsX3_countRankedBefore (wsV RX3 148 RX3 yX3_isRankedBefore wsX3_isRankedBefore) := goodIn_app (goodIn_of _ (by decide +kernel)) ggX3_countRankedBefore_X3_isRankedBefore
theorem dX3_countRankedBefore_0 : decode cX3_countRankedBefore 0 = .ok (.iconst 0, 1) := by decide +kernel
theorem dX3_countRankedBefore_1 : decode cX3_countRankedBefore 1 = .ok (.istore_n 2, 1) := by decide +kernel
theorem dX3_countRankedBefore_2 : decode cX3_countRankedBefore 2 = .ok (.iconst 0, 1) := by decide +kernel
theorem dX3_countRankedBefore_3 : decode cX3_countRankedBefore 3 = .ok (.istore_n 3, 1) := by decide +kernel
theorem dX3_countRankedBefore_4 : decode cX3_countRankedBefore 4 = .ok (.iload_n 3, 1) := by decide +kernel
theorem dX3_countRankedBefore_5 : decode cX3_countRankedBefore 5 = .ok (.aload_n 0, 1) := by decide +kernel
theorem dX3_countRankedBefore_6 : decode cX3_countRankedBefore 6 = .ok (.getfield 36, 3) := by decide +kernel
theorem dX3_countRankedBefore_9 : decode cX3_countRankedBefore 9 = .ok (.if_icmp .ge 21, 3) := by decide +kernel
theorem dX3_countRankedBefore_12 : decode cX3_countRankedBefore 12 = .ok (.aload_n 0, 1) := by decide +kernel
theorem dX3_countRankedBefore_13 : decode cX3_countRankedBefore 13 = .ok (.iload_n 3, 1) := by decide +kernel
theorem dX3_countRankedBefore_14 : decode cX3_countRankedBefore 14 = .ok (.iload_n 1, 1) := by decide +kernel
theorem dX3_countRankedBefore_15 : decode cX3_countRankedBefore 15 = .ok (.invokevirtual 148, 3) := by decide +kernel
theorem dX3_countRankedBefore_18 : decode cX3_countRankedBefore 18 = .ok (.ifCond .eq 6, 3) := by decide +kernel
theorem dX3_countRankedBefore_21 : decode cX3_countRankedBefore 21 = .ok (.iinc 2 1, 3) := by decide +kernel
theorem dX3_countRankedBefore_24 : decode cX3_countRankedBefore 24 = .ok (.iinc 3 1, 3) := by decide +kernel
theorem dX3_countRankedBefore_27 : decode cX3_countRankedBefore 27 = .ok (.goto (-23), 3) := by decide +kernel
theorem dX3_countRankedBefore_30 : decode cX3_countRankedBefore 30 = .ok (.iload_n 2, 1) := by decide +kernel
theorem dX3_countRankedBefore_31 : decode cX3_countRankedBefore 31 = .ok (.ireturn, 1) := by decide +kernel
set_option maxRecDepth 20000 in
theorem ggX3_isRankedBefore_X3_countLocksFor : GoodIn wsX3_isRankedBefore wsX3_countLocksFor := goodIn_ca (goodIn_r _ [5, 6, 7, 8, 9, 4, 10, 11, 12, 13, 14, 15, 16, 17, 18, 19, 20, 21, 22, 23, 24, 25, 26, 27, 28, 29, 30, 35, 36, 37, 38, 39, 40, 41, 42, 43, 44, 45, 46, 47, 48] (by decide +kernel) (by decide +kernel)) (goodIn_sub (fun _ h => List.mem_cons_of_mem _ (List.mem_append_right _ h)) (by decide +kernel))
set_option maxRecDepth 20000 in
theorem gX3_isRankedBefore_X3_countLocksFor : GoodIn wsX3_isRankedBefore (wsV RX3 130 RX3 yX3_countLocksFor wsX3_countLocksFor) := goodIn_app (goodIn_of _ (by decide +kernel)) ggX3_isRankedBefore_X3_countLocksFor
set_option maxRecDepth 20000 in
theorem ggX3_isRankedBefore_X3_wardsOf : GoodIn wsX3_isRankedBefore wsX3_wardsOf := goodIn_ca (goodIn_r _ [34, 12, 15, 16, 17, 4, 18, 19, 35, 36, 37, 38, 39, 40, 41, 42, 43, 44, 45, 46, 47, 48] (by decide +kernel) (by decide +kernel)) (goodIn_sub (fun _ h => List.mem_cons_of_mem _ (List.mem_append_right _ h)) (by decide +kernel))
set_option maxRecDepth 20000 in
theorem gX3_isRankedBefore_X3_wardsOf : GoodIn wsX3_isRankedBefore (wsV RX3 80 RX3 yX3_wardsOf wsX3_wardsOf) := goodIn_app (goodIn_of _ (by decide +kernel)) ggX3_isRankedBefore_X3_wardsOf
set_option maxRecDepth 20000 in
theorem ggX3_isRankedBefore_J6_bitCount_0f7a4 : GoodIn wsX3_isRankedBefore wsJ6_bitCount_0f7a4 := goodIn_r _ [27, 28, 29, 30] (by decide +kernel) (by decide +kernel)
set_option maxRecDepth 20000 in
theorem gX3_isRankedBefore_J6_bitCount_0f7a4 : GoodIn wsX3_isRankedBefore (va_wsS RX3 72 yJ6_bitCount_0f7a4 wsJ6_bitCount_0f7a4) := goodIn_app (goodIn_of _ (by decide +kernel)) ggX3_isRankedBefore_J6_bitCount_0f7a4
theorem dX3_isRankedBefore_0 : decode cX3_isRankedBefore 0 = .ok (.aload_n 0, 1) := by decide +kernel
theorem dX3_isRankedBefore_1 : decode cX3_isRankedBefore 1 = .ok (.iload_n 1, 1) := by decide +kernel
theorem dX3_isRankedBefore_2 : decode cX3_isRankedBefore 2 = .ok (.invokevirtual 130, 3) := by decide +kernel
theorem dX3_isRankedBefore_5 : decode cX3_isRankedBefore 5 = .ok (.istore_n 3, 1) := by decide +kernel
theorem dX3_isRankedBefore_6 : decode cX3_isRankedBefore 6 = .ok (.aload_n 0, 1) := by decide +kernel
theorem dX3_isRankedBefore_7 : decode cX3_isRankedBefore 7 = .ok (.iload_n 2, 1) := by decide +kernel
theorem dX3_isRankedBefore_8 : decode cX3_isRankedBefore 8 = .ok (.invokevirtual 130, 3) := by decide +kernel
theorem dX3_isRankedBefore_11 : decode cX3_isRankedBefore 11 = .ok (.istore 4, 2) := by decide +kernel
theorem dX3_isRankedBefore_13 : decode cX3_isRankedBefore 13 = .ok (.iload_n 3, 1) := by decide +kernel
theorem dX3_isRankedBefore_14 : decode cX3_isRankedBefore 14 = .ok (.iload 4, 2) := by decide +kernel
theorem dX3_isRankedBefore_16 : decode cX3_isRankedBefore 16 = .ok (.if_icmp .eq 15, 3) := by decide +kernel
theorem dX3_isRankedBefore_19 : decode cX3_isRankedBefore 19 = .ok (.iload_n 3, 1) := by decide +kernel
theorem dX3_isRankedBefore_20 : decode cX3_isRankedBefore 20 = .ok (.iload 4, 2) := by decide +kernel
theorem dX3_isRankedBefore_22 : decode cX3_isRankedBefore 22 = .ok (.if_icmp .ge 7, 3) := by decide +kernel
theorem dX3_isRankedBefore_25 : decode cX3_isRankedBefore 25 = .ok (.iconst 1, 1) := by decide +kernel
theorem dX3_isRankedBefore_26 : decode cX3_isRankedBefore 26 = .ok (.goto 4, 3) := by decide +kernel
theorem dX3_isRankedBefore_29 : decode cX3_isRankedBefore 29 = .ok (.iconst 0, 1) := by decide +kernel
theorem dX3_isRankedBefore_30 : decode cX3_isRankedBefore 30 = .ok (.ireturn, 1) := by decide +kernel
theorem dX3_isRankedBefore_31 : decode cX3_isRankedBefore 31 = .ok (.aload_n 0, 1) := by decide +kernel
theorem dX3_isRankedBefore_32 : decode cX3_isRankedBefore 32 = .ok (.iload_n 1, 1) := by decide +kernel
theorem dX3_isRankedBefore_33 : decode cX3_isRankedBefore 33 = .ok (.invokevirtual 80, 3) := by decide +kernel
theorem dX3_isRankedBefore_36 : decode cX3_isRankedBefore 36 = .ok (.invokestatic 72, 3) := by decide +kernel
theorem dX3_isRankedBefore_39 : decode cX3_isRankedBefore 39 = .ok (.istore 5, 2) := by decide +kernel
theorem dX3_isRankedBefore_41 : decode cX3_isRankedBefore 41 = .ok (.aload_n 0, 1) := by decide +kernel
theorem dX3_isRankedBefore_42 : decode cX3_isRankedBefore 42 = .ok (.iload_n 2, 1) := by decide +kernel
theorem dX3_isRankedBefore_43 : decode cX3_isRankedBefore 43 = .ok (.invokevirtual 80, 3) := by decide +kernel
theorem dX3_isRankedBefore_46 : decode cX3_isRankedBefore 46 = .ok (.invokestatic 72, 3) := by decide +kernel
theorem dX3_isRankedBefore_49 : decode cX3_isRankedBefore 49 = .ok (.istore 6, 2) := by decide +kernel
theorem dX3_isRankedBefore_51 : decode cX3_isRankedBefore 51 = .ok (.iload 5, 2) := by decide +kernel
theorem dX3_isRankedBefore_53 : decode cX3_isRankedBefore 53 = .ok (.iload 6, 2) := by decide +kernel
theorem dX3_isRankedBefore_55 : decode cX3_isRankedBefore 55 = .ok (.if_icmp .eq 18, 3) := by decide +kernel
theorem dX3_isRankedBefore_58 : decode cX3_isRankedBefore 58 = .ok (.iload 5, 2) := by decide +kernel
theorem dX3_isRankedBefore_60 : decode cX3_isRankedBefore 60 = .ok (.iload 6, 2) := by decide +kernel
theorem dX3_isRankedBefore_62 : decode cX3_isRankedBefore 62 = .ok (.if_icmp .le 7, 3) := by decide +kernel
theorem dX3_isRankedBefore_65 : decode cX3_isRankedBefore 65 = .ok (.iconst 1, 1) := by decide +kernel
theorem dX3_isRankedBefore_66 : decode cX3_isRankedBefore 66 = .ok (.goto 17, 3) := by decide +kernel
theorem dX3_isRankedBefore_69 : decode cX3_isRankedBefore 69 = .ok (.iconst 0, 1) := by decide +kernel
theorem dX3_isRankedBefore_70 : decode cX3_isRankedBefore 70 = .ok (.goto 13, 3) := by decide +kernel
theorem dX3_isRankedBefore_73 : decode cX3_isRankedBefore 73 = .ok (.iload_n 1, 1) := by decide +kernel
theorem dX3_isRankedBefore_74 : decode cX3_isRankedBefore 74 = .ok (.iload_n 2, 1) := by decide +kernel
theorem dX3_isRankedBefore_75 : decode cX3_isRankedBefore 75 = .ok (.if_icmp .ge 7, 3) := by decide +kernel
theorem dX3_isRankedBefore_78 : decode cX3_isRankedBefore 78 = .ok (.iconst 1, 1) := by decide +kernel
theorem dX3_isRankedBefore_79 : decode cX3_isRankedBefore 79 = .ok (.goto 4, 3) := by decide +kernel
theorem dX3_isRankedBefore_82 : decode cX3_isRankedBefore 82 = .ok (.iconst 0, 1) := by decide +kernel
theorem dX3_isRankedBefore_83 : decode cX3_isRankedBefore 83 = .ok (.ireturn, 1) := by decide +kernel
theorem dX4_init_0 : decode cX4_init 0 = .ok (.aload_n 0, 1) := by decide +kernel
theorem dX4_init_1 : decode cX4_init 1 = .ok (.invokespecial 3, 3) := by decide +kernel
theorem dX4_init_4 : decode cX4_init 4 = .ok (.aload_n 0, 1) := by decide +kernel
theorem dX4_init_5 : decode cX4_init 5 = .ok (.bipush 10, 2) := by decide +kernel
theorem dX4_init_7 : decode cX4_init 7 = .ok (.newarray .int, 2) := by decide +kernel
theorem dX4_init_9 : decode cX4_init 9 = .ok (.putfield 9, 3) := by decide +kernel
theorem dX4_init_12 : decode cX4_init 12 = .ok (.aload_n 0, 1) := by decide +kernel
theorem dX4_init_13 : decode cX4_init 13 = .ok (.bipush 10, 2) := by decide +kernel
theorem dX4_init_15 : decode cX4_init 15 = .ok (.newarray .boolean, 2) := by decide +kernel
theorem dX4_init_17 : decode cX4_init 17 = .ok (.putfield 15, 3) := by decide +kernel
theorem dX4_init_20 : decode cX4_init 20 = .ok (.return_, 1) := by decide +kernel
set_option maxRecDepth 20000 in
theorem ggX4_countMostWithout_X4_startFrom : GoodIn wsX4_countMostWithout wsX4_startFrom := goodIn_ca (goodIn_r _ [7, 8, 9, 10, 6, 11, 12, 1, 13, 14, 15, 16, 17, 18, 19, 20, 21, 22, 23, 24, 25, 26, 27, 28, 29, 30, 31, 32, 33, 34, 35, 36, 37, 38, 39, 40, 41, 42, 43, 44, 45, 46, 47, 48, 49, 50, 51, 52, 53, 54] (by decide +kernel) (by decide +kernel)) (goodIn_sub (fun _ h => List.mem_cons_of_mem _ (List.mem_append_right _ h)) (by decide +kernel))
set_option maxRecDepth 20000 in
theorem gX4_countMostWithout_X4_startFrom : GoodIn wsX4_countMostWithout (wsV RX4 25 RX4 yX4_startFrom wsX4_startFrom) := goodIn_app (goodIn_of _ (by decide +kernel)) ggX4_countMostWithout_X4_startFrom
theorem dX4_countMostWithout_0 : decode cX4_countMostWithout 0 = .ok (.iconst 0, 1) := by decide +kernel
theorem dX4_countMostWithout_1 : decode cX4_countMostWithout 1 = .ok (.istore_n 3, 1) := by decide +kernel
theorem dX4_countMostWithout_2 : decode cX4_countMostWithout 2 = .ok (.iload_n 3, 1) := by decide +kernel
theorem dX4_countMostWithout_3 : decode cX4_countMostWithout 3 = .ok (.bipush 10, 2) := by decide +kernel
theorem dX4_countMostWithout_5 : decode cX4_countMostWithout 5 = .ok (.if_icmp .ge 16, 3) := by decide +kernel
theorem dX4_countMostWithout_8 : decode cX4_countMostWithout 8 = .ok (.aload_n 0, 1) := by decide +kernel
theorem dX4_countMostWithout_9 : decode cX4_countMostWithout 9 = .ok (.getfield 9, 3) := by decide +kernel
theorem dX4_countMostWithout_12 : decode cX4_countMostWithout 12 = .ok (.iload_n 3, 1) := by decide +kernel
theorem dX4_countMostWithout_13 : decode cX4_countMostWithout 13 = .ok (.iconst (-1), 1) := by decide +kernel
theorem dX4_countMostWithout_14 : decode cX4_countMostWithout 14 = .ok (.iastore, 1) := by decide +kernel
theorem dX4_countMostWithout_15 : decode cX4_countMostWithout 15 = .ok (.iinc 3 1, 3) := by decide +kernel
theorem dX4_countMostWithout_18 : decode cX4_countMostWithout 18 = .ok (.goto (-16), 3) := by decide +kernel
theorem dX4_countMostWithout_21 : decode cX4_countMostWithout 21 = .ok (.iconst 0, 1) := by decide +kernel
theorem dX4_countMostWithout_22 : decode cX4_countMostWithout 22 = .ok (.istore_n 3, 1) := by decide +kernel
theorem dX4_countMostWithout_23 : decode cX4_countMostWithout 23 = .ok (.iconst 0, 1) := by decide +kernel
theorem dX4_countMostWithout_24 : decode cX4_countMostWithout 24 = .ok (.istore 4, 2) := by decide +kernel
theorem dX4_countMostWithout_26 : decode cX4_countMostWithout 26 = .ok (.iload 4, 2) := by decide +kernel
theorem dX4_countMostWithout_28 : decode cX4_countMostWithout 28 = .ok (.aload_n 1, 1) := by decide +kernel
theorem dX4_countMostWithout_29 : decode cX4_countMostWithout 29 = .ok (.getfield 19, 3) := by decide +kernel
theorem dX4_countMostWithout_32 : decode cX4_countMostWithout 32 = .ok (.if_icmp .ge 28, 3) := by decide +kernel
theorem dX4_countMostWithout_35 : decode cX4_countMostWithout 35 = .ok (.iload 4, 2) := by decide +kernel
theorem dX4_countMostWithout_37 : decode cX4_countMostWithout 37 = .ok (.iload_n 2, 1) := by decide +kernel
theorem dX4_countMostWithout_38 : decode cX4_countMostWithout 38 = .ok (.if_icmp .eq 16, 3) := by decide +kernel
theorem dX4_countMostWithout_41 : decode cX4_countMostWithout 41 = .ok (.aload_n 0, 1) := by decide +kernel
theorem dX4_countMostWithout_42 : decode cX4_countMostWithout 42 = .ok (.aload_n 1, 1) := by decide +kernel
theorem dX4_countMostWithout_43 : decode cX4_countMostWithout 43 = .ok (.iload 4, 2) := by decide +kernel
theorem dX4_countMostWithout_45 : decode cX4_countMostWithout 45 = .ok (.invokevirtual 25, 3) := by decide +kernel
theorem dX4_countMostWithout_48 : decode cX4_countMostWithout 48 = .ok (.ifCond .eq 6, 3) := by decide +kernel
theorem dX4_countMostWithout_51 : decode cX4_countMostWithout 51 = .ok (.iinc 3 1, 3) := by decide +kernel
theorem dX4_countMostWithout_54 : decode cX4_countMostWithout 54 = .ok (.iinc 4 1, 3) := by decide +kernel
theorem dX4_countMostWithout_57 : decode cX4_countMostWithout 57 = .ok (.goto (-31), 3) := by decide +kernel
theorem dX4_countMostWithout_60 : decode cX4_countMostWithout 60 = .ok (.iload_n 3, 1) := by decide +kernel
theorem dX4_countMostWithout_61 : decode cX4_countMostWithout 61 = .ok (.ireturn, 1) := by decide +kernel
set_option maxRecDepth 20000 in
theorem ggX4_startFrom_X4_takeAnyWay : GoodIn wsX4_startFrom wsX4_takeAnyWay := goodIn_ca (goodIn_r _ [5, 6, 1, 7, 8, 9, 10, 11, 12, 13, 14, 15, 16, 17, 18, 19, 20, 21, 22, 23, 24, 25, 26, 27, 28, 29, 30, 31, 32, 33, 2, 3, 4, 36, 37, 38, 39, 40, 41, 42, 43, 44, 45, 46, 47, 48, 49, 34, 35] (by decide +kernel) (by decide +kernel)) (goodIn_sub (fun _ h => List.mem_cons_of_mem _ (List.mem_append_right _ h)) (by decide +kernel))
set_option maxRecDepth 20000 in
theorem gX4_startFrom_X4_takeAnyWay : GoodIn wsX4_startFrom (va_wsS RX4 29 yX4_takeAnyWay wsX4_takeAnyWay) := goodIn_app (goodIn_of _ (by decide +kernel)) ggX4_startFrom_X4_takeAnyWay
theorem dX4_startFrom_0 : decode cX4_startFrom 0 = .ok (.iconst 0, 1) := by decide +kernel
theorem dX4_startFrom_1 : decode cX4_startFrom 1 = .ok (.istore_n 3, 1) := by decide +kernel
theorem dX4_startFrom_2 : decode cX4_startFrom 2 = .ok (.iload_n 3, 1) := by decide +kernel
theorem dX4_startFrom_3 : decode cX4_startFrom 3 = .ok (.bipush 10, 2) := by decide +kernel
theorem dX4_startFrom_5 : decode cX4_startFrom 5 = .ok (.if_icmp .ge 16, 3) := by decide +kernel
theorem dX4_startFrom_8 : decode cX4_startFrom 8 = .ok (.aload_n 0, 1) := by decide +kernel
theorem dX4_startFrom_9 : decode cX4_startFrom 9 = .ok (.getfield 15, 3) := by decide +kernel
theorem dX4_startFrom_12 : decode cX4_startFrom 12 = .ok (.iload_n 3, 1) := by decide +kernel
theorem dX4_startFrom_13 : decode cX4_startFrom 13 = .ok (.iconst 0, 1) := by decide +kernel
theorem dX4_startFrom_14 : decode cX4_startFrom 14 = .ok (.bastore, 1) := by decide +kernel
theorem dX4_startFrom_15 : decode cX4_startFrom 15 = .ok (.iinc 3 1, 3) := by decide +kernel
theorem dX4_startFrom_18 : decode cX4_startFrom 18 = .ok (.goto (-16), 3) := by decide +kernel
theorem dX4_startFrom_21 : decode cX4_startFrom 21 = .ok (.aload_n 0, 1) := by decide +kernel
theorem dX4_startFrom_22 : decode cX4_startFrom 22 = .ok (.aload_n 1, 1) := by decide +kernel
theorem dX4_startFrom_23 : decode cX4_startFrom 23 = .ok (.iload_n 2, 1) := by decide +kernel
theorem dX4_startFrom_24 : decode cX4_startFrom 24 = .ok (.iconst 0, 1) := by decide +kernel
theorem dX4_startFrom_25 : decode cX4_startFrom 25 = .ok (.invokestatic 29, 3) := by decide +kernel
theorem dX4_startFrom_28 : decode cX4_startFrom 28 = .ok (.ireturn, 1) := by decide +kernel
set_option maxRecDepth 20000 in
theorem ggX4_takeAnyWay_X3_isFit : GoodIn wsX4_takeAnyWay wsX3_isFit := goodIn_ca (goodIn_r _ [8, 9, 10, 11, 12, 13, 14, 15, 7, 16, 17, 18, 19, 20, 21, 22, 23, 24, 25, 26, 27, 28, 29, 33, 34, 35, 36, 37, 38, 39, 40, 41, 42, 43, 44, 45, 46] (by decide +kernel) (by decide +kernel)) (goodIn_sub (fun _ h => List.mem_cons_of_mem _ (List.mem_append_right _ h)) (by decide +kernel))
set_option maxRecDepth 20000 in
theorem gX4_takeAnyWay_X3_isFit : GoodIn wsX4_takeAnyWay (wsV RX4 36 RX3 yX3_isFit wsX3_isFit) := goodIn_app (goodIn_of _ (by decide +kernel)) ggX4_takeAnyWay_X3_isFit
set_option maxRecDepth 20000 in
theorem ggX4_takeAnyWay_X4_takeAnyWay : GoodIn wsX4_takeAnyWay wsX4_takeAnyWay := goodIn_ca (goodIn_r _ [0, 1, 2, 3, 4, 5, 6, 7, 8, 9, 10, 11, 12, 13, 14, 15, 16, 17, 18, 19, 20, 21, 22, 23, 24, 25, 26, 27, 28, 29, 30, 31, 32, 33, 34, 35, 36, 37, 38, 39, 40, 41, 42, 43, 44, 45, 46, 47, 48] (by decide +kernel) (by decide +kernel)) (goodIn_sub (fun _ h => List.mem_cons_of_mem _ (List.mem_append_right _ h)) (by decide +kernel))
set_option maxRecDepth 20000 in
theorem gX4_takeAnyWay_X4_takeAnyWay : GoodIn wsX4_takeAnyWay (va_wsS RX4 29 yX4_takeAnyWay wsX4_takeAnyWay) := goodIn_app (goodIn_of _ (by decide +kernel)) ggX4_takeAnyWay_X4_takeAnyWay
theorem dX4_takeAnyWay_0 : decode cX4_takeAnyWay 0 = .ok (.iload_n 3, 1) := by decide +kernel
theorem dX4_takeAnyWay_1 : decode cX4_takeAnyWay 1 = .ok (.bipush 10, 2) := by decide +kernel
theorem dX4_takeAnyWay_3 : decode cX4_takeAnyWay 3 = .ok (.if_icmp .le 5, 3) := by decide +kernel
theorem dX4_takeAnyWay_6 : decode cX4_takeAnyWay 6 = .ok (.iconst 0, 1) := by decide +kernel
theorem dX4_takeAnyWay_7 : decode cX4_takeAnyWay 7 = .ok (.ireturn, 1) := by decide +kernel
theorem dX4_takeAnyWay_8 : decode cX4_takeAnyWay 8 = .ok (.iconst 0, 1) := by decide +kernel
theorem dX4_takeAnyWay_9 : decode cX4_takeAnyWay 9 = .ok (.istore 4, 2) := by decide +kernel
theorem dX4_takeAnyWay_11 : decode cX4_takeAnyWay 11 = .ok (.iload 4, 2) := by decide +kernel
theorem dX4_takeAnyWay_13 : decode cX4_takeAnyWay 13 = .ok (.aload_n 1, 1) := by decide +kernel
theorem dX4_takeAnyWay_14 : decode cX4_takeAnyWay 14 = .ok (.getfield 33, 3) := by decide +kernel
theorem dX4_takeAnyWay_17 : decode cX4_takeAnyWay 17 = .ok (.if_icmp .ge 85, 3) := by decide +kernel
theorem dX4_takeAnyWay_20 : decode cX4_takeAnyWay 20 = .ok (.iload 4, 2) := by decide +kernel
theorem dX4_takeAnyWay_22 : decode cX4_takeAnyWay 22 = .ok (.bipush 10, 2) := by decide +kernel
theorem dX4_takeAnyWay_24 : decode cX4_takeAnyWay 24 = .ok (.if_icmp .ge 78, 3) := by decide +kernel
theorem dX4_takeAnyWay_27 : decode cX4_takeAnyWay 27 = .ok (.aload_n 0, 1) := by decide +kernel
theorem dX4_takeAnyWay_28 : decode cX4_takeAnyWay 28 = .ok (.getfield 15, 3) := by decide +kernel
theorem dX4_takeAnyWay_31 : decode cX4_takeAnyWay 31 = .ok (.iload 4, 2) := by decide +kernel
theorem dX4_takeAnyWay_33 : decode cX4_takeAnyWay 33 = .ok (.baload, 1) := by decide +kernel
theorem dX4_takeAnyWay_34 : decode cX4_takeAnyWay 34 = .ok (.ifCond .ne 62, 3) := by decide +kernel
theorem dX4_takeAnyWay_37 : decode cX4_takeAnyWay 37 = .ok (.aload_n 1, 1) := by decide +kernel
theorem dX4_takeAnyWay_38 : decode cX4_takeAnyWay 38 = .ok (.iload_n 2, 1) := by decide +kernel
theorem dX4_takeAnyWay_39 : decode cX4_takeAnyWay 39 = .ok (.iload 4, 2) := by decide +kernel
theorem dX4_takeAnyWay_41 : decode cX4_takeAnyWay 41 = .ok (.invokevirtual 36, 3) := by decide +kernel
theorem dX4_takeAnyWay_44 : decode cX4_takeAnyWay 44 = .ok (.ifCond .ne 6, 3) := by decide +kernel
theorem dX4_takeAnyWay_47 : decode cX4_takeAnyWay 47 = .ok (.goto 49, 3) := by decide +kernel
theorem dX4_takeAnyWay_50 : decode cX4_takeAnyWay 50 = .ok (.aload_n 0, 1) := by decide +kernel
theorem dX4_takeAnyWay_51 : decode cX4_takeAnyWay 51 = .ok (.getfield 15, 3) := by decide +kernel
theorem dX4_takeAnyWay_54 : decode cX4_takeAnyWay 54 = .ok (.iload 4, 2) := by decide +kernel
theorem dX4_takeAnyWay_56 : decode cX4_takeAnyWay 56 = .ok (.iconst 1, 1) := by decide +kernel
theorem dX4_takeAnyWay_57 : decode cX4_takeAnyWay 57 = .ok (.bastore, 1) := by decide +kernel
theorem dX4_takeAnyWay_58 : decode cX4_takeAnyWay 58 = .ok (.aload_n 0, 1) := by decide +kernel
theorem dX4_takeAnyWay_59 : decode cX4_takeAnyWay 59 = .ok (.getfield 9, 3) := by decide +kernel
theorem dX4_takeAnyWay_62 : decode cX4_takeAnyWay 62 = .ok (.iload 4, 2) := by decide +kernel
theorem dX4_takeAnyWay_64 : decode cX4_takeAnyWay 64 = .ok (.iaload, 1) := by decide +kernel
theorem dX4_takeAnyWay_65 : decode cX4_takeAnyWay 65 = .ok (.istore 5, 2) := by decide +kernel
theorem dX4_takeAnyWay_67 : decode cX4_takeAnyWay 67 = .ok (.iload 5, 2) := by decide +kernel
theorem dX4_takeAnyWay_69 : decode cX4_takeAnyWay 69 = .ok (.iconst (-1), 1) := by decide +kernel
theorem dX4_takeAnyWay_70 : decode cX4_takeAnyWay 70 = .ok (.if_icmp .eq 16, 3) := by decide +kernel
theorem dX4_takeAnyWay_73 : decode cX4_takeAnyWay 73 = .ok (.aload_n 0, 1) := by decide +kernel
theorem dX4_takeAnyWay_74 : decode cX4_takeAnyWay 74 = .ok (.aload_n 1, 1) := by decide +kernel
theorem dX4_takeAnyWay_75 : decode cX4_takeAnyWay 75 = .ok (.iload 5, 2) := by decide +kernel
theorem dX4_takeAnyWay_77 : decode cX4_takeAnyWay 77 = .ok (.iload_n 3, 1) := by decide +kernel
theorem dX4_takeAnyWay_78 : decode cX4_takeAnyWay 78 = .ok (.iconst 1, 1) := by decide +kernel
theorem dX4_takeAnyWay_79 : decode cX4_takeAnyWay 79 = .ok (.iadd, 1) := by decide +kernel
theorem dX4_takeAnyWay_80 : decode cX4_takeAnyWay 80 = .ok (.invokestatic 29, 3) := by decide +kernel
theorem dX4_takeAnyWay_83 : decode cX4_takeAnyWay 83 = .ok (.ifCond .eq 13, 3) := by decide +kernel
theorem dX4_takeAnyWay_86 : decode cX4_takeAnyWay 86 = .ok (.aload_n 0, 1) := by decide +kernel
theorem dX4_takeAnyWay_87 : decode cX4_takeAnyWay 87 = .ok (.getfield 9, 3) := by decide +kernel
theorem dX4_takeAnyWay_90 : decode cX4_takeAnyWay 90 = .ok (.iload 4, 2) := by decide +kernel
theorem dX4_takeAnyWay_92 : decode cX4_takeAnyWay 92 = .ok (.iload_n 2, 1) := by decide +kernel
theorem dX4_takeAnyWay_93 : decode cX4_takeAnyWay 93 = .ok (.iastore, 1) := by decide +kernel
theorem dX4_takeAnyWay_94 : decode cX4_takeAnyWay 94 = .ok (.iconst 1, 1) := by decide +kernel
theorem dX4_takeAnyWay_95 : decode cX4_takeAnyWay 95 = .ok (.ireturn, 1) := by decide +kernel
theorem dX4_takeAnyWay_96 : decode cX4_takeAnyWay 96 = .ok (.iinc 4 1, 3) := by decide +kernel
theorem dX4_takeAnyWay_99 : decode cX4_takeAnyWay 99 = .ok (.goto (-88), 3) := by decide +kernel
theorem dX4_takeAnyWay_102 : decode cX4_takeAnyWay 102 = .ok (.iconst 0, 1) := by decide +kernel
theorem dX4_takeAnyWay_103 : decode cX4_takeAnyWay 103 = .ok (.ireturn, 1) := by decide +kernel
theorem dX5_init_0 : decode cX5_init 0 = .ok (.aload_n 0, 1) := by decide +kernel
theorem dX5_init_1 : decode cX5_init 1 = .ok (.invokespecial 3, 3) := by decide +kernel
theorem dX5_init_4 : decode cX5_init 4 = .ok (.return_, 1) := by decide +kernel
theorem dX5_refuse_0 : decode cX5_refuse 0 = .ok (.aload_n 0, 1) := by decide +kernel
theorem dX5_refuse_1 : decode cX5_refuse 1 = .ok (.iload_n 1, 1) := by decide +kernel
theorem dX5_refuse_2 : decode cX5_refuse 2 = .ok (.putfield 9, 3) := by decide +kernel
theorem dX5_refuse_5 : decode cX5_refuse 5 = .ok (.aload_n 0, 1) := by decide +kernel
theorem dX5_refuse_6 : decode cX5_refuse 6 = .ok (.iload_n 2, 1) := by decide +kernel
theorem dX5_refuse_7 : decode cX5_refuse 7 = .ok (.putfield 15, 3) := by decide +kernel
theorem dX5_refuse_10 : decode cX5_refuse 10 = .ok (.iconst (-1), 1) := by decide +kernel
theorem dX5_refuse_11 : decode cX5_refuse 11 = .ok (.ireturn, 1) := by decide +kernel
theorem dX6_init_0 : decode cX6_init 0 = .ok (.aload_n 0, 1) := by decide +kernel
theorem dX6_init_1 : decode cX6_init 1 = .ok (.invokespecial 3, 3) := by decide +kernel
theorem dX6_init_4 : decode cX6_init 4 = .ok (.aload_n 0, 1) := by decide +kernel
theorem dX6_init_5 : decode cX6_init 5 = .ok (.bipush 10, 2) := by decide +kernel
theorem dX6_init_7 : decode cX6_init 7 = .ok (.newarray .int, 2) := by decide +kernel
theorem dX6_init_9 : decode cX6_init 9 = .ok (.putfield 9, 3) := by decide +kernel
theorem dX6_init_12 : decode cX6_init 12 = .ok (.aload_n 0, 1) := by decide +kernel
theorem dX6_init_13 : decode cX6_init 13 = .ok (.bipush 10, 2) := by decide +kernel
theorem dX6_init_15 : decode cX6_init 15 = .ok (.newarray .boolean, 2) := by decide +kernel
theorem dX6_init_17 : decode cX6_init 17 = .ok (.putfield 15, 3) := by decide +kernel
theorem dX6_init_20 : decode cX6_init 20 = .ok (.aload_n 0, 1) := by decide +kernel
theorem dX6_init_21 : decode cX6_init 21 = .ok (.iconst (-1), 1) := by decide +kernel
theorem dX6_init_22 : decode cX6_init 22 = .ok (.putfield 19, 3) := by decide +kernel
theorem dX6_init_25 : decode cX6_init 25 = .ok (.return_, 1) := by decide +kernel
set_option maxRecDepth 20000 in
theorem ggX6_run_X6_findLevels : GoodIn wsX6_run wsX6_findLevels := goodIn_ca (goodIn_r _ [10, 11, 1, 3, 12, 13, 14, 15, 16, 17, 18, 19, 20, 21, 22, 23, 24, 25, 26, 9, 27, 28, 29, 30, 31, 32, 33, 34, 35, 36, 37, 38, 39, 40, 41, 42, 43, 44, 45, 46, 47, 48, 49, 50, 51, 52, 53, 54, 55, 56, 57, 70, 71, 72, 73, 74, 75, 76, 77, 78, 79, 80, 81, 82, 83, 84, 85, 86] (by decide +kernel) (by decide +kernel)) (goodIn_sub (fun _ h => List.mem_cons_of_mem _ (List.mem_append_right _ h)) (by decide +kernel))
set_option maxRecDepth 20000 in
theorem gX6_run_X6_findLevels : GoodIn wsX6_run (wsV RX6 23 RX6 yX6_findLevels wsX6_findLevels) := goodIn_app (goodIn_of _ (by decide +kernel)) ggX6_run_X6_findLevels
set_option maxRecDepth 20000 in
theorem ggX6_run_X6_levelAt : GoodIn wsX6_run wsX6_levelAt := goodIn_ca (goodIn_r _ [27, 11, 70, 71, 72] (by decide +kernel) (by decide +kernel)) (goodIn_sub (fun _ h => List.mem_cons_of_mem _ (List.mem_append_right _ h)) (by decide +kernel))
set_option maxRecDepth 20000 in
theorem gX6_run_X6_levelAt : GoodIn wsX6_run (wsV RX6 32 RX6 yX6_levelAt wsX6_levelAt) := goodIn_app (goodIn_of _ (by decide +kernel)) ggX6_run_X6_levelAt
set_option maxRecDepth 20000 in
theorem ggX6_run_X6_takeWay : GoodIn wsX6_run wsX6_takeWay := goodIn_ca (goodIn_r _ [60, 32, 2, 33, 34, 35, 15, 36, 37, 38, 39, 40, 23, 13, 14, 16, 17, 41, 42, 43, 44, 45, 46, 47, 48, 49, 50, 51, 52, 53, 54, 55, 56, 57, 61, 62, 63, 9, 64, 1, 24, 25, 26, 27, 11, 58, 59, 65, 66, 67, 68, 22, 69, 73, 74, 75, 76, 77, 78, 79, 80, 81, 82, 83, 84, 85, 86, 70, 71, 72] (by decide +kernel) (by decide +kernel)) (goodIn_sub (fun _ h => List.mem_cons_of_mem _ (List.mem_append_right _ h)) (by decide +kernel))
set_option maxRecDepth 20000 in
theorem gX6_run_X6_takeWay : GoodIn wsX6_run (va_wsS RX6 36 yX6_takeWay wsX6_takeWay) := goodIn_app (goodIn_of _ (by decide +kernel)) ggX6_run_X6_takeWay
theorem dX6_run_0 : decode cX6_run 0 = .ok (.aload_n 0, 1) := by decide +kernel
theorem dX6_run_1 : decode cX6_run 1 = .ok (.aload_n 1, 1) := by decide +kernel
theorem dX6_run_2 : decode cX6_run 2 = .ok (.invokevirtual 23, 3) := by decide +kernel
theorem dX6_run_5 : decode cX6_run 5 = .ok (.aload_n 0, 1) := by decide +kernel
theorem dX6_run_6 : decode cX6_run 6 = .ok (.getfield 19, 3) := by decide +kernel
theorem dX6_run_9 : decode cX6_run 9 = .ok (.iconst (-1), 1) := by decide +kernel
theorem dX6_run_10 : decode cX6_run 10 = .ok (.if_icmp .ne 5, 3) := by decide +kernel
theorem dX6_run_13 : decode cX6_run 13 = .ok (.iconst 0, 1) := by decide +kernel
theorem dX6_run_14 : decode cX6_run 14 = .ok (.ireturn, 1) := by decide +kernel
theorem dX6_run_15 : decode cX6_run 15 = .ok (.iconst 0, 1) := by decide +kernel
theorem dX6_run_16 : decode cX6_run 16 = .ok (.istore_n 2, 1) := by decide +kernel
theorem dX6_run_17 : decode cX6_run 17 = .ok (.iload_n 2, 1) := by decide +kernel
theorem dX6_run_18 : decode cX6_run 18 = .ok (.bipush 10, 2) := by decide +kernel
theorem dX6_run_20 : decode cX6_run 20 = .ok (.if_icmp .ge 16, 3) := by decide +kernel
theorem dX6_run_23 : decode cX6_run 23 = .ok (.aload_n 0, 1) := by decide +kernel
theorem dX6_run_24 : decode cX6_run 24 = .ok (.getfield 15, 3) := by decide +kernel
theorem dX6_run_27 : decode cX6_run 27 = .ok (.iload_n 2, 1) := by decide +kernel
theorem dX6_run_28 : decode cX6_run 28 = .ok (.iconst 0, 1) := by decide +kernel
theorem dX6_run_29 : decode cX6_run 29 = .ok (.bastore, 1) := by decide +kernel
theorem dX6_run_30 : decode cX6_run 30 = .ok (.iinc 2 1, 3) := by decide +kernel
theorem dX6_run_33 : decode cX6_run 33 = .ok (.goto (-16), 3) := by decide +kernel
theorem dX6_run_36 : decode cX6_run 36 = .ok (.iconst 0, 1) := by decide +kernel
theorem dX6_run_37 : decode cX6_run 37 = .ok (.istore_n 2, 1) := by decide +kernel
theorem dX6_run_38 : decode cX6_run 38 = .ok (.iconst 0, 1) := by decide +kernel
theorem dX6_run_39 : decode cX6_run 39 = .ok (.istore_n 3, 1) := by decide +kernel
theorem dX6_run_40 : decode cX6_run 40 = .ok (.iload_n 3, 1) := by decide +kernel
theorem dX6_run_41 : decode cX6_run 41 = .ok (.aload_n 1, 1) := by decide +kernel
theorem dX6_run_42 : decode cX6_run 42 = .ok (.getfield 27, 3) := by decide +kernel
theorem dX6_run_45 : decode cX6_run 45 = .ok (.if_icmp .ge 30, 3) := by decide +kernel
theorem dX6_run_48 : decode cX6_run 48 = .ok (.aload_n 0, 1) := by decide +kernel
theorem dX6_run_49 : decode cX6_run 49 = .ok (.iload_n 3, 1) := by decide +kernel
theorem dX6_run_50 : decode cX6_run 50 = .ok (.invokevirtual 32, 3) := by decide +kernel
theorem dX6_run_53 : decode cX6_run 53 = .ok (.ifCond .ne 16, 3) := by decide +kernel
theorem dX6_run_56 : decode cX6_run 56 = .ok (.aload_n 0, 1) := by decide +kernel
theorem dX6_run_57 : decode cX6_run 57 = .ok (.aload_n 1, 1) := by decide +kernel
theorem dX6_run_58 : decode cX6_run 58 = .ok (.iload_n 3, 1) := by decide +kernel
theorem dX6_run_59 : decode cX6_run 59 = .ok (.iconst 0, 1) := by decide +kernel
theorem dX6_run_60 : decode cX6_run 60 = .ok (.invokestatic 36, 3) := by decide +kernel
theorem dX6_run_63 : decode cX6_run 63 = .ok (.ifCond .eq 6, 3) := by decide +kernel
theorem dX6_run_66 : decode cX6_run 66 = .ok (.iinc 2 1, 3) := by decide +kernel
theorem dX6_run_69 : decode cX6_run 69 = .ok (.iinc 3 1, 3) := by decide +kernel
theorem dX6_run_72 : decode cX6_run 72 = .ok (.goto (-32), 3) := by decide +kernel
theorem dX6_run_75 : decode cX6_run 75 = .ok (.aload_n 1, 1) := by decide +kernel
theorem dX6_run_76 : decode cX6_run 76 = .ok (.dup, 1) := by decide +kernel
theorem dX6_run_77 : decode cX6_run 77 = .ok (.getfield 40, 3) := by decide +kernel
theorem dX6_run_80 : decode cX6_run 80 = .ok (.iconst 1, 1) := by decide +kernel
theorem dX6_run_81 : decode cX6_run 81 = .ok (.iadd, 1) := by decide +kernel
theorem dX6_run_82 : decode cX6_run 82 = .ok (.putfield 40, 3) := by decide +kernel
theorem dX6_run_85 : decode cX6_run 85 = .ok (.aload_n 1, 1) := by decide +kernel
theorem dX6_run_86 : decode cX6_run 86 = .ok (.dup, 1) := by decide +kernel
theorem dX6_run_87 : decode cX6_run 87 = .ok (.getfield 43, 3) := by decide +kernel
theorem dX6_run_90 : decode cX6_run 90 = .ok (.iload_n 2, 1) := by decide +kernel
theorem dX6_run_91 : decode cX6_run 91 = .ok (.iadd, 1) := by decide +kernel
theorem dX6_run_92 : decode cX6_run 92 = .ok (.putfield 43, 3) := by decide +kernel
theorem dX6_run_95 : decode cX6_run 95 = .ok (.iload_n 2, 1) := by decide +kernel
theorem dX6_run_96 : decode cX6_run 96 = .ok (.ireturn, 1) := by decide +kernel
set_option maxRecDepth 20000 in
theorem ggX6_runToEnd_X6_run : GoodIn wsX6_runToEnd wsX6_run := goodIn_ca (goodIn_r _ [5, 6, 7, 8, 9, 10, 11, 12, 13, 4, 14, 15, 16, 17, 18, 19, 20, 21, 22, 23, 24, 25, 26, 27, 28, 29, 30, 31, 32, 33, 34, 35, 36, 37, 38, 39, 40, 41, 42, 43, 44, 45, 46, 47, 48, 49, 50, 51, 52, 53, 54, 55, 56, 57, 58, 59, 60, 61, 62, 63, 64, 65, 66, 67, 68, 69, 70, 71, 72, 73, 74, 75, 76, 77, 78, 79, 80, 81, 82, 83, 84, 85, 86, 87, 88, 89, 90] (by decide +kernel) (by decide +kernel)) (goodIn_sub (fun _ h => List.mem_cons_of_mem _ (List.mem_append_right _ h)) (by decide +kernel))
set_option maxRecDepth 20000 in
theorem gX6_runToEnd_X6_run : GoodIn wsX6_runToEnd (wsV RX6 46 RX6 yX6_run wsX6_run) := goodIn_app (goodIn_of _ (by decide +kernel)) ggX6_runToEnd_X6_run
theorem dX6_runToEnd_0 : decode cX6_runToEnd 0 = .ok (.iconst 0, 1) := by decide +kernel
theorem dX6_runToEnd_1 : decode cX6_runToEnd 1 = .ok (.istore_n 2, 1) := by decide +kernel
theorem dX6_runToEnd_2 : decode cX6_runToEnd 2 = .ok (.iload_n 2, 1) := by decide +kernel
theorem dX6_runToEnd_3 : decode cX6_runToEnd 3 = .ok (.bipush 10, 2) := by decide +kernel
theorem dX6_runToEnd_5 : decode cX6_runToEnd 5 = .ok (.if_icmp .ge 17, 3) := by decide +kernel
theorem dX6_runToEnd_8 : decode cX6_runToEnd 8 = .ok (.aload_n 0, 1) := by decide +kernel
theorem dX6_runToEnd_9 : decode cX6_runToEnd 9 = .ok (.aload_n 1, 1) := by decide +kernel
theorem dX6_runToEnd_10 : decode cX6_runToEnd 10 = .ok (.invokevirtual 46, 3) := by decide +kernel
theorem dX6_runToEnd_13 : decode cX6_runToEnd 13 = .ok (.ifCond .le 9, 3) := by decide +kernel
theorem dX6_runToEnd_16 : decode cX6_runToEnd 16 = .ok (.iinc 2 1, 3) := by decide +kernel
theorem dX6_runToEnd_19 : decode cX6_runToEnd 19 = .ok (.goto (-17), 3) := by decide +kernel
theorem dX6_runToEnd_22 : decode cX6_runToEnd 22 = .ok (.iload_n 2, 1) := by decide +kernel
theorem dX6_runToEnd_23 : decode cX6_runToEnd 23 = .ok (.ireturn, 1) := by decide +kernel
set_option maxRecDepth 20000 in
theorem ggX6_findLevel_X6_findLevels : GoodIn wsX6_findLevel wsX6_findLevels := goodIn_ca (goodIn_r _ [5, 6, 7, 8, 9, 10, 11, 12, 13, 14, 15, 16, 17, 18, 19, 20, 21, 22, 23, 4, 24, 25, 26, 27, 28, 29, 30, 31, 32, 33, 34, 35, 36, 37, 38, 39, 40, 41, 42, 43, 44, 45, 46, 47, 48, 49, 50, 51, 52, 53, 54, 55, 56, 57, 58, 59, 60, 61, 62, 63, 64, 65, 66, 67, 68, 69, 70, 71] (by decide +kernel) (by decide +kernel)) (goodIn_sub (fun _ h => List.mem_cons_of_mem _ (List.mem_append_right _ h)) (by decide +kernel))
set_option maxRecDepth 20000 in
theorem gX6_findLevel_X6_findLevels : GoodIn wsX6_findLevel (wsV RX6 23 RX6 yX6_findLevels wsX6_findLevels) := goodIn_app (goodIn_of _ (by decide +kernel)) ggX6_findLevel_X6_findLevels
set_option maxRecDepth 20000 in
theorem ggX6_findLevel_X6_levelAt : GoodIn wsX6_findLevel wsX6_levelAt := goodIn_ca (goodIn_r _ [24, 6, 55, 56, 57] (by decide +kernel) (by decide +kernel)) (goodIn_sub (fun _ h => List.mem_cons_of_mem _ (List.mem_append_right _ h)) (by decide +kernel))
set_option maxRecDepth 20000 in
theorem gX6_findLevel_X6_levelAt : GoodIn wsX6_findLevel (wsV RX6 32 RX6 yX6_levelAt wsX6_levelAt) := goodIn_app (goodIn_of _ (by decide +kernel)) ggX6_findLevel_X6_levelAt
theorem dX6_findLevel_0 : decode cX6_findLevel 0 = .ok (.aload_n 0, 1) := by decide +kernel
theorem dX6_findLevel_1 : decode cX6_findLevel 1 = .ok (.aload_n 1, 1) := by decide +kernel
theorem dX6_findLevel_2 : decode cX6_findLevel 2 = .ok (.invokevirtual 23, 3) := by decide +kernel
theorem dX6_findLevel_5 : decode cX6_findLevel 5 = .ok (.aload_n 0, 1) := by decide +kernel
theorem dX6_findLevel_6 : decode cX6_findLevel 6 = .ok (.iload_n 2, 1) := by decide +kernel
theorem dX6_findLevel_7 : decode cX6_findLevel 7 = .ok (.invokevirtual 32, 3) := by decide +kernel
theorem dX6_findLevel_10 : decode cX6_findLevel 10 = .ok (.ireturn, 1) := by decide +kernel
set_option maxRecDepth 20000 in
theorem ggX6_findShortest_X6_findLevels : GoodIn wsX6_findShortest wsX6_findLevels := goodIn_ca (goodIn_r _ [6, 7, 1, 8, 9, 10, 11, 12, 13, 14, 15, 16, 17, 18, 19, 20, 21, 22, 23, 5, 24, 25, 26, 27, 28, 29, 30, 31, 32, 33, 34, 35, 36, 37, 38, 39, 40, 41, 42, 43, 44, 45, 46, 47, 48, 49, 50, 51, 52, 53, 54, 55, 56, 57, 58, 59, 60, 61, 62, 63, 64, 65, 66, 67, 68, 69, 70, 71] (by decide +kernel) (by decide +kernel)) (goodIn_sub (fun _ h => List.mem_cons_of_mem _ (List.mem_append_right _ h)) (by decide +kernel))
set_option maxRecDepth 20000 in
theorem gX6_findShortest_X6_findLevels : GoodIn wsX6_findShortest (wsV RX6 23 RX6 yX6_findLevels wsX6_findLevels) := goodIn_app (goodIn_of _ (by decide +kernel)) ggX6_findShortest_X6_findLevels
theorem dX6_findShortest_0 : decode cX6_findShortest 0 = .ok (.aload_n 0, 1) := by decide +kernel
theorem dX6_findShortest_1 : decode cX6_findShortest 1 = .ok (.aload_n 1, 1) := by decide +kernel
theorem dX6_findShortest_2 : decode cX6_findShortest 2 = .ok (.invokevirtual 23, 3) := by decide +kernel
theorem dX6_findShortest_5 : decode cX6_findShortest 5 = .ok (.aload_n 0, 1) := by decide +kernel
theorem dX6_findShortest_6 : decode cX6_findShortest 6 = .ok (.getfield 19, 3) := by decide +kernel
theorem dX6_findShortest_9 : decode cX6_findShortest 9 = .ok (.iconst (-1), 1) := by decide +kernel
theorem dX6_findShortest_10 : decode cX6_findShortest 10 = .ok (.if_icmp .ne 7, 3) := by decide +kernel
theorem dX6_findShortest_13 : decode cX6_findShortest 13 = .ok (.iconst (-1), 1) := by decide +kernel
theorem dX6_findShortest_14 : decode cX6_findShortest 14 = .ok (.goto 9, 3) := by decide +kernel
theorem dX6_findShortest_17 : decode cX6_findShortest 17 = .ok (.aload_n 0, 1) := by decide +kernel
theorem dX6_findShortest_18 : decode cX6_findShortest 18 = .ok (.getfield 19, 3) := by decide +kernel
theorem dX6_findShortest_21 : decode cX6_findShortest 21 = .ok (.iconst 1, 1) := by decide +kernel
theorem dX6_findShortest_22 : decode cX6_findShortest 22 = .ok (.iadd, 1) := by decide +kernel
theorem dX6_findShortest_23 : decode cX6_findShortest 23 = .ok (.ireturn, 1) := by decide +kernel
set_option maxRecDepth 20000 in
theorem ggX6_findReachedLocks_X6_findLevels : GoodIn wsX6_findReachedLocks wsX6_findLevels := goodIn_ca (goodIn_r _ [6, 7, 8, 9, 10, 11, 12, 13, 14, 15, 16, 17, 18, 19, 20, 21, 22, 23, 24, 5, 25, 26, 27, 28, 29, 1, 30, 31, 32, 33, 34, 35, 36, 37, 38, 39, 40, 41, 42, 43, 44, 45, 46, 47, 48, 49, 50, 51, 52, 53, 54, 73, 74, 75, 59, 60, 61, 62, 63, 64, 65, 66, 67, 68, 69, 70, 71, 72] (by decide +kernel) (by decide +kernel)) (goodIn_sub (fun _ h => List.mem_cons_of_mem _ (List.mem_append_right _ h)) (by decide +kernel))
set_option maxRecDepth 20000 in
theorem gX6_findReachedLocks_X6_findLevels : GoodIn wsX6_findReachedLocks (wsV RX6 23 RX6 yX6_findLevels wsX6_findLevels) := goodIn_app (goodIn_of _ (by decide +kernel)) ggX6_findReachedLocks_X6_findLevels
set_option maxRecDepth 20000 in
theorem ggX6_findReachedLocks_X6_isReached : GoodIn wsX6_findReachedLocks wsX6_isReached := goodIn_ca (goodIn_r _ [58, 9, 22, 23, 24, 5, 25, 7, 30, 31, 32, 13, 33, 34, 35, 36, 37, 21, 11, 12, 14, 15, 38, 39, 40, 41, 42, 43, 44, 45, 46, 47, 48, 49, 50, 51, 52, 53, 54, 59, 60, 61, 62, 63, 64, 65, 66, 67, 68, 69, 70, 71, 72, 73, 74, 75] (by decide +kernel) (by decide +kernel)) (goodIn_sub (fun _ h => List.mem_cons_of_mem _ (List.mem_append_right _ h)) (by decide +kernel))
set_option maxRecDepth 20000 in
theorem gX6_findReachedLocks_X6_isReached : GoodIn wsX6_findReachedLocks (wsV RX6 53 RX6 yX6_isReached wsX6_isReached) := goodIn_app (goodIn_of _ (by decide +kernel)) ggX6_findReachedLocks_X6_isReached
theorem dX6_findReachedLocks_0 : decode cX6_findReachedLocks 0 = .ok (.aload_n 0, 1) := by decide +kernel
theorem dX6_findReachedLocks_1 : decode cX6_findReachedLocks 1 = .ok (.aload_n 1, 1) := by decide +kernel
theorem dX6_findReachedLocks_2 : decode cX6_findReachedLocks 2 = .ok (.invokevirtual 23, 3) := by decide +kernel
theorem dX6_findReachedLocks_5 : decode cX6_findReachedLocks 5 = .ok (.iconst 0, 1) := by decide +kernel
theorem dX6_findReachedLocks_6 : decode cX6_findReachedLocks 6 = .ok (.istore_n 2, 1) := by decide +kernel
theorem dX6_findReachedLocks_7 : decode cX6_findReachedLocks 7 = .ok (.iconst 0, 1) := by decide +kernel
theorem dX6_findReachedLocks_8 : decode cX6_findReachedLocks 8 = .ok (.istore_n 3, 1) := by decide +kernel
theorem dX6_findReachedLocks_9 : decode cX6_findReachedLocks 9 = .ok (.iload_n 3, 1) := by decide +kernel
theorem dX6_findReachedLocks_10 : decode cX6_findReachedLocks 10 = .ok (.aload_n 1, 1) := by decide +kernel
theorem dX6_findReachedLocks_11 : decode cX6_findReachedLocks 11 = .ok (.getfield 50, 3) := by decide +kernel
theorem dX6_findReachedLocks_14 : decode cX6_findReachedLocks 14 = .ok (.if_icmp .ge 24, 3) := by decide +kernel
theorem dX6_findReachedLocks_17 : decode cX6_findReachedLocks 17 = .ok (.aload_n 0, 1) := by decide +kernel
theorem dX6_findReachedLocks_18 : decode cX6_findReachedLocks 18 = .ok (.aload_n 1, 1) := by decide +kernel
theorem dX6_findReachedLocks_19 : decode cX6_findReachedLocks 19 = .ok (.iload_n 3, 1) := by decide +kernel
theorem dX6_findReachedLocks_20 : decode cX6_findReachedLocks 20 = .ok (.invokevirtual 53, 3) := by decide +kernel
theorem dX6_findReachedLocks_23 : decode cX6_findReachedLocks 23 = .ok (.ifCond .eq 9, 3) := by decide +kernel
theorem dX6_findReachedLocks_26 : decode cX6_findReachedLocks 26 = .ok (.iload_n 2, 1) := by decide +kernel
theorem dX6_findReachedLocks_27 : decode cX6_findReachedLocks 27 = .ok (.iconst 1, 1) := by decide +kernel
theorem dX6_findReachedLocks_28 : decode cX6_findReachedLocks 28 = .ok (.iload_n 3, 1) := by decide +kernel
theorem dX6_findReachedLocks_29 : decode cX6_findReachedLocks 29 = .ok (.ishl, 1) := by decide +kernel
theorem dX6_findReachedLocks_30 : decode cX6_findReachedLocks 30 = .ok (.ior, 1) := by decide +kernel
theorem dX6_findReachedLocks_31 : decode cX6_findReachedLocks 31 = .ok (.istore_n 2, 1) := by decide +kernel
theorem dX6_findReachedLocks_32 : decode cX6_findReachedLocks 32 = .ok (.iinc 3 1, 3) := by decide +kernel
theorem dX6_findReachedLocks_35 : decode cX6_findReachedLocks 35 = .ok (.goto (-26), 3) := by decide +kernel
theorem dX6_findReachedLocks_38 : decode cX6_findReachedLocks 38 = .ok (.iload_n 2, 1) := by decide +kernel
theorem dX6_findReachedLocks_39 : decode cX6_findReachedLocks 39 = .ok (.ireturn, 1) := by decide +kernel
set_option maxRecDepth 20000 in
theorem ggX6_findUnreachedKeys_X6_findLevels : GoodIn wsX6_findUnreachedKeys wsX6_findLevels := goodIn_ca (goodIn_r _ [6, 7, 8, 1, 9, 10, 11, 12, 13, 14, 15, 16, 17, 18, 19, 20, 21, 22, 23, 5, 24, 25, 26, 27, 28, 29, 30, 31, 32, 33, 34, 35, 36, 37, 38, 39, 40, 41, 42, 43, 44, 45, 46, 47, 48, 49, 50, 51, 52, 53, 54, 69, 70, 71, 55, 56, 57, 58, 59, 60, 61, 62, 63, 64, 65, 66, 67, 68] (by decide +kernel) (by decide +kernel)) (goodIn_sub (fun _ h => List.mem_cons_of_mem _ (List.mem_append_right _ h)) (by decide +kernel))
set_option maxRecDepth 20000 in
theorem gX6_findUnreachedKeys_X6_findLevels : GoodIn wsX6_findUnreachedKeys (wsV RX6 23 RX6 yX6_findLevels wsX6_findLevels) := goodIn_app (goodIn_of _ (by decide +kernel)) ggX6_findUnreachedKeys_X6_findLevels
set_option maxRecDepth 20000 in
theorem ggX6_findUnreachedKeys_X6_levelAt : GoodIn wsX6_findUnreachedKeys wsX6_levelAt := goodIn_ca (goodIn_r _ [24, 7, 69, 70, 71] (by decide +kernel) (by decide +kernel)) (goodIn_sub (fun _ h => List.mem_cons_of_mem _ (List.mem_append_right _ h)) (by decide +kernel))
set_option maxRecDepth 20000 in
theorem gX6_findUnreachedKeys_X6_levelAt : GoodIn wsX6_findUnreachedKeys (wsV RX6 32 RX6 yX6_levelAt wsX6_levelAt) := goodIn_app (goodIn_of _ (by decide +kernel)) ggX6_findUnreachedKeys_X6_levelAt
theorem dX6_findUnreachedKeys_0 : decode cX6_findUnreachedKeys 0 = .ok (.aload_n 0, 1) := by decide +kernel
theorem dX6_findUnreachedKeys_1 : decode cX6_findUnreachedKeys 1 = .ok (.aload_n 1, 1) := by decide +kernel
theorem dX6_findUnreachedKeys_2 : decode cX6_findUnreachedKeys 2 = .ok (.invokevirtual 23, 3) := by decide +kernel
theorem dX6_findUnreachedKeys_5 : decode cX6_findUnreachedKeys 5 = .ok (.iconst 0, 1) := by decide +kernel
theorem dX6_findUnreachedKeys_6 : decode cX6_findUnreachedKeys 6 = .ok (.istore_n 2, 1) := by decide +kernel
theorem dX6_findUnreachedKeys_7 : decode cX6_findUnreachedKeys 7 = .ok (.iconst 0, 1) := by decide +kernel
theorem dX6_findUnreachedKeys_8 : decode cX6_findUnreachedKeys 8 = .ok (.istore_n 3, 1) := by decide +kernel
theorem dX6_findUnreachedKeys_9 : decode cX6_findUnreachedKeys 9 = .ok (.iload_n 3, 1) := by decide +kernel
theorem dX6_findUnreachedKeys_10 : decode cX6_findUnreachedKeys 10 = .ok (.aload_n 1, 1) := by decide +kernel
theorem dX6_findUnreachedKeys_11 : decode cX6_findUnreachedKeys 11 = .ok (.getfield 27, 3) := by decide +kernel
theorem dX6_findUnreachedKeys_14 : decode cX6_findUnreachedKeys 14 = .ok (.if_icmp .ge 24, 3) := by decide +kernel
theorem dX6_findUnreachedKeys_17 : decode cX6_findUnreachedKeys 17 = .ok (.aload_n 0, 1) := by decide +kernel
theorem dX6_findUnreachedKeys_18 : decode cX6_findUnreachedKeys 18 = .ok (.iload_n 3, 1) := by decide +kernel
theorem dX6_findUnreachedKeys_19 : decode cX6_findUnreachedKeys 19 = .ok (.invokevirtual 32, 3) := by decide +kernel
theorem dX6_findUnreachedKeys_22 : decode cX6_findUnreachedKeys 22 = .ok (.iconst (-1), 1) := by decide +kernel
theorem dX6_findUnreachedKeys_23 : decode cX6_findUnreachedKeys 23 = .ok (.if_icmp .ne 9, 3) := by decide +kernel
theorem dX6_findUnreachedKeys_26 : decode cX6_findUnreachedKeys 26 = .ok (.iload_n 2, 1) := by decide +kernel
theorem dX6_findUnreachedKeys_27 : decode cX6_findUnreachedKeys 27 = .ok (.iconst 1, 1) := by decide +kernel
theorem dX6_findUnreachedKeys_28 : decode cX6_findUnreachedKeys 28 = .ok (.iload_n 3, 1) := by decide +kernel
theorem dX6_findUnreachedKeys_29 : decode cX6_findUnreachedKeys 29 = .ok (.ishl, 1) := by decide +kernel
theorem dX6_findUnreachedKeys_30 : decode cX6_findUnreachedKeys 30 = .ok (.ior, 1) := by decide +kernel
theorem dX6_findUnreachedKeys_31 : decode cX6_findUnreachedKeys 31 = .ok (.istore_n 2, 1) := by decide +kernel
theorem dX6_findUnreachedKeys_32 : decode cX6_findUnreachedKeys 32 = .ok (.iinc 3 1, 3) := by decide +kernel
theorem dX6_findUnreachedKeys_35 : decode cX6_findUnreachedKeys 35 = .ok (.goto (-26), 3) := by decide +kernel
theorem dX6_findUnreachedKeys_38 : decode cX6_findUnreachedKeys 38 = .ok (.iload_n 2, 1) := by decide +kernel
theorem dX6_findUnreachedKeys_39 : decode cX6_findUnreachedKeys 39 = .ok (.ireturn, 1) := by decide +kernel
set_option maxRecDepth 20000 in
theorem ggX6_isReached_X6_levelAt : GoodIn wsX6_isReached wsX6_levelAt := goodIn_ca (goodIn_r _ [6, 7, 53, 54, 55] (by decide +kernel) (by decide +kernel)) (goodIn_sub (fun _ h => List.mem_cons_of_mem _ (List.mem_append_right _ h)) (by decide +kernel))
set_option maxRecDepth 20000 in
theorem gX6_isReached_X6_levelAt : GoodIn wsX6_isReached (wsV RX6 32 RX6 yX6_levelAt wsX6_levelAt) := goodIn_app (goodIn_of _ (by decide +kernel)) ggX6_isReached_X6_levelAt
set_option maxRecDepth 20000 in
theorem ggX6_isReached_X3_isFit : GoodIn wsX6_isReached wsX3_isFit := goodIn_ca (goodIn_r _ [12, 13, 14, 15, 16, 17, 18, 19, 11, 20, 21, 22, 23, 24, 25, 26, 27, 28, 29, 30, 31, 32, 33, 39, 40, 41, 42, 43, 44, 45, 46, 47, 48, 49, 50, 51, 52] (by decide +kernel) (by decide +kernel)) (goodIn_sub (fun _ h => List.mem_cons_of_mem _ (List.mem_append_right _ h)) (by decide +kernel))
set_option maxRecDepth 20000 in
theorem gX6_isReached_X3_isFit : GoodIn wsX6_isReached (wsV RX6 57 RX3 yX3_isFit wsX3_isFit) := goodIn_app (goodIn_of _ (by decide +kernel)) ggX6_isReached_X3_isFit
set_option maxRecDepth 20000 in
theorem ggX6_isReached_X3_keyIn : GoodIn wsX6_isReached wsX3_keyIn := goodIn_ca (goodIn_r _ [37, 38, 22, 23, 24, 11, 25, 26, 39, 40, 41, 42, 43, 44, 45, 46, 47, 48, 49, 50, 51, 52] (by decide +kernel) (by decide +kernel)) (goodIn_sub (fun _ h => List.mem_cons_of_mem _ (List.mem_append_right _ h)) (by decide +kernel))
set_option maxRecDepth 20000 in
theorem gX6_isReached_X3_keyIn : GoodIn wsX6_isReached (wsV RX6 61 RX3 yX3_keyIn wsX3_keyIn) := goodIn_app (goodIn_of _ (by decide +kernel)) ggX6_isReached_X3_keyIn
theorem dX6_isReached_0 : decode cX6_isReached 0 = .ok (.iconst 0, 1) := by decide +kernel
theorem dX6_isReached_1 : decode cX6_isReached 1 = .ok (.istore_n 3, 1) := by decide +kernel
theorem dX6_isReached_2 : decode cX6_isReached 2 = .ok (.iload_n 3, 1) := by decide +kernel
theorem dX6_isReached_3 : decode cX6_isReached 3 = .ok (.aload_n 1, 1) := by decide +kernel
theorem dX6_isReached_4 : decode cX6_isReached 4 = .ok (.getfield 27, 3) := by decide +kernel
theorem dX6_isReached_7 : decode cX6_isReached 7 = .ok (.if_icmp .ge 38, 3) := by decide +kernel
theorem dX6_isReached_10 : decode cX6_isReached 10 = .ok (.aload_n 0, 1) := by decide +kernel
theorem dX6_isReached_11 : decode cX6_isReached 11 = .ok (.iload_n 3, 1) := by decide +kernel
theorem dX6_isReached_12 : decode cX6_isReached 12 = .ok (.invokevirtual 32, 3) := by decide +kernel
theorem dX6_isReached_15 : decode cX6_isReached 15 = .ok (.iconst (-1), 1) := by decide +kernel
theorem dX6_isReached_16 : decode cX6_isReached 16 = .ok (.if_icmp .eq 23, 3) := by decide +kernel
theorem dX6_isReached_19 : decode cX6_isReached 19 = .ok (.aload_n 1, 1) := by decide +kernel
theorem dX6_isReached_20 : decode cX6_isReached 20 = .ok (.iload_n 3, 1) := by decide +kernel
theorem dX6_isReached_21 : decode cX6_isReached 21 = .ok (.iload_n 2, 1) := by decide +kernel
theorem dX6_isReached_22 : decode cX6_isReached 22 = .ok (.invokevirtual 57, 3) := by decide +kernel
theorem dX6_isReached_25 : decode cX6_isReached 25 = .ok (.ifCond .eq 14, 3) := by decide +kernel
theorem dX6_isReached_28 : decode cX6_isReached 28 = .ok (.aload_n 1, 1) := by decide +kernel
theorem dX6_isReached_29 : decode cX6_isReached 29 = .ok (.iload_n 2, 1) := by decide +kernel
theorem dX6_isReached_30 : decode cX6_isReached 30 = .ok (.invokevirtual 61, 3) := by decide +kernel
theorem dX6_isReached_33 : decode cX6_isReached 33 = .ok (.iload_n 3, 1) := by decide +kernel
theorem dX6_isReached_34 : decode cX6_isReached 34 = .ok (.if_icmp .eq 5, 3) := by decide +kernel
theorem dX6_isReached_37 : decode cX6_isReached 37 = .ok (.iconst 1, 1) := by decide +kernel
theorem dX6_isReached_38 : decode cX6_isReached 38 = .ok (.ireturn, 1) := by decide +kernel
theorem dX6_isReached_39 : decode cX6_isReached 39 = .ok (.iinc 3 1, 3) := by decide +kernel
theorem dX6_isReached_42 : decode cX6_isReached 42 = .ok (.goto (-40), 3) := by decide +kernel
theorem dX6_isReached_45 : decode cX6_isReached 45 = .ok (.iconst 0, 1) := by decide +kernel
theorem dX6_isReached_46 : decode cX6_isReached 46 = .ok (.ireturn, 1) := by decide +kernel
theorem dX6_levelAt_0 : decode cX6_levelAt 0 = .ok (.iload_n 1, 1) := by decide +kernel
theorem dX6_levelAt_1 : decode cX6_levelAt 1 = .ok (.ifCond .lt 18, 3) := by decide +kernel
theorem dX6_levelAt_4 : decode cX6_levelAt 4 = .ok (.iload_n 1, 1) := by decide +kernel
theorem dX6_levelAt_5 : decode cX6_levelAt 5 = .ok (.bipush 10, 2) := by decide +kernel
theorem dX6_levelAt_7 : decode cX6_levelAt 7 = .ok (.if_icmp .ge 12, 3) := by decide +kernel
theorem dX6_levelAt_10 : decode cX6_levelAt 10 = .ok (.aload_n 0, 1) := by decide +kernel
theorem dX6_levelAt_11 : decode cX6_levelAt 11 = .ok (.getfield 9, 3) := by decide +kernel
theorem dX6_levelAt_14 : decode cX6_levelAt 14 = .ok (.iload_n 1, 1) := by decide +kernel
theorem dX6_levelAt_15 : decode cX6_levelAt 15 = .ok (.iaload, 1) := by decide +kernel
theorem dX6_levelAt_16 : decode cX6_levelAt 16 = .ok (.goto 4, 3) := by decide +kernel
theorem dX6_levelAt_19 : decode cX6_levelAt 19 = .ok (.iconst (-1), 1) := by decide +kernel
theorem dX6_levelAt_20 : decode cX6_levelAt 20 = .ok (.ireturn, 1) := by decide +kernel
set_option maxRecDepth 20000 in
theorem ggX6_findLevels_X3_hasKey : GoodIn wsX6_findLevels wsX3_hasKey := goodIn_r _ [8, 9, 54, 55, 56, 57, 58, 59, 60, 61, 62, 63, 64, 65, 66, 67] (by decide +kernel) (by decide +kernel)
set_option maxRecDepth 20000 in
theorem gX6_findLevels_X3_hasKey : GoodIn wsX6_findLevels (wsV RX6 64 RX3 yX3_hasKey wsX3_hasKey) := goodIn_app (goodIn_of _ (by decide +kernel)) ggX6_findLevels_X3_hasKey
set_option maxRecDepth 20000 in
theorem ggX6_findLevels_X3_lockWith : GoodIn wsX6_findLevels wsX3_lockWith := goodIn_ca (goodIn_r _ [13, 14, 15, 5, 6, 7, 8, 9, 54, 55, 56, 57, 58, 59, 60, 61, 62, 63, 64, 65, 66, 67] (by decide +kernel) (by decide +kernel)) (goodIn_sub (fun _ h => List.mem_cons_of_mem _ (List.mem_append_right _ h)) (by decide +kernel))
set_option maxRecDepth 20000 in
theorem gX6_findLevels_X3_lockWith : GoodIn wsX6_findLevels (wsV RX6 68 RX3 yX3_lockWith wsX3_lockWith) := goodIn_app (goodIn_of _ (by decide +kernel)) ggX6_findLevels_X3_lockWith
set_option maxRecDepth 20000 in
theorem ggX6_findLevels_X6_levelAt : GoodIn wsX6_findLevels wsX6_levelAt := goodIn_ca (goodIn_r _ [20, 1, 51, 52, 53] (by decide +kernel) (by decide +kernel)) (goodIn_sub (fun _ h => List.mem_cons_of_mem _ (List.mem_append_right _ h)) (by decide +kernel))
set_option maxRecDepth 20000 in
theorem gX6_findLevels_X6_levelAt : GoodIn wsX6_findLevels (wsV RX6 32 RX6 yX6_levelAt wsX6_levelAt) := goodIn_app (goodIn_of _ (by decide +kernel)) ggX6_findLevels_X6_levelAt
set_option maxRecDepth 20000 in
theorem ggX6_findLevels_X6_spreadLevel : GoodIn wsX6_findLevels wsX6_spreadLevel := goodIn_ca (goodIn_r _ [24, 25, 2, 1, 26, 27, 28, 7, 29, 30, 31, 32, 33, 15, 5, 6, 8, 9, 34, 35, 36, 37, 38, 39, 40, 41, 42, 43, 44, 45, 46, 47, 48, 49, 50, 4, 54, 55, 56, 57, 58, 59, 60, 61, 62, 63, 64, 65, 66, 67, 51, 52, 53] (by decide +kernel) (by decide +kernel)) (goodIn_sub (fun _ h => List.mem_cons_of_mem _ (List.mem_append_right _ h)) (by decide +kernel))
set_option maxRecDepth 20000 in
theorem gX6_findLevels_X6_spreadLevel : GoodIn wsX6_findLevels (wsV RX6 71 RX6 yX6_spreadLevel wsX6_spreadLevel) := goodIn_app (goodIn_of _ (by decide +kernel)) ggX6_findLevels_X6_spreadLevel
theorem dX6_findLevels_0 : decode cX6_findLevels 0 = .ok (.iconst 0, 1) := by decide +kernel
theorem dX6_findLevels_1 : decode cX6_findLevels 1 = .ok (.istore_n 2, 1) := by decide +kernel
theorem dX6_findLevels_2 : decode cX6_findLevels 2 = .ok (.iload_n 2, 1) := by decide +kernel
theorem dX6_findLevels_3 : decode cX6_findLevels 3 = .ok (.bipush 10, 2) := by decide +kernel
theorem dX6_findLevels_5 : decode cX6_findLevels 5 = .ok (.if_icmp .ge 47, 3) := by decide +kernel
theorem dX6_findLevels_8 : decode cX6_findLevels 8 = .ok (.aload_n 1, 1) := by decide +kernel
theorem dX6_findLevels_9 : decode cX6_findLevels 9 = .ok (.iload_n 2, 1) := by decide +kernel
theorem dX6_findLevels_10 : decode cX6_findLevels 10 = .ok (.invokevirtual 64, 3) := by decide +kernel
theorem dX6_findLevels_13 : decode cX6_findLevels 13 = .ok (.ifCond .eq 16, 3) := by decide +kernel
theorem dX6_findLevels_16 : decode cX6_findLevels 16 = .ok (.aload_n 1, 1) := by decide +kernel
theorem dX6_findLevels_17 : decode cX6_findLevels 17 = .ok (.iload_n 2, 1) := by decide +kernel
theorem dX6_findLevels_18 : decode cX6_findLevels 18 = .ok (.invokevirtual 68, 3) := by decide +kernel
theorem dX6_findLevels_21 : decode cX6_findLevels 21 = .ok (.iconst (-1), 1) := by decide +kernel
theorem dX6_findLevels_22 : decode cX6_findLevels 22 = .ok (.if_icmp .ne 7, 3) := by decide +kernel
theorem dX6_findLevels_25 : decode cX6_findLevels 25 = .ok (.iconst 1, 1) := by decide +kernel
theorem dX6_findLevels_26 : decode cX6_findLevels 26 = .ok (.goto 4, 3) := by decide +kernel
theorem dX6_findLevels_29 : decode cX6_findLevels 29 = .ok (.iconst 0, 1) := by decide +kernel
theorem dX6_findLevels_30 : decode cX6_findLevels 30 = .ok (.istore_n 3, 1) := by decide +kernel
theorem dX6_findLevels_31 : decode cX6_findLevels 31 = .ok (.aload_n 0, 1) := by decide +kernel
theorem dX6_findLevels_32 : decode cX6_findLevels 32 = .ok (.getfield 9, 3) := by decide +kernel
theorem dX6_findLevels_35 : decode cX6_findLevels 35 = .ok (.iload_n 2, 1) := by decide +kernel
theorem dX6_findLevels_36 : decode cX6_findLevels 36 = .ok (.iload_n 3, 1) := by decide +kernel
theorem dX6_findLevels_37 : decode cX6_findLevels 37 = .ok (.ifCond .eq 7, 3) := by decide +kernel
theorem dX6_findLevels_40 : decode cX6_findLevels 40 = .ok (.iconst 0, 1) := by decide +kernel
theorem dX6_findLevels_41 : decode cX6_findLevels 41 = .ok (.goto 4, 3) := by decide +kernel
theorem dX6_findLevels_44 : decode cX6_findLevels 44 = .ok (.iconst (-1), 1) := by decide +kernel
theorem dX6_findLevels_45 : decode cX6_findLevels 45 = .ok (.iastore, 1) := by decide +kernel
theorem dX6_findLevels_46 : decode cX6_findLevels 46 = .ok (.iinc 2 1, 3) := by decide +kernel
theorem dX6_findLevels_49 : decode cX6_findLevels 49 = .ok (.goto (-47), 3) := by decide +kernel
theorem dX6_findLevels_52 : decode cX6_findLevels 52 = .ok (.aload_n 0, 1) := by decide +kernel
theorem dX6_findLevels_53 : decode cX6_findLevels 53 = .ok (.iconst (-1), 1) := by decide +kernel
theorem dX6_findLevels_54 : decode cX6_findLevels 54 = .ok (.putfield 19, 3) := by decide +kernel
theorem dX6_findLevels_57 : decode cX6_findLevels 57 = .ok (.iconst 0, 1) := by decide +kernel
theorem dX6_findLevels_58 : decode cX6_findLevels 58 = .ok (.istore_n 2, 1) := by decide +kernel
theorem dX6_findLevels_59 : decode cX6_findLevels 59 = .ok (.iload_n 2, 1) := by decide +kernel
theorem dX6_findLevels_60 : decode cX6_findLevels 60 = .ok (.bipush 10, 2) := by decide +kernel
theorem dX6_findLevels_62 : decode cX6_findLevels 62 = .ok (.if_icmp .ge 41, 3) := by decide +kernel
theorem dX6_findLevels_65 : decode cX6_findLevels 65 = .ok (.iconst 0, 1) := by decide +kernel
theorem dX6_findLevels_66 : decode cX6_findLevels 66 = .ok (.istore_n 3, 1) := by decide +kernel
theorem dX6_findLevels_67 : decode cX6_findLevels 67 = .ok (.iload_n 3, 1) := by decide +kernel
theorem dX6_findLevels_68 : decode cX6_findLevels 68 = .ok (.aload_n 1, 1) := by decide +kernel
theorem dX6_findLevels_69 : decode cX6_findLevels 69 = .ok (.getfield 27, 3) := by decide +kernel
theorem dX6_findLevels_72 : decode cX6_findLevels 72 = .ok (.if_icmp .ge 25, 3) := by decide +kernel
theorem dX6_findLevels_75 : decode cX6_findLevels 75 = .ok (.aload_n 0, 1) := by decide +kernel
theorem dX6_findLevels_76 : decode cX6_findLevels 76 = .ok (.iload_n 3, 1) := by decide +kernel
theorem dX6_findLevels_77 : decode cX6_findLevels 77 = .ok (.invokevirtual 32, 3) := by decide +kernel
theorem dX6_findLevels_80 : decode cX6_findLevels 80 = .ok (.iload_n 2, 1) := by decide +kernel
theorem dX6_findLevels_81 : decode cX6_findLevels 81 = .ok (.if_icmp .ne 10, 3) := by decide +kernel
theorem dX6_findLevels_84 : decode cX6_findLevels 84 = .ok (.aload_n 0, 1) := by decide +kernel
theorem dX6_findLevels_85 : decode cX6_findLevels 85 = .ok (.aload_n 1, 1) := by decide +kernel
theorem dX6_findLevels_86 : decode cX6_findLevels 86 = .ok (.iload_n 3, 1) := by decide +kernel
theorem dX6_findLevels_87 : decode cX6_findLevels 87 = .ok (.iload_n 2, 1) := by decide +kernel
theorem dX6_findLevels_88 : decode cX6_findLevels 88 = .ok (.invokevirtual 71, 3) := by decide +kernel
theorem dX6_findLevels_91 : decode cX6_findLevels 91 = .ok (.iinc 3 1, 3) := by decide +kernel
theorem dX6_findLevels_94 : decode cX6_findLevels 94 = .ok (.goto (-27), 3) := by decide +kernel
theorem dX6_findLevels_97 : decode cX6_findLevels 97 = .ok (.iinc 2 1, 3) := by decide +kernel
theorem dX6_findLevels_100 : decode cX6_findLevels 100 = .ok (.goto (-41), 3) := by decide +kernel
theorem dX6_findLevels_103 : decode cX6_findLevels 103 = .ok (.return_, 1) := by decide +kernel
set_option maxRecDepth 20000 in
theorem ggX6_spreadLevel_X3_isFit : GoodIn wsX6_spreadLevel wsX3_isFit := goodIn_ca (goodIn_r _ [8, 9, 10, 11, 12, 13, 14, 15, 7, 16, 17, 18, 19, 20, 21, 22, 23, 24, 25, 26, 27, 28, 29, 36, 37, 38, 39, 40, 41, 42, 43, 44, 45, 46, 47, 48, 49] (by decide +kernel) (by decide +kernel)) (goodIn_sub (fun _ h => List.mem_cons_of_mem _ (List.mem_append_right _ h)) (by decide +kernel))
set_option maxRecDepth 20000 in
theorem gX6_spreadLevel_X3_isFit : GoodIn wsX6_spreadLevel (wsV RX6 57 RX3 yX3_isFit wsX3_isFit) := goodIn_app (goodIn_of _ (by decide +kernel)) ggX6_spreadLevel_X3_isFit
set_option maxRecDepth 20000 in
theorem ggX6_spreadLevel_X3_keyIn : GoodIn wsX6_spreadLevel wsX3_keyIn := goodIn_ca (goodIn_r _ [33, 34, 18, 19, 20, 7, 21, 22, 36, 37, 38, 39, 40, 41, 42, 43, 44, 45, 46, 47, 48, 49] (by decide +kernel) (by decide +kernel)) (goodIn_sub (fun _ h => List.mem_cons_of_mem _ (List.mem_append_right _ h)) (by decide +kernel))
set_option maxRecDepth 20000 in
theorem gX6_spreadLevel_X3_keyIn : GoodIn wsX6_spreadLevel (wsV RX6 61 RX3 yX3_keyIn wsX3_keyIn) := goodIn_app (goodIn_of _ (by decide +kernel)) ggX6_spreadLevel_X3_keyIn
set_option maxRecDepth 20000 in
theorem ggX6_spreadLevel_X3_hasKey : GoodIn wsX6_spreadLevel wsX3_hasKey := goodIn_r _ [16, 17, 36, 37, 38, 39, 40, 41, 42, 43, 44, 45, 46, 47, 48, 49] (by decide +kernel) (by decide +kernel)
set_option maxRecDepth 20000 in
theorem gX6_spreadLevel_X3_hasKey : GoodIn wsX6_spreadLevel (wsV RX6 64 RX3 yX3_hasKey wsX3_hasKey) := goodIn_app (goodIn_of _ (by decide +kernel)) ggX6_spreadLevel_X3_hasKey
theorem dX6_spreadLevel_0 : decode cX6_spreadLevel 0 = .ok (.iconst 0, 1) := by decide +kernel
theorem dX6_spreadLevel_1 : decode cX6_spreadLevel 1 = .ok (.istore 4, 2) := by decide +kernel
theorem dX6_spreadLevel_3 : decode cX6_spreadLevel 3 = .ok (.iload 4, 2) := by decide +kernel
theorem dX6_spreadLevel_5 : decode cX6_spreadLevel 5 = .ok (.aload_n 1, 1) := by decide +kernel
theorem dX6_spreadLevel_6 : decode cX6_spreadLevel 6 = .ok (.getfield 50, 3) := by decide +kernel
theorem dX6_spreadLevel_9 : decode cX6_spreadLevel 9 = .ok (.if_icmp .ge 83, 3) := by decide +kernel
theorem dX6_spreadLevel_12 : decode cX6_spreadLevel 12 = .ok (.aload_n 1, 1) := by decide +kernel
theorem dX6_spreadLevel_13 : decode cX6_spreadLevel 13 = .ok (.iload_n 2, 1) := by decide +kernel
theorem dX6_spreadLevel_14 : decode cX6_spreadLevel 14 = .ok (.iload 4, 2) := by decide +kernel
theorem dX6_spreadLevel_16 : decode cX6_spreadLevel 16 = .ok (.invokevirtual 57, 3) := by decide +kernel
theorem dX6_spreadLevel_19 : decode cX6_spreadLevel 19 = .ok (.ifCond .ne 6, 3) := by decide +kernel
theorem dX6_spreadLevel_22 : decode cX6_spreadLevel 22 = .ok (.goto 64, 3) := by decide +kernel
theorem dX6_spreadLevel_25 : decode cX6_spreadLevel 25 = .ok (.aload_n 1, 1) := by decide +kernel
theorem dX6_spreadLevel_26 : decode cX6_spreadLevel 26 = .ok (.iload 4, 2) := by decide +kernel
theorem dX6_spreadLevel_28 : decode cX6_spreadLevel 28 = .ok (.invokevirtual 61, 3) := by decide +kernel
theorem dX6_spreadLevel_31 : decode cX6_spreadLevel 31 = .ok (.istore 5, 2) := by decide +kernel
theorem dX6_spreadLevel_33 : decode cX6_spreadLevel 33 = .ok (.aload_n 1, 1) := by decide +kernel
theorem dX6_spreadLevel_34 : decode cX6_spreadLevel 34 = .ok (.iload 5, 2) := by decide +kernel
theorem dX6_spreadLevel_36 : decode cX6_spreadLevel 36 = .ok (.invokevirtual 64, 3) := by decide +kernel
theorem dX6_spreadLevel_39 : decode cX6_spreadLevel 39 = .ok (.ifCond .ne 26, 3) := by decide +kernel
theorem dX6_spreadLevel_42 : decode cX6_spreadLevel 42 = .ok (.aload_n 0, 1) := by decide +kernel
theorem dX6_spreadLevel_43 : decode cX6_spreadLevel 43 = .ok (.aload_n 0, 1) := by decide +kernel
theorem dX6_spreadLevel_44 : decode cX6_spreadLevel 44 = .ok (.getfield 19, 3) := by decide +kernel
theorem dX6_spreadLevel_47 : decode cX6_spreadLevel 47 = .ok (.iconst (-1), 1) := by decide +kernel
theorem dX6_spreadLevel_48 : decode cX6_spreadLevel 48 = .ok (.if_icmp .ne 7, 3) := by decide +kernel
theorem dX6_spreadLevel_51 : decode cX6_spreadLevel 51 = .ok (.iload_n 3, 1) := by decide +kernel
theorem dX6_spreadLevel_52 : decode cX6_spreadLevel 52 = .ok (.goto 7, 3) := by decide +kernel
theorem dX6_spreadLevel_55 : decode cX6_spreadLevel 55 = .ok (.aload_n 0, 1) := by decide +kernel
theorem dX6_spreadLevel_56 : decode cX6_spreadLevel 56 = .ok (.getfield 19, 3) := by decide +kernel
theorem dX6_spreadLevel_59 : decode cX6_spreadLevel 59 = .ok (.putfield 19, 3) := by decide +kernel
theorem dX6_spreadLevel_62 : decode cX6_spreadLevel 62 = .ok (.goto 24, 3) := by decide +kernel
theorem dX6_spreadLevel_65 : decode cX6_spreadLevel 65 = .ok (.aload_n 0, 1) := by decide +kernel
theorem dX6_spreadLevel_66 : decode cX6_spreadLevel 66 = .ok (.getfield 9, 3) := by decide +kernel
theorem dX6_spreadLevel_69 : decode cX6_spreadLevel 69 = .ok (.iload 5, 2) := by decide +kernel
theorem dX6_spreadLevel_71 : decode cX6_spreadLevel 71 = .ok (.iaload, 1) := by decide +kernel
theorem dX6_spreadLevel_72 : decode cX6_spreadLevel 72 = .ok (.iconst (-1), 1) := by decide +kernel
theorem dX6_spreadLevel_73 : decode cX6_spreadLevel 73 = .ok (.if_icmp .ne 13, 3) := by decide +kernel
theorem dX6_spreadLevel_76 : decode cX6_spreadLevel 76 = .ok (.aload_n 0, 1) := by decide +kernel
theorem dX6_spreadLevel_77 : decode cX6_spreadLevel 77 = .ok (.getfield 9, 3) := by decide +kernel
theorem dX6_spreadLevel_80 : decode cX6_spreadLevel 80 = .ok (.iload 5, 2) := by decide +kernel
theorem dX6_spreadLevel_82 : decode cX6_spreadLevel 82 = .ok (.iload_n 3, 1) := by decide +kernel
theorem dX6_spreadLevel_83 : decode cX6_spreadLevel 83 = .ok (.iconst 1, 1) := by decide +kernel
theorem dX6_spreadLevel_84 : decode cX6_spreadLevel 84 = .ok (.iadd, 1) := by decide +kernel
theorem dX6_spreadLevel_85 : decode cX6_spreadLevel 85 = .ok (.iastore, 1) := by decide +kernel
theorem dX6_spreadLevel_86 : decode cX6_spreadLevel 86 = .ok (.iinc 4 1, 3) := by decide +kernel
theorem dX6_spreadLevel_89 : decode cX6_spreadLevel 89 = .ok (.goto (-86), 3) := by decide +kernel
theorem dX6_spreadLevel_92 : decode cX6_spreadLevel 92 = .ok (.return_, 1) := by decide +kernel
set_option maxRecDepth 20000 in
theorem ggX6_canGoOn_X6_levelAt : GoodIn wsX6_canGoOn wsX6_levelAt := goodIn_ca (goodIn_r _ [7, 8, 9, 10, 11] (by decide +kernel) (by decide +kernel)) (goodIn_sub (fun _ h => List.mem_cons_of_mem _ (List.mem_append_right _ h)) (by decide +kernel))
set_option maxRecDepth 20000 in
theorem gX6_canGoOn_X6_levelAt : GoodIn wsX6_canGoOn (wsV RX6 32 RX6 yX6_levelAt wsX6_levelAt) := goodIn_app (goodIn_of _ (by decide +kernel)) ggX6_canGoOn_X6_levelAt
theorem dX6_canGoOn_0 : decode cX6_canGoOn 0 = .ok (.aload_n 0, 1) := by decide +kernel
theorem dX6_canGoOn_1 : decode cX6_canGoOn 1 = .ok (.iload_n 1, 1) := by decide +kernel
theorem dX6_canGoOn_2 : decode cX6_canGoOn 2 = .ok (.invokevirtual 32, 3) := by decide +kernel
theorem dX6_canGoOn_5 : decode cX6_canGoOn 5 = .ok (.iload_n 2, 1) := by decide +kernel
theorem dX6_canGoOn_6 : decode cX6_canGoOn 6 = .ok (.if_icmp .ne 24, 3) := by decide +kernel
theorem dX6_canGoOn_9 : decode cX6_canGoOn 9 = .ok (.iload_n 2, 1) := by decide +kernel
theorem dX6_canGoOn_10 : decode cX6_canGoOn 10 = .ok (.aload_n 0, 1) := by decide +kernel
theorem dX6_canGoOn_11 : decode cX6_canGoOn 11 = .ok (.getfield 19, 3) := by decide +kernel
theorem dX6_canGoOn_14 : decode cX6_canGoOn 14 = .ok (.if_icmp .gt 16, 3) := by decide +kernel
theorem dX6_canGoOn_17 : decode cX6_canGoOn 17 = .ok (.aload_n 0, 1) := by decide +kernel
theorem dX6_canGoOn_18 : decode cX6_canGoOn 18 = .ok (.getfield 15, 3) := by decide +kernel
theorem dX6_canGoOn_21 : decode cX6_canGoOn 21 = .ok (.iload_n 1, 1) := by decide +kernel
theorem dX6_canGoOn_22 : decode cX6_canGoOn 22 = .ok (.baload, 1) := by decide +kernel
theorem dX6_canGoOn_23 : decode cX6_canGoOn 23 = .ok (.ifCond .ne 7, 3) := by decide +kernel
theorem dX6_canGoOn_26 : decode cX6_canGoOn 26 = .ok (.iconst 1, 1) := by decide +kernel
theorem dX6_canGoOn_27 : decode cX6_canGoOn 27 = .ok (.goto 4, 3) := by decide +kernel
theorem dX6_canGoOn_30 : decode cX6_canGoOn 30 = .ok (.iconst 0, 1) := by decide +kernel
theorem dX6_canGoOn_31 : decode cX6_canGoOn 31 = .ok (.ireturn, 1) := by decide +kernel
set_option maxRecDepth 20000 in
theorem ggX6_takeWay_X3_isFit : GoodIn wsX6_takeWay wsX3_isFit := goodIn_ca (goodIn_r _ [7, 8, 9, 10, 11, 12, 13, 14, 6, 15, 16, 17, 18, 19, 20, 21, 22, 23, 24, 25, 26, 27, 28, 53, 54, 55, 56, 57, 58, 59, 60, 61, 62, 63, 64, 65, 66] (by decide +kernel) (by decide +kernel)) (goodIn_sub (fun _ h => List.mem_cons_of_mem _ (List.mem_append_right _ h)) (by decide +kernel))
set_option maxRecDepth 20000 in
theorem gX6_takeWay_X3_isFit : GoodIn wsX6_takeWay (wsV RX6 57 RX3 yX3_isFit wsX3_isFit) := goodIn_app (goodIn_of _ (by decide +kernel)) ggX6_takeWay_X3_isFit
set_option maxRecDepth 20000 in
theorem ggX6_takeWay_X3_keyIn : GoodIn wsX6_takeWay wsX3_keyIn := goodIn_ca (goodIn_r _ [32, 33, 17, 18, 19, 6, 20, 21, 53, 54, 55, 56, 57, 58, 59, 60, 61, 62, 63, 64, 65, 66] (by decide +kernel) (by decide +kernel)) (goodIn_sub (fun _ h => List.mem_cons_of_mem _ (List.mem_append_right _ h)) (by decide +kernel))
set_option maxRecDepth 20000 in
theorem gX6_takeWay_X3_keyIn : GoodIn wsX6_takeWay (wsV RX6 61 RX3 yX3_keyIn wsX3_keyIn) := goodIn_app (goodIn_of _ (by decide +kernel)) ggX6_takeWay_X3_keyIn
set_option maxRecDepth 20000 in
theorem ggX6_takeWay_X6_canGoOn : GoodIn wsX6_takeWay wsX6_canGoOn := goodIn_ca (goodIn_r _ [38, 39, 2, 40, 41, 42, 37, 43, 44, 67, 68, 69] (by decide +kernel) (by decide +kernel)) (goodIn_sub (fun _ h => List.mem_cons_of_mem _ (List.mem_append_right _ h)) (by decide +kernel))
set_option maxRecDepth 20000 in
theorem gX6_takeWay_X6_canGoOn : GoodIn wsX6_takeWay (wsV RX6 75 RX6 yX6_canGoOn wsX6_canGoOn) := goodIn_app (goodIn_of _ (by decide +kernel)) ggX6_takeWay_X6_canGoOn
set_option maxRecDepth 20000 in
theorem ggX6_takeWay_X6_takeWay : GoodIn wsX6_takeWay wsX6_takeWay := goodIn_ca (goodIn_r _ [0, 1, 2, 3, 4, 5, 6, 7, 8, 9, 10, 11, 12, 13, 14, 15, 16, 17, 18, 19, 20, 21, 22, 23, 24, 25, 26, 27, 28, 29, 30, 31, 32, 33, 34, 35, 36, 37, 38, 39, 40, 41, 42, 43, 44, 45, 46, 47, 48, 49, 50, 51, 52, 53, 54, 55, 56, 57, 58, 59, 60, 61, 62, 63, 64, 65, 66, 67, 68, 69] (by decide +kernel) (by decide +kernel)) (goodIn_sub (fun _ h => List.mem_cons_of_mem _ (List.mem_append_right _ h)) (by decide +kernel))
set_option maxRecDepth 20000 in
theorem gX6_takeWay_X6_takeWay : GoodIn wsX6_takeWay (va_wsS RX6 36 yX6_takeWay wsX6_takeWay) := goodIn_app (goodIn_of _ (by decide +kernel)) ggX6_takeWay_X6_takeWay
set_option maxRecDepth 20000 in
theorem ggX6_takeWay_X3_place : GoodIn wsX6_takeWay wsX3_place := goodIn_ca (goodIn_r _ [50, 51, 33, 52, 12, 13, 14, 6, 15, 16, 17, 18, 19, 20, 21, 53, 54, 55, 56, 57, 58, 59, 60, 61, 62, 63, 64, 65, 66] (by decide +kernel) (by decide +kernel)) (goodIn_sub (fun _ h => List.mem_cons_of_mem _ (List.mem_append_right _ h)) (by decide +kernel))
set_option maxRecDepth 20000 in
theorem gX6_takeWay_X3_place : GoodIn wsX6_takeWay (wsV RX6 78 RX3 yX3_place wsX3_place) := goodIn_app (goodIn_of _ (by decide +kernel)) ggX6_takeWay_X3_place
theorem dX6_takeWay_0 : decode cX6_takeWay 0 = .ok (.iload_n 2, 1) := by decide +kernel
theorem dX6_takeWay_1 : decode cX6_takeWay 1 = .ok (.ifCond .lt 15, 3) := by decide +kernel
theorem dX6_takeWay_4 : decode cX6_takeWay 4 = .ok (.iload_n 2, 1) := by decide +kernel
theorem dX6_takeWay_5 : decode cX6_takeWay 5 = .ok (.bipush 10, 2) := by decide +kernel
theorem dX6_takeWay_7 : decode cX6_takeWay 7 = .ok (.if_icmp .ge 9, 3) := by decide +kernel
theorem dX6_takeWay_10 : decode cX6_takeWay 10 = .ok (.iload_n 3, 1) := by decide +kernel
theorem dX6_takeWay_11 : decode cX6_takeWay 11 = .ok (.bipush 10, 2) := by decide +kernel
theorem dX6_takeWay_13 : decode cX6_takeWay 13 = .ok (.if_icmp .lt 5, 3) := by decide +kernel
theorem dX6_takeWay_16 : decode cX6_takeWay 16 = .ok (.iconst 0, 1) := by decide +kernel
theorem dX6_takeWay_17 : decode cX6_takeWay 17 = .ok (.ireturn, 1) := by decide +kernel
theorem dX6_takeWay_18 : decode cX6_takeWay 18 = .ok (.iconst 0, 1) := by decide +kernel
theorem dX6_takeWay_19 : decode cX6_takeWay 19 = .ok (.istore 4, 2) := by decide +kernel
theorem dX6_takeWay_21 : decode cX6_takeWay 21 = .ok (.iload 4, 2) := by decide +kernel
theorem dX6_takeWay_23 : decode cX6_takeWay 23 = .ok (.aload_n 1, 1) := by decide +kernel
theorem dX6_takeWay_24 : decode cX6_takeWay 24 = .ok (.getfield 50, 3) := by decide +kernel
theorem dX6_takeWay_27 : decode cX6_takeWay 27 = .ok (.if_icmp .ge 82, 3) := by decide +kernel
theorem dX6_takeWay_30 : decode cX6_takeWay 30 = .ok (.aload_n 1, 1) := by decide +kernel
theorem dX6_takeWay_31 : decode cX6_takeWay 31 = .ok (.iload_n 2, 1) := by decide +kernel
theorem dX6_takeWay_32 : decode cX6_takeWay 32 = .ok (.iload 4, 2) := by decide +kernel
theorem dX6_takeWay_34 : decode cX6_takeWay 34 = .ok (.invokevirtual 57, 3) := by decide +kernel
theorem dX6_takeWay_37 : decode cX6_takeWay 37 = .ok (.ifCond .ne 6, 3) := by decide +kernel
theorem dX6_takeWay_40 : decode cX6_takeWay 40 = .ok (.goto 63, 3) := by decide +kernel
theorem dX6_takeWay_43 : decode cX6_takeWay 43 = .ok (.aload_n 1, 1) := by decide +kernel
theorem dX6_takeWay_44 : decode cX6_takeWay 44 = .ok (.iload 4, 2) := by decide +kernel
theorem dX6_takeWay_46 : decode cX6_takeWay 46 = .ok (.invokevirtual 61, 3) := by decide +kernel
theorem dX6_takeWay_49 : decode cX6_takeWay 49 = .ok (.istore 5, 2) := by decide +kernel
theorem dX6_takeWay_51 : decode cX6_takeWay 51 = .ok (.iload 5, 2) := by decide +kernel
theorem dX6_takeWay_53 : decode cX6_takeWay 53 = .ok (.iconst (-1), 1) := by decide +kernel
theorem dX6_takeWay_54 : decode cX6_takeWay 54 = .ok (.if_icmp .ne 7, 3) := by decide +kernel
theorem dX6_takeWay_57 : decode cX6_takeWay 57 = .ok (.iconst 1, 1) := by decide +kernel
theorem dX6_takeWay_58 : decode cX6_takeWay 58 = .ok (.goto 4, 3) := by decide +kernel
theorem dX6_takeWay_61 : decode cX6_takeWay 61 = .ok (.iconst 0, 1) := by decide +kernel
theorem dX6_takeWay_62 : decode cX6_takeWay 62 = .ok (.istore 6, 2) := by decide +kernel
theorem dX6_takeWay_64 : decode cX6_takeWay 64 = .ok (.iload 6, 2) := by decide +kernel
theorem dX6_takeWay_66 : decode cX6_takeWay 66 = .ok (.ifCond .ne 28, 3) := by decide +kernel
theorem dX6_takeWay_69 : decode cX6_takeWay 69 = .ok (.aload_n 0, 1) := by decide +kernel
theorem dX6_takeWay_70 : decode cX6_takeWay 70 = .ok (.iload 5, 2) := by decide +kernel
theorem dX6_takeWay_72 : decode cX6_takeWay 72 = .ok (.iload_n 3, 1) := by decide +kernel
theorem dX6_takeWay_73 : decode cX6_takeWay 73 = .ok (.iconst 1, 1) := by decide +kernel
theorem dX6_takeWay_74 : decode cX6_takeWay 74 = .ok (.iadd, 1) := by decide +kernel
theorem dX6_takeWay_75 : decode cX6_takeWay 75 = .ok (.invokevirtual 75, 3) := by decide +kernel
theorem dX6_takeWay_78 : decode cX6_takeWay 78 = .ok (.ifCond .eq 25, 3) := by decide +kernel
theorem dX6_takeWay_81 : decode cX6_takeWay 81 = .ok (.aload_n 0, 1) := by decide +kernel
theorem dX6_takeWay_82 : decode cX6_takeWay 82 = .ok (.aload_n 1, 1) := by decide +kernel
theorem dX6_takeWay_83 : decode cX6_takeWay 83 = .ok (.iload 5, 2) := by decide +kernel
theorem dX6_takeWay_85 : decode cX6_takeWay 85 = .ok (.iload_n 3, 1) := by decide +kernel
theorem dX6_takeWay_86 : decode cX6_takeWay 86 = .ok (.iconst 1, 1) := by decide +kernel
theorem dX6_takeWay_87 : decode cX6_takeWay 87 = .ok (.iadd, 1) := by decide +kernel
theorem dX6_takeWay_88 : decode cX6_takeWay 88 = .ok (.invokestatic 36, 3) := by decide +kernel
theorem dX6_takeWay_91 : decode cX6_takeWay 91 = .ok (.ifCond .eq 12, 3) := by decide +kernel
theorem dX6_takeWay_94 : decode cX6_takeWay 94 = .ok (.aload_n 1, 1) := by decide +kernel
theorem dX6_takeWay_95 : decode cX6_takeWay 95 = .ok (.iload_n 2, 1) := by decide +kernel
theorem dX6_takeWay_96 : decode cX6_takeWay 96 = .ok (.iload 4, 2) := by decide +kernel
theorem dX6_takeWay_98 : decode cX6_takeWay 98 = .ok (.invokevirtual 78, 3) := by decide +kernel
theorem dX6_takeWay_101 : decode cX6_takeWay 101 = .ok (.iconst 1, 1) := by decide +kernel
theorem dX6_takeWay_102 : decode cX6_takeWay 102 = .ok (.ireturn, 1) := by decide +kernel
theorem dX6_takeWay_103 : decode cX6_takeWay 103 = .ok (.iinc 4 1, 3) := by decide +kernel
theorem dX6_takeWay_106 : decode cX6_takeWay 106 = .ok (.goto (-85), 3) := by decide +kernel
theorem dX6_takeWay_109 : decode cX6_takeWay 109 = .ok (.aload_n 0, 1) := by decide +kernel
theorem dX6_takeWay_110 : decode cX6_takeWay 110 = .ok (.getfield 15, 3) := by decide +kernel
theorem dX6_takeWay_113 : decode cX6_takeWay 113 = .ok (.iload_n 2, 1) := by decide +kernel
theorem dX6_takeWay_114 : decode cX6_takeWay 114 = .ok (.iconst 1, 1) := by decide +kernel
theorem dX6_takeWay_115 : decode cX6_takeWay 115 = .ok (.bastore, 1) := by decide +kernel
theorem dX6_takeWay_116 : decode cX6_takeWay 116 = .ok (.iconst 0, 1) := by decide +kernel
theorem dX6_takeWay_117 : decode cX6_takeWay 117 = .ok (.ireturn, 1) := by decide +kernel
set_option maxRecDepth 20000 in
theorem ggX7_init_X3_init : GoodIn wsX7_init wsX3_init := goodIn_r _ [38, 39, 2, 3, 40, 41, 42, 43, 44, 45, 46, 47, 48, 49, 50, 51, 52, 53, 54, 93, 94, 95, 96, 97, 98, 99, 100, 101, 102, 103, 104, 105, 106] (by decide +kernel) (by decide +kernel)
set_option maxRecDepth 20000 in
theorem gX7_init_X3_init_n9 : GoodIn wsX7_init (wsX3_init) := ggX7_init_X3_init
set_option maxRecDepth 20000 in
theorem ggX7_init_X1_init : GoodIn wsX7_init wsX1_init := goodIn_r _ [57, 58, 2, 3, 59, 60, 61, 5, 6, 37, 38, 39, 40, 41, 42, 43, 44, 45, 46, 47, 48, 49, 50, 51, 52, 53, 54, 119, 120, 93, 94, 95, 96, 97, 98, 99, 100, 101, 102, 103, 104, 105, 106] (by decide +kernel) (by decide +kernel)
set_option maxRecDepth 20000 in
theorem gX7_init_X1_init : GoodIn wsX7_init (wsX1_init) := ggX7_init_X1_init
set_option maxRecDepth 20000 in
theorem ggX7_init_X6_init : GoodIn wsX7_init wsX6_init := goodIn_r _ [63, 64, 2, 3, 40, 65, 66, 67, 68, 121, 122, 123] (by decide +kernel) (by decide +kernel)
set_option maxRecDepth 20000 in
theorem gX7_init_X6_init_n34 : GoodIn wsX7_init (wsX6_init) := ggX7_init_X6_init
set_option maxRecDepth 20000 in
theorem ggX7_init_X4_init : GoodIn wsX7_init wsX4_init := goodIn_r _ [70, 71, 2, 3, 40, 72, 66, 73, 124, 125] (by decide +kernel) (by decide +kernel)
set_option maxRecDepth 20000 in
theorem gX7_init_X4_init_n41 : GoodIn wsX7_init (wsX4_init) := ggX7_init_X4_init
set_option maxRecDepth 20000 in
theorem ggX7_init_X5_init : GoodIn wsX7_init wsX5_init := goodIn_r _ [75, 76, 2, 3] (by decide +kernel) (by decide +kernel)
set_option maxRecDepth 20000 in
theorem gX7_init_X5_init_n48 : GoodIn wsX7_init (wsX5_init) := ggX7_init_X5_init
set_option maxRecDepth 20000 in
theorem ggX7_init_X0_init : GoodIn wsX7_init wsX0_init := goodIn_r _ [78, 79, 2, 3, 80, 81, 82, 83, 84, 85, 86, 87, 129, 130, 131, 132, 133, 134, 135] (by decide +kernel) (by decide +kernel)
set_option maxRecDepth 20000 in
theorem gX7_init_X0_init_n55 : GoodIn wsX7_init (wsX0_init) := ggX7_init_X0_init
set_option maxRecDepth 20000 in
theorem ggX7_init_X2_init : GoodIn wsX7_init wsX2_init := goodIn_r _ [89, 90, 2, 3, 80, 91, 92, 136, 137] (by decide +kernel) (by decide +kernel)
set_option maxRecDepth 20000 in
theorem gX7_init_X2_init_n62 : GoodIn wsX7_init (wsX2_init) := ggX7_init_X2_init
theorem dX7_init_0 : decode cX7_init 0 = .ok (.aload_n 0, 1) := by decide +kernel
theorem dX7_init_1 : decode cX7_init 1 = .ok (.invokespecial 1, 3) := by decide +kernel
theorem dX7_init_4 : decode cX7_init 4 = .ok (.aload_n 0, 1) := by decide +kernel
theorem dX7_init_5 : decode cX7_init 5 = .ok (.new 7, 3) := by decide +kernel
theorem dX7_init_8 : decode cX7_init 8 = .ok (.dup, 1) := by decide +kernel
theorem dX7_init_9 : decode cX7_init 9 = .ok (.invokespecial 9, 3) := by decide +kernel
theorem dX7_init_12 : decode cX7_init 12 = .ok (.putfield 10, 3) := by decide +kernel
theorem dX7_init_15 : decode cX7_init 15 = .ok (.aload_n 0, 1) := by decide +kernel
theorem dX7_init_16 : decode cX7_init 16 = .ok (.new 7, 3) := by decide +kernel
theorem dX7_init_19 : decode cX7_init 19 = .ok (.dup, 1) := by decide +kernel
theorem dX7_init_20 : decode cX7_init 20 = .ok (.invokespecial 9, 3) := by decide +kernel
theorem dX7_init_23 : decode cX7_init 23 = .ok (.putfield 16, 3) := by decide +kernel
theorem dX7_init_26 : decode cX7_init 26 = .ok (.aload_n 0, 1) := by decide +kernel
theorem dX7_init_27 : decode cX7_init 27 = .ok (.new 7, 3) := by decide +kernel
theorem dX7_init_30 : decode cX7_init 30 = .ok (.dup, 1) := by decide +kernel
theorem dX7_init_31 : decode cX7_init 31 = .ok (.invokespecial 9, 3) := by decide +kernel
theorem dX7_init_34 : decode cX7_init 34 = .ok (.putfield 19, 3) := by decide +kernel
theorem dX7_init_37 : decode cX7_init 37 = .ok (.aload_n 0, 1) := by decide +kernel
theorem dX7_init_38 : decode cX7_init 38 = .ok (.new 7, 3) := by decide +kernel
theorem dX7_init_41 : decode cX7_init 41 = .ok (.dup, 1) := by decide +kernel
theorem dX7_init_42 : decode cX7_init 42 = .ok (.invokespecial 9, 3) := by decide +kernel
theorem dX7_init_45 : decode cX7_init 45 = .ok (.putfield 22, 3) := by decide +kernel
theorem dX7_init_48 : decode cX7_init 48 = .ok (.aload_n 0, 1) := by decide +kernel
theorem dX7_init_49 : decode cX7_init 49 = .ok (.new 25, 3) := by decide +kernel
theorem dX7_init_52 : decode cX7_init 52 = .ok (.dup, 1) := by decide +kernel
theorem dX7_init_53 : decode cX7_init 53 = .ok (.invokespecial 27, 3) := by decide +kernel
theorem dX7_init_56 : decode cX7_init 56 = .ok (.putfield 28, 3) := by decide +kernel
theorem dX7_init_59 : decode cX7_init 59 = .ok (.aload_n 0, 1) := by decide +kernel
theorem dX7_init_60 : decode cX7_init 60 = .ok (.new 32, 3) := by decide +kernel
theorem dX7_init_63 : decode cX7_init 63 = .ok (.dup, 1) := by decide +kernel
theorem dX7_init_64 : decode cX7_init 64 = .ok (.invokespecial 34, 3) := by decide +kernel
theorem dX7_init_67 : decode cX7_init 67 = .ok (.putfield 35, 3) := by decide +kernel
theorem dX7_init_70 : decode cX7_init 70 = .ok (.aload_n 0, 1) := by decide +kernel
theorem dX7_init_71 : decode cX7_init 71 = .ok (.new 39, 3) := by decide +kernel
theorem dX7_init_74 : decode cX7_init 74 = .ok (.dup, 1) := by decide +kernel
theorem dX7_init_75 : decode cX7_init 75 = .ok (.invokespecial 41, 3) := by decide +kernel
theorem dX7_init_78 : decode cX7_init 78 = .ok (.putfield 42, 3) := by decide +kernel
theorem dX7_init_81 : decode cX7_init 81 = .ok (.aload_n 0, 1) := by decide +kernel
theorem dX7_init_82 : decode cX7_init 82 = .ok (.new 46, 3) := by decide +kernel
theorem dX7_init_85 : decode cX7_init 85 = .ok (.dup, 1) := by decide +kernel
theorem dX7_init_86 : decode cX7_init 86 = .ok (.invokespecial 48, 3) := by decide +kernel
theorem dX7_init_89 : decode cX7_init 89 = .ok (.putfield 49, 3) := by decide +kernel
theorem dX7_init_92 : decode cX7_init 92 = .ok (.aload_n 0, 1) := by decide +kernel
theorem dX7_init_93 : decode cX7_init 93 = .ok (.new 53, 3) := by decide +kernel
theorem dX7_init_96 : decode cX7_init 96 = .ok (.dup, 1) := by decide +kernel
theorem dX7_init_97 : decode cX7_init 97 = .ok (.invokespecial 55, 3) := by decide +kernel
theorem dX7_init_100 : decode cX7_init 100 = .ok (.putfield 56, 3) := by decide +kernel
theorem dX7_init_103 : decode cX7_init 103 = .ok (.aload_n 0, 1) := by decide +kernel
theorem dX7_init_104 : decode cX7_init 104 = .ok (.new 60, 3) := by decide +kernel
theorem dX7_init_107 : decode cX7_init 107 = .ok (.dup, 1) := by decide +kernel
theorem dX7_init_108 : decode cX7_init 108 = .ok (.invokespecial 62, 3) := by decide +kernel
theorem dX7_init_111 : decode cX7_init 111 = .ok (.putfield 63, 3) := by decide +kernel
theorem dX7_init_114 : decode cX7_init 114 = .ok (.aload_n 0, 1) := by decide +kernel
theorem dX7_init_115 : decode cX7_init 115 = .ok (.iconst 0, 1) := by decide +kernel
theorem dX7_init_116 : decode cX7_init 116 = .ok (.putfield 67, 3) := by decide +kernel
theorem dX7_init_119 : decode cX7_init 119 = .ok (.aload_n 0, 1) := by decide +kernel
theorem dX7_init_120 : decode cX7_init 120 = .ok (.iconst (-1), 1) := by decide +kernel
theorem dX7_init_121 : decode cX7_init 121 = .ok (.putfield 71, 3) := by decide +kernel
theorem dX7_init_124 : decode cX7_init 124 = .ok (.return_, 1) := by decide +kernel
set_option maxRecDepth 20000 in
theorem ggX7_key_X3_copyFrom : GoodIn wsX7_key wsX3_copyFrom := goodIn_r _ [8, 9, 10, 11, 12, 13, 14, 15, 16, 17, 18, 19, 20, 21, 22, 23, 24, 25, 26, 79, 80, 81, 82, 83, 84, 85, 86, 87, 88, 89, 90, 91, 92] (by decide +kernel) (by decide +kernel)
set_option maxRecDepth 20000 in
theorem gX7_key_X3_copyFrom : GoodIn wsX7_key (wsV RX7 75 RX3 yX3_copyFrom wsX3_copyFrom) := goodIn_app (goodIn_of _ (by decide +kernel)) ggX7_key_X3_copyFrom
set_option maxRecDepth 20000 in
theorem ggX7_key_X3_addKey : GoodIn wsX7_key wsX3_addKey := goodIn_ca (goodIn_r _ [30, 21, 9, 14, 15, 16, 17, 31, 32, 33, 34, 35, 36, 37, 38, 39, 40, 41, 42, 79, 80, 81, 82, 83, 84, 85, 86, 87, 88, 89, 90, 91, 92, 93, 94, 95] (by decide +kernel) (by decide +kernel)) (goodIn_sub (fun _ h => List.mem_cons_of_mem _ (List.mem_append_left _ (List.mem_append_right _ h))) (by decide +kernel))
set_option maxRecDepth 20000 in
theorem gX7_key_X3_addKey : GoodIn wsX7_key (wsV RX7 79 RX3 yX3_addKey wsX3_addKey) := goodIn_app (goodIn_of _ (by decide +kernel)) ggX7_key_X3_addKey
set_option maxRecDepth 20000 in
theorem ggX7_key_X7_settle : GoodIn wsX7_key wsX7_settle := goodIn_ca (goodIn_r _ [46, 47, 48, 3, 49, 2, 1, 50, 4, 5, 6, 7, 8, 9, 10, 11, 12, 13, 14, 15, 16, 17, 18, 19, 20, 21, 22, 23, 24, 25, 26, 51, 52, 53, 54, 55, 56, 57, 58, 59, 60, 61, 62, 63, 64, 65, 66, 67, 68, 69, 70, 71, 72, 73, 74, 75, 76, 77, 78, 93, 94, 95, 79, 80, 81, 82, 83, 84, 85, 86, 87, 88, 89, 90, 91, 92, 96, 97] (by decide +kernel) (by decide +kernel)) (goodIn_sub (fun _ h => List.mem_cons_of_mem _ (List.mem_append_right _ h)) (by decide +kernel))
set_option maxRecDepth 20000 in
theorem gX7_key_X7_settle : GoodIn wsX7_key (wsV RX7 83 RX7 yX7_settle wsX7_settle) := goodIn_app (goodIn_of _ (by decide +kernel)) ggX7_key_X7_settle
theorem dX7_key_0 : decode cX7_key 0 = .ok (.aload_n 0, 1) := by decide +kernel
theorem dX7_key_1 : decode cX7_key 1 = .ok (.getfield 16, 3) := by decide +kernel
theorem dX7_key_4 : decode cX7_key 4 = .ok (.aload_n 0, 1) := by decide +kernel
theorem dX7_key_5 : decode cX7_key 5 = .ok (.getfield 10, 3) := by decide +kernel
theorem dX7_key_8 : decode cX7_key 8 = .ok (.invokevirtual 75, 3) := by decide +kernel
theorem dX7_key_11 : decode cX7_key 11 = .ok (.aload_n 0, 1) := by decide +kernel
theorem dX7_key_12 : decode cX7_key 12 = .ok (.aload_n 0, 1) := by decide +kernel
theorem dX7_key_13 : decode cX7_key 13 = .ok (.getfield 10, 3) := by decide +kernel
theorem dX7_key_16 : decode cX7_key 16 = .ok (.iload_n 1, 1) := by decide +kernel
theorem dX7_key_17 : decode cX7_key 17 = .ok (.iload_n 2, 1) := by decide +kernel
theorem dX7_key_18 : decode cX7_key 18 = .ok (.aload_n 0, 1) := by decide +kernel
theorem dX7_key_19 : decode cX7_key 19 = .ok (.getfield 49, 3) := by decide +kernel
theorem dX7_key_22 : decode cX7_key 22 = .ok (.invokevirtual 79, 3) := by decide +kernel
theorem dX7_key_25 : decode cX7_key 25 = .ok (.iconst 0, 1) := by decide +kernel
theorem dX7_key_26 : decode cX7_key 26 = .ok (.invokevirtual 83, 3) := by decide +kernel
theorem dX7_key_29 : decode cX7_key 29 = .ok (.ireturn, 1) := by decide +kernel
set_option maxRecDepth 20000 in
theorem ggX7_lock_X3_copyFrom : GoodIn wsX7_lock wsX3_copyFrom := goodIn_r _ [8, 9, 10, 11, 12, 13, 14, 15, 16, 17, 18, 19, 20, 21, 22, 23, 24, 25, 26, 77, 78, 79, 80, 81, 82, 83, 84, 85, 86, 87, 88, 89, 90] (by decide +kernel) (by decide +kernel)
set_option maxRecDepth 20000 in
theorem gX7_lock_X3_copyFrom : GoodIn wsX7_lock (wsV RX7 75 RX3 yX3_copyFrom wsX3_copyFrom) := goodIn_app (goodIn_of _ (by decide +kernel)) ggX7_lock_X3_copyFrom
set_option maxRecDepth 20000 in
theorem ggX7_lock_X3_addLock : GoodIn wsX7_lock wsX3_addLock := goodIn_ca (goodIn_r _ [30, 22, 18, 19, 20, 31, 32, 33, 34, 35, 36, 37, 38, 39, 40, 77, 78, 79, 80, 81, 82, 83, 84, 85, 86, 87, 88, 89, 90, 91, 92, 93] (by decide +kernel) (by decide +kernel)) (goodIn_sub (fun _ h => List.mem_cons_of_mem _ (List.mem_append_left _ (List.mem_append_right _ h))) (by decide +kernel))
set_option maxRecDepth 20000 in
theorem gX7_lock_X3_addLock : GoodIn wsX7_lock (wsV RX7 87 RX3 yX3_addLock wsX3_addLock) := goodIn_app (goodIn_of _ (by decide +kernel)) ggX7_lock_X3_addLock
set_option maxRecDepth 20000 in
theorem ggX7_lock_X7_settle : GoodIn wsX7_lock wsX7_settle := goodIn_ca (goodIn_r _ [44, 45, 46, 3, 47, 2, 1, 48, 4, 5, 6, 7, 8, 9, 10, 11, 12, 13, 14, 15, 16, 17, 18, 19, 20, 21, 22, 23, 24, 25, 26, 49, 50, 51, 52, 53, 54, 55, 56, 57, 58, 59, 60, 61, 62, 63, 64, 65, 66, 67, 68, 69, 70, 71, 72, 73, 74, 75, 76, 91, 92, 93, 77, 78, 79, 80, 81, 82, 83, 84, 85, 86, 87, 88, 89, 90, 94, 95] (by decide +kernel) (by decide +kernel)) (goodIn_sub (fun _ h => List.mem_cons_of_mem _ (List.mem_append_right _ h)) (by decide +kernel))
set_option maxRecDepth 20000 in
theorem gX7_lock_X7_settle : GoodIn wsX7_lock (wsV RX7 83 RX7 yX7_settle wsX7_settle) := goodIn_app (goodIn_of _ (by decide +kernel)) ggX7_lock_X7_settle
theorem dX7_lock_0 : decode cX7_lock 0 = .ok (.aload_n 0, 1) := by decide +kernel
theorem dX7_lock_1 : decode cX7_lock 1 = .ok (.getfield 16, 3) := by decide +kernel
theorem dX7_lock_4 : decode cX7_lock 4 = .ok (.aload_n 0, 1) := by decide +kernel
theorem dX7_lock_5 : decode cX7_lock 5 = .ok (.getfield 10, 3) := by decide +kernel
theorem dX7_lock_8 : decode cX7_lock 8 = .ok (.invokevirtual 75, 3) := by decide +kernel
theorem dX7_lock_11 : decode cX7_lock 11 = .ok (.aload_n 0, 1) := by decide +kernel
theorem dX7_lock_12 : decode cX7_lock 12 = .ok (.aload_n 0, 1) := by decide +kernel
theorem dX7_lock_13 : decode cX7_lock 13 = .ok (.getfield 10, 3) := by decide +kernel
theorem dX7_lock_16 : decode cX7_lock 16 = .ok (.iload_n 1, 1) := by decide +kernel
theorem dX7_lock_17 : decode cX7_lock 17 = .ok (.aload_n 0, 1) := by decide +kernel
theorem dX7_lock_18 : decode cX7_lock 18 = .ok (.getfield 49, 3) := by decide +kernel
theorem dX7_lock_21 : decode cX7_lock 21 = .ok (.invokevirtual 87, 3) := by decide +kernel
theorem dX7_lock_24 : decode cX7_lock 24 = .ok (.iconst 0, 1) := by decide +kernel
theorem dX7_lock_25 : decode cX7_lock 25 = .ok (.invokevirtual 83, 3) := by decide +kernel
theorem dX7_lock_28 : decode cX7_lock 28 = .ok (.ireturn, 1) := by decide +kernel
set_option maxRecDepth 20000 in
theorem ggX7_cut_X3_copyFrom : GoodIn wsX7_cut wsX3_copyFrom := goodIn_r _ [8, 9, 10, 11, 12, 13, 14, 15, 16, 17, 18, 19, 20, 21, 22, 23, 24, 25, 26, 104, 105, 106, 107, 108, 109, 110, 111, 112, 113, 114, 115, 116, 117] (by decide +kernel) (by decide +kernel)
set_option maxRecDepth 20000 in
theorem gX7_cut_X3_copyFrom : GoodIn wsX7_cut (wsV RX7 75 RX3 yX3_copyFrom wsX3_copyFrom) := goodIn_app (goodIn_of _ (by decide +kernel)) ggX7_cut_X3_copyFrom
set_option maxRecDepth 20000 in
theorem ggX7_cut_X3_cutKey : GoodIn wsX7_cut wsX3_cutKey := goodIn_ca (goodIn_r _ [30, 9, 16, 31, 32, 33, 7, 34, 21, 35, 36, 37, 38, 39, 40, 41, 42, 43, 44, 45, 46, 47, 48, 49, 50, 51, 52, 53, 54, 55, 17, 19, 26, 56, 57, 58, 59, 60, 61, 62, 63, 22, 64, 65, 66, 67, 18, 23, 15, 104, 105, 106, 107, 108, 109, 110, 111, 112, 113, 114, 115, 116, 117, 118, 119, 120] (by decide +kernel) (by decide +kernel)) (goodIn_sub (fun _ h => List.mem_cons_of_mem _ (List.mem_append_left _ (List.mem_append_right _ h))) (by decide +kernel))
set_option maxRecDepth 20000 in
theorem gX7_cut_X3_cutKey : GoodIn wsX7_cut (wsV RX7 91 RX3 yX3_cutKey wsX3_cutKey) := goodIn_app (goodIn_of _ (by decide +kernel)) ggX7_cut_X3_cutKey
set_option maxRecDepth 20000 in
theorem ggX7_cut_X7_settle : GoodIn wsX7_cut wsX7_settle := goodIn_ca (goodIn_r _ [71, 72, 73, 3, 74, 2, 1, 75, 4, 5, 6, 7, 8, 9, 10, 11, 12, 13, 14, 15, 16, 17, 18, 19, 20, 21, 22, 23, 24, 25, 26, 76, 77, 78, 79, 80, 81, 82, 83, 84, 85, 86, 87, 88, 89, 90, 91, 92, 93, 94, 95, 96, 97, 98, 99, 100, 101, 102, 103, 118, 119, 120, 104, 105, 106, 107, 108, 109, 110, 111, 112, 113, 114, 115, 116, 117, 121, 122] (by decide +kernel) (by decide +kernel)) (goodIn_sub (fun _ h => List.mem_cons_of_mem _ (List.mem_append_right _ h)) (by decide +kernel))
set_option maxRecDepth 20000 in
theorem gX7_cut_X7_settle : GoodIn wsX7_cut (wsV RX7 83 RX7 yX7_settle wsX7_settle) := goodIn_app (goodIn_of _ (by decide +kernel)) ggX7_cut_X7_settle
theorem dX7_cut_0 : decode cX7_cut 0 = .ok (.aload_n 0, 1) := by decide +kernel
theorem dX7_cut_1 : decode cX7_cut 1 = .ok (.getfield 16, 3) := by decide +kernel
theorem dX7_cut_4 : decode cX7_cut 4 = .ok (.aload_n 0, 1) := by decide +kernel
theorem dX7_cut_5 : decode cX7_cut 5 = .ok (.getfield 10, 3) := by decide +kernel
theorem dX7_cut_8 : decode cX7_cut 8 = .ok (.invokevirtual 75, 3) := by decide +kernel
theorem dX7_cut_11 : decode cX7_cut 11 = .ok (.aload_n 0, 1) := by decide +kernel
theorem dX7_cut_12 : decode cX7_cut 12 = .ok (.aload_n 0, 1) := by decide +kernel
theorem dX7_cut_13 : decode cX7_cut 13 = .ok (.getfield 10, 3) := by decide +kernel
theorem dX7_cut_16 : decode cX7_cut 16 = .ok (.iload_n 1, 1) := by decide +kernel
theorem dX7_cut_17 : decode cX7_cut 17 = .ok (.iload_n 2, 1) := by decide +kernel
theorem dX7_cut_18 : decode cX7_cut 18 = .ok (.aload_n 0, 1) := by decide +kernel
theorem dX7_cut_19 : decode cX7_cut 19 = .ok (.getfield 49, 3) := by decide +kernel
theorem dX7_cut_22 : decode cX7_cut 22 = .ok (.invokevirtual 91, 3) := by decide +kernel
theorem dX7_cut_25 : decode cX7_cut 25 = .ok (.iconst 0, 1) := by decide +kernel
theorem dX7_cut_26 : decode cX7_cut 26 = .ok (.invokevirtual 83, 3) := by decide +kernel
theorem dX7_cut_29 : decode cX7_cut 29 = .ok (.ireturn, 1) := by decide +kernel
set_option maxRecDepth 20000 in
theorem ggX7_bar_X3_copyFrom : GoodIn wsX7_bar wsX3_copyFrom := goodIn_r _ [8, 9, 10, 11, 12, 13, 14, 15, 16, 17, 18, 19, 20, 21, 22, 23, 24, 25, 26, 114, 115, 116, 117, 118, 119, 120, 121, 122, 123, 124, 125, 126, 127] (by decide +kernel) (by decide +kernel)
set_option maxRecDepth 20000 in
theorem gX7_bar_X3_copyFrom : GoodIn wsX7_bar (wsV RX7 75 RX3 yX3_copyFrom wsX3_copyFrom) := goodIn_app (goodIn_of _ (by decide +kernel)) ggX7_bar_X3_copyFrom
set_option maxRecDepth 20000 in
theorem ggX7_bar_X3_setBar : GoodIn wsX7_bar wsX3_setBar := goodIn_ca (goodIn_r _ [30, 15, 31, 32, 33, 7, 34, 21, 35, 36, 37, 38, 39, 40, 41, 42, 43, 44, 45, 22, 46, 47, 48, 49, 50, 51, 52, 53, 54, 55, 56, 57, 17, 19, 26, 58, 59, 60, 61, 62, 63, 64, 65, 18, 9, 23, 66, 67, 68, 69, 70, 71, 72, 73, 74, 75, 76, 114, 115, 116, 117, 118, 119, 120, 121, 122, 123, 124, 125, 126, 127, 128, 129, 130] (by decide +kernel) (by decide +kernel)) (goodIn_sub (fun _ h => List.mem_cons_of_mem _ (List.mem_append_left _ (List.mem_append_right _ h))) (by decide +kernel))
set_option maxRecDepth 20000 in
theorem gX7_bar_X3_setBar : GoodIn wsX7_bar (wsV RX7 94 RX3 yX3_setBar wsX3_setBar) := goodIn_app (goodIn_of _ (by decide +kernel)) ggX7_bar_X3_setBar
set_option maxRecDepth 20000 in
theorem ggX7_bar_X7_settle : GoodIn wsX7_bar wsX7_settle := goodIn_ca (goodIn_r _ [81, 82, 83, 3, 84, 2, 1, 85, 4, 5, 6, 7, 8, 9, 10, 11, 12, 13, 14, 15, 16, 17, 18, 19, 20, 21, 22, 23, 24, 25, 26, 86, 87, 88, 89, 90, 91, 92, 93, 94, 95, 96, 97, 98, 99, 100, 101, 102, 103, 104, 105, 106, 107, 108, 109, 110, 111, 112, 113, 128, 129, 130, 114, 115, 116, 117, 118, 119, 120, 121, 122, 123, 124, 125, 126, 127, 131, 132] (by decide +kernel) (by decide +kernel)) (goodIn_sub (fun _ h => List.mem_cons_of_mem _ (List.mem_append_right _ h)) (by decide +kernel))
set_option maxRecDepth 20000 in
theorem gX7_bar_X7_settle : GoodIn wsX7_bar (wsV RX7 83 RX7 yX7_settle wsX7_settle) := goodIn_app (goodIn_of _ (by decide +kernel)) ggX7_bar_X7_settle
theorem dX7_bar_0 : decode cX7_bar 0 = .ok (.aload_n 0, 1) := by decide +kernel
theorem dX7_bar_1 : decode cX7_bar 1 = .ok (.getfield 16, 3) := by decide +kernel
theorem dX7_bar_4 : decode cX7_bar 4 = .ok (.aload_n 0, 1) := by decide +kernel
theorem dX7_bar_5 : decode cX7_bar 5 = .ok (.getfield 10, 3) := by decide +kernel
theorem dX7_bar_8 : decode cX7_bar 8 = .ok (.invokevirtual 75, 3) := by decide +kernel
theorem dX7_bar_11 : decode cX7_bar 11 = .ok (.aload_n 0, 1) := by decide +kernel
theorem dX7_bar_12 : decode cX7_bar 12 = .ok (.aload_n 0, 1) := by decide +kernel
theorem dX7_bar_13 : decode cX7_bar 13 = .ok (.getfield 10, 3) := by decide +kernel
theorem dX7_bar_16 : decode cX7_bar 16 = .ok (.iload_n 1, 1) := by decide +kernel
theorem dX7_bar_17 : decode cX7_bar 17 = .ok (.iload_n 2, 1) := by decide +kernel
theorem dX7_bar_18 : decode cX7_bar 18 = .ok (.iload_n 3, 1) := by decide +kernel
theorem dX7_bar_19 : decode cX7_bar 19 = .ok (.aload_n 0, 1) := by decide +kernel
theorem dX7_bar_20 : decode cX7_bar 20 = .ok (.getfield 49, 3) := by decide +kernel
theorem dX7_bar_23 : decode cX7_bar 23 = .ok (.invokevirtual 94, 3) := by decide +kernel
theorem dX7_bar_26 : decode cX7_bar 26 = .ok (.iconst 0, 1) := by decide +kernel
theorem dX7_bar_27 : decode cX7_bar 27 = .ok (.invokevirtual 83, 3) := by decide +kernel
theorem dX7_bar_30 : decode cX7_bar 30 = .ok (.ireturn, 1) := by decide +kernel
set_option maxRecDepth 20000 in
theorem ggX7_slack_X3_copyFrom : GoodIn wsX7_slack wsX3_copyFrom := goodIn_r _ [8, 9, 10, 11, 12, 13, 14, 15, 16, 17, 18, 19, 20, 21, 22, 23, 24, 25, 26, 102, 103, 104, 105, 106, 107, 108, 109, 110, 111, 112, 113, 114, 115] (by decide +kernel) (by decide +kernel)
set_option maxRecDepth 20000 in
theorem gX7_slack_X3_copyFrom : GoodIn wsX7_slack (wsV RX7 75 RX3 yX3_copyFrom wsX3_copyFrom) := goodIn_app (goodIn_of _ (by decide +kernel)) ggX7_slack_X3_copyFrom
set_option maxRecDepth 20000 in
theorem ggX7_slack_X3_setSlack : GoodIn wsX7_slack wsX3_setSlack := goodIn_ca (goodIn_r _ [30, 23, 31, 32, 33, 34, 35, 36, 37, 38, 39, 40, 7, 41, 21, 17, 19, 26, 42, 43, 44, 45, 46, 47, 48, 49, 50, 51, 52, 53, 22, 54, 55, 56, 57, 18, 9, 15, 58, 59, 60, 61, 62, 63, 64, 102, 103, 104, 105, 106, 107, 108, 109, 110, 111, 112, 113, 114, 115, 116, 117, 118] (by decide +kernel) (by decide +kernel)) (goodIn_sub (fun _ h => List.mem_cons_of_mem _ (List.mem_append_left _ (List.mem_append_right _ h))) (by decide +kernel))
set_option maxRecDepth 20000 in
theorem gX7_slack_X3_setSlack : GoodIn wsX7_slack (wsV RX7 98 RX3 yX3_setSlack wsX3_setSlack) := goodIn_app (goodIn_of _ (by decide +kernel)) ggX7_slack_X3_setSlack
set_option maxRecDepth 20000 in
theorem ggX7_slack_X7_settle : GoodIn wsX7_slack wsX7_settle := goodIn_ca (goodIn_r _ [69, 70, 71, 3, 72, 2, 1, 73, 4, 5, 6, 7, 8, 9, 10, 11, 12, 13, 14, 15, 16, 17, 18, 19, 20, 21, 22, 23, 24, 25, 26, 74, 75, 76, 77, 78, 79, 80, 81, 82, 83, 84, 85, 86, 87, 88, 89, 90, 91, 92, 93, 94, 95, 96, 97, 98, 99, 100, 101, 116, 117, 118, 102, 103, 104, 105, 106, 107, 108, 109, 110, 111, 112, 113, 114, 115, 119, 120] (by decide +kernel) (by decide +kernel)) (goodIn_sub (fun _ h => List.mem_cons_of_mem _ (List.mem_append_right _ h)) (by decide +kernel))
set_option maxRecDepth 20000 in
theorem gX7_slack_X7_settle : GoodIn wsX7_slack (wsV RX7 83 RX7 yX7_settle wsX7_settle) := goodIn_app (goodIn_of _ (by decide +kernel)) ggX7_slack_X7_settle
theorem dX7_slack_0 : decode cX7_slack 0 = .ok (.aload_n 0, 1) := by decide +kernel
theorem dX7_slack_1 : decode cX7_slack 1 = .ok (.getfield 16, 3) := by decide +kernel
theorem dX7_slack_4 : decode cX7_slack 4 = .ok (.aload_n 0, 1) := by decide +kernel
theorem dX7_slack_5 : decode cX7_slack 5 = .ok (.getfield 10, 3) := by decide +kernel
theorem dX7_slack_8 : decode cX7_slack 8 = .ok (.invokevirtual 75, 3) := by decide +kernel
theorem dX7_slack_11 : decode cX7_slack 11 = .ok (.aload_n 0, 1) := by decide +kernel
theorem dX7_slack_12 : decode cX7_slack 12 = .ok (.aload_n 0, 1) := by decide +kernel
theorem dX7_slack_13 : decode cX7_slack 13 = .ok (.getfield 10, 3) := by decide +kernel
theorem dX7_slack_16 : decode cX7_slack 16 = .ok (.iload_n 1, 1) := by decide +kernel
theorem dX7_slack_17 : decode cX7_slack 17 = .ok (.aload_n 0, 1) := by decide +kernel
theorem dX7_slack_18 : decode cX7_slack 18 = .ok (.getfield 49, 3) := by decide +kernel
theorem dX7_slack_21 : decode cX7_slack 21 = .ok (.invokevirtual 98, 3) := by decide +kernel
theorem dX7_slack_24 : decode cX7_slack 24 = .ok (.iconst 0, 1) := by decide +kernel
theorem dX7_slack_25 : decode cX7_slack 25 = .ok (.invokevirtual 83, 3) := by decide +kernel
theorem dX7_slack_28 : decode cX7_slack 28 = .ok (.ireturn, 1) := by decide +kernel
set_option maxRecDepth 20000 in
theorem ggX7_put_X3_copyFrom : GoodIn wsX7_put wsX3_copyFrom := goodIn_r _ [8, 9, 10, 11, 12, 13, 14, 15, 16, 17, 18, 19, 20, 21, 22, 23, 24, 25, 26, 118, 119, 120, 121, 122, 123, 124, 125, 126, 127, 128, 129, 130, 131] (by decide +kernel) (by decide +kernel)
set_option maxRecDepth 20000 in
theorem gX7_put_X3_copyFrom : GoodIn wsX7_put (wsV RX7 75 RX3 yX3_copyFrom wsX3_copyFrom) := goodIn_app (goodIn_of _ (by decide +kernel)) ggX7_put_X3_copyFrom
set_option maxRecDepth 20000 in
theorem ggX7_put_X3_putIn : GoodIn wsX7_put wsX3_putIn := goodIn_ca (goodIn_r _ [30, 17, 19, 31, 32, 33, 7, 34, 21, 35, 36, 37, 38, 39, 40, 41, 42, 43, 44, 45, 22, 46, 47, 48, 49, 18, 9, 23, 15, 50, 51, 52, 53, 54, 55, 56, 57, 58, 59, 60, 61, 62, 63, 64, 65, 66, 67, 68, 69, 70, 71, 72, 20, 73, 74, 75, 76, 77, 78, 79, 80, 118, 119, 120, 121, 122, 123, 124, 125, 126, 127, 128, 129, 130, 131, 132, 133, 134] (by decide +kernel) (by decide +kernel)) (goodIn_sub (fun _ h => List.mem_cons_of_mem _ (List.mem_append_left _ (List.mem_append_right _ h))) (by decide +kernel))
set_option maxRecDepth 20000 in
theorem gX7_put_X3_putIn : GoodIn wsX7_put (wsV RX7 101 RX3 yX3_putIn wsX3_putIn) := goodIn_app (goodIn_of _ (by decide +kernel)) ggX7_put_X3_putIn
set_option maxRecDepth 20000 in
theorem ggX7_put_X7_settle : GoodIn wsX7_put wsX7_settle := goodIn_ca (goodIn_r _ [85, 86, 87, 3, 88, 2, 1, 89, 4, 5, 6, 7, 8, 9, 10, 11, 12, 13, 14, 15, 16, 17, 18, 19, 20, 21, 22, 23, 24, 25, 26, 90, 91, 92, 93, 94, 95, 96, 97, 98, 99, 100, 101, 102, 103, 104, 105, 106, 107, 108, 109, 110, 111, 112, 113, 114, 115, 116, 117, 132, 133, 134, 118, 119, 120, 121, 122, 123, 124, 125, 126, 127, 128, 129, 130, 131, 135, 136] (by decide +kernel) (by decide +kernel)) (goodIn_sub (fun _ h => List.mem_cons_of_mem _ (List.mem_append_right _ h)) (by decide +kernel))
set_option maxRecDepth 20000 in
theorem gX7_put_X7_settle : GoodIn wsX7_put (wsV RX7 83 RX7 yX7_settle wsX7_settle) := goodIn_app (goodIn_of _ (by decide +kernel)) ggX7_put_X7_settle
theorem dX7_put_0 : decode cX7_put 0 = .ok (.aload_n 0, 1) := by decide +kernel
theorem dX7_put_1 : decode cX7_put 1 = .ok (.getfield 16, 3) := by decide +kernel
theorem dX7_put_4 : decode cX7_put 4 = .ok (.aload_n 0, 1) := by decide +kernel
theorem dX7_put_5 : decode cX7_put 5 = .ok (.getfield 10, 3) := by decide +kernel
theorem dX7_put_8 : decode cX7_put 8 = .ok (.invokevirtual 75, 3) := by decide +kernel
theorem dX7_put_11 : decode cX7_put 11 = .ok (.aload_n 0, 1) := by decide +kernel
theorem dX7_put_12 : decode cX7_put 12 = .ok (.aload_n 0, 1) := by decide +kernel
theorem dX7_put_13 : decode cX7_put 13 = .ok (.getfield 10, 3) := by decide +kernel
theorem dX7_put_16 : decode cX7_put 16 = .ok (.iload_n 1, 1) := by decide +kernel
theorem dX7_put_17 : decode cX7_put 17 = .ok (.iload_n 2, 1) := by decide +kernel
theorem dX7_put_18 : decode cX7_put 18 = .ok (.aload_n 0, 1) := by decide +kernel
theorem dX7_put_19 : decode cX7_put 19 = .ok (.getfield 49, 3) := by decide +kernel
theorem dX7_put_22 : decode cX7_put 22 = .ok (.invokevirtual 101, 3) := by decide +kernel
theorem dX7_put_25 : decode cX7_put 25 = .ok (.iconst 0, 1) := by decide +kernel
theorem dX7_put_26 : decode cX7_put 26 = .ok (.invokevirtual 83, 3) := by decide +kernel
theorem dX7_put_29 : decode cX7_put 29 = .ok (.ireturn, 1) := by decide +kernel
set_option maxRecDepth 20000 in
theorem ggX7_take_X3_copyFrom : GoodIn wsX7_take wsX3_copyFrom := goodIn_r _ [8, 9, 10, 11, 12, 13, 14, 15, 16, 17, 18, 19, 20, 21, 22, 23, 24, 25, 26, 83, 84, 85, 86, 87, 88, 89, 90, 91, 92, 93, 94, 95, 96] (by decide +kernel) (by decide +kernel)
set_option maxRecDepth 20000 in
theorem gX7_take_X3_copyFrom : GoodIn wsX7_take (wsV RX7 75 RX3 yX3_copyFrom wsX3_copyFrom) := goodIn_app (goodIn_of _ (by decide +kernel)) ggX7_take_X3_copyFrom
set_option maxRecDepth 20000 in
theorem ggX7_take_X3_takeOut : GoodIn wsX7_take wsX3_takeOut := goodIn_ca (goodIn_r _ [30, 17, 19, 31, 32, 33, 7, 34, 21, 35, 36, 37, 38, 39, 40, 41, 42, 43, 44, 45, 22, 83, 84, 85, 86, 87, 88, 89, 90, 91, 92, 93, 94, 95, 96, 97, 98, 99] (by decide +kernel) (by decide +kernel)) (goodIn_sub (fun _ h => List.mem_cons_of_mem _ (List.mem_append_left _ (List.mem_append_right _ h))) (by decide +kernel))
set_option maxRecDepth 20000 in
theorem gX7_take_X3_takeOut : GoodIn wsX7_take (wsV RX7 104 RX3 yX3_takeOut wsX3_takeOut) := goodIn_app (goodIn_of _ (by decide +kernel)) ggX7_take_X3_takeOut
set_option maxRecDepth 20000 in
theorem ggX7_take_X7_settle : GoodIn wsX7_take wsX7_settle := goodIn_ca (goodIn_r _ [50, 51, 52, 3, 53, 2, 1, 54, 4, 5, 6, 7, 8, 9, 10, 11, 12, 13, 14, 15, 16, 17, 18, 19, 20, 21, 22, 23, 24, 25, 26, 55, 56, 57, 58, 59, 60, 61, 62, 63, 64, 65, 66, 67, 68, 69, 70, 71, 72, 73, 74, 75, 76, 77, 78, 79, 80, 81, 82, 97, 98, 99, 83, 84, 85, 86, 87, 88, 89, 90, 91, 92, 93, 94, 95, 96, 100, 101] (by decide +kernel) (by decide +kernel)) (goodIn_sub (fun _ h => List.mem_cons_of_mem _ (List.mem_append_right _ h)) (by decide +kernel))
set_option maxRecDepth 20000 in
theorem gX7_take_X7_settle : GoodIn wsX7_take (wsV RX7 83 RX7 yX7_settle wsX7_settle) := goodIn_app (goodIn_of _ (by decide +kernel)) ggX7_take_X7_settle
theorem dX7_take_0 : decode cX7_take 0 = .ok (.aload_n 0, 1) := by decide +kernel
theorem dX7_take_1 : decode cX7_take 1 = .ok (.getfield 16, 3) := by decide +kernel
theorem dX7_take_4 : decode cX7_take 4 = .ok (.aload_n 0, 1) := by decide +kernel
theorem dX7_take_5 : decode cX7_take 5 = .ok (.getfield 10, 3) := by decide +kernel
theorem dX7_take_8 : decode cX7_take 8 = .ok (.invokevirtual 75, 3) := by decide +kernel
theorem dX7_take_11 : decode cX7_take 11 = .ok (.aload_n 0, 1) := by decide +kernel
theorem dX7_take_12 : decode cX7_take 12 = .ok (.aload_n 0, 1) := by decide +kernel
theorem dX7_take_13 : decode cX7_take 13 = .ok (.getfield 10, 3) := by decide +kernel
theorem dX7_take_16 : decode cX7_take 16 = .ok (.iload_n 1, 1) := by decide +kernel
theorem dX7_take_17 : decode cX7_take 17 = .ok (.aload_n 0, 1) := by decide +kernel
theorem dX7_take_18 : decode cX7_take 18 = .ok (.getfield 49, 3) := by decide +kernel
theorem dX7_take_21 : decode cX7_take 21 = .ok (.invokevirtual 104, 3) := by decide +kernel
theorem dX7_take_24 : decode cX7_take 24 = .ok (.iconst 0, 1) := by decide +kernel
theorem dX7_take_25 : decode cX7_take 25 = .ok (.invokevirtual 83, 3) := by decide +kernel
theorem dX7_take_28 : decode cX7_take 28 = .ok (.ireturn, 1) := by decide +kernel
set_option maxRecDepth 20000 in
theorem ggX7_wave_X3_copyFrom : GoodIn wsX7_wave wsX3_copyFrom := goodIn_r _ [7, 8, 9, 10, 11, 12, 13, 14, 15, 16, 17, 18, 19, 20, 21, 22, 23, 24, 25, 209, 210, 211, 212, 213, 214, 215, 216, 217, 218, 219, 220, 221, 222] (by decide +kernel) (by decide +kernel)
set_option maxRecDepth 20000 in
theorem gX7_wave_X3_copyFrom : GoodIn wsX7_wave (wsV RX7 75 RX3 yX3_copyFrom wsX3_copyFrom) := goodIn_app (goodIn_of _ (by decide +kernel)) ggX7_wave_X3_copyFrom
set_option maxRecDepth 20000 in
theorem ggX7_wave_X7_carryOut : GoodIn wsX7_wave wsX7_carryOut := goodIn_ca (goodIn_r _ [30, 2, 31, 32, 33, 34, 35, 6, 36, 20, 8, 13, 14, 15, 16, 37, 29, 38, 39, 40, 41, 42, 43, 44, 45, 46, 47, 48, 49, 50, 51, 21, 17, 18, 19, 52, 53, 54, 55, 56, 57, 58, 59, 60, 61, 62, 63, 64, 65, 66, 67, 68, 69, 70, 25, 71, 72, 73, 74, 75, 76, 77, 78, 79, 80, 81, 82, 22, 83, 84, 85, 86, 87, 88, 89, 90, 91, 92, 93, 94, 95, 96, 97, 98, 99, 100, 101, 102, 103, 104, 105, 106, 107, 108, 109, 110, 111, 112, 113, 114, 115, 116, 117, 118, 119, 120, 121, 122, 123, 124, 125, 126, 127, 128, 129, 130, 131, 132, 133, 134, 135, 136, 137, 138, 139, 140, 141, 142, 143, 144, 145, 146, 147, 148, 149, 150, 151, 152, 153, 154, 155, 156, 157, 158, 159, 160, 161, 162, 163, 164, 165, 166, 167, 168, 169, 170, 171, 172, 197, 198, 199, 200, 201, 202, 203, 204, 205, 206, 207, 208, 209, 210, 211, 212, 213, 214, 215, 216, 217, 218, 219, 220, 221, 222, 223, 224, 225, 226, 227, 228] (by decide +kernel) (by decide +kernel)) (goodIn_sub (fun _ h => List.mem_cons_of_mem _ (List.mem_append_left _ (List.mem_append_right _ h))) (by decide +kernel))
set_option maxRecDepth 20000 in
theorem gX7_wave_X7_carryOut : GoodIn wsX7_wave (wsV RX7 107 RX7 yX7_carryOut wsX7_carryOut) := goodIn_app (goodIn_of _ (by decide +kernel)) ggX7_wave_X7_carryOut
set_option maxRecDepth 20000 in
theorem ggX7_wave_X7_settle : GoodIn wsX7_wave wsX7_settle := goodIn_ca (goodIn_r _ [176, 177, 178, 31, 179, 2, 1, 180, 3, 4, 5, 6, 7, 8, 9, 10, 11, 12, 13, 14, 15, 16, 17, 18, 19, 20, 21, 22, 23, 24, 25, 181, 182, 183, 184, 185, 186, 187, 188, 189, 190, 191, 192, 193, 194, 195, 196, 197, 198, 199, 200, 201, 202, 203, 204, 205, 206, 207, 208, 223, 224, 225, 209, 210, 211, 212, 213, 214, 215, 216, 217, 218, 219, 220, 221, 222, 229, 230] (by decide +kernel) (by decide +kernel)) (goodIn_sub (fun _ h => List.mem_cons_of_mem _ (List.mem_append_right _ h)) (by decide +kernel))
set_option maxRecDepth 20000 in
theorem gX7_wave_X7_settle : GoodIn wsX7_wave (wsV RX7 83 RX7 yX7_settle wsX7_settle) := goodIn_app (goodIn_of _ (by decide +kernel)) ggX7_wave_X7_settle
theorem dX7_wave_0 : decode cX7_wave 0 = .ok (.aload_n 0, 1) := by decide +kernel
theorem dX7_wave_1 : decode cX7_wave 1 = .ok (.getfield 16, 3) := by decide +kernel
theorem dX7_wave_4 : decode cX7_wave 4 = .ok (.aload_n 0, 1) := by decide +kernel
theorem dX7_wave_5 : decode cX7_wave 5 = .ok (.getfield 10, 3) := by decide +kernel
theorem dX7_wave_8 : decode cX7_wave 8 = .ok (.invokevirtual 75, 3) := by decide +kernel
theorem dX7_wave_11 : decode cX7_wave 11 = .ok (.aload_n 0, 1) := by decide +kernel
theorem dX7_wave_12 : decode cX7_wave 12 = .ok (.aload_n 0, 1) := by decide +kernel
theorem dX7_wave_13 : decode cX7_wave 13 = .ok (.bipush 119, 2) := by decide +kernel
theorem dX7_wave_15 : decode cX7_wave 15 = .ok (.iconst 0, 1) := by decide +kernel
theorem dX7_wave_16 : decode cX7_wave 16 = .ok (.iconst 0, 1) := by decide +kernel
theorem dX7_wave_17 : decode cX7_wave 17 = .ok (.invokevirtual 107, 3) := by decide +kernel
theorem dX7_wave_20 : decode cX7_wave 20 = .ok (.iconst 0, 1) := by decide +kernel
theorem dX7_wave_21 : decode cX7_wave 21 = .ok (.invokevirtual 83, 3) := by decide +kernel
theorem dX7_wave_24 : decode cX7_wave 24 = .ok (.ireturn, 1) := by decide +kernel
set_option maxRecDepth 20000 in
theorem ggX7_keyOf_X7_requireKey : GoodIn wsX7_keyOf wsX7_requireKey := goodIn_ca (goodIn_r _ [9, 10, 11, 3, 12, 13, 14, 15, 16, 17, 91, 92, 93, 94, 95, 96, 97, 98, 99, 100, 101, 102, 103, 104, 105, 106, 107, 108, 109, 110, 111, 112, 113, 114, 115, 116] (by decide +kernel) (by decide +kernel)) (goodIn_sub (fun _ h => List.mem_cons_of_mem _ (List.mem_append_left _ (List.mem_append_right _ h))) (by decide +kernel))
set_option maxRecDepth 20000 in
theorem gX7_keyOf_X7_requireKey : GoodIn wsX7_keyOf (wsV RX7 111 RX7 yX7_requireKey wsX7_requireKey) := goodIn_app (goodIn_of _ (by decide +kernel)) ggX7_keyOf_X7_requireKey
set_option maxRecDepth 20000 in
theorem ggX7_keyOf_X3_wardsOf : GoodIn wsX7_keyOf wsX3_wardsOf := goodIn_ca (goodIn_r _ [21, 22, 23, 13, 14, 15, 16, 17, 103, 104, 105, 106, 107, 108, 109, 110, 111, 112, 113, 114, 115, 116] (by decide +kernel) (by decide +kernel)) (goodIn_sub (fun _ h => List.mem_cons_of_mem _ (List.mem_append_right _ h)) (by decide +kernel))
set_option maxRecDepth 20000 in
theorem gX7_keyOf_X3_wardsOf : GoodIn wsX7_keyOf (wsV RX7 115 RX3 yX3_wardsOf wsX3_wardsOf) := goodIn_app (goodIn_of _ (by decide +kernel)) ggX7_keyOf_X3_wardsOf
set_option maxRecDepth 20000 in
theorem ggX7_keyOf_X3_porterWith : GoodIn wsX7_keyOf wsX3_porterWith := goodIn_ca (goodIn_r _ [27, 28, 23, 13, 14, 15, 16, 17, 103, 104, 105, 106, 107, 108, 109, 110, 111, 112, 113, 114, 115, 116] (by decide +kernel) (by decide +kernel)) (goodIn_sub (fun _ h => List.mem_cons_of_mem _ (List.mem_append_right _ h)) (by decide +kernel))
set_option maxRecDepth 20000 in
theorem gX7_keyOf_X3_porterWith : GoodIn wsX7_keyOf (wsV RX7 119 RX3 yX3_porterWith wsX3_porterWith) := goodIn_app (goodIn_of _ (by decide +kernel)) ggX7_keyOf_X3_porterWith
set_option maxRecDepth 20000 in
theorem ggX7_keyOf_X3_lockWith : GoodIn wsX7_keyOf wsX3_lockWith := goodIn_ca (goodIn_r _ [32, 33, 23, 13, 14, 15, 16, 17, 103, 104, 105, 106, 107, 108, 109, 110, 111, 112, 113, 114, 115, 116] (by decide +kernel) (by decide +kernel)) (goodIn_sub (fun _ h => List.mem_cons_of_mem _ (List.mem_append_right _ h)) (by decide +kernel))
set_option maxRecDepth 20000 in
theorem gX7_keyOf_X3_lockWith : GoodIn wsX7_keyOf (wsV RX7 122 RX3 yX3_lockWith wsX3_lockWith) := goodIn_app (goodIn_of _ (by decide +kernel)) ggX7_keyOf_X3_lockWith
set_option maxRecDepth 20000 in
theorem ggX7_keyOf_X6_findLevel : GoodIn wsX7_keyOf wsX6_findLevel := goodIn_ca (goodIn_r _ [38, 39, 40, 41, 37, 42, 43, 44, 45, 46, 13, 14, 15, 16, 17, 47, 30, 31, 32, 33, 23, 48, 49, 50, 51, 52, 53, 54, 55, 56, 57, 58, 59, 60, 61, 22, 62, 63, 64, 65, 66, 67, 68, 69, 70, 71, 72, 73, 74, 75, 76, 77, 78, 79, 80, 117, 118, 119, 103, 104, 105, 106, 107, 108, 109, 110, 111, 112, 113, 114, 115, 116] (by decide +kernel) (by decide +kernel)) (goodIn_sub (fun _ h => List.mem_cons_of_mem _ (List.mem_append_right _ h)) (by decide +kernel))
set_option maxRecDepth 20000 in
theorem gX7_keyOf_X6_findLevel : GoodIn wsX7_keyOf (wsV RX7 125 RX6 yX6_findLevel wsX6_findLevel) := goodIn_app (goodIn_of _ (by decide +kernel)) ggX7_keyOf_X6_findLevel
set_option maxRecDepth 20000 in
theorem ggX7_keyOf_X3_countLocksFor : GoodIn wsX7_keyOf wsX3_countLocksFor := goodIn_ca (goodIn_r _ [84, 68, 85, 58, 59, 15, 60, 61, 22, 62, 63, 23, 13, 14, 16, 17, 64, 65, 66, 67, 69, 70, 71, 72, 73, 74, 75, 103, 104, 105, 106, 107, 108, 109, 110, 111, 112, 113, 114, 115, 116] (by decide +kernel) (by decide +kernel)) (goodIn_sub (fun _ h => List.mem_cons_of_mem _ (List.mem_append_right _ h)) (by decide +kernel))
set_option maxRecDepth 20000 in
theorem gX7_keyOf_X3_countLocksFor : GoodIn wsX7_keyOf (wsV RX7 129 RX3 yX3_countLocksFor wsX3_countLocksFor) := goodIn_app (goodIn_of _ (by decide +kernel)) ggX7_keyOf_X3_countLocksFor
set_option maxRecDepth 20000 in
theorem ggX7_keyOf_X3_cutCostOf : GoodIn wsX7_keyOf wsX3_cutCostOf := goodIn_ca (goodIn_r _ [89, 90, 23, 13, 14, 15, 16, 17, 103, 104, 105, 106, 107, 108, 109, 110, 111, 112, 113, 114, 115, 116] (by decide +kernel) (by decide +kernel)) (goodIn_sub (fun _ h => List.mem_cons_of_mem _ (List.mem_append_right _ h)) (by decide +kernel))
set_option maxRecDepth 20000 in
theorem gX7_keyOf_X3_cutCostOf : GoodIn wsX7_keyOf (wsV RX7 132 RX3 yX3_cutCostOf wsX3_cutCostOf) := goodIn_app (goodIn_of _ (by decide +kernel)) ggX7_keyOf_X3_cutCostOf
theorem dX7_keyOf_0 : decode cX7_keyOf 0 = .ok (.aload_n 0, 1) := by decide +kernel
theorem dX7_keyOf_1 : decode cX7_keyOf 1 = .ok (.iload_n 1, 1) := by decide +kernel
theorem dX7_keyOf_2 : decode cX7_keyOf 2 = .ok (.invokevirtual 111, 3) := by decide +kernel
theorem dX7_keyOf_5 : decode cX7_keyOf 5 = .ok (.iload_n 2, 1) := by decide +kernel
theorem dX7_keyOf_6 : decode cX7_keyOf 6 = .ok (.tableswitch 96 0 5 #[38, 47, 56, 65, 78, 87], 38) := by decide +kernel
theorem dX7_keyOf_44 : decode cX7_keyOf 44 = .ok (.aload_n 0, 1) := by decide +kernel
theorem dX7_keyOf_45 : decode cX7_keyOf 45 = .ok (.getfield 10, 3) := by decide +kernel
theorem dX7_keyOf_48 : decode cX7_keyOf 48 = .ok (.iload_n 1, 1) := by decide +kernel
theorem dX7_keyOf_49 : decode cX7_keyOf 49 = .ok (.invokevirtual 115, 3) := by decide +kernel
theorem dX7_keyOf_52 : decode cX7_keyOf 52 = .ok (.ireturn, 1) := by decide +kernel
theorem dX7_keyOf_53 : decode cX7_keyOf 53 = .ok (.aload_n 0, 1) := by decide +kernel
theorem dX7_keyOf_54 : decode cX7_keyOf 54 = .ok (.getfield 10, 3) := by decide +kernel
theorem dX7_keyOf_57 : decode cX7_keyOf 57 = .ok (.iload_n 1, 1) := by decide +kernel
theorem dX7_keyOf_58 : decode cX7_keyOf 58 = .ok (.invokevirtual 119, 3) := by decide +kernel
theorem dX7_keyOf_61 : decode cX7_keyOf 61 = .ok (.ireturn, 1) := by decide +kernel
theorem dX7_keyOf_62 : decode cX7_keyOf 62 = .ok (.aload_n 0, 1) := by decide +kernel
theorem dX7_keyOf_63 : decode cX7_keyOf 63 = .ok (.getfield 10, 3) := by decide +kernel
theorem dX7_keyOf_66 : decode cX7_keyOf 66 = .ok (.iload_n 1, 1) := by decide +kernel
theorem dX7_keyOf_67 : decode cX7_keyOf 67 = .ok (.invokevirtual 122, 3) := by decide +kernel
theorem dX7_keyOf_70 : decode cX7_keyOf 70 = .ok (.ireturn, 1) := by decide +kernel
theorem dX7_keyOf_71 : decode cX7_keyOf 71 = .ok (.aload_n 0, 1) := by decide +kernel
theorem dX7_keyOf_72 : decode cX7_keyOf 72 = .ok (.getfield 35, 3) := by decide +kernel
theorem dX7_keyOf_75 : decode cX7_keyOf 75 = .ok (.aload_n 0, 1) := by decide +kernel
theorem dX7_keyOf_76 : decode cX7_keyOf 76 = .ok (.getfield 10, 3) := by decide +kernel
theorem dX7_keyOf_79 : decode cX7_keyOf 79 = .ok (.iload_n 1, 1) := by decide +kernel
theorem dX7_keyOf_80 : decode cX7_keyOf 80 = .ok (.invokevirtual 125, 3) := by decide +kernel
theorem dX7_keyOf_83 : decode cX7_keyOf 83 = .ok (.ireturn, 1) := by decide +kernel
theorem dX7_keyOf_84 : decode cX7_keyOf 84 = .ok (.aload_n 0, 1) := by decide +kernel
theorem dX7_keyOf_85 : decode cX7_keyOf 85 = .ok (.getfield 10, 3) := by decide +kernel
theorem dX7_keyOf_88 : decode cX7_keyOf 88 = .ok (.iload_n 1, 1) := by decide +kernel
theorem dX7_keyOf_89 : decode cX7_keyOf 89 = .ok (.invokevirtual 129, 3) := by decide +kernel
theorem dX7_keyOf_92 : decode cX7_keyOf 92 = .ok (.ireturn, 1) := by decide +kernel
theorem dX7_keyOf_93 : decode cX7_keyOf 93 = .ok (.aload_n 0, 1) := by decide +kernel
theorem dX7_keyOf_94 : decode cX7_keyOf 94 = .ok (.getfield 10, 3) := by decide +kernel
theorem dX7_keyOf_97 : decode cX7_keyOf 97 = .ok (.iload_n 1, 1) := by decide +kernel
theorem dX7_keyOf_98 : decode cX7_keyOf 98 = .ok (.invokevirtual 132, 3) := by decide +kernel
theorem dX7_keyOf_101 : decode cX7_keyOf 101 = .ok (.ireturn, 1) := by decide +kernel
theorem dX7_keyOf_102 : decode cX7_keyOf 102 = .ok (.new 135, 3) := by decide +kernel
theorem dX7_keyOf_105 : decode cX7_keyOf 105 = .ok (.dup, 1) := by decide +kernel
theorem dX7_keyOf_106 : decode cX7_keyOf 106 = .ok (.ldc 137, 2) := by decide +kernel
theorem dX7_keyOf_108 : decode cX7_keyOf 108 = .ok (.invokespecial 139, 3) := by decide +kernel
theorem dX7_keyOf_111 : decode cX7_keyOf 111 = .ok (.athrow, 1) := by decide +kernel
set_option maxRecDepth 20000 in
theorem ggX7_lockOf_X7_requireLock : GoodIn wsX7_lockOf wsX7_requireLock := goodIn_ca (goodIn_r _ [8, 9, 10, 3, 11, 12, 13, 14, 15, 16, 56, 57, 58, 59, 60, 61, 62, 63, 64, 65, 66, 67, 68, 69, 70, 71, 72, 73, 74, 75, 76, 77, 78, 79, 80, 81] (by decide +kernel) (by decide +kernel)) (goodIn_sub (fun _ h => List.mem_cons_of_mem _ (List.mem_append_left _ (List.mem_append_right _ h))) (by decide +kernel))
set_option maxRecDepth 20000 in
theorem gX7_lockOf_X7_requireLock : GoodIn wsX7_lockOf (wsV RX7 142 RX7 yX7_requireLock wsX7_requireLock) := goodIn_app (goodIn_of _ (by decide +kernel)) ggX7_lockOf_X7_requireLock
set_option maxRecDepth 20000 in
theorem ggX7_lockOf_X3_pinsOf : GoodIn wsX7_lockOf wsX3_pinsOf := goodIn_ca (goodIn_r _ [20, 21, 22, 12, 13, 14, 15, 16, 68, 69, 70, 71, 72, 73, 74, 75, 76, 77, 78, 79, 80, 81] (by decide +kernel) (by decide +kernel)) (goodIn_sub (fun _ h => List.mem_cons_of_mem _ (List.mem_append_right _ h)) (by decide +kernel))
set_option maxRecDepth 20000 in
theorem gX7_lockOf_X3_pinsOf : GoodIn wsX7_lockOf (wsV RX7 145 RX3 yX3_pinsOf wsX3_pinsOf) := goodIn_app (goodIn_of _ (by decide +kernel)) ggX7_lockOf_X3_pinsOf
set_option maxRecDepth 20000 in
theorem ggX7_lockOf_X3_keyIn : GoodIn wsX7_lockOf wsX3_keyIn := goodIn_ca (goodIn_r _ [26, 27, 22, 12, 13, 14, 15, 16, 68, 69, 70, 71, 72, 73, 74, 75, 76, 77, 78, 79, 80, 81] (by decide +kernel) (by decide +kernel)) (goodIn_sub (fun _ h => List.mem_cons_of_mem _ (List.mem_append_right _ h)) (by decide +kernel))
set_option maxRecDepth 20000 in
theorem gX7_lockOf_X3_keyIn : GoodIn wsX7_lockOf (wsV RX7 148 RX3 yX3_keyIn wsX3_keyIn) := goodIn_app (goodIn_of _ (by decide +kernel)) ggX7_lockOf_X3_keyIn
set_option maxRecDepth 20000 in
theorem ggX7_lockOf_X3_countKeysFor : GoodIn wsX7_lockOf wsX3_countKeysFor := goodIn_ca (goodIn_r _ [31, 32, 33, 34, 35, 14, 36, 21, 37, 38, 39, 40, 41, 42, 43, 22, 12, 13, 15, 16, 44, 45, 46, 47, 48, 49, 50, 68, 69, 70, 71, 72, 73, 74, 75, 76, 77, 78, 79, 80, 81] (by decide +kernel) (by decide +kernel)) (goodIn_sub (fun _ h => List.mem_cons_of_mem _ (List.mem_append_right _ h)) (by decide +kernel))
set_option maxRecDepth 20000 in
theorem gX7_lockOf_X3_countKeysFor : GoodIn wsX7_lockOf (wsV RX7 151 RX3 yX3_countKeysFor wsX3_countKeysFor) := goodIn_app (goodIn_of _ (by decide +kernel)) ggX7_lockOf_X3_countKeysFor
set_option maxRecDepth 20000 in
theorem ggX7_lockOf_X3_putCountOf : GoodIn wsX7_lockOf wsX3_putCountOf := goodIn_ca (goodIn_r _ [54, 55, 22, 12, 13, 14, 15, 16, 68, 69, 70, 71, 72, 73, 74, 75, 76, 77, 78, 79, 80, 81] (by decide +kernel) (by decide +kernel)) (goodIn_sub (fun _ h => List.mem_cons_of_mem _ (List.mem_append_right _ h)) (by decide +kernel))
set_option maxRecDepth 20000 in
theorem gX7_lockOf_X3_putCountOf : GoodIn wsX7_lockOf (wsV RX7 154 RX3 yX3_putCountOf wsX3_putCountOf) := goodIn_app (goodIn_of _ (by decide +kernel)) ggX7_lockOf_X3_putCountOf
theorem dX7_lockOf_0 : decode cX7_lockOf 0 = .ok (.aload_n 0, 1) := by decide +kernel
theorem dX7_lockOf_1 : decode cX7_lockOf 1 = .ok (.iload_n 1, 1) := by decide +kernel
theorem dX7_lockOf_2 : decode cX7_lockOf 2 = .ok (.invokevirtual 142, 3) := by decide +kernel
theorem dX7_lockOf_5 : decode cX7_lockOf 5 = .ok (.iload_n 2, 1) := by decide +kernel
theorem dX7_lockOf_6 : decode cX7_lockOf 6 = .ok (.tableswitch 66 0 3 #[30, 39, 48, 57], 30) := by decide +kernel
theorem dX7_lockOf_36 : decode cX7_lockOf 36 = .ok (.aload_n 0, 1) := by decide +kernel
theorem dX7_lockOf_37 : decode cX7_lockOf 37 = .ok (.getfield 10, 3) := by decide +kernel
theorem dX7_lockOf_40 : decode cX7_lockOf 40 = .ok (.iload_n 1, 1) := by decide +kernel
theorem dX7_lockOf_41 : decode cX7_lockOf 41 = .ok (.invokevirtual 145, 3) := by decide +kernel
theorem dX7_lockOf_44 : decode cX7_lockOf 44 = .ok (.ireturn, 1) := by decide +kernel
theorem dX7_lockOf_45 : decode cX7_lockOf 45 = .ok (.aload_n 0, 1) := by decide +kernel
theorem dX7_lockOf_46 : decode cX7_lockOf 46 = .ok (.getfield 10, 3) := by decide +kernel
theorem dX7_lockOf_49 : decode cX7_lockOf 49 = .ok (.iload_n 1, 1) := by decide +kernel
theorem dX7_lockOf_50 : decode cX7_lockOf 50 = .ok (.invokevirtual 148, 3) := by decide +kernel
theorem dX7_lockOf_53 : decode cX7_lockOf 53 = .ok (.ireturn, 1) := by decide +kernel
theorem dX7_lockOf_54 : decode cX7_lockOf 54 = .ok (.aload_n 0, 1) := by decide +kernel
theorem dX7_lockOf_55 : decode cX7_lockOf 55 = .ok (.getfield 10, 3) := by decide +kernel
theorem dX7_lockOf_58 : decode cX7_lockOf 58 = .ok (.iload_n 1, 1) := by decide +kernel
theorem dX7_lockOf_59 : decode cX7_lockOf 59 = .ok (.invokevirtual 151, 3) := by decide +kernel
theorem dX7_lockOf_62 : decode cX7_lockOf 62 = .ok (.ireturn, 1) := by decide +kernel
theorem dX7_lockOf_63 : decode cX7_lockOf 63 = .ok (.aload_n 0, 1) := by decide +kernel
theorem dX7_lockOf_64 : decode cX7_lockOf 64 = .ok (.getfield 10, 3) := by decide +kernel
theorem dX7_lockOf_67 : decode cX7_lockOf 67 = .ok (.iload_n 1, 1) := by decide +kernel
theorem dX7_lockOf_68 : decode cX7_lockOf 68 = .ok (.invokevirtual 154, 3) := by decide +kernel
theorem dX7_lockOf_71 : decode cX7_lockOf 71 = .ok (.ireturn, 1) := by decide +kernel
theorem dX7_lockOf_72 : decode cX7_lockOf 72 = .ok (.new 135, 3) := by decide +kernel
theorem dX7_lockOf_75 : decode cX7_lockOf 75 = .ok (.dup, 1) := by decide +kernel
theorem dX7_lockOf_76 : decode cX7_lockOf 76 = .ok (.ldc 157, 2) := by decide +kernel
theorem dX7_lockOf_78 : decode cX7_lockOf 78 = .ok (.invokespecial 139, 3) := by decide +kernel
theorem dX7_lockOf_81 : decode cX7_lockOf 81 = .ok (.athrow, 1) := by decide +kernel
set_option maxRecDepth 20000 in
theorem ggX7_fits_X7_requireKey : GoodIn wsX7_fits wsX7_requireKey := goodIn_ca (goodIn_r _ [6, 7, 8, 1, 9, 10, 11, 12, 13, 14, 41, 42, 43, 44, 45, 46, 47, 48, 49, 50, 51, 52, 53, 54, 55, 56, 57, 58, 59, 60, 61, 62, 63, 64, 65, 66] (by decide +kernel) (by decide +kernel)) (goodIn_sub (fun _ h => List.mem_cons_of_mem _ (List.mem_append_left _ (List.mem_append_right _ h))) (by decide +kernel))
set_option maxRecDepth 20000 in
theorem gX7_fits_X7_requireKey : GoodIn wsX7_fits (wsV RX7 111 RX7 yX7_requireKey wsX7_requireKey) := goodIn_app (goodIn_of _ (by decide +kernel)) ggX7_fits_X7_requireKey
set_option maxRecDepth 20000 in
theorem ggX7_fits_X7_requireLock : GoodIn wsX7_fits wsX7_requireLock := goodIn_ca (goodIn_r _ [18, 7, 8, 1, 19, 20, 21, 12, 22, 23, 41, 42, 43, 44, 45, 46, 47, 48, 49, 50, 51, 52, 53, 54, 55, 56, 57, 58, 59, 60, 61, 62, 63, 64, 65, 66] (by decide +kernel) (by decide +kernel)) (goodIn_sub (fun _ h => List.mem_cons_of_mem _ (List.mem_append_left _ (List.mem_append_right _ h))) (by decide +kernel))
set_option maxRecDepth 20000 in
theorem gX7_fits_X7_requireLock : GoodIn wsX7_fits (wsV RX7 142 RX7 yX7_requireLock wsX7_requireLock) := goodIn_app (goodIn_of _ (by decide +kernel)) ggX7_fits_X7_requireLock
set_option maxRecDepth 20000 in
theorem ggX7_fits_X3_isFit : GoodIn wsX7_fits wsX3_isFit := goodIn_ca (goodIn_r _ [27, 28, 29, 30, 31, 32, 10, 11, 12, 13, 14, 33, 20, 21, 22, 23, 34, 35, 36, 37, 38, 39, 40, 53, 54, 55, 56, 57, 58, 59, 60, 61, 62, 63, 64, 65, 66] (by decide +kernel) (by decide +kernel)) (goodIn_sub (fun _ h => List.mem_cons_of_mem _ (List.mem_append_right _ h)) (by decide +kernel))
set_option maxRecDepth 20000 in
theorem gX7_fits_X3_isFit : GoodIn wsX7_fits (wsV RX7 159 RX3 yX3_isFit wsX3_isFit) := goodIn_app (goodIn_of _ (by decide +kernel)) ggX7_fits_X3_isFit
theorem dX7_fits_0 : decode cX7_fits 0 = .ok (.aload_n 0, 1) := by decide +kernel
theorem dX7_fits_1 : decode cX7_fits 1 = .ok (.iload_n 1, 1) := by decide +kernel
theorem dX7_fits_2 : decode cX7_fits 2 = .ok (.invokevirtual 111, 3) := by decide +kernel
theorem dX7_fits_5 : decode cX7_fits 5 = .ok (.aload_n 0, 1) := by decide +kernel
theorem dX7_fits_6 : decode cX7_fits 6 = .ok (.iload_n 2, 1) := by decide +kernel
theorem dX7_fits_7 : decode cX7_fits 7 = .ok (.invokevirtual 142, 3) := by decide +kernel
theorem dX7_fits_10 : decode cX7_fits 10 = .ok (.aload_n 0, 1) := by decide +kernel
theorem dX7_fits_11 : decode cX7_fits 11 = .ok (.getfield 10, 3) := by decide +kernel
theorem dX7_fits_14 : decode cX7_fits 14 = .ok (.iload_n 1, 1) := by decide +kernel
theorem dX7_fits_15 : decode cX7_fits 15 = .ok (.iload_n 2, 1) := by decide +kernel
theorem dX7_fits_16 : decode cX7_fits 16 = .ok (.invokevirtual 159, 3) := by decide +kernel
theorem dX7_fits_19 : decode cX7_fits 19 = .ok (.ireturn, 1) := by decide +kernel
set_option maxRecDepth 20000 in
theorem ggX7_isBarred_X7_requireKey : GoodIn wsX7_isBarred wsX7_requireKey := goodIn_ca (goodIn_r _ [6, 7, 8, 1, 9, 10, 11, 12, 13, 14, 35, 36, 37, 38, 39, 40, 41, 42, 43, 44, 45, 46, 47, 48, 49, 50, 51, 52, 53, 54, 55, 56, 57, 58, 59, 60] (by decide +kernel) (by decide +kernel)) (goodIn_sub (fun _ h => List.mem_cons_of_mem _ (List.mem_append_left _ (List.mem_append_right _ h))) (by decide +kernel))
set_option maxRecDepth 20000 in
theorem gX7_isBarred_X7_requireKey : GoodIn wsX7_isBarred (wsV RX7 111 RX7 yX7_requireKey wsX7_requireKey) := goodIn_app (goodIn_of _ (by decide +kernel)) ggX7_isBarred_X7_requireKey
set_option maxRecDepth 20000 in
theorem ggX7_isBarred_X7_requireLock : GoodIn wsX7_isBarred wsX7_requireLock := goodIn_ca (goodIn_r _ [18, 7, 8, 1, 19, 20, 21, 12, 22, 23, 35, 36, 37, 38, 39, 40, 41, 42, 43, 44, 45, 46, 47, 48, 49, 50, 51, 52, 53, 54, 55, 56, 57, 58, 59, 60] (by decide +kernel) (by decide +kernel)) (goodIn_sub (fun _ h => List.mem_cons_of_mem _ (List.mem_append_left _ (List.mem_append_right _ h))) (by decide +kernel))
set_option maxRecDepth 20000 in
theorem gX7_isBarred_X7_requireLock : GoodIn wsX7_isBarred (wsV RX7 142 RX7 yX7_requireLock wsX7_requireLock) := goodIn_app (goodIn_of _ (by decide +kernel)) ggX7_isBarred_X7_requireLock
set_option maxRecDepth 20000 in
theorem ggX7_isBarred_X3_hasBar : GoodIn wsX7_isBarred wsX3_hasBar := goodIn_ca (goodIn_r _ [27, 28, 20, 21, 12, 22, 23, 29, 30, 31, 32, 33, 34, 10, 11, 13, 14, 47, 48, 49, 50, 51, 52, 53, 54, 55, 56, 57, 58, 59, 60] (by decide +kernel) (by decide +kernel)) (goodIn_sub (fun _ h => List.mem_cons_of_mem _ (List.mem_append_right _ h)) (by decide +kernel))
set_option maxRecDepth 20000 in
theorem gX7_isBarred_X3_hasBar : GoodIn wsX7_isBarred (wsV RX7 163 RX3 yX3_hasBar wsX3_hasBar) := goodIn_app (goodIn_of _ (by decide +kernel)) ggX7_isBarred_X3_hasBar
theorem dX7_isBarred_0 : decode cX7_isBarred 0 = .ok (.aload_n 0, 1) := by decide +kernel
theorem dX7_isBarred_1 : decode cX7_isBarred 1 = .ok (.iload_n 1, 1) := by decide +kernel
theorem dX7_isBarred_2 : decode cX7_isBarred 2 = .ok (.invokevirtual 111, 3) := by decide +kernel
theorem dX7_isBarred_5 : decode cX7_isBarred 5 = .ok (.aload_n 0, 1) := by decide +kernel
theorem dX7_isBarred_6 : decode cX7_isBarred 6 = .ok (.iload_n 2, 1) := by decide +kernel
theorem dX7_isBarred_7 : decode cX7_isBarred 7 = .ok (.invokevirtual 142, 3) := by decide +kernel
theorem dX7_isBarred_10 : decode cX7_isBarred 10 = .ok (.aload_n 0, 1) := by decide +kernel
theorem dX7_isBarred_11 : decode cX7_isBarred 11 = .ok (.getfield 10, 3) := by decide +kernel
theorem dX7_isBarred_14 : decode cX7_isBarred 14 = .ok (.iload_n 1, 1) := by decide +kernel
theorem dX7_isBarred_15 : decode cX7_isBarred 15 = .ok (.iload_n 2, 1) := by decide +kernel
theorem dX7_isBarred_16 : decode cX7_isBarred 16 = .ok (.invokevirtual 163, 3) := by decide +kernel
theorem dX7_isBarred_19 : decode cX7_isBarred 19 = .ok (.ireturn, 1) := by decide +kernel
set_option maxRecDepth 20000 in
theorem ggX7_costFor_X7_requireKey : GoodIn wsX7_costFor wsX7_requireKey := goodIn_ca (goodIn_r _ [6, 7, 8, 1, 9, 10, 11, 12, 13, 14, 56, 57, 58, 59, 60, 61, 62, 63, 64, 65, 66, 67, 68, 69, 70, 71, 72, 73, 74, 75, 76, 77, 78, 79, 80, 81] (by decide +kernel) (by decide +kernel)) (goodIn_sub (fun _ h => List.mem_cons_of_mem _ (List.mem_append_left _ (List.mem_append_right _ h))) (by decide +kernel))
set_option maxRecDepth 20000 in
theorem gX7_costFor_X7_requireKey : GoodIn wsX7_costFor (wsV RX7 111 RX7 yX7_requireKey wsX7_requireKey) := goodIn_app (goodIn_of _ (by decide +kernel)) ggX7_costFor_X7_requireKey
set_option maxRecDepth 20000 in
theorem ggX7_costFor_X7_requireLock : GoodIn wsX7_costFor wsX7_requireLock := goodIn_ca (goodIn_r _ [18, 7, 8, 1, 19, 20, 21, 12, 22, 23, 56, 57, 58, 59, 60, 61, 62, 63, 64, 65, 66, 67, 68, 69, 70, 71, 72, 73, 74, 75, 76, 77, 78, 79, 80, 81] (by decide +kernel) (by decide +kernel)) (goodIn_sub (fun _ h => List.mem_cons_of_mem _ (List.mem_append_left _ (List.mem_append_right _ h))) (by decide +kernel))
set_option maxRecDepth 20000 in
theorem gX7_costFor_X7_requireLock : GoodIn wsX7_costFor (wsV RX7 142 RX7 yX7_requireLock wsX7_requireLock) := goodIn_app (goodIn_of _ (by decide +kernel)) ggX7_costFor_X7_requireLock
set_option maxRecDepth 20000 in
theorem ggX7_costFor_X3_costToFit : GoodIn wsX7_costFor wsX3_costToFit := goodIn_ca (goodIn_r _ [27, 28, 29, 30, 31, 32, 33, 34, 35, 12, 36, 37, 38, 39, 40, 41, 42, 20, 21, 22, 23, 43, 44, 45, 46, 47, 48, 10, 11, 13, 14, 49, 50, 51, 52, 53, 54, 55, 68, 69, 70, 71, 72, 73, 74, 75, 76, 77, 78, 79, 80, 81] (by decide +kernel) (by decide +kernel)) (goodIn_sub (fun _ h => List.mem_cons_of_mem _ (List.mem_append_right _ h)) (by decide +kernel))
set_option maxRecDepth 20000 in
theorem gX7_costFor_X3_costToFit : GoodIn wsX7_costFor (wsV RX7 166 RX3 yX3_costToFit wsX3_costToFit) := goodIn_app (goodIn_of _ (by decide +kernel)) ggX7_costFor_X3_costToFit
theorem dX7_costFor_0 : decode cX7_costFor 0 = .ok (.aload_n 0, 1) := by decide +kernel
theorem dX7_costFor_1 : decode cX7_costFor 1 = .ok (.iload_n 1, 1) := by decide +kernel
theorem dX7_costFor_2 : decode cX7_costFor 2 = .ok (.invokevirtual 111, 3) := by decide +kernel
theorem dX7_costFor_5 : decode cX7_costFor 5 = .ok (.aload_n 0, 1) := by decide +kernel
theorem dX7_costFor_6 : decode cX7_costFor 6 = .ok (.iload_n 2, 1) := by decide +kernel
theorem dX7_costFor_7 : decode cX7_costFor 7 = .ok (.invokevirtual 142, 3) := by decide +kernel
theorem dX7_costFor_10 : decode cX7_costFor 10 = .ok (.aload_n 0, 1) := by decide +kernel
theorem dX7_costFor_11 : decode cX7_costFor 11 = .ok (.getfield 10, 3) := by decide +kernel
theorem dX7_costFor_14 : decode cX7_costFor 14 = .ok (.iload_n 1, 1) := by decide +kernel
theorem dX7_costFor_15 : decode cX7_costFor 15 = .ok (.iload_n 2, 1) := by decide +kernel
theorem dX7_costFor_16 : decode cX7_costFor 16 = .ok (.invokevirtual 166, 3) := by decide +kernel
theorem dX7_costFor_19 : decode cX7_costFor 19 = .ok (.ireturn, 1) := by decide +kernel
set_option maxRecDepth 20000 in
theorem ggX7_cheapest_X7_requireLock : GoodIn wsX7_cheapest wsX7_requireLock := goodIn_ca (goodIn_r _ [8, 9, 10, 3, 11, 12, 13, 14, 15, 16, 70, 71, 72, 73, 74, 75, 76, 77, 78, 79, 80, 81, 82, 83, 84, 85, 86, 87, 88, 89, 90, 91, 92, 93, 94, 95] (by decide +kernel) (by decide +kernel)) (goodIn_sub (fun _ h => List.mem_cons_of_mem _ (List.mem_append_left _ (List.mem_append_right _ h))) (by decide +kernel))
set_option maxRecDepth 20000 in
theorem gX7_cheapest_X7_requireLock : GoodIn wsX7_cheapest (wsV RX7 142 RX7 yX7_requireLock wsX7_requireLock) := goodIn_app (goodIn_of _ (by decide +kernel)) ggX7_cheapest_X7_requireLock
