set_option maxRecDepth 20000 in
theorem ggX7_cheapest_X3_keyByCost : GoodIn wsX7_cheapest wsX3_keyByCost := goodIn_ca (goodIn_r _ [20, 21, 22, 23, 24, 14, 25, 26, 12, 13, 15, 16, 27, 28, 29, 30, 31, 32, 33, 34, 35, 36, 37, 38, 39, 40, 41, 42, 43, 44, 45, 46, 47, 48, 49, 50, 51, 52, 53, 54, 55, 56, 57, 58, 59, 60, 61, 62, 63, 64, 65, 66, 67, 68, 69, 82, 83, 84, 85, 86, 87, 88, 89, 90, 91, 92, 93, 94, 95] (by decide +kernel) (by decide +kernel)) (goodIn_sub (fun _ h => List.mem_cons_of_mem _ (List.mem_append_right _ h)) (by decide +kernel))
set_option maxRecDepth 20000 in
theorem gX7_cheapest_X3_keyByCost : GoodIn wsX7_cheapest (wsV RX7 169 RX3 yX3_keyByCost wsX3_keyByCost) := goodIn_app (goodIn_of _ (by decide +kernel)) ggX7_cheapest_X3_keyByCost
theorem dX7_cheapest_0 : decode cX7_cheapest 0 = .ok (.aload_n 0, 1) := by decide +kernel
theorem dX7_cheapest_1 : decode cX7_cheapest 1 = .ok (.iload_n 1, 1) := by decide +kernel
theorem dX7_cheapest_2 : decode cX7_cheapest 2 = .ok (.invokevirtual 142, 3) := by decide +kernel
theorem dX7_cheapest_5 : decode cX7_cheapest 5 = .ok (.aload_n 0, 1) := by decide +kernel
theorem dX7_cheapest_6 : decode cX7_cheapest 6 = .ok (.getfield 10, 3) := by decide +kernel
theorem dX7_cheapest_9 : decode cX7_cheapest 9 = .ok (.iload_n 1, 1) := by decide +kernel
theorem dX7_cheapest_10 : decode cX7_cheapest 10 = .ok (.iload_n 2, 1) := by decide +kernel
theorem dX7_cheapest_11 : decode cX7_cheapest 11 = .ok (.invokevirtual 169, 3) := by decide +kernel
theorem dX7_cheapest_14 : decode cX7_cheapest 14 = .ok (.istore_n 3, 1) := by decide +kernel
theorem dX7_cheapest_15 : decode cX7_cheapest 15 = .ok (.iload_n 3, 1) := by decide +kernel
theorem dX7_cheapest_16 : decode cX7_cheapest 16 = .ok (.iconst (-1), 1) := by decide +kernel
theorem dX7_cheapest_17 : decode cX7_cheapest 17 = .ok (.if_icmp .ne 13, 3) := by decide +kernel
theorem dX7_cheapest_20 : decode cX7_cheapest 20 = .ok (.new 172, 3) := by decide +kernel
theorem dX7_cheapest_23 : decode cX7_cheapest 23 = .ok (.dup, 1) := by decide +kernel
theorem dX7_cheapest_24 : decode cX7_cheapest 24 = .ok (.ldc 174, 2) := by decide +kernel
theorem dX7_cheapest_26 : decode cX7_cheapest 26 = .ok (.invokespecial 176, 3) := by decide +kernel
theorem dX7_cheapest_29 : decode cX7_cheapest 29 = .ok (.athrow, 1) := by decide +kernel
theorem dX7_cheapest_30 : decode cX7_cheapest 30 = .ok (.iload_n 3, 1) := by decide +kernel
theorem dX7_cheapest_31 : decode cX7_cheapest 31 = .ok (.ireturn, 1) := by decide +kernel
set_option maxRecDepth 20000 in
theorem ggX7_length_X6_findShortest : GoodIn wsX7_length wsX6_findShortest := goodIn_ca (goodIn_r _ [9, 10, 11, 12, 13, 8, 14, 15, 16, 17, 18, 19, 20, 21, 22, 23, 24, 25, 26, 27, 28, 29, 30, 31, 32, 33, 34, 35, 36, 37, 38, 39, 40, 41, 42, 43, 44, 45, 46, 47, 48, 49, 50, 51, 52, 53, 54, 55, 56, 57, 58, 59, 60, 61, 62, 75, 76, 77, 78, 79, 80, 81, 82, 83, 84, 85, 86, 87, 88, 89, 90, 91] (by decide +kernel) (by decide +kernel)) (goodIn_sub (fun _ h => List.mem_cons_of_mem _ (List.mem_append_right _ h)) (by decide +kernel))
set_option maxRecDepth 20000 in
theorem gX7_length_X6_findShortest : GoodIn wsX7_length (wsV RX7 177 RX6 yX6_findShortest wsX6_findShortest) := goodIn_app (goodIn_of _ (by decide +kernel)) ggX7_length_X6_findShortest
theorem dX7_length_0 : decode cX7_length 0 = .ok (.aload_n 0, 1) := by decide +kernel
theorem dX7_length_1 : decode cX7_length 1 = .ok (.getfield 35, 3) := by decide +kernel
theorem dX7_length_4 : decode cX7_length 4 = .ok (.aload_n 0, 1) := by decide +kernel
theorem dX7_length_5 : decode cX7_length 5 = .ok (.getfield 10, 3) := by decide +kernel
theorem dX7_length_8 : decode cX7_length 8 = .ok (.invokevirtual 177, 3) := by decide +kernel
theorem dX7_length_11 : decode cX7_length 11 = .ok (.istore_n 1, 1) := by decide +kernel
theorem dX7_length_12 : decode cX7_length 12 = .ok (.iload_n 1, 1) := by decide +kernel
theorem dX7_length_13 : decode cX7_length 13 = .ok (.iconst (-1), 1) := by decide +kernel
theorem dX7_length_14 : decode cX7_length 14 = .ok (.if_icmp .ne 13, 3) := by decide +kernel
theorem dX7_length_17 : decode cX7_length 17 = .ok (.new 172, 3) := by decide +kernel
theorem dX7_length_20 : decode cX7_length 20 = .ok (.dup, 1) := by decide +kernel
theorem dX7_length_21 : decode cX7_length 21 = .ok (.ldc 181, 2) := by decide +kernel
theorem dX7_length_23 : decode cX7_length 23 = .ok (.invokespecial 176, 3) := by decide +kernel
theorem dX7_length_26 : decode cX7_length 26 = .ok (.athrow, 1) := by decide +kernel
theorem dX7_length_27 : decode cX7_length 27 = .ok (.iload_n 1, 1) := by decide +kernel
theorem dX7_length_28 : decode cX7_length 28 = .ok (.ireturn, 1) := by decide +kernel
set_option maxRecDepth 20000 in
theorem ggX7_adds_X3_copyFrom : GoodIn wsX7_adds wsX3_copyFrom := goodIn_r _ [8, 9, 10, 11, 12, 13, 14, 15, 16, 17, 18, 19, 20, 21, 22, 23, 24, 25, 26, 102, 103, 104, 105, 106, 107, 108, 109, 110, 111, 112, 113, 114, 115] (by decide +kernel) (by decide +kernel)
set_option maxRecDepth 20000 in
theorem gX7_adds_X3_copyFrom : GoodIn wsX7_adds (wsV RX7 75 RX3 yX3_copyFrom wsX3_copyFrom) := goodIn_app (goodIn_of _ (by decide +kernel)) ggX7_adds_X3_copyFrom
set_option maxRecDepth 20000 in
theorem ggX7_adds_X6_run : GoodIn wsX7_adds wsX6_run := goodIn_ca (goodIn_r _ [31, 32, 33, 34, 35, 36, 37, 38, 39, 30, 40, 41, 42, 43, 44, 7, 45, 21, 46, 47, 48, 49, 17, 50, 51, 52, 53, 54, 55, 56, 57, 58, 59, 60, 61, 62, 63, 18, 9, 23, 15, 64, 65, 66, 67, 22, 68, 69, 70, 71, 72, 73, 74, 75, 76, 77, 78, 19, 79, 80, 81, 82, 83, 84, 85, 86, 87, 88, 89, 20, 116, 117, 118, 102, 103, 104, 105, 106, 107, 108, 109, 110, 111, 112, 113, 114, 115] (by decide +kernel) (by decide +kernel)) (goodIn_sub (fun _ h => List.mem_cons_of_mem _ (List.mem_append_right _ h)) (by decide +kernel))
set_option maxRecDepth 20000 in
theorem gX7_adds_X6_run : GoodIn wsX7_adds (wsV RX7 183 RX6 yX6_run wsX6_run) := goodIn_app (goodIn_of _ (by decide +kernel)) ggX7_adds_X6_run
theorem dX7_adds_0 : decode cX7_adds 0 = .ok (.aload_n 0, 1) := by decide +kernel
theorem dX7_adds_1 : decode cX7_adds 1 = .ok (.getfield 22, 3) := by decide +kernel
theorem dX7_adds_4 : decode cX7_adds 4 = .ok (.aload_n 0, 1) := by decide +kernel
theorem dX7_adds_5 : decode cX7_adds 5 = .ok (.getfield 10, 3) := by decide +kernel
theorem dX7_adds_8 : decode cX7_adds 8 = .ok (.invokevirtual 75, 3) := by decide +kernel
theorem dX7_adds_11 : decode cX7_adds 11 = .ok (.aload_n 0, 1) := by decide +kernel
theorem dX7_adds_12 : decode cX7_adds 12 = .ok (.getfield 35, 3) := by decide +kernel
theorem dX7_adds_15 : decode cX7_adds 15 = .ok (.aload_n 0, 1) := by decide +kernel
theorem dX7_adds_16 : decode cX7_adds 16 = .ok (.getfield 22, 3) := by decide +kernel
theorem dX7_adds_19 : decode cX7_adds 19 = .ok (.invokevirtual 183, 3) := by decide +kernel
theorem dX7_adds_22 : decode cX7_adds 22 = .ok (.ireturn, 1) := by decide +kernel
set_option maxRecDepth 20000 in
theorem ggX7_waves_X3_copyFrom : GoodIn wsX7_waves wsX3_copyFrom := goodIn_r _ [8, 9, 10, 11, 12, 13, 14, 15, 16, 17, 18, 19, 20, 21, 22, 23, 24, 25, 26, 106, 107, 108, 109, 110, 111, 112, 113, 114, 115, 116, 117, 118, 119] (by decide +kernel) (by decide +kernel)
set_option maxRecDepth 20000 in
theorem gX7_waves_X3_copyFrom : GoodIn wsX7_waves (wsV RX7 75 RX3 yX3_copyFrom wsX3_copyFrom) := goodIn_app (goodIn_of _ (by decide +kernel)) ggX7_waves_X3_copyFrom
set_option maxRecDepth 20000 in
theorem ggX7_waves_X6_runToEnd : GoodIn wsX7_waves wsX6_runToEnd := goodIn_ca (goodIn_r _ [31, 32, 33, 34, 30, 35, 36, 37, 38, 39, 40, 41, 42, 43, 44, 45, 46, 47, 48, 7, 49, 21, 50, 51, 52, 53, 17, 54, 55, 56, 57, 58, 59, 60, 61, 62, 63, 64, 65, 66, 67, 18, 9, 23, 15, 68, 69, 70, 71, 22, 72, 73, 74, 75, 76, 77, 78, 79, 80, 81, 82, 19, 83, 84, 85, 86, 87, 88, 89, 90, 91, 92, 93, 20, 120, 121, 122, 106, 107, 108, 109, 110, 111, 112, 113, 114, 115, 116, 117, 118, 119] (by decide +kernel) (by decide +kernel)) (goodIn_sub (fun _ h => List.mem_cons_of_mem _ (List.mem_append_right _ h)) (by decide +kernel))
set_option maxRecDepth 20000 in
theorem gX7_waves_X6_runToEnd : GoodIn wsX7_waves (wsV RX7 186 RX6 yX6_runToEnd wsX6_runToEnd) := goodIn_app (goodIn_of _ (by decide +kernel)) ggX7_waves_X6_runToEnd
theorem dX7_waves_0 : decode cX7_waves 0 = .ok (.aload_n 0, 1) := by decide +kernel
theorem dX7_waves_1 : decode cX7_waves 1 = .ok (.getfield 22, 3) := by decide +kernel
theorem dX7_waves_4 : decode cX7_waves 4 = .ok (.aload_n 0, 1) := by decide +kernel
theorem dX7_waves_5 : decode cX7_waves 5 = .ok (.getfield 10, 3) := by decide +kernel
theorem dX7_waves_8 : decode cX7_waves 8 = .ok (.invokevirtual 75, 3) := by decide +kernel
theorem dX7_waves_11 : decode cX7_waves 11 = .ok (.aload_n 0, 1) := by decide +kernel
theorem dX7_waves_12 : decode cX7_waves 12 = .ok (.getfield 35, 3) := by decide +kernel
theorem dX7_waves_15 : decode cX7_waves 15 = .ok (.aload_n 0, 1) := by decide +kernel
theorem dX7_waves_16 : decode cX7_waves 16 = .ok (.getfield 22, 3) := by decide +kernel
theorem dX7_waves_19 : decode cX7_waves 19 = .ok (.invokevirtual 186, 3) := by decide +kernel
theorem dX7_waves_22 : decode cX7_waves 22 = .ok (.ireturn, 1) := by decide +kernel
set_option maxRecDepth 20000 in
theorem ggX7_most_X3_copyFrom : GoodIn wsX7_most wsX3_copyFrom := goodIn_r _ [8, 9, 10, 11, 12, 13, 14, 15, 16, 17, 18, 19, 20, 21, 22, 23, 24, 25, 26, 111, 112, 113, 114, 115, 116, 117, 118, 119, 120, 121, 122, 123, 124] (by decide +kernel) (by decide +kernel)
set_option maxRecDepth 20000 in
theorem gX7_most_X3_copyFrom : GoodIn wsX7_most (wsV RX7 75 RX3 yX3_copyFrom wsX3_copyFrom) := goodIn_app (goodIn_of _ (by decide +kernel)) ggX7_most_X3_copyFrom
set_option maxRecDepth 20000 in
theorem ggX7_most_X6_runToEnd : GoodIn wsX7_most wsX6_runToEnd := goodIn_ca (goodIn_r _ [31, 32, 33, 34, 30, 35, 36, 37, 38, 39, 40, 41, 42, 43, 44, 45, 46, 47, 48, 7, 49, 21, 50, 51, 52, 53, 17, 54, 55, 56, 57, 58, 59, 60, 61, 62, 63, 64, 65, 66, 67, 18, 9, 23, 15, 68, 69, 70, 71, 22, 72, 73, 74, 75, 76, 77, 78, 79, 80, 81, 82, 19, 83, 84, 85, 86, 87, 88, 89, 90, 91, 92, 93, 20, 125, 126, 127, 111, 112, 113, 114, 115, 116, 117, 118, 119, 120, 121, 122, 123, 124] (by decide +kernel) (by decide +kernel)) (goodIn_sub (fun _ h => List.mem_cons_of_mem _ (List.mem_append_right _ h)) (by decide +kernel))
set_option maxRecDepth 20000 in
theorem gX7_most_X6_runToEnd : GoodIn wsX7_most (wsV RX7 186 RX6 yX6_runToEnd wsX6_runToEnd) := goodIn_app (goodIn_of _ (by decide +kernel)) ggX7_most_X6_runToEnd
set_option maxRecDepth 20000 in
theorem ggX7_most_X3_countOpen : GoodIn wsX7_most wsX3_countOpen := goodIn_ca (goodIn_r _ [97, 22, 98, 80, 81, 7, 82, 19, 68, 69, 70, 71, 111, 112, 113, 114, 115, 116, 117, 118, 119, 120, 121, 122, 123, 124] (by decide +kernel) (by decide +kernel)) (goodIn_sub (fun _ h => List.mem_cons_of_mem _ (List.mem_append_right _ h)) (by decide +kernel))
set_option maxRecDepth 20000 in
theorem gX7_most_X3_countOpen : GoodIn wsX7_most (wsV RX7 189 RX3 yX3_countOpen wsX3_countOpen) := goodIn_app (goodIn_of _ (by decide +kernel)) ggX7_most_X3_countOpen
theorem dX7_most_0 : decode cX7_most 0 = .ok (.aload_n 0, 1) := by decide +kernel
theorem dX7_most_1 : decode cX7_most 1 = .ok (.getfield 22, 3) := by decide +kernel
theorem dX7_most_4 : decode cX7_most 4 = .ok (.aload_n 0, 1) := by decide +kernel
theorem dX7_most_5 : decode cX7_most 5 = .ok (.getfield 10, 3) := by decide +kernel
theorem dX7_most_8 : decode cX7_most 8 = .ok (.invokevirtual 75, 3) := by decide +kernel
theorem dX7_most_11 : decode cX7_most 11 = .ok (.aload_n 0, 1) := by decide +kernel
theorem dX7_most_12 : decode cX7_most 12 = .ok (.getfield 35, 3) := by decide +kernel
theorem dX7_most_15 : decode cX7_most 15 = .ok (.aload_n 0, 1) := by decide +kernel
theorem dX7_most_16 : decode cX7_most 16 = .ok (.getfield 22, 3) := by decide +kernel
theorem dX7_most_19 : decode cX7_most 19 = .ok (.invokevirtual 186, 3) := by decide +kernel
theorem dX7_most_22 : decode cX7_most 22 = .ok (.pop, 1) := by decide +kernel
theorem dX7_most_23 : decode cX7_most 23 = .ok (.aload_n 0, 1) := by decide +kernel
theorem dX7_most_24 : decode cX7_most 24 = .ok (.getfield 22, 3) := by decide +kernel
theorem dX7_most_27 : decode cX7_most 27 = .ok (.invokevirtual 189, 3) := by decide +kernel
theorem dX7_most_30 : decode cX7_most 30 = .ok (.ireturn, 1) := by decide +kernel
set_option maxRecDepth 20000 in
theorem ggX7_mostAgain_X4_countMostWithout : GoodIn wsX7_mostAgain wsX4_countMostWithout := goodIn_ca (goodIn_r _ [7, 8, 9, 10, 11, 12, 6, 13, 14, 15, 16, 17, 18, 19, 20, 21, 22, 23, 24, 25, 26, 27, 28, 29, 30, 31, 32, 33, 34, 35, 36, 37, 38, 39, 40, 41, 42, 43, 44, 57, 58, 59, 60, 61, 62, 63, 64, 65, 66, 67, 68, 69, 70, 71, 72] (by decide +kernel) (by decide +kernel)) (goodIn_sub (fun _ h => List.mem_cons_of_mem _ (List.mem_append_right _ h)) (by decide +kernel))
set_option maxRecDepth 20000 in
theorem gX7_mostAgain_X4_countMostWithout : GoodIn wsX7_mostAgain (wsV RX7 193 RX4 yX4_countMostWithout wsX4_countMostWithout) := goodIn_app (goodIn_of _ (by decide +kernel)) ggX7_mostAgain_X4_countMostWithout
theorem dX7_mostAgain_0 : decode cX7_mostAgain 0 = .ok (.aload_n 0, 1) := by decide +kernel
theorem dX7_mostAgain_1 : decode cX7_mostAgain 1 = .ok (.getfield 42, 3) := by decide +kernel
theorem dX7_mostAgain_4 : decode cX7_mostAgain 4 = .ok (.aload_n 0, 1) := by decide +kernel
theorem dX7_mostAgain_5 : decode cX7_mostAgain 5 = .ok (.getfield 10, 3) := by decide +kernel
theorem dX7_mostAgain_8 : decode cX7_mostAgain 8 = .ok (.iconst (-1), 1) := by decide +kernel
theorem dX7_mostAgain_9 : decode cX7_mostAgain 9 = .ok (.invokevirtual 193, 3) := by decide +kernel
theorem dX7_mostAgain_12 : decode cX7_mostAgain 12 = .ok (.ireturn, 1) := by decide +kernel
set_option maxRecDepth 20000 in
theorem ggX7_cover_X3_copyFrom : GoodIn wsX7_cover wsX3_copyFrom := goodIn_r _ [8, 9, 10, 11, 12, 13, 14, 15, 16, 17, 18, 19, 20, 21, 22, 23, 24, 25, 26, 118, 119, 120, 121, 122, 123, 124, 125, 126, 127, 128, 129, 130, 131] (by decide +kernel) (by decide +kernel)
set_option maxRecDepth 20000 in
theorem gX7_cover_X3_copyFrom : GoodIn wsX7_cover (wsV RX7 75 RX3 yX3_copyFrom wsX3_copyFrom) := goodIn_app (goodIn_of _ (by decide +kernel)) ggX7_cover_X3_copyFrom
set_option maxRecDepth 20000 in
theorem ggX7_cover_X6_runToEnd : GoodIn wsX7_cover wsX6_runToEnd := goodIn_ca (goodIn_r _ [31, 32, 33, 34, 30, 35, 36, 37, 38, 39, 40, 41, 42, 43, 44, 45, 46, 47, 48, 7, 49, 21, 50, 51, 52, 53, 17, 54, 55, 56, 57, 58, 59, 60, 61, 62, 63, 64, 65, 66, 67, 18, 9, 23, 15, 68, 69, 70, 71, 22, 72, 73, 74, 75, 76, 77, 78, 79, 80, 81, 82, 19, 83, 84, 85, 86, 87, 88, 89, 90, 91, 92, 93, 20, 132, 133, 134, 118, 119, 120, 121, 122, 123, 124, 125, 126, 127, 128, 129, 130, 131] (by decide +kernel) (by decide +kernel)) (goodIn_sub (fun _ h => List.mem_cons_of_mem _ (List.mem_append_right _ h)) (by decide +kernel))
set_option maxRecDepth 20000 in
theorem gX7_cover_X6_runToEnd : GoodIn wsX7_cover (wsV RX7 186 RX6 yX6_runToEnd wsX6_runToEnd) := goodIn_app (goodIn_of _ (by decide +kernel)) ggX7_cover_X6_runToEnd
set_option maxRecDepth 20000 in
theorem ggX7_cover_X6_findReachedLocks : GoodIn wsX7_cover wsX6_findReachedLocks := goodIn_ca (goodIn_r _ [97, 63, 41, 42, 43, 30, 44, 45, 36, 38, 46, 47, 48, 7, 49, 21, 50, 51, 52, 53, 17, 54, 55, 56, 57, 58, 59, 60, 61, 62, 64, 65, 66, 67, 18, 9, 23, 15, 68, 69, 70, 71, 22, 72, 73, 74, 75, 76, 77, 78, 79, 80, 81, 82, 19, 98, 99, 100, 101, 118, 119, 120, 121, 122, 123, 124, 125, 126, 127, 128, 129, 130, 131, 132, 133, 134] (by decide +kernel) (by decide +kernel)) (goodIn_sub (fun _ h => List.mem_cons_of_mem _ (List.mem_append_right _ h)) (by decide +kernel))
set_option maxRecDepth 20000 in
theorem gX7_cover_X6_findReachedLocks : GoodIn wsX7_cover (wsV RX7 196 RX6 yX6_findReachedLocks wsX6_findReachedLocks) := goodIn_app (goodIn_of _ (by decide +kernel)) ggX7_cover_X6_findReachedLocks
set_option maxRecDepth 20000 in
theorem ggX7_cover_X6_findUnreachedKeys : GoodIn wsX7_cover wsX6_findUnreachedKeys := goodIn_ca (goodIn_r _ [105, 38, 41, 42, 43, 30, 44, 45, 36, 46, 47, 48, 7, 49, 21, 50, 51, 52, 53, 17, 54, 55, 56, 57, 58, 59, 60, 61, 62, 63, 64, 65, 66, 67, 18, 9, 23, 15, 68, 69, 70, 71, 22, 72, 73, 74, 75, 76, 77, 78, 79, 80, 81, 82, 19, 118, 119, 120, 121, 122, 123, 124, 125, 126, 127, 128, 129, 130, 131, 132, 133, 134] (by decide +kernel) (by decide +kernel)) (goodIn_sub (fun _ h => List.mem_cons_of_mem _ (List.mem_append_right _ h)) (by decide +kernel))
set_option maxRecDepth 20000 in
theorem gX7_cover_X6_findUnreachedKeys : GoodIn wsX7_cover (wsV RX7 199 RX6 yX6_findUnreachedKeys wsX6_findUnreachedKeys) := goodIn_app (goodIn_of _ (by decide +kernel)) ggX7_cover_X6_findUnreachedKeys
theorem dX7_cover_0 : decode cX7_cover 0 = .ok (.aload_n 0, 1) := by decide +kernel
theorem dX7_cover_1 : decode cX7_cover 1 = .ok (.getfield 22, 3) := by decide +kernel
theorem dX7_cover_4 : decode cX7_cover 4 = .ok (.aload_n 0, 1) := by decide +kernel
theorem dX7_cover_5 : decode cX7_cover 5 = .ok (.getfield 10, 3) := by decide +kernel
theorem dX7_cover_8 : decode cX7_cover 8 = .ok (.invokevirtual 75, 3) := by decide +kernel
theorem dX7_cover_11 : decode cX7_cover 11 = .ok (.aload_n 0, 1) := by decide +kernel
theorem dX7_cover_12 : decode cX7_cover 12 = .ok (.getfield 35, 3) := by decide +kernel
theorem dX7_cover_15 : decode cX7_cover 15 = .ok (.aload_n 0, 1) := by decide +kernel
theorem dX7_cover_16 : decode cX7_cover 16 = .ok (.getfield 22, 3) := by decide +kernel
theorem dX7_cover_19 : decode cX7_cover 19 = .ok (.invokevirtual 186, 3) := by decide +kernel
theorem dX7_cover_22 : decode cX7_cover 22 = .ok (.pop, 1) := by decide +kernel
theorem dX7_cover_23 : decode cX7_cover 23 = .ok (.iload_n 1, 1) := by decide +kernel
theorem dX7_cover_24 : decode cX7_cover 24 = .ok (.ifCond .eq 17, 3) := by decide +kernel
theorem dX7_cover_27 : decode cX7_cover 27 = .ok (.aload_n 0, 1) := by decide +kernel
theorem dX7_cover_28 : decode cX7_cover 28 = .ok (.getfield 35, 3) := by decide +kernel
theorem dX7_cover_31 : decode cX7_cover 31 = .ok (.aload_n 0, 1) := by decide +kernel
theorem dX7_cover_32 : decode cX7_cover 32 = .ok (.getfield 22, 3) := by decide +kernel
theorem dX7_cover_35 : decode cX7_cover 35 = .ok (.invokevirtual 196, 3) := by decide +kernel
theorem dX7_cover_38 : decode cX7_cover 38 = .ok (.goto 14, 3) := by decide +kernel
theorem dX7_cover_41 : decode cX7_cover 41 = .ok (.aload_n 0, 1) := by decide +kernel
theorem dX7_cover_42 : decode cX7_cover 42 = .ok (.getfield 35, 3) := by decide +kernel
theorem dX7_cover_45 : decode cX7_cover 45 = .ok (.aload_n 0, 1) := by decide +kernel
theorem dX7_cover_46 : decode cX7_cover 46 = .ok (.getfield 22, 3) := by decide +kernel
theorem dX7_cover_49 : decode cX7_cover 49 = .ok (.invokevirtual 199, 3) := by decide +kernel
theorem dX7_cover_52 : decode cX7_cover 52 = .ok (.ireturn, 1) := by decide +kernel
set_option maxRecDepth 20000 in
theorem ggX7_canBeOpen_X7_requireLock : GoodIn wsX7_canBeOpen wsX7_requireLock := goodIn_ca (goodIn_r _ [6, 7, 8, 1, 9, 10, 11, 12, 13, 14, 40, 41, 42, 43, 44, 45, 46, 47, 48, 49, 50, 51, 52, 53, 54, 55, 56, 57, 58, 59, 60, 61, 62, 63, 64, 65] (by decide +kernel) (by decide +kernel)) (goodIn_sub (fun _ h => List.mem_cons_of_mem _ (List.mem_append_left _ (List.mem_append_right _ h))) (by decide +kernel))
set_option maxRecDepth 20000 in
theorem gX7_canBeOpen_X7_requireLock : GoodIn wsX7_canBeOpen (wsV RX7 142 RX7 yX7_requireLock wsX7_requireLock) := goodIn_app (goodIn_of _ (by decide +kernel)) ggX7_canBeOpen_X7_requireLock
set_option maxRecDepth 20000 in
theorem ggX7_canBeOpen_X3_countKeysFor : GoodIn wsX7_canBeOpen wsX3_countKeysFor := goodIn_ca (goodIn_r _ [18, 19, 20, 21, 22, 12, 23, 24, 25, 26, 27, 28, 29, 30, 31, 32, 10, 11, 13, 14, 33, 34, 35, 36, 37, 38, 39, 52, 53, 54, 55, 56, 57, 58, 59, 60, 61, 62, 63, 64, 65] (by decide +kernel) (by decide +kernel)) (goodIn_sub (fun _ h => List.mem_cons_of_mem _ (List.mem_append_right _ h)) (by decide +kernel))
set_option maxRecDepth 20000 in
theorem gX7_canBeOpen_X3_countKeysFor : GoodIn wsX7_canBeOpen (wsV RX7 151 RX3 yX3_countKeysFor wsX3_countKeysFor) := goodIn_app (goodIn_of _ (by decide +kernel)) ggX7_canBeOpen_X3_countKeysFor
theorem dX7_canBeOpen_0 : decode cX7_canBeOpen 0 = .ok (.aload_n 0, 1) := by decide +kernel
theorem dX7_canBeOpen_1 : decode cX7_canBeOpen 1 = .ok (.iload_n 1, 1) := by decide +kernel
theorem dX7_canBeOpen_2 : decode cX7_canBeOpen 2 = .ok (.invokevirtual 142, 3) := by decide +kernel
theorem dX7_canBeOpen_5 : decode cX7_canBeOpen 5 = .ok (.aload_n 0, 1) := by decide +kernel
theorem dX7_canBeOpen_6 : decode cX7_canBeOpen 6 = .ok (.getfield 10, 3) := by decide +kernel
theorem dX7_canBeOpen_9 : decode cX7_canBeOpen 9 = .ok (.iload_n 1, 1) := by decide +kernel
theorem dX7_canBeOpen_10 : decode cX7_canBeOpen 10 = .ok (.invokevirtual 151, 3) := by decide +kernel
theorem dX7_canBeOpen_13 : decode cX7_canBeOpen 13 = .ok (.ifCond .le 7, 3) := by decide +kernel
theorem dX7_canBeOpen_16 : decode cX7_canBeOpen 16 = .ok (.iconst 1, 1) := by decide +kernel
theorem dX7_canBeOpen_17 : decode cX7_canBeOpen 17 = .ok (.goto 4, 3) := by decide +kernel
theorem dX7_canBeOpen_20 : decode cX7_canBeOpen 20 = .ok (.iconst 0, 1) := by decide +kernel
theorem dX7_canBeOpen_21 : decode cX7_canBeOpen 21 = .ok (.ireturn, 1) := by decide +kernel
set_option maxRecDepth 20000 in
theorem ggX7_isNeeded_X7_requireKey : GoodIn wsX7_isNeeded wsX7_requireKey := goodIn_ca (goodIn_r _ [7, 8, 9, 2, 10, 11, 12, 13, 14, 15, 53, 54, 55, 56, 57, 58, 59, 60, 61, 62, 63, 64, 65, 66, 67, 68, 69, 70, 71, 72, 73, 74, 75, 76, 77, 78] (by decide +kernel) (by decide +kernel)) (goodIn_sub (fun _ h => List.mem_cons_of_mem _ (List.mem_append_left _ (List.mem_append_right _ h))) (by decide +kernel))
set_option maxRecDepth 20000 in
theorem gX7_isNeeded_X7_requireKey : GoodIn wsX7_isNeeded (wsV RX7 111 RX7 yX7_requireKey wsX7_requireKey) := goodIn_app (goodIn_of _ (by decide +kernel)) ggX7_isNeeded_X7_requireKey
set_option maxRecDepth 20000 in
theorem ggX7_isNeeded_X4_countMostWithout : GoodIn wsX7_isNeeded wsX4_countMostWithout := goodIn_ca (goodIn_r _ [20, 21, 22, 23, 24, 25, 19, 26, 27, 28, 29, 30, 31, 32, 33, 34, 13, 35, 36, 37, 38, 39, 40, 11, 12, 14, 15, 41, 42, 43, 44, 45, 46, 47, 48, 49, 50, 51, 52, 79, 80, 65, 66, 67, 68, 69, 70, 71, 72, 73, 74, 75, 76, 77, 78] (by decide +kernel) (by decide +kernel)) (goodIn_sub (fun _ h => List.mem_cons_of_mem _ (List.mem_append_right _ h)) (by decide +kernel))
set_option maxRecDepth 20000 in
theorem gX7_isNeeded_X4_countMostWithout : GoodIn wsX7_isNeeded (wsV RX7 193 RX4 yX4_countMostWithout wsX4_countMostWithout) := goodIn_app (goodIn_of _ (by decide +kernel)) ggX7_isNeeded_X4_countMostWithout
theorem dX7_isNeeded_0 : decode cX7_isNeeded 0 = .ok (.aload_n 0, 1) := by decide +kernel
theorem dX7_isNeeded_1 : decode cX7_isNeeded 1 = .ok (.iload_n 1, 1) := by decide +kernel
theorem dX7_isNeeded_2 : decode cX7_isNeeded 2 = .ok (.invokevirtual 111, 3) := by decide +kernel
theorem dX7_isNeeded_5 : decode cX7_isNeeded 5 = .ok (.aload_n 0, 1) := by decide +kernel
theorem dX7_isNeeded_6 : decode cX7_isNeeded 6 = .ok (.getfield 42, 3) := by decide +kernel
theorem dX7_isNeeded_9 : decode cX7_isNeeded 9 = .ok (.aload_n 0, 1) := by decide +kernel
theorem dX7_isNeeded_10 : decode cX7_isNeeded 10 = .ok (.getfield 10, 3) := by decide +kernel
theorem dX7_isNeeded_13 : decode cX7_isNeeded 13 = .ok (.iload_n 1, 1) := by decide +kernel
theorem dX7_isNeeded_14 : decode cX7_isNeeded 14 = .ok (.invokevirtual 193, 3) := by decide +kernel
theorem dX7_isNeeded_17 : decode cX7_isNeeded 17 = .ok (.aload_n 0, 1) := by decide +kernel
theorem dX7_isNeeded_18 : decode cX7_isNeeded 18 = .ok (.getfield 42, 3) := by decide +kernel
theorem dX7_isNeeded_21 : decode cX7_isNeeded 21 = .ok (.aload_n 0, 1) := by decide +kernel
theorem dX7_isNeeded_22 : decode cX7_isNeeded 22 = .ok (.getfield 10, 3) := by decide +kernel
theorem dX7_isNeeded_25 : decode cX7_isNeeded 25 = .ok (.iconst (-1), 1) := by decide +kernel
theorem dX7_isNeeded_26 : decode cX7_isNeeded 26 = .ok (.invokevirtual 193, 3) := by decide +kernel
theorem dX7_isNeeded_29 : decode cX7_isNeeded 29 = .ok (.if_icmp .ge 7, 3) := by decide +kernel
theorem dX7_isNeeded_32 : decode cX7_isNeeded 32 = .ok (.iconst 1, 1) := by decide +kernel
theorem dX7_isNeeded_33 : decode cX7_isNeeded 33 = .ok (.goto 4, 3) := by decide +kernel
theorem dX7_isNeeded_36 : decode cX7_isNeeded 36 = .ok (.iconst 0, 1) := by decide +kernel
theorem dX7_isNeeded_37 : decode cX7_isNeeded 37 = .ok (.ireturn, 1) := by decide +kernel
set_option maxRecDepth 20000 in
theorem ggX7_porterOf_X7_isPorter : GoodIn wsX7_porterOf wsX7_isPorter := goodIn_r _ [7] (by decide +kernel) (by decide +kernel)
set_option maxRecDepth 20000 in
theorem gX7_porterOf_X7_isPorter : GoodIn wsX7_porterOf (va_wsS RX7 202 yX7_isPorter wsX7_isPorter) := goodIn_app (goodIn_of _ (by decide +kernel)) ggX7_porterOf_X7_isPorter
set_option maxRecDepth 20000 in
theorem ggX7_porterOf_X3_countKeysOn : GoodIn wsX7_porterOf wsX3_countKeysOn := goodIn_ca (goodIn_r _ [12, 13, 14, 15, 16, 11, 17, 18, 19, 20, 21, 22, 53, 54, 55, 56, 57, 58, 59, 60, 61, 62, 63, 64, 65, 66] (by decide +kernel) (by decide +kernel)) (goodIn_sub (fun _ h => List.mem_cons_of_mem _ (List.mem_append_right _ h)) (by decide +kernel))
set_option maxRecDepth 20000 in
theorem gX7_porterOf_X3_countKeysOn : GoodIn wsX7_porterOf (wsV RX7 208 RX3 yX3_countKeysOn wsX3_countKeysOn) := goodIn_app (goodIn_of _ (by decide +kernel)) ggX7_porterOf_X3_countKeysOn
set_option maxRecDepth 20000 in
theorem ggX7_porterOf_X3_countKeysInLocks : GoodIn wsX7_porterOf wsX3_countKeysInLocks := goodIn_ca (goodIn_r _ [26, 13, 14, 15, 16, 11, 17, 18, 19, 20, 21, 22, 27, 28, 29, 30, 31, 53, 54, 55, 56, 57, 58, 59, 60, 61, 62, 63, 64, 65, 66] (by decide +kernel) (by decide +kernel)) (goodIn_sub (fun _ h => List.mem_cons_of_mem _ (List.mem_append_right _ h)) (by decide +kernel))
set_option maxRecDepth 20000 in
theorem gX7_porterOf_X3_countKeysInLocks : GoodIn wsX7_porterOf (wsV RX7 211 RX3 yX3_countKeysInLocks wsX3_countKeysInLocks) := goodIn_app (goodIn_of _ (by decide +kernel)) ggX7_porterOf_X3_countKeysInLocks
set_option maxRecDepth 20000 in
theorem ggX7_porterOf_X3_sumCostsOn : GoodIn wsX7_porterOf wsX3_sumCostsOn := goodIn_ca (goodIn_r _ [35, 13, 14, 15, 16, 11, 17, 18, 19, 20, 21, 22, 36, 37, 38, 39, 40, 53, 54, 55, 56, 57, 58, 59, 60, 61, 62, 63, 64, 65, 66] (by decide +kernel) (by decide +kernel)) (goodIn_sub (fun _ h => List.mem_cons_of_mem _ (List.mem_append_right _ h)) (by decide +kernel))
set_option maxRecDepth 20000 in
theorem gX7_porterOf_X3_sumCostsOn : GoodIn wsX7_porterOf (wsV RX7 214 RX3 yX3_sumCostsOn wsX3_sumCostsOn) := goodIn_app (goodIn_of _ (by decide +kernel)) ggX7_porterOf_X3_sumCostsOn
theorem dX7_porterOf_0 : decode cX7_porterOf 0 = .ok (.iload_n 1, 1) := by decide +kernel
theorem dX7_porterOf_1 : decode cX7_porterOf 1 = .ok (.invokestatic 202, 3) := by decide +kernel
theorem dX7_porterOf_4 : decode cX7_porterOf 4 = .ok (.ifCond .ne 13, 3) := by decide +kernel
theorem dX7_porterOf_7 : decode cX7_porterOf 7 = .ok (.new 135, 3) := by decide +kernel
theorem dX7_porterOf_10 : decode cX7_porterOf 10 = .ok (.dup, 1) := by decide +kernel
theorem dX7_porterOf_11 : decode cX7_porterOf 11 = .ok (.ldc 206, 2) := by decide +kernel
theorem dX7_porterOf_13 : decode cX7_porterOf 13 = .ok (.invokespecial 139, 3) := by decide +kernel
theorem dX7_porterOf_16 : decode cX7_porterOf 16 = .ok (.athrow, 1) := by decide +kernel
theorem dX7_porterOf_17 : decode cX7_porterOf 17 = .ok (.iload_n 2, 1) := by decide +kernel
theorem dX7_porterOf_18 : decode cX7_porterOf 18 = .ok (.tableswitch 53 0 2 #[26, 35, 44], 26) := by decide +kernel
theorem dX7_porterOf_44 : decode cX7_porterOf 44 = .ok (.aload_n 0, 1) := by decide +kernel
theorem dX7_porterOf_45 : decode cX7_porterOf 45 = .ok (.getfield 10, 3) := by decide +kernel
theorem dX7_porterOf_48 : decode cX7_porterOf 48 = .ok (.iload_n 1, 1) := by decide +kernel
theorem dX7_porterOf_49 : decode cX7_porterOf 49 = .ok (.invokevirtual 208, 3) := by decide +kernel
theorem dX7_porterOf_52 : decode cX7_porterOf 52 = .ok (.ireturn, 1) := by decide +kernel
theorem dX7_porterOf_53 : decode cX7_porterOf 53 = .ok (.aload_n 0, 1) := by decide +kernel
theorem dX7_porterOf_54 : decode cX7_porterOf 54 = .ok (.getfield 10, 3) := by decide +kernel
theorem dX7_porterOf_57 : decode cX7_porterOf 57 = .ok (.iload_n 1, 1) := by decide +kernel
theorem dX7_porterOf_58 : decode cX7_porterOf 58 = .ok (.invokevirtual 211, 3) := by decide +kernel
theorem dX7_porterOf_61 : decode cX7_porterOf 61 = .ok (.ireturn, 1) := by decide +kernel
theorem dX7_porterOf_62 : decode cX7_porterOf 62 = .ok (.aload_n 0, 1) := by decide +kernel
theorem dX7_porterOf_63 : decode cX7_porterOf 63 = .ok (.getfield 10, 3) := by decide +kernel
theorem dX7_porterOf_66 : decode cX7_porterOf 66 = .ok (.iload_n 1, 1) := by decide +kernel
theorem dX7_porterOf_67 : decode cX7_porterOf 67 = .ok (.invokevirtual 214, 3) := by decide +kernel
theorem dX7_porterOf_70 : decode cX7_porterOf 70 = .ok (.ireturn, 1) := by decide +kernel
theorem dX7_porterOf_71 : decode cX7_porterOf 71 = .ok (.new 135, 3) := by decide +kernel
theorem dX7_porterOf_74 : decode cX7_porterOf 74 = .ok (.dup, 1) := by decide +kernel
theorem dX7_porterOf_75 : decode cX7_porterOf 75 = .ok (.ldc 217, 2) := by decide +kernel
theorem dX7_porterOf_77 : decode cX7_porterOf 77 = .ok (.invokespecial 139, 3) := by decide +kernel
theorem dX7_porterOf_80 : decode cX7_porterOf 80 = .ok (.athrow, 1) := by decide +kernel
set_option maxRecDepth 20000 in
theorem ggX7_ranked_X3_keyByRank : GoodIn wsX7_ranked wsX3_keyByRank := goodIn_ca (goodIn_r _ [8, 9, 10, 11, 12, 7, 13, 14, 15, 16, 17, 18, 19, 20, 21, 22, 23, 24, 25, 26, 27, 28, 29, 30, 31, 32, 33, 34, 35, 36, 37, 38, 39, 40, 41, 42, 43, 44, 45, 46, 47, 48, 49, 62, 63, 64, 65, 66, 67, 68, 69, 70, 71, 72, 73, 74, 75] (by decide +kernel) (by decide +kernel)) (goodIn_sub (fun _ h => List.mem_cons_of_mem _ (List.mem_append_right _ h)) (by decide +kernel))
set_option maxRecDepth 20000 in
theorem gX7_ranked_X3_keyByRank : GoodIn wsX7_ranked (wsV RX7 219 RX3 yX3_keyByRank wsX3_keyByRank) := goodIn_app (goodIn_of _ (by decide +kernel)) ggX7_ranked_X3_keyByRank
theorem dX7_ranked_0 : decode cX7_ranked 0 = .ok (.aload_n 0, 1) := by decide +kernel
theorem dX7_ranked_1 : decode cX7_ranked 1 = .ok (.getfield 10, 3) := by decide +kernel
theorem dX7_ranked_4 : decode cX7_ranked 4 = .ok (.iload_n 1, 1) := by decide +kernel
theorem dX7_ranked_5 : decode cX7_ranked 5 = .ok (.invokevirtual 219, 3) := by decide +kernel
theorem dX7_ranked_8 : decode cX7_ranked 8 = .ok (.istore_n 2, 1) := by decide +kernel
theorem dX7_ranked_9 : decode cX7_ranked 9 = .ok (.iload_n 2, 1) := by decide +kernel
theorem dX7_ranked_10 : decode cX7_ranked 10 = .ok (.iconst (-1), 1) := by decide +kernel
theorem dX7_ranked_11 : decode cX7_ranked 11 = .ok (.if_icmp .ne 13, 3) := by decide +kernel
theorem dX7_ranked_14 : decode cX7_ranked 14 = .ok (.new 172, 3) := by decide +kernel
theorem dX7_ranked_17 : decode cX7_ranked 17 = .ok (.dup, 1) := by decide +kernel
theorem dX7_ranked_18 : decode cX7_ranked 18 = .ok (.ldc 174, 2) := by decide +kernel
theorem dX7_ranked_20 : decode cX7_ranked 20 = .ok (.invokespecial 176, 3) := by decide +kernel
theorem dX7_ranked_23 : decode cX7_ranked 23 = .ok (.athrow, 1) := by decide +kernel
theorem dX7_ranked_24 : decode cX7_ranked 24 = .ok (.iload_n 2, 1) := by decide +kernel
theorem dX7_ranked_25 : decode cX7_ranked 25 = .ok (.ireturn, 1) := by decide +kernel
set_option maxRecDepth 20000 in
theorem ggX7_append_X0_add : GoodIn wsX7_append wsX0_add := goodIn_ca (goodIn_r _ [9, 10, 11, 24, 25, 26, 27, 28, 29, 30] (by decide +kernel) (by decide +kernel)) (goodIn_sub (fun _ h => List.mem_cons_of_mem _ (List.mem_append_right _ h)) (by decide +kernel))
set_option maxRecDepth 20000 in
theorem gX7_append_X0_add : GoodIn wsX7_append (wsV RX7 222 RX0 yX0_add wsX0_add) := goodIn_app (goodIn_of _ (by decide +kernel)) ggX7_append_X0_add
theorem dX7_append_0 : decode cX7_append 0 = .ok (.aload_n 0, 1) := by decide +kernel
theorem dX7_append_1 : decode cX7_append 1 = .ok (.getfield 56, 3) := by decide +kernel
theorem dX7_append_4 : decode cX7_append 4 = .ok (.iload_n 1, 1) := by decide +kernel
theorem dX7_append_5 : decode cX7_append 5 = .ok (.invokevirtual 222, 3) := by decide +kernel
theorem dX7_append_8 : decode cX7_append 8 = .ok (.ifCond .ne 13, 3) := by decide +kernel
theorem dX7_append_11 : decode cX7_append 11 = .ok (.new 226, 3) := by decide +kernel
theorem dX7_append_14 : decode cX7_append 14 = .ok (.dup, 1) := by decide +kernel
theorem dX7_append_15 : decode cX7_append 15 = .ok (.ldc 228, 2) := by decide +kernel
theorem dX7_append_17 : decode cX7_append 17 = .ok (.invokespecial 230, 3) := by decide +kernel
theorem dX7_append_20 : decode cX7_append 20 = .ok (.athrow, 1) := by decide +kernel
theorem dX7_append_21 : decode cX7_append 21 = .ok (.aload_n 0, 1) := by decide +kernel
theorem dX7_append_22 : decode cX7_append 22 = .ok (.getfield 56, 3) := by decide +kernel
theorem dX7_append_25 : decode cX7_append 25 = .ok (.getfield 231, 3) := by decide +kernel
theorem dX7_append_28 : decode cX7_append 28 = .ok (.ireturn, 1) := by decide +kernel
set_option maxRecDepth 20000 in
theorem ggX7_commands_X0_findFault : GoodIn wsX7_commands wsX0_findFault := goodIn_ca (goodIn_r _ [15, 16, 17, 18, 19, 20, 21, 14, 22, 23, 24, 25, 26, 27, 28, 29, 30, 31, 32, 33, 34, 35, 36, 37, 38, 39, 40, 41, 42, 43, 44, 45, 46, 47, 48, 49, 50, 51, 52, 53, 54, 270, 271, 272, 273, 274, 275, 276] (by decide +kernel) (by decide +kernel)) (goodIn_sub (fun _ h => List.mem_cons_of_mem _ (List.mem_append_left _ (List.mem_append_right _ h))) (by decide +kernel))
set_option maxRecDepth 20000 in
theorem gX7_commands_X0_findFault : GoodIn wsX7_commands (wsV RX7 234 RX0 yX0_findFault wsX0_findFault) := goodIn_app (goodIn_of _ (by decide +kernel)) ggX7_commands_X0_findFault
set_option maxRecDepth 20000 in
theorem ggX7_commands_X0_clear : GoodIn wsX7_commands wsX0_clear := goodIn_r _ [58, 18, 270, 271, 272, 273, 274, 275, 276] (by decide +kernel) (by decide +kernel)
set_option maxRecDepth 20000 in
theorem gX7_commands_X0_clear : GoodIn wsX7_commands (wsV RX7 237 RX0 yX0_clear wsX0_clear) := goodIn_app (goodIn_of _ (by decide +kernel)) ggX7_commands_X0_clear
set_option maxRecDepth 20000 in
theorem ggX7_commands_X3_copyFrom : GoodIn wsX7_commands wsX3_copyFrom := goodIn_r _ [63, 64, 65, 66, 67, 68, 69, 70, 71, 72, 73, 74, 75, 76, 77, 78, 79, 80, 81, 277, 278, 279, 280, 281, 282, 283, 284, 285, 286, 287, 288, 289, 290] (by decide +kernel) (by decide +kernel)
set_option maxRecDepth 20000 in
theorem gX7_commands_X3_copyFrom : GoodIn wsX7_commands (wsV RX7 75 RX3 yX3_copyFrom wsX3_copyFrom) := goodIn_app (goodIn_of _ (by decide +kernel)) ggX7_commands_X3_copyFrom
set_option maxRecDepth 20000 in
theorem ggX7_commands_X0_restart : GoodIn wsX7_commands wsX0_restart := goodIn_r _ [22, 17, 270, 271, 272, 273, 274, 275, 276] (by decide +kernel) (by decide +kernel)
set_option maxRecDepth 20000 in
theorem gX7_commands_X0_restart : GoodIn wsX7_commands (wsV RX7 245 RX0 yX0_restart wsX0_restart) := goodIn_app (goodIn_of _ (by decide +kernel)) ggX7_commands_X0_restart
set_option maxRecDepth 20000 in
theorem ggX7_commands_X0_readNext : GoodIn wsX7_commands wsX0_readNext := goodIn_ca (goodIn_r _ [86, 23, 24, 25, 14, 26, 27, 17, 28, 29, 30, 31, 18, 32, 33, 34, 35, 36, 37, 38, 39, 40, 41, 42, 43, 44, 45, 46, 47, 48, 49, 50, 51, 52, 53, 54, 270, 271, 272, 273, 274, 275, 276] (by decide +kernel) (by decide +kernel)) (goodIn_sub (fun _ h => List.mem_cons_of_mem _ (List.mem_append_left _ (List.mem_append_right _ h))) (by decide +kernel))
set_option maxRecDepth 20000 in
theorem gX7_commands_X0_readNext : GoodIn wsX7_commands (wsV RX7 248 RX0 yX0_readNext wsX0_readNext) := goodIn_app (goodIn_of _ (by decide +kernel)) ggX7_commands_X0_readNext
set_option maxRecDepth 20000 in
theorem ggX7_commands_X7_carryOut : GoodIn wsX7_commands wsX7_carryOut := goodIn_ca (goodIn_r _ [91, 6, 92, 93, 94, 95, 96, 62, 97, 76, 64, 69, 70, 71, 72, 98, 90, 99, 100, 101, 102, 103, 104, 105, 106, 107, 108, 109, 110, 111, 112, 77, 73, 74, 75, 113, 114, 115, 116, 117, 118, 119, 120, 121, 122, 123, 124, 125, 126, 127, 128, 129, 130, 131, 81, 132, 133, 134, 135, 136, 137, 138, 139, 140, 141, 142, 143, 78, 144, 145, 146, 147, 148, 149, 150, 151, 152, 153, 154, 155, 156, 157, 158, 159, 160, 161, 162, 163, 164, 165, 166, 167, 168, 169, 170, 171, 172, 173, 174, 175, 176, 177, 178, 179, 180, 181, 182, 183, 184, 185, 186, 187, 188, 189, 190, 191, 192, 193, 194, 195, 196, 197, 198, 199, 200, 201, 202, 203, 204, 205, 206, 207, 208, 209, 210, 211, 212, 213, 214, 215, 216, 217, 218, 219, 220, 221, 222, 223, 224, 225, 226, 227, 228, 229, 230, 231, 232, 233, 258, 259, 260, 261, 262, 263, 264, 265, 266, 267, 268, 269, 277, 278, 279, 280, 281, 282, 283, 284, 285, 286, 287, 288, 289, 290, 291, 292, 293, 294, 295, 296] (by decide +kernel) (by decide +kernel)) (goodIn_sub (fun _ h => List.mem_cons_of_mem _ (List.mem_append_left _ (List.mem_append_right _ h))) (by decide +kernel))
set_option maxRecDepth 20000 in
theorem gX7_commands_X7_carryOut : GoodIn wsX7_commands (wsV RX7 107 RX7 yX7_carryOut wsX7_carryOut) := goodIn_app (goodIn_of _ (by decide +kernel)) ggX7_commands_X7_carryOut
set_option maxRecDepth 20000 in
theorem ggX7_commands_X7_settle : GoodIn wsX7_commands wsX7_settle := goodIn_ca (goodIn_r _ [237, 238, 239, 92, 240, 6, 5, 241, 59, 60, 61, 62, 63, 64, 65, 66, 67, 68, 69, 70, 71, 72, 73, 74, 75, 76, 77, 78, 79, 80, 81, 242, 243, 244, 245, 246, 247, 248, 249, 250, 251, 252, 253, 254, 255, 256, 257, 258, 259, 260, 261, 262, 263, 264, 265, 266, 267, 268, 269, 291, 292, 293, 277, 278, 279, 280, 281, 282, 283, 284, 285, 286, 287, 288, 289, 290, 297, 298] (by decide +kernel) (by decide +kernel)) (goodIn_sub (fun _ h => List.mem_cons_of_mem _ (List.mem_append_right _ h)) (by decide +kernel))
set_option maxRecDepth 20000 in
theorem gX7_commands_X7_settle : GoodIn wsX7_commands (wsV RX7 83 RX7 yX7_settle wsX7_settle) := goodIn_app (goodIn_of _ (by decide +kernel)) ggX7_commands_X7_settle
theorem dX7_commands_0 : decode cX7_commands 0 = .ok (.aload_n 0, 1) := by decide +kernel
theorem dX7_commands_1 : decode cX7_commands 1 = .ok (.aload_n 0, 1) := by decide +kernel
theorem dX7_commands_2 : decode cX7_commands 2 = .ok (.getfield 56, 3) := by decide +kernel
theorem dX7_commands_5 : decode cX7_commands 5 = .ok (.invokevirtual 234, 3) := by decide +kernel
theorem dX7_commands_8 : decode cX7_commands 8 = .ok (.putfield 71, 3) := by decide +kernel
theorem dX7_commands_11 : decode cX7_commands 11 = .ok (.aload_n 0, 1) := by decide +kernel
theorem dX7_commands_12 : decode cX7_commands 12 = .ok (.getfield 71, 3) := by decide +kernel
theorem dX7_commands_15 : decode cX7_commands 15 = .ok (.iconst (-1), 1) := by decide +kernel
theorem dX7_commands_16 : decode cX7_commands 16 = .ok (.if_icmp .eq 20, 3) := by decide +kernel
theorem dX7_commands_19 : decode cX7_commands 19 = .ok (.aload_n 0, 1) := by decide +kernel
theorem dX7_commands_20 : decode cX7_commands 20 = .ok (.getfield 56, 3) := by decide +kernel
theorem dX7_commands_23 : decode cX7_commands 23 = .ok (.invokevirtual 237, 3) := by decide +kernel
theorem dX7_commands_26 : decode cX7_commands 26 = .ok (.new 135, 3) := by decide +kernel
theorem dX7_commands_29 : decode cX7_commands 29 = .ok (.dup, 1) := by decide +kernel
theorem dX7_commands_30 : decode cX7_commands 30 = .ok (.ldc 240, 2) := by decide +kernel
theorem dX7_commands_32 : decode cX7_commands 32 = .ok (.invokespecial 139, 3) := by decide +kernel
theorem dX7_commands_35 : decode cX7_commands 35 = .ok (.athrow, 1) := by decide +kernel
theorem dX7_commands_36 : decode cX7_commands 36 = .ok (.aload_n 0, 1) := by decide +kernel
theorem dX7_commands_37 : decode cX7_commands 37 = .ok (.getfield 16, 3) := by decide +kernel
theorem dX7_commands_40 : decode cX7_commands 40 = .ok (.aload_n 0, 1) := by decide +kernel
theorem dX7_commands_41 : decode cX7_commands 41 = .ok (.getfield 10, 3) := by decide +kernel
theorem dX7_commands_44 : decode cX7_commands 44 = .ok (.invokevirtual 75, 3) := by decide +kernel
theorem dX7_commands_47 : decode cX7_commands 47 = .ok (.aload_n 0, 1) := by decide +kernel
theorem dX7_commands_48 : decode cX7_commands 48 = .ok (.getfield 56, 3) := by decide +kernel
theorem dX7_commands_51 : decode cX7_commands 51 = .ok (.getfield 242, 3) := by decide +kernel
theorem dX7_commands_54 : decode cX7_commands 54 = .ok (.istore_n 1, 1) := by decide +kernel
theorem dX7_commands_55 : decode cX7_commands 55 = .ok (.aload_n 0, 1) := by decide +kernel
theorem dX7_commands_56 : decode cX7_commands 56 = .ok (.getfield 56, 3) := by decide +kernel
theorem dX7_commands_59 : decode cX7_commands 59 = .ok (.invokevirtual 245, 3) := by decide +kernel
theorem dX7_commands_62 : decode cX7_commands 62 = .ok (.iconst 0, 1) := by decide +kernel
theorem dX7_commands_63 : decode cX7_commands 63 = .ok (.istore_n 2, 1) := by decide +kernel
theorem dX7_commands_64 : decode cX7_commands 64 = .ok (.iload_n 2, 1) := by decide +kernel
theorem dX7_commands_65 : decode cX7_commands 65 = .ok (.iload_n 1, 1) := by decide +kernel
theorem dX7_commands_66 : decode cX7_commands 66 = .ok (.if_icmp .ge 59, 3) := by decide +kernel
theorem dX7_commands_69 : decode cX7_commands 69 = .ok (.aload_n 0, 1) := by decide +kernel
theorem dX7_commands_70 : decode cX7_commands 70 = .ok (.getfield 56, 3) := by decide +kernel
theorem dX7_commands_73 : decode cX7_commands 73 = .ok (.invokevirtual 248, 3) := by decide +kernel
theorem dX7_commands_76 : decode cX7_commands 76 = .ok (.aload_n 0, 1) := by decide +kernel
theorem dX7_commands_77 : decode cX7_commands 77 = .ok (.aload_n 0, 1) := by decide +kernel
theorem dX7_commands_78 : decode cX7_commands 78 = .ok (.getfield 56, 3) := by decide +kernel
theorem dX7_commands_81 : decode cX7_commands 81 = .ok (.getfield 251, 3) := by decide +kernel
theorem dX7_commands_84 : decode cX7_commands 84 = .ok (.aload_n 0, 1) := by decide +kernel
theorem dX7_commands_85 : decode cX7_commands 85 = .ok (.getfield 56, 3) := by decide +kernel
theorem dX7_commands_88 : decode cX7_commands 88 = .ok (.getfield 255, 3) := by decide +kernel
theorem dX7_commands_91 : decode cX7_commands 91 = .ok (.aload_n 0, 1) := by decide +kernel
theorem dX7_commands_92 : decode cX7_commands 92 = .ok (.getfield 56, 3) := by decide +kernel
theorem dX7_commands_95 : decode cX7_commands 95 = .ok (.getfield 258, 3) := by decide +kernel
theorem dX7_commands_98 : decode cX7_commands 98 = .ok (.invokevirtual 107, 3) := by decide +kernel
theorem dX7_commands_101 : decode cX7_commands 101 = .ok (.iconst (-1), 1) := by decide +kernel
theorem dX7_commands_102 : decode cX7_commands 102 = .ok (.if_icmp .ne 17, 3) := by decide +kernel
theorem dX7_commands_105 : decode cX7_commands 105 = .ok (.aload_n 0, 1) := by decide +kernel
theorem dX7_commands_106 : decode cX7_commands 106 = .ok (.getfield 56, 3) := by decide +kernel
theorem dX7_commands_109 : decode cX7_commands 109 = .ok (.invokevirtual 237, 3) := by decide +kernel
theorem dX7_commands_112 : decode cX7_commands 112 = .ok (.aload_n 0, 1) := by decide +kernel
theorem dX7_commands_113 : decode cX7_commands 113 = .ok (.iconst (-1), 1) := by decide +kernel
theorem dX7_commands_114 : decode cX7_commands 114 = .ok (.iload_n 2, 1) := by decide +kernel
theorem dX7_commands_115 : decode cX7_commands 115 = .ok (.invokevirtual 83, 3) := by decide +kernel
theorem dX7_commands_118 : decode cX7_commands 118 = .ok (.ireturn, 1) := by decide +kernel
theorem dX7_commands_119 : decode cX7_commands 119 = .ok (.iinc 2 1, 3) := by decide +kernel
theorem dX7_commands_122 : decode cX7_commands 122 = .ok (.goto (-58), 3) := by decide +kernel
theorem dX7_commands_125 : decode cX7_commands 125 = .ok (.aload_n 0, 1) := by decide +kernel
theorem dX7_commands_126 : decode cX7_commands 126 = .ok (.getfield 56, 3) := by decide +kernel
theorem dX7_commands_129 : decode cX7_commands 129 = .ok (.invokevirtual 237, 3) := by decide +kernel
theorem dX7_commands_132 : decode cX7_commands 132 = .ok (.aload_n 0, 1) := by decide +kernel
theorem dX7_commands_133 : decode cX7_commands 133 = .ok (.iload_n 1, 1) := by decide +kernel
theorem dX7_commands_134 : decode cX7_commands 134 = .ok (.iconst 0, 1) := by decide +kernel
theorem dX7_commands_135 : decode cX7_commands 135 = .ok (.invokevirtual 83, 3) := by decide +kernel
theorem dX7_commands_138 : decode cX7_commands 138 = .ok (.ireturn, 1) := by decide +kernel
theorem dX7_faultPosition_0 : decode cX7_faultPosition 0 = .ok (.aload_n 0, 1) := by decide +kernel
theorem dX7_faultPosition_1 : decode cX7_faultPosition 1 = .ok (.getfield 71, 3) := by decide +kernel
theorem dX7_faultPosition_4 : decode cX7_faultPosition 4 = .ok (.ireturn, 1) := by decide +kernel
theorem dX7_reason_0 : decode cX7_reason 0 = .ok (.iload_n 1, 1) := by decide +kernel
theorem dX7_reason_1 : decode cX7_reason 1 = .ok (.ifCond .lt 8, 3) := by decide +kernel
theorem dX7_reason_4 : decode cX7_reason 4 = .ok (.iload_n 1, 1) := by decide +kernel
theorem dX7_reason_5 : decode cX7_reason 5 = .ok (.iconst 2, 1) := by decide +kernel
theorem dX7_reason_6 : decode cX7_reason 6 = .ok (.if_icmp .le 13, 3) := by decide +kernel
theorem dX7_reason_9 : decode cX7_reason 9 = .ok (.new 135, 3) := by decide +kernel
theorem dX7_reason_12 : decode cX7_reason 12 = .ok (.dup, 1) := by decide +kernel
theorem dX7_reason_13 : decode cX7_reason 13 = .ok (.ldc 217, 2) := by decide +kernel
theorem dX7_reason_15 : decode cX7_reason 15 = .ok (.invokespecial 139, 3) := by decide +kernel
theorem dX7_reason_18 : decode cX7_reason 18 = .ok (.athrow, 1) := by decide +kernel
theorem dX7_reason_19 : decode cX7_reason 19 = .ok (.aload_n 0, 1) := by decide +kernel
theorem dX7_reason_20 : decode cX7_reason 20 = .ok (.getfield 49, 3) := by decide +kernel
theorem dX7_reason_23 : decode cX7_reason 23 = .ok (.getfield 261, 3) := by decide +kernel
theorem dX7_reason_26 : decode cX7_reason 26 = .ok (.ifCond .ne 14, 3) := by decide +kernel
theorem dX7_reason_29 : decode cX7_reason 29 = .ok (.new 172, 3) := by decide +kernel
theorem dX7_reason_32 : decode cX7_reason 32 = .ok (.dup, 1) := by decide +kernel
theorem dX7_reason_33 : decode cX7_reason 33 = .ok (.ldc_w 264, 3) := by decide +kernel
theorem dX7_reason_36 : decode cX7_reason 36 = .ok (.invokespecial 176, 3) := by decide +kernel
theorem dX7_reason_39 : decode cX7_reason 39 = .ok (.athrow, 1) := by decide +kernel
theorem dX7_reason_40 : decode cX7_reason 40 = .ok (.iload_n 1, 1) := by decide +kernel
theorem dX7_reason_41 : decode cX7_reason 41 = .ok (.lookupswitch 43 #[(0, 27), (1, 35)], 27) := by decide +kernel
theorem dX7_reason_68 : decode cX7_reason 68 = .ok (.aload_n 0, 1) := by decide +kernel
theorem dX7_reason_69 : decode cX7_reason 69 = .ok (.getfield 49, 3) := by decide +kernel
theorem dX7_reason_72 : decode cX7_reason 72 = .ok (.getfield 261, 3) := by decide +kernel
theorem dX7_reason_75 : decode cX7_reason 75 = .ok (.ireturn, 1) := by decide +kernel
theorem dX7_reason_76 : decode cX7_reason 76 = .ok (.aload_n 0, 1) := by decide +kernel
theorem dX7_reason_77 : decode cX7_reason 77 = .ok (.getfield 49, 3) := by decide +kernel
theorem dX7_reason_80 : decode cX7_reason 80 = .ok (.getfield 266, 3) := by decide +kernel
theorem dX7_reason_83 : decode cX7_reason 83 = .ok (.ireturn, 1) := by decide +kernel
theorem dX7_reason_84 : decode cX7_reason 84 = .ok (.aload_n 0, 1) := by decide +kernel
theorem dX7_reason_85 : decode cX7_reason 85 = .ok (.getfield 49, 3) := by decide +kernel
theorem dX7_reason_88 : decode cX7_reason 88 = .ok (.getfield 269, 3) := by decide +kernel
theorem dX7_reason_91 : decode cX7_reason 91 = .ok (.ireturn, 1) := by decide +kernel
set_option maxRecDepth 20000 in
theorem ggX7_line_X2_clear : GoodIn wsX7_line wsX2_clear := goodIn_r _ [8, 9, 76, 77] (by decide +kernel) (by decide +kernel)
set_option maxRecDepth 20000 in
theorem gX7_line_X2_clear : GoodIn wsX7_line (wsV RX7 272 RX2 yX2_clear wsX2_clear) := goodIn_app (goodIn_of _ (by decide +kernel)) ggX7_line_X2_clear
set_option maxRecDepth 20000 in
theorem ggX7_line_X2_writeLocks : GoodIn wsX7_line wsX2_writeLocks := goodIn_ca (goodIn_r _ [13, 14, 15, 16, 17, 18, 19, 20, 21, 22, 23, 24, 25, 26, 27, 28, 29, 30, 31, 32, 33, 7, 34, 9, 35, 36, 37, 38, 39, 40, 41, 42, 43, 78, 79, 80, 81, 82, 83, 84, 85, 86, 87, 88, 89, 90, 91, 76, 77] (by decide +kernel) (by decide +kernel)) (goodIn_sub (fun _ h => List.mem_cons_of_mem _ (List.mem_append_right _ h)) (by decide +kernel))
set_option maxRecDepth 20000 in
theorem gX7_line_X2_writeLocks : GoodIn wsX7_line (wsV RX7 273 RX2 yX2_writeLocks wsX2_writeLocks) := goodIn_app (goodIn_of _ (by decide +kernel)) ggX7_line_X2_writeLocks
set_option maxRecDepth 20000 in
theorem ggX7_line_X2_writeKeys : GoodIn wsX7_line wsX2_writeKeys := goodIn_ca (goodIn_r _ [47, 48, 49, 50, 51, 18, 52, 53, 54, 55, 56, 57, 58, 59, 60, 61, 62, 63, 31, 32, 33, 7, 34, 9, 35, 36, 37, 38, 39, 40, 41, 42, 43, 78, 79, 80, 81, 82, 83, 84, 85, 86, 87, 88, 89, 90, 91, 76, 77] (by decide +kernel) (by decide +kernel)) (goodIn_sub (fun _ h => List.mem_cons_of_mem _ (List.mem_append_right _ h)) (by decide +kernel))
set_option maxRecDepth 20000 in
theorem gX7_line_X2_writeKeys : GoodIn wsX7_line (wsV RX7 276 RX2 yX2_writeKeys wsX2_writeKeys) := goodIn_app (goodIn_of _ (by decide +kernel)) ggX7_line_X2_writeKeys
theorem dX7_line_0 : decode cX7_line 0 = .ok (.aload_n 0, 1) := by decide +kernel
theorem dX7_line_1 : decode cX7_line 1 = .ok (.getfield 63, 3) := by decide +kernel
theorem dX7_line_4 : decode cX7_line 4 = .ok (.invokevirtual 272, 3) := by decide +kernel
theorem dX7_line_7 : decode cX7_line 7 = .ok (.iload_n 1, 1) := by decide +kernel
theorem dX7_line_8 : decode cX7_line 8 = .ok (.ifCond .eq 17, 3) := by decide +kernel
theorem dX7_line_11 : decode cX7_line 11 = .ok (.aload_n 0, 1) := by decide +kernel
theorem dX7_line_12 : decode cX7_line 12 = .ok (.getfield 63, 3) := by decide +kernel
theorem dX7_line_15 : decode cX7_line 15 = .ok (.aload_n 0, 1) := by decide +kernel
theorem dX7_line_16 : decode cX7_line 16 = .ok (.getfield 10, 3) := by decide +kernel
theorem dX7_line_19 : decode cX7_line 19 = .ok (.invokevirtual 273, 3) := by decide +kernel
theorem dX7_line_22 : decode cX7_line 22 = .ok (.goto 14, 3) := by decide +kernel
theorem dX7_line_25 : decode cX7_line 25 = .ok (.aload_n 0, 1) := by decide +kernel
theorem dX7_line_26 : decode cX7_line 26 = .ok (.getfield 63, 3) := by decide +kernel
theorem dX7_line_29 : decode cX7_line 29 = .ok (.aload_n 0, 1) := by decide +kernel
theorem dX7_line_30 : decode cX7_line 30 = .ok (.getfield 10, 3) := by decide +kernel
theorem dX7_line_33 : decode cX7_line 33 = .ok (.invokevirtual 276, 3) := by decide +kernel
theorem dX7_line_36 : decode cX7_line 36 = .ok (.aload_n 0, 1) := by decide +kernel
theorem dX7_line_37 : decode cX7_line 37 = .ok (.getfield 63, 3) := by decide +kernel
theorem dX7_line_40 : decode cX7_line 40 = .ok (.getfield 279, 3) := by decide +kernel
theorem dX7_line_43 : decode cX7_line 43 = .ok (.ireturn, 1) := by decide +kernel
set_option maxRecDepth 20000 in
theorem ggX7_character_X2_has : GoodIn wsX7_character wsX2_has := goodIn_r _ [8, 9, 28, 29] (by decide +kernel) (by decide +kernel)
set_option maxRecDepth 20000 in
theorem gX7_character_X2_has : GoodIn wsX7_character (wsV RX7 280 RX2 yX2_has wsX2_has) := goodIn_app (goodIn_of _ (by decide +kernel)) ggX7_character_X2_has
set_option maxRecDepth 20000 in
theorem ggX7_character_X2_signAt : GoodIn wsX7_character wsX2_signAt := goodIn_ca (goodIn_r _ [13, 14, 15, 5, 6, 7, 8, 9, 28, 29] (by decide +kernel) (by decide +kernel)) (goodIn_sub (fun _ h => List.mem_cons_of_mem _ (List.mem_append_right _ h)) (by decide +kernel))
set_option maxRecDepth 20000 in
theorem gX7_character_X2_signAt : GoodIn wsX7_character (wsV RX7 288 RX2 yX2_signAt wsX2_signAt) := goodIn_app (goodIn_of _ (by decide +kernel)) ggX7_character_X2_signAt
theorem dX7_character_0 : decode cX7_character 0 = .ok (.aload_n 0, 1) := by decide +kernel
theorem dX7_character_1 : decode cX7_character 1 = .ok (.getfield 63, 3) := by decide +kernel
theorem dX7_character_4 : decode cX7_character 4 = .ok (.iload_n 1, 1) := by decide +kernel
theorem dX7_character_5 : decode cX7_character 5 = .ok (.invokevirtual 280, 3) := by decide +kernel
theorem dX7_character_8 : decode cX7_character 8 = .ok (.ifCond .ne 14, 3) := by decide +kernel
theorem dX7_character_11 : decode cX7_character 11 = .ok (.new 283, 3) := by decide +kernel
theorem dX7_character_14 : decode cX7_character 14 = .ok (.dup, 1) := by decide +kernel
theorem dX7_character_15 : decode cX7_character 15 = .ok (.ldc_w 285, 3) := by decide +kernel
theorem dX7_character_18 : decode cX7_character 18 = .ok (.invokespecial 287, 3) := by decide +kernel
theorem dX7_character_21 : decode cX7_character 21 = .ok (.athrow, 1) := by decide +kernel
theorem dX7_character_22 : decode cX7_character 22 = .ok (.aload_n 0, 1) := by decide +kernel
theorem dX7_character_23 : decode cX7_character 23 = .ok (.getfield 63, 3) := by decide +kernel
theorem dX7_character_26 : decode cX7_character 26 = .ok (.iload_n 1, 1) := by decide +kernel
theorem dX7_character_27 : decode cX7_character 27 = .ok (.invokevirtual 288, 3) := by decide +kernel
theorem dX7_character_30 : decode cX7_character 30 = .ok (.ireturn, 1) := by decide +kernel
set_option maxRecDepth 20000 in
theorem ggX7_meanFits_X3_countFits : GoodIn wsX7_meanFits wsX3_countFits := goodIn_ca (goodIn_r _ [9, 10, 11, 12, 13, 8, 14, 15, 16, 17, 18, 19, 20, 21, 22, 23, 24, 25, 26, 27, 28, 29, 30, 31, 32, 33, 34, 35, 36, 37, 38, 51, 52, 53, 54, 55, 56, 57, 58, 59, 60, 61, 62, 63, 64] (by decide +kernel) (by decide +kernel)) (goodIn_sub (fun _ h => List.mem_cons_of_mem _ (List.mem_append_right _ h)) (by decide +kernel))
set_option maxRecDepth 20000 in
theorem gX7_meanFits_X3_countFits : GoodIn wsX7_meanFits (wsV RX7 300 RX3 yX3_countFits wsX3_countFits) := goodIn_app (goodIn_of _ (by decide +kernel)) ggX7_meanFits_X3_countFits
theorem dX7_meanFits_0 : decode cX7_meanFits 0 = .ok (.aload_n 0, 1) := by decide +kernel
theorem dX7_meanFits_1 : decode cX7_meanFits 1 = .ok (.getfield 10, 3) := by decide +kernel
theorem dX7_meanFits_4 : decode cX7_meanFits 4 = .ok (.getfield 292, 3) := by decide +kernel
theorem dX7_meanFits_7 : decode cX7_meanFits 7 = .ok (.ifCond .gt 14, 3) := by decide +kernel
theorem dX7_meanFits_10 : decode cX7_meanFits 10 = .ok (.new 295, 3) := by decide +kernel
theorem dX7_meanFits_13 : decode cX7_meanFits 13 = .ok (.dup, 1) := by decide +kernel
theorem dX7_meanFits_14 : decode cX7_meanFits 14 = .ok (.ldc_w 297, 3) := by decide +kernel
theorem dX7_meanFits_17 : decode cX7_meanFits 17 = .ok (.invokespecial 299, 3) := by decide +kernel
theorem dX7_meanFits_20 : decode cX7_meanFits 20 = .ok (.athrow, 1) := by decide +kernel
theorem dX7_meanFits_21 : decode cX7_meanFits 21 = .ok (.aload_n 0, 1) := by decide +kernel
theorem dX7_meanFits_22 : decode cX7_meanFits 22 = .ok (.getfield 10, 3) := by decide +kernel
theorem dX7_meanFits_25 : decode cX7_meanFits 25 = .ok (.invokevirtual 300, 3) := by decide +kernel
theorem dX7_meanFits_28 : decode cX7_meanFits 28 = .ok (.i2d, 1) := by decide +kernel
theorem dX7_meanFits_29 : decode cX7_meanFits 29 = .ok (.aload_n 0, 1) := by decide +kernel
theorem dX7_meanFits_30 : decode cX7_meanFits 30 = .ok (.getfield 10, 3) := by decide +kernel
theorem dX7_meanFits_33 : decode cX7_meanFits 33 = .ok (.getfield 292, 3) := by decide +kernel
theorem dX7_meanFits_36 : decode cX7_meanFits 36 = .ok (.i2d, 1) := by decide +kernel
theorem dX7_meanFits_37 : decode cX7_meanFits 37 = .ok (.ddiv, 1) := by decide +kernel
theorem dX7_meanFits_38 : decode cX7_meanFits 38 = .ok (.dreturn, 1) := by decide +kernel
set_option maxRecDepth 20000 in
theorem ggX7_openShare_X3_countOpen : GoodIn wsX7_openShare wsX3_countOpen := goodIn_ca (goodIn_r _ [9, 10, 11, 12, 13, 8, 14, 15, 16, 17, 18, 19, 32, 33, 34, 35, 36, 37, 38, 39, 40, 41, 42, 43, 44, 45] (by decide +kernel) (by decide +kernel)) (goodIn_sub (fun _ h => List.mem_cons_of_mem _ (List.mem_append_right _ h)) (by decide +kernel))
set_option maxRecDepth 20000 in
theorem gX7_openShare_X3_countOpen : GoodIn wsX7_openShare (wsV RX7 189 RX3 yX3_countOpen wsX3_countOpen) := goodIn_app (goodIn_of _ (by decide +kernel)) ggX7_openShare_X3_countOpen
theorem dX7_openShare_0 : decode cX7_openShare 0 = .ok (.aload_n 0, 1) := by decide +kernel
theorem dX7_openShare_1 : decode cX7_openShare 1 = .ok (.getfield 10, 3) := by decide +kernel
theorem dX7_openShare_4 : decode cX7_openShare 4 = .ok (.getfield 303, 3) := by decide +kernel
theorem dX7_openShare_7 : decode cX7_openShare 7 = .ok (.ifCond .gt 14, 3) := by decide +kernel
theorem dX7_openShare_10 : decode cX7_openShare 10 = .ok (.new 295, 3) := by decide +kernel
theorem dX7_openShare_13 : decode cX7_openShare 13 = .ok (.dup, 1) := by decide +kernel
theorem dX7_openShare_14 : decode cX7_openShare 14 = .ok (.ldc_w 306, 3) := by decide +kernel
theorem dX7_openShare_17 : decode cX7_openShare 17 = .ok (.invokespecial 299, 3) := by decide +kernel
theorem dX7_openShare_20 : decode cX7_openShare 20 = .ok (.athrow, 1) := by decide +kernel
theorem dX7_openShare_21 : decode cX7_openShare 21 = .ok (.aload_n 0, 1) := by decide +kernel
theorem dX7_openShare_22 : decode cX7_openShare 22 = .ok (.getfield 10, 3) := by decide +kernel
theorem dX7_openShare_25 : decode cX7_openShare 25 = .ok (.invokevirtual 189, 3) := by decide +kernel
theorem dX7_openShare_28 : decode cX7_openShare 28 = .ok (.i2f, 1) := by decide +kernel
theorem dX7_openShare_29 : decode cX7_openShare 29 = .ok (.aload_n 0, 1) := by decide +kernel
theorem dX7_openShare_30 : decode cX7_openShare 30 = .ok (.getfield 10, 3) := by decide +kernel
theorem dX7_openShare_33 : decode cX7_openShare 33 = .ok (.getfield 303, 3) := by decide +kernel
theorem dX7_openShare_36 : decode cX7_openShare 36 = .ok (.i2f, 1) := by decide +kernel
theorem dX7_openShare_37 : decode cX7_openShare 37 = .ok (.fdiv, 1) := by decide +kernel
theorem dX7_openShare_38 : decode cX7_openShare 38 = .ok (.freturn, 1) := by decide +kernel
set_option maxRecDepth 20000 in
theorem ggX7_account_X3_countOpen : GoodIn wsX7_account wsX3_countOpen := goodIn_ca (goodIn_r _ [18, 19, 20, 21, 22, 17, 23, 24, 25, 26, 27, 28, 86, 87, 88, 89, 90, 91, 92, 93, 94, 95, 96, 97, 98, 99] (by decide +kernel) (by decide +kernel)) (goodIn_sub (fun _ h => List.mem_cons_of_mem _ (List.mem_append_right _ h)) (by decide +kernel))
set_option maxRecDepth 20000 in
theorem gX7_account_X3_countOpen : GoodIn wsX7_account (wsV RX7 189 RX3 yX3_countOpen wsX3_countOpen) := goodIn_app (goodIn_of _ (by decide +kernel)) ggX7_account_X3_countOpen
set_option maxRecDepth 20000 in
theorem ggX7_account_X3_countFits : GoodIn wsX7_account wsX3_countFits := goodIn_ca (goodIn_r _ [32, 33, 34, 35, 36, 17, 37, 19, 38, 39, 40, 41, 42, 43, 44, 45, 46, 47, 48, 49, 25, 26, 27, 28, 50, 51, 52, 53, 54, 55, 56, 86, 87, 88, 89, 90, 91, 92, 93, 94, 95, 96, 97, 98, 99] (by decide +kernel) (by decide +kernel)) (goodIn_sub (fun _ h => List.mem_cons_of_mem _ (List.mem_append_right _ h)) (by decide +kernel))
set_option maxRecDepth 20000 in
theorem gX7_account_X3_countFits : GoodIn wsX7_account (wsV RX7 300 RX3 yX3_countFits wsX3_countFits) := goodIn_app (goodIn_of _ (by decide +kernel)) ggX7_account_X3_countFits
set_option maxRecDepth 20000 in
theorem ggX7_account_X3_countBars : GoodIn wsX7_account wsX3_countBars := goodIn_ca (goodIn_r _ [60, 33, 61, 62, 63, 17, 64, 45, 46, 47, 48, 49, 50, 51, 52, 53, 54, 55, 56, 86, 87, 88, 89, 90, 91, 92, 93, 94, 95, 96, 97, 98, 99] (by decide +kernel) (by decide +kernel)) (goodIn_sub (fun _ h => List.mem_cons_of_mem _ (List.mem_append_right _ h)) (by decide +kernel))
set_option maxRecDepth 20000 in
theorem gX7_account_X3_countBars : GoodIn wsX7_account (wsV RX7 308 RX3 yX3_countBars wsX3_countBars) := goodIn_app (goodIn_of _ (by decide +kernel)) ggX7_account_X3_countBars
set_option maxRecDepth 20000 in
theorem ggX7_account_X3_sumCosts : GoodIn wsX7_account wsX3_sumCosts := goodIn_ca (goodIn_r _ [68, 33, 69, 70, 71, 17, 72, 73, 46, 47, 48, 49, 86, 87, 88, 89, 90, 91, 92, 93, 94, 95, 96, 97, 98, 99] (by decide +kernel) (by decide +kernel)) (goodIn_sub (fun _ h => List.mem_cons_of_mem _ (List.mem_append_right _ h)) (by decide +kernel))
set_option maxRecDepth 20000 in
theorem gX7_account_X3_sumCosts : GoodIn wsX7_account (wsV RX7 323 RX3 yX3_sumCosts wsX3_sumCosts) := goodIn_app (goodIn_of _ (by decide +kernel)) ggX7_account_X3_sumCosts
theorem dX7_account_0 : decode cX7_account 0 = .ok (.iload_n 1, 1) := by decide +kernel
theorem dX7_account_1 : decode cX7_account 1 = .ok (.tableswitch 159 0 11 #[63, 71, 79, 87, 95, 103, 111, 119, 127, 135, 143, 151], 63) := by decide +kernel
theorem dX7_account_64 : decode cX7_account 64 = .ok (.aload_n 0, 1) := by decide +kernel
theorem dX7_account_65 : decode cX7_account 65 = .ok (.getfield 10, 3) := by decide +kernel
theorem dX7_account_68 : decode cX7_account 68 = .ok (.getfield 292, 3) := by decide +kernel
theorem dX7_account_71 : decode cX7_account 71 = .ok (.ireturn, 1) := by decide +kernel
theorem dX7_account_72 : decode cX7_account 72 = .ok (.aload_n 0, 1) := by decide +kernel
theorem dX7_account_73 : decode cX7_account 73 = .ok (.getfield 10, 3) := by decide +kernel
theorem dX7_account_76 : decode cX7_account 76 = .ok (.getfield 303, 3) := by decide +kernel
theorem dX7_account_79 : decode cX7_account 79 = .ok (.ireturn, 1) := by decide +kernel
theorem dX7_account_80 : decode cX7_account 80 = .ok (.aload_n 0, 1) := by decide +kernel
theorem dX7_account_81 : decode cX7_account 81 = .ok (.getfield 10, 3) := by decide +kernel
theorem dX7_account_84 : decode cX7_account 84 = .ok (.invokevirtual 189, 3) := by decide +kernel
theorem dX7_account_87 : decode cX7_account 87 = .ok (.ireturn, 1) := by decide +kernel
theorem dX7_account_88 : decode cX7_account 88 = .ok (.aload_n 0, 1) := by decide +kernel
theorem dX7_account_89 : decode cX7_account 89 = .ok (.getfield 10, 3) := by decide +kernel
theorem dX7_account_92 : decode cX7_account 92 = .ok (.invokevirtual 300, 3) := by decide +kernel
theorem dX7_account_95 : decode cX7_account 95 = .ok (.ireturn, 1) := by decide +kernel
theorem dX7_account_96 : decode cX7_account 96 = .ok (.aload_n 0, 1) := by decide +kernel
theorem dX7_account_97 : decode cX7_account 97 = .ok (.getfield 10, 3) := by decide +kernel
theorem dX7_account_100 : decode cX7_account 100 = .ok (.invokevirtual 308, 3) := by decide +kernel
theorem dX7_account_103 : decode cX7_account 103 = .ok (.ireturn, 1) := by decide +kernel
theorem dX7_account_104 : decode cX7_account 104 = .ok (.aload_n 0, 1) := by decide +kernel
theorem dX7_account_105 : decode cX7_account 105 = .ok (.getfield 10, 3) := by decide +kernel
theorem dX7_account_108 : decode cX7_account 108 = .ok (.getfield 311, 3) := by decide +kernel
theorem dX7_account_111 : decode cX7_account 111 = .ok (.ireturn, 1) := by decide +kernel
theorem dX7_account_112 : decode cX7_account 112 = .ok (.aload_n 0, 1) := by decide +kernel
theorem dX7_account_113 : decode cX7_account 113 = .ok (.getfield 10, 3) := by decide +kernel
theorem dX7_account_116 : decode cX7_account 116 = .ok (.getfield 314, 3) := by decide +kernel
theorem dX7_account_119 : decode cX7_account 119 = .ok (.ireturn, 1) := by decide +kernel
theorem dX7_account_120 : decode cX7_account 120 = .ok (.aload_n 0, 1) := by decide +kernel
theorem dX7_account_121 : decode cX7_account 121 = .ok (.getfield 10, 3) := by decide +kernel
theorem dX7_account_124 : decode cX7_account 124 = .ok (.getfield 317, 3) := by decide +kernel
theorem dX7_account_127 : decode cX7_account 127 = .ok (.ireturn, 1) := by decide +kernel
theorem dX7_account_128 : decode cX7_account 128 = .ok (.aload_n 0, 1) := by decide +kernel
theorem dX7_account_129 : decode cX7_account 129 = .ok (.getfield 10, 3) := by decide +kernel
theorem dX7_account_132 : decode cX7_account 132 = .ok (.getfield 320, 3) := by decide +kernel
theorem dX7_account_135 : decode cX7_account 135 = .ok (.ireturn, 1) := by decide +kernel
theorem dX7_account_136 : decode cX7_account 136 = .ok (.aload_n 0, 1) := by decide +kernel
theorem dX7_account_137 : decode cX7_account 137 = .ok (.getfield 10, 3) := by decide +kernel
theorem dX7_account_140 : decode cX7_account 140 = .ok (.invokevirtual 323, 3) := by decide +kernel
theorem dX7_account_143 : decode cX7_account 143 = .ok (.ireturn, 1) := by decide +kernel
theorem dX7_account_144 : decode cX7_account 144 = .ok (.aload_n 0, 1) := by decide +kernel
theorem dX7_account_145 : decode cX7_account 145 = .ok (.getfield 28, 3) := by decide +kernel
theorem dX7_account_148 : decode cX7_account 148 = .ok (.getfield 326, 3) := by decide +kernel
theorem dX7_account_151 : decode cX7_account 151 = .ok (.ireturn, 1) := by decide +kernel
theorem dX7_account_152 : decode cX7_account 152 = .ok (.aload_n 0, 1) := by decide +kernel
theorem dX7_account_153 : decode cX7_account 153 = .ok (.getfield 56, 3) := by decide +kernel
theorem dX7_account_156 : decode cX7_account 156 = .ok (.getfield 231, 3) := by decide +kernel
theorem dX7_account_159 : decode cX7_account 159 = .ok (.ireturn, 1) := by decide +kernel
theorem dX7_account_160 : decode cX7_account 160 = .ok (.new 135, 3) := by decide +kernel
theorem dX7_account_163 : decode cX7_account 163 = .ok (.dup, 1) := by decide +kernel
theorem dX7_account_164 : decode cX7_account 164 = .ok (.ldc_w 327, 3) := by decide +kernel
theorem dX7_account_167 : decode cX7_account 167 = .ok (.invokespecial 139, 3) := by decide +kernel
theorem dX7_account_170 : decode cX7_account 170 = .ok (.athrow, 1) := by decide +kernel
set_option maxRecDepth 20000 in
theorem ggX7_undo_X1_giveBackLatest : GoodIn wsX7_undo wsX1_giveBackLatest := goodIn_r _ [10, 11, 12, 13, 14, 9, 15, 16, 17, 18, 19, 20, 21, 22, 23, 24, 25, 26, 27, 28, 29, 30, 31, 32, 33, 34, 35, 36, 37, 38, 39, 52, 53, 54, 55, 56, 57, 58, 59, 60, 61, 62, 63, 64, 65, 66, 67] (by decide +kernel) (by decide +kernel)
set_option maxRecDepth 20000 in
theorem gX7_undo_X1_giveBackLatest : GoodIn wsX7_undo (wsV RX7 329 RX1 yX1_giveBackLatest wsX1_giveBackLatest) := goodIn_app (goodIn_of _ (by decide +kernel)) ggX7_undo_X1_giveBackLatest
theorem dX7_undo_0 : decode cX7_undo 0 = .ok (.aload_n 0, 1) := by decide +kernel
theorem dX7_undo_1 : decode cX7_undo 1 = .ok (.getfield 28, 3) := by decide +kernel
theorem dX7_undo_4 : decode cX7_undo 4 = .ok (.aload_n 0, 1) := by decide +kernel
theorem dX7_undo_5 : decode cX7_undo 5 = .ok (.getfield 10, 3) := by decide +kernel
theorem dX7_undo_8 : decode cX7_undo 8 = .ok (.invokevirtual 329, 3) := by decide +kernel
theorem dX7_undo_11 : decode cX7_undo 11 = .ok (.ifCond .ne 14, 3) := by decide +kernel
theorem dX7_undo_14 : decode cX7_undo 14 = .ok (.new 226, 3) := by decide +kernel
theorem dX7_undo_17 : decode cX7_undo 17 = .ok (.dup, 1) := by decide +kernel
theorem dX7_undo_18 : decode cX7_undo 18 = .ok (.ldc_w 333, 3) := by decide +kernel
theorem dX7_undo_21 : decode cX7_undo 21 = .ok (.invokespecial 230, 3) := by decide +kernel
theorem dX7_undo_24 : decode cX7_undo 24 = .ok (.athrow, 1) := by decide +kernel
theorem dX7_undo_25 : decode cX7_undo 25 = .ok (.aload_n 0, 1) := by decide +kernel
theorem dX7_undo_26 : decode cX7_undo 26 = .ok (.getfield 28, 3) := by decide +kernel
theorem dX7_undo_29 : decode cX7_undo 29 = .ok (.getfield 326, 3) := by decide +kernel
theorem dX7_undo_32 : decode cX7_undo 32 = .ok (.ireturn, 1) := by decide +kernel
set_option maxRecDepth 20000 in
theorem ggX7_save_X3_copyFrom : GoodIn wsX7_save wsX3_copyFrom := goodIn_r _ [8, 9, 10, 11, 12, 13, 14, 15, 16, 17, 18, 19, 20, 21, 22, 23, 24, 25, 26, 51, 52, 53, 54, 55, 56, 57, 58, 59, 60, 61, 62, 63, 64] (by decide +kernel) (by decide +kernel)
set_option maxRecDepth 20000 in
theorem gX7_save_X3_copyFrom : GoodIn wsX7_save (wsV RX7 75 RX3 yX3_copyFrom wsX3_copyFrom) := goodIn_app (goodIn_of _ (by decide +kernel)) ggX7_save_X3_copyFrom
set_option maxRecDepth 20000 in
theorem ggX7_save_X3_countOpen : GoodIn wsX7_save wsX3_countOpen := goodIn_ca (goodIn_r _ [30, 22, 31, 32, 33, 7, 34, 19, 35, 36, 37, 38, 51, 52, 53, 54, 55, 56, 57, 58, 59, 60, 61, 62, 63, 64] (by decide +kernel) (by decide +kernel)) (goodIn_sub (fun _ h => List.mem_cons_of_mem _ (List.mem_append_right _ h)) (by decide +kernel))
set_option maxRecDepth 20000 in
theorem gX7_save_X3_countOpen : GoodIn wsX7_save (wsV RX7 189 RX3 yX3_countOpen wsX3_countOpen) := goodIn_app (goodIn_of _ (by decide +kernel)) ggX7_save_X3_countOpen
theorem dX7_save_0 : decode cX7_save 0 = .ok (.aload_n 0, 1) := by decide +kernel
theorem dX7_save_1 : decode cX7_save 1 = .ok (.getfield 19, 3) := by decide +kernel
theorem dX7_save_4 : decode cX7_save 4 = .ok (.aload_n 0, 1) := by decide +kernel
theorem dX7_save_5 : decode cX7_save 5 = .ok (.getfield 10, 3) := by decide +kernel
theorem dX7_save_8 : decode cX7_save 8 = .ok (.invokevirtual 75, 3) := by decide +kernel
theorem dX7_save_11 : decode cX7_save 11 = .ok (.aload_n 0, 1) := by decide +kernel
theorem dX7_save_12 : decode cX7_save 12 = .ok (.iconst 1, 1) := by decide +kernel
theorem dX7_save_13 : decode cX7_save 13 = .ok (.putfield 67, 3) := by decide +kernel
theorem dX7_save_16 : decode cX7_save 16 = .ok (.aload_n 0, 1) := by decide +kernel
theorem dX7_save_17 : decode cX7_save 17 = .ok (.getfield 10, 3) := by decide +kernel
theorem dX7_save_20 : decode cX7_save 20 = .ok (.invokevirtual 189, 3) := by decide +kernel
theorem dX7_save_23 : decode cX7_save 23 = .ok (.ireturn, 1) := by decide +kernel
set_option maxRecDepth 20000 in
theorem ggX7_restore_X3_copyFrom : GoodIn wsX7_restore wsX3_copyFrom := goodIn_r _ [11, 12, 13, 14, 15, 16, 17, 18, 19, 20, 21, 22, 23, 24, 25, 26, 27, 28, 29, 60, 61, 62, 63, 64, 65, 66, 67, 68, 69, 70, 71, 72, 73] (by decide +kernel) (by decide +kernel)
set_option maxRecDepth 20000 in
theorem gX7_restore_X3_copyFrom : GoodIn wsX7_restore (wsV RX7 75 RX3 yX3_copyFrom wsX3_copyFrom) := goodIn_app (goodIn_of _ (by decide +kernel)) ggX7_restore_X3_copyFrom
set_option maxRecDepth 20000 in
theorem ggX7_restore_X1_forget : GoodIn wsX7_restore wsX1_forget := goodIn_r _ [34, 35, 74, 75] (by decide +kernel) (by decide +kernel)
set_option maxRecDepth 20000 in
theorem gX7_restore_X1_forget : GoodIn wsX7_restore (wsV RX7 337 RX1 yX1_forget wsX1_forget) := goodIn_app (goodIn_of _ (by decide +kernel)) ggX7_restore_X1_forget
set_option maxRecDepth 20000 in
theorem ggX7_restore_X3_countOpen : GoodIn wsX7_restore wsX3_countOpen := goodIn_ca (goodIn_r _ [39, 25, 40, 41, 42, 10, 43, 22, 44, 45, 46, 47, 60, 61, 62, 63, 64, 65, 66, 67, 68, 69, 70, 71, 72, 73] (by decide +kernel) (by decide +kernel)) (goodIn_sub (fun _ h => List.mem_cons_of_mem _ (List.mem_append_right _ h)) (by decide +kernel))
set_option maxRecDepth 20000 in
theorem gX7_restore_X3_countOpen : GoodIn wsX7_restore (wsV RX7 189 RX3 yX3_countOpen wsX3_countOpen) := goodIn_app (goodIn_of _ (by decide +kernel)) ggX7_restore_X3_countOpen
theorem dX7_restore_0 : decode cX7_restore 0 = .ok (.aload_n 0, 1) := by decide +kernel
theorem dX7_restore_1 : decode cX7_restore 1 = .ok (.getfield 67, 3) := by decide +kernel
theorem dX7_restore_4 : decode cX7_restore 4 = .ok (.ifCond .ne 14, 3) := by decide +kernel
theorem dX7_restore_7 : decode cX7_restore 7 = .ok (.new 226, 3) := by decide +kernel
theorem dX7_restore_10 : decode cX7_restore 10 = .ok (.dup, 1) := by decide +kernel
theorem dX7_restore_11 : decode cX7_restore 11 = .ok (.ldc_w 335, 3) := by decide +kernel
theorem dX7_restore_14 : decode cX7_restore 14 = .ok (.invokespecial 230, 3) := by decide +kernel
theorem dX7_restore_17 : decode cX7_restore 17 = .ok (.athrow, 1) := by decide +kernel
theorem dX7_restore_18 : decode cX7_restore 18 = .ok (.aload_n 0, 1) := by decide +kernel
theorem dX7_restore_19 : decode cX7_restore 19 = .ok (.getfield 10, 3) := by decide +kernel
theorem dX7_restore_22 : decode cX7_restore 22 = .ok (.aload_n 0, 1) := by decide +kernel
theorem dX7_restore_23 : decode cX7_restore 23 = .ok (.getfield 19, 3) := by decide +kernel
theorem dX7_restore_26 : decode cX7_restore 26 = .ok (.invokevirtual 75, 3) := by decide +kernel
theorem dX7_restore_29 : decode cX7_restore 29 = .ok (.aload_n 0, 1) := by decide +kernel
theorem dX7_restore_30 : decode cX7_restore 30 = .ok (.getfield 28, 3) := by decide +kernel
theorem dX7_restore_33 : decode cX7_restore 33 = .ok (.invokevirtual 337, 3) := by decide +kernel
theorem dX7_restore_36 : decode cX7_restore 36 = .ok (.aload_n 0, 1) := by decide +kernel
theorem dX7_restore_37 : decode cX7_restore 37 = .ok (.getfield 10, 3) := by decide +kernel
theorem dX7_restore_40 : decode cX7_restore 40 = .ok (.invokevirtual 189, 3) := by decide +kernel
theorem dX7_restore_43 : decode cX7_restore 43 = .ok (.ireturn, 1) := by decide +kernel
set_option maxRecDepth 20000 in
theorem ggX7_settle_X3_copyFrom : GoodIn wsX7_settle wsX3_copyFrom := goodIn_r _ [12, 13, 14, 15, 16, 17, 18, 19, 20, 21, 22, 23, 24, 25, 26, 27, 28, 29, 30, 62, 63, 64, 65, 66, 67, 68, 69, 70, 71, 72, 73, 74, 75] (by decide +kernel) (by decide +kernel)
set_option maxRecDepth 20000 in
theorem gX7_settle_X3_copyFrom : GoodIn wsX7_settle (wsV RX7 75 RX3 yX3_copyFrom wsX3_copyFrom) := goodIn_app (goodIn_of _ (by decide +kernel)) ggX7_settle_X3_copyFrom
set_option maxRecDepth 20000 in
theorem ggX7_settle_X1_keep : GoodIn wsX7_settle wsX1_keep := goodIn_r _ [35, 36, 37, 38, 39, 34, 40, 41, 42, 43, 44, 45, 46, 9, 10, 11, 12, 13, 14, 15, 16, 17, 18, 19, 20, 21, 22, 23, 24, 25, 26, 27, 28, 29, 30, 76, 77, 62, 63, 64, 65, 66, 67, 68, 69, 70, 71, 72, 73, 74, 75] (by decide +kernel) (by decide +kernel)
set_option maxRecDepth 20000 in
theorem gX7_settle_X1_keep : GoodIn wsX7_settle (wsV RX7 345 RX1 yX1_keep wsX1_keep) := goodIn_app (goodIn_of _ (by decide +kernel)) ggX7_settle_X1_keep
theorem dX7_settle_0 : decode cX7_settle 0 = .ok (.iload_n 1, 1) := by decide +kernel
theorem dX7_settle_1 : decode cX7_settle 1 = .ok (.iconst (-1), 1) := by decide +kernel
theorem dX7_settle_2 : decode cX7_settle 2 = .ok (.if_icmp .ne 33, 3) := by decide +kernel
theorem dX7_settle_5 : decode cX7_settle 5 = .ok (.aload_n 0, 1) := by decide +kernel
theorem dX7_settle_6 : decode cX7_settle 6 = .ok (.getfield 49, 3) := by decide +kernel
theorem dX7_settle_9 : decode cX7_settle 9 = .ok (.iload_n 2, 1) := by decide +kernel
theorem dX7_settle_10 : decode cX7_settle 10 = .ok (.putfield 269, 3) := by decide +kernel
theorem dX7_settle_13 : decode cX7_settle 13 = .ok (.aload_n 0, 1) := by decide +kernel
theorem dX7_settle_14 : decode cX7_settle 14 = .ok (.getfield 10, 3) := by decide +kernel
theorem dX7_settle_17 : decode cX7_settle 17 = .ok (.aload_n 0, 1) := by decide +kernel
theorem dX7_settle_18 : decode cX7_settle 18 = .ok (.getfield 16, 3) := by decide +kernel
theorem dX7_settle_21 : decode cX7_settle 21 = .ok (.invokevirtual 75, 3) := by decide +kernel
theorem dX7_settle_24 : decode cX7_settle 24 = .ok (.new 340, 3) := by decide +kernel
theorem dX7_settle_27 : decode cX7_settle 27 = .ok (.dup, 1) := by decide +kernel
theorem dX7_settle_28 : decode cX7_settle 28 = .ok (.ldc_w 342, 3) := by decide +kernel
theorem dX7_settle_31 : decode cX7_settle 31 = .ok (.invokespecial 344, 3) := by decide +kernel
theorem dX7_settle_34 : decode cX7_settle 34 = .ok (.athrow, 1) := by decide +kernel
theorem dX7_settle_35 : decode cX7_settle 35 = .ok (.aload_n 0, 1) := by decide +kernel
theorem dX7_settle_36 : decode cX7_settle 36 = .ok (.getfield 28, 3) := by decide +kernel
theorem dX7_settle_39 : decode cX7_settle 39 = .ok (.aload_n 0, 1) := by decide +kernel
theorem dX7_settle_40 : decode cX7_settle 40 = .ok (.getfield 16, 3) := by decide +kernel
theorem dX7_settle_43 : decode cX7_settle 43 = .ok (.invokevirtual 345, 3) := by decide +kernel
theorem dX7_settle_46 : decode cX7_settle 46 = .ok (.iload_n 1, 1) := by decide +kernel
theorem dX7_settle_47 : decode cX7_settle 47 = .ok (.ireturn, 1) := by decide +kernel
set_option maxRecDepth 20000 in
theorem ggX7_carryOut_X3_addKey : GoodIn wsX7_carryOut wsX3_addKey := goodIn_ca (goodIn_r _ [8, 9, 10, 11, 12, 13, 14, 15, 16, 17, 18, 19, 20, 21, 22, 23, 24, 25, 26, 170, 171, 172, 173, 174, 175, 176, 177, 178, 179, 180, 181, 182, 183, 184, 185, 186] (by decide +kernel) (by decide +kernel)) (goodIn_sub (fun _ h => List.mem_cons_of_mem _ (List.mem_append_right _ h)) (by decide +kernel))
set_option maxRecDepth 20000 in
theorem gX7_carryOut_X3_addKey : GoodIn wsX7_carryOut (wsV RX7 79 RX3 yX3_addKey wsX3_addKey) := goodIn_app (goodIn_of _ (by decide +kernel)) ggX7_carryOut_X3_addKey
set_option maxRecDepth 20000 in
theorem ggX7_carryOut_X3_addLock : GoodIn wsX7_carryOut wsX3_addLock := goodIn_ca (goodIn_r _ [30, 31, 32, 33, 34, 15, 16, 17, 20, 21, 22, 23, 24, 25, 26, 170, 171, 172, 173, 174, 175, 176, 177, 178, 179, 180, 181, 182, 183, 184, 185, 186] (by decide +kernel) (by decide +kernel)) (goodIn_sub (fun _ h => List.mem_cons_of_mem _ (List.mem_append_right _ h)) (by decide +kernel))
set_option maxRecDepth 20000 in
theorem gX7_carryOut_X3_addLock : GoodIn wsX7_carryOut (wsV RX7 87 RX3 yX3_addLock wsX3_addLock) := goodIn_app (goodIn_of _ (by decide +kernel)) ggX7_carryOut_X3_addLock
set_option maxRecDepth 20000 in
theorem ggX7_carryOut_X3_cutKey : GoodIn wsX7_carryOut wsX3_cutKey := goodIn_ca (goodIn_r _ [38, 10, 13, 39, 40, 41, 7, 42, 9, 20, 21, 22, 23, 24, 25, 26, 15, 16, 17, 43, 44, 45, 46, 47, 48, 49, 50, 51, 52, 53, 14, 33, 54, 55, 56, 57, 58, 59, 60, 61, 62, 31, 63, 64, 65, 66, 32, 67, 12, 170, 171, 172, 173, 174, 175, 176, 177, 178, 179, 180, 181, 182, 183, 184, 185, 186] (by decide +kernel) (by decide +kernel)) (goodIn_sub (fun _ h => List.mem_cons_of_mem _ (List.mem_append_right _ h)) (by decide +kernel))
set_option maxRecDepth 20000 in
theorem gX7_carryOut_X3_cutKey : GoodIn wsX7_carryOut (wsV RX7 91 RX3 yX3_cutKey wsX3_cutKey) := goodIn_app (goodIn_of _ (by decide +kernel)) ggX7_carryOut_X3_cutKey
set_option maxRecDepth 20000 in
theorem ggX7_carryOut_X3_setBar : GoodIn wsX7_carryOut wsX3_setBar := goodIn_ca (goodIn_r _ [71, 12, 39, 40, 41, 7, 42, 9, 20, 21, 22, 23, 24, 25, 26, 59, 60, 61, 62, 31, 72, 73, 74, 75, 76, 77, 78, 79, 50, 51, 52, 53, 14, 33, 54, 55, 56, 57, 58, 63, 64, 65, 66, 32, 10, 67, 43, 44, 45, 46, 47, 48, 49, 80, 81, 82, 83, 170, 171, 172, 173, 174, 175, 176, 177, 178, 179, 180, 181, 182, 183, 184, 185, 186] (by decide +kernel) (by decide +kernel)) (goodIn_sub (fun _ h => List.mem_cons_of_mem _ (List.mem_append_right _ h)) (by decide +kernel))
set_option maxRecDepth 20000 in
theorem gX7_carryOut_X3_setBar : GoodIn wsX7_carryOut (wsV RX7 94 RX3 yX3_setBar wsX3_setBar) := goodIn_app (goodIn_of _ (by decide +kernel)) ggX7_carryOut_X3_setBar
set_option maxRecDepth 20000 in
theorem ggX7_carryOut_X3_putIn : GoodIn wsX7_carryOut wsX3_putIn := goodIn_ca (goodIn_r _ [87, 14, 33, 39, 40, 41, 7, 42, 9, 20, 21, 22, 23, 24, 25, 26, 59, 60, 61, 62, 31, 63, 64, 65, 66, 32, 10, 67, 12, 43, 44, 45, 46, 47, 48, 49, 88, 89, 90, 91, 92, 93, 94, 95, 96, 97, 98, 99, 100, 101, 102, 103, 34, 104, 105, 106, 107, 108, 109, 110, 111, 170, 171, 172, 173, 174, 175, 176, 177, 178, 179, 180, 181, 182, 183, 184, 185, 186] (by decide +kernel) (by decide +kernel)) (goodIn_sub (fun _ h => List.mem_cons_of_mem _ (List.mem_append_right _ h)) (by decide +kernel))
set_option maxRecDepth 20000 in
theorem gX7_carryOut_X3_putIn : GoodIn wsX7_carryOut (wsV RX7 101 RX3 yX3_putIn wsX3_putIn) := goodIn_app (goodIn_of _ (by decide +kernel)) ggX7_carryOut_X3_putIn
set_option maxRecDepth 20000 in
theorem ggX7_carryOut_X3_takeOut : GoodIn wsX7_carryOut wsX3_takeOut := goodIn_ca (goodIn_r _ [115, 14, 33, 39, 40, 41, 7, 42, 9, 20, 21, 22, 23, 24, 25, 26, 59, 60, 61, 62, 31, 170, 171, 172, 173, 174, 175, 176, 177, 178, 179, 180, 181, 182, 183, 184, 185, 186] (by decide +kernel) (by decide +kernel)) (goodIn_sub (fun _ h => List.mem_cons_of_mem _ (List.mem_append_right _ h)) (by decide +kernel))
set_option maxRecDepth 20000 in
theorem gX7_carryOut_X3_takeOut : GoodIn wsX7_carryOut (wsV RX7 104 RX3 yX3_takeOut wsX3_takeOut) := goodIn_app (goodIn_of _ (by decide +kernel)) ggX7_carryOut_X3_takeOut
set_option maxRecDepth 20000 in
theorem ggX7_carryOut_X3_setSlack : GoodIn wsX7_carryOut wsX3_setSlack := goodIn_ca (goodIn_r _ [119, 67, 20, 21, 22, 23, 24, 25, 26, 50, 51, 52, 7, 53, 9, 14, 33, 54, 55, 56, 57, 58, 39, 40, 41, 42, 59, 60, 61, 62, 31, 63, 64, 65, 66, 32, 10, 12, 43, 44, 45, 46, 47, 48, 49, 170, 171, 172, 173, 174, 175, 176, 177, 178, 179, 180, 181, 182, 183, 184, 185, 186] (by decide +kernel) (by decide +kernel)) (goodIn_sub (fun _ h => List.mem_cons_of_mem _ (List.mem_append_right _ h)) (by decide +kernel))
set_option maxRecDepth 20000 in
theorem gX7_carryOut_X3_setSlack : GoodIn wsX7_carryOut (wsV RX7 98 RX3 yX3_setSlack wsX3_setSlack) := goodIn_app (goodIn_of _ (by decide +kernel)) ggX7_carryOut_X3_setSlack
set_option maxRecDepth 20000 in
theorem ggX7_carryOut_X6_run : GoodIn wsX7_carryOut wsX6_run := goodIn_ca (goodIn_r _ [124, 125, 126, 127, 128, 129, 130, 131, 132, 123, 133, 134, 135, 40, 41, 7, 42, 9, 136, 56, 57, 58, 14, 39, 137, 138, 139, 140, 141, 142, 143, 144, 145, 146, 64, 65, 66, 32, 10, 67, 12, 59, 60, 61, 62, 31, 43, 44, 45, 46, 47, 48, 49, 147, 109, 110, 111, 33, 148, 149, 150, 151, 152, 153, 154, 155, 101, 102, 103, 34, 187, 188, 189, 170, 171, 172, 173, 174, 175, 176, 177, 178, 179, 180, 181, 182, 183] (by decide +kernel) (by decide +kernel)) (goodIn_sub (fun _ h => List.mem_cons_of_mem _ (List.mem_append_right _ h)) (by decide +kernel))
set_option maxRecDepth 20000 in
theorem gX7_carryOut_X6_run : GoodIn wsX7_carryOut (wsV RX7 183 RX6 yX6_run wsX6_run) := goodIn_app (goodIn_of _ (by decide +kernel)) ggX7_carryOut_X6_run
set_option maxRecDepth 20000 in
theorem ggX7_carryOut_X3_countOpen : GoodIn wsX7_carryOut wsX3_countOpen := goodIn_ca (goodIn_r _ [107, 31, 108, 109, 110, 7, 111, 33, 59, 60, 61, 62, 170, 171, 172, 173, 174, 175, 176, 177, 178, 179, 180, 181, 182, 183] (by decide +kernel) (by decide +kernel)) (goodIn_sub (fun _ h => List.mem_cons_of_mem _ (List.mem_append_right _ h)) (by decide +kernel))
set_option maxRecDepth 20000 in
theorem gX7_carryOut_X3_countOpen : GoodIn wsX7_carryOut (wsV RX7 189 RX3 yX3_countOpen wsX3_countOpen) := goodIn_app (goodIn_of _ (by decide +kernel)) ggX7_carryOut_X3_countOpen
set_option maxRecDepth 20000 in
theorem ggX7_carryOut_X5_refuse : GoodIn wsX7_carryOut wsX5_refuse := goodIn_r _ [24, 25, 26, 184, 185, 186] (by decide +kernel) (by decide +kernel)
set_option maxRecDepth 20000 in
theorem gX7_carryOut_X5_refuse : GoodIn wsX7_carryOut (wsV RX7 348 RX5 yX5_refuse wsX5_refuse) := goodIn_app (goodIn_of _ (by decide +kernel)) ggX7_carryOut_X5_refuse
theorem dX7_carryOut_0 : decode cX7_carryOut 0 = .ok (.iload_n 1, 1) := by decide +kernel
theorem dX7_carryOut_1 : decode cX7_carryOut 1 = .ok (.tableswitch 206 98 117 #[136, 122, 206, 206, 206, 206, 206, 206, 206, 95, 109, 206, 206, 206, 166, 206, 206, 193, 180, 151], 95) := by decide +kernel
theorem dX7_carryOut_96 : decode cX7_carryOut 96 = .ok (.aload_n 0, 1) := by decide +kernel
theorem dX7_carryOut_97 : decode cX7_carryOut 97 = .ok (.getfield 10, 3) := by decide +kernel
theorem dX7_carryOut_100 : decode cX7_carryOut 100 = .ok (.iload_n 2, 1) := by decide +kernel
theorem dX7_carryOut_101 : decode cX7_carryOut 101 = .ok (.iload_n 3, 1) := by decide +kernel
theorem dX7_carryOut_102 : decode cX7_carryOut 102 = .ok (.aload_n 0, 1) := by decide +kernel
theorem dX7_carryOut_103 : decode cX7_carryOut 103 = .ok (.getfield 49, 3) := by decide +kernel
theorem dX7_carryOut_106 : decode cX7_carryOut 106 = .ok (.invokevirtual 79, 3) := by decide +kernel
theorem dX7_carryOut_109 : decode cX7_carryOut 109 = .ok (.ireturn, 1) := by decide +kernel
theorem dX7_carryOut_110 : decode cX7_carryOut 110 = .ok (.aload_n 0, 1) := by decide +kernel
theorem dX7_carryOut_111 : decode cX7_carryOut 111 = .ok (.getfield 10, 3) := by decide +kernel
theorem dX7_carryOut_114 : decode cX7_carryOut 114 = .ok (.iload_n 2, 1) := by decide +kernel
theorem dX7_carryOut_115 : decode cX7_carryOut 115 = .ok (.aload_n 0, 1) := by decide +kernel
theorem dX7_carryOut_116 : decode cX7_carryOut 116 = .ok (.getfield 49, 3) := by decide +kernel
theorem dX7_carryOut_119 : decode cX7_carryOut 119 = .ok (.invokevirtual 87, 3) := by decide +kernel
theorem dX7_carryOut_122 : decode cX7_carryOut 122 = .ok (.ireturn, 1) := by decide +kernel
theorem dX7_carryOut_123 : decode cX7_carryOut 123 = .ok (.aload_n 0, 1) := by decide +kernel
theorem dX7_carryOut_124 : decode cX7_carryOut 124 = .ok (.getfield 10, 3) := by decide +kernel
theorem dX7_carryOut_127 : decode cX7_carryOut 127 = .ok (.iload_n 2, 1) := by decide +kernel
theorem dX7_carryOut_128 : decode cX7_carryOut 128 = .ok (.iload_n 3, 1) := by decide +kernel
theorem dX7_carryOut_129 : decode cX7_carryOut 129 = .ok (.aload_n 0, 1) := by decide +kernel
theorem dX7_carryOut_130 : decode cX7_carryOut 130 = .ok (.getfield 49, 3) := by decide +kernel
theorem dX7_carryOut_133 : decode cX7_carryOut 133 = .ok (.invokevirtual 91, 3) := by decide +kernel
theorem dX7_carryOut_136 : decode cX7_carryOut 136 = .ok (.ireturn, 1) := by decide +kernel
theorem dX7_carryOut_137 : decode cX7_carryOut 137 = .ok (.aload_n 0, 1) := by decide +kernel
theorem dX7_carryOut_138 : decode cX7_carryOut 138 = .ok (.getfield 10, 3) := by decide +kernel
theorem dX7_carryOut_141 : decode cX7_carryOut 141 = .ok (.iload_n 2, 1) := by decide +kernel
theorem dX7_carryOut_142 : decode cX7_carryOut 142 = .ok (.iload_n 3, 1) := by decide +kernel
theorem dX7_carryOut_143 : decode cX7_carryOut 143 = .ok (.iconst 1, 1) := by decide +kernel
theorem dX7_carryOut_144 : decode cX7_carryOut 144 = .ok (.aload_n 0, 1) := by decide +kernel
theorem dX7_carryOut_145 : decode cX7_carryOut 145 = .ok (.getfield 49, 3) := by decide +kernel
theorem dX7_carryOut_148 : decode cX7_carryOut 148 = .ok (.invokevirtual 94, 3) := by decide +kernel
theorem dX7_carryOut_151 : decode cX7_carryOut 151 = .ok (.ireturn, 1) := by decide +kernel
theorem dX7_carryOut_152 : decode cX7_carryOut 152 = .ok (.aload_n 0, 1) := by decide +kernel
theorem dX7_carryOut_153 : decode cX7_carryOut 153 = .ok (.getfield 10, 3) := by decide +kernel
theorem dX7_carryOut_156 : decode cX7_carryOut 156 = .ok (.iload_n 2, 1) := by decide +kernel
theorem dX7_carryOut_157 : decode cX7_carryOut 157 = .ok (.iload_n 3, 1) := by decide +kernel
theorem dX7_carryOut_158 : decode cX7_carryOut 158 = .ok (.iconst 0, 1) := by decide +kernel
theorem dX7_carryOut_159 : decode cX7_carryOut 159 = .ok (.aload_n 0, 1) := by decide +kernel
theorem dX7_carryOut_160 : decode cX7_carryOut 160 = .ok (.getfield 49, 3) := by decide +kernel
theorem dX7_carryOut_163 : decode cX7_carryOut 163 = .ok (.invokevirtual 94, 3) := by decide +kernel
theorem dX7_carryOut_166 : decode cX7_carryOut 166 = .ok (.ireturn, 1) := by decide +kernel
theorem dX7_carryOut_167 : decode cX7_carryOut 167 = .ok (.aload_n 0, 1) := by decide +kernel
theorem dX7_carryOut_168 : decode cX7_carryOut 168 = .ok (.getfield 10, 3) := by decide +kernel
theorem dX7_carryOut_171 : decode cX7_carryOut 171 = .ok (.iload_n 2, 1) := by decide +kernel
theorem dX7_carryOut_172 : decode cX7_carryOut 172 = .ok (.iload_n 3, 1) := by decide +kernel
theorem dX7_carryOut_173 : decode cX7_carryOut 173 = .ok (.aload_n 0, 1) := by decide +kernel
theorem dX7_carryOut_174 : decode cX7_carryOut 174 = .ok (.getfield 49, 3) := by decide +kernel
theorem dX7_carryOut_177 : decode cX7_carryOut 177 = .ok (.invokevirtual 101, 3) := by decide +kernel
theorem dX7_carryOut_180 : decode cX7_carryOut 180 = .ok (.ireturn, 1) := by decide +kernel
theorem dX7_carryOut_181 : decode cX7_carryOut 181 = .ok (.aload_n 0, 1) := by decide +kernel
theorem dX7_carryOut_182 : decode cX7_carryOut 182 = .ok (.getfield 10, 3) := by decide +kernel
theorem dX7_carryOut_185 : decode cX7_carryOut 185 = .ok (.iload_n 2, 1) := by decide +kernel
theorem dX7_carryOut_186 : decode cX7_carryOut 186 = .ok (.aload_n 0, 1) := by decide +kernel
theorem dX7_carryOut_187 : decode cX7_carryOut 187 = .ok (.getfield 49, 3) := by decide +kernel
theorem dX7_carryOut_190 : decode cX7_carryOut 190 = .ok (.invokevirtual 104, 3) := by decide +kernel
theorem dX7_carryOut_193 : decode cX7_carryOut 193 = .ok (.ireturn, 1) := by decide +kernel
theorem dX7_carryOut_194 : decode cX7_carryOut 194 = .ok (.aload_n 0, 1) := by decide +kernel
theorem dX7_carryOut_195 : decode cX7_carryOut 195 = .ok (.getfield 10, 3) := by decide +kernel
theorem dX7_carryOut_198 : decode cX7_carryOut 198 = .ok (.iload_n 2, 1) := by decide +kernel
theorem dX7_carryOut_199 : decode cX7_carryOut 199 = .ok (.aload_n 0, 1) := by decide +kernel
theorem dX7_carryOut_200 : decode cX7_carryOut 200 = .ok (.getfield 49, 3) := by decide +kernel
theorem dX7_carryOut_203 : decode cX7_carryOut 203 = .ok (.invokevirtual 98, 3) := by decide +kernel
theorem dX7_carryOut_206 : decode cX7_carryOut 206 = .ok (.ireturn, 1) := by decide +kernel
theorem dX7_carryOut_207 : decode cX7_carryOut 207 = .ok (.aload_n 0, 1) := by decide +kernel
theorem dX7_carryOut_208 : decode cX7_carryOut 208 = .ok (.getfield 35, 3) := by decide +kernel
theorem dX7_carryOut_211 : decode cX7_carryOut 211 = .ok (.aload_n 0, 1) := by decide +kernel
theorem dX7_carryOut_212 : decode cX7_carryOut 212 = .ok (.getfield 10, 3) := by decide +kernel
theorem dX7_carryOut_215 : decode cX7_carryOut 215 = .ok (.invokevirtual 183, 3) := by decide +kernel
theorem dX7_carryOut_218 : decode cX7_carryOut 218 = .ok (.istore 4, 2) := by decide +kernel
theorem dX7_carryOut_220 : decode cX7_carryOut 220 = .ok (.iload 4, 2) := by decide +kernel
theorem dX7_carryOut_222 : decode cX7_carryOut 222 = .ok (.ifCond .le 8, 3) := by decide +kernel
theorem dX7_carryOut_225 : decode cX7_carryOut 225 = .ok (.iload 4, 2) := by decide +kernel
theorem dX7_carryOut_227 : decode cX7_carryOut 227 = .ok (.goto 19, 3) := by decide +kernel
theorem dX7_carryOut_230 : decode cX7_carryOut 230 = .ok (.aload_n 0, 1) := by decide +kernel
theorem dX7_carryOut_231 : decode cX7_carryOut 231 = .ok (.getfield 49, 3) := by decide +kernel
theorem dX7_carryOut_234 : decode cX7_carryOut 234 = .ok (.bipush 10, 2) := by decide +kernel
theorem dX7_carryOut_236 : decode cX7_carryOut 236 = .ok (.aload_n 0, 1) := by decide +kernel
theorem dX7_carryOut_237 : decode cX7_carryOut 237 = .ok (.getfield 10, 3) := by decide +kernel
theorem dX7_carryOut_240 : decode cX7_carryOut 240 = .ok (.invokevirtual 189, 3) := by decide +kernel
theorem dX7_carryOut_243 : decode cX7_carryOut 243 = .ok (.invokevirtual 348, 3) := by decide +kernel
theorem dX7_carryOut_246 : decode cX7_carryOut 246 = .ok (.ireturn, 1) := by decide +kernel
set_option maxRecDepth 20000 in
theorem ggX7_requireKey_X3_hasKey : GoodIn wsX7_requireKey wsX3_hasKey := goodIn_r _ [8, 9, 22, 23, 24, 25, 26, 27, 28, 29, 30, 31, 32, 33, 34, 35] (by decide +kernel) (by decide +kernel)
set_option maxRecDepth 20000 in
theorem gX7_requireKey_X3_hasKey : GoodIn wsX7_requireKey (wsV RX7 351 RX3 yX3_hasKey wsX3_hasKey) := goodIn_app (goodIn_of _ (by decide +kernel)) ggX7_requireKey_X3_hasKey
theorem dX7_requireKey_0 : decode cX7_requireKey 0 = .ok (.aload_n 0, 1) := by decide +kernel
theorem dX7_requireKey_1 : decode cX7_requireKey 1 = .ok (.getfield 10, 3) := by decide +kernel
theorem dX7_requireKey_4 : decode cX7_requireKey 4 = .ok (.iload_n 1, 1) := by decide +kernel
theorem dX7_requireKey_5 : decode cX7_requireKey 5 = .ok (.invokevirtual 351, 3) := by decide +kernel
theorem dX7_requireKey_8 : decode cX7_requireKey 8 = .ok (.ifCond .ne 14, 3) := by decide +kernel
theorem dX7_requireKey_11 : decode cX7_requireKey 11 = .ok (.new 283, 3) := by decide +kernel
theorem dX7_requireKey_14 : decode cX7_requireKey 14 = .ok (.dup, 1) := by decide +kernel
theorem dX7_requireKey_15 : decode cX7_requireKey 15 = .ok (.ldc_w 354, 3) := by decide +kernel
theorem dX7_requireKey_18 : decode cX7_requireKey 18 = .ok (.invokespecial 287, 3) := by decide +kernel
theorem dX7_requireKey_21 : decode cX7_requireKey 21 = .ok (.athrow, 1) := by decide +kernel
theorem dX7_requireKey_22 : decode cX7_requireKey 22 = .ok (.return_, 1) := by decide +kernel
set_option maxRecDepth 20000 in
theorem ggX7_requireLock_X3_hasLock : GoodIn wsX7_requireLock wsX3_hasLock := goodIn_r _ [8, 9, 22, 23, 24, 25, 26, 27, 28, 29, 30, 31, 32, 33, 34, 35] (by decide +kernel) (by decide +kernel)
set_option maxRecDepth 20000 in
theorem gX7_requireLock_X3_hasLock : GoodIn wsX7_requireLock (wsV RX7 356 RX3 yX3_hasLock wsX3_hasLock) := goodIn_app (goodIn_of _ (by decide +kernel)) ggX7_requireLock_X3_hasLock
theorem dX7_requireLock_0 : decode cX7_requireLock 0 = .ok (.aload_n 0, 1) := by decide +kernel
theorem dX7_requireLock_1 : decode cX7_requireLock 1 = .ok (.getfield 10, 3) := by decide +kernel
theorem dX7_requireLock_4 : decode cX7_requireLock 4 = .ok (.iload_n 1, 1) := by decide +kernel
theorem dX7_requireLock_5 : decode cX7_requireLock 5 = .ok (.invokevirtual 356, 3) := by decide +kernel
theorem dX7_requireLock_8 : decode cX7_requireLock 8 = .ok (.ifCond .ne 14, 3) := by decide +kernel
theorem dX7_requireLock_11 : decode cX7_requireLock 11 = .ok (.new 283, 3) := by decide +kernel
theorem dX7_requireLock_14 : decode cX7_requireLock 14 = .ok (.dup, 1) := by decide +kernel
theorem dX7_requireLock_15 : decode cX7_requireLock 15 = .ok (.ldc_w 359, 3) := by decide +kernel
theorem dX7_requireLock_18 : decode cX7_requireLock 18 = .ok (.invokespecial 287, 3) := by decide +kernel
theorem dX7_requireLock_21 : decode cX7_requireLock 21 = .ok (.athrow, 1) := by decide +kernel
theorem dX7_requireLock_22 : decode cX7_requireLock 22 = .ok (.return_, 1) := by decide +kernel
theorem dX7_isSet_0 : decode cX7_isSet 0 = .ok (.iload_n 0, 1) := by decide +kernel
theorem dX7_isSet_1 : decode cX7_isSet 1 = .ok (.ifCond .lt 13, 3) := by decide +kernel
theorem dX7_isSet_4 : decode cX7_isSet 4 = .ok (.iload_n 0, 1) := by decide +kernel
theorem dX7_isSet_5 : decode cX7_isSet 5 = .ok (.bipush 63, 2) := by decide +kernel
theorem dX7_isSet_7 : decode cX7_isSet 7 = .ok (.if_icmp .gt 7, 3) := by decide +kernel
theorem dX7_isSet_10 : decode cX7_isSet 10 = .ok (.iconst 1, 1) := by decide +kernel
theorem dX7_isSet_11 : decode cX7_isSet 11 = .ok (.goto 4, 3) := by decide +kernel
theorem dX7_isSet_14 : decode cX7_isSet 14 = .ok (.iconst 0, 1) := by decide +kernel
theorem dX7_isSet_15 : decode cX7_isSet 15 = .ok (.ireturn, 1) := by decide +kernel
theorem dX7_isPorter_0 : decode cX7_isPorter 0 = .ok (.iload_n 0, 1) := by decide +kernel
theorem dX7_isPorter_1 : decode cX7_isPorter 1 = .ok (.ifCond .lt 12, 3) := by decide +kernel
theorem dX7_isPorter_4 : decode cX7_isPorter 4 = .ok (.iload_n 0, 1) := by decide +kernel
theorem dX7_isPorter_5 : decode cX7_isPorter 5 = .ok (.iconst 4, 1) := by decide +kernel
theorem dX7_isPorter_6 : decode cX7_isPorter 6 = .ok (.if_icmp .ge 7, 3) := by decide +kernel
theorem dX7_isPorter_9 : decode cX7_isPorter 9 = .ok (.iconst 1, 1) := by decide +kernel
theorem dX7_isPorter_10 : decode cX7_isPorter 10 = .ok (.goto 4, 3) := by decide +kernel
theorem dX7_isPorter_13 : decode cX7_isPorter 13 = .ok (.iconst 0, 1) := by decide +kernel
theorem dX7_isPorter_14 : decode cX7_isPorter 14 = .ok (.ireturn, 1) := by decide +kernel
theorem dX8_init_0 : decode cX8_init 0 = .ok (.aload_n 0, 1) := by decide +kernel
theorem dX8_init_1 : decode cX8_init 1 = .ok (.invokespecial 1, 3) := by decide +kernel
theorem dX8_init_4 : decode cX8_init 4 = .ok (.aload_n 0, 1) := by decide +kernel
theorem dX8_init_5 : decode cX8_init 5 = .ok (.sipush 177, 3) := by decide +kernel
theorem dX8_init_8 : decode cX8_init 8 = .ok (.newarray .int, 2) := by decide +kernel
theorem dX8_init_10 : decode cX8_init 10 = .ok (.putfield 7, 3) := by decide +kernel
theorem dX8_init_13 : decode cX8_init 13 = .ok (.aload_n 0, 1) := by decide +kernel
theorem dX8_init_14 : decode cX8_init 14 = .ok (.sipush 1416, 3) := by decide +kernel
theorem dX8_init_17 : decode cX8_init 17 = .ok (.newarray .int, 2) := by decide +kernel
theorem dX8_init_19 : decode cX8_init 19 = .ok (.putfield 13, 3) := by decide +kernel
theorem dX8_init_22 : decode cX8_init 22 = .ok (.aload_n 0, 1) := by decide +kernel
theorem dX8_init_23 : decode cX8_init 23 = .ok (.sipush 177, 3) := by decide +kernel
theorem dX8_init_26 : decode cX8_init 26 = .ok (.newarray .int, 2) := by decide +kernel
theorem dX8_init_28 : decode cX8_init 28 = .ok (.putfield 16, 3) := by decide +kernel
theorem dX8_init_31 : decode cX8_init 31 = .ok (.aload_n 0, 1) := by decide +kernel
theorem dX8_init_32 : decode cX8_init 32 = .ok (.sipush 177, 3) := by decide +kernel
theorem dX8_init_35 : decode cX8_init 35 = .ok (.newarray .int, 2) := by decide +kernel
theorem dX8_init_37 : decode cX8_init 37 = .ok (.putfield 19, 3) := by decide +kernel
theorem dX8_init_40 : decode cX8_init 40 = .ok (.aload_n 0, 1) := by decide +kernel
theorem dX8_init_41 : decode cX8_init 41 = .ok (.sipush 177, 3) := by decide +kernel
theorem dX8_init_44 : decode cX8_init 44 = .ok (.newarray .int, 2) := by decide +kernel
theorem dX8_init_46 : decode cX8_init 46 = .ok (.putfield 22, 3) := by decide +kernel
theorem dX8_init_49 : decode cX8_init 49 = .ok (.aload_n 0, 1) := by decide +kernel
theorem dX8_init_50 : decode cX8_init 50 = .ok (.bipush 60, 2) := by decide +kernel
theorem dX8_init_52 : decode cX8_init 52 = .ok (.newarray .int, 2) := by decide +kernel
theorem dX8_init_54 : decode cX8_init 54 = .ok (.putfield 25, 3) := by decide +kernel
theorem dX8_init_57 : decode cX8_init 57 = .ok (.aload_n 0, 1) := by decide +kernel
theorem dX8_init_58 : decode cX8_init 58 = .ok (.iconst (-1), 1) := by decide +kernel
theorem dX8_init_59 : decode cX8_init 59 = .ok (.putfield 28, 3) := by decide +kernel
theorem dX8_init_62 : decode cX8_init 62 = .ok (.aload_n 0, 1) := by decide +kernel
theorem dX8_init_63 : decode cX8_init 63 = .ok (.bipush 90, 2) := by decide +kernel
theorem dX8_init_65 : decode cX8_init 65 = .ok (.newarray .char, 2) := by decide +kernel
theorem dX8_init_67 : decode cX8_init 67 = .ok (.putfield 32, 3) := by decide +kernel
theorem dX8_init_70 : decode cX8_init 70 = .ok (.aload_n 0, 1) := by decide +kernel
theorem dX8_init_71 : decode cX8_init 71 = .ok (.bipush 10, 2) := by decide +kernel
theorem dX8_init_73 : decode cX8_init 73 = .ok (.newarray .int, 2) := by decide +kernel
theorem dX8_init_75 : decode cX8_init 75 = .ok (.putfield 36, 3) := by decide +kernel
theorem dX8_init_78 : decode cX8_init 78 = .ok (.aload_n 0, 1) := by decide +kernel
theorem dX8_init_79 : decode cX8_init 79 = .ok (.bipush 10, 2) := by decide +kernel
theorem dX8_init_81 : decode cX8_init 81 = .ok (.newarray .boolean, 2) := by decide +kernel
theorem dX8_init_83 : decode cX8_init 83 = .ok (.putfield 39, 3) := by decide +kernel
theorem dX8_init_86 : decode cX8_init 86 = .ok (.aload_n 0, 1) := by decide +kernel
theorem dX8_init_87 : decode cX8_init 87 = .ok (.bipush 124, 2) := by decide +kernel
theorem dX8_init_89 : decode cX8_init 89 = .ok (.newarray .int, 2) := by decide +kernel
theorem dX8_init_91 : decode cX8_init 91 = .ok (.putfield 43, 3) := by decide +kernel
theorem dX8_init_94 : decode cX8_init 94 = .ok (.aload_n 0, 1) := by decide +kernel
theorem dX8_init_95 : decode cX8_init 95 = .ok (.getfield 7, 3) := by decide +kernel
theorem dX8_init_98 : decode cX8_init 98 = .ok (.iconst 2, 1) := by decide +kernel
theorem dX8_init_99 : decode cX8_init 99 = .ok (.bipush 6, 2) := by decide +kernel
theorem dX8_init_101 : decode cX8_init 101 = .ok (.iastore, 1) := by decide +kernel
theorem dX8_init_102 : decode cX8_init 102 = .ok (.return_, 1) := by decide +kernel
theorem dX8_thrown_0 : decode cX8_thrown 0 = .ok (.aload_n 0, 1) := by decide +kernel
theorem dX8_thrown_1 : decode cX8_thrown 1 = .ok (.getfield 46, 3) := by decide +kernel
theorem dX8_thrown_4 : decode cX8_thrown 4 = .ok (.ireturn, 1) := by decide +kernel
theorem dX8_fails_0 : decode cX8_fails 0 = .ok (.aload_n 0, 1) := by decide +kernel
theorem dX8_fails_1 : decode cX8_fails 1 = .ok (.iload_n 1, 1) := by decide +kernel
theorem dX8_fails_2 : decode cX8_fails 2 = .ok (.putfield 46, 3) := by decide +kernel
theorem dX8_fails_5 : decode cX8_fails 5 = .ok (.iload_n 1, 1) := by decide +kernel
theorem dX8_fails_6 : decode cX8_fails 6 = .ok (.ifCond .le 7, 3) := by decide +kernel
theorem dX8_fails_9 : decode cX8_fails 9 = .ok (.iconst 1, 1) := by decide +kernel
theorem dX8_fails_10 : decode cX8_fails 10 = .ok (.goto 4, 3) := by decide +kernel
theorem dX8_fails_13 : decode cX8_fails 13 = .ok (.iconst 0, 1) := by decide +kernel
theorem dX8_fails_14 : decode cX8_fails 14 = .ok (.ireturn, 1) := by decide +kernel
theorem dX8_refuses_0 : decode cX8_refuses 0 = .ok (.aload_n 0, 1) := by decide +kernel
theorem dX8_refuses_1 : decode cX8_refuses 1 = .ok (.iconst 1, 1) := by decide +kernel
theorem dX8_refuses_2 : decode cX8_refuses 2 = .ok (.putfield 46, 3) := by decide +kernel
theorem dX8_refuses_5 : decode cX8_refuses 5 = .ok (.aload_n 0, 1) := by decide +kernel
theorem dX8_refuses_6 : decode cX8_refuses 6 = .ok (.iload_n 1, 1) := by decide +kernel
theorem dX8_refuses_7 : decode cX8_refuses 7 = .ok (.putfield 49, 3) := by decide +kernel
theorem dX8_refuses_10 : decode cX8_refuses 10 = .ok (.aload_n 0, 1) := by decide +kernel
theorem dX8_refuses_11 : decode cX8_refuses 11 = .ok (.iload_n 2, 1) := by decide +kernel
theorem dX8_refuses_12 : decode cX8_refuses 12 = .ok (.putfield 52, 3) := by decide +kernel
theorem dX8_refuses_15 : decode cX8_refuses 15 = .ok (.aload_n 0, 1) := by decide +kernel
theorem dX8_refuses_16 : decode cX8_refuses 16 = .ok (.aload_n 0, 1) := by decide +kernel
theorem dX8_refuses_17 : decode cX8_refuses 17 = .ok (.getfield 55, 3) := by decide +kernel
theorem dX8_refuses_20 : decode cX8_refuses 20 = .ok (.ifCond .eq 10, 3) := by decide +kernel
theorem dX8_refuses_23 : decode cX8_refuses 23 = .ok (.aload_n 0, 1) := by decide +kernel
theorem dX8_refuses_24 : decode cX8_refuses 24 = .ok (.getfield 59, 3) := by decide +kernel
theorem dX8_refuses_27 : decode cX8_refuses 27 = .ok (.goto 4, 3) := by decide +kernel
theorem dX8_refuses_30 : decode cX8_refuses 30 = .ok (.iconst 0, 1) := by decide +kernel
theorem dX8_refuses_31 : decode cX8_refuses 31 = .ok (.putfield 62, 3) := by decide +kernel
theorem dX8_refuses_34 : decode cX8_refuses 34 = .ok (.iconst 0, 1) := by decide +kernel
theorem dX8_refuses_35 : decode cX8_refuses 35 = .ok (.ireturn, 1) := by decide +kernel
theorem dX8_in_0 : decode cX8_in 0 = .ok (.iload_n 0, 1) := by decide +kernel
theorem dX8_in_1 : decode cX8_in 1 = .ok (.iload_n 1, 1) := by decide +kernel
theorem dX8_in_2 : decode cX8_in 2 = .ok (.if_icmp .lt 12, 3) := by decide +kernel
theorem dX8_in_5 : decode cX8_in 5 = .ok (.iload_n 0, 1) := by decide +kernel
theorem dX8_in_6 : decode cX8_in 6 = .ok (.iload_n 2, 1) := by decide +kernel
theorem dX8_in_7 : decode cX8_in 7 = .ok (.if_icmp .gt 7, 3) := by decide +kernel
theorem dX8_in_10 : decode cX8_in 10 = .ok (.iconst 1, 1) := by decide +kernel
theorem dX8_in_11 : decode cX8_in 11 = .ok (.goto 4, 3) := by decide +kernel
theorem dX8_in_14 : decode cX8_in 14 = .ok (.iconst 0, 1) := by decide +kernel
theorem dX8_in_15 : decode cX8_in 15 = .ok (.ireturn, 1) := by decide +kernel
theorem dX8_copies_0 : decode cX8_copies 0 = .ok (.iconst 0, 1) := by decide +kernel
theorem dX8_copies_1 : decode cX8_copies 1 = .ok (.istore 4, 2) := by decide +kernel
theorem dX8_copies_3 : decode cX8_copies 3 = .ok (.iload 4, 2) := by decide +kernel
theorem dX8_copies_5 : decode cX8_copies 5 = .ok (.sipush 177, 3) := by decide +kernel
theorem dX8_copies_8 : decode cX8_copies 8 = .ok (.if_icmp .ge 21, 3) := by decide +kernel
theorem dX8_copies_11 : decode cX8_copies 11 = .ok (.aload_n 2, 1) := by decide +kernel
theorem dX8_copies_12 : decode cX8_copies 12 = .ok (.iload_n 3, 1) := by decide +kernel
theorem dX8_copies_13 : decode cX8_copies 13 = .ok (.iload 4, 2) := by decide +kernel
theorem dX8_copies_15 : decode cX8_copies 15 = .ok (.iadd, 1) := by decide +kernel
theorem dX8_copies_16 : decode cX8_copies 16 = .ok (.aload_n 0, 1) := by decide +kernel
theorem dX8_copies_17 : decode cX8_copies 17 = .ok (.iload_n 1, 1) := by decide +kernel
theorem dX8_copies_18 : decode cX8_copies 18 = .ok (.iload 4, 2) := by decide +kernel
theorem dX8_copies_20 : decode cX8_copies 20 = .ok (.iadd, 1) := by decide +kernel
theorem dX8_copies_21 : decode cX8_copies 21 = .ok (.iaload, 1) := by decide +kernel
theorem dX8_copies_22 : decode cX8_copies 22 = .ok (.iastore, 1) := by decide +kernel
theorem dX8_copies_23 : decode cX8_copies 23 = .ok (.iinc 4 1, 3) := by decide +kernel
theorem dX8_copies_26 : decode cX8_copies 26 = .ok (.goto (-23), 3) := by decide +kernel
theorem dX8_copies_29 : decode cX8_copies 29 = .ok (.return_, 1) := by decide +kernel
set_option maxRecDepth 20000 in
theorem ggX8_keeps_X8_copies : GoodIn wsX8_keeps wsX8_copies := goodIn_ca (goodIn_r _ [8] (by decide +kernel) (by decide +kernel)) (goodIn_sub (fun _ h => List.mem_cons_of_mem _ (List.mem_append_right _ h)) (by decide +kernel))
set_option maxRecDepth 20000 in
theorem gX8_keeps_X8_copies : GoodIn wsX8_keeps (va_wsS RX8 68 yX8_copies wsX8_copies) := goodIn_app (goodIn_of _ (by decide +kernel)) ggX8_keeps_X8_copies
theorem dX8_keeps_0 : decode cX8_keeps 0 = .ok (.aload_n 0, 1) := by decide +kernel
theorem dX8_keeps_1 : decode cX8_keeps 1 = .ok (.iconst 0, 1) := by decide +kernel
theorem dX8_keeps_2 : decode cX8_keeps 2 = .ok (.putfield 46, 3) := by decide +kernel
theorem dX8_keeps_5 : decode cX8_keeps 5 = .ok (.aload_n 0, 1) := by decide +kernel
theorem dX8_keeps_6 : decode cX8_keeps 6 = .ok (.getfield 55, 3) := by decide +kernel
theorem dX8_keeps_9 : decode cX8_keeps 9 = .ok (.ifCond .eq 4, 3) := by decide +kernel
theorem dX8_keeps_12 : decode cX8_keeps 12 = .ok (.return_, 1) := by decide +kernel
theorem dX8_keeps_13 : decode cX8_keeps 13 = .ok (.aload_n 0, 1) := by decide +kernel
theorem dX8_keeps_14 : decode cX8_keeps 14 = .ok (.getfield 65, 3) := by decide +kernel
theorem dX8_keeps_17 : decode cX8_keeps 17 = .ok (.bipush 8, 2) := by decide +kernel
theorem dX8_keeps_19 : decode cX8_keeps 19 = .ok (.if_icmp .ne 44, 3) := by decide +kernel
theorem dX8_keeps_22 : decode cX8_keeps 22 = .ok (.iconst 0, 1) := by decide +kernel
theorem dX8_keeps_23 : decode cX8_keeps 23 = .ok (.istore_n 2, 1) := by decide +kernel
theorem dX8_keeps_24 : decode cX8_keeps 24 = .ok (.iload_n 2, 1) := by decide +kernel
theorem dX8_keeps_25 : decode cX8_keeps 25 = .ok (.sipush 1239, 3) := by decide +kernel
theorem dX8_keeps_28 : decode cX8_keeps 28 = .ok (.if_icmp .ge 25, 3) := by decide +kernel
theorem dX8_keeps_31 : decode cX8_keeps 31 = .ok (.aload_n 0, 1) := by decide +kernel
theorem dX8_keeps_32 : decode cX8_keeps 32 = .ok (.getfield 13, 3) := by decide +kernel
theorem dX8_keeps_35 : decode cX8_keeps 35 = .ok (.iload_n 2, 1) := by decide +kernel
theorem dX8_keeps_36 : decode cX8_keeps 36 = .ok (.aload_n 0, 1) := by decide +kernel
theorem dX8_keeps_37 : decode cX8_keeps 37 = .ok (.getfield 13, 3) := by decide +kernel
theorem dX8_keeps_40 : decode cX8_keeps 40 = .ok (.iload_n 2, 1) := by decide +kernel
theorem dX8_keeps_41 : decode cX8_keeps 41 = .ok (.sipush 177, 3) := by decide +kernel
theorem dX8_keeps_44 : decode cX8_keeps 44 = .ok (.iadd, 1) := by decide +kernel
theorem dX8_keeps_45 : decode cX8_keeps 45 = .ok (.iaload, 1) := by decide +kernel
theorem dX8_keeps_46 : decode cX8_keeps 46 = .ok (.iastore, 1) := by decide +kernel
theorem dX8_keeps_47 : decode cX8_keeps 47 = .ok (.iinc 2 1, 3) := by decide +kernel
theorem dX8_keeps_50 : decode cX8_keeps 50 = .ok (.goto (-26), 3) := by decide +kernel
theorem dX8_keeps_53 : decode cX8_keeps 53 = .ok (.aload_n 0, 1) := by decide +kernel
theorem dX8_keeps_54 : decode cX8_keeps 54 = .ok (.dup, 1) := by decide +kernel
theorem dX8_keeps_55 : decode cX8_keeps 55 = .ok (.getfield 65, 3) := by decide +kernel
theorem dX8_keeps_58 : decode cX8_keeps 58 = .ok (.iconst 1, 1) := by decide +kernel
theorem dX8_keeps_59 : decode cX8_keeps 59 = .ok (.isub, 1) := by decide +kernel
theorem dX8_keeps_60 : decode cX8_keeps 60 = .ok (.putfield 65, 3) := by decide +kernel
theorem dX8_keeps_63 : decode cX8_keeps 63 = .ok (.aload_n 1, 1) := by decide +kernel
theorem dX8_keeps_64 : decode cX8_keeps 64 = .ok (.iconst 0, 1) := by decide +kernel
theorem dX8_keeps_65 : decode cX8_keeps 65 = .ok (.aload_n 0, 1) := by decide +kernel
theorem dX8_keeps_66 : decode cX8_keeps 66 = .ok (.getfield 13, 3) := by decide +kernel
theorem dX8_keeps_69 : decode cX8_keeps 69 = .ok (.sipush 177, 3) := by decide +kernel
theorem dX8_keeps_72 : decode cX8_keeps 72 = .ok (.aload_n 0, 1) := by decide +kernel
theorem dX8_keeps_73 : decode cX8_keeps 73 = .ok (.getfield 65, 3) := by decide +kernel
theorem dX8_keeps_76 : decode cX8_keeps 76 = .ok (.imul, 1) := by decide +kernel
theorem dX8_keeps_77 : decode cX8_keeps 77 = .ok (.invokestatic 68, 3) := by decide +kernel
theorem dX8_keeps_80 : decode cX8_keeps 80 = .ok (.aload_n 0, 1) := by decide +kernel
theorem dX8_keeps_81 : decode cX8_keeps 81 = .ok (.dup, 1) := by decide +kernel
theorem dX8_keeps_82 : decode cX8_keeps 82 = .ok (.getfield 65, 3) := by decide +kernel
theorem dX8_keeps_85 : decode cX8_keeps 85 = .ok (.iconst 1, 1) := by decide +kernel
theorem dX8_keeps_86 : decode cX8_keeps 86 = .ok (.iadd, 1) := by decide +kernel
theorem dX8_keeps_87 : decode cX8_keeps 87 = .ok (.putfield 65, 3) := by decide +kernel
theorem dX8_keeps_90 : decode cX8_keeps 90 = .ok (.return_, 1) := by decide +kernel
theorem dX8_many_0 : decode cX8_many 0 = .ok (.iconst 0, 1) := by decide +kernel
theorem dX8_many_1 : decode cX8_many 1 = .ok (.istore_n 1, 1) := by decide +kernel
theorem dX8_many_2 : decode cX8_many 2 = .ok (.iconst 0, 1) := by decide +kernel
theorem dX8_many_3 : decode cX8_many 3 = .ok (.istore_n 2, 1) := by decide +kernel
theorem dX8_many_4 : decode cX8_many 4 = .ok (.iload_n 2, 1) := by decide +kernel
theorem dX8_many_5 : decode cX8_many 5 = .ok (.bipush 6, 2) := by decide +kernel
theorem dX8_many_7 : decode cX8_many 7 = .ok (.if_icmp .ge 17, 3) := by decide +kernel
theorem dX8_many_10 : decode cX8_many 10 = .ok (.iload_n 1, 1) := by decide +kernel
theorem dX8_many_11 : decode cX8_many 11 = .ok (.iload_n 0, 1) := by decide +kernel
theorem dX8_many_12 : decode cX8_many 12 = .ok (.iload_n 2, 1) := by decide +kernel
theorem dX8_many_13 : decode cX8_many 13 = .ok (.ishr, 1) := by decide +kernel
theorem dX8_many_14 : decode cX8_many 14 = .ok (.iconst 1, 1) := by decide +kernel
theorem dX8_many_15 : decode cX8_many 15 = .ok (.iand, 1) := by decide +kernel
theorem dX8_many_16 : decode cX8_many 16 = .ok (.iadd, 1) := by decide +kernel
theorem dX8_many_17 : decode cX8_many 17 = .ok (.istore_n 1, 1) := by decide +kernel
theorem dX8_many_18 : decode cX8_many 18 = .ok (.iinc 2 1, 3) := by decide +kernel
theorem dX8_many_21 : decode cX8_many 21 = .ok (.goto (-17), 3) := by decide +kernel
theorem dX8_many_24 : decode cX8_many 24 = .ok (.iload_n 1, 1) := by decide +kernel
theorem dX8_many_25 : decode cX8_many 25 = .ok (.ireturn, 1) := by decide +kernel
set_option maxRecDepth 20000 in
theorem ggX8_isKey_X8_in : GoodIn wsX8_isKey wsX8_in := goodIn_r _ [5] (by decide +kernel) (by decide +kernel)
set_option maxRecDepth 20000 in
theorem gX8_isKey_X8_in : GoodIn wsX8_isKey (va_wsS RX8 72 yX8_in wsX8_in) := goodIn_app (goodIn_of _ (by decide +kernel)) ggX8_isKey_X8_in
theorem dX8_isKey_0 : decode cX8_isKey 0 = .ok (.iload_n 1, 1) := by decide +kernel
theorem dX8_isKey_1 : decode cX8_isKey 1 = .ok (.iconst 0, 1) := by decide +kernel
theorem dX8_isKey_2 : decode cX8_isKey 2 = .ok (.aload_n 0, 1) := by decide +kernel
theorem dX8_isKey_3 : decode cX8_isKey 3 = .ok (.getfield 7, 3) := by decide +kernel
theorem dX8_isKey_6 : decode cX8_isKey 6 = .ok (.iconst 0, 1) := by decide +kernel
theorem dX8_isKey_7 : decode cX8_isKey 7 = .ok (.iaload, 1) := by decide +kernel
theorem dX8_isKey_8 : decode cX8_isKey 8 = .ok (.iconst 1, 1) := by decide +kernel
theorem dX8_isKey_9 : decode cX8_isKey 9 = .ok (.isub, 1) := by decide +kernel
theorem dX8_isKey_10 : decode cX8_isKey 10 = .ok (.invokestatic 72, 3) := by decide +kernel
theorem dX8_isKey_13 : decode cX8_isKey 13 = .ok (.ireturn, 1) := by decide +kernel
set_option maxRecDepth 20000 in
theorem ggX8_isLock_X8_in : GoodIn wsX8_isLock wsX8_in := goodIn_r _ [5] (by decide +kernel) (by decide +kernel)
set_option maxRecDepth 20000 in
theorem gX8_isLock_X8_in : GoodIn wsX8_isLock (va_wsS RX8 72 yX8_in wsX8_in) := goodIn_app (goodIn_of _ (by decide +kernel)) ggX8_isLock_X8_in
theorem dX8_isLock_0 : decode cX8_isLock 0 = .ok (.iload_n 1, 1) := by decide +kernel
theorem dX8_isLock_1 : decode cX8_isLock 1 = .ok (.iconst 0, 1) := by decide +kernel
theorem dX8_isLock_2 : decode cX8_isLock 2 = .ok (.aload_n 0, 1) := by decide +kernel
theorem dX8_isLock_3 : decode cX8_isLock 3 = .ok (.getfield 7, 3) := by decide +kernel
theorem dX8_isLock_6 : decode cX8_isLock 6 = .ok (.iconst 1, 1) := by decide +kernel
theorem dX8_isLock_7 : decode cX8_isLock 7 = .ok (.iaload, 1) := by decide +kernel
theorem dX8_isLock_8 : decode cX8_isLock 8 = .ok (.iconst 1, 1) := by decide +kernel
theorem dX8_isLock_9 : decode cX8_isLock 9 = .ok (.isub, 1) := by decide +kernel
theorem dX8_isLock_10 : decode cX8_isLock 10 = .ok (.invokestatic 72, 3) := by decide +kernel
theorem dX8_isLock_13 : decode cX8_isLock 13 = .ok (.ireturn, 1) := by decide +kernel
theorem dX8_ofKey_0 : decode cX8_ofKey 0 = .ok (.aload_n 0, 1) := by decide +kernel
theorem dX8_ofKey_1 : decode cX8_ofKey 1 = .ok (.getfield 7, 3) := by decide +kernel
theorem dX8_ofKey_4 : decode cX8_ofKey 4 = .ok (.bipush 7, 2) := by decide +kernel
theorem dX8_ofKey_6 : decode cX8_ofKey 6 = .ok (.iconst 4, 1) := by decide +kernel
theorem dX8_ofKey_7 : decode cX8_ofKey 7 = .ok (.iload_n 1, 1) := by decide +kernel
theorem dX8_ofKey_8 : decode cX8_ofKey 8 = .ok (.imul, 1) := by decide +kernel
theorem dX8_ofKey_9 : decode cX8_ofKey 9 = .ok (.iadd, 1) := by decide +kernel
theorem dX8_ofKey_10 : decode cX8_ofKey 10 = .ok (.iload_n 2, 1) := by decide +kernel
theorem dX8_ofKey_11 : decode cX8_ofKey 11 = .ok (.iadd, 1) := by decide +kernel
theorem dX8_ofKey_12 : decode cX8_ofKey 12 = .ok (.iaload, 1) := by decide +kernel
theorem dX8_ofKey_13 : decode cX8_ofKey 13 = .ok (.ireturn, 1) := by decide +kernel
theorem dX8_ofLock_0 : decode cX8_ofLock 0 = .ok (.aload_n 0, 1) := by decide +kernel
theorem dX8_ofLock_1 : decode cX8_ofLock 1 = .ok (.getfield 7, 3) := by decide +kernel
theorem dX8_ofLock_4 : decode cX8_ofLock 4 = .ok (.bipush 47, 2) := by decide +kernel
theorem dX8_ofLock_6 : decode cX8_ofLock 6 = .ok (.iconst 3, 1) := by decide +kernel
theorem dX8_ofLock_7 : decode cX8_ofLock 7 = .ok (.iload_n 1, 1) := by decide +kernel
theorem dX8_ofLock_8 : decode cX8_ofLock 8 = .ok (.imul, 1) := by decide +kernel
theorem dX8_ofLock_9 : decode cX8_ofLock 9 = .ok (.iadd, 1) := by decide +kernel
theorem dX8_ofLock_10 : decode cX8_ofLock 10 = .ok (.iload_n 2, 1) := by decide +kernel
theorem dX8_ofLock_11 : decode cX8_ofLock 11 = .ok (.iadd, 1) := by decide +kernel
theorem dX8_ofLock_12 : decode cX8_ofLock 12 = .ok (.iaload, 1) := by decide +kernel
theorem dX8_ofLock_13 : decode cX8_ofLock 13 = .ok (.ireturn, 1) := by decide +kernel
set_option maxRecDepth 20000 in
theorem ggX8_lacks_X8_ofLock : GoodIn wsX8_lacks wsX8_ofLock := goodIn_ca (goodIn_r _ [5, 6, 14, 15, 16, 17, 18, 19, 20, 21, 22, 23, 24, 25, 26, 27, 28, 29, 30, 31, 32, 33, 34, 35, 36, 37] (by decide +kernel) (by decide +kernel)) (goodIn_sub (fun _ h => List.mem_cons_of_mem _ (List.mem_append_right _ h)) (by decide +kernel))
set_option maxRecDepth 20000 in
theorem gX8_lacks_X8_ofLock : GoodIn wsX8_lacks (wsV RX8 76 RX8 yX8_ofLock wsX8_ofLock) := goodIn_app (goodIn_of _ (by decide +kernel)) ggX8_lacks_X8_ofLock
set_option maxRecDepth 20000 in
theorem ggX8_lacks_X8_ofKey : GoodIn wsX8_lacks wsX8_ofKey := goodIn_ca (goodIn_r _ [10, 6, 14, 15, 16, 17, 18, 19, 20, 21, 22, 23, 24, 25, 26, 27, 28, 29, 30, 31, 32, 33, 34, 35, 36, 37] (by decide +kernel) (by decide +kernel)) (goodIn_sub (fun _ h => List.mem_cons_of_mem _ (List.mem_append_right _ h)) (by decide +kernel))
set_option maxRecDepth 20000 in
theorem gX8_lacks_X8_ofKey : GoodIn wsX8_lacks (wsV RX8 80 RX8 yX8_ofKey wsX8_ofKey) := goodIn_app (goodIn_of _ (by decide +kernel)) ggX8_lacks_X8_ofKey
set_option maxRecDepth 20000 in
theorem ggX8_lacks_X8_many : GoodIn wsX8_lacks wsX8_many := goodIn_r _ [13] (by decide +kernel) (by decide +kernel)
set_option maxRecDepth 20000 in
theorem gX8_lacks_X8_many : GoodIn wsX8_lacks (va_wsS RX8 83 yX8_many wsX8_many) := goodIn_app (goodIn_of _ (by decide +kernel)) ggX8_lacks_X8_many
theorem dX8_lacks_0 : decode cX8_lacks 0 = .ok (.aload_n 0, 1) := by decide +kernel
theorem dX8_lacks_1 : decode cX8_lacks 1 = .ok (.iload_n 2, 1) := by decide +kernel
theorem dX8_lacks_2 : decode cX8_lacks 2 = .ok (.iconst 0, 1) := by decide +kernel
theorem dX8_lacks_3 : decode cX8_lacks 3 = .ok (.invokevirtual 76, 3) := by decide +kernel
theorem dX8_lacks_6 : decode cX8_lacks 6 = .ok (.aload_n 0, 1) := by decide +kernel
theorem dX8_lacks_7 : decode cX8_lacks 7 = .ok (.iload_n 1, 1) := by decide +kernel
theorem dX8_lacks_8 : decode cX8_lacks 8 = .ok (.iconst 0, 1) := by decide +kernel
theorem dX8_lacks_9 : decode cX8_lacks 9 = .ok (.invokevirtual 80, 3) := by decide +kernel
theorem dX8_lacks_12 : decode cX8_lacks 12 = .ok (.iconst (-1), 1) := by decide +kernel
theorem dX8_lacks_13 : decode cX8_lacks 13 = .ok (.ixor, 1) := by decide +kernel
theorem dX8_lacks_14 : decode cX8_lacks 14 = .ok (.iand, 1) := by decide +kernel
theorem dX8_lacks_15 : decode cX8_lacks 15 = .ok (.invokestatic 83, 3) := by decide +kernel
theorem dX8_lacks_18 : decode cX8_lacks 18 = .ok (.ireturn, 1) := by decide +kernel
set_option maxRecDepth 20000 in
theorem ggX8_isFit_X8_lacks : GoodIn wsX8_isFit wsX8_lacks := goodIn_ca (goodIn_r _ [6, 7, 8, 9, 5, 10, 1, 11, 12, 13, 14, 15, 16, 17, 18, 19, 20, 21, 22, 23, 24, 25, 26, 27, 28, 29, 30, 31, 32, 33, 34, 35, 36, 37, 38, 39, 40, 41] (by decide +kernel) (by decide +kernel)) (goodIn_sub (fun _ h => List.mem_cons_of_mem _ (List.mem_append_right _ h)) (by decide +kernel))
set_option maxRecDepth 20000 in
theorem gX8_isFit_X8_lacks : GoodIn wsX8_isFit (wsV RX8 87 RX8 yX8_lacks wsX8_lacks) := goodIn_app (goodIn_of _ (by decide +kernel)) ggX8_isFit_X8_lacks
set_option maxRecDepth 20000 in
theorem ggX8_isFit_X8_ofKey : GoodIn wsX8_isFit wsX8_ofKey := goodIn_ca (goodIn_r _ [14, 1, 18, 19, 20, 21, 22, 23, 24, 25, 26, 27, 28, 29, 30, 31, 32, 33, 34, 35, 36, 37, 38, 39, 40, 41] (by decide +kernel) (by decide +kernel)) (goodIn_sub (fun _ h => List.mem_cons_of_mem _ (List.mem_append_right _ h)) (by decide +kernel))
set_option maxRecDepth 20000 in
theorem gX8_isFit_X8_ofKey : GoodIn wsX8_isFit (wsV RX8 80 RX8 yX8_ofKey wsX8_ofKey) := goodIn_app (goodIn_of _ (by decide +kernel)) ggX8_isFit_X8_ofKey
set_option maxRecDepth 20000 in
theorem ggX8_isFit_X8_many : GoodIn wsX8_isFit wsX8_many := goodIn_r _ [17] (by decide +kernel) (by decide +kernel)
set_option maxRecDepth 20000 in
theorem gX8_isFit_X8_many : GoodIn wsX8_isFit (va_wsS RX8 83 yX8_many wsX8_many) := goodIn_app (goodIn_of _ (by decide +kernel)) ggX8_isFit_X8_many
set_option maxRecDepth 20000 in
theorem ggX8_isFit_X8_ofLock : GoodIn wsX8_isFit wsX8_ofLock := goodIn_ca (goodIn_r _ [10, 1, 18, 19, 20, 21, 22, 23, 24, 25, 26, 27, 28, 29, 30, 31, 32, 33, 34, 35, 36, 37, 38, 39, 40, 41] (by decide +kernel) (by decide +kernel)) (goodIn_sub (fun _ h => List.mem_cons_of_mem _ (List.mem_append_right _ h)) (by decide +kernel))
set_option maxRecDepth 20000 in
theorem gX8_isFit_X8_ofLock : GoodIn wsX8_isFit (wsV RX8 76 RX8 yX8_ofLock wsX8_ofLock) := goodIn_app (goodIn_of _ (by decide +kernel)) ggX8_isFit_X8_ofLock
theorem dX8_isFit_0 : decode cX8_isFit 0 = .ok (.aload_n 0, 1) := by decide +kernel
theorem dX8_isFit_1 : decode cX8_isFit 1 = .ok (.iload_n 1, 1) := by decide +kernel
theorem dX8_isFit_2 : decode cX8_isFit 2 = .ok (.iload_n 2, 1) := by decide +kernel
theorem dX8_isFit_3 : decode cX8_isFit 3 = .ok (.invokevirtual 87, 3) := by decide +kernel
theorem dX8_isFit_6 : decode cX8_isFit 6 = .ok (.ifCond .ne 52, 3) := by decide +kernel
theorem dX8_isFit_9 : decode cX8_isFit 9 = .ok (.aload_n 0, 1) := by decide +kernel
theorem dX8_isFit_10 : decode cX8_isFit 10 = .ok (.iload_n 1, 1) := by decide +kernel
theorem dX8_isFit_11 : decode cX8_isFit 11 = .ok (.iconst 0, 1) := by decide +kernel
theorem dX8_isFit_12 : decode cX8_isFit 12 = .ok (.invokevirtual 80, 3) := by decide +kernel
theorem dX8_isFit_15 : decode cX8_isFit 15 = .ok (.invokestatic 83, 3) := by decide +kernel
theorem dX8_isFit_18 : decode cX8_isFit 18 = .ok (.aload_n 0, 1) := by decide +kernel
theorem dX8_isFit_19 : decode cX8_isFit 19 = .ok (.iload_n 2, 1) := by decide +kernel
theorem dX8_isFit_20 : decode cX8_isFit 20 = .ok (.iconst 0, 1) := by decide +kernel
theorem dX8_isFit_21 : decode cX8_isFit 21 = .ok (.invokevirtual 76, 3) := by decide +kernel
theorem dX8_isFit_24 : decode cX8_isFit 24 = .ok (.invokestatic 83, 3) := by decide +kernel
theorem dX8_isFit_27 : decode cX8_isFit 27 = .ok (.aload_n 0, 1) := by decide +kernel
theorem dX8_isFit_28 : decode cX8_isFit 28 = .ok (.getfield 7, 3) := by decide +kernel
theorem dX8_isFit_31 : decode cX8_isFit 31 = .ok (.iconst 2, 1) := by decide +kernel
theorem dX8_isFit_32 : decode cX8_isFit 32 = .ok (.iaload, 1) := by decide +kernel
theorem dX8_isFit_33 : decode cX8_isFit 33 = .ok (.iadd, 1) := by decide +kernel
theorem dX8_isFit_34 : decode cX8_isFit 34 = .ok (.if_icmp .gt 24, 3) := by decide +kernel
theorem dX8_isFit_37 : decode cX8_isFit 37 = .ok (.aload_n 0, 1) := by decide +kernel
theorem dX8_isFit_38 : decode cX8_isFit 38 = .ok (.getfield 7, 3) := by decide +kernel
theorem dX8_isFit_41 : decode cX8_isFit 41 = .ok (.bipush 77, 2) := by decide +kernel
theorem dX8_isFit_43 : decode cX8_isFit 43 = .ok (.bipush 10, 2) := by decide +kernel
theorem dX8_isFit_45 : decode cX8_isFit 45 = .ok (.iload_n 1, 1) := by decide +kernel
theorem dX8_isFit_46 : decode cX8_isFit 46 = .ok (.imul, 1) := by decide +kernel
theorem dX8_isFit_47 : decode cX8_isFit 47 = .ok (.iadd, 1) := by decide +kernel
theorem dX8_isFit_48 : decode cX8_isFit 48 = .ok (.iload_n 2, 1) := by decide +kernel
theorem dX8_isFit_49 : decode cX8_isFit 49 = .ok (.iadd, 1) := by decide +kernel
theorem dX8_isFit_50 : decode cX8_isFit 50 = .ok (.iaload, 1) := by decide +kernel
theorem dX8_isFit_51 : decode cX8_isFit 51 = .ok (.ifCond .ne 7, 3) := by decide +kernel
theorem dX8_isFit_54 : decode cX8_isFit 54 = .ok (.iconst 1, 1) := by decide +kernel
theorem dX8_isFit_55 : decode cX8_isFit 55 = .ok (.goto 4, 3) := by decide +kernel
theorem dX8_isFit_58 : decode cX8_isFit 58 = .ok (.iconst 0, 1) := by decide +kernel
theorem dX8_isFit_59 : decode cX8_isFit 59 = .ok (.ireturn, 1) := by decide +kernel
set_option maxRecDepth 20000 in
theorem ggX8_openMany_X8_ofLock : GoodIn wsX8_openMany wsX8_ofLock := goodIn_ca (goodIn_r _ [6, 1, 7, 8, 9, 10, 11, 12, 13, 14, 15, 16, 17, 18, 19, 20, 21, 22, 23, 24, 25, 26, 27, 28, 29, 30] (by decide +kernel) (by decide +kernel)) (goodIn_sub (fun _ h => List.mem_cons_of_mem _ (List.mem_append_right _ h)) (by decide +kernel))
set_option maxRecDepth 20000 in
theorem gX8_openMany_X8_ofLock : GoodIn wsX8_openMany (wsV RX8 76 RX8 yX8_ofLock wsX8_ofLock) := goodIn_app (goodIn_of _ (by decide +kernel)) ggX8_openMany_X8_ofLock
theorem dX8_openMany_0 : decode cX8_openMany 0 = .ok (.iconst 0, 1) := by decide +kernel
theorem dX8_openMany_1 : decode cX8_openMany 1 = .ok (.istore_n 1, 1) := by decide +kernel
theorem dX8_openMany_2 : decode cX8_openMany 2 = .ok (.iconst 0, 1) := by decide +kernel
theorem dX8_openMany_3 : decode cX8_openMany 3 = .ok (.istore_n 2, 1) := by decide +kernel
theorem dX8_openMany_4 : decode cX8_openMany 4 = .ok (.iload_n 2, 1) := by decide +kernel
theorem dX8_openMany_5 : decode cX8_openMany 5 = .ok (.aload_n 0, 1) := by decide +kernel
theorem dX8_openMany_6 : decode cX8_openMany 6 = .ok (.getfield 7, 3) := by decide +kernel
theorem dX8_openMany_9 : decode cX8_openMany 9 = .ok (.iconst 1, 1) := by decide +kernel
theorem dX8_openMany_10 : decode cX8_openMany 10 = .ok (.iaload, 1) := by decide +kernel
theorem dX8_openMany_11 : decode cX8_openMany 11 = .ok (.if_icmp .ge 26, 3) := by decide +kernel
theorem dX8_openMany_14 : decode cX8_openMany 14 = .ok (.iload_n 1, 1) := by decide +kernel
theorem dX8_openMany_15 : decode cX8_openMany 15 = .ok (.aload_n 0, 1) := by decide +kernel
theorem dX8_openMany_16 : decode cX8_openMany 16 = .ok (.iload_n 2, 1) := by decide +kernel
theorem dX8_openMany_17 : decode cX8_openMany 17 = .ok (.iconst 1, 1) := by decide +kernel
theorem dX8_openMany_18 : decode cX8_openMany 18 = .ok (.invokevirtual 76, 3) := by decide +kernel
theorem dX8_openMany_21 : decode cX8_openMany 21 = .ok (.ifCond .lt 7, 3) := by decide +kernel
theorem dX8_openMany_24 : decode cX8_openMany 24 = .ok (.iconst 1, 1) := by decide +kernel
theorem dX8_openMany_25 : decode cX8_openMany 25 = .ok (.goto 4, 3) := by decide +kernel
theorem dX8_openMany_28 : decode cX8_openMany 28 = .ok (.iconst 0, 1) := by decide +kernel
theorem dX8_openMany_29 : decode cX8_openMany 29 = .ok (.iadd, 1) := by decide +kernel
theorem dX8_openMany_30 : decode cX8_openMany 30 = .ok (.istore_n 1, 1) := by decide +kernel
theorem dX8_openMany_31 : decode cX8_openMany 31 = .ok (.iinc 2 1, 3) := by decide +kernel
theorem dX8_openMany_34 : decode cX8_openMany 34 = .ok (.goto (-30), 3) := by decide +kernel
theorem dX8_openMany_37 : decode cX8_openMany 37 = .ok (.iload_n 1, 1) := by decide +kernel
theorem dX8_openMany_38 : decode cX8_openMany 38 = .ok (.ireturn, 1) := by decide +kernel
theorem dX8_lets_0 : decode cX8_lets 0 = .ok (.aload_n 0, 1) := by decide +kernel
theorem dX8_lets_1 : decode cX8_lets 1 = .ok (.getfield 7, 3) := by decide +kernel
theorem dX8_lets_4 : decode cX8_lets 4 = .ok (.bipush 7, 2) := by decide +kernel
theorem dX8_lets_6 : decode cX8_lets 6 = .ok (.iconst 4, 1) := by decide +kernel
theorem dX8_lets_7 : decode cX8_lets 7 = .ok (.iload_n 1, 1) := by decide +kernel
theorem dX8_lets_8 : decode cX8_lets 8 = .ok (.imul, 1) := by decide +kernel
theorem dX8_lets_9 : decode cX8_lets 9 = .ok (.iadd, 1) := by decide +kernel
theorem dX8_lets_10 : decode cX8_lets 10 = .ok (.iconst 2, 1) := by decide +kernel
theorem dX8_lets_11 : decode cX8_lets 11 = .ok (.iadd, 1) := by decide +kernel
theorem dX8_lets_12 : decode cX8_lets 12 = .ok (.iconst (-1), 1) := by decide +kernel
theorem dX8_lets_13 : decode cX8_lets 13 = .ok (.iastore, 1) := by decide +kernel
theorem dX8_lets_14 : decode cX8_lets 14 = .ok (.aload_n 0, 1) := by decide +kernel
theorem dX8_lets_15 : decode cX8_lets 15 = .ok (.getfield 7, 3) := by decide +kernel
theorem dX8_lets_18 : decode cX8_lets 18 = .ok (.bipush 47, 2) := by decide +kernel
theorem dX8_lets_20 : decode cX8_lets 20 = .ok (.iconst 3, 1) := by decide +kernel
theorem dX8_lets_21 : decode cX8_lets 21 = .ok (.iload_n 2, 1) := by decide +kernel
theorem dX8_lets_22 : decode cX8_lets 22 = .ok (.imul, 1) := by decide +kernel
theorem dX8_lets_23 : decode cX8_lets 23 = .ok (.iadd, 1) := by decide +kernel
theorem dX8_lets_24 : decode cX8_lets 24 = .ok (.iconst 1, 1) := by decide +kernel
theorem dX8_lets_25 : decode cX8_lets 25 = .ok (.iadd, 1) := by decide +kernel
theorem dX8_lets_26 : decode cX8_lets 26 = .ok (.iconst (-1), 1) := by decide +kernel
theorem dX8_lets_27 : decode cX8_lets 27 = .ok (.iastore, 1) := by decide +kernel
theorem dX8_lets_28 : decode cX8_lets 28 = .ok (.return_, 1) := by decide +kernel
theorem dX8_puts_0 : decode cX8_puts 0 = .ok (.aload_n 0, 1) := by decide +kernel
theorem dX8_puts_1 : decode cX8_puts 1 = .ok (.getfield 7, 3) := by decide +kernel
theorem dX8_puts_4 : decode cX8_puts 4 = .ok (.bipush 7, 2) := by decide +kernel
theorem dX8_puts_6 : decode cX8_puts 6 = .ok (.iconst 4, 1) := by decide +kernel
theorem dX8_puts_7 : decode cX8_puts 7 = .ok (.iload_n 1, 1) := by decide +kernel
theorem dX8_puts_8 : decode cX8_puts 8 = .ok (.imul, 1) := by decide +kernel
theorem dX8_puts_9 : decode cX8_puts 9 = .ok (.iadd, 1) := by decide +kernel
theorem dX8_puts_10 : decode cX8_puts 10 = .ok (.iconst 2, 1) := by decide +kernel
theorem dX8_puts_11 : decode cX8_puts 11 = .ok (.iadd, 1) := by decide +kernel
theorem dX8_puts_12 : decode cX8_puts 12 = .ok (.iload_n 2, 1) := by decide +kernel
theorem dX8_puts_13 : decode cX8_puts 13 = .ok (.iastore, 1) := by decide +kernel
theorem dX8_puts_14 : decode cX8_puts 14 = .ok (.aload_n 0, 1) := by decide +kernel
theorem dX8_puts_15 : decode cX8_puts 15 = .ok (.getfield 7, 3) := by decide +kernel
theorem dX8_puts_18 : decode cX8_puts 18 = .ok (.bipush 47, 2) := by decide +kernel
theorem dX8_puts_20 : decode cX8_puts 20 = .ok (.iconst 3, 1) := by decide +kernel
theorem dX8_puts_21 : decode cX8_puts 21 = .ok (.iload_n 2, 1) := by decide +kernel
theorem dX8_puts_22 : decode cX8_puts 22 = .ok (.imul, 1) := by decide +kernel
theorem dX8_puts_23 : decode cX8_puts 23 = .ok (.iadd, 1) := by decide +kernel
theorem dX8_puts_24 : decode cX8_puts 24 = .ok (.iconst 1, 1) := by decide +kernel
theorem dX8_puts_25 : decode cX8_puts 25 = .ok (.iadd, 1) := by decide +kernel
theorem dX8_puts_26 : decode cX8_puts 26 = .ok (.iload_n 1, 1) := by decide +kernel
theorem dX8_puts_27 : decode cX8_puts 27 = .ok (.iastore, 1) := by decide +kernel
theorem dX8_puts_28 : decode cX8_puts 28 = .ok (.aload_n 0, 1) := by decide +kernel
theorem dX8_puts_29 : decode cX8_puts 29 = .ok (.getfield 7, 3) := by decide +kernel
theorem dX8_puts_32 : decode cX8_puts 32 = .ok (.bipush 47, 2) := by decide +kernel
theorem dX8_puts_34 : decode cX8_puts 34 = .ok (.iconst 3, 1) := by decide +kernel
theorem dX8_puts_35 : decode cX8_puts 35 = .ok (.iload_n 2, 1) := by decide +kernel
theorem dX8_puts_36 : decode cX8_puts 36 = .ok (.imul, 1) := by decide +kernel
theorem dX8_puts_37 : decode cX8_puts 37 = .ok (.iadd, 1) := by decide +kernel
theorem dX8_puts_38 : decode cX8_puts 38 = .ok (.iconst 2, 1) := by decide +kernel
theorem dX8_puts_39 : decode cX8_puts 39 = .ok (.iadd, 1) := by decide +kernel
theorem dX8_puts_40 : decode cX8_puts 40 = .ok (.dup2, 1) := by decide +kernel
theorem dX8_puts_41 : decode cX8_puts 41 = .ok (.iaload, 1) := by decide +kernel
theorem dX8_puts_42 : decode cX8_puts 42 = .ok (.iconst 1, 1) := by decide +kernel
theorem dX8_puts_43 : decode cX8_puts 43 = .ok (.iadd, 1) := by decide +kernel
theorem dX8_puts_44 : decode cX8_puts 44 = .ok (.iastore, 1) := by decide +kernel
theorem dX8_puts_45 : decode cX8_puts 45 = .ok (.return_, 1) := by decide +kernel
set_option maxRecDepth 20000 in
theorem ggX8_falls_X8_ofKey : GoodIn wsX8_falls wsX8_ofKey := goodIn_ca (goodIn_r _ [6, 1, 26, 27, 28, 29, 30, 31, 32, 33, 34, 35, 36, 37, 38, 39, 40, 41, 42, 43, 44, 45, 46, 47, 48, 49] (by decide +kernel) (by decide +kernel)) (goodIn_sub (fun _ h => List.mem_cons_of_mem _ (List.mem_append_right _ h)) (by decide +kernel))
set_option maxRecDepth 20000 in
theorem gX8_falls_X8_ofKey : GoodIn wsX8_falls (wsV RX8 80 RX8 yX8_ofKey wsX8_ofKey) := goodIn_app (goodIn_of _ (by decide +kernel)) ggX8_falls_X8_ofKey
set_option maxRecDepth 20000 in
theorem ggX8_falls_X8_isFit : GoodIn wsX8_falls wsX8_isFit := goodIn_ca (goodIn_r _ [10, 1, 11, 12, 13, 5, 14, 15, 16, 17, 18, 2, 3, 4, 6, 19, 20, 21, 26, 27, 28, 29, 30, 31, 32, 33, 34, 35, 36, 37, 38, 39, 40, 41, 42, 43, 44, 45, 46, 47, 48, 49] (by decide +kernel) (by decide +kernel)) (goodIn_sub (fun _ h => List.mem_cons_of_mem _ (List.mem_append_right _ h)) (by decide +kernel))
set_option maxRecDepth 20000 in
theorem gX8_falls_X8_isFit : GoodIn wsX8_falls (wsV RX8 90 RX8 yX8_isFit wsX8_isFit) := goodIn_app (goodIn_of _ (by decide +kernel)) ggX8_falls_X8_isFit
set_option maxRecDepth 20000 in
theorem ggX8_falls_X8_lets : GoodIn wsX8_falls wsX8_lets := goodIn_ca (goodIn_r _ [25, 1, 26, 27, 28, 29, 30, 31, 32, 33, 34, 35, 36, 37, 38, 39, 40, 41, 42, 43, 44, 45, 46, 47, 48, 49] (by decide +kernel) (by decide +kernel)) (goodIn_sub (fun _ h => List.mem_cons_of_mem _ (List.mem_append_right _ h)) (by decide +kernel))
set_option maxRecDepth 20000 in
theorem gX8_falls_X8_lets : GoodIn wsX8_falls (wsV RX8 94 RX8 yX8_lets wsX8_lets) := goodIn_app (goodIn_of _ (by decide +kernel)) ggX8_falls_X8_lets
theorem dX8_falls_0 : decode cX8_falls 0 = .ok (.iconst 0, 1) := by decide +kernel
theorem dX8_falls_1 : decode cX8_falls 1 = .ok (.istore_n 1, 1) := by decide +kernel
theorem dX8_falls_2 : decode cX8_falls 2 = .ok (.iconst 0, 1) := by decide +kernel
theorem dX8_falls_3 : decode cX8_falls 3 = .ok (.istore_n 2, 1) := by decide +kernel
theorem dX8_falls_4 : decode cX8_falls 4 = .ok (.iload_n 2, 1) := by decide +kernel
theorem dX8_falls_5 : decode cX8_falls 5 = .ok (.aload_n 0, 1) := by decide +kernel
theorem dX8_falls_6 : decode cX8_falls 6 = .ok (.getfield 7, 3) := by decide +kernel
theorem dX8_falls_9 : decode cX8_falls 9 = .ok (.iconst 0, 1) := by decide +kernel
theorem dX8_falls_10 : decode cX8_falls 10 = .ok (.iaload, 1) := by decide +kernel
theorem dX8_falls_11 : decode cX8_falls 11 = .ok (.if_icmp .ge 41, 3) := by decide +kernel
theorem dX8_falls_14 : decode cX8_falls 14 = .ok (.aload_n 0, 1) := by decide +kernel
theorem dX8_falls_15 : decode cX8_falls 15 = .ok (.iload_n 2, 1) := by decide +kernel
theorem dX8_falls_16 : decode cX8_falls 16 = .ok (.iconst 2, 1) := by decide +kernel
theorem dX8_falls_17 : decode cX8_falls 17 = .ok (.invokevirtual 80, 3) := by decide +kernel
theorem dX8_falls_20 : decode cX8_falls 20 = .ok (.istore_n 3, 1) := by decide +kernel
theorem dX8_falls_21 : decode cX8_falls 21 = .ok (.iload_n 3, 1) := by decide +kernel
theorem dX8_falls_22 : decode cX8_falls 22 = .ok (.ifCond .lt 24, 3) := by decide +kernel
theorem dX8_falls_25 : decode cX8_falls 25 = .ok (.aload_n 0, 1) := by decide +kernel
theorem dX8_falls_26 : decode cX8_falls 26 = .ok (.iload_n 2, 1) := by decide +kernel
theorem dX8_falls_27 : decode cX8_falls 27 = .ok (.iload_n 3, 1) := by decide +kernel
theorem dX8_falls_28 : decode cX8_falls 28 = .ok (.invokevirtual 90, 3) := by decide +kernel
theorem dX8_falls_31 : decode cX8_falls 31 = .ok (.ifCond .eq 6, 3) := by decide +kernel
theorem dX8_falls_34 : decode cX8_falls 34 = .ok (.goto 12, 3) := by decide +kernel
theorem dX8_falls_37 : decode cX8_falls 37 = .ok (.aload_n 0, 1) := by decide +kernel
theorem dX8_falls_38 : decode cX8_falls 38 = .ok (.iload_n 2, 1) := by decide +kernel
theorem dX8_falls_39 : decode cX8_falls 39 = .ok (.iload_n 3, 1) := by decide +kernel
theorem dX8_falls_40 : decode cX8_falls 40 = .ok (.invokevirtual 94, 3) := by decide +kernel
theorem dX8_falls_43 : decode cX8_falls 43 = .ok (.iinc 1 1, 3) := by decide +kernel
theorem dX8_falls_46 : decode cX8_falls 46 = .ok (.iinc 2 1, 3) := by decide +kernel
theorem dX8_falls_49 : decode cX8_falls 49 = .ok (.goto (-45), 3) := by decide +kernel
theorem dX8_falls_52 : decode cX8_falls 52 = .ok (.aload_n 0, 1) := by decide +kernel
theorem dX8_falls_53 : decode cX8_falls 53 = .ok (.getfield 7, 3) := by decide +kernel
theorem dX8_falls_56 : decode cX8_falls 56 = .ok (.iconst 5, 1) := by decide +kernel
theorem dX8_falls_57 : decode cX8_falls 57 = .ok (.dup2, 1) := by decide +kernel
theorem dX8_falls_58 : decode cX8_falls 58 = .ok (.iaload, 1) := by decide +kernel
theorem dX8_falls_59 : decode cX8_falls 59 = .ok (.iload_n 1, 1) := by decide +kernel
theorem dX8_falls_60 : decode cX8_falls 60 = .ok (.iadd, 1) := by decide +kernel
theorem dX8_falls_61 : decode cX8_falls 61 = .ok (.iastore, 1) := by decide +kernel
theorem dX8_falls_62 : decode cX8_falls 62 = .ok (.iload_n 1, 1) := by decide +kernel
theorem dX8_falls_63 : decode cX8_falls 63 = .ok (.ireturn, 1) := by decide +kernel
set_option maxRecDepth 20000 in
theorem ggX8_key_X8_in : GoodIn wsX8_key wsX8_in := goodIn_r _ [5] (by decide +kernel) (by decide +kernel)
set_option maxRecDepth 20000 in
theorem gX8_key_X8_in : GoodIn wsX8_key (va_wsS RX8 72 yX8_in wsX8_in) := goodIn_app (goodIn_of _ (by decide +kernel)) ggX8_key_X8_in
set_option maxRecDepth 20000 in
theorem ggX8_key_X8_refuses : GoodIn wsX8_key wsX8_refuses := goodIn_r _ [9, 10, 11, 12, 13, 14, 15, 25, 26, 27, 28, 29, 30, 31, 32, 33, 34, 35, 36, 37, 38, 39, 40, 41, 42, 43, 44, 45, 46, 47, 48] (by decide +kernel) (by decide +kernel)
set_option maxRecDepth 20000 in
theorem gX8_key_X8_refuses : GoodIn wsX8_key (wsV RX8 98 RX8 yX8_refuses wsX8_refuses) := goodIn_app (goodIn_of _ (by decide +kernel)) ggX8_key_X8_refuses
set_option maxRecDepth 20000 in
theorem ggX8_key_X8_keeps : GoodIn wsX8_key wsX8_keeps := goodIn_ca (goodIn_r _ [19, 10, 13, 20, 21, 22, 23, 4, 24, 25, 26, 27, 28, 29, 30, 31, 32, 33, 34, 35, 36, 37, 38, 39, 40, 41, 42, 43, 44, 45, 46, 47, 48] (by decide +kernel) (by decide +kernel)) (goodIn_sub (fun _ h => List.mem_cons_of_mem _ (List.mem_append_right _ h)) (by decide +kernel))
set_option maxRecDepth 20000 in
theorem gX8_key_X8_keeps : GoodIn wsX8_key (wsV RX8 101 RX8 yX8_keeps wsX8_keeps) := goodIn_app (goodIn_of _ (by decide +kernel)) ggX8_key_X8_keeps
theorem dX8_key_0 : decode cX8_key 0 = .ok (.iload_n 1, 1) := by decide +kernel
theorem dX8_key_1 : decode cX8_key 1 = .ok (.iconst 0, 1) := by decide +kernel
theorem dX8_key_2 : decode cX8_key 2 = .ok (.bipush 63, 2) := by decide +kernel
theorem dX8_key_4 : decode cX8_key 4 = .ok (.invokestatic 72, 3) := by decide +kernel
theorem dX8_key_7 : decode cX8_key 7 = .ok (.ifCond .eq 12, 3) := by decide +kernel
theorem dX8_key_10 : decode cX8_key 10 = .ok (.iload_n 2, 1) := by decide +kernel
theorem dX8_key_11 : decode cX8_key 11 = .ok (.iconst 0, 1) := by decide +kernel
theorem dX8_key_12 : decode cX8_key 12 = .ok (.iconst 3, 1) := by decide +kernel
theorem dX8_key_13 : decode cX8_key 13 = .ok (.invokestatic 72, 3) := by decide +kernel
theorem dX8_key_16 : decode cX8_key 16 = .ok (.ifCond .ne 10, 3) := by decide +kernel
theorem dX8_key_19 : decode cX8_key 19 = .ok (.aload_n 0, 1) := by decide +kernel
theorem dX8_key_20 : decode cX8_key 20 = .ok (.iconst 1, 1) := by decide +kernel
theorem dX8_key_21 : decode cX8_key 21 = .ok (.iconst 0, 1) := by decide +kernel
theorem dX8_key_22 : decode cX8_key 22 = .ok (.invokevirtual 98, 3) := by decide +kernel
theorem dX8_key_25 : decode cX8_key 25 = .ok (.ireturn, 1) := by decide +kernel
theorem dX8_key_26 : decode cX8_key 26 = .ok (.aload_n 0, 1) := by decide +kernel
theorem dX8_key_27 : decode cX8_key 27 = .ok (.getfield 7, 3) := by decide +kernel
theorem dX8_key_30 : decode cX8_key 30 = .ok (.iconst 0, 1) := by decide +kernel
theorem dX8_key_31 : decode cX8_key 31 = .ok (.iaload, 1) := by decide +kernel
theorem dX8_key_32 : decode cX8_key 32 = .ok (.bipush 10, 2) := by decide +kernel
theorem dX8_key_34 : decode cX8_key 34 = .ok (.if_icmp .ne 11, 3) := by decide +kernel
theorem dX8_key_37 : decode cX8_key 37 = .ok (.aload_n 0, 1) := by decide +kernel
theorem dX8_key_38 : decode cX8_key 38 = .ok (.iconst 2, 1) := by decide +kernel
theorem dX8_key_39 : decode cX8_key 39 = .ok (.bipush 10, 2) := by decide +kernel
theorem dX8_key_41 : decode cX8_key 41 = .ok (.invokevirtual 98, 3) := by decide +kernel
theorem dX8_key_44 : decode cX8_key 44 = .ok (.ireturn, 1) := by decide +kernel
theorem dX8_key_45 : decode cX8_key 45 = .ok (.aload_n 0, 1) := by decide +kernel
theorem dX8_key_46 : decode cX8_key 46 = .ok (.aload_n 0, 1) := by decide +kernel
theorem dX8_key_47 : decode cX8_key 47 = .ok (.getfield 7, 3) := by decide +kernel
theorem dX8_key_50 : decode cX8_key 50 = .ok (.invokevirtual 101, 3) := by decide +kernel
theorem dX8_key_53 : decode cX8_key 53 = .ok (.aload_n 0, 1) := by decide +kernel
theorem dX8_key_54 : decode cX8_key 54 = .ok (.getfield 7, 3) := by decide +kernel
theorem dX8_key_57 : decode cX8_key 57 = .ok (.iconst 0, 1) := by decide +kernel
theorem dX8_key_58 : decode cX8_key 58 = .ok (.iaload, 1) := by decide +kernel
theorem dX8_key_59 : decode cX8_key 59 = .ok (.istore_n 3, 1) := by decide +kernel
theorem dX8_key_60 : decode cX8_key 60 = .ok (.aload_n 0, 1) := by decide +kernel
theorem dX8_key_61 : decode cX8_key 61 = .ok (.getfield 7, 3) := by decide +kernel
theorem dX8_key_64 : decode cX8_key 64 = .ok (.iconst 0, 1) := by decide +kernel
theorem dX8_key_65 : decode cX8_key 65 = .ok (.dup2, 1) := by decide +kernel
theorem dX8_key_66 : decode cX8_key 66 = .ok (.iaload, 1) := by decide +kernel
theorem dX8_key_67 : decode cX8_key 67 = .ok (.iconst 1, 1) := by decide +kernel
theorem dX8_key_68 : decode cX8_key 68 = .ok (.iadd, 1) := by decide +kernel
theorem dX8_key_69 : decode cX8_key 69 = .ok (.iastore, 1) := by decide +kernel
theorem dX8_key_70 : decode cX8_key 70 = .ok (.aload_n 0, 1) := by decide +kernel
theorem dX8_key_71 : decode cX8_key 71 = .ok (.getfield 7, 3) := by decide +kernel
theorem dX8_key_74 : decode cX8_key 74 = .ok (.bipush 7, 2) := by decide +kernel
theorem dX8_key_76 : decode cX8_key 76 = .ok (.iconst 4, 1) := by decide +kernel
theorem dX8_key_77 : decode cX8_key 77 = .ok (.iload_n 3, 1) := by decide +kernel
theorem dX8_key_78 : decode cX8_key 78 = .ok (.imul, 1) := by decide +kernel
theorem dX8_key_79 : decode cX8_key 79 = .ok (.iadd, 1) := by decide +kernel
theorem dX8_key_80 : decode cX8_key 80 = .ok (.iload_n 1, 1) := by decide +kernel
theorem dX8_key_81 : decode cX8_key 81 = .ok (.iastore, 1) := by decide +kernel
theorem dX8_key_82 : decode cX8_key 82 = .ok (.aload_n 0, 1) := by decide +kernel
theorem dX8_key_83 : decode cX8_key 83 = .ok (.getfield 7, 3) := by decide +kernel
theorem dX8_key_86 : decode cX8_key 86 = .ok (.bipush 7, 2) := by decide +kernel
theorem dX8_key_88 : decode cX8_key 88 = .ok (.iconst 4, 1) := by decide +kernel
theorem dX8_key_89 : decode cX8_key 89 = .ok (.iload_n 3, 1) := by decide +kernel
theorem dX8_key_90 : decode cX8_key 90 = .ok (.imul, 1) := by decide +kernel
theorem dX8_key_91 : decode cX8_key 91 = .ok (.iadd, 1) := by decide +kernel
theorem dX8_key_92 : decode cX8_key 92 = .ok (.iconst 1, 1) := by decide +kernel
theorem dX8_key_93 : decode cX8_key 93 = .ok (.iadd, 1) := by decide +kernel
theorem dX8_key_94 : decode cX8_key 94 = .ok (.iload_n 2, 1) := by decide +kernel
theorem dX8_key_95 : decode cX8_key 95 = .ok (.iastore, 1) := by decide +kernel
theorem dX8_key_96 : decode cX8_key 96 = .ok (.aload_n 0, 1) := by decide +kernel
theorem dX8_key_97 : decode cX8_key 97 = .ok (.getfield 7, 3) := by decide +kernel
theorem dX8_key_100 : decode cX8_key 100 = .ok (.bipush 7, 2) := by decide +kernel
theorem dX8_key_102 : decode cX8_key 102 = .ok (.iconst 4, 1) := by decide +kernel
theorem dX8_key_103 : decode cX8_key 103 = .ok (.iload_n 3, 1) := by decide +kernel
theorem dX8_key_104 : decode cX8_key 104 = .ok (.imul, 1) := by decide +kernel
theorem dX8_key_105 : decode cX8_key 105 = .ok (.iadd, 1) := by decide +kernel
theorem dX8_key_106 : decode cX8_key 106 = .ok (.iconst 2, 1) := by decide +kernel
theorem dX8_key_107 : decode cX8_key 107 = .ok (.iadd, 1) := by decide +kernel
theorem dX8_key_108 : decode cX8_key 108 = .ok (.iconst (-1), 1) := by decide +kernel
theorem dX8_key_109 : decode cX8_key 109 = .ok (.iastore, 1) := by decide +kernel
theorem dX8_key_110 : decode cX8_key 110 = .ok (.aload_n 0, 1) := by decide +kernel
theorem dX8_key_111 : decode cX8_key 111 = .ok (.getfield 7, 3) := by decide +kernel
theorem dX8_key_114 : decode cX8_key 114 = .ok (.bipush 7, 2) := by decide +kernel
theorem dX8_key_116 : decode cX8_key 116 = .ok (.iconst 4, 1) := by decide +kernel
theorem dX8_key_117 : decode cX8_key 117 = .ok (.iload_n 3, 1) := by decide +kernel
theorem dX8_key_118 : decode cX8_key 118 = .ok (.imul, 1) := by decide +kernel
theorem dX8_key_119 : decode cX8_key 119 = .ok (.iadd, 1) := by decide +kernel
theorem dX8_key_120 : decode cX8_key 120 = .ok (.iconst 3, 1) := by decide +kernel
theorem dX8_key_121 : decode cX8_key 121 = .ok (.iadd, 1) := by decide +kernel
theorem dX8_key_122 : decode cX8_key 122 = .ok (.iconst 0, 1) := by decide +kernel
theorem dX8_key_123 : decode cX8_key 123 = .ok (.iastore, 1) := by decide +kernel
theorem dX8_key_124 : decode cX8_key 124 = .ok (.iload_n 3, 1) := by decide +kernel
theorem dX8_key_125 : decode cX8_key 125 = .ok (.ireturn, 1) := by decide +kernel
set_option maxRecDepth 20000 in
theorem ggX8_lock_X8_in : GoodIn wsX8_lock wsX8_in := goodIn_r _ [5] (by decide +kernel) (by decide +kernel)
set_option maxRecDepth 20000 in
theorem gX8_lock_X8_in : GoodIn wsX8_lock (va_wsS RX8 72 yX8_in wsX8_in) := goodIn_app (goodIn_of _ (by decide +kernel)) ggX8_lock_X8_in
set_option maxRecDepth 20000 in
theorem ggX8_lock_X8_refuses : GoodIn wsX8_lock wsX8_refuses := goodIn_r _ [9, 10, 11, 12, 13, 14, 15, 25, 26, 27, 28, 29, 30, 31, 32, 33, 34, 35, 36, 37, 38, 39, 40, 41, 42, 43, 44, 45, 46, 47, 48] (by decide +kernel) (by decide +kernel)
set_option maxRecDepth 20000 in
theorem gX8_lock_X8_refuses : GoodIn wsX8_lock (wsV RX8 98 RX8 yX8_refuses wsX8_refuses) := goodIn_app (goodIn_of _ (by decide +kernel)) ggX8_lock_X8_refuses
set_option maxRecDepth 20000 in
theorem ggX8_lock_X8_keeps : GoodIn wsX8_lock wsX8_keeps := goodIn_ca (goodIn_r _ [19, 10, 13, 20, 21, 22, 23, 4, 24, 25, 26, 27, 28, 29, 30, 31, 32, 33, 34, 35, 36, 37, 38, 39, 40, 41, 42, 43, 44, 45, 46, 47, 48] (by decide +kernel) (by decide +kernel)) (goodIn_sub (fun _ h => List.mem_cons_of_mem _ (List.mem_append_right _ h)) (by decide +kernel))
set_option maxRecDepth 20000 in
theorem gX8_lock_X8_keeps : GoodIn wsX8_lock (wsV RX8 101 RX8 yX8_keeps wsX8_keeps) := goodIn_app (goodIn_of _ (by decide +kernel)) ggX8_lock_X8_keeps
theorem dX8_lock_0 : decode cX8_lock 0 = .ok (.iload_n 1, 1) := by decide +kernel
theorem dX8_lock_1 : decode cX8_lock 1 = .ok (.iconst 0, 1) := by decide +kernel
theorem dX8_lock_2 : decode cX8_lock 2 = .ok (.bipush 63, 2) := by decide +kernel
theorem dX8_lock_4 : decode cX8_lock 4 = .ok (.invokestatic 72, 3) := by decide +kernel
theorem dX8_lock_7 : decode cX8_lock 7 = .ok (.ifCond .ne 10, 3) := by decide +kernel
theorem dX8_lock_10 : decode cX8_lock 10 = .ok (.aload_n 0, 1) := by decide +kernel
theorem dX8_lock_11 : decode cX8_lock 11 = .ok (.iconst 1, 1) := by decide +kernel
theorem dX8_lock_12 : decode cX8_lock 12 = .ok (.iconst 0, 1) := by decide +kernel
theorem dX8_lock_13 : decode cX8_lock 13 = .ok (.invokevirtual 98, 3) := by decide +kernel
theorem dX8_lock_16 : decode cX8_lock 16 = .ok (.ireturn, 1) := by decide +kernel
theorem dX8_lock_17 : decode cX8_lock 17 = .ok (.aload_n 0, 1) := by decide +kernel
theorem dX8_lock_18 : decode cX8_lock 18 = .ok (.getfield 7, 3) := by decide +kernel
theorem dX8_lock_21 : decode cX8_lock 21 = .ok (.iconst 1, 1) := by decide +kernel
theorem dX8_lock_22 : decode cX8_lock 22 = .ok (.iaload, 1) := by decide +kernel
theorem dX8_lock_23 : decode cX8_lock 23 = .ok (.bipush 10, 2) := by decide +kernel
theorem dX8_lock_25 : decode cX8_lock 25 = .ok (.if_icmp .ne 11, 3) := by decide +kernel
theorem dX8_lock_28 : decode cX8_lock 28 = .ok (.aload_n 0, 1) := by decide +kernel
theorem dX8_lock_29 : decode cX8_lock 29 = .ok (.iconst 2, 1) := by decide +kernel
theorem dX8_lock_30 : decode cX8_lock 30 = .ok (.bipush 10, 2) := by decide +kernel
theorem dX8_lock_32 : decode cX8_lock 32 = .ok (.invokevirtual 98, 3) := by decide +kernel
theorem dX8_lock_35 : decode cX8_lock 35 = .ok (.ireturn, 1) := by decide +kernel
theorem dX8_lock_36 : decode cX8_lock 36 = .ok (.aload_n 0, 1) := by decide +kernel
theorem dX8_lock_37 : decode cX8_lock 37 = .ok (.aload_n 0, 1) := by decide +kernel
theorem dX8_lock_38 : decode cX8_lock 38 = .ok (.getfield 7, 3) := by decide +kernel
theorem dX8_lock_41 : decode cX8_lock 41 = .ok (.invokevirtual 101, 3) := by decide +kernel
theorem dX8_lock_44 : decode cX8_lock 44 = .ok (.aload_n 0, 1) := by decide +kernel
theorem dX8_lock_45 : decode cX8_lock 45 = .ok (.getfield 7, 3) := by decide +kernel
theorem dX8_lock_48 : decode cX8_lock 48 = .ok (.iconst 1, 1) := by decide +kernel
theorem dX8_lock_49 : decode cX8_lock 49 = .ok (.iaload, 1) := by decide +kernel
theorem dX8_lock_50 : decode cX8_lock 50 = .ok (.istore_n 2, 1) := by decide +kernel
theorem dX8_lock_51 : decode cX8_lock 51 = .ok (.aload_n 0, 1) := by decide +kernel
theorem dX8_lock_52 : decode cX8_lock 52 = .ok (.getfield 7, 3) := by decide +kernel
theorem dX8_lock_55 : decode cX8_lock 55 = .ok (.iconst 1, 1) := by decide +kernel
theorem dX8_lock_56 : decode cX8_lock 56 = .ok (.dup2, 1) := by decide +kernel
theorem dX8_lock_57 : decode cX8_lock 57 = .ok (.iaload, 1) := by decide +kernel
theorem dX8_lock_58 : decode cX8_lock 58 = .ok (.iconst 1, 1) := by decide +kernel
theorem dX8_lock_59 : decode cX8_lock 59 = .ok (.iadd, 1) := by decide +kernel
theorem dX8_lock_60 : decode cX8_lock 60 = .ok (.iastore, 1) := by decide +kernel
theorem dX8_lock_61 : decode cX8_lock 61 = .ok (.aload_n 0, 1) := by decide +kernel
theorem dX8_lock_62 : decode cX8_lock 62 = .ok (.getfield 7, 3) := by decide +kernel
theorem dX8_lock_65 : decode cX8_lock 65 = .ok (.bipush 47, 2) := by decide +kernel
theorem dX8_lock_67 : decode cX8_lock 67 = .ok (.iconst 3, 1) := by decide +kernel
theorem dX8_lock_68 : decode cX8_lock 68 = .ok (.iload_n 2, 1) := by decide +kernel
theorem dX8_lock_69 : decode cX8_lock 69 = .ok (.imul, 1) := by decide +kernel
theorem dX8_lock_70 : decode cX8_lock 70 = .ok (.iadd, 1) := by decide +kernel
theorem dX8_lock_71 : decode cX8_lock 71 = .ok (.iload_n 1, 1) := by decide +kernel
theorem dX8_lock_72 : decode cX8_lock 72 = .ok (.iastore, 1) := by decide +kernel
theorem dX8_lock_73 : decode cX8_lock 73 = .ok (.aload_n 0, 1) := by decide +kernel
theorem dX8_lock_74 : decode cX8_lock 74 = .ok (.getfield 7, 3) := by decide +kernel
theorem dX8_lock_77 : decode cX8_lock 77 = .ok (.bipush 47, 2) := by decide +kernel
theorem dX8_lock_79 : decode cX8_lock 79 = .ok (.iconst 3, 1) := by decide +kernel
theorem dX8_lock_80 : decode cX8_lock 80 = .ok (.iload_n 2, 1) := by decide +kernel
theorem dX8_lock_81 : decode cX8_lock 81 = .ok (.imul, 1) := by decide +kernel
theorem dX8_lock_82 : decode cX8_lock 82 = .ok (.iadd, 1) := by decide +kernel
theorem dX8_lock_83 : decode cX8_lock 83 = .ok (.iconst 1, 1) := by decide +kernel
theorem dX8_lock_84 : decode cX8_lock 84 = .ok (.iadd, 1) := by decide +kernel
theorem dX8_lock_85 : decode cX8_lock 85 = .ok (.iconst (-1), 1) := by decide +kernel
theorem dX8_lock_86 : decode cX8_lock 86 = .ok (.iastore, 1) := by decide +kernel
theorem dX8_lock_87 : decode cX8_lock 87 = .ok (.aload_n 0, 1) := by decide +kernel
theorem dX8_lock_88 : decode cX8_lock 88 = .ok (.getfield 7, 3) := by decide +kernel
theorem dX8_lock_91 : decode cX8_lock 91 = .ok (.bipush 47, 2) := by decide +kernel
theorem dX8_lock_93 : decode cX8_lock 93 = .ok (.iconst 3, 1) := by decide +kernel
theorem dX8_lock_94 : decode cX8_lock 94 = .ok (.iload_n 2, 1) := by decide +kernel
theorem dX8_lock_95 : decode cX8_lock 95 = .ok (.imul, 1) := by decide +kernel
theorem dX8_lock_96 : decode cX8_lock 96 = .ok (.iadd, 1) := by decide +kernel
theorem dX8_lock_97 : decode cX8_lock 97 = .ok (.iconst 2, 1) := by decide +kernel
theorem dX8_lock_98 : decode cX8_lock 98 = .ok (.iadd, 1) := by decide +kernel
theorem dX8_lock_99 : decode cX8_lock 99 = .ok (.iconst 0, 1) := by decide +kernel
theorem dX8_lock_100 : decode cX8_lock 100 = .ok (.iastore, 1) := by decide +kernel
theorem dX8_lock_101 : decode cX8_lock 101 = .ok (.iload_n 2, 1) := by decide +kernel
theorem dX8_lock_102 : decode cX8_lock 102 = .ok (.ireturn, 1) := by decide +kernel
set_option maxRecDepth 20000 in
theorem ggX8_cut_X8_isKey : GoodIn wsX8_cut wsX8_isKey := goodIn_ca (goodIn_r _ [6, 1, 7, 8, 5, 9, 56, 57, 58, 59, 60, 61, 62, 63, 64, 65, 66, 67, 68, 69, 70, 71, 72, 73, 74, 75, 76, 77, 78, 79] (by decide +kernel) (by decide +kernel)) (goodIn_sub (fun _ h => List.mem_cons_of_mem _ (List.mem_append_right _ h)) (by decide +kernel))
set_option maxRecDepth 20000 in
theorem gX8_cut_X8_isKey : GoodIn wsX8_cut (wsV RX8 105 RX8 yX8_isKey wsX8_isKey) := goodIn_app (goodIn_of _ (by decide +kernel)) ggX8_cut_X8_isKey
set_option maxRecDepth 20000 in
theorem ggX8_cut_X8_refuses : GoodIn wsX8_cut wsX8_refuses := goodIn_r _ [13, 14, 15, 16, 17, 18, 19, 56, 57, 58, 59, 60, 61, 62, 63, 64, 65, 66, 67, 68, 69, 70, 71, 72, 73, 74, 75, 76, 77, 78, 79] (by decide +kernel) (by decide +kernel)
set_option maxRecDepth 20000 in
theorem gX8_cut_X8_refuses : GoodIn wsX8_cut (wsV RX8 98 RX8 yX8_refuses wsX8_refuses) := goodIn_app (goodIn_of _ (by decide +kernel)) ggX8_cut_X8_refuses
set_option maxRecDepth 20000 in
theorem ggX8_cut_X8_in : GoodIn wsX8_cut wsX8_in := goodIn_r _ [9] (by decide +kernel) (by decide +kernel)
set_option maxRecDepth 20000 in
theorem gX8_cut_X8_in : GoodIn wsX8_cut (va_wsS RX8 72 yX8_in wsX8_in) := goodIn_app (goodIn_of _ (by decide +kernel)) ggX8_cut_X8_in
set_option maxRecDepth 20000 in
theorem ggX8_cut_X8_ofKey : GoodIn wsX8_cut wsX8_ofKey := goodIn_ca (goodIn_r _ [23, 1, 56, 57, 58, 59, 60, 61, 62, 63, 64, 65, 66, 67, 68, 69, 70, 71, 72, 73, 74, 75, 76, 77, 78, 79] (by decide +kernel) (by decide +kernel)) (goodIn_sub (fun _ h => List.mem_cons_of_mem _ (List.mem_append_right _ h)) (by decide +kernel))
set_option maxRecDepth 20000 in
theorem gX8_cut_X8_ofKey : GoodIn wsX8_cut (wsV RX8 80 RX8 yX8_ofKey wsX8_ofKey) := goodIn_app (goodIn_of _ (by decide +kernel)) ggX8_cut_X8_ofKey
set_option maxRecDepth 20000 in
theorem ggX8_cut_X8_keeps : GoodIn wsX8_cut wsX8_keeps := goodIn_ca (goodIn_r _ [27, 14, 17, 28, 29, 30, 31, 5, 32, 56, 57, 58, 59, 60, 61, 62, 63, 64, 65, 66, 67, 68, 69, 70, 71, 72, 73, 74, 75, 76, 77, 78, 79] (by decide +kernel) (by decide +kernel)) (goodIn_sub (fun _ h => List.mem_cons_of_mem _ (List.mem_append_right _ h)) (by decide +kernel))
set_option maxRecDepth 20000 in
theorem gX8_cut_X8_keeps : GoodIn wsX8_cut (wsV RX8 101 RX8 yX8_keeps wsX8_keeps) := goodIn_app (goodIn_of _ (by decide +kernel)) ggX8_cut_X8_keeps
set_option maxRecDepth 20000 in
theorem ggX8_cut_X8_many : GoodIn wsX8_cut wsX8_many := goodIn_r _ [35] (by decide +kernel) (by decide +kernel)
set_option maxRecDepth 20000 in
theorem gX8_cut_X8_many : GoodIn wsX8_cut (va_wsS RX8 83 yX8_many wsX8_many) := goodIn_app (goodIn_of _ (by decide +kernel)) ggX8_cut_X8_many
set_option maxRecDepth 20000 in
theorem ggX8_cut_X8_falls : GoodIn wsX8_cut wsX8_falls := goodIn_ca (goodIn_r _ [39, 1, 20, 21, 22, 5, 23, 40, 41, 42, 43, 44, 45, 46, 47, 48, 49, 50, 51, 33, 34, 35, 52, 53, 54, 55, 56, 57, 58, 59, 60, 61, 62, 63, 64, 65, 66, 67, 68, 69, 70, 71, 72, 73, 74, 75, 76, 77, 78, 79] (by decide +kernel) (by decide +kernel)) (goodIn_sub (fun _ h => List.mem_cons_of_mem _ (List.mem_append_right _ h)) (by decide +kernel))
set_option maxRecDepth 20000 in
theorem gX8_cut_X8_falls : GoodIn wsX8_cut (wsV RX8 109 RX8 yX8_falls wsX8_falls) := goodIn_app (goodIn_of _ (by decide +kernel)) ggX8_cut_X8_falls
theorem dX8_cut_0 : decode cX8_cut 0 = .ok (.aload_n 0, 1) := by decide +kernel
theorem dX8_cut_1 : decode cX8_cut 1 = .ok (.iload_n 1, 1) := by decide +kernel
theorem dX8_cut_2 : decode cX8_cut 2 = .ok (.invokevirtual 105, 3) := by decide +kernel
theorem dX8_cut_5 : decode cX8_cut 5 = .ok (.ifCond .ne 10, 3) := by decide +kernel
theorem dX8_cut_8 : decode cX8_cut 8 = .ok (.aload_n 0, 1) := by decide +kernel
theorem dX8_cut_9 : decode cX8_cut 9 = .ok (.iconst 3, 1) := by decide +kernel
theorem dX8_cut_10 : decode cX8_cut 10 = .ok (.iload_n 1, 1) := by decide +kernel
theorem dX8_cut_11 : decode cX8_cut 11 = .ok (.invokevirtual 98, 3) := by decide +kernel
theorem dX8_cut_14 : decode cX8_cut 14 = .ok (.ireturn, 1) := by decide +kernel
theorem dX8_cut_15 : decode cX8_cut 15 = .ok (.iload_n 2, 1) := by decide +kernel
theorem dX8_cut_16 : decode cX8_cut 16 = .ok (.iconst 0, 1) := by decide +kernel
theorem dX8_cut_17 : decode cX8_cut 17 = .ok (.bipush 63, 2) := by decide +kernel
theorem dX8_cut_19 : decode cX8_cut 19 = .ok (.invokestatic 72, 3) := by decide +kernel
theorem dX8_cut_22 : decode cX8_cut 22 = .ok (.ifCond .ne 10, 3) := by decide +kernel
theorem dX8_cut_25 : decode cX8_cut 25 = .ok (.aload_n 0, 1) := by decide +kernel
theorem dX8_cut_26 : decode cX8_cut 26 = .ok (.iconst 1, 1) := by decide +kernel
theorem dX8_cut_27 : decode cX8_cut 27 = .ok (.iconst 0, 1) := by decide +kernel
theorem dX8_cut_28 : decode cX8_cut 28 = .ok (.invokevirtual 98, 3) := by decide +kernel
theorem dX8_cut_31 : decode cX8_cut 31 = .ok (.ireturn, 1) := by decide +kernel
theorem dX8_cut_32 : decode cX8_cut 32 = .ok (.aload_n 0, 1) := by decide +kernel
theorem dX8_cut_33 : decode cX8_cut 33 = .ok (.iload_n 1, 1) := by decide +kernel
theorem dX8_cut_34 : decode cX8_cut 34 = .ok (.iconst 0, 1) := by decide +kernel
theorem dX8_cut_35 : decode cX8_cut 35 = .ok (.invokevirtual 80, 3) := by decide +kernel
theorem dX8_cut_38 : decode cX8_cut 38 = .ok (.iload_n 2, 1) := by decide +kernel
theorem dX8_cut_39 : decode cX8_cut 39 = .ok (.if_icmp .ne 10, 3) := by decide +kernel
theorem dX8_cut_42 : decode cX8_cut 42 = .ok (.aload_n 0, 1) := by decide +kernel
theorem dX8_cut_43 : decode cX8_cut 43 = .ok (.iconst 5, 1) := by decide +kernel
theorem dX8_cut_44 : decode cX8_cut 44 = .ok (.iconst 0, 1) := by decide +kernel
theorem dX8_cut_45 : decode cX8_cut 45 = .ok (.invokevirtual 98, 3) := by decide +kernel
theorem dX8_cut_48 : decode cX8_cut 48 = .ok (.ireturn, 1) := by decide +kernel
theorem dX8_cut_49 : decode cX8_cut 49 = .ok (.aload_n 0, 1) := by decide +kernel
theorem dX8_cut_50 : decode cX8_cut 50 = .ok (.aload_n 0, 1) := by decide +kernel
theorem dX8_cut_51 : decode cX8_cut 51 = .ok (.getfield 7, 3) := by decide +kernel
theorem dX8_cut_54 : decode cX8_cut 54 = .ok (.invokevirtual 101, 3) := by decide +kernel
theorem dX8_cut_57 : decode cX8_cut 57 = .ok (.aload_n 0, 1) := by decide +kernel
theorem dX8_cut_58 : decode cX8_cut 58 = .ok (.iload_n 1, 1) := by decide +kernel
theorem dX8_cut_59 : decode cX8_cut 59 = .ok (.iconst 0, 1) := by decide +kernel
theorem dX8_cut_60 : decode cX8_cut 60 = .ok (.invokevirtual 80, 3) := by decide +kernel
theorem dX8_cut_63 : decode cX8_cut 63 = .ok (.iload_n 2, 1) := by decide +kernel
theorem dX8_cut_64 : decode cX8_cut 64 = .ok (.ixor, 1) := by decide +kernel
theorem dX8_cut_65 : decode cX8_cut 65 = .ok (.invokestatic 83, 3) := by decide +kernel
theorem dX8_cut_68 : decode cX8_cut 68 = .ok (.istore_n 3, 1) := by decide +kernel
theorem dX8_cut_69 : decode cX8_cut 69 = .ok (.aload_n 0, 1) := by decide +kernel
theorem dX8_cut_70 : decode cX8_cut 70 = .ok (.getfield 7, 3) := by decide +kernel
theorem dX8_cut_73 : decode cX8_cut 73 = .ok (.bipush 7, 2) := by decide +kernel
theorem dX8_cut_75 : decode cX8_cut 75 = .ok (.iconst 4, 1) := by decide +kernel
theorem dX8_cut_76 : decode cX8_cut 76 = .ok (.iload_n 1, 1) := by decide +kernel
theorem dX8_cut_77 : decode cX8_cut 77 = .ok (.imul, 1) := by decide +kernel
theorem dX8_cut_78 : decode cX8_cut 78 = .ok (.iadd, 1) := by decide +kernel
theorem dX8_cut_79 : decode cX8_cut 79 = .ok (.iload_n 2, 1) := by decide +kernel
theorem dX8_cut_80 : decode cX8_cut 80 = .ok (.iastore, 1) := by decide +kernel
theorem dX8_cut_81 : decode cX8_cut 81 = .ok (.aload_n 0, 1) := by decide +kernel
theorem dX8_cut_82 : decode cX8_cut 82 = .ok (.getfield 7, 3) := by decide +kernel
theorem dX8_cut_85 : decode cX8_cut 85 = .ok (.bipush 7, 2) := by decide +kernel
theorem dX8_cut_87 : decode cX8_cut 87 = .ok (.iconst 4, 1) := by decide +kernel
theorem dX8_cut_88 : decode cX8_cut 88 = .ok (.iload_n 1, 1) := by decide +kernel
theorem dX8_cut_89 : decode cX8_cut 89 = .ok (.imul, 1) := by decide +kernel
theorem dX8_cut_90 : decode cX8_cut 90 = .ok (.iadd, 1) := by decide +kernel
theorem dX8_cut_91 : decode cX8_cut 91 = .ok (.iconst 3, 1) := by decide +kernel
theorem dX8_cut_92 : decode cX8_cut 92 = .ok (.iadd, 1) := by decide +kernel
theorem dX8_cut_93 : decode cX8_cut 93 = .ok (.dup2, 1) := by decide +kernel
theorem dX8_cut_94 : decode cX8_cut 94 = .ok (.iaload, 1) := by decide +kernel
theorem dX8_cut_95 : decode cX8_cut 95 = .ok (.iload_n 3, 1) := by decide +kernel
theorem dX8_cut_96 : decode cX8_cut 96 = .ok (.iadd, 1) := by decide +kernel
theorem dX8_cut_97 : decode cX8_cut 97 = .ok (.iastore, 1) := by decide +kernel
theorem dX8_cut_98 : decode cX8_cut 98 = .ok (.aload_n 0, 1) := by decide +kernel
theorem dX8_cut_99 : decode cX8_cut 99 = .ok (.getfield 7, 3) := by decide +kernel
