theorem dX0_init_0 : decode cX0_init 0 = .ok (.aload_n 0, 1) := by decide +kernel
theorem dX0_init_1 : decode cX0_init 1 = .ok (.invokespecial 3, 3) := by decide +kernel
theorem dX0_init_4 : decode cX0_init 4 = .ok (.aload_n 0, 1) := by decide +kernel
theorem dX0_init_5 : decode cX0_init 5 = .ok (.bipush 60, 2) := by decide +kernel
theorem dX0_init_7 : decode cX0_init 7 = .ok (.newarray .char, 2) := by decide +kernel
theorem dX0_init_9 : decode cX0_init 9 = .ok (.putfield 9, 3) := by decide +kernel
theorem dX0_init_12 : decode cX0_init 12 = .ok (.aload_n 0, 1) := by decide +kernel
theorem dX0_init_13 : decode cX0_init 13 = .ok (.iconst 0, 1) := by decide +kernel
theorem dX0_init_14 : decode cX0_init 14 = .ok (.putfield 15, 3) := by decide +kernel
theorem dX0_init_17 : decode cX0_init 17 = .ok (.aload_n 0, 1) := by decide +kernel
theorem dX0_init_18 : decode cX0_init 18 = .ok (.iconst 0, 1) := by decide +kernel
theorem dX0_init_19 : decode cX0_init 19 = .ok (.putfield 19, 3) := by decide +kernel
theorem dX0_init_22 : decode cX0_init 22 = .ok (.aload_n 0, 1) := by decide +kernel
theorem dX0_init_23 : decode cX0_init 23 = .ok (.iconst 0, 1) := by decide +kernel
theorem dX0_init_24 : decode cX0_init 24 = .ok (.putfield 22, 3) := by decide +kernel
theorem dX0_init_27 : decode cX0_init 27 = .ok (.aload_n 0, 1) := by decide +kernel
theorem dX0_init_28 : decode cX0_init 28 = .ok (.bipush 119, 2) := by decide +kernel
theorem dX0_init_30 : decode cX0_init 30 = .ok (.putfield 25, 3) := by decide +kernel
theorem dX0_init_33 : decode cX0_init 33 = .ok (.aload_n 0, 1) := by decide +kernel
theorem dX0_init_34 : decode cX0_init 34 = .ok (.iconst 0, 1) := by decide +kernel
theorem dX0_init_35 : decode cX0_init 35 = .ok (.putfield 29, 3) := by decide +kernel
theorem dX0_init_38 : decode cX0_init 38 = .ok (.aload_n 0, 1) := by decide +kernel
theorem dX0_init_39 : decode cX0_init 39 = .ok (.iconst 0, 1) := by decide +kernel
theorem dX0_init_40 : decode cX0_init 40 = .ok (.putfield 32, 3) := by decide +kernel
theorem dX0_init_43 : decode cX0_init 43 = .ok (.return_, 1) := by decide +kernel
theorem dX0_add_0 : decode cX0_add 0 = .ok (.aload_n 0, 1) := by decide +kernel
theorem dX0_add_1 : decode cX0_add 1 = .ok (.getfield 15, 3) := by decide +kernel
theorem dX0_add_4 : decode cX0_add 4 = .ok (.ifCond .lt 12, 3) := by decide +kernel
theorem dX0_add_7 : decode cX0_add 7 = .ok (.aload_n 0, 1) := by decide +kernel
theorem dX0_add_8 : decode cX0_add 8 = .ok (.getfield 15, 3) := by decide +kernel
theorem dX0_add_11 : decode cX0_add 11 = .ok (.bipush 60, 2) := by decide +kernel
theorem dX0_add_13 : decode cX0_add 13 = .ok (.if_icmp .lt 5, 3) := by decide +kernel
theorem dX0_add_16 : decode cX0_add 16 = .ok (.iconst 0, 1) := by decide +kernel
theorem dX0_add_17 : decode cX0_add 17 = .ok (.ireturn, 1) := by decide +kernel
theorem dX0_add_18 : decode cX0_add 18 = .ok (.aload_n 0, 1) := by decide +kernel
theorem dX0_add_19 : decode cX0_add 19 = .ok (.getfield 9, 3) := by decide +kernel
theorem dX0_add_22 : decode cX0_add 22 = .ok (.aload_n 0, 1) := by decide +kernel
theorem dX0_add_23 : decode cX0_add 23 = .ok (.getfield 15, 3) := by decide +kernel
theorem dX0_add_26 : decode cX0_add 26 = .ok (.iload_n 1, 1) := by decide +kernel
theorem dX0_add_27 : decode cX0_add 27 = .ok (.castore, 1) := by decide +kernel
theorem dX0_add_28 : decode cX0_add 28 = .ok (.aload_n 0, 1) := by decide +kernel
theorem dX0_add_29 : decode cX0_add 29 = .ok (.dup, 1) := by decide +kernel
theorem dX0_add_30 : decode cX0_add 30 = .ok (.getfield 15, 3) := by decide +kernel
theorem dX0_add_33 : decode cX0_add 33 = .ok (.iconst 1, 1) := by decide +kernel
theorem dX0_add_34 : decode cX0_add 34 = .ok (.iadd, 1) := by decide +kernel
theorem dX0_add_35 : decode cX0_add 35 = .ok (.putfield 15, 3) := by decide +kernel
theorem dX0_add_38 : decode cX0_add 38 = .ok (.iconst 1, 1) := by decide +kernel
theorem dX0_add_39 : decode cX0_add 39 = .ok (.ireturn, 1) := by decide +kernel
theorem dX0_clear_0 : decode cX0_clear 0 = .ok (.aload_n 0, 1) := by decide +kernel
theorem dX0_clear_1 : decode cX0_clear 1 = .ok (.iconst 0, 1) := by decide +kernel
theorem dX0_clear_2 : decode cX0_clear 2 = .ok (.putfield 15, 3) := by decide +kernel
theorem dX0_clear_5 : decode cX0_clear 5 = .ok (.return_, 1) := by decide +kernel
theorem dX0_restart_0 : decode cX0_restart 0 = .ok (.aload_n 0, 1) := by decide +kernel
theorem dX0_restart_1 : decode cX0_restart 1 = .ok (.iconst 0, 1) := by decide +kernel
theorem dX0_restart_2 : decode cX0_restart 2 = .ok (.putfield 19, 3) := by decide +kernel
theorem dX0_restart_5 : decode cX0_restart 5 = .ok (.return_, 1) := by decide +kernel
set_option maxRecDepth 20000 in
theorem ggX0_findFault_X0_restart : GoodIn wsX0_findFault wsX0_restart := goodIn_r _ [8, 2, 41, 42, 43, 44, 45, 46, 47] (by decide +kernel) (by decide +kernel)
set_option maxRecDepth 20000 in
theorem gX0_findFault_X0_restart : GoodIn wsX0_findFault (wsV RX0 35 RX0 yX0_restart wsX0_restart) := goodIn_app (goodIn_of _ (by decide +kernel)) ggX0_findFault_X0_restart
set_option maxRecDepth 20000 in
theorem ggX0_findFault_X0_readCommand : GoodIn wsX0_findFault wsX0_readCommand := goodIn_ca (goodIn_r _ [12, 13, 2, 14, 15, 16, 7, 17, 3, 18, 19, 20, 21, 22, 23, 24, 25, 26, 27, 28, 29, 30, 31, 32, 33, 34, 35, 36, 37, 38, 39, 40, 41, 42, 43, 44, 45, 46, 47] (by decide +kernel) (by decide +kernel)) (goodIn_sub (fun _ h => List.mem_cons_of_mem _ (List.mem_append_right _ h)) (by decide +kernel))
set_option maxRecDepth 20000 in
theorem gX0_findFault_X0_readCommand : GoodIn wsX0_findFault (wsV RX0 38 RX0 yX0_readCommand wsX0_readCommand) := goodIn_app (goodIn_of _ (by decide +kernel)) ggX0_findFault_X0_readCommand
set_option maxRecDepth 20000 in
theorem ggX0_findFault_X0_readSign : GoodIn wsX0_findFault wsX0_readSign := goodIn_ca (goodIn_r _ [35, 2, 14, 15, 16, 7, 17, 3, 18, 41, 42, 43, 44, 45, 46, 47] (by decide +kernel) (by decide +kernel)) (goodIn_sub (fun _ h => List.mem_cons_of_mem _ (List.mem_append_right _ h)) (by decide +kernel))
set_option maxRecDepth 20000 in
theorem gX0_findFault_X0_readSign : GoodIn wsX0_findFault (wsV RX0 42 RX0 yX0_readSign wsX0_readSign) := goodIn_app (goodIn_of _ (by decide +kernel)) ggX0_findFault_X0_readSign
theorem dX0_findFault_0 : decode cX0_findFault 0 = .ok (.aload_n 0, 1) := by decide +kernel
theorem dX0_findFault_1 : decode cX0_findFault 1 = .ok (.invokevirtual 35, 3) := by decide +kernel
theorem dX0_findFault_4 : decode cX0_findFault 4 = .ok (.aload_n 0, 1) := by decide +kernel
theorem dX0_findFault_5 : decode cX0_findFault 5 = .ok (.iconst 0, 1) := by decide +kernel
theorem dX0_findFault_6 : decode cX0_findFault 6 = .ok (.putfield 22, 3) := by decide +kernel
theorem dX0_findFault_9 : decode cX0_findFault 9 = .ok (.aload_n 0, 1) := by decide +kernel
theorem dX0_findFault_10 : decode cX0_findFault 10 = .ok (.getfield 22, 3) := by decide +kernel
theorem dX0_findFault_13 : decode cX0_findFault 13 = .ok (.bipush 60, 2) := by decide +kernel
theorem dX0_findFault_15 : decode cX0_findFault 15 = .ok (.if_icmp .gt 52, 3) := by decide +kernel
theorem dX0_findFault_18 : decode cX0_findFault 18 = .ok (.aload_n 0, 1) := by decide +kernel
theorem dX0_findFault_19 : decode cX0_findFault 19 = .ok (.invokevirtual 38, 3) := by decide +kernel
theorem dX0_findFault_22 : decode cX0_findFault 22 = .ok (.ifCond .ne 8, 3) := by decide +kernel
theorem dX0_findFault_25 : decode cX0_findFault 25 = .ok (.aload_n 0, 1) := by decide +kernel
theorem dX0_findFault_26 : decode cX0_findFault 26 = .ok (.getfield 19, 3) := by decide +kernel
theorem dX0_findFault_29 : decode cX0_findFault 29 = .ok (.ireturn, 1) := by decide +kernel
theorem dX0_findFault_30 : decode cX0_findFault 30 = .ok (.aload_n 0, 1) := by decide +kernel
theorem dX0_findFault_31 : decode cX0_findFault 31 = .ok (.dup, 1) := by decide +kernel
theorem dX0_findFault_32 : decode cX0_findFault 32 = .ok (.getfield 22, 3) := by decide +kernel
theorem dX0_findFault_35 : decode cX0_findFault 35 = .ok (.iconst 1, 1) := by decide +kernel
theorem dX0_findFault_36 : decode cX0_findFault 36 = .ok (.iadd, 1) := by decide +kernel
theorem dX0_findFault_37 : decode cX0_findFault 37 = .ok (.putfield 22, 3) := by decide +kernel
theorem dX0_findFault_40 : decode cX0_findFault 40 = .ok (.aload_n 0, 1) := by decide +kernel
theorem dX0_findFault_41 : decode cX0_findFault 41 = .ok (.getfield 19, 3) := by decide +kernel
theorem dX0_findFault_44 : decode cX0_findFault 44 = .ok (.aload_n 0, 1) := by decide +kernel
theorem dX0_findFault_45 : decode cX0_findFault 45 = .ok (.getfield 15, 3) := by decide +kernel
theorem dX0_findFault_48 : decode cX0_findFault 48 = .ok (.if_icmp .lt 5, 3) := by decide +kernel
theorem dX0_findFault_51 : decode cX0_findFault 51 = .ok (.iconst (-1), 1) := by decide +kernel
theorem dX0_findFault_52 : decode cX0_findFault 52 = .ok (.ireturn, 1) := by decide +kernel
theorem dX0_findFault_53 : decode cX0_findFault 53 = .ok (.aload_n 0, 1) := by decide +kernel
theorem dX0_findFault_54 : decode cX0_findFault 54 = .ok (.bipush 59, 2) := by decide +kernel
theorem dX0_findFault_56 : decode cX0_findFault 56 = .ok (.invokevirtual 42, 3) := by decide +kernel
theorem dX0_findFault_59 : decode cX0_findFault 59 = .ok (.ifCond .ne (-50), 3) := by decide +kernel
theorem dX0_findFault_62 : decode cX0_findFault 62 = .ok (.aload_n 0, 1) := by decide +kernel
theorem dX0_findFault_63 : decode cX0_findFault 63 = .ok (.getfield 19, 3) := by decide +kernel
theorem dX0_findFault_66 : decode cX0_findFault 66 = .ok (.ireturn, 1) := by decide +kernel
theorem dX0_findFault_67 : decode cX0_findFault 67 = .ok (.aload_n 0, 1) := by decide +kernel
theorem dX0_findFault_68 : decode cX0_findFault 68 = .ok (.getfield 19, 3) := by decide +kernel
theorem dX0_findFault_71 : decode cX0_findFault 71 = .ok (.ireturn, 1) := by decide +kernel
set_option maxRecDepth 20000 in
theorem ggX0_readNext_X0_readCommand : GoodIn wsX0_readNext wsX0_readCommand := goodIn_ca (goodIn_r _ [5, 6, 7, 8, 9, 10, 4, 11, 12, 13, 14, 15, 16, 17, 18, 19, 20, 21, 22, 23, 24, 25, 26, 27, 28, 29, 30, 31, 32, 33, 34, 35, 36, 37, 38, 39, 40, 41, 42] (by decide +kernel) (by decide +kernel)) (goodIn_sub (fun _ h => List.mem_cons_of_mem _ (List.mem_append_right _ h)) (by decide +kernel))
set_option maxRecDepth 20000 in
theorem gX0_readNext_X0_readCommand : GoodIn wsX0_readNext (wsV RX0 38 RX0 yX0_readCommand wsX0_readCommand) := goodIn_app (goodIn_of _ (by decide +kernel)) ggX0_readNext_X0_readCommand
set_option maxRecDepth 20000 in
theorem ggX0_readNext_X0_readSign : GoodIn wsX0_readNext wsX0_readSign := goodIn_ca (goodIn_r _ [30, 7, 8, 9, 10, 4, 11, 12, 13, 36, 37, 38, 39, 40, 41, 42] (by decide +kernel) (by decide +kernel)) (goodIn_sub (fun _ h => List.mem_cons_of_mem _ (List.mem_append_right _ h)) (by decide +kernel))
set_option maxRecDepth 20000 in
theorem gX0_readNext_X0_readSign : GoodIn wsX0_readNext (wsV RX0 42 RX0 yX0_readSign wsX0_readSign) := goodIn_app (goodIn_of _ (by decide +kernel)) ggX0_readNext_X0_readSign
theorem dX0_readNext_0 : decode cX0_readNext 0 = .ok (.aload_n 0, 1) := by decide +kernel
theorem dX0_readNext_1 : decode cX0_readNext 1 = .ok (.invokevirtual 38, 3) := by decide +kernel
theorem dX0_readNext_4 : decode cX0_readNext 4 = .ok (.ifCond .eq 10, 3) := by decide +kernel
theorem dX0_readNext_7 : decode cX0_readNext 7 = .ok (.aload_n 0, 1) := by decide +kernel
theorem dX0_readNext_8 : decode cX0_readNext 8 = .ok (.bipush 59, 2) := by decide +kernel
theorem dX0_readNext_10 : decode cX0_readNext 10 = .ok (.invokevirtual 42, 3) := by decide +kernel
theorem dX0_readNext_13 : decode cX0_readNext 13 = .ok (.pop, 1) := by decide +kernel
theorem dX0_readNext_14 : decode cX0_readNext 14 = .ok (.return_, 1) := by decide +kernel
set_option maxRecDepth 20000 in
theorem ggX0_readCommand_X0_signAtPlace : GoodIn wsX0_readCommand wsX0_signAtPlace := goodIn_ca (goodIn_r _ [7, 2, 8, 9, 32, 33, 34, 35, 36, 37, 38] (by decide +kernel) (by decide +kernel)) (goodIn_sub (fun _ h => List.mem_cons_of_mem _ (List.mem_append_right _ h)) (by decide +kernel))
set_option maxRecDepth 20000 in
theorem gX0_readCommand_X0_signAtPlace : GoodIn wsX0_readCommand (wsV RX0 46 RX0 yX0_signAtPlace wsX0_signAtPlace) := goodIn_app (goodIn_of _ (by decide +kernel)) ggX0_readCommand_X0_signAtPlace
set_option maxRecDepth 20000 in
theorem ggX0_readCommand_X0_readFirst : GoodIn wsX0_readCommand wsX0_readFirst := goodIn_ca (goodIn_r _ [13, 14, 15, 16, 17, 6, 18, 19, 20, 21, 22, 2, 3, 4, 5, 7, 8, 9, 32, 33, 34, 35, 36, 37, 38] (by decide +kernel) (by decide +kernel)) (goodIn_sub (fun _ h => List.mem_cons_of_mem _ (List.mem_append_right _ h)) (by decide +kernel))
set_option maxRecDepth 20000 in
theorem gX0_readCommand_X0_readFirst : GoodIn wsX0_readCommand (wsV RX0 50 RX0 yX0_readFirst wsX0_readFirst) := goodIn_app (goodIn_of _ (by decide +kernel)) ggX0_readCommand_X0_readFirst
set_option maxRecDepth 20000 in
theorem ggX0_readCommand_X0_readSign : GoodIn wsX0_readCommand wsX0_readSign := goodIn_ca (goodIn_r _ [26, 2, 3, 4, 5, 6, 7, 8, 9, 32, 33, 34, 35, 36, 37, 38] (by decide +kernel) (by decide +kernel)) (goodIn_sub (fun _ h => List.mem_cons_of_mem _ (List.mem_append_right _ h)) (by decide +kernel))
set_option maxRecDepth 20000 in
theorem gX0_readCommand_X0_readSign : GoodIn wsX0_readCommand (wsV RX0 42 RX0 yX0_readSign wsX0_readSign) := goodIn_app (goodIn_of _ (by decide +kernel)) ggX0_readCommand_X0_readSign
set_option maxRecDepth 20000 in
theorem ggX0_readCommand_X0_readSecond : GoodIn wsX0_readCommand wsX0_readSecond := goodIn_ca (goodIn_r _ [30, 31, 15, 16, 17, 6, 18, 19, 20, 21, 22, 2, 3, 4, 5, 7, 8, 9, 32, 33, 34, 35, 36, 37, 38] (by decide +kernel) (by decide +kernel)) (goodIn_sub (fun _ h => List.mem_cons_of_mem _ (List.mem_append_right _ h)) (by decide +kernel))
set_option maxRecDepth 20000 in
theorem gX0_readCommand_X0_readSecond : GoodIn wsX0_readCommand (wsV RX0 54 RX0 yX0_readSecond wsX0_readSecond) := goodIn_app (goodIn_of _ (by decide +kernel)) ggX0_readCommand_X0_readSecond
theorem dX0_readCommand_0 : decode cX0_readCommand 0 = .ok (.aload_n 0, 1) := by decide +kernel
theorem dX0_readCommand_1 : decode cX0_readCommand 1 = .ok (.aload_n 0, 1) := by decide +kernel
theorem dX0_readCommand_2 : decode cX0_readCommand 2 = .ok (.invokevirtual 46, 3) := by decide +kernel
theorem dX0_readCommand_5 : decode cX0_readCommand 5 = .ok (.putfield 25, 3) := by decide +kernel
theorem dX0_readCommand_8 : decode cX0_readCommand 8 = .ok (.aload_n 0, 1) := by decide +kernel
theorem dX0_readCommand_9 : decode cX0_readCommand 9 = .ok (.getfield 25, 3) := by decide +kernel
theorem dX0_readCommand_12 : decode cX0_readCommand 12 = .ok (.tableswitch 262 98 119 #[202, 161, 262, 262, 262, 262, 262, 262, 262, 104, 145, 262, 262, 262, 202, 262, 262, 234, 234, 202, 262, 250], 104) := by decide +kernel
theorem dX0_readCommand_116 : decode cX0_readCommand 116 = .ok (.aload_n 0, 1) := by decide +kernel
theorem dX0_readCommand_117 : decode cX0_readCommand 117 = .ok (.dup, 1) := by decide +kernel
theorem dX0_readCommand_118 : decode cX0_readCommand 118 = .ok (.getfield 19, 3) := by decide +kernel
theorem dX0_readCommand_121 : decode cX0_readCommand 121 = .ok (.iconst 1, 1) := by decide +kernel
theorem dX0_readCommand_122 : decode cX0_readCommand 122 = .ok (.iadd, 1) := by decide +kernel
theorem dX0_readCommand_123 : decode cX0_readCommand 123 = .ok (.putfield 19, 3) := by decide +kernel
theorem dX0_readCommand_126 : decode cX0_readCommand 126 = .ok (.aload_n 0, 1) := by decide +kernel
theorem dX0_readCommand_127 : decode cX0_readCommand 127 = .ok (.iconst 2, 1) := by decide +kernel
theorem dX0_readCommand_128 : decode cX0_readCommand 128 = .ok (.invokevirtual 50, 3) := by decide +kernel
theorem dX0_readCommand_131 : decode cX0_readCommand 131 = .ok (.ifCond .eq 24, 3) := by decide +kernel
theorem dX0_readCommand_134 : decode cX0_readCommand 134 = .ok (.aload_n 0, 1) := by decide +kernel
theorem dX0_readCommand_135 : decode cX0_readCommand 135 = .ok (.bipush 47, 2) := by decide +kernel
theorem dX0_readCommand_137 : decode cX0_readCommand 137 = .ok (.invokevirtual 42, 3) := by decide +kernel
theorem dX0_readCommand_140 : decode cX0_readCommand 140 = .ok (.ifCond .eq 15, 3) := by decide +kernel
theorem dX0_readCommand_143 : decode cX0_readCommand 143 = .ok (.aload_n 0, 1) := by decide +kernel
theorem dX0_readCommand_144 : decode cX0_readCommand 144 = .ok (.iconst 1, 1) := by decide +kernel
theorem dX0_readCommand_145 : decode cX0_readCommand 145 = .ok (.invokevirtual 54, 3) := by decide +kernel
theorem dX0_readCommand_148 : decode cX0_readCommand 148 = .ok (.ifCond .eq 7, 3) := by decide +kernel
theorem dX0_readCommand_151 : decode cX0_readCommand 151 = .ok (.iconst 1, 1) := by decide +kernel
theorem dX0_readCommand_152 : decode cX0_readCommand 152 = .ok (.goto 4, 3) := by decide +kernel
theorem dX0_readCommand_155 : decode cX0_readCommand 155 = .ok (.iconst 0, 1) := by decide +kernel
theorem dX0_readCommand_156 : decode cX0_readCommand 156 = .ok (.ireturn, 1) := by decide +kernel
theorem dX0_readCommand_157 : decode cX0_readCommand 157 = .ok (.aload_n 0, 1) := by decide +kernel
theorem dX0_readCommand_158 : decode cX0_readCommand 158 = .ok (.dup, 1) := by decide +kernel
theorem dX0_readCommand_159 : decode cX0_readCommand 159 = .ok (.getfield 19, 3) := by decide +kernel
theorem dX0_readCommand_162 : decode cX0_readCommand 162 = .ok (.iconst 1, 1) := by decide +kernel
theorem dX0_readCommand_163 : decode cX0_readCommand 163 = .ok (.iadd, 1) := by decide +kernel
theorem dX0_readCommand_164 : decode cX0_readCommand 164 = .ok (.putfield 19, 3) := by decide +kernel
theorem dX0_readCommand_167 : decode cX0_readCommand 167 = .ok (.aload_n 0, 1) := by decide +kernel
theorem dX0_readCommand_168 : decode cX0_readCommand 168 = .ok (.iconst 2, 1) := by decide +kernel
theorem dX0_readCommand_169 : decode cX0_readCommand 169 = .ok (.invokevirtual 50, 3) := by decide +kernel
theorem dX0_readCommand_172 : decode cX0_readCommand 172 = .ok (.ireturn, 1) := by decide +kernel
theorem dX0_readCommand_173 : decode cX0_readCommand 173 = .ok (.aload_n 0, 1) := by decide +kernel
theorem dX0_readCommand_174 : decode cX0_readCommand 174 = .ok (.dup, 1) := by decide +kernel
theorem dX0_readCommand_175 : decode cX0_readCommand 175 = .ok (.getfield 19, 3) := by decide +kernel
theorem dX0_readCommand_178 : decode cX0_readCommand 178 = .ok (.iconst 1, 1) := by decide +kernel
theorem dX0_readCommand_179 : decode cX0_readCommand 179 = .ok (.iadd, 1) := by decide +kernel
theorem dX0_readCommand_180 : decode cX0_readCommand 180 = .ok (.putfield 19, 3) := by decide +kernel
theorem dX0_readCommand_183 : decode cX0_readCommand 183 = .ok (.aload_n 0, 1) := by decide +kernel
theorem dX0_readCommand_184 : decode cX0_readCommand 184 = .ok (.iconst 1, 1) := by decide +kernel
theorem dX0_readCommand_185 : decode cX0_readCommand 185 = .ok (.invokevirtual 50, 3) := by decide +kernel
theorem dX0_readCommand_188 : decode cX0_readCommand 188 = .ok (.ifCond .eq 24, 3) := by decide +kernel
theorem dX0_readCommand_191 : decode cX0_readCommand 191 = .ok (.aload_n 0, 1) := by decide +kernel
theorem dX0_readCommand_192 : decode cX0_readCommand 192 = .ok (.bipush 47, 2) := by decide +kernel
theorem dX0_readCommand_194 : decode cX0_readCommand 194 = .ok (.invokevirtual 42, 3) := by decide +kernel
theorem dX0_readCommand_197 : decode cX0_readCommand 197 = .ok (.ifCond .eq 15, 3) := by decide +kernel
theorem dX0_readCommand_200 : decode cX0_readCommand 200 = .ok (.aload_n 0, 1) := by decide +kernel
theorem dX0_readCommand_201 : decode cX0_readCommand 201 = .ok (.iconst 2, 1) := by decide +kernel
theorem dX0_readCommand_202 : decode cX0_readCommand 202 = .ok (.invokevirtual 54, 3) := by decide +kernel
theorem dX0_readCommand_205 : decode cX0_readCommand 205 = .ok (.ifCond .eq 7, 3) := by decide +kernel
theorem dX0_readCommand_208 : decode cX0_readCommand 208 = .ok (.iconst 1, 1) := by decide +kernel
theorem dX0_readCommand_209 : decode cX0_readCommand 209 = .ok (.goto 4, 3) := by decide +kernel
theorem dX0_readCommand_212 : decode cX0_readCommand 212 = .ok (.iconst 0, 1) := by decide +kernel
theorem dX0_readCommand_213 : decode cX0_readCommand 213 = .ok (.ireturn, 1) := by decide +kernel
theorem dX0_readCommand_214 : decode cX0_readCommand 214 = .ok (.aload_n 0, 1) := by decide +kernel
theorem dX0_readCommand_215 : decode cX0_readCommand 215 = .ok (.dup, 1) := by decide +kernel
theorem dX0_readCommand_216 : decode cX0_readCommand 216 = .ok (.getfield 19, 3) := by decide +kernel
theorem dX0_readCommand_219 : decode cX0_readCommand 219 = .ok (.iconst 1, 1) := by decide +kernel
theorem dX0_readCommand_220 : decode cX0_readCommand 220 = .ok (.iadd, 1) := by decide +kernel
theorem dX0_readCommand_221 : decode cX0_readCommand 221 = .ok (.putfield 19, 3) := by decide +kernel
theorem dX0_readCommand_224 : decode cX0_readCommand 224 = .ok (.aload_n 0, 1) := by decide +kernel
theorem dX0_readCommand_225 : decode cX0_readCommand 225 = .ok (.iconst 1, 1) := by decide +kernel
theorem dX0_readCommand_226 : decode cX0_readCommand 226 = .ok (.invokevirtual 50, 3) := by decide +kernel
theorem dX0_readCommand_229 : decode cX0_readCommand 229 = .ok (.ifCond .eq 15, 3) := by decide +kernel
theorem dX0_readCommand_232 : decode cX0_readCommand 232 = .ok (.aload_n 0, 1) := by decide +kernel
theorem dX0_readCommand_233 : decode cX0_readCommand 233 = .ok (.iconst 1, 1) := by decide +kernel
theorem dX0_readCommand_234 : decode cX0_readCommand 234 = .ok (.invokevirtual 54, 3) := by decide +kernel
theorem dX0_readCommand_237 : decode cX0_readCommand 237 = .ok (.ifCond .eq 7, 3) := by decide +kernel
theorem dX0_readCommand_240 : decode cX0_readCommand 240 = .ok (.iconst 1, 1) := by decide +kernel
theorem dX0_readCommand_241 : decode cX0_readCommand 241 = .ok (.goto 4, 3) := by decide +kernel
theorem dX0_readCommand_244 : decode cX0_readCommand 244 = .ok (.iconst 0, 1) := by decide +kernel
theorem dX0_readCommand_245 : decode cX0_readCommand 245 = .ok (.ireturn, 1) := by decide +kernel
theorem dX0_readCommand_246 : decode cX0_readCommand 246 = .ok (.aload_n 0, 1) := by decide +kernel
theorem dX0_readCommand_247 : decode cX0_readCommand 247 = .ok (.dup, 1) := by decide +kernel
theorem dX0_readCommand_248 : decode cX0_readCommand 248 = .ok (.getfield 19, 3) := by decide +kernel
theorem dX0_readCommand_251 : decode cX0_readCommand 251 = .ok (.iconst 1, 1) := by decide +kernel
theorem dX0_readCommand_252 : decode cX0_readCommand 252 = .ok (.iadd, 1) := by decide +kernel
theorem dX0_readCommand_253 : decode cX0_readCommand 253 = .ok (.putfield 19, 3) := by decide +kernel
theorem dX0_readCommand_256 : decode cX0_readCommand 256 = .ok (.aload_n 0, 1) := by decide +kernel
theorem dX0_readCommand_257 : decode cX0_readCommand 257 = .ok (.iconst 1, 1) := by decide +kernel
theorem dX0_readCommand_258 : decode cX0_readCommand 258 = .ok (.invokevirtual 50, 3) := by decide +kernel
theorem dX0_readCommand_261 : decode cX0_readCommand 261 = .ok (.ireturn, 1) := by decide +kernel
theorem dX0_readCommand_262 : decode cX0_readCommand 262 = .ok (.aload_n 0, 1) := by decide +kernel
theorem dX0_readCommand_263 : decode cX0_readCommand 263 = .ok (.dup, 1) := by decide +kernel
theorem dX0_readCommand_264 : decode cX0_readCommand 264 = .ok (.getfield 19, 3) := by decide +kernel
theorem dX0_readCommand_267 : decode cX0_readCommand 267 = .ok (.iconst 1, 1) := by decide +kernel
theorem dX0_readCommand_268 : decode cX0_readCommand 268 = .ok (.iadd, 1) := by decide +kernel
theorem dX0_readCommand_269 : decode cX0_readCommand 269 = .ok (.putfield 19, 3) := by decide +kernel
theorem dX0_readCommand_272 : decode cX0_readCommand 272 = .ok (.iconst 1, 1) := by decide +kernel
theorem dX0_readCommand_273 : decode cX0_readCommand 273 = .ok (.ireturn, 1) := by decide +kernel
theorem dX0_readCommand_274 : decode cX0_readCommand 274 = .ok (.iconst 0, 1) := by decide +kernel
theorem dX0_readCommand_275 : decode cX0_readCommand 275 = .ok (.ireturn, 1) := by decide +kernel
set_option maxRecDepth 20000 in
theorem ggX0_readFirst_X0_readNumber : GoodIn wsX0_readFirst wsX0_readNumber := goodIn_ca (goodIn_r _ [6, 7, 8, 9, 10, 11, 12, 13, 14, 5, 15, 16, 17, 18, 19, 20, 21, 22, 23, 24] (by decide +kernel) (by decide +kernel)) (goodIn_sub (fun _ h => List.mem_cons_of_mem _ (List.mem_append_right _ h)) (by decide +kernel))
set_option maxRecDepth 20000 in
theorem gX0_readFirst_X0_readNumber : GoodIn wsX0_readFirst (wsV RX0 57 RX0 yX0_readNumber wsX0_readNumber) := goodIn_app (goodIn_of _ (by decide +kernel)) ggX0_readFirst_X0_readNumber
theorem dX0_readFirst_0 : decode cX0_readFirst 0 = .ok (.aload_n 0, 1) := by decide +kernel
theorem dX0_readFirst_1 : decode cX0_readFirst 1 = .ok (.aload_n 0, 1) := by decide +kernel
theorem dX0_readFirst_2 : decode cX0_readFirst 2 = .ok (.iload_n 1, 1) := by decide +kernel
theorem dX0_readFirst_3 : decode cX0_readFirst 3 = .ok (.invokevirtual 57, 3) := by decide +kernel
theorem dX0_readFirst_6 : decode cX0_readFirst 6 = .ok (.putfield 29, 3) := by decide +kernel
theorem dX0_readFirst_9 : decode cX0_readFirst 9 = .ok (.aload_n 0, 1) := by decide +kernel
theorem dX0_readFirst_10 : decode cX0_readFirst 10 = .ok (.getfield 29, 3) := by decide +kernel
theorem dX0_readFirst_13 : decode cX0_readFirst 13 = .ok (.iconst (-1), 1) := by decide +kernel
theorem dX0_readFirst_14 : decode cX0_readFirst 14 = .ok (.if_icmp .eq 7, 3) := by decide +kernel
theorem dX0_readFirst_17 : decode cX0_readFirst 17 = .ok (.iconst 1, 1) := by decide +kernel
theorem dX0_readFirst_18 : decode cX0_readFirst 18 = .ok (.goto 4, 3) := by decide +kernel
theorem dX0_readFirst_21 : decode cX0_readFirst 21 = .ok (.iconst 0, 1) := by decide +kernel
theorem dX0_readFirst_22 : decode cX0_readFirst 22 = .ok (.ireturn, 1) := by decide +kernel
set_option maxRecDepth 20000 in
theorem ggX0_readSecond_X0_readNumber : GoodIn wsX0_readSecond wsX0_readNumber := goodIn_ca (goodIn_r _ [6, 7, 8, 9, 10, 11, 12, 13, 14, 5, 15, 16, 17, 18, 19, 20, 21, 22, 23, 24] (by decide +kernel) (by decide +kernel)) (goodIn_sub (fun _ h => List.mem_cons_of_mem _ (List.mem_append_right _ h)) (by decide +kernel))
set_option maxRecDepth 20000 in
theorem gX0_readSecond_X0_readNumber : GoodIn wsX0_readSecond (wsV RX0 57 RX0 yX0_readNumber wsX0_readNumber) := goodIn_app (goodIn_of _ (by decide +kernel)) ggX0_readSecond_X0_readNumber
theorem dX0_readSecond_0 : decode cX0_readSecond 0 = .ok (.aload_n 0, 1) := by decide +kernel
theorem dX0_readSecond_1 : decode cX0_readSecond 1 = .ok (.aload_n 0, 1) := by decide +kernel
theorem dX0_readSecond_2 : decode cX0_readSecond 2 = .ok (.iload_n 1, 1) := by decide +kernel
theorem dX0_readSecond_3 : decode cX0_readSecond 3 = .ok (.invokevirtual 57, 3) := by decide +kernel
theorem dX0_readSecond_6 : decode cX0_readSecond 6 = .ok (.putfield 32, 3) := by decide +kernel
theorem dX0_readSecond_9 : decode cX0_readSecond 9 = .ok (.aload_n 0, 1) := by decide +kernel
theorem dX0_readSecond_10 : decode cX0_readSecond 10 = .ok (.getfield 32, 3) := by decide +kernel
theorem dX0_readSecond_13 : decode cX0_readSecond 13 = .ok (.iconst (-1), 1) := by decide +kernel
theorem dX0_readSecond_14 : decode cX0_readSecond 14 = .ok (.if_icmp .eq 7, 3) := by decide +kernel
theorem dX0_readSecond_17 : decode cX0_readSecond 17 = .ok (.iconst 1, 1) := by decide +kernel
theorem dX0_readSecond_18 : decode cX0_readSecond 18 = .ok (.goto 4, 3) := by decide +kernel
theorem dX0_readSecond_21 : decode cX0_readSecond 21 = .ok (.iconst 0, 1) := by decide +kernel
theorem dX0_readSecond_22 : decode cX0_readSecond 22 = .ok (.ireturn, 1) := by decide +kernel
set_option maxRecDepth 20000 in
theorem ggX0_readNumber_X0_signAtPlace : GoodIn wsX0_readNumber wsX0_signAtPlace := goodIn_ca (goodIn_r _ [10, 5, 11, 12, 13, 14, 15, 16, 17, 18, 19] (by decide +kernel) (by decide +kernel)) (goodIn_sub (fun _ h => List.mem_cons_of_mem _ (List.mem_append_right _ h)) (by decide +kernel))
set_option maxRecDepth 20000 in
theorem gX0_readNumber_X0_signAtPlace : GoodIn wsX0_readNumber (wsV RX0 46 RX0 yX0_signAtPlace wsX0_signAtPlace) := goodIn_app (goodIn_of _ (by decide +kernel)) ggX0_readNumber_X0_signAtPlace
theorem dX0_readNumber_0 : decode cX0_readNumber 0 = .ok (.iconst (-1), 1) := by decide +kernel
theorem dX0_readNumber_1 : decode cX0_readNumber 1 = .ok (.istore_n 2, 1) := by decide +kernel
theorem dX0_readNumber_2 : decode cX0_readNumber 2 = .ok (.iconst 0, 1) := by decide +kernel
theorem dX0_readNumber_3 : decode cX0_readNumber 3 = .ok (.istore_n 3, 1) := by decide +kernel
theorem dX0_readNumber_4 : decode cX0_readNumber 4 = .ok (.iload_n 3, 1) := by decide +kernel
theorem dX0_readNumber_5 : decode cX0_readNumber 5 = .ok (.iload_n 1, 1) := by decide +kernel
theorem dX0_readNumber_6 : decode cX0_readNumber 6 = .ok (.if_icmp .ge 56, 3) := by decide +kernel
theorem dX0_readNumber_9 : decode cX0_readNumber 9 = .ok (.aload_n 0, 1) := by decide +kernel
theorem dX0_readNumber_10 : decode cX0_readNumber 10 = .ok (.invokevirtual 46, 3) := by decide +kernel
theorem dX0_readNumber_13 : decode cX0_readNumber 13 = .ok (.istore 4, 2) := by decide +kernel
theorem dX0_readNumber_15 : decode cX0_readNumber 15 = .ok (.iload 4, 2) := by decide +kernel
theorem dX0_readNumber_17 : decode cX0_readNumber 17 = .ok (.bipush 48, 2) := by decide +kernel
theorem dX0_readNumber_19 : decode cX0_readNumber 19 = .ok (.if_icmp .lt 10, 3) := by decide +kernel
theorem dX0_readNumber_22 : decode cX0_readNumber 22 = .ok (.iload 4, 2) := by decide +kernel
theorem dX0_readNumber_24 : decode cX0_readNumber 24 = .ok (.bipush 57, 2) := by decide +kernel
theorem dX0_readNumber_26 : decode cX0_readNumber 26 = .ok (.if_icmp .le 5, 3) := by decide +kernel
theorem dX0_readNumber_29 : decode cX0_readNumber 29 = .ok (.iload_n 2, 1) := by decide +kernel
theorem dX0_readNumber_30 : decode cX0_readNumber 30 = .ok (.ireturn, 1) := by decide +kernel
theorem dX0_readNumber_31 : decode cX0_readNumber 31 = .ok (.iload_n 2, 1) := by decide +kernel
theorem dX0_readNumber_32 : decode cX0_readNumber 32 = .ok (.iconst 0, 1) := by decide +kernel
theorem dX0_readNumber_33 : decode cX0_readNumber 33 = .ok (.invokestatic 61, 3) := by decide +kernel
theorem dX0_readNumber_36 : decode cX0_readNumber 36 = .ok (.bipush 10, 2) := by decide +kernel
theorem dX0_readNumber_38 : decode cX0_readNumber 38 = .ok (.imul, 1) := by decide +kernel
theorem dX0_readNumber_39 : decode cX0_readNumber 39 = .ok (.iload 4, 2) := by decide +kernel
theorem dX0_readNumber_41 : decode cX0_readNumber 41 = .ok (.bipush 48, 2) := by decide +kernel
theorem dX0_readNumber_43 : decode cX0_readNumber 43 = .ok (.isub, 1) := by decide +kernel
theorem dX0_readNumber_44 : decode cX0_readNumber 44 = .ok (.iadd, 1) := by decide +kernel
theorem dX0_readNumber_45 : decode cX0_readNumber 45 = .ok (.istore_n 2, 1) := by decide +kernel
theorem dX0_readNumber_46 : decode cX0_readNumber 46 = .ok (.aload_n 0, 1) := by decide +kernel
theorem dX0_readNumber_47 : decode cX0_readNumber 47 = .ok (.dup, 1) := by decide +kernel
theorem dX0_readNumber_48 : decode cX0_readNumber 48 = .ok (.getfield 19, 3) := by decide +kernel
theorem dX0_readNumber_51 : decode cX0_readNumber 51 = .ok (.iconst 1, 1) := by decide +kernel
theorem dX0_readNumber_52 : decode cX0_readNumber 52 = .ok (.iadd, 1) := by decide +kernel
theorem dX0_readNumber_53 : decode cX0_readNumber 53 = .ok (.putfield 19, 3) := by decide +kernel
theorem dX0_readNumber_56 : decode cX0_readNumber 56 = .ok (.iinc 3 1, 3) := by decide +kernel
theorem dX0_readNumber_59 : decode cX0_readNumber 59 = .ok (.goto (-55), 3) := by decide +kernel
theorem dX0_readNumber_62 : decode cX0_readNumber 62 = .ok (.iload_n 2, 1) := by decide +kernel
theorem dX0_readNumber_63 : decode cX0_readNumber 63 = .ok (.ireturn, 1) := by decide +kernel
set_option maxRecDepth 20000 in
theorem ggX0_readSign_X0_signAtPlace : GoodIn wsX0_readSign wsX0_signAtPlace := goodIn_ca (goodIn_r _ [6, 1, 7, 8, 9, 10, 11, 12, 13, 14, 15] (by decide +kernel) (by decide +kernel)) (goodIn_sub (fun _ h => List.mem_cons_of_mem _ (List.mem_append_right _ h)) (by decide +kernel))
set_option maxRecDepth 20000 in
theorem gX0_readSign_X0_signAtPlace : GoodIn wsX0_readSign (wsV RX0 46 RX0 yX0_signAtPlace wsX0_signAtPlace) := goodIn_app (goodIn_of _ (by decide +kernel)) ggX0_readSign_X0_signAtPlace
theorem dX0_readSign_0 : decode cX0_readSign 0 = .ok (.aload_n 0, 1) := by decide +kernel
theorem dX0_readSign_1 : decode cX0_readSign 1 = .ok (.invokevirtual 46, 3) := by decide +kernel
theorem dX0_readSign_4 : decode cX0_readSign 4 = .ok (.iload_n 1, 1) := by decide +kernel
theorem dX0_readSign_5 : decode cX0_readSign 5 = .ok (.if_icmp .eq 5, 3) := by decide +kernel
theorem dX0_readSign_8 : decode cX0_readSign 8 = .ok (.iconst 0, 1) := by decide +kernel
theorem dX0_readSign_9 : decode cX0_readSign 9 = .ok (.ireturn, 1) := by decide +kernel
theorem dX0_readSign_10 : decode cX0_readSign 10 = .ok (.aload_n 0, 1) := by decide +kernel
theorem dX0_readSign_11 : decode cX0_readSign 11 = .ok (.dup, 1) := by decide +kernel
theorem dX0_readSign_12 : decode cX0_readSign 12 = .ok (.getfield 19, 3) := by decide +kernel
theorem dX0_readSign_15 : decode cX0_readSign 15 = .ok (.iconst 1, 1) := by decide +kernel
theorem dX0_readSign_16 : decode cX0_readSign 16 = .ok (.iadd, 1) := by decide +kernel
theorem dX0_readSign_17 : decode cX0_readSign 17 = .ok (.putfield 19, 3) := by decide +kernel
theorem dX0_readSign_20 : decode cX0_readSign 20 = .ok (.iconst 1, 1) := by decide +kernel
theorem dX0_readSign_21 : decode cX0_readSign 21 = .ok (.ireturn, 1) := by decide +kernel
theorem dX0_signAtPlace_0 : decode cX0_signAtPlace 0 = .ok (.aload_n 0, 1) := by decide +kernel
theorem dX0_signAtPlace_1 : decode cX0_signAtPlace 1 = .ok (.getfield 19, 3) := by decide +kernel
theorem dX0_signAtPlace_4 : decode cX0_signAtPlace 4 = .ok (.ifCond .lt 35, 3) := by decide +kernel
theorem dX0_signAtPlace_7 : decode cX0_signAtPlace 7 = .ok (.aload_n 0, 1) := by decide +kernel
theorem dX0_signAtPlace_8 : decode cX0_signAtPlace 8 = .ok (.getfield 19, 3) := by decide +kernel
theorem dX0_signAtPlace_11 : decode cX0_signAtPlace 11 = .ok (.aload_n 0, 1) := by decide +kernel
theorem dX0_signAtPlace_12 : decode cX0_signAtPlace 12 = .ok (.getfield 15, 3) := by decide +kernel
theorem dX0_signAtPlace_15 : decode cX0_signAtPlace 15 = .ok (.if_icmp .ge 24, 3) := by decide +kernel
theorem dX0_signAtPlace_18 : decode cX0_signAtPlace 18 = .ok (.aload_n 0, 1) := by decide +kernel
theorem dX0_signAtPlace_19 : decode cX0_signAtPlace 19 = .ok (.getfield 19, 3) := by decide +kernel
theorem dX0_signAtPlace_22 : decode cX0_signAtPlace 22 = .ok (.bipush 60, 2) := by decide +kernel
theorem dX0_signAtPlace_24 : decode cX0_signAtPlace 24 = .ok (.if_icmp .ge 15, 3) := by decide +kernel
theorem dX0_signAtPlace_27 : decode cX0_signAtPlace 27 = .ok (.aload_n 0, 1) := by decide +kernel
theorem dX0_signAtPlace_28 : decode cX0_signAtPlace 28 = .ok (.getfield 9, 3) := by decide +kernel
theorem dX0_signAtPlace_31 : decode cX0_signAtPlace 31 = .ok (.aload_n 0, 1) := by decide +kernel
theorem dX0_signAtPlace_32 : decode cX0_signAtPlace 32 = .ok (.getfield 19, 3) := by decide +kernel
theorem dX0_signAtPlace_35 : decode cX0_signAtPlace 35 = .ok (.caload, 1) := by decide +kernel
theorem dX0_signAtPlace_36 : decode cX0_signAtPlace 36 = .ok (.goto 4, 3) := by decide +kernel
theorem dX0_signAtPlace_39 : decode cX0_signAtPlace 39 = .ok (.iconst 0, 1) := by decide +kernel
theorem dX0_signAtPlace_40 : decode cX0_signAtPlace 40 = .ok (.ireturn, 1) := by decide +kernel
set_option maxRecDepth 20000 in
theorem ggX1_init_X3_init : GoodIn wsX1_init wsX3_init := goodIn_r _ [10, 11, 2, 3, 12, 13, 14, 15, 16, 17, 18, 19, 20, 21, 22, 23, 24, 25, 26, 29, 30, 31, 32, 33, 34, 35, 36, 37, 38, 39, 40, 41, 42] (by decide +kernel) (by decide +kernel)
set_option maxRecDepth 20000 in
theorem gX1_init_X3_init_n21 : GoodIn wsX1_init (wsX3_init) := ggX1_init_X3_init
theorem dX1_init_0 : decode cX1_init 0 = .ok (.aload_n 0, 1) := by decide +kernel
theorem dX1_init_1 : decode cX1_init 1 = .ok (.invokespecial 3, 3) := by decide +kernel
theorem dX1_init_4 : decode cX1_init 4 = .ok (.aload_n 0, 1) := by decide +kernel
theorem dX1_init_5 : decode cX1_init 5 = .ok (.bipush 8, 2) := by decide +kernel
theorem dX1_init_7 : decode cX1_init 7 = .ok (.anewarray 9, 3) := by decide +kernel
theorem dX1_init_10 : decode cX1_init 10 = .ok (.putfield 11, 3) := by decide +kernel
theorem dX1_init_13 : decode cX1_init 13 = .ok (.aload_n 0, 1) := by decide +kernel
theorem dX1_init_14 : decode cX1_init 14 = .ok (.iconst 0, 1) := by decide +kernel
theorem dX1_init_15 : decode cX1_init 15 = .ok (.putfield 17, 3) := by decide +kernel
theorem dX1_init_18 : decode cX1_init 18 = .ok (.iconst 0, 1) := by decide +kernel
theorem dX1_init_19 : decode cX1_init 19 = .ok (.istore_n 1, 1) := by decide +kernel
theorem dX1_init_20 : decode cX1_init 20 = .ok (.iload_n 1, 1) := by decide +kernel
theorem dX1_init_21 : decode cX1_init 21 = .ok (.bipush 8, 2) := by decide +kernel
theorem dX1_init_23 : decode cX1_init 23 = .ok (.if_icmp .ge 22, 3) := by decide +kernel
theorem dX1_init_26 : decode cX1_init 26 = .ok (.aload_n 0, 1) := by decide +kernel
theorem dX1_init_27 : decode cX1_init 27 = .ok (.getfield 11, 3) := by decide +kernel
theorem dX1_init_30 : decode cX1_init 30 = .ok (.iload_n 1, 1) := by decide +kernel
theorem dX1_init_31 : decode cX1_init 31 = .ok (.new 9, 3) := by decide +kernel
theorem dX1_init_34 : decode cX1_init 34 = .ok (.dup, 1) := by decide +kernel
theorem dX1_init_35 : decode cX1_init 35 = .ok (.invokespecial 21, 3) := by decide +kernel
theorem dX1_init_38 : decode cX1_init 38 = .ok (.aastore, 1) := by decide +kernel
theorem dX1_init_39 : decode cX1_init 39 = .ok (.iinc 1 1, 3) := by decide +kernel
theorem dX1_init_42 : decode cX1_init 42 = .ok (.goto (-22), 3) := by decide +kernel
theorem dX1_init_45 : decode cX1_init 45 = .ok (.return_, 1) := by decide +kernel
set_option maxRecDepth 20000 in
theorem ggX1_keep_X1_forgetOldest : GoodIn wsX1_keep wsX1_forgetOldest := goodIn_r _ [6, 7, 1, 35, 36] (by decide +kernel) (by decide +kernel)
set_option maxRecDepth 20000 in
theorem gX1_keep_X1_forgetOldest : GoodIn wsX1_keep (wsV RX1 22 RX1 yX1_forgetOldest wsX1_forgetOldest) := goodIn_app (goodIn_of _ (by decide +kernel)) ggX1_keep_X1_forgetOldest
set_option maxRecDepth 20000 in
theorem ggX1_keep_X1_rowAt : GoodIn wsX1_keep wsX1_rowAt := goodIn_r _ [11, 7, 35, 36] (by decide +kernel) (by decide +kernel)
set_option maxRecDepth 20000 in
theorem gX1_keep_X1_rowAt : GoodIn wsX1_keep (wsV RX1 25 RX1 yX1_rowAt wsX1_rowAt) := goodIn_app (goodIn_of _ (by decide +kernel)) ggX1_keep_X1_rowAt
set_option maxRecDepth 20000 in
theorem ggX1_keep_X3_copyFrom : GoodIn wsX1_keep wsX3_copyFrom := goodIn_r _ [16, 17, 18, 19, 20, 21, 22, 23, 24, 25, 26, 27, 28, 29, 30, 31, 32, 33, 34, 37, 38, 39, 40, 41, 42, 43, 44, 45, 46, 47, 48, 49, 50] (by decide +kernel) (by decide +kernel)
set_option maxRecDepth 20000 in
theorem gX1_keep_X3_copyFrom : GoodIn wsX1_keep (wsV RX1 29 RX3 yX3_copyFrom wsX3_copyFrom) := goodIn_app (goodIn_of _ (by decide +kernel)) ggX1_keep_X3_copyFrom
theorem dX1_keep_0 : decode cX1_keep 0 = .ok (.aload_n 0, 1) := by decide +kernel
theorem dX1_keep_1 : decode cX1_keep 1 = .ok (.getfield 17, 3) := by decide +kernel
theorem dX1_keep_4 : decode cX1_keep 4 = .ok (.bipush 8, 2) := by decide +kernel
theorem dX1_keep_6 : decode cX1_keep 6 = .ok (.if_icmp .lt 7, 3) := by decide +kernel
theorem dX1_keep_9 : decode cX1_keep 9 = .ok (.aload_n 0, 1) := by decide +kernel
theorem dX1_keep_10 : decode cX1_keep 10 = .ok (.invokevirtual 22, 3) := by decide +kernel
theorem dX1_keep_13 : decode cX1_keep 13 = .ok (.aload_n 0, 1) := by decide +kernel
theorem dX1_keep_14 : decode cX1_keep 14 = .ok (.aload_n 0, 1) := by decide +kernel
theorem dX1_keep_15 : decode cX1_keep 15 = .ok (.getfield 17, 3) := by decide +kernel
theorem dX1_keep_18 : decode cX1_keep 18 = .ok (.invokevirtual 25, 3) := by decide +kernel
theorem dX1_keep_21 : decode cX1_keep 21 = .ok (.astore_n 2, 1) := by decide +kernel
theorem dX1_keep_22 : decode cX1_keep 22 = .ok (.aload_n 2, 1) := by decide +kernel
theorem dX1_keep_23 : decode cX1_keep 23 = .ok (.ifnull 18, 3) := by decide +kernel
theorem dX1_keep_26 : decode cX1_keep 26 = .ok (.aload_n 2, 1) := by decide +kernel
theorem dX1_keep_27 : decode cX1_keep 27 = .ok (.aload_n 1, 1) := by decide +kernel
theorem dX1_keep_28 : decode cX1_keep 28 = .ok (.invokevirtual 29, 3) := by decide +kernel
theorem dX1_keep_31 : decode cX1_keep 31 = .ok (.aload_n 0, 1) := by decide +kernel
theorem dX1_keep_32 : decode cX1_keep 32 = .ok (.dup, 1) := by decide +kernel
theorem dX1_keep_33 : decode cX1_keep 33 = .ok (.getfield 17, 3) := by decide +kernel
theorem dX1_keep_36 : decode cX1_keep 36 = .ok (.iconst 1, 1) := by decide +kernel
theorem dX1_keep_37 : decode cX1_keep 37 = .ok (.iadd, 1) := by decide +kernel
theorem dX1_keep_38 : decode cX1_keep 38 = .ok (.putfield 17, 3) := by decide +kernel
theorem dX1_keep_41 : decode cX1_keep 41 = .ok (.return_, 1) := by decide +kernel
set_option maxRecDepth 20000 in
theorem ggX1_giveBackLatest_X1_rowAt : GoodIn wsX1_giveBackLatest wsX1_rowAt := goodIn_r _ [6, 7, 31, 32] (by decide +kernel) (by decide +kernel)
set_option maxRecDepth 20000 in
theorem gX1_giveBackLatest_X1_rowAt : GoodIn wsX1_giveBackLatest (wsV RX1 25 RX1 yX1_rowAt wsX1_rowAt) := goodIn_app (goodIn_of _ (by decide +kernel)) ggX1_giveBackLatest_X1_rowAt
set_option maxRecDepth 20000 in
theorem ggX1_giveBackLatest_X3_copyFrom : GoodIn wsX1_giveBackLatest wsX3_copyFrom := goodIn_r _ [12, 13, 14, 15, 16, 17, 18, 19, 20, 21, 22, 23, 24, 25, 26, 27, 28, 29, 30, 33, 34, 35, 36, 37, 38, 39, 40, 41, 42, 43, 44, 45, 46] (by decide +kernel) (by decide +kernel)
set_option maxRecDepth 20000 in
theorem gX1_giveBackLatest_X3_copyFrom : GoodIn wsX1_giveBackLatest (wsV RX1 29 RX3 yX3_copyFrom wsX3_copyFrom) := goodIn_app (goodIn_of _ (by decide +kernel)) ggX1_giveBackLatest_X3_copyFrom
theorem dX1_giveBackLatest_0 : decode cX1_giveBackLatest 0 = .ok (.aload_n 0, 1) := by decide +kernel
theorem dX1_giveBackLatest_1 : decode cX1_giveBackLatest 1 = .ok (.aload_n 0, 1) := by decide +kernel
theorem dX1_giveBackLatest_2 : decode cX1_giveBackLatest 2 = .ok (.getfield 17, 3) := by decide +kernel
theorem dX1_giveBackLatest_5 : decode cX1_giveBackLatest 5 = .ok (.iconst 1, 1) := by decide +kernel
theorem dX1_giveBackLatest_6 : decode cX1_giveBackLatest 6 = .ok (.isub, 1) := by decide +kernel
theorem dX1_giveBackLatest_7 : decode cX1_giveBackLatest 7 = .ok (.invokevirtual 25, 3) := by decide +kernel
theorem dX1_giveBackLatest_10 : decode cX1_giveBackLatest 10 = .ok (.astore_n 2, 1) := by decide +kernel
theorem dX1_giveBackLatest_11 : decode cX1_giveBackLatest 11 = .ok (.aload_n 2, 1) := by decide +kernel
theorem dX1_giveBackLatest_12 : decode cX1_giveBackLatest 12 = .ok (.ifnonnull 5, 3) := by decide +kernel
theorem dX1_giveBackLatest_15 : decode cX1_giveBackLatest 15 = .ok (.iconst 0, 1) := by decide +kernel
theorem dX1_giveBackLatest_16 : decode cX1_giveBackLatest 16 = .ok (.ireturn, 1) := by decide +kernel
theorem dX1_giveBackLatest_17 : decode cX1_giveBackLatest 17 = .ok (.aload_n 1, 1) := by decide +kernel
theorem dX1_giveBackLatest_18 : decode cX1_giveBackLatest 18 = .ok (.aload_n 2, 1) := by decide +kernel
theorem dX1_giveBackLatest_19 : decode cX1_giveBackLatest 19 = .ok (.invokevirtual 29, 3) := by decide +kernel
theorem dX1_giveBackLatest_22 : decode cX1_giveBackLatest 22 = .ok (.aload_n 0, 1) := by decide +kernel
theorem dX1_giveBackLatest_23 : decode cX1_giveBackLatest 23 = .ok (.dup, 1) := by decide +kernel
theorem dX1_giveBackLatest_24 : decode cX1_giveBackLatest 24 = .ok (.getfield 17, 3) := by decide +kernel
theorem dX1_giveBackLatest_27 : decode cX1_giveBackLatest 27 = .ok (.iconst 1, 1) := by decide +kernel
theorem dX1_giveBackLatest_28 : decode cX1_giveBackLatest 28 = .ok (.isub, 1) := by decide +kernel
theorem dX1_giveBackLatest_29 : decode cX1_giveBackLatest 29 = .ok (.putfield 17, 3) := by decide +kernel
theorem dX1_giveBackLatest_32 : decode cX1_giveBackLatest 32 = .ok (.iconst 1, 1) := by decide +kernel
theorem dX1_giveBackLatest_33 : decode cX1_giveBackLatest 33 = .ok (.ireturn, 1) := by decide +kernel
theorem dX1_forget_0 : decode cX1_forget 0 = .ok (.aload_n 0, 1) := by decide +kernel
theorem dX1_forget_1 : decode cX1_forget 1 = .ok (.iconst 0, 1) := by decide +kernel
theorem dX1_forget_2 : decode cX1_forget 2 = .ok (.putfield 17, 3) := by decide +kernel
theorem dX1_forget_5 : decode cX1_forget 5 = .ok (.return_, 1) := by decide +kernel
theorem dX1_rowAt_0 : decode cX1_rowAt 0 = .ok (.iload_n 1, 1) := by decide +kernel
theorem dX1_rowAt_1 : decode cX1_rowAt 1 = .ok (.ifCond .lt 18, 3) := by decide +kernel
theorem dX1_rowAt_4 : decode cX1_rowAt 4 = .ok (.iload_n 1, 1) := by decide +kernel
theorem dX1_rowAt_5 : decode cX1_rowAt 5 = .ok (.bipush 8, 2) := by decide +kernel
theorem dX1_rowAt_7 : decode cX1_rowAt 7 = .ok (.if_icmp .ge 12, 3) := by decide +kernel
theorem dX1_rowAt_10 : decode cX1_rowAt 10 = .ok (.aload_n 0, 1) := by decide +kernel
theorem dX1_rowAt_11 : decode cX1_rowAt 11 = .ok (.getfield 11, 3) := by decide +kernel
theorem dX1_rowAt_14 : decode cX1_rowAt 14 = .ok (.iload_n 1, 1) := by decide +kernel
theorem dX1_rowAt_15 : decode cX1_rowAt 15 = .ok (.aaload, 1) := by decide +kernel
theorem dX1_rowAt_16 : decode cX1_rowAt 16 = .ok (.goto 4, 3) := by decide +kernel
theorem dX1_rowAt_19 : decode cX1_rowAt 19 = .ok (.aconst_null, 1) := by decide +kernel
theorem dX1_rowAt_20 : decode cX1_rowAt 20 = .ok (.areturn, 1) := by decide +kernel
theorem dX1_forgetOldest_0 : decode cX1_forgetOldest 0 = .ok (.aload_n 0, 1) := by decide +kernel
theorem dX1_forgetOldest_1 : decode cX1_forgetOldest 1 = .ok (.getfield 11, 3) := by decide +kernel
theorem dX1_forgetOldest_4 : decode cX1_forgetOldest 4 = .ok (.iconst 0, 1) := by decide +kernel
theorem dX1_forgetOldest_5 : decode cX1_forgetOldest 5 = .ok (.aaload, 1) := by decide +kernel
theorem dX1_forgetOldest_6 : decode cX1_forgetOldest 6 = .ok (.astore_n 1, 1) := by decide +kernel
theorem dX1_forgetOldest_7 : decode cX1_forgetOldest 7 = .ok (.iconst 1, 1) := by decide +kernel
theorem dX1_forgetOldest_8 : decode cX1_forgetOldest 8 = .ok (.istore_n 2, 1) := by decide +kernel
theorem dX1_forgetOldest_9 : decode cX1_forgetOldest 9 = .ok (.iload_n 2, 1) := by decide +kernel
theorem dX1_forgetOldest_10 : decode cX1_forgetOldest 10 = .ok (.bipush 8, 2) := by decide +kernel
theorem dX1_forgetOldest_12 : decode cX1_forgetOldest 12 = .ok (.if_icmp .ge 23, 3) := by decide +kernel
theorem dX1_forgetOldest_15 : decode cX1_forgetOldest 15 = .ok (.aload_n 0, 1) := by decide +kernel
theorem dX1_forgetOldest_16 : decode cX1_forgetOldest 16 = .ok (.getfield 11, 3) := by decide +kernel
theorem dX1_forgetOldest_19 : decode cX1_forgetOldest 19 = .ok (.iload_n 2, 1) := by decide +kernel
theorem dX1_forgetOldest_20 : decode cX1_forgetOldest 20 = .ok (.iconst 1, 1) := by decide +kernel
theorem dX1_forgetOldest_21 : decode cX1_forgetOldest 21 = .ok (.isub, 1) := by decide +kernel
theorem dX1_forgetOldest_22 : decode cX1_forgetOldest 22 = .ok (.aload_n 0, 1) := by decide +kernel
theorem dX1_forgetOldest_23 : decode cX1_forgetOldest 23 = .ok (.getfield 11, 3) := by decide +kernel
theorem dX1_forgetOldest_26 : decode cX1_forgetOldest 26 = .ok (.iload_n 2, 1) := by decide +kernel
theorem dX1_forgetOldest_27 : decode cX1_forgetOldest 27 = .ok (.aaload, 1) := by decide +kernel
theorem dX1_forgetOldest_28 : decode cX1_forgetOldest 28 = .ok (.aastore, 1) := by decide +kernel
theorem dX1_forgetOldest_29 : decode cX1_forgetOldest 29 = .ok (.iinc 2 1, 3) := by decide +kernel
theorem dX1_forgetOldest_32 : decode cX1_forgetOldest 32 = .ok (.goto (-23), 3) := by decide +kernel
theorem dX1_forgetOldest_35 : decode cX1_forgetOldest 35 = .ok (.aload_n 0, 1) := by decide +kernel
theorem dX1_forgetOldest_36 : decode cX1_forgetOldest 36 = .ok (.getfield 11, 3) := by decide +kernel
theorem dX1_forgetOldest_39 : decode cX1_forgetOldest 39 = .ok (.bipush 7, 2) := by decide +kernel
theorem dX1_forgetOldest_41 : decode cX1_forgetOldest 41 = .ok (.aload_n 1, 1) := by decide +kernel
theorem dX1_forgetOldest_42 : decode cX1_forgetOldest 42 = .ok (.aastore, 1) := by decide +kernel
theorem dX1_forgetOldest_43 : decode cX1_forgetOldest 43 = .ok (.aload_n 0, 1) := by decide +kernel
theorem dX1_forgetOldest_44 : decode cX1_forgetOldest 44 = .ok (.bipush 7, 2) := by decide +kernel
theorem dX1_forgetOldest_46 : decode cX1_forgetOldest 46 = .ok (.putfield 17, 3) := by decide +kernel
theorem dX1_forgetOldest_49 : decode cX1_forgetOldest 49 = .ok (.return_, 1) := by decide +kernel
theorem dX2_init_0 : decode cX2_init 0 = .ok (.aload_n 0, 1) := by decide +kernel
theorem dX2_init_1 : decode cX2_init 1 = .ok (.invokespecial 3, 3) := by decide +kernel
theorem dX2_init_4 : decode cX2_init 4 = .ok (.aload_n 0, 1) := by decide +kernel
theorem dX2_init_5 : decode cX2_init 5 = .ok (.bipush 80, 2) := by decide +kernel
theorem dX2_init_7 : decode cX2_init 7 = .ok (.newarray .char, 2) := by decide +kernel
theorem dX2_init_9 : decode cX2_init 9 = .ok (.putfield 9, 3) := by decide +kernel
theorem dX2_init_12 : decode cX2_init 12 = .ok (.aload_n 0, 1) := by decide +kernel
theorem dX2_init_13 : decode cX2_init 13 = .ok (.iconst 0, 1) := by decide +kernel
theorem dX2_init_14 : decode cX2_init 14 = .ok (.putfield 15, 3) := by decide +kernel
theorem dX2_init_17 : decode cX2_init 17 = .ok (.return_, 1) := by decide +kernel
theorem dX2_clear_0 : decode cX2_clear 0 = .ok (.aload_n 0, 1) := by decide +kernel
theorem dX2_clear_1 : decode cX2_clear 1 = .ok (.iconst 0, 1) := by decide +kernel
theorem dX2_clear_2 : decode cX2_clear 2 = .ok (.putfield 15, 3) := by decide +kernel
theorem dX2_clear_5 : decode cX2_clear 5 = .ok (.return_, 1) := by decide +kernel
theorem dX2_has_0 : decode cX2_has 0 = .ok (.iload_n 1, 1) := by decide +kernel
theorem dX2_has_1 : decode cX2_has 1 = .ok (.ifCond .lt 21, 3) := by decide +kernel
theorem dX2_has_4 : decode cX2_has 4 = .ok (.iload_n 1, 1) := by decide +kernel
theorem dX2_has_5 : decode cX2_has 5 = .ok (.aload_n 0, 1) := by decide +kernel
theorem dX2_has_6 : decode cX2_has 6 = .ok (.getfield 15, 3) := by decide +kernel
theorem dX2_has_9 : decode cX2_has 9 = .ok (.if_icmp .ge 13, 3) := by decide +kernel
theorem dX2_has_12 : decode cX2_has 12 = .ok (.iload_n 1, 1) := by decide +kernel
theorem dX2_has_13 : decode cX2_has 13 = .ok (.bipush 80, 2) := by decide +kernel
theorem dX2_has_15 : decode cX2_has 15 = .ok (.if_icmp .ge 7, 3) := by decide +kernel
theorem dX2_has_18 : decode cX2_has 18 = .ok (.iconst 1, 1) := by decide +kernel
theorem dX2_has_19 : decode cX2_has 19 = .ok (.goto 4, 3) := by decide +kernel
theorem dX2_has_22 : decode cX2_has 22 = .ok (.iconst 0, 1) := by decide +kernel
theorem dX2_has_23 : decode cX2_has 23 = .ok (.ireturn, 1) := by decide +kernel
set_option maxRecDepth 20000 in
theorem ggX2_signAt_X2_has : GoodIn wsX2_signAt wsX2_has := goodIn_r _ [6, 7, 8, 9] (by decide +kernel) (by decide +kernel)
set_option maxRecDepth 20000 in
theorem gX2_signAt_X2_has : GoodIn wsX2_signAt (wsV RX2 19 RX2 yX2_has wsX2_has) := goodIn_app (goodIn_of _ (by decide +kernel)) ggX2_signAt_X2_has
theorem dX2_signAt_0 : decode cX2_signAt 0 = .ok (.aload_n 0, 1) := by decide +kernel
theorem dX2_signAt_1 : decode cX2_signAt 1 = .ok (.iload_n 1, 1) := by decide +kernel
theorem dX2_signAt_2 : decode cX2_signAt 2 = .ok (.invokevirtual 19, 3) := by decide +kernel
theorem dX2_signAt_5 : decode cX2_signAt 5 = .ok (.ifCond .eq 12, 3) := by decide +kernel
theorem dX2_signAt_8 : decode cX2_signAt 8 = .ok (.aload_n 0, 1) := by decide +kernel
theorem dX2_signAt_9 : decode cX2_signAt 9 = .ok (.getfield 9, 3) := by decide +kernel
theorem dX2_signAt_12 : decode cX2_signAt 12 = .ok (.iload_n 1, 1) := by decide +kernel
theorem dX2_signAt_13 : decode cX2_signAt 13 = .ok (.caload, 1) := by decide +kernel
theorem dX2_signAt_14 : decode cX2_signAt 14 = .ok (.goto 4, 3) := by decide +kernel
theorem dX2_signAt_17 : decode cX2_signAt 17 = .ok (.iconst 0, 1) := by decide +kernel
theorem dX2_signAt_18 : decode cX2_signAt 18 = .ok (.ireturn, 1) := by decide +kernel
set_option maxRecDepth 20000 in
theorem ggX2_writeKeys_X3_wardsOf : GoodIn wsX2_writeKeys wsX3_wardsOf := goodIn_ca (goodIn_r _ [6, 7, 8, 9, 10, 5, 11, 12, 33, 34, 35, 36, 37, 38, 39, 40, 41, 42, 43, 44, 45, 46] (by decide +kernel) (by decide +kernel)) (goodIn_sub (fun _ h => List.mem_cons_of_mem _ (List.mem_append_right _ h)) (by decide +kernel))
set_option maxRecDepth 20000 in
theorem gX2_writeKeys_X3_wardsOf : GoodIn wsX2_writeKeys (wsV RX2 28 RX3 yX3_wardsOf wsX3_wardsOf) := goodIn_app (goodIn_of _ (by decide +kernel)) ggX2_writeKeys_X3_wardsOf
set_option maxRecDepth 20000 in
theorem ggX2_writeKeys_X3_lockWith : GoodIn wsX2_writeKeys wsX3_lockWith := goodIn_ca (goodIn_r _ [16, 17, 8, 9, 10, 5, 11, 12, 33, 34, 35, 36, 37, 38, 39, 40, 41, 42, 43, 44, 45, 46] (by decide +kernel) (by decide +kernel)) (goodIn_sub (fun _ h => List.mem_cons_of_mem _ (List.mem_append_right _ h)) (by decide +kernel))
set_option maxRecDepth 20000 in
theorem gX2_writeKeys_X3_lockWith : GoodIn wsX2_writeKeys (wsV RX2 32 RX3 yX3_lockWith wsX3_lockWith) := goodIn_app (goodIn_of _ (by decide +kernel)) ggX2_writeKeys_X3_lockWith
set_option maxRecDepth 20000 in
theorem ggX2_writeKeys_X2_writeOne : GoodIn wsX2_writeKeys wsX2_writeOne := goodIn_ca (goodIn_r _ [22, 23, 24, 25, 26, 21, 27, 28, 29, 30, 31, 32, 47, 48] (by decide +kernel) (by decide +kernel)) (goodIn_sub (fun _ h => List.mem_cons_of_mem _ (List.mem_append_right _ h)) (by decide +kernel))
set_option maxRecDepth 20000 in
theorem gX2_writeKeys_X2_writeOne : GoodIn wsX2_writeKeys (wsV RX2 35 RX2 yX2_writeOne wsX2_writeOne) := goodIn_app (goodIn_of _ (by decide +kernel)) ggX2_writeKeys_X2_writeOne
theorem dX2_writeKeys_0 : decode cX2_writeKeys 0 = .ok (.iconst 0, 1) := by decide +kernel
theorem dX2_writeKeys_1 : decode cX2_writeKeys 1 = .ok (.istore_n 2, 1) := by decide +kernel
theorem dX2_writeKeys_2 : decode cX2_writeKeys 2 = .ok (.iload_n 2, 1) := by decide +kernel
theorem dX2_writeKeys_3 : decode cX2_writeKeys 3 = .ok (.aload_n 1, 1) := by decide +kernel
theorem dX2_writeKeys_4 : decode cX2_writeKeys 4 = .ok (.getfield 23, 3) := by decide +kernel
theorem dX2_writeKeys_7 : decode cX2_writeKeys 7 = .ok (.if_icmp .ge 24, 3) := by decide +kernel
theorem dX2_writeKeys_10 : decode cX2_writeKeys 10 = .ok (.aload_n 0, 1) := by decide +kernel
theorem dX2_writeKeys_11 : decode cX2_writeKeys 11 = .ok (.iload_n 2, 1) := by decide +kernel
theorem dX2_writeKeys_12 : decode cX2_writeKeys 12 = .ok (.aload_n 1, 1) := by decide +kernel
theorem dX2_writeKeys_13 : decode cX2_writeKeys 13 = .ok (.iload_n 2, 1) := by decide +kernel
theorem dX2_writeKeys_14 : decode cX2_writeKeys 14 = .ok (.invokevirtual 28, 3) := by decide +kernel
theorem dX2_writeKeys_17 : decode cX2_writeKeys 17 = .ok (.aload_n 1, 1) := by decide +kernel
theorem dX2_writeKeys_18 : decode cX2_writeKeys 18 = .ok (.iload_n 2, 1) := by decide +kernel
theorem dX2_writeKeys_19 : decode cX2_writeKeys 19 = .ok (.invokevirtual 32, 3) := by decide +kernel
theorem dX2_writeKeys_22 : decode cX2_writeKeys 22 = .ok (.invokevirtual 35, 3) := by decide +kernel
theorem dX2_writeKeys_25 : decode cX2_writeKeys 25 = .ok (.iinc 2 1, 3) := by decide +kernel
theorem dX2_writeKeys_28 : decode cX2_writeKeys 28 = .ok (.goto (-26), 3) := by decide +kernel
theorem dX2_writeKeys_31 : decode cX2_writeKeys 31 = .ok (.return_, 1) := by decide +kernel
set_option maxRecDepth 20000 in
theorem ggX2_writeLocks_X3_pinsOf : GoodIn wsX2_writeLocks wsX3_pinsOf := goodIn_ca (goodIn_r _ [6, 7, 8, 9, 10, 5, 11, 12, 33, 34, 35, 36, 37, 38, 39, 40, 41, 42, 43, 44, 45, 46] (by decide +kernel) (by decide +kernel)) (goodIn_sub (fun _ h => List.mem_cons_of_mem _ (List.mem_append_right _ h)) (by decide +kernel))
set_option maxRecDepth 20000 in
theorem gX2_writeLocks_X3_pinsOf : GoodIn wsX2_writeLocks (wsV RX2 42 RX3 yX3_pinsOf wsX3_pinsOf) := goodIn_app (goodIn_of _ (by decide +kernel)) ggX2_writeLocks_X3_pinsOf
set_option maxRecDepth 20000 in
theorem ggX2_writeLocks_X3_keyIn : GoodIn wsX2_writeLocks wsX3_keyIn := goodIn_ca (goodIn_r _ [16, 17, 8, 9, 10, 5, 11, 12, 33, 34, 35, 36, 37, 38, 39, 40, 41, 42, 43, 44, 45, 46] (by decide +kernel) (by decide +kernel)) (goodIn_sub (fun _ h => List.mem_cons_of_mem _ (List.mem_append_right _ h)) (by decide +kernel))
set_option maxRecDepth 20000 in
theorem gX2_writeLocks_X3_keyIn : GoodIn wsX2_writeLocks (wsV RX2 45 RX3 yX3_keyIn wsX3_keyIn) := goodIn_app (goodIn_of _ (by decide +kernel)) ggX2_writeLocks_X3_keyIn
set_option maxRecDepth 20000 in
theorem ggX2_writeLocks_X2_writeOne : GoodIn wsX2_writeLocks wsX2_writeOne := goodIn_ca (goodIn_r _ [22, 23, 24, 25, 26, 21, 27, 28, 29, 30, 31, 32, 47, 48] (by decide +kernel) (by decide +kernel)) (goodIn_sub (fun _ h => List.mem_cons_of_mem _ (List.mem_append_right _ h)) (by decide +kernel))
set_option maxRecDepth 20000 in
theorem gX2_writeLocks_X2_writeOne : GoodIn wsX2_writeLocks (wsV RX2 35 RX2 yX2_writeOne wsX2_writeOne) := goodIn_app (goodIn_of _ (by decide +kernel)) ggX2_writeLocks_X2_writeOne
theorem dX2_writeLocks_0 : decode cX2_writeLocks 0 = .ok (.iconst 0, 1) := by decide +kernel
theorem dX2_writeLocks_1 : decode cX2_writeLocks 1 = .ok (.istore_n 2, 1) := by decide +kernel
theorem dX2_writeLocks_2 : decode cX2_writeLocks 2 = .ok (.iload_n 2, 1) := by decide +kernel
theorem dX2_writeLocks_3 : decode cX2_writeLocks 3 = .ok (.aload_n 1, 1) := by decide +kernel
theorem dX2_writeLocks_4 : decode cX2_writeLocks 4 = .ok (.getfield 39, 3) := by decide +kernel
theorem dX2_writeLocks_7 : decode cX2_writeLocks 7 = .ok (.if_icmp .ge 24, 3) := by decide +kernel
theorem dX2_writeLocks_10 : decode cX2_writeLocks 10 = .ok (.aload_n 0, 1) := by decide +kernel
theorem dX2_writeLocks_11 : decode cX2_writeLocks 11 = .ok (.iload_n 2, 1) := by decide +kernel
theorem dX2_writeLocks_12 : decode cX2_writeLocks 12 = .ok (.aload_n 1, 1) := by decide +kernel
theorem dX2_writeLocks_13 : decode cX2_writeLocks 13 = .ok (.iload_n 2, 1) := by decide +kernel
theorem dX2_writeLocks_14 : decode cX2_writeLocks 14 = .ok (.invokevirtual 42, 3) := by decide +kernel
theorem dX2_writeLocks_17 : decode cX2_writeLocks 17 = .ok (.aload_n 1, 1) := by decide +kernel
theorem dX2_writeLocks_18 : decode cX2_writeLocks 18 = .ok (.iload_n 2, 1) := by decide +kernel
theorem dX2_writeLocks_19 : decode cX2_writeLocks 19 = .ok (.invokevirtual 45, 3) := by decide +kernel
theorem dX2_writeLocks_22 : decode cX2_writeLocks 22 = .ok (.invokevirtual 35, 3) := by decide +kernel
theorem dX2_writeLocks_25 : decode cX2_writeLocks 25 = .ok (.iinc 2 1, 3) := by decide +kernel
theorem dX2_writeLocks_28 : decode cX2_writeLocks 28 = .ok (.goto (-26), 3) := by decide +kernel
theorem dX2_writeLocks_31 : decode cX2_writeLocks 31 = .ok (.return_, 1) := by decide +kernel
set_option maxRecDepth 20000 in
theorem ggX2_writeOne_X2_add : GoodIn wsX2_writeOne wsX2_add := goodIn_ca (goodIn_r _ [6, 1, 7, 12, 13] (by decide +kernel) (by decide +kernel)) (goodIn_sub (fun _ h => List.mem_cons_of_mem _ (List.mem_append_right _ h)) (by decide +kernel))
set_option maxRecDepth 20000 in
theorem gX2_writeOne_X2_add : GoodIn wsX2_writeOne (wsV RX2 48 RX2 yX2_add wsX2_add) := goodIn_app (goodIn_of _ (by decide +kernel)) ggX2_writeOne_X2_add
set_option maxRecDepth 20000 in
theorem ggX2_writeOne_X2_addNumber : GoodIn wsX2_writeOne wsX2_addNumber := goodIn_ca (goodIn_r _ [11, 2, 3, 4, 5, 6, 1, 7, 12, 13] (by decide +kernel) (by decide +kernel)) (goodIn_sub (fun _ h => List.mem_cons_of_mem _ (List.mem_append_right _ h)) (by decide +kernel))
set_option maxRecDepth 20000 in
theorem gX2_writeOne_X2_addNumber : GoodIn wsX2_writeOne (wsV RX2 52 RX2 yX2_addNumber wsX2_addNumber) := goodIn_app (goodIn_of _ (by decide +kernel)) ggX2_writeOne_X2_addNumber
theorem dX2_writeOne_0 : decode cX2_writeOne 0 = .ok (.aload_n 0, 1) := by decide +kernel
theorem dX2_writeOne_1 : decode cX2_writeOne 1 = .ok (.getfield 15, 3) := by decide +kernel
theorem dX2_writeOne_4 : decode cX2_writeOne 4 = .ok (.ifCond .le 9, 3) := by decide +kernel
theorem dX2_writeOne_7 : decode cX2_writeOne 7 = .ok (.aload_n 0, 1) := by decide +kernel
theorem dX2_writeOne_8 : decode cX2_writeOne 8 = .ok (.bipush 32, 2) := by decide +kernel
theorem dX2_writeOne_10 : decode cX2_writeOne 10 = .ok (.invokevirtual 48, 3) := by decide +kernel
theorem dX2_writeOne_13 : decode cX2_writeOne 13 = .ok (.aload_n 0, 1) := by decide +kernel
theorem dX2_writeOne_14 : decode cX2_writeOne 14 = .ok (.iload_n 1, 1) := by decide +kernel
theorem dX2_writeOne_15 : decode cX2_writeOne 15 = .ok (.invokevirtual 52, 3) := by decide +kernel
theorem dX2_writeOne_18 : decode cX2_writeOne 18 = .ok (.aload_n 0, 1) := by decide +kernel
theorem dX2_writeOne_19 : decode cX2_writeOne 19 = .ok (.bipush 35, 2) := by decide +kernel
theorem dX2_writeOne_21 : decode cX2_writeOne 21 = .ok (.invokevirtual 48, 3) := by decide +kernel
theorem dX2_writeOne_24 : decode cX2_writeOne 24 = .ok (.aload_n 0, 1) := by decide +kernel
theorem dX2_writeOne_25 : decode cX2_writeOne 25 = .ok (.iload_n 2, 1) := by decide +kernel
theorem dX2_writeOne_26 : decode cX2_writeOne 26 = .ok (.invokevirtual 52, 3) := by decide +kernel
theorem dX2_writeOne_29 : decode cX2_writeOne 29 = .ok (.iload_n 3, 1) := by decide +kernel
theorem dX2_writeOne_30 : decode cX2_writeOne 30 = .ok (.iconst (-1), 1) := by decide +kernel
theorem dX2_writeOne_31 : decode cX2_writeOne 31 = .ok (.if_icmp .eq 14, 3) := by decide +kernel
theorem dX2_writeOne_34 : decode cX2_writeOne 34 = .ok (.aload_n 0, 1) := by decide +kernel
theorem dX2_writeOne_35 : decode cX2_writeOne 35 = .ok (.bipush 45, 2) := by decide +kernel
theorem dX2_writeOne_37 : decode cX2_writeOne 37 = .ok (.invokevirtual 48, 3) := by decide +kernel
theorem dX2_writeOne_40 : decode cX2_writeOne 40 = .ok (.aload_n 0, 1) := by decide +kernel
theorem dX2_writeOne_41 : decode cX2_writeOne 41 = .ok (.iload_n 3, 1) := by decide +kernel
theorem dX2_writeOne_42 : decode cX2_writeOne 42 = .ok (.invokevirtual 52, 3) := by decide +kernel
theorem dX2_writeOne_45 : decode cX2_writeOne 45 = .ok (.return_, 1) := by decide +kernel
set_option maxRecDepth 20000 in
theorem ggX2_addNumber_X2_add : GoodIn wsX2_addNumber wsX2_add := goodIn_ca (goodIn_r _ [5, 6, 7, 8, 9] (by decide +kernel) (by decide +kernel)) (goodIn_sub (fun _ h => List.mem_cons_of_mem _ (List.mem_append_right _ h)) (by decide +kernel))
set_option maxRecDepth 20000 in
theorem gX2_addNumber_X2_add : GoodIn wsX2_addNumber (wsV RX2 48 RX2 yX2_add wsX2_add) := goodIn_app (goodIn_of _ (by decide +kernel)) ggX2_addNumber_X2_add
theorem dX2_addNumber_0 : decode cX2_addNumber 0 = .ok (.iload_n 1, 1) := by decide +kernel
theorem dX2_addNumber_1 : decode cX2_addNumber 1 = .ok (.bipush 10, 2) := by decide +kernel
theorem dX2_addNumber_3 : decode cX2_addNumber 3 = .ok (.if_icmp .lt 15, 3) := by decide +kernel
theorem dX2_addNumber_6 : decode cX2_addNumber 6 = .ok (.aload_n 0, 1) := by decide +kernel
theorem dX2_addNumber_7 : decode cX2_addNumber 7 = .ok (.bipush 48, 2) := by decide +kernel
theorem dX2_addNumber_9 : decode cX2_addNumber 9 = .ok (.iload_n 1, 1) := by decide +kernel
theorem dX2_addNumber_10 : decode cX2_addNumber 10 = .ok (.bipush 10, 2) := by decide +kernel
theorem dX2_addNumber_12 : decode cX2_addNumber 12 = .ok (.idiv, 1) := by decide +kernel
theorem dX2_addNumber_13 : decode cX2_addNumber 13 = .ok (.iadd, 1) := by decide +kernel
theorem dX2_addNumber_14 : decode cX2_addNumber 14 = .ok (.i2c, 1) := by decide +kernel
theorem dX2_addNumber_15 : decode cX2_addNumber 15 = .ok (.invokevirtual 48, 3) := by decide +kernel
theorem dX2_addNumber_18 : decode cX2_addNumber 18 = .ok (.aload_n 0, 1) := by decide +kernel
theorem dX2_addNumber_19 : decode cX2_addNumber 19 = .ok (.bipush 48, 2) := by decide +kernel
theorem dX2_addNumber_21 : decode cX2_addNumber 21 = .ok (.iload_n 1, 1) := by decide +kernel
theorem dX2_addNumber_22 : decode cX2_addNumber 22 = .ok (.bipush 10, 2) := by decide +kernel
theorem dX2_addNumber_24 : decode cX2_addNumber 24 = .ok (.irem, 1) := by decide +kernel
theorem dX2_addNumber_25 : decode cX2_addNumber 25 = .ok (.iadd, 1) := by decide +kernel
theorem dX2_addNumber_26 : decode cX2_addNumber 26 = .ok (.i2c, 1) := by decide +kernel
theorem dX2_addNumber_27 : decode cX2_addNumber 27 = .ok (.invokevirtual 48, 3) := by decide +kernel
theorem dX2_addNumber_30 : decode cX2_addNumber 30 = .ok (.return_, 1) := by decide +kernel
theorem dX2_add_0 : decode cX2_add 0 = .ok (.aload_n 0, 1) := by decide +kernel
theorem dX2_add_1 : decode cX2_add 1 = .ok (.getfield 15, 3) := by decide +kernel
theorem dX2_add_4 : decode cX2_add 4 = .ok (.ifCond .lt 32, 3) := by decide +kernel
theorem dX2_add_7 : decode cX2_add 7 = .ok (.aload_n 0, 1) := by decide +kernel
theorem dX2_add_8 : decode cX2_add 8 = .ok (.getfield 15, 3) := by decide +kernel
theorem dX2_add_11 : decode cX2_add 11 = .ok (.bipush 80, 2) := by decide +kernel
theorem dX2_add_13 : decode cX2_add 13 = .ok (.if_icmp .ge 23, 3) := by decide +kernel
theorem dX2_add_16 : decode cX2_add 16 = .ok (.aload_n 0, 1) := by decide +kernel
theorem dX2_add_17 : decode cX2_add 17 = .ok (.getfield 9, 3) := by decide +kernel
theorem dX2_add_20 : decode cX2_add 20 = .ok (.aload_n 0, 1) := by decide +kernel
theorem dX2_add_21 : decode cX2_add 21 = .ok (.getfield 15, 3) := by decide +kernel
theorem dX2_add_24 : decode cX2_add 24 = .ok (.iload_n 1, 1) := by decide +kernel
theorem dX2_add_25 : decode cX2_add 25 = .ok (.castore, 1) := by decide +kernel
theorem dX2_add_26 : decode cX2_add 26 = .ok (.aload_n 0, 1) := by decide +kernel
theorem dX2_add_27 : decode cX2_add 27 = .ok (.dup, 1) := by decide +kernel
theorem dX2_add_28 : decode cX2_add 28 = .ok (.getfield 15, 3) := by decide +kernel
theorem dX2_add_31 : decode cX2_add 31 = .ok (.iconst 1, 1) := by decide +kernel
theorem dX2_add_32 : decode cX2_add 32 = .ok (.iadd, 1) := by decide +kernel
theorem dX2_add_33 : decode cX2_add 33 = .ok (.putfield 15, 3) := by decide +kernel
theorem dX2_add_36 : decode cX2_add 36 = .ok (.return_, 1) := by decide +kernel
theorem dX3_init_0 : decode cX3_init 0 = .ok (.aload_n 0, 1) := by decide +kernel
theorem dX3_init_1 : decode cX3_init 1 = .ok (.invokespecial 3, 3) := by decide +kernel
theorem dX3_init_4 : decode cX3_init 4 = .ok (.aload_n 0, 1) := by decide +kernel
theorem dX3_init_5 : decode cX3_init 5 = .ok (.bipush 10, 2) := by decide +kernel
theorem dX3_init_7 : decode cX3_init 7 = .ok (.newarray .int, 2) := by decide +kernel
theorem dX3_init_9 : decode cX3_init 9 = .ok (.putfield 9, 3) := by decide +kernel
theorem dX3_init_12 : decode cX3_init 12 = .ok (.aload_n 0, 1) := by decide +kernel
theorem dX3_init_13 : decode cX3_init 13 = .ok (.bipush 10, 2) := by decide +kernel
theorem dX3_init_15 : decode cX3_init 15 = .ok (.newarray .int, 2) := by decide +kernel
theorem dX3_init_17 : decode cX3_init 17 = .ok (.putfield 15, 3) := by decide +kernel
theorem dX3_init_20 : decode cX3_init 20 = .ok (.aload_n 0, 1) := by decide +kernel
theorem dX3_init_21 : decode cX3_init 21 = .ok (.bipush 10, 2) := by decide +kernel
theorem dX3_init_23 : decode cX3_init 23 = .ok (.newarray .int, 2) := by decide +kernel
theorem dX3_init_25 : decode cX3_init 25 = .ok (.putfield 18, 3) := by decide +kernel
theorem dX3_init_28 : decode cX3_init 28 = .ok (.aload_n 0, 1) := by decide +kernel
theorem dX3_init_29 : decode cX3_init 29 = .ok (.bipush 10, 2) := by decide +kernel
theorem dX3_init_31 : decode cX3_init 31 = .ok (.newarray .int, 2) := by decide +kernel
theorem dX3_init_33 : decode cX3_init 33 = .ok (.putfield 21, 3) := by decide +kernel
theorem dX3_init_36 : decode cX3_init 36 = .ok (.aload_n 0, 1) := by decide +kernel
theorem dX3_init_37 : decode cX3_init 37 = .ok (.bipush 10, 2) := by decide +kernel
theorem dX3_init_39 : decode cX3_init 39 = .ok (.newarray .int, 2) := by decide +kernel
theorem dX3_init_41 : decode cX3_init 41 = .ok (.putfield 24, 3) := by decide +kernel
theorem dX3_init_44 : decode cX3_init 44 = .ok (.aload_n 0, 1) := by decide +kernel
theorem dX3_init_45 : decode cX3_init 45 = .ok (.bipush 10, 2) := by decide +kernel
theorem dX3_init_47 : decode cX3_init 47 = .ok (.newarray .int, 2) := by decide +kernel
theorem dX3_init_49 : decode cX3_init 49 = .ok (.putfield 27, 3) := by decide +kernel
theorem dX3_init_52 : decode cX3_init 52 = .ok (.aload_n 0, 1) := by decide +kernel
theorem dX3_init_53 : decode cX3_init 53 = .ok (.bipush 10, 2) := by decide +kernel
theorem dX3_init_55 : decode cX3_init 55 = .ok (.newarray .int, 2) := by decide +kernel
theorem dX3_init_57 : decode cX3_init 57 = .ok (.putfield 30, 3) := by decide +kernel
theorem dX3_init_60 : decode cX3_init 60 = .ok (.aload_n 0, 1) := by decide +kernel
theorem dX3_init_61 : decode cX3_init 61 = .ok (.bipush 10, 2) := by decide +kernel
theorem dX3_init_63 : decode cX3_init 63 = .ok (.newarray .int, 2) := by decide +kernel
theorem dX3_init_65 : decode cX3_init 65 = .ok (.putfield 33, 3) := by decide +kernel
theorem dX3_init_68 : decode cX3_init 68 = .ok (.aload_n 0, 1) := by decide +kernel
theorem dX3_init_69 : decode cX3_init 69 = .ok (.iconst 0, 1) := by decide +kernel
theorem dX3_init_70 : decode cX3_init 70 = .ok (.putfield 36, 3) := by decide +kernel
theorem dX3_init_73 : decode cX3_init 73 = .ok (.aload_n 0, 1) := by decide +kernel
theorem dX3_init_74 : decode cX3_init 74 = .ok (.iconst 0, 1) := by decide +kernel
theorem dX3_init_75 : decode cX3_init 75 = .ok (.putfield 40, 3) := by decide +kernel
theorem dX3_init_78 : decode cX3_init 78 = .ok (.aload_n 0, 1) := by decide +kernel
theorem dX3_init_79 : decode cX3_init 79 = .ok (.bipush 6, 2) := by decide +kernel
theorem dX3_init_81 : decode cX3_init 81 = .ok (.putfield 43, 3) := by decide +kernel
theorem dX3_init_84 : decode cX3_init 84 = .ok (.aload_n 0, 1) := by decide +kernel
theorem dX3_init_85 : decode cX3_init 85 = .ok (.iconst 0, 1) := by decide +kernel
theorem dX3_init_86 : decode cX3_init 86 = .ok (.putfield 46, 3) := by decide +kernel
theorem dX3_init_89 : decode cX3_init 89 = .ok (.aload_n 0, 1) := by decide +kernel
theorem dX3_init_90 : decode cX3_init 90 = .ok (.iconst 0, 1) := by decide +kernel
theorem dX3_init_91 : decode cX3_init 91 = .ok (.putfield 49, 3) := by decide +kernel
theorem dX3_init_94 : decode cX3_init 94 = .ok (.aload_n 0, 1) := by decide +kernel
theorem dX3_init_95 : decode cX3_init 95 = .ok (.iconst 0, 1) := by decide +kernel
theorem dX3_init_96 : decode cX3_init 96 = .ok (.putfield 52, 3) := by decide +kernel
theorem dX3_init_99 : decode cX3_init 99 = .ok (.return_, 1) := by decide +kernel
theorem dX3_copyFrom_0 : decode cX3_copyFrom 0 = .ok (.aload_n 1, 1) := by decide +kernel
theorem dX3_copyFrom_1 : decode cX3_copyFrom 1 = .ok (.getfield 9, 3) := by decide +kernel
theorem dX3_copyFrom_4 : decode cX3_copyFrom 4 = .ok (.iconst 0, 1) := by decide +kernel
theorem dX3_copyFrom_5 : decode cX3_copyFrom 5 = .ok (.aload_n 0, 1) := by decide +kernel
theorem dX3_copyFrom_6 : decode cX3_copyFrom 6 = .ok (.getfield 9, 3) := by decide +kernel
theorem dX3_copyFrom_9 : decode cX3_copyFrom 9 = .ok (.iconst 0, 1) := by decide +kernel
theorem dX3_copyFrom_10 : decode cX3_copyFrom 10 = .ok (.bipush 10, 2) := by decide +kernel
theorem dX3_copyFrom_12 : decode cX3_copyFrom 12 = .ok (.invokestatic 55, 3) := by decide +kernel
theorem dX3_copyFrom_15 : decode cX3_copyFrom 15 = .ok (.aload_n 1, 1) := by decide +kernel
theorem dX3_copyFrom_16 : decode cX3_copyFrom 16 = .ok (.getfield 15, 3) := by decide +kernel
theorem dX3_copyFrom_19 : decode cX3_copyFrom 19 = .ok (.iconst 0, 1) := by decide +kernel
theorem dX3_copyFrom_20 : decode cX3_copyFrom 20 = .ok (.aload_n 0, 1) := by decide +kernel
theorem dX3_copyFrom_21 : decode cX3_copyFrom 21 = .ok (.getfield 15, 3) := by decide +kernel
theorem dX3_copyFrom_24 : decode cX3_copyFrom 24 = .ok (.iconst 0, 1) := by decide +kernel
theorem dX3_copyFrom_25 : decode cX3_copyFrom 25 = .ok (.bipush 10, 2) := by decide +kernel
theorem dX3_copyFrom_27 : decode cX3_copyFrom 27 = .ok (.invokestatic 55, 3) := by decide +kernel
theorem dX3_copyFrom_30 : decode cX3_copyFrom 30 = .ok (.aload_n 1, 1) := by decide +kernel
theorem dX3_copyFrom_31 : decode cX3_copyFrom 31 = .ok (.getfield 18, 3) := by decide +kernel
theorem dX3_copyFrom_34 : decode cX3_copyFrom 34 = .ok (.iconst 0, 1) := by decide +kernel
theorem dX3_copyFrom_35 : decode cX3_copyFrom 35 = .ok (.aload_n 0, 1) := by decide +kernel
theorem dX3_copyFrom_36 : decode cX3_copyFrom 36 = .ok (.getfield 18, 3) := by decide +kernel
theorem dX3_copyFrom_39 : decode cX3_copyFrom 39 = .ok (.iconst 0, 1) := by decide +kernel
theorem dX3_copyFrom_40 : decode cX3_copyFrom 40 = .ok (.bipush 10, 2) := by decide +kernel
theorem dX3_copyFrom_42 : decode cX3_copyFrom 42 = .ok (.invokestatic 55, 3) := by decide +kernel
theorem dX3_copyFrom_45 : decode cX3_copyFrom 45 = .ok (.aload_n 1, 1) := by decide +kernel
theorem dX3_copyFrom_46 : decode cX3_copyFrom 46 = .ok (.getfield 21, 3) := by decide +kernel
theorem dX3_copyFrom_49 : decode cX3_copyFrom 49 = .ok (.iconst 0, 1) := by decide +kernel
theorem dX3_copyFrom_50 : decode cX3_copyFrom 50 = .ok (.aload_n 0, 1) := by decide +kernel
theorem dX3_copyFrom_51 : decode cX3_copyFrom 51 = .ok (.getfield 21, 3) := by decide +kernel
theorem dX3_copyFrom_54 : decode cX3_copyFrom 54 = .ok (.iconst 0, 1) := by decide +kernel
theorem dX3_copyFrom_55 : decode cX3_copyFrom 55 = .ok (.bipush 10, 2) := by decide +kernel
theorem dX3_copyFrom_57 : decode cX3_copyFrom 57 = .ok (.invokestatic 55, 3) := by decide +kernel
theorem dX3_copyFrom_60 : decode cX3_copyFrom 60 = .ok (.aload_n 1, 1) := by decide +kernel
theorem dX3_copyFrom_61 : decode cX3_copyFrom 61 = .ok (.getfield 24, 3) := by decide +kernel
theorem dX3_copyFrom_64 : decode cX3_copyFrom 64 = .ok (.iconst 0, 1) := by decide +kernel
theorem dX3_copyFrom_65 : decode cX3_copyFrom 65 = .ok (.aload_n 0, 1) := by decide +kernel
theorem dX3_copyFrom_66 : decode cX3_copyFrom 66 = .ok (.getfield 24, 3) := by decide +kernel
theorem dX3_copyFrom_69 : decode cX3_copyFrom 69 = .ok (.iconst 0, 1) := by decide +kernel
theorem dX3_copyFrom_70 : decode cX3_copyFrom 70 = .ok (.bipush 10, 2) := by decide +kernel
theorem dX3_copyFrom_72 : decode cX3_copyFrom 72 = .ok (.invokestatic 55, 3) := by decide +kernel
theorem dX3_copyFrom_75 : decode cX3_copyFrom 75 = .ok (.aload_n 1, 1) := by decide +kernel
theorem dX3_copyFrom_76 : decode cX3_copyFrom 76 = .ok (.getfield 27, 3) := by decide +kernel
theorem dX3_copyFrom_79 : decode cX3_copyFrom 79 = .ok (.iconst 0, 1) := by decide +kernel
theorem dX3_copyFrom_80 : decode cX3_copyFrom 80 = .ok (.aload_n 0, 1) := by decide +kernel
theorem dX3_copyFrom_81 : decode cX3_copyFrom 81 = .ok (.getfield 27, 3) := by decide +kernel
theorem dX3_copyFrom_84 : decode cX3_copyFrom 84 = .ok (.iconst 0, 1) := by decide +kernel
theorem dX3_copyFrom_85 : decode cX3_copyFrom 85 = .ok (.bipush 10, 2) := by decide +kernel
theorem dX3_copyFrom_87 : decode cX3_copyFrom 87 = .ok (.invokestatic 55, 3) := by decide +kernel
theorem dX3_copyFrom_90 : decode cX3_copyFrom 90 = .ok (.aload_n 1, 1) := by decide +kernel
theorem dX3_copyFrom_91 : decode cX3_copyFrom 91 = .ok (.getfield 30, 3) := by decide +kernel
theorem dX3_copyFrom_94 : decode cX3_copyFrom 94 = .ok (.iconst 0, 1) := by decide +kernel
theorem dX3_copyFrom_95 : decode cX3_copyFrom 95 = .ok (.aload_n 0, 1) := by decide +kernel
theorem dX3_copyFrom_96 : decode cX3_copyFrom 96 = .ok (.getfield 30, 3) := by decide +kernel
theorem dX3_copyFrom_99 : decode cX3_copyFrom 99 = .ok (.iconst 0, 1) := by decide +kernel
theorem dX3_copyFrom_100 : decode cX3_copyFrom 100 = .ok (.bipush 10, 2) := by decide +kernel
theorem dX3_copyFrom_102 : decode cX3_copyFrom 102 = .ok (.invokestatic 55, 3) := by decide +kernel
theorem dX3_copyFrom_105 : decode cX3_copyFrom 105 = .ok (.aload_n 1, 1) := by decide +kernel
theorem dX3_copyFrom_106 : decode cX3_copyFrom 106 = .ok (.getfield 33, 3) := by decide +kernel
theorem dX3_copyFrom_109 : decode cX3_copyFrom 109 = .ok (.iconst 0, 1) := by decide +kernel
theorem dX3_copyFrom_110 : decode cX3_copyFrom 110 = .ok (.aload_n 0, 1) := by decide +kernel
theorem dX3_copyFrom_111 : decode cX3_copyFrom 111 = .ok (.getfield 33, 3) := by decide +kernel
theorem dX3_copyFrom_114 : decode cX3_copyFrom 114 = .ok (.iconst 0, 1) := by decide +kernel
theorem dX3_copyFrom_115 : decode cX3_copyFrom 115 = .ok (.bipush 10, 2) := by decide +kernel
theorem dX3_copyFrom_117 : decode cX3_copyFrom 117 = .ok (.invokestatic 55, 3) := by decide +kernel
theorem dX3_copyFrom_120 : decode cX3_copyFrom 120 = .ok (.aload_n 0, 1) := by decide +kernel
theorem dX3_copyFrom_121 : decode cX3_copyFrom 121 = .ok (.aload_n 1, 1) := by decide +kernel
theorem dX3_copyFrom_122 : decode cX3_copyFrom 122 = .ok (.getfield 36, 3) := by decide +kernel
theorem dX3_copyFrom_125 : decode cX3_copyFrom 125 = .ok (.putfield 36, 3) := by decide +kernel
theorem dX3_copyFrom_128 : decode cX3_copyFrom 128 = .ok (.aload_n 0, 1) := by decide +kernel
theorem dX3_copyFrom_129 : decode cX3_copyFrom 129 = .ok (.aload_n 1, 1) := by decide +kernel
theorem dX3_copyFrom_130 : decode cX3_copyFrom 130 = .ok (.getfield 40, 3) := by decide +kernel
theorem dX3_copyFrom_133 : decode cX3_copyFrom 133 = .ok (.putfield 40, 3) := by decide +kernel
theorem dX3_copyFrom_136 : decode cX3_copyFrom 136 = .ok (.aload_n 0, 1) := by decide +kernel
theorem dX3_copyFrom_137 : decode cX3_copyFrom 137 = .ok (.aload_n 1, 1) := by decide +kernel
theorem dX3_copyFrom_138 : decode cX3_copyFrom 138 = .ok (.getfield 43, 3) := by decide +kernel
theorem dX3_copyFrom_141 : decode cX3_copyFrom 141 = .ok (.putfield 43, 3) := by decide +kernel
theorem dX3_copyFrom_144 : decode cX3_copyFrom 144 = .ok (.aload_n 0, 1) := by decide +kernel
theorem dX3_copyFrom_145 : decode cX3_copyFrom 145 = .ok (.aload_n 1, 1) := by decide +kernel
theorem dX3_copyFrom_146 : decode cX3_copyFrom 146 = .ok (.getfield 46, 3) := by decide +kernel
theorem dX3_copyFrom_149 : decode cX3_copyFrom 149 = .ok (.putfield 46, 3) := by decide +kernel
theorem dX3_copyFrom_152 : decode cX3_copyFrom 152 = .ok (.aload_n 0, 1) := by decide +kernel
theorem dX3_copyFrom_153 : decode cX3_copyFrom 153 = .ok (.aload_n 1, 1) := by decide +kernel
theorem dX3_copyFrom_154 : decode cX3_copyFrom 154 = .ok (.getfield 49, 3) := by decide +kernel
theorem dX3_copyFrom_157 : decode cX3_copyFrom 157 = .ok (.putfield 49, 3) := by decide +kernel
theorem dX3_copyFrom_160 : decode cX3_copyFrom 160 = .ok (.aload_n 0, 1) := by decide +kernel
theorem dX3_copyFrom_161 : decode cX3_copyFrom 161 = .ok (.aload_n 1, 1) := by decide +kernel
theorem dX3_copyFrom_162 : decode cX3_copyFrom 162 = .ok (.getfield 52, 3) := by decide +kernel
theorem dX3_copyFrom_165 : decode cX3_copyFrom 165 = .ok (.putfield 52, 3) := by decide +kernel
theorem dX3_copyFrom_168 : decode cX3_copyFrom 168 = .ok (.return_, 1) := by decide +kernel
theorem dX3_hasKey_0 : decode cX3_hasKey 0 = .ok (.iload_n 1, 1) := by decide +kernel
theorem dX3_hasKey_1 : decode cX3_hasKey 1 = .ok (.ifCond .lt 21, 3) := by decide +kernel
theorem dX3_hasKey_4 : decode cX3_hasKey 4 = .ok (.iload_n 1, 1) := by decide +kernel
theorem dX3_hasKey_5 : decode cX3_hasKey 5 = .ok (.aload_n 0, 1) := by decide +kernel
theorem dX3_hasKey_6 : decode cX3_hasKey 6 = .ok (.getfield 36, 3) := by decide +kernel
theorem dX3_hasKey_9 : decode cX3_hasKey 9 = .ok (.if_icmp .ge 13, 3) := by decide +kernel
theorem dX3_hasKey_12 : decode cX3_hasKey 12 = .ok (.iload_n 1, 1) := by decide +kernel
theorem dX3_hasKey_13 : decode cX3_hasKey 13 = .ok (.bipush 10, 2) := by decide +kernel
theorem dX3_hasKey_15 : decode cX3_hasKey 15 = .ok (.if_icmp .ge 7, 3) := by decide +kernel
theorem dX3_hasKey_18 : decode cX3_hasKey 18 = .ok (.iconst 1, 1) := by decide +kernel
theorem dX3_hasKey_19 : decode cX3_hasKey 19 = .ok (.goto 4, 3) := by decide +kernel
theorem dX3_hasKey_22 : decode cX3_hasKey 22 = .ok (.iconst 0, 1) := by decide +kernel
theorem dX3_hasKey_23 : decode cX3_hasKey 23 = .ok (.ireturn, 1) := by decide +kernel
theorem dX3_hasLock_0 : decode cX3_hasLock 0 = .ok (.iload_n 1, 1) := by decide +kernel
theorem dX3_hasLock_1 : decode cX3_hasLock 1 = .ok (.ifCond .lt 21, 3) := by decide +kernel
theorem dX3_hasLock_4 : decode cX3_hasLock 4 = .ok (.iload_n 1, 1) := by decide +kernel
theorem dX3_hasLock_5 : decode cX3_hasLock 5 = .ok (.aload_n 0, 1) := by decide +kernel
theorem dX3_hasLock_6 : decode cX3_hasLock 6 = .ok (.getfield 40, 3) := by decide +kernel
theorem dX3_hasLock_9 : decode cX3_hasLock 9 = .ok (.if_icmp .ge 13, 3) := by decide +kernel
theorem dX3_hasLock_12 : decode cX3_hasLock 12 = .ok (.iload_n 1, 1) := by decide +kernel
theorem dX3_hasLock_13 : decode cX3_hasLock 13 = .ok (.bipush 10, 2) := by decide +kernel
theorem dX3_hasLock_15 : decode cX3_hasLock 15 = .ok (.if_icmp .ge 7, 3) := by decide +kernel
theorem dX3_hasLock_18 : decode cX3_hasLock 18 = .ok (.iconst 1, 1) := by decide +kernel
theorem dX3_hasLock_19 : decode cX3_hasLock 19 = .ok (.goto 4, 3) := by decide +kernel
theorem dX3_hasLock_22 : decode cX3_hasLock 22 = .ok (.iconst 0, 1) := by decide +kernel
theorem dX3_hasLock_23 : decode cX3_hasLock 23 = .ok (.ireturn, 1) := by decide +kernel
set_option maxRecDepth 20000 in
theorem ggX3_wardsOf_X3_hasKey : GoodIn wsX3_wardsOf wsX3_hasKey := goodIn_r _ [6, 7, 8, 9, 10, 11, 12, 13, 14, 15, 16, 17, 18, 19, 20, 21] (by decide +kernel) (by decide +kernel)
set_option maxRecDepth 20000 in
theorem gX3_wardsOf_X3_hasKey : GoodIn wsX3_wardsOf (wsV RX3 61 RX3 yX3_hasKey wsX3_hasKey) := goodIn_app (goodIn_of _ (by decide +kernel)) ggX3_wardsOf_X3_hasKey
theorem dX3_wardsOf_0 : decode cX3_wardsOf 0 = .ok (.aload_n 0, 1) := by decide +kernel
theorem dX3_wardsOf_1 : decode cX3_wardsOf 1 = .ok (.iload_n 1, 1) := by decide +kernel
theorem dX3_wardsOf_2 : decode cX3_wardsOf 2 = .ok (.invokevirtual 61, 3) := by decide +kernel
theorem dX3_wardsOf_5 : decode cX3_wardsOf 5 = .ok (.ifCond .eq 12, 3) := by decide +kernel
theorem dX3_wardsOf_8 : decode cX3_wardsOf 8 = .ok (.aload_n 0, 1) := by decide +kernel
theorem dX3_wardsOf_9 : decode cX3_wardsOf 9 = .ok (.getfield 9, 3) := by decide +kernel
theorem dX3_wardsOf_12 : decode cX3_wardsOf 12 = .ok (.iload_n 1, 1) := by decide +kernel
theorem dX3_wardsOf_13 : decode cX3_wardsOf 13 = .ok (.iaload, 1) := by decide +kernel
theorem dX3_wardsOf_14 : decode cX3_wardsOf 14 = .ok (.goto 4, 3) := by decide +kernel
theorem dX3_wardsOf_17 : decode cX3_wardsOf 17 = .ok (.iconst 0, 1) := by decide +kernel
theorem dX3_wardsOf_18 : decode cX3_wardsOf 18 = .ok (.ireturn, 1) := by decide +kernel
set_option maxRecDepth 20000 in
theorem ggX3_porterWith_X3_hasKey : GoodIn wsX3_porterWith wsX3_hasKey := goodIn_r _ [6, 7, 8, 9, 10, 11, 12, 13, 14, 15, 16, 17, 18, 19, 20, 21] (by decide +kernel) (by decide +kernel)
set_option maxRecDepth 20000 in
theorem gX3_porterWith_X3_hasKey : GoodIn wsX3_porterWith (wsV RX3 61 RX3 yX3_hasKey wsX3_hasKey) := goodIn_app (goodIn_of _ (by decide +kernel)) ggX3_porterWith_X3_hasKey
theorem dX3_porterWith_0 : decode cX3_porterWith 0 = .ok (.aload_n 0, 1) := by decide +kernel
theorem dX3_porterWith_1 : decode cX3_porterWith 1 = .ok (.iload_n 1, 1) := by decide +kernel
theorem dX3_porterWith_2 : decode cX3_porterWith 2 = .ok (.invokevirtual 61, 3) := by decide +kernel
theorem dX3_porterWith_5 : decode cX3_porterWith 5 = .ok (.ifCond .eq 12, 3) := by decide +kernel
theorem dX3_porterWith_8 : decode cX3_porterWith 8 = .ok (.aload_n 0, 1) := by decide +kernel
theorem dX3_porterWith_9 : decode cX3_porterWith 9 = .ok (.getfield 15, 3) := by decide +kernel
theorem dX3_porterWith_12 : decode cX3_porterWith 12 = .ok (.iload_n 1, 1) := by decide +kernel
theorem dX3_porterWith_13 : decode cX3_porterWith 13 = .ok (.iaload, 1) := by decide +kernel
theorem dX3_porterWith_14 : decode cX3_porterWith 14 = .ok (.goto 4, 3) := by decide +kernel
theorem dX3_porterWith_17 : decode cX3_porterWith 17 = .ok (.iconst (-1), 1) := by decide +kernel
theorem dX3_porterWith_18 : decode cX3_porterWith 18 = .ok (.ireturn, 1) := by decide +kernel
set_option maxRecDepth 20000 in
theorem ggX3_cutCostOf_X3_hasKey : GoodIn wsX3_cutCostOf wsX3_hasKey := goodIn_r _ [6, 7, 8, 9, 10, 11, 12, 13, 14, 15, 16, 17, 18, 19, 20, 21] (by decide +kernel) (by decide +kernel)
set_option maxRecDepth 20000 in
theorem gX3_cutCostOf_X3_hasKey : GoodIn wsX3_cutCostOf (wsV RX3 61 RX3 yX3_hasKey wsX3_hasKey) := goodIn_app (goodIn_of _ (by decide +kernel)) ggX3_cutCostOf_X3_hasKey
theorem dX3_cutCostOf_0 : decode cX3_cutCostOf 0 = .ok (.aload_n 0, 1) := by decide +kernel
theorem dX3_cutCostOf_1 : decode cX3_cutCostOf 1 = .ok (.iload_n 1, 1) := by decide +kernel
theorem dX3_cutCostOf_2 : decode cX3_cutCostOf 2 = .ok (.invokevirtual 61, 3) := by decide +kernel
theorem dX3_cutCostOf_5 : decode cX3_cutCostOf 5 = .ok (.ifCond .eq 12, 3) := by decide +kernel
theorem dX3_cutCostOf_8 : decode cX3_cutCostOf 8 = .ok (.aload_n 0, 1) := by decide +kernel
theorem dX3_cutCostOf_9 : decode cX3_cutCostOf 9 = .ok (.getfield 21, 3) := by decide +kernel
theorem dX3_cutCostOf_12 : decode cX3_cutCostOf 12 = .ok (.iload_n 1, 1) := by decide +kernel
theorem dX3_cutCostOf_13 : decode cX3_cutCostOf 13 = .ok (.iaload, 1) := by decide +kernel
theorem dX3_cutCostOf_14 : decode cX3_cutCostOf 14 = .ok (.goto 4, 3) := by decide +kernel
theorem dX3_cutCostOf_17 : decode cX3_cutCostOf 17 = .ok (.iconst 0, 1) := by decide +kernel
theorem dX3_cutCostOf_18 : decode cX3_cutCostOf 18 = .ok (.ireturn, 1) := by decide +kernel
set_option maxRecDepth 20000 in
theorem ggX3_barsOf_X3_hasKey : GoodIn wsX3_barsOf wsX3_hasKey := goodIn_r _ [6, 7, 8, 9, 10, 11, 12, 13, 14, 15, 16, 17, 18, 19, 20, 21] (by decide +kernel) (by decide +kernel)
set_option maxRecDepth 20000 in
theorem gX3_barsOf_X3_hasKey : GoodIn wsX3_barsOf (wsV RX3 61 RX3 yX3_hasKey wsX3_hasKey) := goodIn_app (goodIn_of _ (by decide +kernel)) ggX3_barsOf_X3_hasKey
theorem dX3_barsOf_0 : decode cX3_barsOf 0 = .ok (.aload_n 0, 1) := by decide +kernel
theorem dX3_barsOf_1 : decode cX3_barsOf 1 = .ok (.iload_n 1, 1) := by decide +kernel
theorem dX3_barsOf_2 : decode cX3_barsOf 2 = .ok (.invokevirtual 61, 3) := by decide +kernel
theorem dX3_barsOf_5 : decode cX3_barsOf 5 = .ok (.ifCond .eq 12, 3) := by decide +kernel
theorem dX3_barsOf_8 : decode cX3_barsOf 8 = .ok (.aload_n 0, 1) := by decide +kernel
theorem dX3_barsOf_9 : decode cX3_barsOf 9 = .ok (.getfield 18, 3) := by decide +kernel
theorem dX3_barsOf_12 : decode cX3_barsOf 12 = .ok (.iload_n 1, 1) := by decide +kernel
theorem dX3_barsOf_13 : decode cX3_barsOf 13 = .ok (.iaload, 1) := by decide +kernel
theorem dX3_barsOf_14 : decode cX3_barsOf 14 = .ok (.goto 4, 3) := by decide +kernel
theorem dX3_barsOf_17 : decode cX3_barsOf 17 = .ok (.iconst 0, 1) := by decide +kernel
theorem dX3_barsOf_18 : decode cX3_barsOf 18 = .ok (.ireturn, 1) := by decide +kernel
set_option maxRecDepth 20000 in
theorem ggX3_lockWith_X3_hasKey : GoodIn wsX3_lockWith wsX3_hasKey := goodIn_r _ [6, 7, 8, 9, 10, 11, 12, 13, 14, 15, 16, 17, 18, 19, 20, 21] (by decide +kernel) (by decide +kernel)
set_option maxRecDepth 20000 in
theorem gX3_lockWith_X3_hasKey : GoodIn wsX3_lockWith (wsV RX3 61 RX3 yX3_hasKey wsX3_hasKey) := goodIn_app (goodIn_of _ (by decide +kernel)) ggX3_lockWith_X3_hasKey
theorem dX3_lockWith_0 : decode cX3_lockWith 0 = .ok (.aload_n 0, 1) := by decide +kernel
theorem dX3_lockWith_1 : decode cX3_lockWith 1 = .ok (.iload_n 1, 1) := by decide +kernel
theorem dX3_lockWith_2 : decode cX3_lockWith 2 = .ok (.invokevirtual 61, 3) := by decide +kernel
theorem dX3_lockWith_5 : decode cX3_lockWith 5 = .ok (.ifCond .eq 12, 3) := by decide +kernel
theorem dX3_lockWith_8 : decode cX3_lockWith 8 = .ok (.aload_n 0, 1) := by decide +kernel
theorem dX3_lockWith_9 : decode cX3_lockWith 9 = .ok (.getfield 24, 3) := by decide +kernel
theorem dX3_lockWith_12 : decode cX3_lockWith 12 = .ok (.iload_n 1, 1) := by decide +kernel
theorem dX3_lockWith_13 : decode cX3_lockWith 13 = .ok (.iaload, 1) := by decide +kernel
theorem dX3_lockWith_14 : decode cX3_lockWith 14 = .ok (.goto 4, 3) := by decide +kernel
theorem dX3_lockWith_17 : decode cX3_lockWith 17 = .ok (.iconst (-1), 1) := by decide +kernel
theorem dX3_lockWith_18 : decode cX3_lockWith 18 = .ok (.ireturn, 1) := by decide +kernel
set_option maxRecDepth 20000 in
theorem ggX3_pinsOf_X3_hasLock : GoodIn wsX3_pinsOf wsX3_hasLock := goodIn_r _ [6, 7, 8, 9, 10, 11, 12, 13, 14, 15, 16, 17, 18, 19, 20, 21] (by decide +kernel) (by decide +kernel)
set_option maxRecDepth 20000 in
theorem gX3_pinsOf_X3_hasLock : GoodIn wsX3_pinsOf (wsV RX3 65 RX3 yX3_hasLock wsX3_hasLock) := goodIn_app (goodIn_of _ (by decide +kernel)) ggX3_pinsOf_X3_hasLock
theorem dX3_pinsOf_0 : decode cX3_pinsOf 0 = .ok (.aload_n 0, 1) := by decide +kernel
theorem dX3_pinsOf_1 : decode cX3_pinsOf 1 = .ok (.iload_n 1, 1) := by decide +kernel
theorem dX3_pinsOf_2 : decode cX3_pinsOf 2 = .ok (.invokevirtual 65, 3) := by decide +kernel
theorem dX3_pinsOf_5 : decode cX3_pinsOf 5 = .ok (.ifCond .eq 12, 3) := by decide +kernel
theorem dX3_pinsOf_8 : decode cX3_pinsOf 8 = .ok (.aload_n 0, 1) := by decide +kernel
theorem dX3_pinsOf_9 : decode cX3_pinsOf 9 = .ok (.getfield 27, 3) := by decide +kernel
theorem dX3_pinsOf_12 : decode cX3_pinsOf 12 = .ok (.iload_n 1, 1) := by decide +kernel
theorem dX3_pinsOf_13 : decode cX3_pinsOf 13 = .ok (.iaload, 1) := by decide +kernel
theorem dX3_pinsOf_14 : decode cX3_pinsOf 14 = .ok (.goto 4, 3) := by decide +kernel
theorem dX3_pinsOf_17 : decode cX3_pinsOf 17 = .ok (.iconst 0, 1) := by decide +kernel
theorem dX3_pinsOf_18 : decode cX3_pinsOf 18 = .ok (.ireturn, 1) := by decide +kernel
set_option maxRecDepth 20000 in
theorem ggX3_keyIn_X3_hasLock : GoodIn wsX3_keyIn wsX3_hasLock := goodIn_r _ [6, 7, 8, 9, 10, 11, 12, 13, 14, 15, 16, 17, 18, 19, 20, 21] (by decide +kernel) (by decide +kernel)
set_option maxRecDepth 20000 in
theorem gX3_keyIn_X3_hasLock : GoodIn wsX3_keyIn (wsV RX3 65 RX3 yX3_hasLock wsX3_hasLock) := goodIn_app (goodIn_of _ (by decide +kernel)) ggX3_keyIn_X3_hasLock
theorem dX3_keyIn_0 : decode cX3_keyIn 0 = .ok (.aload_n 0, 1) := by decide +kernel
theorem dX3_keyIn_1 : decode cX3_keyIn 1 = .ok (.iload_n 1, 1) := by decide +kernel
theorem dX3_keyIn_2 : decode cX3_keyIn 2 = .ok (.invokevirtual 65, 3) := by decide +kernel
theorem dX3_keyIn_5 : decode cX3_keyIn 5 = .ok (.ifCond .eq 12, 3) := by decide +kernel
theorem dX3_keyIn_8 : decode cX3_keyIn 8 = .ok (.aload_n 0, 1) := by decide +kernel
theorem dX3_keyIn_9 : decode cX3_keyIn 9 = .ok (.getfield 30, 3) := by decide +kernel
theorem dX3_keyIn_12 : decode cX3_keyIn 12 = .ok (.iload_n 1, 1) := by decide +kernel
theorem dX3_keyIn_13 : decode cX3_keyIn 13 = .ok (.iaload, 1) := by decide +kernel
theorem dX3_keyIn_14 : decode cX3_keyIn 14 = .ok (.goto 4, 3) := by decide +kernel
theorem dX3_keyIn_17 : decode cX3_keyIn 17 = .ok (.iconst (-1), 1) := by decide +kernel
theorem dX3_keyIn_18 : decode cX3_keyIn 18 = .ok (.ireturn, 1) := by decide +kernel
set_option maxRecDepth 20000 in
theorem ggX3_putCountOf_X3_hasLock : GoodIn wsX3_putCountOf wsX3_hasLock := goodIn_r _ [6, 7, 8, 9, 10, 11, 12, 13, 14, 15, 16, 17, 18, 19, 20, 21] (by decide +kernel) (by decide +kernel)
set_option maxRecDepth 20000 in
theorem gX3_putCountOf_X3_hasLock : GoodIn wsX3_putCountOf (wsV RX3 65 RX3 yX3_hasLock wsX3_hasLock) := goodIn_app (goodIn_of _ (by decide +kernel)) ggX3_putCountOf_X3_hasLock
theorem dX3_putCountOf_0 : decode cX3_putCountOf 0 = .ok (.aload_n 0, 1) := by decide +kernel
theorem dX3_putCountOf_1 : decode cX3_putCountOf 1 = .ok (.iload_n 1, 1) := by decide +kernel
theorem dX3_putCountOf_2 : decode cX3_putCountOf 2 = .ok (.invokevirtual 65, 3) := by decide +kernel
theorem dX3_putCountOf_5 : decode cX3_putCountOf 5 = .ok (.ifCond .eq 12, 3) := by decide +kernel
theorem dX3_putCountOf_8 : decode cX3_putCountOf 8 = .ok (.aload_n 0, 1) := by decide +kernel
theorem dX3_putCountOf_9 : decode cX3_putCountOf 9 = .ok (.getfield 33, 3) := by decide +kernel
theorem dX3_putCountOf_12 : decode cX3_putCountOf 12 = .ok (.iload_n 1, 1) := by decide +kernel
theorem dX3_putCountOf_13 : decode cX3_putCountOf 13 = .ok (.iaload, 1) := by decide +kernel
theorem dX3_putCountOf_14 : decode cX3_putCountOf 14 = .ok (.goto 4, 3) := by decide +kernel
theorem dX3_putCountOf_17 : decode cX3_putCountOf 17 = .ok (.iconst 0, 1) := by decide +kernel
theorem dX3_putCountOf_18 : decode cX3_putCountOf 18 = .ok (.ireturn, 1) := by decide +kernel
set_option maxRecDepth 20000 in
theorem ggX3_hasBar_X3_hasLock : GoodIn wsX3_hasBar wsX3_hasLock := goodIn_r _ [5, 6, 17, 18, 19, 20, 21, 22, 23, 24, 25, 26, 27, 28, 29, 30] (by decide +kernel) (by decide +kernel)
set_option maxRecDepth 20000 in
theorem gX3_hasBar_X3_hasLock : GoodIn wsX3_hasBar (wsV RX3 65 RX3 yX3_hasLock wsX3_hasLock) := goodIn_app (goodIn_of _ (by decide +kernel)) ggX3_hasBar_X3_hasLock
set_option maxRecDepth 20000 in
theorem ggX3_hasBar_X3_barsOf : GoodIn wsX3_hasBar wsX3_barsOf := goodIn_ca (goodIn_r _ [10, 11, 12, 13, 14, 4, 15, 16, 17, 18, 19, 20, 21, 22, 23, 24, 25, 26, 27, 28, 29, 30] (by decide +kernel) (by decide +kernel)) (goodIn_sub (fun _ h => List.mem_cons_of_mem _ (List.mem_append_right _ h)) (by decide +kernel))
set_option maxRecDepth 20000 in
theorem gX3_hasBar_X3_barsOf : GoodIn wsX3_hasBar (wsV RX3 68 RX3 yX3_barsOf wsX3_barsOf) := goodIn_app (goodIn_of _ (by decide +kernel)) ggX3_hasBar_X3_barsOf
theorem dX3_hasBar_0 : decode cX3_hasBar 0 = .ok (.aload_n 0, 1) := by decide +kernel
theorem dX3_hasBar_1 : decode cX3_hasBar 1 = .ok (.iload_n 2, 1) := by decide +kernel
theorem dX3_hasBar_2 : decode cX3_hasBar 2 = .ok (.invokevirtual 65, 3) := by decide +kernel
theorem dX3_hasBar_5 : decode cX3_hasBar 5 = .ok (.ifCond .eq 19, 3) := by decide +kernel
theorem dX3_hasBar_8 : decode cX3_hasBar 8 = .ok (.aload_n 0, 1) := by decide +kernel
theorem dX3_hasBar_9 : decode cX3_hasBar 9 = .ok (.iload_n 1, 1) := by decide +kernel
theorem dX3_hasBar_10 : decode cX3_hasBar 10 = .ok (.invokevirtual 68, 3) := by decide +kernel
theorem dX3_hasBar_13 : decode cX3_hasBar 13 = .ok (.iconst 1, 1) := by decide +kernel
theorem dX3_hasBar_14 : decode cX3_hasBar 14 = .ok (.iload_n 2, 1) := by decide +kernel
theorem dX3_hasBar_15 : decode cX3_hasBar 15 = .ok (.ishl, 1) := by decide +kernel
theorem dX3_hasBar_16 : decode cX3_hasBar 16 = .ok (.iand, 1) := by decide +kernel
theorem dX3_hasBar_17 : decode cX3_hasBar 17 = .ok (.ifCond .eq 7, 3) := by decide +kernel
theorem dX3_hasBar_20 : decode cX3_hasBar 20 = .ok (.iconst 1, 1) := by decide +kernel
theorem dX3_hasBar_21 : decode cX3_hasBar 21 = .ok (.goto 4, 3) := by decide +kernel
theorem dX3_hasBar_24 : decode cX3_hasBar 24 = .ok (.iconst 0, 1) := by decide +kernel
theorem dX3_hasBar_25 : decode cX3_hasBar 25 = .ok (.ireturn, 1) := by decide +kernel
set_option maxRecDepth 20000 in
theorem ggX3_isFit_X3_hasKey : GoodIn wsX3_isFit wsX3_hasKey := goodIn_r _ [9, 10, 23, 24, 25, 26, 27, 28, 29, 30, 31, 32, 33, 34, 35, 36] (by decide +kernel) (by decide +kernel)
set_option maxRecDepth 20000 in
theorem gX3_isFit_X3_hasKey : GoodIn wsX3_isFit (wsV RX3 61 RX3 yX3_hasKey wsX3_hasKey) := goodIn_app (goodIn_of _ (by decide +kernel)) ggX3_isFit_X3_hasKey
set_option maxRecDepth 20000 in
theorem ggX3_isFit_X3_hasLock : GoodIn wsX3_isFit wsX3_hasLock := goodIn_r _ [14, 15, 23, 24, 25, 26, 27, 28, 29, 30, 31, 32, 33, 34, 35, 36] (by decide +kernel) (by decide +kernel)
set_option maxRecDepth 20000 in
theorem gX3_isFit_X3_hasLock : GoodIn wsX3_isFit (wsV RX3 65 RX3 yX3_hasLock wsX3_hasLock) := goodIn_app (goodIn_of _ (by decide +kernel)) ggX3_isFit_X3_hasLock
set_option maxRecDepth 20000 in
theorem ggX3_isFit_J6_bitCount_0f7a4 : GoodIn wsX3_isFit wsJ6_bitCount_0f7a4 := goodIn_r _ [19, 20, 21, 22] (by decide +kernel) (by decide +kernel)
set_option maxRecDepth 20000 in
theorem gX3_isFit_J6_bitCount_0f7a4 : GoodIn wsX3_isFit (va_wsS RX3 72 yJ6_bitCount_0f7a4 wsJ6_bitCount_0f7a4) := goodIn_app (goodIn_of _ (by decide +kernel)) ggX3_isFit_J6_bitCount_0f7a4
theorem dX3_isFit_0 : decode cX3_isFit 0 = .ok (.aload_n 0, 1) := by decide +kernel
theorem dX3_isFit_1 : decode cX3_isFit 1 = .ok (.iload_n 1, 1) := by decide +kernel
theorem dX3_isFit_2 : decode cX3_isFit 2 = .ok (.invokevirtual 61, 3) := by decide +kernel
theorem dX3_isFit_5 : decode cX3_isFit 5 = .ok (.ifCond .eq 11, 3) := by decide +kernel
theorem dX3_isFit_8 : decode cX3_isFit 8 = .ok (.aload_n 0, 1) := by decide +kernel
theorem dX3_isFit_9 : decode cX3_isFit 9 = .ok (.iload_n 2, 1) := by decide +kernel
theorem dX3_isFit_10 : decode cX3_isFit 10 = .ok (.invokevirtual 65, 3) := by decide +kernel
theorem dX3_isFit_13 : decode cX3_isFit 13 = .ok (.ifCond .ne 5, 3) := by decide +kernel
theorem dX3_isFit_16 : decode cX3_isFit 16 = .ok (.iconst 0, 1) := by decide +kernel
theorem dX3_isFit_17 : decode cX3_isFit 17 = .ok (.ireturn, 1) := by decide +kernel
theorem dX3_isFit_18 : decode cX3_isFit 18 = .ok (.aload_n 0, 1) := by decide +kernel
theorem dX3_isFit_19 : decode cX3_isFit 19 = .ok (.getfield 27, 3) := by decide +kernel
theorem dX3_isFit_22 : decode cX3_isFit 22 = .ok (.iload_n 2, 1) := by decide +kernel
theorem dX3_isFit_23 : decode cX3_isFit 23 = .ok (.iaload, 1) := by decide +kernel
theorem dX3_isFit_24 : decode cX3_isFit 24 = .ok (.aload_n 0, 1) := by decide +kernel
theorem dX3_isFit_25 : decode cX3_isFit 25 = .ok (.getfield 9, 3) := by decide +kernel
theorem dX3_isFit_28 : decode cX3_isFit 28 = .ok (.iload_n 1, 1) := by decide +kernel
theorem dX3_isFit_29 : decode cX3_isFit 29 = .ok (.iaload, 1) := by decide +kernel
theorem dX3_isFit_30 : decode cX3_isFit 30 = .ok (.iconst (-1), 1) := by decide +kernel
theorem dX3_isFit_31 : decode cX3_isFit 31 = .ok (.ixor, 1) := by decide +kernel
theorem dX3_isFit_32 : decode cX3_isFit 32 = .ok (.iand, 1) := by decide +kernel
theorem dX3_isFit_33 : decode cX3_isFit 33 = .ok (.ifCond .ne 7, 3) := by decide +kernel
theorem dX3_isFit_36 : decode cX3_isFit 36 = .ok (.iconst 1, 1) := by decide +kernel
theorem dX3_isFit_37 : decode cX3_isFit 37 = .ok (.goto 4, 3) := by decide +kernel
theorem dX3_isFit_40 : decode cX3_isFit 40 = .ok (.iconst 0, 1) := by decide +kernel
theorem dX3_isFit_41 : decode cX3_isFit 41 = .ok (.istore_n 3, 1) := by decide +kernel
theorem dX3_isFit_42 : decode cX3_isFit 42 = .ok (.aload_n 0, 1) := by decide +kernel
theorem dX3_isFit_43 : decode cX3_isFit 43 = .ok (.getfield 9, 3) := by decide +kernel
theorem dX3_isFit_46 : decode cX3_isFit 46 = .ok (.iload_n 1, 1) := by decide +kernel
theorem dX3_isFit_47 : decode cX3_isFit 47 = .ok (.iaload, 1) := by decide +kernel
theorem dX3_isFit_48 : decode cX3_isFit 48 = .ok (.invokestatic 72, 3) := by decide +kernel
theorem dX3_isFit_51 : decode cX3_isFit 51 = .ok (.aload_n 0, 1) := by decide +kernel
theorem dX3_isFit_52 : decode cX3_isFit 52 = .ok (.getfield 27, 3) := by decide +kernel
theorem dX3_isFit_55 : decode cX3_isFit 55 = .ok (.iload_n 2, 1) := by decide +kernel
theorem dX3_isFit_56 : decode cX3_isFit 56 = .ok (.iaload, 1) := by decide +kernel
theorem dX3_isFit_57 : decode cX3_isFit 57 = .ok (.invokestatic 72, 3) := by decide +kernel
theorem dX3_isFit_60 : decode cX3_isFit 60 = .ok (.aload_n 0, 1) := by decide +kernel
theorem dX3_isFit_61 : decode cX3_isFit 61 = .ok (.getfield 43, 3) := by decide +kernel
theorem dX3_isFit_64 : decode cX3_isFit 64 = .ok (.iadd, 1) := by decide +kernel
theorem dX3_isFit_65 : decode cX3_isFit 65 = .ok (.if_icmp .gt 7, 3) := by decide +kernel
theorem dX3_isFit_68 : decode cX3_isFit 68 = .ok (.iconst 1, 1) := by decide +kernel
theorem dX3_isFit_69 : decode cX3_isFit 69 = .ok (.goto 4, 3) := by decide +kernel
theorem dX3_isFit_72 : decode cX3_isFit 72 = .ok (.iconst 0, 1) := by decide +kernel
theorem dX3_isFit_73 : decode cX3_isFit 73 = .ok (.istore 4, 2) := by decide +kernel
theorem dX3_isFit_75 : decode cX3_isFit 75 = .ok (.iload_n 3, 1) := by decide +kernel
theorem dX3_isFit_76 : decode cX3_isFit 76 = .ok (.ifCond .eq 25, 3) := by decide +kernel
theorem dX3_isFit_79 : decode cX3_isFit 79 = .ok (.iload 4, 2) := by decide +kernel
theorem dX3_isFit_81 : decode cX3_isFit 81 = .ok (.ifCond .eq 20, 3) := by decide +kernel
theorem dX3_isFit_84 : decode cX3_isFit 84 = .ok (.aload_n 0, 1) := by decide +kernel
theorem dX3_isFit_85 : decode cX3_isFit 85 = .ok (.getfield 18, 3) := by decide +kernel
theorem dX3_isFit_88 : decode cX3_isFit 88 = .ok (.iload_n 1, 1) := by decide +kernel
theorem dX3_isFit_89 : decode cX3_isFit 89 = .ok (.iaload, 1) := by decide +kernel
theorem dX3_isFit_90 : decode cX3_isFit 90 = .ok (.iconst 1, 1) := by decide +kernel
theorem dX3_isFit_91 : decode cX3_isFit 91 = .ok (.iload_n 2, 1) := by decide +kernel
theorem dX3_isFit_92 : decode cX3_isFit 92 = .ok (.ishl, 1) := by decide +kernel
theorem dX3_isFit_93 : decode cX3_isFit 93 = .ok (.iand, 1) := by decide +kernel
theorem dX3_isFit_94 : decode cX3_isFit 94 = .ok (.ifCond .ne 7, 3) := by decide +kernel
theorem dX3_isFit_97 : decode cX3_isFit 97 = .ok (.iconst 1, 1) := by decide +kernel
theorem dX3_isFit_98 : decode cX3_isFit 98 = .ok (.goto 4, 3) := by decide +kernel
theorem dX3_isFit_101 : decode cX3_isFit 101 = .ok (.iconst 0, 1) := by decide +kernel
theorem dX3_isFit_102 : decode cX3_isFit 102 = .ok (.ireturn, 1) := by decide +kernel
set_option maxRecDepth 20000 in
theorem ggX3_countMissing_X3_pinsOf : GoodIn wsX3_countMissing wsX3_pinsOf := goodIn_ca (goodIn_r _ [5, 6, 7, 8, 9, 4, 10, 11, 29, 30, 31, 32, 33, 34, 35, 36, 37, 38, 39, 40, 41, 42] (by decide +kernel) (by decide +kernel)) (goodIn_sub (fun _ h => List.mem_cons_of_mem _ (List.mem_append_right _ h)) (by decide +kernel))
set_option maxRecDepth 20000 in
theorem gX3_countMissing_X3_pinsOf : GoodIn wsX3_countMissing (wsV RX3 77 RX3 yX3_pinsOf wsX3_pinsOf) := goodIn_app (goodIn_of _ (by decide +kernel)) ggX3_countMissing_X3_pinsOf
set_option maxRecDepth 20000 in
theorem ggX3_countMissing_X3_wardsOf : GoodIn wsX3_countMissing wsX3_wardsOf := goodIn_ca (goodIn_r _ [15, 16, 17, 18, 19, 4, 20, 21, 29, 30, 31, 32, 33, 34, 35, 36, 37, 38, 39, 40, 41, 42] (by decide +kernel) (by decide +kernel)) (goodIn_sub (fun _ h => List.mem_cons_of_mem _ (List.mem_append_right _ h)) (by decide +kernel))
set_option maxRecDepth 20000 in
theorem gX3_countMissing_X3_wardsOf : GoodIn wsX3_countMissing (wsV RX3 80 RX3 yX3_wardsOf wsX3_wardsOf) := goodIn_app (goodIn_of _ (by decide +kernel)) ggX3_countMissing_X3_wardsOf
set_option maxRecDepth 20000 in
theorem ggX3_countMissing_J6_bitCount_0f7a4 : GoodIn wsX3_countMissing wsJ6_bitCount_0f7a4 := goodIn_r _ [25, 26, 27, 28] (by decide +kernel) (by decide +kernel)
set_option maxRecDepth 20000 in
theorem gX3_countMissing_J6_bitCount_0f7a4 : GoodIn wsX3_countMissing (va_wsS RX3 72 yJ6_bitCount_0f7a4 wsJ6_bitCount_0f7a4) := goodIn_app (goodIn_of _ (by decide +kernel)) ggX3_countMissing_J6_bitCount_0f7a4
theorem dX3_countMissing_0 : decode cX3_countMissing 0 = .ok (.aload_n 0, 1) := by decide +kernel
theorem dX3_countMissing_1 : decode cX3_countMissing 1 = .ok (.iload_n 2, 1) := by decide +kernel
theorem dX3_countMissing_2 : decode cX3_countMissing 2 = .ok (.invokevirtual 77, 3) := by decide +kernel
theorem dX3_countMissing_5 : decode cX3_countMissing 5 = .ok (.aload_n 0, 1) := by decide +kernel
theorem dX3_countMissing_6 : decode cX3_countMissing 6 = .ok (.iload_n 1, 1) := by decide +kernel
theorem dX3_countMissing_7 : decode cX3_countMissing 7 = .ok (.invokevirtual 80, 3) := by decide +kernel
theorem dX3_countMissing_10 : decode cX3_countMissing 10 = .ok (.iconst (-1), 1) := by decide +kernel
theorem dX3_countMissing_11 : decode cX3_countMissing 11 = .ok (.ixor, 1) := by decide +kernel
theorem dX3_countMissing_12 : decode cX3_countMissing 12 = .ok (.iand, 1) := by decide +kernel
theorem dX3_countMissing_13 : decode cX3_countMissing 13 = .ok (.invokestatic 72, 3) := by decide +kernel
theorem dX3_countMissing_16 : decode cX3_countMissing 16 = .ok (.ireturn, 1) := by decide +kernel
set_option maxRecDepth 20000 in
theorem ggX3_costToFit_X3_countMissing : GoodIn wsX3_costToFit wsX3_countMissing := goodIn_ca (goodIn_r _ [10, 11, 12, 13, 9, 14, 15, 16, 17, 18, 19, 20, 21, 22, 23, 24, 25, 26, 27, 28, 29, 30, 31, 32, 33, 34, 35, 36, 37, 38, 39, 40, 41, 42, 43, 44, 45, 46, 47, 48, 49, 50, 51] (by decide +kernel) (by decide +kernel)) (goodIn_sub (fun _ h => List.mem_cons_of_mem _ (List.mem_append_right _ h)) (by decide +kernel))
set_option maxRecDepth 20000 in
theorem gX3_costToFit_X3_countMissing : GoodIn wsX3_costToFit (wsV RX3 83 RX3 yX3_countMissing wsX3_countMissing) := goodIn_app (goodIn_of _ (by decide +kernel)) ggX3_costToFit_X3_countMissing
set_option maxRecDepth 20000 in
theorem ggX3_costToFit_X3_wardsOf : GoodIn wsX3_costToFit wsX3_wardsOf := goodIn_ca (goodIn_r _ [24, 25, 26, 27, 28, 9, 29, 30, 38, 39, 40, 41, 42, 43, 44, 45, 46, 47, 48, 49, 50, 51] (by decide +kernel) (by decide +kernel)) (goodIn_sub (fun _ h => List.mem_cons_of_mem _ (List.mem_append_right _ h)) (by decide +kernel))
set_option maxRecDepth 20000 in
theorem gX3_costToFit_X3_wardsOf : GoodIn wsX3_costToFit (wsV RX3 80 RX3 yX3_wardsOf wsX3_wardsOf) := goodIn_app (goodIn_of _ (by decide +kernel)) ggX3_costToFit_X3_wardsOf
set_option maxRecDepth 20000 in
theorem ggX3_costToFit_J6_bitCount_0f7a4 : GoodIn wsX3_costToFit wsJ6_bitCount_0f7a4 := goodIn_r _ [34, 35, 36, 37] (by decide +kernel) (by decide +kernel)
set_option maxRecDepth 20000 in
theorem gX3_costToFit_J6_bitCount_0f7a4 : GoodIn wsX3_costToFit (va_wsS RX3 72 yJ6_bitCount_0f7a4 wsJ6_bitCount_0f7a4) := goodIn_app (goodIn_of _ (by decide +kernel)) ggX3_costToFit_J6_bitCount_0f7a4
set_option maxRecDepth 20000 in
theorem ggX3_costToFit_X3_pinsOf : GoodIn wsX3_costToFit wsX3_pinsOf := goodIn_ca (goodIn_r _ [14, 15, 16, 17, 18, 9, 19, 20, 38, 39, 40, 41, 42, 43, 44, 45, 46, 47, 48, 49, 50, 51] (by decide +kernel) (by decide +kernel)) (goodIn_sub (fun _ h => List.mem_cons_of_mem _ (List.mem_append_right _ h)) (by decide +kernel))
set_option maxRecDepth 20000 in
theorem gX3_costToFit_X3_pinsOf : GoodIn wsX3_costToFit (wsV RX3 77 RX3 yX3_pinsOf wsX3_pinsOf) := goodIn_app (goodIn_of _ (by decide +kernel)) ggX3_costToFit_X3_pinsOf
theorem dX3_costToFit_0 : decode cX3_costToFit 0 = .ok (.aload_n 0, 1) := by decide +kernel
theorem dX3_costToFit_1 : decode cX3_costToFit 1 = .ok (.iload_n 1, 1) := by decide +kernel
theorem dX3_costToFit_2 : decode cX3_costToFit 2 = .ok (.iload_n 2, 1) := by decide +kernel
theorem dX3_costToFit_3 : decode cX3_costToFit 3 = .ok (.invokevirtual 83, 3) := by decide +kernel
theorem dX3_costToFit_6 : decode cX3_costToFit 6 = .ok (.istore_n 3, 1) := by decide +kernel
theorem dX3_costToFit_7 : decode cX3_costToFit 7 = .ok (.aload_n 0, 1) := by decide +kernel
theorem dX3_costToFit_8 : decode cX3_costToFit 8 = .ok (.iload_n 1, 1) := by decide +kernel
theorem dX3_costToFit_9 : decode cX3_costToFit 9 = .ok (.invokevirtual 80, 3) := by decide +kernel
theorem dX3_costToFit_12 : decode cX3_costToFit 12 = .ok (.invokestatic 72, 3) := by decide +kernel
theorem dX3_costToFit_15 : decode cX3_costToFit 15 = .ok (.iload_n 3, 1) := by decide +kernel
theorem dX3_costToFit_16 : decode cX3_costToFit 16 = .ok (.iadd, 1) := by decide +kernel
theorem dX3_costToFit_17 : decode cX3_costToFit 17 = .ok (.istore 4, 2) := by decide +kernel
theorem dX3_costToFit_19 : decode cX3_costToFit 19 = .ok (.aload_n 0, 1) := by decide +kernel
theorem dX3_costToFit_20 : decode cX3_costToFit 20 = .ok (.iload_n 2, 1) := by decide +kernel
theorem dX3_costToFit_21 : decode cX3_costToFit 21 = .ok (.invokevirtual 77, 3) := by decide +kernel
theorem dX3_costToFit_24 : decode cX3_costToFit 24 = .ok (.invokestatic 72, 3) := by decide +kernel
theorem dX3_costToFit_27 : decode cX3_costToFit 27 = .ok (.aload_n 0, 1) := by decide +kernel
theorem dX3_costToFit_28 : decode cX3_costToFit 28 = .ok (.getfield 43, 3) := by decide +kernel
theorem dX3_costToFit_31 : decode cX3_costToFit 31 = .ok (.iadd, 1) := by decide +kernel
theorem dX3_costToFit_32 : decode cX3_costToFit 32 = .ok (.istore 5, 2) := by decide +kernel
theorem dX3_costToFit_34 : decode cX3_costToFit 34 = .ok (.iload_n 3, 1) := by decide +kernel
theorem dX3_costToFit_35 : decode cX3_costToFit 35 = .ok (.iconst 0, 1) := by decide +kernel
theorem dX3_costToFit_36 : decode cX3_costToFit 36 = .ok (.iload 4, 2) := by decide +kernel
theorem dX3_costToFit_38 : decode cX3_costToFit 38 = .ok (.iload 5, 2) := by decide +kernel
theorem dX3_costToFit_40 : decode cX3_costToFit 40 = .ok (.isub, 1) := by decide +kernel
theorem dX3_costToFit_41 : decode cX3_costToFit 41 = .ok (.invokestatic 87, 3) := by decide +kernel
theorem dX3_costToFit_44 : decode cX3_costToFit 44 = .ok (.iadd, 1) := by decide +kernel
theorem dX3_costToFit_45 : decode cX3_costToFit 45 = .ok (.ireturn, 1) := by decide +kernel
set_option maxRecDepth 20000 in
theorem ggX3_addKey_X7_isSet : GoodIn wsX3_addKey wsX7_isSet := goodIn_r _ [9] (by decide +kernel) (by decide +kernel)
set_option maxRecDepth 20000 in
theorem gX3_addKey_X7_isSet_n92 : GoodIn wsX3_addKey (wsX7_isSet) := ggX3_addKey_X7_isSet
set_option maxRecDepth 20000 in
theorem ggX3_addKey_X7_isPorter : GoodIn wsX3_addKey wsX7_isPorter := goodIn_r _ [11] (by decide +kernel) (by decide +kernel)
set_option maxRecDepth 20000 in
theorem gX3_addKey_X7_isPorter_n95 : GoodIn wsX3_addKey (wsX7_isPorter) := ggX3_addKey_X7_isPorter
set_option maxRecDepth 20000 in
theorem ggX3_addKey_X5_refuse : GoodIn wsX3_addKey wsX5_refuse := goodIn_r _ [16, 17, 18, 33, 34, 35] (by decide +kernel) (by decide +kernel)
set_option maxRecDepth 20000 in
theorem gX3_addKey_X5_refuse : GoodIn wsX3_addKey (wsV RX3 98 RX5 yX5_refuse wsX5_refuse) := goodIn_app (goodIn_of _ (by decide +kernel)) ggX3_addKey_X5_refuse
theorem dX3_addKey_0 : decode cX3_addKey 0 = .ok (.iload_n 1, 1) := by decide +kernel
theorem dX3_addKey_1 : decode cX3_addKey 1 = .ok (.invokestatic 92, 3) := by decide +kernel
theorem dX3_addKey_4 : decode cX3_addKey 4 = .ok (.ifCond .eq 10, 3) := by decide +kernel
theorem dX3_addKey_7 : decode cX3_addKey 7 = .ok (.iload_n 2, 1) := by decide +kernel
theorem dX3_addKey_8 : decode cX3_addKey 8 = .ok (.invokestatic 95, 3) := by decide +kernel
theorem dX3_addKey_11 : decode cX3_addKey 11 = .ok (.ifCond .ne 10, 3) := by decide +kernel
theorem dX3_addKey_14 : decode cX3_addKey 14 = .ok (.aload_n 3, 1) := by decide +kernel
theorem dX3_addKey_15 : decode cX3_addKey 15 = .ok (.iconst 1, 1) := by decide +kernel
theorem dX3_addKey_16 : decode cX3_addKey 16 = .ok (.iconst 0, 1) := by decide +kernel
theorem dX3_addKey_17 : decode cX3_addKey 17 = .ok (.invokevirtual 98, 3) := by decide +kernel
theorem dX3_addKey_20 : decode cX3_addKey 20 = .ok (.ireturn, 1) := by decide +kernel
theorem dX3_addKey_21 : decode cX3_addKey 21 = .ok (.aload_n 0, 1) := by decide +kernel
theorem dX3_addKey_22 : decode cX3_addKey 22 = .ok (.getfield 36, 3) := by decide +kernel
theorem dX3_addKey_25 : decode cX3_addKey 25 = .ok (.ifCond .lt 12, 3) := by decide +kernel
theorem dX3_addKey_28 : decode cX3_addKey 28 = .ok (.aload_n 0, 1) := by decide +kernel
theorem dX3_addKey_29 : decode cX3_addKey 29 = .ok (.getfield 36, 3) := by decide +kernel
theorem dX3_addKey_32 : decode cX3_addKey 32 = .ok (.bipush 10, 2) := by decide +kernel
theorem dX3_addKey_34 : decode cX3_addKey 34 = .ok (.if_icmp .lt 11, 3) := by decide +kernel
theorem dX3_addKey_37 : decode cX3_addKey 37 = .ok (.aload_n 3, 1) := by decide +kernel
theorem dX3_addKey_38 : decode cX3_addKey 38 = .ok (.iconst 2, 1) := by decide +kernel
theorem dX3_addKey_39 : decode cX3_addKey 39 = .ok (.bipush 10, 2) := by decide +kernel
theorem dX3_addKey_41 : decode cX3_addKey 41 = .ok (.invokevirtual 98, 3) := by decide +kernel
theorem dX3_addKey_44 : decode cX3_addKey 44 = .ok (.ireturn, 1) := by decide +kernel
theorem dX3_addKey_45 : decode cX3_addKey 45 = .ok (.aload_n 0, 1) := by decide +kernel
theorem dX3_addKey_46 : decode cX3_addKey 46 = .ok (.getfield 36, 3) := by decide +kernel
theorem dX3_addKey_49 : decode cX3_addKey 49 = .ok (.istore 4, 2) := by decide +kernel
theorem dX3_addKey_51 : decode cX3_addKey 51 = .ok (.aload_n 0, 1) := by decide +kernel
theorem dX3_addKey_52 : decode cX3_addKey 52 = .ok (.getfield 9, 3) := by decide +kernel
theorem dX3_addKey_55 : decode cX3_addKey 55 = .ok (.iload 4, 2) := by decide +kernel
theorem dX3_addKey_57 : decode cX3_addKey 57 = .ok (.iload_n 1, 1) := by decide +kernel
theorem dX3_addKey_58 : decode cX3_addKey 58 = .ok (.iastore, 1) := by decide +kernel
theorem dX3_addKey_59 : decode cX3_addKey 59 = .ok (.aload_n 0, 1) := by decide +kernel
theorem dX3_addKey_60 : decode cX3_addKey 60 = .ok (.getfield 15, 3) := by decide +kernel
theorem dX3_addKey_63 : decode cX3_addKey 63 = .ok (.iload 4, 2) := by decide +kernel
theorem dX3_addKey_65 : decode cX3_addKey 65 = .ok (.iload_n 2, 1) := by decide +kernel
theorem dX3_addKey_66 : decode cX3_addKey 66 = .ok (.iastore, 1) := by decide +kernel
theorem dX3_addKey_67 : decode cX3_addKey 67 = .ok (.aload_n 0, 1) := by decide +kernel
theorem dX3_addKey_68 : decode cX3_addKey 68 = .ok (.getfield 18, 3) := by decide +kernel
theorem dX3_addKey_71 : decode cX3_addKey 71 = .ok (.iload 4, 2) := by decide +kernel
theorem dX3_addKey_73 : decode cX3_addKey 73 = .ok (.iconst 0, 1) := by decide +kernel
theorem dX3_addKey_74 : decode cX3_addKey 74 = .ok (.iastore, 1) := by decide +kernel
theorem dX3_addKey_75 : decode cX3_addKey 75 = .ok (.aload_n 0, 1) := by decide +kernel
theorem dX3_addKey_76 : decode cX3_addKey 76 = .ok (.getfield 21, 3) := by decide +kernel
theorem dX3_addKey_79 : decode cX3_addKey 79 = .ok (.iload 4, 2) := by decide +kernel
theorem dX3_addKey_81 : decode cX3_addKey 81 = .ok (.iconst 0, 1) := by decide +kernel
theorem dX3_addKey_82 : decode cX3_addKey 82 = .ok (.iastore, 1) := by decide +kernel
theorem dX3_addKey_83 : decode cX3_addKey 83 = .ok (.aload_n 0, 1) := by decide +kernel
theorem dX3_addKey_84 : decode cX3_addKey 84 = .ok (.getfield 24, 3) := by decide +kernel
theorem dX3_addKey_87 : decode cX3_addKey 87 = .ok (.iload 4, 2) := by decide +kernel
theorem dX3_addKey_89 : decode cX3_addKey 89 = .ok (.iconst (-1), 1) := by decide +kernel
theorem dX3_addKey_90 : decode cX3_addKey 90 = .ok (.iastore, 1) := by decide +kernel
theorem dX3_addKey_91 : decode cX3_addKey 91 = .ok (.aload_n 0, 1) := by decide +kernel
theorem dX3_addKey_92 : decode cX3_addKey 92 = .ok (.dup, 1) := by decide +kernel
theorem dX3_addKey_93 : decode cX3_addKey 93 = .ok (.getfield 36, 3) := by decide +kernel
theorem dX3_addKey_96 : decode cX3_addKey 96 = .ok (.iconst 1, 1) := by decide +kernel
theorem dX3_addKey_97 : decode cX3_addKey 97 = .ok (.iadd, 1) := by decide +kernel
theorem dX3_addKey_98 : decode cX3_addKey 98 = .ok (.putfield 36, 3) := by decide +kernel
theorem dX3_addKey_101 : decode cX3_addKey 101 = .ok (.iload 4, 2) := by decide +kernel
theorem dX3_addKey_103 : decode cX3_addKey 103 = .ok (.ireturn, 1) := by decide +kernel
set_option maxRecDepth 20000 in
theorem ggX3_addLock_X7_isSet : GoodIn wsX3_addLock wsX7_isSet := goodIn_r _ [7] (by decide +kernel) (by decide +kernel)
set_option maxRecDepth 20000 in
theorem gX3_addLock_X7_isSet_n92 : GoodIn wsX3_addLock (wsX7_isSet) := ggX3_addLock_X7_isSet
set_option maxRecDepth 20000 in
theorem ggX3_addLock_X5_refuse : GoodIn wsX3_addLock wsX5_refuse := goodIn_r _ [12, 13, 14, 29, 30, 31] (by decide +kernel) (by decide +kernel)
set_option maxRecDepth 20000 in
theorem gX3_addLock_X5_refuse : GoodIn wsX3_addLock (wsV RX3 98 RX5 yX5_refuse wsX5_refuse) := goodIn_app (goodIn_of _ (by decide +kernel)) ggX3_addLock_X5_refuse
theorem dX3_addLock_0 : decode cX3_addLock 0 = .ok (.iload_n 1, 1) := by decide +kernel
theorem dX3_addLock_1 : decode cX3_addLock 1 = .ok (.invokestatic 92, 3) := by decide +kernel
theorem dX3_addLock_4 : decode cX3_addLock 4 = .ok (.ifCond .ne 10, 3) := by decide +kernel
theorem dX3_addLock_7 : decode cX3_addLock 7 = .ok (.aload_n 2, 1) := by decide +kernel
theorem dX3_addLock_8 : decode cX3_addLock 8 = .ok (.iconst 1, 1) := by decide +kernel
theorem dX3_addLock_9 : decode cX3_addLock 9 = .ok (.iconst 0, 1) := by decide +kernel
theorem dX3_addLock_10 : decode cX3_addLock 10 = .ok (.invokevirtual 98, 3) := by decide +kernel
theorem dX3_addLock_13 : decode cX3_addLock 13 = .ok (.ireturn, 1) := by decide +kernel
theorem dX3_addLock_14 : decode cX3_addLock 14 = .ok (.aload_n 0, 1) := by decide +kernel
theorem dX3_addLock_15 : decode cX3_addLock 15 = .ok (.getfield 40, 3) := by decide +kernel
theorem dX3_addLock_18 : decode cX3_addLock 18 = .ok (.ifCond .lt 12, 3) := by decide +kernel
theorem dX3_addLock_21 : decode cX3_addLock 21 = .ok (.aload_n 0, 1) := by decide +kernel
theorem dX3_addLock_22 : decode cX3_addLock 22 = .ok (.getfield 40, 3) := by decide +kernel
theorem dX3_addLock_25 : decode cX3_addLock 25 = .ok (.bipush 10, 2) := by decide +kernel
theorem dX3_addLock_27 : decode cX3_addLock 27 = .ok (.if_icmp .lt 11, 3) := by decide +kernel
theorem dX3_addLock_30 : decode cX3_addLock 30 = .ok (.aload_n 2, 1) := by decide +kernel
theorem dX3_addLock_31 : decode cX3_addLock 31 = .ok (.iconst 2, 1) := by decide +kernel
theorem dX3_addLock_32 : decode cX3_addLock 32 = .ok (.bipush 10, 2) := by decide +kernel
theorem dX3_addLock_34 : decode cX3_addLock 34 = .ok (.invokevirtual 98, 3) := by decide +kernel
theorem dX3_addLock_37 : decode cX3_addLock 37 = .ok (.ireturn, 1) := by decide +kernel
theorem dX3_addLock_38 : decode cX3_addLock 38 = .ok (.aload_n 0, 1) := by decide +kernel
theorem dX3_addLock_39 : decode cX3_addLock 39 = .ok (.getfield 40, 3) := by decide +kernel
theorem dX3_addLock_42 : decode cX3_addLock 42 = .ok (.istore_n 3, 1) := by decide +kernel
theorem dX3_addLock_43 : decode cX3_addLock 43 = .ok (.aload_n 0, 1) := by decide +kernel
theorem dX3_addLock_44 : decode cX3_addLock 44 = .ok (.getfield 27, 3) := by decide +kernel
theorem dX3_addLock_47 : decode cX3_addLock 47 = .ok (.iload_n 3, 1) := by decide +kernel
theorem dX3_addLock_48 : decode cX3_addLock 48 = .ok (.iload_n 1, 1) := by decide +kernel
theorem dX3_addLock_49 : decode cX3_addLock 49 = .ok (.iastore, 1) := by decide +kernel
theorem dX3_addLock_50 : decode cX3_addLock 50 = .ok (.aload_n 0, 1) := by decide +kernel
theorem dX3_addLock_51 : decode cX3_addLock 51 = .ok (.getfield 30, 3) := by decide +kernel
theorem dX3_addLock_54 : decode cX3_addLock 54 = .ok (.iload_n 3, 1) := by decide +kernel
theorem dX3_addLock_55 : decode cX3_addLock 55 = .ok (.iconst (-1), 1) := by decide +kernel
theorem dX3_addLock_56 : decode cX3_addLock 56 = .ok (.iastore, 1) := by decide +kernel
theorem dX3_addLock_57 : decode cX3_addLock 57 = .ok (.aload_n 0, 1) := by decide +kernel
theorem dX3_addLock_58 : decode cX3_addLock 58 = .ok (.getfield 33, 3) := by decide +kernel
theorem dX3_addLock_61 : decode cX3_addLock 61 = .ok (.iload_n 3, 1) := by decide +kernel
theorem dX3_addLock_62 : decode cX3_addLock 62 = .ok (.iconst 0, 1) := by decide +kernel
theorem dX3_addLock_63 : decode cX3_addLock 63 = .ok (.iastore, 1) := by decide +kernel
theorem dX3_addLock_64 : decode cX3_addLock 64 = .ok (.aload_n 0, 1) := by decide +kernel
theorem dX3_addLock_65 : decode cX3_addLock 65 = .ok (.dup, 1) := by decide +kernel
theorem dX3_addLock_66 : decode cX3_addLock 66 = .ok (.getfield 40, 3) := by decide +kernel
theorem dX3_addLock_69 : decode cX3_addLock 69 = .ok (.iconst 1, 1) := by decide +kernel
theorem dX3_addLock_70 : decode cX3_addLock 70 = .ok (.iadd, 1) := by decide +kernel
theorem dX3_addLock_71 : decode cX3_addLock 71 = .ok (.putfield 40, 3) := by decide +kernel
theorem dX3_addLock_74 : decode cX3_addLock 74 = .ok (.iload_n 3, 1) := by decide +kernel
theorem dX3_addLock_75 : decode cX3_addLock 75 = .ok (.ireturn, 1) := by decide +kernel
set_option maxRecDepth 20000 in
theorem ggX3_cutKey_X3_hasKey : GoodIn wsX3_cutKey wsX3_hasKey := goodIn_r _ [7, 8, 49, 50, 51, 52, 53, 54, 55, 56, 57, 58, 59, 60, 61, 62] (by decide +kernel) (by decide +kernel)
set_option maxRecDepth 20000 in
theorem gX3_cutKey_X3_hasKey : GoodIn wsX3_cutKey (wsV RX3 61 RX3 yX3_hasKey wsX3_hasKey) := goodIn_app (goodIn_of _ (by decide +kernel)) ggX3_cutKey_X3_hasKey
set_option maxRecDepth 20000 in
theorem ggX3_cutKey_X5_refuse : GoodIn wsX3_cutKey wsX5_refuse := goodIn_r _ [13, 14, 15, 63, 64, 65] (by decide +kernel) (by decide +kernel)
set_option maxRecDepth 20000 in
theorem gX3_cutKey_X5_refuse : GoodIn wsX3_cutKey (wsV RX3 98 RX5 yX5_refuse wsX5_refuse) := goodIn_app (goodIn_of _ (by decide +kernel)) ggX3_cutKey_X5_refuse
set_option maxRecDepth 20000 in
theorem ggX3_cutKey_X7_isSet : GoodIn wsX3_cutKey wsX7_isSet := goodIn_r _ [18] (by decide +kernel) (by decide +kernel)
set_option maxRecDepth 20000 in
theorem gX3_cutKey_X7_isSet_n92 : GoodIn wsX3_cutKey (wsX7_isSet) := ggX3_cutKey_X7_isSet
set_option maxRecDepth 20000 in
theorem ggX3_cutKey_J6_bitCount_0f7a4 : GoodIn wsX3_cutKey wsJ6_bitCount_0f7a4 := goodIn_r _ [22, 23, 24, 25] (by decide +kernel) (by decide +kernel)
set_option maxRecDepth 20000 in
theorem gX3_cutKey_J6_bitCount_0f7a4 : GoodIn wsX3_cutKey (va_wsS RX3 72 yJ6_bitCount_0f7a4 wsJ6_bitCount_0f7a4) := goodIn_app (goodIn_of _ (by decide +kernel)) ggX3_cutKey_J6_bitCount_0f7a4
set_option maxRecDepth 20000 in
theorem ggX3_cutKey_X3_dropUnfit : GoodIn wsX3_cutKey wsX3_dropUnfit := goodIn_ca (goodIn_r _ [29, 8, 30, 31, 32, 33, 34, 35, 6, 36, 3, 4, 5, 7, 37, 38, 39, 40, 41, 42, 43, 44, 45, 46, 1, 47, 48, 19, 20, 21, 22, 23, 24, 25, 49, 50, 51, 52, 53, 54, 55, 56, 57, 58, 59, 60, 61, 62] (by decide +kernel) (by decide +kernel)) (goodIn_sub (fun _ h => List.mem_cons_of_mem _ (List.mem_append_right _ h)) (by decide +kernel))
set_option maxRecDepth 20000 in
theorem gX3_cutKey_X3_dropUnfit : GoodIn wsX3_cutKey (wsV RX3 103 RX3 yX3_dropUnfit wsX3_dropUnfit) := goodIn_app (goodIn_of _ (by decide +kernel)) ggX3_cutKey_X3_dropUnfit
theorem dX3_cutKey_0 : decode cX3_cutKey 0 = .ok (.aload_n 0, 1) := by decide +kernel
theorem dX3_cutKey_1 : decode cX3_cutKey 1 = .ok (.iload_n 1, 1) := by decide +kernel
theorem dX3_cutKey_2 : decode cX3_cutKey 2 = .ok (.invokevirtual 61, 3) := by decide +kernel
theorem dX3_cutKey_5 : decode cX3_cutKey 5 = .ok (.ifCond .ne 10, 3) := by decide +kernel
theorem dX3_cutKey_8 : decode cX3_cutKey 8 = .ok (.aload_n 3, 1) := by decide +kernel
theorem dX3_cutKey_9 : decode cX3_cutKey 9 = .ok (.iconst 3, 1) := by decide +kernel
theorem dX3_cutKey_10 : decode cX3_cutKey 10 = .ok (.iload_n 1, 1) := by decide +kernel
theorem dX3_cutKey_11 : decode cX3_cutKey 11 = .ok (.invokevirtual 98, 3) := by decide +kernel
theorem dX3_cutKey_14 : decode cX3_cutKey 14 = .ok (.ireturn, 1) := by decide +kernel
theorem dX3_cutKey_15 : decode cX3_cutKey 15 = .ok (.iload_n 2, 1) := by decide +kernel
theorem dX3_cutKey_16 : decode cX3_cutKey 16 = .ok (.invokestatic 92, 3) := by decide +kernel
theorem dX3_cutKey_19 : decode cX3_cutKey 19 = .ok (.ifCond .ne 10, 3) := by decide +kernel
theorem dX3_cutKey_22 : decode cX3_cutKey 22 = .ok (.aload_n 3, 1) := by decide +kernel
theorem dX3_cutKey_23 : decode cX3_cutKey 23 = .ok (.iconst 1, 1) := by decide +kernel
theorem dX3_cutKey_24 : decode cX3_cutKey 24 = .ok (.iconst 0, 1) := by decide +kernel
theorem dX3_cutKey_25 : decode cX3_cutKey 25 = .ok (.invokevirtual 98, 3) := by decide +kernel
theorem dX3_cutKey_28 : decode cX3_cutKey 28 = .ok (.ireturn, 1) := by decide +kernel
theorem dX3_cutKey_29 : decode cX3_cutKey 29 = .ok (.aload_n 0, 1) := by decide +kernel
theorem dX3_cutKey_30 : decode cX3_cutKey 30 = .ok (.getfield 9, 3) := by decide +kernel
theorem dX3_cutKey_33 : decode cX3_cutKey 33 = .ok (.iload_n 1, 1) := by decide +kernel
theorem dX3_cutKey_34 : decode cX3_cutKey 34 = .ok (.iaload, 1) := by decide +kernel
theorem dX3_cutKey_35 : decode cX3_cutKey 35 = .ok (.iload_n 2, 1) := by decide +kernel
theorem dX3_cutKey_36 : decode cX3_cutKey 36 = .ok (.if_icmp .ne 10, 3) := by decide +kernel
theorem dX3_cutKey_39 : decode cX3_cutKey 39 = .ok (.aload_n 3, 1) := by decide +kernel
theorem dX3_cutKey_40 : decode cX3_cutKey 40 = .ok (.iconst 5, 1) := by decide +kernel
theorem dX3_cutKey_41 : decode cX3_cutKey 41 = .ok (.iconst 0, 1) := by decide +kernel
theorem dX3_cutKey_42 : decode cX3_cutKey 42 = .ok (.invokevirtual 98, 3) := by decide +kernel
theorem dX3_cutKey_45 : decode cX3_cutKey 45 = .ok (.ireturn, 1) := by decide +kernel
theorem dX3_cutKey_46 : decode cX3_cutKey 46 = .ok (.aload_n 0, 1) := by decide +kernel
theorem dX3_cutKey_47 : decode cX3_cutKey 47 = .ok (.getfield 9, 3) := by decide +kernel
theorem dX3_cutKey_50 : decode cX3_cutKey 50 = .ok (.iload_n 1, 1) := by decide +kernel
theorem dX3_cutKey_51 : decode cX3_cutKey 51 = .ok (.iaload, 1) := by decide +kernel
theorem dX3_cutKey_52 : decode cX3_cutKey 52 = .ok (.iload_n 2, 1) := by decide +kernel
theorem dX3_cutKey_53 : decode cX3_cutKey 53 = .ok (.ixor, 1) := by decide +kernel
theorem dX3_cutKey_54 : decode cX3_cutKey 54 = .ok (.invokestatic 72, 3) := by decide +kernel
theorem dX3_cutKey_57 : decode cX3_cutKey 57 = .ok (.istore 4, 2) := by decide +kernel
theorem dX3_cutKey_59 : decode cX3_cutKey 59 = .ok (.aload_n 0, 1) := by decide +kernel
theorem dX3_cutKey_60 : decode cX3_cutKey 60 = .ok (.getfield 9, 3) := by decide +kernel
theorem dX3_cutKey_63 : decode cX3_cutKey 63 = .ok (.iload_n 1, 1) := by decide +kernel
theorem dX3_cutKey_64 : decode cX3_cutKey 64 = .ok (.iload_n 2, 1) := by decide +kernel
theorem dX3_cutKey_65 : decode cX3_cutKey 65 = .ok (.iastore, 1) := by decide +kernel
theorem dX3_cutKey_66 : decode cX3_cutKey 66 = .ok (.aload_n 0, 1) := by decide +kernel
theorem dX3_cutKey_67 : decode cX3_cutKey 67 = .ok (.getfield 21, 3) := by decide +kernel
theorem dX3_cutKey_70 : decode cX3_cutKey 70 = .ok (.iload_n 1, 1) := by decide +kernel
theorem dX3_cutKey_71 : decode cX3_cutKey 71 = .ok (.dup2, 1) := by decide +kernel
theorem dX3_cutKey_72 : decode cX3_cutKey 72 = .ok (.iaload, 1) := by decide +kernel
theorem dX3_cutKey_73 : decode cX3_cutKey 73 = .ok (.iload 4, 2) := by decide +kernel
theorem dX3_cutKey_75 : decode cX3_cutKey 75 = .ok (.iadd, 1) := by decide +kernel
theorem dX3_cutKey_76 : decode cX3_cutKey 76 = .ok (.iastore, 1) := by decide +kernel
theorem dX3_cutKey_77 : decode cX3_cutKey 77 = .ok (.aload_n 0, 1) := by decide +kernel
theorem dX3_cutKey_78 : decode cX3_cutKey 78 = .ok (.invokevirtual 103, 3) := by decide +kernel
theorem dX3_cutKey_81 : decode cX3_cutKey 81 = .ok (.pop, 1) := by decide +kernel
theorem dX3_cutKey_82 : decode cX3_cutKey 82 = .ok (.iload 4, 2) := by decide +kernel
theorem dX3_cutKey_84 : decode cX3_cutKey 84 = .ok (.ireturn, 1) := by decide +kernel
set_option maxRecDepth 20000 in
theorem ggX3_setBar_X3_hasKey : GoodIn wsX3_setBar wsX3_hasKey := goodIn_r _ [6, 7, 57, 58, 59, 60, 61, 62, 63, 64, 65, 66, 67, 68, 69, 70] (by decide +kernel) (by decide +kernel)
set_option maxRecDepth 20000 in
theorem gX3_setBar_X3_hasKey : GoodIn wsX3_setBar (wsV RX3 61 RX3 yX3_hasKey wsX3_hasKey) := goodIn_app (goodIn_of _ (by decide +kernel)) ggX3_setBar_X3_hasKey
set_option maxRecDepth 20000 in
theorem ggX3_setBar_X5_refuse : GoodIn wsX3_setBar wsX5_refuse := goodIn_r _ [12, 13, 14, 71, 72, 73] (by decide +kernel) (by decide +kernel)
set_option maxRecDepth 20000 in
theorem gX3_setBar_X5_refuse : GoodIn wsX3_setBar (wsV RX3 98 RX5 yX5_refuse wsX5_refuse) := goodIn_app (goodIn_of _ (by decide +kernel)) ggX3_setBar_X5_refuse
set_option maxRecDepth 20000 in
theorem ggX3_setBar_X3_hasLock : GoodIn wsX3_setBar wsX3_hasLock := goodIn_r _ [18, 19, 57, 58, 59, 60, 61, 62, 63, 64, 65, 66, 67, 68, 69, 70] (by decide +kernel) (by decide +kernel)
set_option maxRecDepth 20000 in
theorem gX3_setBar_X3_hasLock : GoodIn wsX3_setBar (wsV RX3 65 RX3 yX3_hasLock wsX3_hasLock) := goodIn_app (goodIn_of _ (by decide +kernel)) ggX3_setBar_X3_hasLock
set_option maxRecDepth 20000 in
theorem ggX3_setBar_X3_hasBar : GoodIn wsX3_setBar wsX3_hasBar := goodIn_ca (goodIn_r _ [23, 15, 16, 17, 5, 18, 19, 24, 25, 26, 27, 1, 2, 3, 4, 6, 7, 57, 58, 59, 60, 61, 62, 63, 64, 65, 66, 67, 68, 69, 70] (by decide +kernel) (by decide +kernel)) (goodIn_sub (fun _ h => List.mem_cons_of_mem _ (List.mem_append_right _ h)) (by decide +kernel))
set_option maxRecDepth 20000 in
theorem gX3_setBar_X3_hasBar : GoodIn wsX3_setBar (wsV RX3 107 RX3 yX3_hasBar wsX3_hasBar) := goodIn_app (goodIn_of _ (by decide +kernel)) ggX3_setBar_X3_hasBar
set_option maxRecDepth 20000 in
theorem ggX3_setBar_X3_dropUnfit : GoodIn wsX3_setBar wsX3_dropUnfit := goodIn_ca (goodIn_r _ [31, 7, 32, 33, 34, 35, 36, 37, 5, 38, 2, 3, 4, 6, 15, 16, 17, 18, 19, 39, 40, 41, 42, 43, 44, 45, 1, 46, 47, 48, 49, 50, 51, 52, 57, 58, 59, 60, 61, 62, 63, 64, 65, 66, 67, 68, 69, 70] (by decide +kernel) (by decide +kernel)) (goodIn_sub (fun _ h => List.mem_cons_of_mem _ (List.mem_append_right _ h)) (by decide +kernel))
set_option maxRecDepth 20000 in
theorem gX3_setBar_X3_dropUnfit : GoodIn wsX3_setBar (wsV RX3 103 RX3 yX3_dropUnfit wsX3_dropUnfit) := goodIn_app (goodIn_of _ (by decide +kernel)) ggX3_setBar_X3_dropUnfit
set_option maxRecDepth 20000 in
theorem ggX3_setBar_X3_countBars : GoodIn wsX3_setBar wsX3_countBars := goodIn_ca (goodIn_r _ [56, 7, 24, 25, 26, 5, 27, 1, 2, 3, 4, 6, 46, 47, 48, 49, 50, 51, 52, 57, 58, 59, 60, 61, 62, 63, 64, 65, 66, 67, 68, 69, 70] (by decide +kernel) (by decide +kernel)) (goodIn_sub (fun _ h => List.mem_cons_of_mem _ (List.mem_append_right _ h)) (by decide +kernel))
set_option maxRecDepth 20000 in
theorem gX3_setBar_X3_countBars : GoodIn wsX3_setBar (wsV RX3 111 RX3 yX3_countBars wsX3_countBars) := goodIn_app (goodIn_of _ (by decide +kernel)) ggX3_setBar_X3_countBars
theorem dX3_setBar_0 : decode cX3_setBar 0 = .ok (.aload_n 0, 1) := by decide +kernel
theorem dX3_setBar_1 : decode cX3_setBar 1 = .ok (.iload_n 1, 1) := by decide +kernel
theorem dX3_setBar_2 : decode cX3_setBar 2 = .ok (.invokevirtual 61, 3) := by decide +kernel
theorem dX3_setBar_5 : decode cX3_setBar 5 = .ok (.ifCond .ne 11, 3) := by decide +kernel
theorem dX3_setBar_8 : decode cX3_setBar 8 = .ok (.aload 4, 2) := by decide +kernel
theorem dX3_setBar_10 : decode cX3_setBar 10 = .ok (.iconst 3, 1) := by decide +kernel
theorem dX3_setBar_11 : decode cX3_setBar 11 = .ok (.iload_n 1, 1) := by decide +kernel
theorem dX3_setBar_12 : decode cX3_setBar 12 = .ok (.invokevirtual 98, 3) := by decide +kernel
theorem dX3_setBar_15 : decode cX3_setBar 15 = .ok (.ireturn, 1) := by decide +kernel
theorem dX3_setBar_16 : decode cX3_setBar 16 = .ok (.aload_n 0, 1) := by decide +kernel
theorem dX3_setBar_17 : decode cX3_setBar 17 = .ok (.iload_n 2, 1) := by decide +kernel
theorem dX3_setBar_18 : decode cX3_setBar 18 = .ok (.invokevirtual 65, 3) := by decide +kernel
theorem dX3_setBar_21 : decode cX3_setBar 21 = .ok (.ifCond .ne 11, 3) := by decide +kernel
theorem dX3_setBar_24 : decode cX3_setBar 24 = .ok (.aload 4, 2) := by decide +kernel
theorem dX3_setBar_26 : decode cX3_setBar 26 = .ok (.iconst 4, 1) := by decide +kernel
theorem dX3_setBar_27 : decode cX3_setBar 27 = .ok (.iload_n 2, 1) := by decide +kernel
theorem dX3_setBar_28 : decode cX3_setBar 28 = .ok (.invokevirtual 98, 3) := by decide +kernel
theorem dX3_setBar_31 : decode cX3_setBar 31 = .ok (.ireturn, 1) := by decide +kernel
theorem dX3_setBar_32 : decode cX3_setBar 32 = .ok (.aload_n 0, 1) := by decide +kernel
theorem dX3_setBar_33 : decode cX3_setBar 33 = .ok (.iload_n 1, 1) := by decide +kernel
theorem dX3_setBar_34 : decode cX3_setBar 34 = .ok (.iload_n 2, 1) := by decide +kernel
theorem dX3_setBar_35 : decode cX3_setBar 35 = .ok (.invokevirtual 107, 3) := by decide +kernel
theorem dX3_setBar_38 : decode cX3_setBar 38 = .ok (.iload_n 3, 1) := by decide +kernel
theorem dX3_setBar_39 : decode cX3_setBar 39 = .ok (.if_icmp .ne 11, 3) := by decide +kernel
theorem dX3_setBar_42 : decode cX3_setBar 42 = .ok (.aload 4, 2) := by decide +kernel
theorem dX3_setBar_44 : decode cX3_setBar 44 = .ok (.iconst 5, 1) := by decide +kernel
theorem dX3_setBar_45 : decode cX3_setBar 45 = .ok (.iconst 0, 1) := by decide +kernel
theorem dX3_setBar_46 : decode cX3_setBar 46 = .ok (.invokevirtual 98, 3) := by decide +kernel
theorem dX3_setBar_49 : decode cX3_setBar 49 = .ok (.ireturn, 1) := by decide +kernel
theorem dX3_setBar_50 : decode cX3_setBar 50 = .ok (.aload_n 0, 1) := by decide +kernel
theorem dX3_setBar_51 : decode cX3_setBar 51 = .ok (.getfield 18, 3) := by decide +kernel
theorem dX3_setBar_54 : decode cX3_setBar 54 = .ok (.iload_n 1, 1) := by decide +kernel
theorem dX3_setBar_55 : decode cX3_setBar 55 = .ok (.dup2, 1) := by decide +kernel
theorem dX3_setBar_56 : decode cX3_setBar 56 = .ok (.iaload, 1) := by decide +kernel
theorem dX3_setBar_57 : decode cX3_setBar 57 = .ok (.iconst 1, 1) := by decide +kernel
theorem dX3_setBar_58 : decode cX3_setBar 58 = .ok (.iload_n 2, 1) := by decide +kernel
theorem dX3_setBar_59 : decode cX3_setBar 59 = .ok (.ishl, 1) := by decide +kernel
theorem dX3_setBar_60 : decode cX3_setBar 60 = .ok (.ixor, 1) := by decide +kernel
theorem dX3_setBar_61 : decode cX3_setBar 61 = .ok (.iastore, 1) := by decide +kernel
theorem dX3_setBar_62 : decode cX3_setBar 62 = .ok (.aload_n 0, 1) := by decide +kernel
theorem dX3_setBar_63 : decode cX3_setBar 63 = .ok (.invokevirtual 103, 3) := by decide +kernel
theorem dX3_setBar_66 : decode cX3_setBar 66 = .ok (.pop, 1) := by decide +kernel
theorem dX3_setBar_67 : decode cX3_setBar 67 = .ok (.aload_n 0, 1) := by decide +kernel
theorem dX3_setBar_68 : decode cX3_setBar 68 = .ok (.invokevirtual 111, 3) := by decide +kernel
theorem dX3_setBar_71 : decode cX3_setBar 71 = .ok (.ireturn, 1) := by decide +kernel
set_option maxRecDepth 20000 in
theorem ggX3_setSlack_X5_refuse : GoodIn wsX3_setSlack wsX5_refuse := goodIn_r _ [6, 7, 8, 59, 60, 61] (by decide +kernel) (by decide +kernel)
set_option maxRecDepth 20000 in
theorem gX3_setSlack_X5_refuse : GoodIn wsX3_setSlack (wsV RX3 98 RX5 yX5_refuse wsX5_refuse) := goodIn_app (goodIn_of _ (by decide +kernel)) ggX3_setSlack_X5_refuse
set_option maxRecDepth 20000 in
theorem ggX3_setSlack_X3_dropUnfit : GoodIn wsX3_setSlack wsX3_dropUnfit := goodIn_ca (goodIn_r _ [13, 14, 15, 16, 17, 18, 19, 20, 12, 21, 22, 23, 24, 25, 26, 27, 28, 29, 30, 31, 32, 33, 34, 35, 36, 1, 37, 38, 39, 40, 41, 42, 43, 44, 45, 46, 47, 48, 49, 50, 51, 52, 53, 54, 55, 56, 57, 58] (by decide +kernel) (by decide +kernel)) (goodIn_sub (fun _ h => List.mem_cons_of_mem _ (List.mem_append_right _ h)) (by decide +kernel))
set_option maxRecDepth 20000 in
theorem gX3_setSlack_X3_dropUnfit : GoodIn wsX3_setSlack (wsV RX3 103 RX3 yX3_dropUnfit wsX3_dropUnfit) := goodIn_app (goodIn_of _ (by decide +kernel)) ggX3_setSlack_X3_dropUnfit
theorem dX3_setSlack_0 : decode cX3_setSlack 0 = .ok (.iload_n 1, 1) := by decide +kernel
theorem dX3_setSlack_1 : decode cX3_setSlack 1 = .ok (.ifCond .lt 9, 3) := by decide +kernel
theorem dX3_setSlack_4 : decode cX3_setSlack 4 = .ok (.iload_n 1, 1) := by decide +kernel
theorem dX3_setSlack_5 : decode cX3_setSlack 5 = .ok (.bipush 6, 2) := by decide +kernel
theorem dX3_setSlack_7 : decode cX3_setSlack 7 = .ok (.if_icmp .le 10, 3) := by decide +kernel
theorem dX3_setSlack_10 : decode cX3_setSlack 10 = .ok (.aload_n 2, 1) := by decide +kernel
theorem dX3_setSlack_11 : decode cX3_setSlack 11 = .ok (.iconst 1, 1) := by decide +kernel
theorem dX3_setSlack_12 : decode cX3_setSlack 12 = .ok (.iconst 0, 1) := by decide +kernel
theorem dX3_setSlack_13 : decode cX3_setSlack 13 = .ok (.invokevirtual 98, 3) := by decide +kernel
theorem dX3_setSlack_16 : decode cX3_setSlack 16 = .ok (.ireturn, 1) := by decide +kernel
theorem dX3_setSlack_17 : decode cX3_setSlack 17 = .ok (.aload_n 0, 1) := by decide +kernel
theorem dX3_setSlack_18 : decode cX3_setSlack 18 = .ok (.getfield 43, 3) := by decide +kernel
theorem dX3_setSlack_21 : decode cX3_setSlack 21 = .ok (.iload_n 1, 1) := by decide +kernel
theorem dX3_setSlack_22 : decode cX3_setSlack 22 = .ok (.if_icmp .ne 10, 3) := by decide +kernel
theorem dX3_setSlack_25 : decode cX3_setSlack 25 = .ok (.aload_n 2, 1) := by decide +kernel
theorem dX3_setSlack_26 : decode cX3_setSlack 26 = .ok (.iconst 5, 1) := by decide +kernel
theorem dX3_setSlack_27 : decode cX3_setSlack 27 = .ok (.iconst 0, 1) := by decide +kernel
theorem dX3_setSlack_28 : decode cX3_setSlack 28 = .ok (.invokevirtual 98, 3) := by decide +kernel
theorem dX3_setSlack_31 : decode cX3_setSlack 31 = .ok (.ireturn, 1) := by decide +kernel
theorem dX3_setSlack_32 : decode cX3_setSlack 32 = .ok (.aload_n 0, 1) := by decide +kernel
theorem dX3_setSlack_33 : decode cX3_setSlack 33 = .ok (.iload_n 1, 1) := by decide +kernel
theorem dX3_setSlack_34 : decode cX3_setSlack 34 = .ok (.putfield 43, 3) := by decide +kernel
theorem dX3_setSlack_37 : decode cX3_setSlack 37 = .ok (.aload_n 0, 1) := by decide +kernel
theorem dX3_setSlack_38 : decode cX3_setSlack 38 = .ok (.invokevirtual 103, 3) := by decide +kernel
theorem dX3_setSlack_41 : decode cX3_setSlack 41 = .ok (.ireturn, 1) := by decide +kernel
set_option maxRecDepth 20000 in
theorem ggX3_putIn_X3_hasKey : GoodIn wsX3_putIn wsX3_hasKey := goodIn_r _ [7, 8, 61, 62, 63, 64, 65, 66, 67, 68, 69, 70, 71, 72, 73, 74] (by decide +kernel) (by decide +kernel)
set_option maxRecDepth 20000 in
theorem gX3_putIn_X3_hasKey : GoodIn wsX3_putIn (wsV RX3 61 RX3 yX3_hasKey wsX3_hasKey) := goodIn_app (goodIn_of _ (by decide +kernel)) ggX3_putIn_X3_hasKey
set_option maxRecDepth 20000 in
theorem ggX3_putIn_X5_refuse : GoodIn wsX3_putIn wsX5_refuse := goodIn_r _ [13, 14, 15, 75, 76, 77] (by decide +kernel) (by decide +kernel)
set_option maxRecDepth 20000 in
theorem gX3_putIn_X5_refuse : GoodIn wsX3_putIn (wsV RX3 98 RX5 yX5_refuse wsX5_refuse) := goodIn_app (goodIn_of _ (by decide +kernel)) ggX3_putIn_X5_refuse
set_option maxRecDepth 20000 in
theorem ggX3_putIn_X3_hasLock : GoodIn wsX3_putIn wsX3_hasLock := goodIn_r _ [19, 20, 61, 62, 63, 64, 65, 66, 67, 68, 69, 70, 71, 72, 73, 74] (by decide +kernel) (by decide +kernel)
set_option maxRecDepth 20000 in
theorem gX3_putIn_X3_hasLock : GoodIn wsX3_putIn (wsV RX3 65 RX3 yX3_hasLock wsX3_hasLock) := goodIn_app (goodIn_of _ (by decide +kernel)) ggX3_putIn_X3_hasLock
set_option maxRecDepth 20000 in
theorem ggX3_putIn_X3_isFit : GoodIn wsX3_putIn wsX3_isFit := goodIn_ca (goodIn_r _ [24, 25, 26, 27, 28, 3, 4, 5, 6, 7, 8, 16, 17, 18, 19, 20, 29, 30, 31, 32, 33, 34, 35, 61, 62, 63, 64, 65, 66, 67, 68, 69, 70, 71, 72, 73, 74] (by decide +kernel) (by decide +kernel)) (goodIn_sub (fun _ h => List.mem_cons_of_mem _ (List.mem_append_right _ h)) (by decide +kernel))
set_option maxRecDepth 20000 in
theorem gX3_putIn_X3_isFit : GoodIn wsX3_putIn (wsV RX3 114 RX3 yX3_isFit wsX3_isFit) := goodIn_app (goodIn_of _ (by decide +kernel)) ggX3_putIn_X3_isFit
set_option maxRecDepth 20000 in
theorem ggX3_putIn_X3_countMissing : GoodIn wsX3_putIn wsX3_countMissing := goodIn_ca (goodIn_r _ [39, 40, 41, 42, 6, 43, 25, 16, 17, 18, 19, 20, 44, 45, 46, 47, 26, 3, 4, 5, 7, 8, 29, 30, 31, 32, 33, 34, 35, 61, 62, 63, 64, 65, 66, 67, 68, 69, 70, 71, 72, 73, 74] (by decide +kernel) (by decide +kernel)) (goodIn_sub (fun _ h => List.mem_cons_of_mem _ (List.mem_append_right _ h)) (by decide +kernel))
set_option maxRecDepth 20000 in
theorem gX3_putIn_X3_countMissing : GoodIn wsX3_putIn (wsV RX3 83 RX3 yX3_countMissing wsX3_countMissing) := goodIn_app (goodIn_of _ (by decide +kernel)) ggX3_putIn_X3_countMissing
set_option maxRecDepth 20000 in
theorem ggX3_putIn_X3_place : GoodIn wsX3_putIn wsX3_place := goodIn_ca (goodIn_r _ [51, 1, 2, 52, 3, 4, 5, 6, 7, 8, 16, 17, 18, 19, 20, 61, 62, 63, 64, 65, 66, 67, 68, 69, 70, 71, 72, 73, 74] (by decide +kernel) (by decide +kernel)) (goodIn_sub (fun _ h => List.mem_cons_of_mem _ (List.mem_append_right _ h)) (by decide +kernel))
set_option maxRecDepth 20000 in
theorem gX3_putIn_X3_place : GoodIn wsX3_putIn (wsV RX3 117 RX3 yX3_place wsX3_place) := goodIn_app (goodIn_of _ (by decide +kernel)) ggX3_putIn_X3_place
set_option maxRecDepth 20000 in
theorem ggX3_putIn_X3_countOpen : GoodIn wsX3_putIn wsX3_countOpen := goodIn_ca (goodIn_r _ [56, 20, 57, 58, 59, 6, 60, 2, 16, 17, 18, 19, 61, 62, 63, 64, 65, 66, 67, 68, 69, 70, 71, 72, 73, 74] (by decide +kernel) (by decide +kernel)) (goodIn_sub (fun _ h => List.mem_cons_of_mem _ (List.mem_append_right _ h)) (by decide +kernel))
set_option maxRecDepth 20000 in
theorem gX3_putIn_X3_countOpen : GoodIn wsX3_putIn (wsV RX3 121 RX3 yX3_countOpen wsX3_countOpen) := goodIn_app (goodIn_of _ (by decide +kernel)) ggX3_putIn_X3_countOpen
theorem dX3_putIn_0 : decode cX3_putIn 0 = .ok (.aload_n 0, 1) := by decide +kernel
theorem dX3_putIn_1 : decode cX3_putIn 1 = .ok (.iload_n 1, 1) := by decide +kernel
theorem dX3_putIn_2 : decode cX3_putIn 2 = .ok (.invokevirtual 61, 3) := by decide +kernel
theorem dX3_putIn_5 : decode cX3_putIn 5 = .ok (.ifCond .ne 10, 3) := by decide +kernel
theorem dX3_putIn_8 : decode cX3_putIn 8 = .ok (.aload_n 3, 1) := by decide +kernel
theorem dX3_putIn_9 : decode cX3_putIn 9 = .ok (.iconst 3, 1) := by decide +kernel
theorem dX3_putIn_10 : decode cX3_putIn 10 = .ok (.iload_n 1, 1) := by decide +kernel
theorem dX3_putIn_11 : decode cX3_putIn 11 = .ok (.invokevirtual 98, 3) := by decide +kernel
theorem dX3_putIn_14 : decode cX3_putIn 14 = .ok (.ireturn, 1) := by decide +kernel
theorem dX3_putIn_15 : decode cX3_putIn 15 = .ok (.aload_n 0, 1) := by decide +kernel
theorem dX3_putIn_16 : decode cX3_putIn 16 = .ok (.iload_n 2, 1) := by decide +kernel
theorem dX3_putIn_17 : decode cX3_putIn 17 = .ok (.invokevirtual 65, 3) := by decide +kernel
theorem dX3_putIn_20 : decode cX3_putIn 20 = .ok (.ifCond .ne 10, 3) := by decide +kernel
theorem dX3_putIn_23 : decode cX3_putIn 23 = .ok (.aload_n 3, 1) := by decide +kernel
theorem dX3_putIn_24 : decode cX3_putIn 24 = .ok (.iconst 4, 1) := by decide +kernel
theorem dX3_putIn_25 : decode cX3_putIn 25 = .ok (.iload_n 2, 1) := by decide +kernel
theorem dX3_putIn_26 : decode cX3_putIn 26 = .ok (.invokevirtual 98, 3) := by decide +kernel
theorem dX3_putIn_29 : decode cX3_putIn 29 = .ok (.ireturn, 1) := by decide +kernel
theorem dX3_putIn_30 : decode cX3_putIn 30 = .ok (.aload_n 0, 1) := by decide +kernel
theorem dX3_putIn_31 : decode cX3_putIn 31 = .ok (.getfield 24, 3) := by decide +kernel
theorem dX3_putIn_34 : decode cX3_putIn 34 = .ok (.iload_n 1, 1) := by decide +kernel
theorem dX3_putIn_35 : decode cX3_putIn 35 = .ok (.iaload, 1) := by decide +kernel
theorem dX3_putIn_36 : decode cX3_putIn 36 = .ok (.iconst (-1), 1) := by decide +kernel
theorem dX3_putIn_37 : decode cX3_putIn 37 = .ok (.if_icmp .eq 16, 3) := by decide +kernel
theorem dX3_putIn_40 : decode cX3_putIn 40 = .ok (.aload_n 3, 1) := by decide +kernel
theorem dX3_putIn_41 : decode cX3_putIn 41 = .ok (.bipush 8, 2) := by decide +kernel
theorem dX3_putIn_43 : decode cX3_putIn 43 = .ok (.aload_n 0, 1) := by decide +kernel
theorem dX3_putIn_44 : decode cX3_putIn 44 = .ok (.getfield 24, 3) := by decide +kernel
theorem dX3_putIn_47 : decode cX3_putIn 47 = .ok (.iload_n 1, 1) := by decide +kernel
theorem dX3_putIn_48 : decode cX3_putIn 48 = .ok (.iaload, 1) := by decide +kernel
theorem dX3_putIn_49 : decode cX3_putIn 49 = .ok (.invokevirtual 98, 3) := by decide +kernel
theorem dX3_putIn_52 : decode cX3_putIn 52 = .ok (.ireturn, 1) := by decide +kernel
theorem dX3_putIn_53 : decode cX3_putIn 53 = .ok (.aload_n 0, 1) := by decide +kernel
theorem dX3_putIn_54 : decode cX3_putIn 54 = .ok (.getfield 30, 3) := by decide +kernel
theorem dX3_putIn_57 : decode cX3_putIn 57 = .ok (.iload_n 2, 1) := by decide +kernel
theorem dX3_putIn_58 : decode cX3_putIn 58 = .ok (.iaload, 1) := by decide +kernel
theorem dX3_putIn_59 : decode cX3_putIn 59 = .ok (.iconst (-1), 1) := by decide +kernel
theorem dX3_putIn_60 : decode cX3_putIn 60 = .ok (.if_icmp .eq 16, 3) := by decide +kernel
theorem dX3_putIn_63 : decode cX3_putIn 63 = .ok (.aload_n 3, 1) := by decide +kernel
theorem dX3_putIn_64 : decode cX3_putIn 64 = .ok (.bipush 7, 2) := by decide +kernel
theorem dX3_putIn_66 : decode cX3_putIn 66 = .ok (.aload_n 0, 1) := by decide +kernel
theorem dX3_putIn_67 : decode cX3_putIn 67 = .ok (.getfield 30, 3) := by decide +kernel
theorem dX3_putIn_70 : decode cX3_putIn 70 = .ok (.iload_n 2, 1) := by decide +kernel
theorem dX3_putIn_71 : decode cX3_putIn 71 = .ok (.iaload, 1) := by decide +kernel
theorem dX3_putIn_72 : decode cX3_putIn 72 = .ok (.invokevirtual 98, 3) := by decide +kernel
theorem dX3_putIn_75 : decode cX3_putIn 75 = .ok (.ireturn, 1) := by decide +kernel
theorem dX3_putIn_76 : decode cX3_putIn 76 = .ok (.aload_n 0, 1) := by decide +kernel
theorem dX3_putIn_77 : decode cX3_putIn 77 = .ok (.iload_n 1, 1) := by decide +kernel
theorem dX3_putIn_78 : decode cX3_putIn 78 = .ok (.iload_n 2, 1) := by decide +kernel
theorem dX3_putIn_79 : decode cX3_putIn 79 = .ok (.invokevirtual 114, 3) := by decide +kernel
theorem dX3_putIn_82 : decode cX3_putIn 82 = .ok (.ifCond .ne 16, 3) := by decide +kernel
theorem dX3_putIn_85 : decode cX3_putIn 85 = .ok (.aload_n 3, 1) := by decide +kernel
theorem dX3_putIn_86 : decode cX3_putIn 86 = .ok (.bipush 6, 2) := by decide +kernel
theorem dX3_putIn_88 : decode cX3_putIn 88 = .ok (.aload_n 0, 1) := by decide +kernel
theorem dX3_putIn_89 : decode cX3_putIn 89 = .ok (.iload_n 1, 1) := by decide +kernel
theorem dX3_putIn_90 : decode cX3_putIn 90 = .ok (.iload_n 2, 1) := by decide +kernel
theorem dX3_putIn_91 : decode cX3_putIn 91 = .ok (.invokevirtual 83, 3) := by decide +kernel
theorem dX3_putIn_94 : decode cX3_putIn 94 = .ok (.invokevirtual 98, 3) := by decide +kernel
theorem dX3_putIn_97 : decode cX3_putIn 97 = .ok (.ireturn, 1) := by decide +kernel
theorem dX3_putIn_98 : decode cX3_putIn 98 = .ok (.aload_n 0, 1) := by decide +kernel
theorem dX3_putIn_99 : decode cX3_putIn 99 = .ok (.iload_n 1, 1) := by decide +kernel
theorem dX3_putIn_100 : decode cX3_putIn 100 = .ok (.iload_n 2, 1) := by decide +kernel
theorem dX3_putIn_101 : decode cX3_putIn 101 = .ok (.invokevirtual 117, 3) := by decide +kernel
theorem dX3_putIn_104 : decode cX3_putIn 104 = .ok (.aload_n 0, 1) := by decide +kernel
theorem dX3_putIn_105 : decode cX3_putIn 105 = .ok (.invokevirtual 121, 3) := by decide +kernel
theorem dX3_putIn_108 : decode cX3_putIn 108 = .ok (.ireturn, 1) := by decide +kernel
set_option maxRecDepth 20000 in
theorem ggX3_takeOut_X3_hasKey : GoodIn wsX3_takeOut wsX3_hasKey := goodIn_r _ [7, 8, 21, 22, 23, 24, 25, 26, 27, 28, 29, 30, 31, 32, 33, 34] (by decide +kernel) (by decide +kernel)
set_option maxRecDepth 20000 in
theorem gX3_takeOut_X3_hasKey : GoodIn wsX3_takeOut (wsV RX3 61 RX3 yX3_hasKey wsX3_hasKey) := goodIn_app (goodIn_of _ (by decide +kernel)) ggX3_takeOut_X3_hasKey
set_option maxRecDepth 20000 in
theorem ggX3_takeOut_X5_refuse : GoodIn wsX3_takeOut wsX5_refuse := goodIn_r _ [13, 14, 15, 35, 36, 37] (by decide +kernel) (by decide +kernel)
set_option maxRecDepth 20000 in
theorem gX3_takeOut_X5_refuse : GoodIn wsX3_takeOut (wsV RX3 98 RX5 yX5_refuse wsX5_refuse) := goodIn_app (goodIn_of _ (by decide +kernel)) ggX3_takeOut_X5_refuse
set_option maxRecDepth 20000 in
theorem ggX3_takeOut_X3_hasLock : GoodIn wsX3_takeOut wsX3_hasLock := goodIn_r _ [19, 20, 21, 22, 23, 24, 25, 26, 27, 28, 29, 30, 31, 32, 33, 34] (by decide +kernel) (by decide +kernel)
set_option maxRecDepth 20000 in
theorem gX3_takeOut_X3_hasLock : GoodIn wsX3_takeOut (wsV RX3 65 RX3 yX3_hasLock wsX3_hasLock) := goodIn_app (goodIn_of _ (by decide +kernel)) ggX3_takeOut_X3_hasLock
theorem dX3_takeOut_0 : decode cX3_takeOut 0 = .ok (.aload_n 0, 1) := by decide +kernel
theorem dX3_takeOut_1 : decode cX3_takeOut 1 = .ok (.iload_n 1, 1) := by decide +kernel
theorem dX3_takeOut_2 : decode cX3_takeOut 2 = .ok (.invokevirtual 61, 3) := by decide +kernel
theorem dX3_takeOut_5 : decode cX3_takeOut 5 = .ok (.ifCond .ne 10, 3) := by decide +kernel
theorem dX3_takeOut_8 : decode cX3_takeOut 8 = .ok (.aload_n 2, 1) := by decide +kernel
theorem dX3_takeOut_9 : decode cX3_takeOut 9 = .ok (.iconst 3, 1) := by decide +kernel
theorem dX3_takeOut_10 : decode cX3_takeOut 10 = .ok (.iload_n 1, 1) := by decide +kernel
theorem dX3_takeOut_11 : decode cX3_takeOut 11 = .ok (.invokevirtual 98, 3) := by decide +kernel
theorem dX3_takeOut_14 : decode cX3_takeOut 14 = .ok (.ireturn, 1) := by decide +kernel
theorem dX3_takeOut_15 : decode cX3_takeOut 15 = .ok (.aload_n 0, 1) := by decide +kernel
theorem dX3_takeOut_16 : decode cX3_takeOut 16 = .ok (.getfield 24, 3) := by decide +kernel
theorem dX3_takeOut_19 : decode cX3_takeOut 19 = .ok (.iload_n 1, 1) := by decide +kernel
theorem dX3_takeOut_20 : decode cX3_takeOut 20 = .ok (.iaload, 1) := by decide +kernel
theorem dX3_takeOut_21 : decode cX3_takeOut 21 = .ok (.istore_n 3, 1) := by decide +kernel
theorem dX3_takeOut_22 : decode cX3_takeOut 22 = .ok (.aload_n 0, 1) := by decide +kernel
theorem dX3_takeOut_23 : decode cX3_takeOut 23 = .ok (.iload_n 3, 1) := by decide +kernel
theorem dX3_takeOut_24 : decode cX3_takeOut 24 = .ok (.invokevirtual 65, 3) := by decide +kernel
theorem dX3_takeOut_27 : decode cX3_takeOut 27 = .ok (.ifCond .ne 11, 3) := by decide +kernel
theorem dX3_takeOut_30 : decode cX3_takeOut 30 = .ok (.aload_n 2, 1) := by decide +kernel
theorem dX3_takeOut_31 : decode cX3_takeOut 31 = .ok (.bipush 9, 2) := by decide +kernel
theorem dX3_takeOut_33 : decode cX3_takeOut 33 = .ok (.iload_n 1, 1) := by decide +kernel
theorem dX3_takeOut_34 : decode cX3_takeOut 34 = .ok (.invokevirtual 98, 3) := by decide +kernel
theorem dX3_takeOut_37 : decode cX3_takeOut 37 = .ok (.ireturn, 1) := by decide +kernel
theorem dX3_takeOut_38 : decode cX3_takeOut 38 = .ok (.aload_n 0, 1) := by decide +kernel
theorem dX3_takeOut_39 : decode cX3_takeOut 39 = .ok (.getfield 24, 3) := by decide +kernel
theorem dX3_takeOut_42 : decode cX3_takeOut 42 = .ok (.iload_n 1, 1) := by decide +kernel
theorem dX3_takeOut_43 : decode cX3_takeOut 43 = .ok (.iconst (-1), 1) := by decide +kernel
theorem dX3_takeOut_44 : decode cX3_takeOut 44 = .ok (.iastore, 1) := by decide +kernel
theorem dX3_takeOut_45 : decode cX3_takeOut 45 = .ok (.aload_n 0, 1) := by decide +kernel
theorem dX3_takeOut_46 : decode cX3_takeOut 46 = .ok (.getfield 30, 3) := by decide +kernel
theorem dX3_takeOut_49 : decode cX3_takeOut 49 = .ok (.iload_n 3, 1) := by decide +kernel
theorem dX3_takeOut_50 : decode cX3_takeOut 50 = .ok (.iconst (-1), 1) := by decide +kernel
theorem dX3_takeOut_51 : decode cX3_takeOut 51 = .ok (.iastore, 1) := by decide +kernel
theorem dX3_takeOut_52 : decode cX3_takeOut 52 = .ok (.iload_n 3, 1) := by decide +kernel
theorem dX3_takeOut_53 : decode cX3_takeOut 53 = .ok (.ireturn, 1) := by decide +kernel
set_option maxRecDepth 20000 in
theorem ggX3_place_X3_hasKey : GoodIn wsX3_place wsX3_hasKey := goodIn_r _ [8, 9, 15, 16, 17, 18, 19, 20, 21, 22, 23, 24, 25, 26, 27, 28] (by decide +kernel) (by decide +kernel)
set_option maxRecDepth 20000 in
theorem gX3_place_X3_hasKey : GoodIn wsX3_place (wsV RX3 61 RX3 yX3_hasKey wsX3_hasKey) := goodIn_app (goodIn_of _ (by decide +kernel)) ggX3_place_X3_hasKey
set_option maxRecDepth 20000 in
theorem ggX3_place_X3_hasLock : GoodIn wsX3_place wsX3_hasLock := goodIn_r _ [13, 14, 15, 16, 17, 18, 19, 20, 21, 22, 23, 24, 25, 26, 27, 28] (by decide +kernel) (by decide +kernel)
set_option maxRecDepth 20000 in
theorem gX3_place_X3_hasLock : GoodIn wsX3_place (wsV RX3 65 RX3 yX3_hasLock wsX3_hasLock) := goodIn_app (goodIn_of _ (by decide +kernel)) ggX3_place_X3_hasLock
theorem dX3_place_0 : decode cX3_place 0 = .ok (.aload_n 0, 1) := by decide +kernel
theorem dX3_place_1 : decode cX3_place 1 = .ok (.iload_n 1, 1) := by decide +kernel
theorem dX3_place_2 : decode cX3_place 2 = .ok (.invokevirtual 61, 3) := by decide +kernel
theorem dX3_place_5 : decode cX3_place 5 = .ok (.ifCond .eq 35, 3) := by decide +kernel
theorem dX3_place_8 : decode cX3_place 8 = .ok (.aload_n 0, 1) := by decide +kernel
theorem dX3_place_9 : decode cX3_place 9 = .ok (.iload_n 2, 1) := by decide +kernel
theorem dX3_place_10 : decode cX3_place 10 = .ok (.invokevirtual 65, 3) := by decide +kernel
theorem dX3_place_13 : decode cX3_place 13 = .ok (.ifCond .eq 27, 3) := by decide +kernel
theorem dX3_place_16 : decode cX3_place 16 = .ok (.aload_n 0, 1) := by decide +kernel
theorem dX3_place_17 : decode cX3_place 17 = .ok (.getfield 24, 3) := by decide +kernel
theorem dX3_place_20 : decode cX3_place 20 = .ok (.iload_n 1, 1) := by decide +kernel
theorem dX3_place_21 : decode cX3_place 21 = .ok (.iload_n 2, 1) := by decide +kernel
theorem dX3_place_22 : decode cX3_place 22 = .ok (.iastore, 1) := by decide +kernel
theorem dX3_place_23 : decode cX3_place 23 = .ok (.aload_n 0, 1) := by decide +kernel
theorem dX3_place_24 : decode cX3_place 24 = .ok (.getfield 30, 3) := by decide +kernel
theorem dX3_place_27 : decode cX3_place 27 = .ok (.iload_n 2, 1) := by decide +kernel
theorem dX3_place_28 : decode cX3_place 28 = .ok (.iload_n 1, 1) := by decide +kernel
theorem dX3_place_29 : decode cX3_place 29 = .ok (.iastore, 1) := by decide +kernel
theorem dX3_place_30 : decode cX3_place 30 = .ok (.aload_n 0, 1) := by decide +kernel
theorem dX3_place_31 : decode cX3_place 31 = .ok (.getfield 33, 3) := by decide +kernel
theorem dX3_place_34 : decode cX3_place 34 = .ok (.iload_n 2, 1) := by decide +kernel
theorem dX3_place_35 : decode cX3_place 35 = .ok (.dup2, 1) := by decide +kernel
theorem dX3_place_36 : decode cX3_place 36 = .ok (.iaload, 1) := by decide +kernel
theorem dX3_place_37 : decode cX3_place 37 = .ok (.iconst 1, 1) := by decide +kernel
theorem dX3_place_38 : decode cX3_place 38 = .ok (.iadd, 1) := by decide +kernel
theorem dX3_place_39 : decode cX3_place 39 = .ok (.iastore, 1) := by decide +kernel
