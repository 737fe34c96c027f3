theorem dX8_carries_221 : decode cX8_carries 221 = .ok (.aload_n 0, 1) := by decide +kernel
theorem dX8_carries_222 : decode cX8_carries 222 = .ok (.getfield 43, 3) := by decide +kernel
theorem dX8_carries_225 : decode cX8_carries 225 = .ok (.iload_n 1, 1) := by decide +kernel
theorem dX8_carries_226 : decode cX8_carries 226 = .ok (.iconst 2, 1) := by decide +kernel
theorem dX8_carries_227 : decode cX8_carries 227 = .ok (.iadd, 1) := by decide +kernel
theorem dX8_carries_228 : decode cX8_carries 228 = .ok (.iaload, 1) := by decide +kernel
theorem dX8_carries_229 : decode cX8_carries 229 = .ok (.invokevirtual 199, 3) := by decide +kernel
theorem dX8_carries_232 : decode cX8_carries 232 = .ok (.ireturn, 1) := by decide +kernel
theorem dX8_carries_233 : decode cX8_carries 233 = .ok (.aload_n 0, 1) := by decide +kernel
theorem dX8_carries_234 : decode cX8_carries 234 = .ok (.aload_n 0, 1) := by decide +kernel
theorem dX8_carries_235 : decode cX8_carries 235 = .ok (.getfield 43, 3) := by decide +kernel
theorem dX8_carries_238 : decode cX8_carries 238 = .ok (.iload_n 1, 1) := by decide +kernel
theorem dX8_carries_239 : decode cX8_carries 239 = .ok (.iconst 1, 1) := by decide +kernel
theorem dX8_carries_240 : decode cX8_carries 240 = .ok (.iadd, 1) := by decide +kernel
theorem dX8_carries_241 : decode cX8_carries 241 = .ok (.iaload, 1) := by decide +kernel
theorem dX8_carries_242 : decode cX8_carries 242 = .ok (.invokevirtual 202, 3) := by decide +kernel
theorem dX8_carries_245 : decode cX8_carries 245 = .ok (.ireturn, 1) := by decide +kernel
theorem dX8_carries_246 : decode cX8_carries 246 = .ok (.aload_n 0, 1) := by decide +kernel
theorem dX8_carries_247 : decode cX8_carries 247 = .ok (.aload_n 0, 1) := by decide +kernel
theorem dX8_carries_248 : decode cX8_carries 248 = .ok (.getfield 43, 3) := by decide +kernel
theorem dX8_carries_251 : decode cX8_carries 251 = .ok (.iload_n 1, 1) := by decide +kernel
theorem dX8_carries_252 : decode cX8_carries 252 = .ok (.iconst 1, 1) := by decide +kernel
theorem dX8_carries_253 : decode cX8_carries 253 = .ok (.iadd, 1) := by decide +kernel
theorem dX8_carries_254 : decode cX8_carries 254 = .ok (.iaload, 1) := by decide +kernel
theorem dX8_carries_255 : decode cX8_carries 255 = .ok (.invokevirtual 205, 3) := by decide +kernel
theorem dX8_carries_258 : decode cX8_carries 258 = .ok (.ireturn, 1) := by decide +kernel
set_option maxRecDepth 20000 in
theorem ggX8_commands_X8_isText : GoodIn wsX8_commands wsX8_isText := goodIn_ca (goodIn_r _ [14, 1, 8, 3, 15, 16, 17, 13, 18, 19, 20, 21, 22, 23, 24, 25, 26, 27, 28, 29, 30, 31, 32, 33, 34, 35, 154, 155, 156, 157, 158, 159, 160, 161, 162, 163, 164, 165, 166, 167, 168, 169, 170, 171, 172, 173, 174, 175, 176, 177] (by decide +kernel) (by decide +kernel)) (goodIn_sub (fun _ h => List.mem_cons_of_mem _ (List.mem_append_right _ h)) (by decide +kernel))
set_option maxRecDepth 20000 in
theorem gX8_commands_X8_isText : GoodIn wsX8_commands (wsV RX8 208 RX8 yX8_isText wsX8_isText) := goodIn_app (goodIn_of _ (by decide +kernel)) ggX8_commands_X8_isText
set_option maxRecDepth 20000 in
theorem ggX8_commands_X8_fails : GoodIn wsX8_commands wsX8_fails := goodIn_r _ [39, 9, 154, 155, 156, 157, 158, 159, 160, 161, 162, 163, 164, 165, 166, 167, 168, 169, 170, 171, 172, 173, 174, 175, 176, 177] (by decide +kernel) (by decide +kernel)
set_option maxRecDepth 20000 in
theorem gX8_commands_X8_fails : GoodIn wsX8_commands (wsV RX8 138 RX8 yX8_fails wsX8_fails) := goodIn_app (goodIn_of _ (by decide +kernel)) ggX8_commands_X8_fails
set_option maxRecDepth 20000 in
theorem ggX8_commands_X8_copies : GoodIn wsX8_commands wsX8_copies := goodIn_ca (goodIn_r _ [42] (by decide +kernel) (by decide +kernel)) (goodIn_sub (fun _ h => List.mem_cons_of_mem _ (List.mem_append_right _ h)) (by decide +kernel))
set_option maxRecDepth 20000 in
theorem gX8_commands_X8_copies : GoodIn wsX8_commands (va_wsS RX8 68 yX8_copies wsX8_copies) := goodIn_app (goodIn_of _ (by decide +kernel)) ggX8_commands_X8_copies
set_option maxRecDepth 20000 in
theorem ggX8_commands_X8_carries : GoodIn wsX8_commands wsX8_carries := goodIn_ca (goodIn_r _ [46, 19, 47, 48, 49, 13, 50, 4, 51, 52, 53, 54, 55, 56, 57, 58, 59, 60, 61, 62, 63, 64, 65, 66, 67, 68, 69, 70, 71, 72, 73, 74, 75, 76, 77, 78, 79, 80, 81, 82, 83, 9, 84, 85, 6, 7, 86, 87, 88, 89, 90, 91, 92, 40, 41, 42, 93, 94, 95, 96, 97, 98, 99, 100, 101, 102, 103, 104, 105, 106, 107, 108, 109, 33, 34, 35, 110, 111, 112, 113, 114, 115, 116, 117, 118, 119, 120, 121, 122, 123, 124, 125, 126, 127, 128, 129, 130, 131, 132, 133, 134, 135, 136, 137, 138, 139, 140, 141, 142, 143, 144, 145, 146, 147, 148, 149, 150, 151, 152, 153, 154, 155, 156, 157, 158, 159, 160, 161, 162, 163, 164, 165, 166, 167, 168, 169, 170, 171, 172, 173, 174, 175, 176, 177] (by decide +kernel) (by decide +kernel)) (goodIn_sub (fun _ h => List.mem_cons_of_mem _ (List.mem_append_right _ h)) (by decide +kernel))
set_option maxRecDepth 20000 in
theorem gX8_commands_X8_carries : GoodIn wsX8_commands (wsV RX8 211 RX8 yX8_carries wsX8_carries) := goodIn_app (goodIn_of _ (by decide +kernel)) ggX8_commands_X8_carries
set_option maxRecDepth 20000 in
theorem ggX8_commands_X8_keeps : GoodIn wsX8_commands wsX8_keeps := goodIn_ca (goodIn_r _ [90, 9, 6, 91, 92, 40, 41, 13, 42, 154, 155, 156, 157, 158, 159, 160, 161, 162, 163, 164, 165, 166, 167, 168, 169, 170, 171, 172, 173, 174, 175, 176, 177] (by decide +kernel) (by decide +kernel)) (goodIn_sub (fun _ h => List.mem_cons_of_mem _ (List.mem_append_right _ h)) (by decide +kernel))
set_option maxRecDepth 20000 in
theorem gX8_commands_X8_keeps : GoodIn wsX8_commands (wsV RX8 101 RX8 yX8_keeps wsX8_keeps) := goodIn_app (goodIn_of _ (by decide +kernel)) ggX8_commands_X8_keeps
theorem dX8_commands_0 : decode cX8_commands 0 = .ok (.aload_n 0, 1) := by decide +kernel
theorem dX8_commands_1 : decode cX8_commands 1 = .ok (.invokevirtual 208, 3) := by decide +kernel
theorem dX8_commands_4 : decode cX8_commands 4 = .ok (.istore_n 1, 1) := by decide +kernel
theorem dX8_commands_5 : decode cX8_commands 5 = .ok (.aload_n 0, 1) := by decide +kernel
theorem dX8_commands_6 : decode cX8_commands 6 = .ok (.iload_n 1, 1) := by decide +kernel
theorem dX8_commands_7 : decode cX8_commands 7 = .ok (.ifCond .eq 7, 3) := by decide +kernel
theorem dX8_commands_10 : decode cX8_commands 10 = .ok (.iconst (-1), 1) := by decide +kernel
theorem dX8_commands_11 : decode cX8_commands 11 = .ok (.goto 7, 3) := by decide +kernel
theorem dX8_commands_14 : decode cX8_commands 14 = .ok (.aload_n 0, 1) := by decide +kernel
theorem dX8_commands_15 : decode cX8_commands 15 = .ok (.getfield 165, 3) := by decide +kernel
theorem dX8_commands_18 : decode cX8_commands 18 = .ok (.putfield 28, 3) := by decide +kernel
theorem dX8_commands_21 : decode cX8_commands 21 = .ok (.aload_n 0, 1) := by decide +kernel
theorem dX8_commands_22 : decode cX8_commands 22 = .ok (.iconst 0, 1) := by decide +kernel
theorem dX8_commands_23 : decode cX8_commands 23 = .ok (.putfield 162, 3) := by decide +kernel
theorem dX8_commands_26 : decode cX8_commands 26 = .ok (.aload_n 0, 1) := by decide +kernel
theorem dX8_commands_27 : decode cX8_commands 27 = .ok (.iload_n 1, 1) := by decide +kernel
theorem dX8_commands_28 : decode cX8_commands 28 = .ok (.ifCond .eq 7, 3) := by decide +kernel
theorem dX8_commands_31 : decode cX8_commands 31 = .ok (.iconst 0, 1) := by decide +kernel
theorem dX8_commands_32 : decode cX8_commands 32 = .ok (.goto 4, 3) := by decide +kernel
theorem dX8_commands_35 : decode cX8_commands 35 = .ok (.iconst 1, 1) := by decide +kernel
theorem dX8_commands_36 : decode cX8_commands 36 = .ok (.invokevirtual 138, 3) := by decide +kernel
theorem dX8_commands_39 : decode cX8_commands 39 = .ok (.ifCond .eq 5, 3) := by decide +kernel
theorem dX8_commands_42 : decode cX8_commands 42 = .ok (.iconst 0, 1) := by decide +kernel
theorem dX8_commands_43 : decode cX8_commands 43 = .ok (.ireturn, 1) := by decide +kernel
theorem dX8_commands_44 : decode cX8_commands 44 = .ok (.aload_n 0, 1) := by decide +kernel
theorem dX8_commands_45 : decode cX8_commands 45 = .ok (.getfield 7, 3) := by decide +kernel
theorem dX8_commands_48 : decode cX8_commands 48 = .ok (.iconst 0, 1) := by decide +kernel
theorem dX8_commands_49 : decode cX8_commands 49 = .ok (.aload_n 0, 1) := by decide +kernel
theorem dX8_commands_50 : decode cX8_commands 50 = .ok (.getfield 19, 3) := by decide +kernel
theorem dX8_commands_53 : decode cX8_commands 53 = .ok (.iconst 0, 1) := by decide +kernel
theorem dX8_commands_54 : decode cX8_commands 54 = .ok (.invokestatic 68, 3) := by decide +kernel
theorem dX8_commands_57 : decode cX8_commands 57 = .ok (.aload_n 0, 1) := by decide +kernel
theorem dX8_commands_58 : decode cX8_commands 58 = .ok (.iconst 1, 1) := by decide +kernel
theorem dX8_commands_59 : decode cX8_commands 59 = .ok (.putfield 55, 3) := by decide +kernel
theorem dX8_commands_62 : decode cX8_commands 62 = .ok (.aload_n 0, 1) := by decide +kernel
theorem dX8_commands_63 : decode cX8_commands 63 = .ok (.iconst 0, 1) := by decide +kernel
theorem dX8_commands_64 : decode cX8_commands 64 = .ok (.putfield 59, 3) := by decide +kernel
theorem dX8_commands_67 : decode cX8_commands 67 = .ok (.iconst 0, 1) := by decide +kernel
theorem dX8_commands_68 : decode cX8_commands 68 = .ok (.istore_n 2, 1) := by decide +kernel
theorem dX8_commands_69 : decode cX8_commands 69 = .ok (.aload_n 0, 1) := by decide +kernel
theorem dX8_commands_70 : decode cX8_commands 70 = .ok (.getfield 59, 3) := by decide +kernel
theorem dX8_commands_73 : decode cX8_commands 73 = .ok (.aload_n 0, 1) := by decide +kernel
theorem dX8_commands_74 : decode cX8_commands 74 = .ok (.getfield 171, 3) := by decide +kernel
theorem dX8_commands_77 : decode cX8_commands 77 = .ok (.if_icmp .ge 41, 3) := by decide +kernel
theorem dX8_commands_80 : decode cX8_commands 80 = .ok (.aload_n 0, 1) := by decide +kernel
theorem dX8_commands_81 : decode cX8_commands 81 = .ok (.getfield 46, 3) := by decide +kernel
theorem dX8_commands_84 : decode cX8_commands 84 = .ok (.ifCond .ne 34, 3) := by decide +kernel
theorem dX8_commands_87 : decode cX8_commands 87 = .ok (.aload_n 0, 1) := by decide +kernel
theorem dX8_commands_88 : decode cX8_commands 88 = .ok (.iconst 4, 1) := by decide +kernel
theorem dX8_commands_89 : decode cX8_commands 89 = .ok (.aload_n 0, 1) := by decide +kernel
theorem dX8_commands_90 : decode cX8_commands 90 = .ok (.getfield 59, 3) := by decide +kernel
theorem dX8_commands_93 : decode cX8_commands 93 = .ok (.imul, 1) := by decide +kernel
theorem dX8_commands_94 : decode cX8_commands 94 = .ok (.invokevirtual 211, 3) := by decide +kernel
theorem dX8_commands_97 : decode cX8_commands 97 = .ok (.istore_n 2, 1) := by decide +kernel
theorem dX8_commands_98 : decode cX8_commands 98 = .ok (.aload_n 0, 1) := by decide +kernel
theorem dX8_commands_99 : decode cX8_commands 99 = .ok (.getfield 46, 3) := by decide +kernel
theorem dX8_commands_102 : decode cX8_commands 102 = .ok (.ifCond .ne (-33), 3) := by decide +kernel
theorem dX8_commands_105 : decode cX8_commands 105 = .ok (.aload_n 0, 1) := by decide +kernel
theorem dX8_commands_106 : decode cX8_commands 106 = .ok (.dup, 1) := by decide +kernel
theorem dX8_commands_107 : decode cX8_commands 107 = .ok (.getfield 59, 3) := by decide +kernel
theorem dX8_commands_110 : decode cX8_commands 110 = .ok (.iconst 1, 1) := by decide +kernel
theorem dX8_commands_111 : decode cX8_commands 111 = .ok (.iadd, 1) := by decide +kernel
theorem dX8_commands_112 : decode cX8_commands 112 = .ok (.putfield 59, 3) := by decide +kernel
theorem dX8_commands_115 : decode cX8_commands 115 = .ok (.goto (-46), 3) := by decide +kernel
theorem dX8_commands_118 : decode cX8_commands 118 = .ok (.aload_n 0, 1) := by decide +kernel
theorem dX8_commands_119 : decode cX8_commands 119 = .ok (.iconst 0, 1) := by decide +kernel
theorem dX8_commands_120 : decode cX8_commands 120 = .ok (.putfield 55, 3) := by decide +kernel
theorem dX8_commands_123 : decode cX8_commands 123 = .ok (.aload_n 0, 1) := by decide +kernel
theorem dX8_commands_124 : decode cX8_commands 124 = .ok (.getfield 46, 3) := by decide +kernel
theorem dX8_commands_127 : decode cX8_commands 127 = .ok (.ifCond .le 31, 3) := by decide +kernel
theorem dX8_commands_130 : decode cX8_commands 130 = .ok (.aload_n 0, 1) := by decide +kernel
theorem dX8_commands_131 : decode cX8_commands 131 = .ok (.getfield 19, 3) := by decide +kernel
theorem dX8_commands_134 : decode cX8_commands 134 = .ok (.iconst 0, 1) := by decide +kernel
theorem dX8_commands_135 : decode cX8_commands 135 = .ok (.aload_n 0, 1) := by decide +kernel
theorem dX8_commands_136 : decode cX8_commands 136 = .ok (.getfield 7, 3) := by decide +kernel
theorem dX8_commands_139 : decode cX8_commands 139 = .ok (.iconst 0, 1) := by decide +kernel
theorem dX8_commands_140 : decode cX8_commands 140 = .ok (.invokestatic 68, 3) := by decide +kernel
theorem dX8_commands_143 : decode cX8_commands 143 = .ok (.aload_n 0, 1) := by decide +kernel
theorem dX8_commands_144 : decode cX8_commands 144 = .ok (.iconst 2, 1) := by decide +kernel
theorem dX8_commands_145 : decode cX8_commands 145 = .ok (.putfield 46, 3) := by decide +kernel
theorem dX8_commands_148 : decode cX8_commands 148 = .ok (.iload_n 2, 1) := by decide +kernel
theorem dX8_commands_149 : decode cX8_commands 149 = .ok (.ifCond .le 7, 3) := by decide +kernel
theorem dX8_commands_152 : decode cX8_commands 152 = .ok (.iconst 0, 1) := by decide +kernel
theorem dX8_commands_153 : decode cX8_commands 153 = .ok (.goto 4, 3) := by decide +kernel
theorem dX8_commands_156 : decode cX8_commands 156 = .ok (.iload_n 2, 1) := by decide +kernel
theorem dX8_commands_157 : decode cX8_commands 157 = .ok (.ireturn, 1) := by decide +kernel
theorem dX8_commands_158 : decode cX8_commands 158 = .ok (.aload_n 0, 1) := by decide +kernel
theorem dX8_commands_159 : decode cX8_commands 159 = .ok (.aload_n 0, 1) := by decide +kernel
theorem dX8_commands_160 : decode cX8_commands 160 = .ok (.getfield 19, 3) := by decide +kernel
theorem dX8_commands_163 : decode cX8_commands 163 = .ok (.invokevirtual 101, 3) := by decide +kernel
theorem dX8_commands_166 : decode cX8_commands 166 = .ok (.aload_n 0, 1) := by decide +kernel
theorem dX8_commands_167 : decode cX8_commands 167 = .ok (.getfield 171, 3) := by decide +kernel
theorem dX8_commands_170 : decode cX8_commands 170 = .ok (.ireturn, 1) := by decide +kernel
theorem dX8_faultPosition_0 : decode cX8_faultPosition 0 = .ok (.aload_n 0, 1) := by decide +kernel
theorem dX8_faultPosition_1 : decode cX8_faultPosition 1 = .ok (.iconst 0, 1) := by decide +kernel
theorem dX8_faultPosition_2 : decode cX8_faultPosition 2 = .ok (.putfield 46, 3) := by decide +kernel
theorem dX8_faultPosition_5 : decode cX8_faultPosition 5 = .ok (.aload_n 0, 1) := by decide +kernel
theorem dX8_faultPosition_6 : decode cX8_faultPosition 6 = .ok (.getfield 28, 3) := by decide +kernel
theorem dX8_faultPosition_9 : decode cX8_faultPosition 9 = .ok (.ireturn, 1) := by decide +kernel
set_option maxRecDepth 20000 in
theorem ggX8_reason_X8_in : GoodIn wsX8_reason wsX8_in := goodIn_r _ [7] (by decide +kernel) (by decide +kernel)
set_option maxRecDepth 20000 in
theorem gX8_reason_X8_in : GoodIn wsX8_reason (va_wsS RX8 72 yX8_in wsX8_in) := goodIn_app (goodIn_of _ (by decide +kernel)) ggX8_reason_X8_in
set_option maxRecDepth 20000 in
theorem ggX8_reason_X8_fails : GoodIn wsX8_reason wsX8_fails := goodIn_r _ [11, 12, 13, 14, 15, 16, 17, 18, 19, 20, 21, 22, 23, 24, 25, 26, 27, 28, 29, 30, 31, 32, 33, 34, 35, 36] (by decide +kernel) (by decide +kernel)
set_option maxRecDepth 20000 in
theorem gX8_reason_X8_fails : GoodIn wsX8_reason (wsV RX8 138 RX8 yX8_fails wsX8_fails) := goodIn_app (goodIn_of _ (by decide +kernel)) ggX8_reason_X8_fails
theorem dX8_reason_0 : decode cX8_reason 0 = .ok (.aload_n 0, 1) := by decide +kernel
theorem dX8_reason_1 : decode cX8_reason 1 = .ok (.iload_n 1, 1) := by decide +kernel
theorem dX8_reason_2 : decode cX8_reason 2 = .ok (.iconst 0, 1) := by decide +kernel
theorem dX8_reason_3 : decode cX8_reason 3 = .ok (.iconst 2, 1) := by decide +kernel
theorem dX8_reason_4 : decode cX8_reason 4 = .ok (.invokestatic 72, 3) := by decide +kernel
theorem dX8_reason_7 : decode cX8_reason 7 = .ok (.ifCond .ne 7, 3) := by decide +kernel
theorem dX8_reason_10 : decode cX8_reason 10 = .ok (.iconst 1, 1) := by decide +kernel
theorem dX8_reason_11 : decode cX8_reason 11 = .ok (.goto 15, 3) := by decide +kernel
theorem dX8_reason_14 : decode cX8_reason 14 = .ok (.aload_n 0, 1) := by decide +kernel
theorem dX8_reason_15 : decode cX8_reason 15 = .ok (.getfield 49, 3) := by decide +kernel
theorem dX8_reason_18 : decode cX8_reason 18 = .ok (.ifCond .ne 7, 3) := by decide +kernel
theorem dX8_reason_21 : decode cX8_reason 21 = .ok (.iconst 2, 1) := by decide +kernel
theorem dX8_reason_22 : decode cX8_reason 22 = .ok (.goto 4, 3) := by decide +kernel
theorem dX8_reason_25 : decode cX8_reason 25 = .ok (.iconst 0, 1) := by decide +kernel
theorem dX8_reason_26 : decode cX8_reason 26 = .ok (.invokevirtual 138, 3) := by decide +kernel
theorem dX8_reason_29 : decode cX8_reason 29 = .ok (.ifCond .eq 7, 3) := by decide +kernel
theorem dX8_reason_32 : decode cX8_reason 32 = .ok (.iconst 0, 1) := by decide +kernel
theorem dX8_reason_33 : decode cX8_reason 33 = .ok (.goto 30, 3) := by decide +kernel
theorem dX8_reason_36 : decode cX8_reason 36 = .ok (.iload_n 1, 1) := by decide +kernel
theorem dX8_reason_37 : decode cX8_reason 37 = .ok (.ifCond .ne 10, 3) := by decide +kernel
theorem dX8_reason_40 : decode cX8_reason 40 = .ok (.aload_n 0, 1) := by decide +kernel
theorem dX8_reason_41 : decode cX8_reason 41 = .ok (.getfield 49, 3) := by decide +kernel
theorem dX8_reason_44 : decode cX8_reason 44 = .ok (.goto 19, 3) := by decide +kernel
theorem dX8_reason_47 : decode cX8_reason 47 = .ok (.iload_n 1, 1) := by decide +kernel
theorem dX8_reason_48 : decode cX8_reason 48 = .ok (.iconst 1, 1) := by decide +kernel
theorem dX8_reason_49 : decode cX8_reason 49 = .ok (.if_icmp .ne 10, 3) := by decide +kernel
theorem dX8_reason_52 : decode cX8_reason 52 = .ok (.aload_n 0, 1) := by decide +kernel
theorem dX8_reason_53 : decode cX8_reason 53 = .ok (.getfield 52, 3) := by decide +kernel
theorem dX8_reason_56 : decode cX8_reason 56 = .ok (.goto 7, 3) := by decide +kernel
theorem dX8_reason_59 : decode cX8_reason 59 = .ok (.aload_n 0, 1) := by decide +kernel
theorem dX8_reason_60 : decode cX8_reason 60 = .ok (.getfield 62, 3) := by decide +kernel
theorem dX8_reason_63 : decode cX8_reason 63 = .ok (.ireturn, 1) := by decide +kernel
theorem dX8_writes_0 : decode cX8_writes 0 = .ok (.aload_n 0, 1) := by decide +kernel
theorem dX8_writes_1 : decode cX8_writes 1 = .ok (.getfield 32, 3) := by decide +kernel
theorem dX8_writes_4 : decode cX8_writes 4 = .ok (.aload_n 0, 1) := by decide +kernel
theorem dX8_writes_5 : decode cX8_writes 5 = .ok (.getfield 214, 3) := by decide +kernel
theorem dX8_writes_8 : decode cX8_writes 8 = .ok (.iload_n 1, 1) := by decide +kernel
theorem dX8_writes_9 : decode cX8_writes 9 = .ok (.i2c, 1) := by decide +kernel
theorem dX8_writes_10 : decode cX8_writes 10 = .ok (.castore, 1) := by decide +kernel
theorem dX8_writes_11 : decode cX8_writes 11 = .ok (.aload_n 0, 1) := by decide +kernel
theorem dX8_writes_12 : decode cX8_writes 12 = .ok (.dup, 1) := by decide +kernel
theorem dX8_writes_13 : decode cX8_writes 13 = .ok (.getfield 214, 3) := by decide +kernel
theorem dX8_writes_16 : decode cX8_writes 16 = .ok (.iconst 1, 1) := by decide +kernel
theorem dX8_writes_17 : decode cX8_writes 17 = .ok (.iadd, 1) := by decide +kernel
theorem dX8_writes_18 : decode cX8_writes 18 = .ok (.putfield 214, 3) := by decide +kernel
theorem dX8_writes_21 : decode cX8_writes 21 = .ok (.return_, 1) := by decide +kernel
set_option maxRecDepth 20000 in
theorem ggX8_writesNumber_X8_writes : GoodIn wsX8_writesNumber wsX8_writes := goodIn_ca (goodIn_r _ [5, 6, 7, 8, 9, 10, 11, 12, 13, 14, 15, 16, 17, 18, 19, 20, 21, 22, 23, 24, 25, 26, 27, 28, 29, 30, 31] (by decide +kernel) (by decide +kernel)) (goodIn_sub (fun _ h => List.mem_cons_of_mem _ (List.mem_append_right _ h)) (by decide +kernel))
set_option maxRecDepth 20000 in
theorem gX8_writesNumber_X8_writes : GoodIn wsX8_writesNumber (wsV RX8 217 RX8 yX8_writes wsX8_writes) := goodIn_app (goodIn_of _ (by decide +kernel)) ggX8_writesNumber_X8_writes
theorem dX8_writesNumber_0 : decode cX8_writesNumber 0 = .ok (.iload_n 1, 1) := by decide +kernel
theorem dX8_writesNumber_1 : decode cX8_writesNumber 1 = .ok (.bipush 9, 2) := by decide +kernel
theorem dX8_writesNumber_3 : decode cX8_writesNumber 3 = .ok (.if_icmp .le 14, 3) := by decide +kernel
theorem dX8_writesNumber_6 : decode cX8_writesNumber 6 = .ok (.aload_n 0, 1) := by decide +kernel
theorem dX8_writesNumber_7 : decode cX8_writesNumber 7 = .ok (.bipush 48, 2) := by decide +kernel
theorem dX8_writesNumber_9 : decode cX8_writesNumber 9 = .ok (.iload_n 1, 1) := by decide +kernel
theorem dX8_writesNumber_10 : decode cX8_writesNumber 10 = .ok (.bipush 10, 2) := by decide +kernel
theorem dX8_writesNumber_12 : decode cX8_writesNumber 12 = .ok (.idiv, 1) := by decide +kernel
theorem dX8_writesNumber_13 : decode cX8_writesNumber 13 = .ok (.iadd, 1) := by decide +kernel
theorem dX8_writesNumber_14 : decode cX8_writesNumber 14 = .ok (.invokevirtual 217, 3) := by decide +kernel
theorem dX8_writesNumber_17 : decode cX8_writesNumber 17 = .ok (.aload_n 0, 1) := by decide +kernel
theorem dX8_writesNumber_18 : decode cX8_writesNumber 18 = .ok (.bipush 48, 2) := by decide +kernel
theorem dX8_writesNumber_20 : decode cX8_writesNumber 20 = .ok (.iload_n 1, 1) := by decide +kernel
theorem dX8_writesNumber_21 : decode cX8_writesNumber 21 = .ok (.bipush 10, 2) := by decide +kernel
theorem dX8_writesNumber_23 : decode cX8_writesNumber 23 = .ok (.irem, 1) := by decide +kernel
theorem dX8_writesNumber_24 : decode cX8_writesNumber 24 = .ok (.iadd, 1) := by decide +kernel
theorem dX8_writesNumber_25 : decode cX8_writesNumber 25 = .ok (.invokevirtual 217, 3) := by decide +kernel
theorem dX8_writesNumber_28 : decode cX8_writesNumber 28 = .ok (.return_, 1) := by decide +kernel
set_option maxRecDepth 20000 in
theorem ggX8_line_X8_writes : GoodIn wsX8_line wsX8_writes := goodIn_ca (goodIn_r _ [8, 9, 2, 22, 23, 24, 25, 26, 27, 28, 29, 30, 31, 32, 33, 34, 35, 36, 37, 38, 39, 40, 41, 42, 43, 44, 45] (by decide +kernel) (by decide +kernel)) (goodIn_sub (fun _ h => List.mem_cons_of_mem _ (List.mem_append_right _ h)) (by decide +kernel))
set_option maxRecDepth 20000 in
theorem gX8_line_X8_writes : GoodIn wsX8_line (wsV RX8 217 RX8 yX8_writes wsX8_writes) := goodIn_app (goodIn_of _ (by decide +kernel)) ggX8_line_X8_writes
set_option maxRecDepth 20000 in
theorem ggX8_line_X8_writesNumber : GoodIn wsX8_line wsX8_writesNumber := goodIn_ca (goodIn_r _ [13, 4, 5, 6, 7, 8, 9, 2, 22, 23, 24, 25, 26, 27, 28, 29, 30, 31, 32, 33, 34, 35, 36, 37, 38, 39, 40, 41, 42, 43, 44, 45] (by decide +kernel) (by decide +kernel)) (goodIn_sub (fun _ h => List.mem_cons_of_mem _ (List.mem_append_right _ h)) (by decide +kernel))
set_option maxRecDepth 20000 in
theorem gX8_line_X8_writesNumber : GoodIn wsX8_line (wsV RX8 221 RX8 yX8_writesNumber wsX8_writesNumber) := goodIn_app (goodIn_of _ (by decide +kernel)) ggX8_line_X8_writesNumber
set_option maxRecDepth 20000 in
theorem ggX8_line_X8_ofLock : GoodIn wsX8_line wsX8_ofLock := goodIn_ca (goodIn_r _ [17, 3, 22, 23, 24, 25, 26, 27, 28, 29, 30, 31, 32, 33, 34, 35, 36, 37, 38, 39, 40, 41, 42, 43, 44, 45] (by decide +kernel) (by decide +kernel)) (goodIn_sub (fun _ h => List.mem_cons_of_mem _ (List.mem_append_right _ h)) (by decide +kernel))
set_option maxRecDepth 20000 in
theorem gX8_line_X8_ofLock : GoodIn wsX8_line (wsV RX8 76 RX8 yX8_ofLock wsX8_ofLock) := goodIn_app (goodIn_of _ (by decide +kernel)) ggX8_line_X8_ofLock
set_option maxRecDepth 20000 in
theorem ggX8_line_X8_ofKey : GoodIn wsX8_line wsX8_ofKey := goodIn_ca (goodIn_r _ [21, 3, 22, 23, 24, 25, 26, 27, 28, 29, 30, 31, 32, 33, 34, 35, 36, 37, 38, 39, 40, 41, 42, 43, 44, 45] (by decide +kernel) (by decide +kernel)) (goodIn_sub (fun _ h => List.mem_cons_of_mem _ (List.mem_append_right _ h)) (by decide +kernel))
set_option maxRecDepth 20000 in
theorem gX8_line_X8_ofKey : GoodIn wsX8_line (wsV RX8 80 RX8 yX8_ofKey wsX8_ofKey) := goodIn_app (goodIn_of _ (by decide +kernel)) ggX8_line_X8_ofKey
theorem dX8_line_0 : decode cX8_line 0 = .ok (.aload_n 0, 1) := by decide +kernel
theorem dX8_line_1 : decode cX8_line 1 = .ok (.iconst 0, 1) := by decide +kernel
theorem dX8_line_2 : decode cX8_line 2 = .ok (.putfield 46, 3) := by decide +kernel
theorem dX8_line_5 : decode cX8_line 5 = .ok (.aload_n 0, 1) := by decide +kernel
theorem dX8_line_6 : decode cX8_line 6 = .ok (.iconst 0, 1) := by decide +kernel
theorem dX8_line_7 : decode cX8_line 7 = .ok (.putfield 214, 3) := by decide +kernel
theorem dX8_line_10 : decode cX8_line 10 = .ok (.iconst 0, 1) := by decide +kernel
theorem dX8_line_11 : decode cX8_line 11 = .ok (.istore_n 2, 1) := by decide +kernel
theorem dX8_line_12 : decode cX8_line 12 = .ok (.iload_n 2, 1) := by decide +kernel
theorem dX8_line_13 : decode cX8_line 13 = .ok (.aload_n 0, 1) := by decide +kernel
theorem dX8_line_14 : decode cX8_line 14 = .ok (.getfield 7, 3) := by decide +kernel
theorem dX8_line_17 : decode cX8_line 17 = .ok (.iload_n 1, 1) := by decide +kernel
theorem dX8_line_18 : decode cX8_line 18 = .ok (.ifCond .eq 7, 3) := by decide +kernel
theorem dX8_line_21 : decode cX8_line 21 = .ok (.iconst 1, 1) := by decide +kernel
theorem dX8_line_22 : decode cX8_line 22 = .ok (.goto 4, 3) := by decide +kernel
theorem dX8_line_25 : decode cX8_line 25 = .ok (.iconst 0, 1) := by decide +kernel
theorem dX8_line_26 : decode cX8_line 26 = .ok (.iaload, 1) := by decide +kernel
theorem dX8_line_27 : decode cX8_line 27 = .ok (.if_icmp .ge 91, 3) := by decide +kernel
theorem dX8_line_30 : decode cX8_line 30 = .ok (.iload_n 2, 1) := by decide +kernel
theorem dX8_line_31 : decode cX8_line 31 = .ok (.ifCond .le 9, 3) := by decide +kernel
theorem dX8_line_34 : decode cX8_line 34 = .ok (.aload_n 0, 1) := by decide +kernel
theorem dX8_line_35 : decode cX8_line 35 = .ok (.bipush 32, 2) := by decide +kernel
theorem dX8_line_37 : decode cX8_line 37 = .ok (.invokevirtual 217, 3) := by decide +kernel
theorem dX8_line_40 : decode cX8_line 40 = .ok (.aload_n 0, 1) := by decide +kernel
theorem dX8_line_41 : decode cX8_line 41 = .ok (.iload_n 2, 1) := by decide +kernel
theorem dX8_line_42 : decode cX8_line 42 = .ok (.invokevirtual 221, 3) := by decide +kernel
theorem dX8_line_45 : decode cX8_line 45 = .ok (.aload_n 0, 1) := by decide +kernel
theorem dX8_line_46 : decode cX8_line 46 = .ok (.bipush 35, 2) := by decide +kernel
theorem dX8_line_48 : decode cX8_line 48 = .ok (.invokevirtual 217, 3) := by decide +kernel
theorem dX8_line_51 : decode cX8_line 51 = .ok (.aload_n 0, 1) := by decide +kernel
theorem dX8_line_52 : decode cX8_line 52 = .ok (.iload_n 1, 1) := by decide +kernel
theorem dX8_line_53 : decode cX8_line 53 = .ok (.ifCond .eq 12, 3) := by decide +kernel
theorem dX8_line_56 : decode cX8_line 56 = .ok (.aload_n 0, 1) := by decide +kernel
theorem dX8_line_57 : decode cX8_line 57 = .ok (.iload_n 2, 1) := by decide +kernel
theorem dX8_line_58 : decode cX8_line 58 = .ok (.iconst 0, 1) := by decide +kernel
theorem dX8_line_59 : decode cX8_line 59 = .ok (.invokevirtual 76, 3) := by decide +kernel
theorem dX8_line_62 : decode cX8_line 62 = .ok (.goto 9, 3) := by decide +kernel
theorem dX8_line_65 : decode cX8_line 65 = .ok (.aload_n 0, 1) := by decide +kernel
theorem dX8_line_66 : decode cX8_line 66 = .ok (.iload_n 2, 1) := by decide +kernel
theorem dX8_line_67 : decode cX8_line 67 = .ok (.iconst 0, 1) := by decide +kernel
theorem dX8_line_68 : decode cX8_line 68 = .ok (.invokevirtual 80, 3) := by decide +kernel
theorem dX8_line_71 : decode cX8_line 71 = .ok (.invokevirtual 221, 3) := by decide +kernel
theorem dX8_line_74 : decode cX8_line 74 = .ok (.iload_n 1, 1) := by decide +kernel
theorem dX8_line_75 : decode cX8_line 75 = .ok (.ifCond .eq 12, 3) := by decide +kernel
theorem dX8_line_78 : decode cX8_line 78 = .ok (.aload_n 0, 1) := by decide +kernel
theorem dX8_line_79 : decode cX8_line 79 = .ok (.iload_n 2, 1) := by decide +kernel
theorem dX8_line_80 : decode cX8_line 80 = .ok (.iconst 1, 1) := by decide +kernel
theorem dX8_line_81 : decode cX8_line 81 = .ok (.invokevirtual 76, 3) := by decide +kernel
theorem dX8_line_84 : decode cX8_line 84 = .ok (.goto 9, 3) := by decide +kernel
theorem dX8_line_87 : decode cX8_line 87 = .ok (.aload_n 0, 1) := by decide +kernel
theorem dX8_line_88 : decode cX8_line 88 = .ok (.iload_n 2, 1) := by decide +kernel
theorem dX8_line_89 : decode cX8_line 89 = .ok (.iconst 2, 1) := by decide +kernel
theorem dX8_line_90 : decode cX8_line 90 = .ok (.invokevirtual 80, 3) := by decide +kernel
theorem dX8_line_93 : decode cX8_line 93 = .ok (.istore_n 3, 1) := by decide +kernel
theorem dX8_line_94 : decode cX8_line 94 = .ok (.iload_n 3, 1) := by decide +kernel
theorem dX8_line_95 : decode cX8_line 95 = .ok (.ifCond .ge 6, 3) := by decide +kernel
theorem dX8_line_98 : decode cX8_line 98 = .ok (.goto 14, 3) := by decide +kernel
theorem dX8_line_101 : decode cX8_line 101 = .ok (.aload_n 0, 1) := by decide +kernel
theorem dX8_line_102 : decode cX8_line 102 = .ok (.bipush 45, 2) := by decide +kernel
theorem dX8_line_104 : decode cX8_line 104 = .ok (.invokevirtual 217, 3) := by decide +kernel
theorem dX8_line_107 : decode cX8_line 107 = .ok (.aload_n 0, 1) := by decide +kernel
theorem dX8_line_108 : decode cX8_line 108 = .ok (.iload_n 3, 1) := by decide +kernel
theorem dX8_line_109 : decode cX8_line 109 = .ok (.invokevirtual 221, 3) := by decide +kernel
theorem dX8_line_112 : decode cX8_line 112 = .ok (.iinc 2 1, 3) := by decide +kernel
theorem dX8_line_115 : decode cX8_line 115 = .ok (.goto (-103), 3) := by decide +kernel
theorem dX8_line_118 : decode cX8_line 118 = .ok (.aload_n 0, 1) := by decide +kernel
theorem dX8_line_119 : decode cX8_line 119 = .ok (.getfield 214, 3) := by decide +kernel
theorem dX8_line_122 : decode cX8_line 122 = .ok (.ireturn, 1) := by decide +kernel
set_option maxRecDepth 20000 in
theorem ggX8_character_X8_in : GoodIn wsX8_character wsX8_in := goodIn_r _ [6] (by decide +kernel) (by decide +kernel)
set_option maxRecDepth 20000 in
theorem gX8_character_X8_in : GoodIn wsX8_character (va_wsS RX8 72 yX8_in wsX8_in) := goodIn_app (goodIn_of _ (by decide +kernel)) ggX8_character_X8_in
set_option maxRecDepth 20000 in
theorem ggX8_character_X8_fails : GoodIn wsX8_character wsX8_fails := goodIn_r _ [10, 11, 12, 13, 14, 15, 16, 17, 18, 19, 20, 21, 22, 23, 24, 25, 26, 27, 28, 29, 30, 31, 32, 33, 34, 35] (by decide +kernel) (by decide +kernel)
set_option maxRecDepth 20000 in
theorem gX8_character_X8_fails : GoodIn wsX8_character (wsV RX8 138 RX8 yX8_fails wsX8_fails) := goodIn_app (goodIn_of _ (by decide +kernel)) ggX8_character_X8_fails
theorem dX8_character_0 : decode cX8_character 0 = .ok (.aload_n 0, 1) := by decide +kernel
theorem dX8_character_1 : decode cX8_character 1 = .ok (.iload_n 1, 1) := by decide +kernel
theorem dX8_character_2 : decode cX8_character 2 = .ok (.iconst 0, 1) := by decide +kernel
theorem dX8_character_3 : decode cX8_character 3 = .ok (.aload_n 0, 1) := by decide +kernel
theorem dX8_character_4 : decode cX8_character 4 = .ok (.getfield 214, 3) := by decide +kernel
theorem dX8_character_7 : decode cX8_character 7 = .ok (.iconst 1, 1) := by decide +kernel
theorem dX8_character_8 : decode cX8_character 8 = .ok (.isub, 1) := by decide +kernel
theorem dX8_character_9 : decode cX8_character 9 = .ok (.invokestatic 72, 3) := by decide +kernel
theorem dX8_character_12 : decode cX8_character 12 = .ok (.ifCond .eq 7, 3) := by decide +kernel
theorem dX8_character_15 : decode cX8_character 15 = .ok (.iconst 0, 1) := by decide +kernel
theorem dX8_character_16 : decode cX8_character 16 = .ok (.goto 4, 3) := by decide +kernel
theorem dX8_character_19 : decode cX8_character 19 = .ok (.iconst 1, 1) := by decide +kernel
theorem dX8_character_20 : decode cX8_character 20 = .ok (.invokevirtual 138, 3) := by decide +kernel
theorem dX8_character_23 : decode cX8_character 23 = .ok (.ifCond .eq 8, 3) := by decide +kernel
theorem dX8_character_26 : decode cX8_character 26 = .ok (.bipush 32, 2) := by decide +kernel
theorem dX8_character_28 : decode cX8_character 28 = .ok (.goto 9, 3) := by decide +kernel
theorem dX8_character_31 : decode cX8_character 31 = .ok (.aload_n 0, 1) := by decide +kernel
theorem dX8_character_32 : decode cX8_character 32 = .ok (.getfield 32, 3) := by decide +kernel
theorem dX8_character_35 : decode cX8_character 35 = .ok (.iload_n 1, 1) := by decide +kernel
theorem dX8_character_36 : decode cX8_character 36 = .ok (.caload, 1) := by decide +kernel
theorem dX8_character_37 : decode cX8_character 37 = .ok (.ireturn, 1) := by decide +kernel
set_option maxRecDepth 20000 in
theorem ggX8_pairs_X8_fitsOf : GoodIn wsX8_pairs wsX8_fitsOf := goodIn_ca (goodIn_r _ [6, 1, 7, 8, 9, 5, 10, 11, 12, 13, 14, 15, 16, 17, 18, 19, 20, 21, 22, 23, 24, 25, 26, 27, 28, 29, 30, 31, 32, 33, 34, 35, 36, 37, 38, 39, 40, 41, 42, 43, 44, 45, 46, 47, 48, 49] (by decide +kernel) (by decide +kernel)) (goodIn_sub (fun _ h => List.mem_cons_of_mem _ (List.mem_append_right _ h)) (by decide +kernel))
set_option maxRecDepth 20000 in
theorem gX8_pairs_X8_fitsOf : GoodIn wsX8_pairs (wsV RX8 144 RX8 yX8_fitsOf wsX8_fitsOf) := goodIn_app (goodIn_of _ (by decide +kernel)) ggX8_pairs_X8_fitsOf
theorem dX8_pairs_0 : decode cX8_pairs 0 = .ok (.iconst 0, 1) := by decide +kernel
theorem dX8_pairs_1 : decode cX8_pairs 1 = .ok (.istore_n 1, 1) := by decide +kernel
theorem dX8_pairs_2 : decode cX8_pairs 2 = .ok (.iconst 0, 1) := by decide +kernel
theorem dX8_pairs_3 : decode cX8_pairs 3 = .ok (.istore_n 2, 1) := by decide +kernel
theorem dX8_pairs_4 : decode cX8_pairs 4 = .ok (.iload_n 2, 1) := by decide +kernel
theorem dX8_pairs_5 : decode cX8_pairs 5 = .ok (.aload_n 0, 1) := by decide +kernel
theorem dX8_pairs_6 : decode cX8_pairs 6 = .ok (.getfield 7, 3) := by decide +kernel
theorem dX8_pairs_9 : decode cX8_pairs 9 = .ok (.iconst 0, 1) := by decide +kernel
theorem dX8_pairs_10 : decode cX8_pairs 10 = .ok (.iaload, 1) := by decide +kernel
theorem dX8_pairs_11 : decode cX8_pairs 11 = .ok (.if_icmp .ge 17, 3) := by decide +kernel
theorem dX8_pairs_14 : decode cX8_pairs 14 = .ok (.iload_n 1, 1) := by decide +kernel
theorem dX8_pairs_15 : decode cX8_pairs 15 = .ok (.aload_n 0, 1) := by decide +kernel
theorem dX8_pairs_16 : decode cX8_pairs 16 = .ok (.iload_n 2, 1) := by decide +kernel
theorem dX8_pairs_17 : decode cX8_pairs 17 = .ok (.invokevirtual 144, 3) := by decide +kernel
theorem dX8_pairs_20 : decode cX8_pairs 20 = .ok (.iadd, 1) := by decide +kernel
theorem dX8_pairs_21 : decode cX8_pairs 21 = .ok (.istore_n 1, 1) := by decide +kernel
theorem dX8_pairs_22 : decode cX8_pairs 22 = .ok (.iinc 2 1, 3) := by decide +kernel
theorem dX8_pairs_25 : decode cX8_pairs 25 = .ok (.goto (-21), 3) := by decide +kernel
theorem dX8_pairs_28 : decode cX8_pairs 28 = .ok (.iload_n 1, 1) := by decide +kernel
theorem dX8_pairs_29 : decode cX8_pairs 29 = .ok (.ireturn, 1) := by decide +kernel
set_option maxRecDepth 20000 in
theorem ggX8_meanFits_X8_fails : GoodIn wsX8_meanFits wsX8_fails := goodIn_r _ [6, 7, 35, 36, 37, 38, 39, 40, 41, 42, 43, 44, 45, 46, 47, 48, 49, 50, 51, 52, 53, 54, 55, 56, 57, 58] (by decide +kernel) (by decide +kernel)
set_option maxRecDepth 20000 in
theorem gX8_meanFits_X8_fails : GoodIn wsX8_meanFits (wsV RX8 138 RX8 yX8_fails wsX8_fails) := goodIn_app (goodIn_of _ (by decide +kernel)) ggX8_meanFits_X8_fails
set_option maxRecDepth 20000 in
theorem ggX8_meanFits_X8_pairs : GoodIn wsX8_meanFits wsX8_pairs := goodIn_ca (goodIn_r _ [11, 1, 12, 13, 14, 5, 15, 16, 17, 18, 19, 20, 21, 22, 23, 24, 25, 26, 27, 28, 29, 30, 31, 32, 33, 34, 35, 36, 37, 38, 39, 40, 41, 42, 43, 44, 45, 46, 47, 48, 49, 50, 51, 52, 53, 54, 55, 56, 57, 58] (by decide +kernel) (by decide +kernel)) (goodIn_sub (fun _ h => List.mem_cons_of_mem _ (List.mem_append_right _ h)) (by decide +kernel))
set_option maxRecDepth 20000 in
theorem gX8_meanFits_X8_pairs : GoodIn wsX8_meanFits (wsV RX8 224 RX8 yX8_pairs wsX8_pairs) := goodIn_app (goodIn_of _ (by decide +kernel)) ggX8_meanFits_X8_pairs
theorem dX8_meanFits_0 : decode cX8_meanFits 0 = .ok (.aload_n 0, 1) := by decide +kernel
theorem dX8_meanFits_1 : decode cX8_meanFits 1 = .ok (.aload_n 0, 1) := by decide +kernel
theorem dX8_meanFits_2 : decode cX8_meanFits 2 = .ok (.getfield 7, 3) := by decide +kernel
theorem dX8_meanFits_5 : decode cX8_meanFits 5 = .ok (.iconst 0, 1) := by decide +kernel
theorem dX8_meanFits_6 : decode cX8_meanFits 6 = .ok (.iaload, 1) := by decide +kernel
theorem dX8_meanFits_7 : decode cX8_meanFits 7 = .ok (.ifCond .ne 7, 3) := by decide +kernel
theorem dX8_meanFits_10 : decode cX8_meanFits 10 = .ok (.iconst 1, 1) := by decide +kernel
theorem dX8_meanFits_11 : decode cX8_meanFits 11 = .ok (.goto 4, 3) := by decide +kernel
theorem dX8_meanFits_14 : decode cX8_meanFits 14 = .ok (.iconst 0, 1) := by decide +kernel
theorem dX8_meanFits_15 : decode cX8_meanFits 15 = .ok (.invokevirtual 138, 3) := by decide +kernel
theorem dX8_meanFits_18 : decode cX8_meanFits 18 = .ok (.ifCond .eq 7, 3) := by decide +kernel
theorem dX8_meanFits_21 : decode cX8_meanFits 21 = .ok (.dconst 0, 1) := by decide +kernel
theorem dX8_meanFits_22 : decode cX8_meanFits 22 = .ok (.goto 16, 3) := by decide +kernel
theorem dX8_meanFits_25 : decode cX8_meanFits 25 = .ok (.aload_n 0, 1) := by decide +kernel
theorem dX8_meanFits_26 : decode cX8_meanFits 26 = .ok (.invokevirtual 224, 3) := by decide +kernel
theorem dX8_meanFits_29 : decode cX8_meanFits 29 = .ok (.i2d, 1) := by decide +kernel
theorem dX8_meanFits_30 : decode cX8_meanFits 30 = .ok (.aload_n 0, 1) := by decide +kernel
theorem dX8_meanFits_31 : decode cX8_meanFits 31 = .ok (.getfield 7, 3) := by decide +kernel
theorem dX8_meanFits_34 : decode cX8_meanFits 34 = .ok (.iconst 0, 1) := by decide +kernel
theorem dX8_meanFits_35 : decode cX8_meanFits 35 = .ok (.iaload, 1) := by decide +kernel
theorem dX8_meanFits_36 : decode cX8_meanFits 36 = .ok (.i2d, 1) := by decide +kernel
theorem dX8_meanFits_37 : decode cX8_meanFits 37 = .ok (.ddiv, 1) := by decide +kernel
theorem dX8_meanFits_38 : decode cX8_meanFits 38 = .ok (.dreturn, 1) := by decide +kernel
set_option maxRecDepth 20000 in
theorem ggX8_openShare_X8_fails : GoodIn wsX8_openShare wsX8_fails := goodIn_r _ [6, 7, 16, 17, 18, 19, 20, 21, 22, 23, 24, 25, 26, 27, 28, 29, 30, 31, 32, 33, 34, 35, 36, 37, 38, 39] (by decide +kernel) (by decide +kernel)
set_option maxRecDepth 20000 in
theorem gX8_openShare_X8_fails : GoodIn wsX8_openShare (wsV RX8 138 RX8 yX8_fails wsX8_fails) := goodIn_app (goodIn_of _ (by decide +kernel)) ggX8_openShare_X8_fails
set_option maxRecDepth 20000 in
theorem ggX8_openShare_X8_openMany : GoodIn wsX8_openShare wsX8_openMany := goodIn_ca (goodIn_r _ [11, 1, 12, 13, 14, 5, 15, 16, 17, 18, 19, 20, 21, 22, 23, 24, 25, 26, 27, 28, 29, 30, 31, 32, 33, 34, 35, 36, 37, 38, 39] (by decide +kernel) (by decide +kernel)) (goodIn_sub (fun _ h => List.mem_cons_of_mem _ (List.mem_append_right _ h)) (by decide +kernel))
set_option maxRecDepth 20000 in
theorem gX8_openShare_X8_openMany : GoodIn wsX8_openShare (wsV RX8 122 RX8 yX8_openMany wsX8_openMany) := goodIn_app (goodIn_of _ (by decide +kernel)) ggX8_openShare_X8_openMany
theorem dX8_openShare_0 : decode cX8_openShare 0 = .ok (.aload_n 0, 1) := by decide +kernel
theorem dX8_openShare_1 : decode cX8_openShare 1 = .ok (.aload_n 0, 1) := by decide +kernel
theorem dX8_openShare_2 : decode cX8_openShare 2 = .ok (.getfield 7, 3) := by decide +kernel
theorem dX8_openShare_5 : decode cX8_openShare 5 = .ok (.iconst 1, 1) := by decide +kernel
theorem dX8_openShare_6 : decode cX8_openShare 6 = .ok (.iaload, 1) := by decide +kernel
theorem dX8_openShare_7 : decode cX8_openShare 7 = .ok (.ifCond .ne 7, 3) := by decide +kernel
theorem dX8_openShare_10 : decode cX8_openShare 10 = .ok (.iconst 1, 1) := by decide +kernel
theorem dX8_openShare_11 : decode cX8_openShare 11 = .ok (.goto 4, 3) := by decide +kernel
theorem dX8_openShare_14 : decode cX8_openShare 14 = .ok (.iconst 0, 1) := by decide +kernel
theorem dX8_openShare_15 : decode cX8_openShare 15 = .ok (.invokevirtual 138, 3) := by decide +kernel
theorem dX8_openShare_18 : decode cX8_openShare 18 = .ok (.ifCond .eq 7, 3) := by decide +kernel
theorem dX8_openShare_21 : decode cX8_openShare 21 = .ok (.fconst 0, 1) := by decide +kernel
theorem dX8_openShare_22 : decode cX8_openShare 22 = .ok (.goto 16, 3) := by decide +kernel
theorem dX8_openShare_25 : decode cX8_openShare 25 = .ok (.aload_n 0, 1) := by decide +kernel
theorem dX8_openShare_26 : decode cX8_openShare 26 = .ok (.invokevirtual 122, 3) := by decide +kernel
theorem dX8_openShare_29 : decode cX8_openShare 29 = .ok (.i2f, 1) := by decide +kernel
theorem dX8_openShare_30 : decode cX8_openShare 30 = .ok (.aload_n 0, 1) := by decide +kernel
theorem dX8_openShare_31 : decode cX8_openShare 31 = .ok (.getfield 7, 3) := by decide +kernel
theorem dX8_openShare_34 : decode cX8_openShare 34 = .ok (.iconst 1, 1) := by decide +kernel
theorem dX8_openShare_35 : decode cX8_openShare 35 = .ok (.iaload, 1) := by decide +kernel
theorem dX8_openShare_36 : decode cX8_openShare 36 = .ok (.i2f, 1) := by decide +kernel
theorem dX8_openShare_37 : decode cX8_openShare 37 = .ok (.fdiv, 1) := by decide +kernel
theorem dX8_openShare_38 : decode cX8_openShare 38 = .ok (.freturn, 1) := by decide +kernel
set_option maxRecDepth 20000 in
theorem ggX8_account_X8_in : GoodIn wsX8_account wsX8_in := goodIn_r _ [7] (by decide +kernel) (by decide +kernel)
set_option maxRecDepth 20000 in
theorem gX8_account_X8_in : GoodIn wsX8_account (va_wsS RX8 72 yX8_in wsX8_in) := goodIn_app (goodIn_of _ (by decide +kernel)) ggX8_account_X8_in
set_option maxRecDepth 20000 in
theorem ggX8_account_X8_fails : GoodIn wsX8_account wsX8_fails := goodIn_r _ [11, 12, 48, 49, 50, 51, 52, 53, 54, 55, 56, 57, 58, 59, 60, 61, 62, 63, 64, 65, 66, 67, 68, 69, 70, 71] (by decide +kernel) (by decide +kernel)
set_option maxRecDepth 20000 in
theorem gX8_account_X8_fails : GoodIn wsX8_account (wsV RX8 138 RX8 yX8_fails wsX8_fails) := goodIn_app (goodIn_of _ (by decide +kernel)) ggX8_account_X8_fails
set_option maxRecDepth 20000 in
theorem ggX8_account_X8_openMany : GoodIn wsX8_account wsX8_openMany := goodIn_ca (goodIn_r _ [16, 1, 17, 18, 19, 6, 20, 48, 49, 50, 51, 52, 53, 54, 55, 56, 57, 58, 59, 60, 61, 62, 63, 64, 65, 66, 67, 68, 69, 70, 71] (by decide +kernel) (by decide +kernel)) (goodIn_sub (fun _ h => List.mem_cons_of_mem _ (List.mem_append_right _ h)) (by decide +kernel))
set_option maxRecDepth 20000 in
theorem gX8_account_X8_openMany : GoodIn wsX8_account (wsV RX8 122 RX8 yX8_openMany wsX8_openMany) := goodIn_app (goodIn_of _ (by decide +kernel)) ggX8_account_X8_openMany
set_option maxRecDepth 20000 in
theorem ggX8_account_X8_pairs : GoodIn wsX8_account wsX8_pairs := goodIn_ca (goodIn_r _ [24, 1, 25, 26, 27, 6, 28, 29, 30, 31, 32, 33, 34, 35, 36, 17, 18, 19, 20, 37, 38, 39, 40, 41, 42, 43, 48, 49, 50, 51, 52, 53, 54, 55, 56, 57, 58, 59, 60, 61, 62, 63, 64, 65, 66, 67, 68, 69, 70, 71] (by decide +kernel) (by decide +kernel)) (goodIn_sub (fun _ h => List.mem_cons_of_mem _ (List.mem_append_right _ h)) (by decide +kernel))
set_option maxRecDepth 20000 in
theorem gX8_account_X8_pairs : GoodIn wsX8_account (wsV RX8 224 RX8 yX8_pairs wsX8_pairs) := goodIn_app (goodIn_of _ (by decide +kernel)) ggX8_account_X8_pairs
set_option maxRecDepth 20000 in
theorem ggX8_account_X8_barredMany : GoodIn wsX8_account wsX8_barredMany := goodIn_ca (goodIn_r _ [47, 1, 48, 49, 50, 51, 52, 53, 54, 55, 56, 57, 58, 59, 60, 61, 62, 63, 64, 65, 66, 67, 68, 69, 70, 71] (by decide +kernel) (by decide +kernel)) (goodIn_sub (fun _ h => List.mem_cons_of_mem _ (List.mem_append_right _ h)) (by decide +kernel))
set_option maxRecDepth 20000 in
theorem gX8_account_X8_barredMany : GoodIn wsX8_account (wsV RX8 116 RX8 yX8_barredMany wsX8_barredMany) := goodIn_app (goodIn_of _ (by decide +kernel)) ggX8_account_X8_barredMany
theorem dX8_account_0 : decode cX8_account 0 = .ok (.aload_n 0, 1) := by decide +kernel
theorem dX8_account_1 : decode cX8_account 1 = .ok (.iload_n 1, 1) := by decide +kernel
theorem dX8_account_2 : decode cX8_account 2 = .ok (.iconst 0, 1) := by decide +kernel
theorem dX8_account_3 : decode cX8_account 3 = .ok (.bipush 11, 2) := by decide +kernel
theorem dX8_account_5 : decode cX8_account 5 = .ok (.invokestatic 72, 3) := by decide +kernel
theorem dX8_account_8 : decode cX8_account 8 = .ok (.ifCond .eq 7, 3) := by decide +kernel
theorem dX8_account_11 : decode cX8_account 11 = .ok (.iconst 0, 1) := by decide +kernel
theorem dX8_account_12 : decode cX8_account 12 = .ok (.goto 4, 3) := by decide +kernel
theorem dX8_account_15 : decode cX8_account 15 = .ok (.iconst 1, 1) := by decide +kernel
theorem dX8_account_16 : decode cX8_account 16 = .ok (.invokevirtual 138, 3) := by decide +kernel
theorem dX8_account_19 : decode cX8_account 19 = .ok (.ifCond .eq 5, 3) := by decide +kernel
theorem dX8_account_22 : decode cX8_account 22 = .ok (.iconst 0, 1) := by decide +kernel
theorem dX8_account_23 : decode cX8_account 23 = .ok (.ireturn, 1) := by decide +kernel
theorem dX8_account_24 : decode cX8_account 24 = .ok (.iload_n 1, 1) := by decide +kernel
theorem dX8_account_25 : decode cX8_account 25 = .ok (.tableswitch 122 0 10 #[59, 59, 66, 71, 76, 81, 88, 95, 102, 109, 117], 59) := by decide +kernel
theorem dX8_account_84 : decode cX8_account 84 = .ok (.aload_n 0, 1) := by decide +kernel
theorem dX8_account_85 : decode cX8_account 85 = .ok (.getfield 7, 3) := by decide +kernel
theorem dX8_account_88 : decode cX8_account 88 = .ok (.iload_n 1, 1) := by decide +kernel
theorem dX8_account_89 : decode cX8_account 89 = .ok (.iaload, 1) := by decide +kernel
theorem dX8_account_90 : decode cX8_account 90 = .ok (.ireturn, 1) := by decide +kernel
theorem dX8_account_91 : decode cX8_account 91 = .ok (.aload_n 0, 1) := by decide +kernel
theorem dX8_account_92 : decode cX8_account 92 = .ok (.invokevirtual 122, 3) := by decide +kernel
theorem dX8_account_95 : decode cX8_account 95 = .ok (.ireturn, 1) := by decide +kernel
theorem dX8_account_96 : decode cX8_account 96 = .ok (.aload_n 0, 1) := by decide +kernel
theorem dX8_account_97 : decode cX8_account 97 = .ok (.invokevirtual 224, 3) := by decide +kernel
theorem dX8_account_100 : decode cX8_account 100 = .ok (.ireturn, 1) := by decide +kernel
theorem dX8_account_101 : decode cX8_account 101 = .ok (.aload_n 0, 1) := by decide +kernel
theorem dX8_account_102 : decode cX8_account 102 = .ok (.invokevirtual 116, 3) := by decide +kernel
theorem dX8_account_105 : decode cX8_account 105 = .ok (.ireturn, 1) := by decide +kernel
theorem dX8_account_106 : decode cX8_account 106 = .ok (.aload_n 0, 1) := by decide +kernel
theorem dX8_account_107 : decode cX8_account 107 = .ok (.getfield 7, 3) := by decide +kernel
theorem dX8_account_110 : decode cX8_account 110 = .ok (.iconst 2, 1) := by decide +kernel
theorem dX8_account_111 : decode cX8_account 111 = .ok (.iaload, 1) := by decide +kernel
theorem dX8_account_112 : decode cX8_account 112 = .ok (.ireturn, 1) := by decide +kernel
theorem dX8_account_113 : decode cX8_account 113 = .ok (.aload_n 0, 1) := by decide +kernel
theorem dX8_account_114 : decode cX8_account 114 = .ok (.getfield 7, 3) := by decide +kernel
theorem dX8_account_117 : decode cX8_account 117 = .ok (.iconst 3, 1) := by decide +kernel
theorem dX8_account_118 : decode cX8_account 118 = .ok (.iaload, 1) := by decide +kernel
theorem dX8_account_119 : decode cX8_account 119 = .ok (.ireturn, 1) := by decide +kernel
theorem dX8_account_120 : decode cX8_account 120 = .ok (.aload_n 0, 1) := by decide +kernel
theorem dX8_account_121 : decode cX8_account 121 = .ok (.getfield 7, 3) := by decide +kernel
theorem dX8_account_124 : decode cX8_account 124 = .ok (.iconst 4, 1) := by decide +kernel
theorem dX8_account_125 : decode cX8_account 125 = .ok (.iaload, 1) := by decide +kernel
theorem dX8_account_126 : decode cX8_account 126 = .ok (.ireturn, 1) := by decide +kernel
theorem dX8_account_127 : decode cX8_account 127 = .ok (.aload_n 0, 1) := by decide +kernel
theorem dX8_account_128 : decode cX8_account 128 = .ok (.getfield 7, 3) := by decide +kernel
theorem dX8_account_131 : decode cX8_account 131 = .ok (.iconst 5, 1) := by decide +kernel
theorem dX8_account_132 : decode cX8_account 132 = .ok (.iaload, 1) := by decide +kernel
theorem dX8_account_133 : decode cX8_account 133 = .ok (.ireturn, 1) := by decide +kernel
theorem dX8_account_134 : decode cX8_account 134 = .ok (.aload_n 0, 1) := by decide +kernel
theorem dX8_account_135 : decode cX8_account 135 = .ok (.getfield 7, 3) := by decide +kernel
theorem dX8_account_138 : decode cX8_account 138 = .ok (.bipush 6, 2) := by decide +kernel
theorem dX8_account_140 : decode cX8_account 140 = .ok (.iaload, 1) := by decide +kernel
theorem dX8_account_141 : decode cX8_account 141 = .ok (.ireturn, 1) := by decide +kernel
theorem dX8_account_142 : decode cX8_account 142 = .ok (.aload_n 0, 1) := by decide +kernel
theorem dX8_account_143 : decode cX8_account 143 = .ok (.getfield 65, 3) := by decide +kernel
theorem dX8_account_146 : decode cX8_account 146 = .ok (.ireturn, 1) := by decide +kernel
theorem dX8_account_147 : decode cX8_account 147 = .ok (.aload_n 0, 1) := by decide +kernel
theorem dX8_account_148 : decode cX8_account 148 = .ok (.getfield 162, 3) := by decide +kernel
theorem dX8_account_151 : decode cX8_account 151 = .ok (.ireturn, 1) := by decide +kernel
set_option maxRecDepth 20000 in
theorem ggX8_undo_X8_fails : GoodIn wsX8_undo wsX8_fails := goodIn_r _ [8, 9, 13, 14, 15, 16, 17, 18, 19, 20, 21, 22, 23, 24, 25, 26, 27, 28, 29, 30, 31, 32, 33, 34, 35, 36] (by decide +kernel) (by decide +kernel)
set_option maxRecDepth 20000 in
theorem gX8_undo_X8_fails : GoodIn wsX8_undo (wsV RX8 138 RX8 yX8_fails wsX8_fails) := goodIn_app (goodIn_of _ (by decide +kernel)) ggX8_undo_X8_fails
set_option maxRecDepth 20000 in
theorem ggX8_undo_X8_copies : GoodIn wsX8_undo wsX8_copies := goodIn_ca (goodIn_r _ [12] (by decide +kernel) (by decide +kernel)) (goodIn_sub (fun _ h => List.mem_cons_of_mem _ (List.mem_append_right _ h)) (by decide +kernel))
set_option maxRecDepth 20000 in
theorem gX8_undo_X8_copies : GoodIn wsX8_undo (va_wsS RX8 68 yX8_copies wsX8_copies) := goodIn_app (goodIn_of _ (by decide +kernel)) ggX8_undo_X8_copies
theorem dX8_undo_0 : decode cX8_undo 0 = .ok (.aload_n 0, 1) := by decide +kernel
theorem dX8_undo_1 : decode cX8_undo 1 = .ok (.aload_n 0, 1) := by decide +kernel
theorem dX8_undo_2 : decode cX8_undo 2 = .ok (.getfield 65, 3) := by decide +kernel
theorem dX8_undo_5 : decode cX8_undo 5 = .ok (.ifCond .ne 7, 3) := by decide +kernel
theorem dX8_undo_8 : decode cX8_undo 8 = .ok (.iconst 1, 1) := by decide +kernel
theorem dX8_undo_9 : decode cX8_undo 9 = .ok (.goto 4, 3) := by decide +kernel
theorem dX8_undo_12 : decode cX8_undo 12 = .ok (.iconst 0, 1) := by decide +kernel
theorem dX8_undo_13 : decode cX8_undo 13 = .ok (.invokevirtual 138, 3) := by decide +kernel
theorem dX8_undo_16 : decode cX8_undo 16 = .ok (.ifCond .eq 5, 3) := by decide +kernel
theorem dX8_undo_19 : decode cX8_undo 19 = .ok (.iconst 0, 1) := by decide +kernel
theorem dX8_undo_20 : decode cX8_undo 20 = .ok (.ireturn, 1) := by decide +kernel
theorem dX8_undo_21 : decode cX8_undo 21 = .ok (.aload_n 0, 1) := by decide +kernel
theorem dX8_undo_22 : decode cX8_undo 22 = .ok (.dup, 1) := by decide +kernel
theorem dX8_undo_23 : decode cX8_undo 23 = .ok (.getfield 65, 3) := by decide +kernel
theorem dX8_undo_26 : decode cX8_undo 26 = .ok (.iconst 1, 1) := by decide +kernel
theorem dX8_undo_27 : decode cX8_undo 27 = .ok (.isub, 1) := by decide +kernel
theorem dX8_undo_28 : decode cX8_undo 28 = .ok (.putfield 65, 3) := by decide +kernel
theorem dX8_undo_31 : decode cX8_undo 31 = .ok (.aload_n 0, 1) := by decide +kernel
theorem dX8_undo_32 : decode cX8_undo 32 = .ok (.getfield 13, 3) := by decide +kernel
theorem dX8_undo_35 : decode cX8_undo 35 = .ok (.sipush 177, 3) := by decide +kernel
theorem dX8_undo_38 : decode cX8_undo 38 = .ok (.aload_n 0, 1) := by decide +kernel
theorem dX8_undo_39 : decode cX8_undo 39 = .ok (.getfield 65, 3) := by decide +kernel
theorem dX8_undo_42 : decode cX8_undo 42 = .ok (.imul, 1) := by decide +kernel
theorem dX8_undo_43 : decode cX8_undo 43 = .ok (.aload_n 0, 1) := by decide +kernel
theorem dX8_undo_44 : decode cX8_undo 44 = .ok (.getfield 7, 3) := by decide +kernel
