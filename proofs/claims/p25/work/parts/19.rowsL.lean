theorem dL_cell_0 : decode cL_cell 0 = .ok (.iload_n 1, 1) := by decide +kernel
theorem dL_cell_1 : decode cL_cell 1 = .ok (.aload_n 0, 1) := by decide +kernel
theorem dL_cell_2 : decode cL_cell 2 = .ok (.arraylength, 1) := by decide +kernel
theorem dL_cell_3 : decode cL_cell 3 = .ok (.if_icmp .ge 9, 3) := by decide +kernel
theorem dL_cell_6 : decode cL_cell 6 = .ok (.aload_n 0, 1) := by decide +kernel
theorem dL_cell_7 : decode cL_cell 7 = .ok (.iload_n 1, 1) := by decide +kernel
theorem dL_cell_8 : decode cL_cell 8 = .ok (.iaload, 1) := by decide +kernel
theorem dL_cell_9 : decode cL_cell 9 = .ok (.goto 13, 3) := by decide +kernel
theorem dL_cell_12 : decode cL_cell 12 = .ok (.ldc 7, 2) := by decide +kernel
theorem dL_cell_14 : decode cL_cell 14 = .ok (.iload_n 1, 1) := by decide +kernel
theorem dL_cell_15 : decode cL_cell 15 = .ok (.bipush 37, 2) := by decide +kernel
theorem dL_cell_17 : decode cL_cell 17 = .ok (.iadd, 1) := by decide +kernel
theorem dL_cell_18 : decode cL_cell 18 = .ok (.imul, 1) := by decide +kernel
theorem dL_cell_19 : decode cL_cell 19 = .ok (.ldc 8, 2) := by decide +kernel
theorem dL_cell_21 : decode cL_cell 21 = .ok (.iadd, 1) := by decide +kernel
theorem dL_cell_22 : decode cL_cell 22 = .ok (.ireturn, 1) := by decide +kernel
theorem dL_low_0 : decode cL_low 0 = .ok (.iload_n 0, 1) := by decide +kernel
theorem dL_low_1 : decode cL_low 1 = .ok (.ldc 9, 2) := by decide +kernel
theorem dL_low_3 : decode cL_low 3 = .ok (.iand, 1) := by decide +kernel
theorem dL_low_4 : decode cL_low 4 = .ok (.iload_n 1, 1) := by decide +kernel
theorem dL_low_5 : decode cL_low 5 = .ok (.irem, 1) := by decide +kernel
theorem dL_low_6 : decode cL_low 6 = .ok (.ireturn, 1) := by decide +kernel
set_option maxRecDepth 20000 in
theorem ggL_calls_X2_move : GoodIn wsL_calls wsX2_move := goodIn_ca (goodIn_ca (goodIn_ca (goodIn_r _ [7, 8, 9, 10, 11, 6, 12, 13, 14, 15, 16, 17, 18, 19, 20, 21, 22, 23, 24, 25, 272, 273, 274, 275, 276, 277, 278, 279, 280] (by decide +kernel) (by decide +kernel)) (goodIn_sub (fun _ h => List.mem_cons_of_mem _ (List.mem_append_left _ (List.mem_append_left _ (List.mem_append_right _ h)))) (by decide +kernel))) (goodIn_sub (fun _ h => List.mem_cons_of_mem _ (List.mem_append_left _ (List.mem_append_right _ h))) (by decide +kernel))) (goodIn_sub (fun _ h => List.mem_cons_of_mem _ (List.mem_append_right _ h)) (by decide +kernel))
set_option maxRecDepth 20000 in
theorem gL_calls_X2_move : GoodIn wsL_calls (wsV RL 10 RX2 yX2_move wsX2_move) := goodIn_app (goodIn_of _ (by decide +kernel)) ggL_calls_X2_move
set_option maxRecDepth 20000 in
theorem ggL_calls_X2_release : GoodIn wsL_calls wsX2_release := goodIn_ca (goodIn_ca (goodIn_r _ [29, 15, 16, 30, 31, 32, 33, 34, 35, 36, 37, 38, 6, 39, 20, 21, 40, 41, 42, 43, 44, 45, 46, 47, 48, 49, 50, 51, 52, 53, 54, 55, 56, 57, 58, 59, 60, 61, 62, 272, 273, 274, 275, 276, 277, 278, 279, 280, 281, 282, 283, 284, 285, 286, 287, 288, 289] (by decide +kernel) (by decide +kernel)) (goodIn_sub (fun _ h => List.mem_cons_of_mem _ (List.mem_append_left _ (List.mem_append_right _ h))) (by decide +kernel))) (goodIn_sub (fun _ h => List.mem_cons_of_mem _ (List.mem_append_right _ h)) (by decide +kernel))
set_option maxRecDepth 20000 in
theorem gL_calls_X2_release : GoodIn wsL_calls (wsV RL 16 RX2 yX2_release wsX2_release) := goodIn_app (goodIn_of _ (by decide +kernel)) ggL_calls_X2_release
set_option maxRecDepth 20000 in
theorem ggL_calls_X2_buy : GoodIn wsL_calls wsX2_buy := goodIn_ca (goodIn_ca (goodIn_ca (goodIn_r _ [66, 36, 37, 38, 6, 39, 20, 21, 67, 68, 69, 13, 14, 70, 71, 72, 73, 15, 16, 31, 40, 41, 42, 43, 44, 45, 74, 75, 76, 77, 78, 79, 80, 30, 81, 82, 83, 84, 85, 86, 87, 88, 89, 90, 91, 92, 93, 94, 95, 96, 97, 98, 62, 99, 100, 101, 102, 103, 104, 105, 106, 107, 108, 109, 110, 111, 112, 113, 114, 115, 116, 117, 118, 119, 120, 121, 122, 123, 124, 125, 126, 127, 128, 129, 130, 131, 132, 133, 134, 135, 136, 137, 138, 139, 140, 141, 142, 143, 144, 145, 272, 273, 274, 275, 276, 277, 278, 279, 280, 287, 288, 289, 281, 282, 283, 284, 285, 286] (by decide +kernel) (by decide +kernel)) (goodIn_sub (fun _ h => List.mem_cons_of_mem _ (List.mem_append_right _ h)) (by decide +kernel))) (goodIn_sub (fun _ h => List.mem_cons_of_mem _ (List.mem_append_left _ (List.mem_append_left _ (List.mem_append_right _ h)))) (by decide +kernel))) (goodIn_sub (fun _ h => List.mem_cons_of_mem _ (List.mem_append_left _ (List.mem_append_right _ h))) (by decide +kernel))
set_option maxRecDepth 20000 in
theorem gL_calls_X2_buy : GoodIn wsL_calls (wsV RL 20 RX2 yX2_buy wsX2_buy) := goodIn_app (goodIn_of _ (by decide +kernel)) ggL_calls_X2_buy
set_option maxRecDepth 20000 in
theorem ggL_calls_X2_upgrade : GoodIn wsL_calls wsX2_upgrade := goodIn_ca (goodIn_ca (goodIn_ca (goodIn_r _ [149, 15, 16, 34, 30, 33, 150, 151, 35, 152, 153, 154, 6, 155, 20, 21, 31, 32, 40, 41, 42, 43, 44, 45, 46, 47, 48, 49, 50, 51, 52, 53, 54, 55, 56, 57, 58, 59, 60, 61, 62, 67, 68, 69, 13, 14, 156, 157, 158, 70, 71, 72, 73, 74, 75, 76, 77, 78, 79, 80, 81, 82, 83, 84, 85, 86, 87, 88, 89, 90, 91, 92, 93, 94, 95, 96, 97, 98, 99, 100, 101, 102, 103, 104, 105, 106, 107, 108, 109, 110, 111, 112, 113, 114, 115, 116, 117, 118, 119, 120, 121, 122, 123, 124, 125, 126, 127, 128, 129, 130, 131, 132, 133, 134, 135, 136, 137, 138, 139, 140, 141, 142, 143, 144, 145, 281, 282, 283, 284, 285, 286, 272, 273, 274, 275, 276, 277, 278, 279, 280, 287, 288, 289] (by decide +kernel) (by decide +kernel)) (goodIn_sub (fun _ h => List.mem_cons_of_mem _ (List.mem_append_left _ (List.mem_append_right _ h))) (by decide +kernel))) (goodIn_sub (fun _ h => List.mem_cons_of_mem _ (List.mem_append_right _ h)) (by decide +kernel))) (goodIn_sub (fun _ h => List.mem_cons_of_mem _ (List.mem_append_left _ (List.mem_append_left _ (List.mem_append_right _ h)))) (by decide +kernel))
set_option maxRecDepth 20000 in
theorem gL_calls_X2_upgrade : GoodIn wsL_calls (wsV RL 24 RX2 yX2_upgrade wsX2_upgrade) := goodIn_app (goodIn_of _ (by decide +kernel)) ggL_calls_X2_upgrade
set_option maxRecDepth 20000 in
theorem ggL_calls_X2_lend : GoodIn wsL_calls wsX2_lend := goodIn_ca (goodIn_ca (goodIn_ca (goodIn_r _ [162, 15, 16, 163, 150, 152, 153, 154, 6, 155, 20, 21, 31, 32, 40, 41, 42, 43, 44, 45, 46, 47, 48, 49, 50, 51, 52, 53, 54, 55, 56, 57, 58, 59, 60, 61, 62, 67, 68, 69, 13, 14, 156, 157, 158, 281, 282, 283, 284, 285, 286, 272, 273, 274, 275, 276, 277, 278, 279, 280, 287, 288, 289] (by decide +kernel) (by decide +kernel)) (goodIn_sub (fun _ h => List.mem_cons_of_mem _ (List.mem_append_left _ (List.mem_append_right _ h))) (by decide +kernel))) (goodIn_sub (fun _ h => List.mem_cons_of_mem _ (List.mem_append_right _ h)) (by decide +kernel))) (goodIn_sub (fun _ h => List.mem_cons_of_mem _ (List.mem_append_left _ (List.mem_append_left _ (List.mem_append_right _ h)))) (by decide +kernel))
set_option maxRecDepth 20000 in
theorem gL_calls_X2_lend : GoodIn wsL_calls (wsV RL 27 RX2 yX2_lend wsX2_lend) := goodIn_app (goodIn_of _ (by decide +kernel)) ggL_calls_X2_lend
set_option maxRecDepth 20000 in
theorem ggL_calls_X2_gapByAll : GoodIn wsL_calls wsX2_gapByAll := goodIn_ca (goodIn_ca (goodIn_r _ [167, 31, 32, 33, 150, 8, 168, 37, 38, 6, 39, 20, 21, 169, 170, 171, 172, 15, 16, 40, 41, 42, 43, 44, 45, 46, 47, 48, 49, 50, 51, 52, 53, 54, 55, 56, 57, 58, 59, 60, 61, 62, 173, 174, 175, 176, 177, 178, 179, 180, 181, 182, 183, 184, 185, 186, 187, 128, 188, 189, 190, 191, 192, 193, 194, 195, 196, 197, 198, 199, 200, 201, 202, 203, 204, 205, 206, 207, 208, 209, 151, 210, 113, 114, 115, 211, 212, 213, 214, 34, 215, 216, 217, 218, 219, 220, 221, 143, 144, 145, 222, 223, 224, 225, 226, 227, 228, 229, 230, 231, 232, 233, 234, 235, 236, 237, 238, 239, 240, 241, 242, 243, 244, 272, 273, 274, 275, 276, 277, 278, 279, 280, 281, 282, 283, 284, 285, 286, 287, 288, 289, 290, 291, 292, 293, 294, 295, 296] (by decide +kernel) (by decide +kernel)) (goodIn_sub (fun _ h => List.mem_cons_of_mem _ (List.mem_append_right _ h)) (by decide +kernel))) (goodIn_sub (fun _ h => List.mem_cons_of_mem _ (List.mem_append_left _ (List.mem_append_right _ h))) (by decide +kernel))
set_option maxRecDepth 20000 in
theorem gL_calls_X2_gapByAll : GoodIn wsL_calls (wsV RL 30 RX2 yX2_gapByAll wsX2_gapByAll) := goodIn_app (goodIn_of _ (by decide +kernel)) ggL_calls_X2_gapByAll
set_option maxRecDepth 20000 in
theorem ggL_calls_X2_gapIf : GoodIn wsL_calls wsX2_gapIf := goodIn_ca (goodIn_ca (goodIn_ca (goodIn_r _ [248, 8, 249, 250, 143, 144, 145, 168, 37, 38, 6, 39, 20, 21, 9, 10, 11, 12, 13, 14, 15, 16, 17, 18, 19, 22, 23, 24, 25, 251, 252, 253, 254, 255, 256, 257, 258, 31, 32, 33, 150, 173, 174, 175, 176, 177, 178, 179, 180, 181, 182, 183, 184, 185, 186, 187, 128, 188, 189, 190, 191, 192, 193, 194, 195, 196, 197, 198, 199, 40, 41, 42, 43, 44, 45, 46, 47, 48, 49, 50, 51, 52, 53, 54, 55, 56, 57, 58, 59, 60, 61, 62, 200, 201, 202, 203, 204, 205, 206, 207, 208, 209, 151, 210, 113, 114, 115, 211, 212, 213, 214, 34, 259, 260, 261, 262, 227, 226, 263, 264, 265, 266, 267, 140, 141, 268, 269, 270, 271, 232, 233, 234, 235, 236, 237, 238, 239, 240, 241, 242, 243, 244, 272, 273, 274, 275, 276, 277, 278, 279, 280, 281, 282, 283, 284, 285, 286, 290, 291, 292, 293, 294, 295, 296, 287, 288, 289] (by decide +kernel) (by decide +kernel)) (goodIn_sub (fun _ h => List.mem_cons_of_mem _ (List.mem_append_right _ h)) (by decide +kernel))) (goodIn_sub (fun _ h => List.mem_cons_of_mem _ (List.mem_append_left _ (List.mem_append_left _ (List.mem_append_right _ h)))) (by decide +kernel))) (goodIn_sub (fun _ h => List.mem_cons_of_mem _ (List.mem_append_left _ (List.mem_append_right _ h))) (by decide +kernel))
set_option maxRecDepth 20000 in
theorem gL_calls_X2_gapIf : GoodIn wsL_calls (wsV RL 33 RX2 yX2_gapIf wsX2_gapIf) := goodIn_app (goodIn_of _ (by decide +kernel)) ggL_calls_X2_gapIf
theorem dL_calls_0 : decode cL_calls 0 = .ok (.iload_n 1, 1) := by decide +kernel
theorem dL_calls_1 : decode cL_calls 1 = .ok (.ifCond .ne 12, 3) := by decide +kernel
theorem dL_calls_4 : decode cL_calls 4 = .ok (.aload_n 0, 1) := by decide +kernel
theorem dL_calls_5 : decode cL_calls 5 = .ok (.iload_n 2, 1) := by decide +kernel
theorem dL_calls_6 : decode cL_calls 6 = .ok (.iload_n 3, 1) := by decide +kernel
theorem dL_calls_7 : decode cL_calls 7 = .ok (.invokevirtual 10, 3) := by decide +kernel
theorem dL_calls_10 : decode cL_calls 10 = .ok (.goto 83, 3) := by decide +kernel
theorem dL_calls_13 : decode cL_calls 13 = .ok (.iload_n 1, 1) := by decide +kernel
theorem dL_calls_14 : decode cL_calls 14 = .ok (.iconst 1, 1) := by decide +kernel
theorem dL_calls_15 : decode cL_calls 15 = .ok (.if_icmp .ne 11, 3) := by decide +kernel
theorem dL_calls_18 : decode cL_calls 18 = .ok (.aload_n 0, 1) := by decide +kernel
theorem dL_calls_19 : decode cL_calls 19 = .ok (.iload_n 2, 1) := by decide +kernel
theorem dL_calls_20 : decode cL_calls 20 = .ok (.invokevirtual 16, 3) := by decide +kernel
theorem dL_calls_23 : decode cL_calls 23 = .ok (.goto 70, 3) := by decide +kernel
theorem dL_calls_26 : decode cL_calls 26 = .ok (.iload_n 1, 1) := by decide +kernel
theorem dL_calls_27 : decode cL_calls 27 = .ok (.iconst 2, 1) := by decide +kernel
theorem dL_calls_28 : decode cL_calls 28 = .ok (.if_icmp .ne 16, 3) := by decide +kernel
theorem dL_calls_31 : decode cL_calls 31 = .ok (.aload_n 0, 1) := by decide +kernel
theorem dL_calls_32 : decode cL_calls 32 = .ok (.iload_n 2, 1) := by decide +kernel
theorem dL_calls_33 : decode cL_calls 33 = .ok (.iload_n 3, 1) := by decide +kernel
theorem dL_calls_34 : decode cL_calls 34 = .ok (.iload 4, 2) := by decide +kernel
theorem dL_calls_36 : decode cL_calls 36 = .ok (.iload 5, 2) := by decide +kernel
theorem dL_calls_38 : decode cL_calls 38 = .ok (.invokevirtual 20, 3) := by decide +kernel
theorem dL_calls_41 : decode cL_calls 41 = .ok (.goto 52, 3) := by decide +kernel
theorem dL_calls_44 : decode cL_calls 44 = .ok (.iload_n 1, 1) := by decide +kernel
theorem dL_calls_45 : decode cL_calls 45 = .ok (.iconst 3, 1) := by decide +kernel
theorem dL_calls_46 : decode cL_calls 46 = .ok (.if_icmp .ne 12, 3) := by decide +kernel
theorem dL_calls_49 : decode cL_calls 49 = .ok (.aload_n 0, 1) := by decide +kernel
theorem dL_calls_50 : decode cL_calls 50 = .ok (.iload_n 2, 1) := by decide +kernel
theorem dL_calls_51 : decode cL_calls 51 = .ok (.iload_n 3, 1) := by decide +kernel
theorem dL_calls_52 : decode cL_calls 52 = .ok (.invokevirtual 24, 3) := by decide +kernel
theorem dL_calls_55 : decode cL_calls 55 = .ok (.goto 38, 3) := by decide +kernel
theorem dL_calls_58 : decode cL_calls 58 = .ok (.iload_n 1, 1) := by decide +kernel
theorem dL_calls_59 : decode cL_calls 59 = .ok (.iconst 4, 1) := by decide +kernel
theorem dL_calls_60 : decode cL_calls 60 = .ok (.if_icmp .ne 12, 3) := by decide +kernel
theorem dL_calls_63 : decode cL_calls 63 = .ok (.aload_n 0, 1) := by decide +kernel
theorem dL_calls_64 : decode cL_calls 64 = .ok (.iload_n 2, 1) := by decide +kernel
theorem dL_calls_65 : decode cL_calls 65 = .ok (.iload_n 3, 1) := by decide +kernel
theorem dL_calls_66 : decode cL_calls 66 = .ok (.invokevirtual 27, 3) := by decide +kernel
theorem dL_calls_69 : decode cL_calls 69 = .ok (.goto 24, 3) := by decide +kernel
theorem dL_calls_72 : decode cL_calls 72 = .ok (.iload_n 1, 1) := by decide +kernel
theorem dL_calls_73 : decode cL_calls 73 = .ok (.iconst 5, 1) := by decide +kernel
theorem dL_calls_74 : decode cL_calls 74 = .ok (.if_icmp .ne 11, 3) := by decide +kernel
theorem dL_calls_77 : decode cL_calls 77 = .ok (.aload_n 0, 1) := by decide +kernel
theorem dL_calls_78 : decode cL_calls 78 = .ok (.iload_n 2, 1) := by decide +kernel
theorem dL_calls_79 : decode cL_calls 79 = .ok (.invokevirtual 30, 3) := by decide +kernel
theorem dL_calls_82 : decode cL_calls 82 = .ok (.goto 11, 3) := by decide +kernel
theorem dL_calls_85 : decode cL_calls 85 = .ok (.aload_n 0, 1) := by decide +kernel
theorem dL_calls_86 : decode cL_calls 86 = .ok (.iload_n 2, 1) := by decide +kernel
theorem dL_calls_87 : decode cL_calls 87 = .ok (.iload_n 3, 1) := by decide +kernel
theorem dL_calls_88 : decode cL_calls 88 = .ok (.iload 4, 2) := by decide +kernel
theorem dL_calls_90 : decode cL_calls 90 = .ok (.invokevirtual 33, 3) := by decide +kernel
theorem dL_calls_93 : decode cL_calls 93 = .ok (.ireturn, 1) := by decide +kernel
theorem dL_calls_94 : decode cL_calls 94 = .ok (.astore 6, 2) := by decide +kernel
theorem dL_calls_96 : decode cL_calls 96 = .ok (.sipush (-2002), 3) := by decide +kernel
theorem dL_calls_99 : decode cL_calls 99 = .ok (.ireturn, 1) := by decide +kernel
theorem dL_calls_100 : decode cL_calls 100 = .ok (.astore 6, 2) := by decide +kernel
theorem dL_calls_102 : decode cL_calls 102 = .ok (.sipush (-2003), 3) := by decide +kernel
theorem dL_calls_105 : decode cL_calls 105 = .ok (.ireturn, 1) := by decide +kernel
theorem dL_host_0 : decode cL_host 0 = .ok (.iconst 0, 1) := by decide +kernel
theorem dL_host_1 : decode cL_host 1 = .ok (.istore_n 2, 1) := by decide +kernel
theorem dL_host_2 : decode cL_host 2 = .ok (.iconst 0, 1) := by decide +kernel
theorem dL_host_3 : decode cL_host 3 = .ok (.istore_n 3, 1) := by decide +kernel
theorem dL_host_4 : decode cL_host 4 = .ok (.iload_n 3, 1) := by decide +kernel
theorem dL_host_5 : decode cL_host 5 = .ok (.iconst 5, 1) := by decide +kernel
theorem dL_host_6 : decode cL_host 6 = .ok (.if_icmp .ge 30, 3) := by decide +kernel
theorem dL_host_9 : decode cL_host 9 = .ok (.iload_n 2, 1) := by decide +kernel
theorem dL_host_10 : decode cL_host 10 = .ok (.ifCond .ne 14, 3) := by decide +kernel
theorem dL_host_13 : decode cL_host 13 = .ok (.aload_n 1, 1) := by decide +kernel
theorem dL_host_14 : decode cL_host 14 = .ok (.iconst 4, 1) := by decide +kernel
theorem dL_host_15 : decode cL_host 15 = .ok (.iload_n 3, 1) := by decide +kernel
theorem dL_host_16 : decode cL_host 16 = .ok (.imul, 1) := by decide +kernel
theorem dL_host_17 : decode cL_host 17 = .ok (.iconst 1, 1) := by decide +kernel
theorem dL_host_18 : decode cL_host 18 = .ok (.iadd, 1) := by decide +kernel
theorem dL_host_19 : decode cL_host 19 = .ok (.iaload, 1) := by decide +kernel
theorem dL_host_20 : decode cL_host 20 = .ok (.iload_n 0, 1) := by decide +kernel
theorem dL_host_21 : decode cL_host 21 = .ok (.if_icmp .ne 7, 3) := by decide +kernel
theorem dL_host_24 : decode cL_host 24 = .ok (.iconst 1, 1) := by decide +kernel
theorem dL_host_25 : decode cL_host 25 = .ok (.goto 4, 3) := by decide +kernel
theorem dL_host_28 : decode cL_host 28 = .ok (.iconst 0, 1) := by decide +kernel
theorem dL_host_29 : decode cL_host 29 = .ok (.istore_n 2, 1) := by decide +kernel
theorem dL_host_30 : decode cL_host 30 = .ok (.iinc 3 1, 3) := by decide +kernel
theorem dL_host_33 : decode cL_host 33 = .ok (.goto (-29), 3) := by decide +kernel
theorem dL_host_36 : decode cL_host 36 = .ok (.iload_n 2, 1) := by decide +kernel
theorem dL_host_37 : decode cL_host 37 = .ok (.ireturn, 1) := by decide +kernel
set_option maxRecDepth 20000 in
theorem ggL_refuses_L_host : GoodIn wsL_refuses wsL_host := goodIn_r _ [4] (by decide +kernel) (by decide +kernel)
set_option maxRecDepth 20000 in
theorem gL_refuses_L_host : GoodIn wsL_refuses (va_wsS RL 41 yL_host wsL_host) := goodIn_app (goodIn_of _ (by decide +kernel)) ggL_refuses_L_host
theorem dL_refuses_0 : decode cL_refuses 0 = .ok (.iload_n 0, 1) := by decide +kernel
theorem dL_refuses_1 : decode cL_refuses 1 = .ok (.iload_n 1, 1) := by decide +kernel
theorem dL_refuses_2 : decode cL_refuses 2 = .ok (.if_icmp .ne 9, 3) := by decide +kernel
theorem dL_refuses_5 : decode cL_refuses 5 = .ok (.sipush (-2002), 3) := by decide +kernel
theorem dL_refuses_8 : decode cL_refuses 8 = .ok (.goto 32, 3) := by decide +kernel
theorem dL_refuses_11 : decode cL_refuses 11 = .ok (.iload_n 1, 1) := by decide +kernel
theorem dL_refuses_12 : decode cL_refuses 12 = .ok (.ifCond .lt 27, 3) := by decide +kernel
theorem dL_refuses_15 : decode cL_refuses 15 = .ok (.iload_n 0, 1) := by decide +kernel
theorem dL_refuses_16 : decode cL_refuses 16 = .ok (.aload_n 2, 1) := by decide +kernel
theorem dL_refuses_17 : decode cL_refuses 17 = .ok (.invokestatic 41, 3) := by decide +kernel
theorem dL_refuses_20 : decode cL_refuses 20 = .ok (.ifCond .ne 13, 3) := by decide +kernel
theorem dL_refuses_23 : decode cL_refuses 23 = .ok (.aload_n 2, 1) := by decide +kernel
theorem dL_refuses_24 : decode cL_refuses 24 = .ok (.iconst 4, 1) := by decide +kernel
theorem dL_refuses_25 : decode cL_refuses 25 = .ok (.iload_n 1, 1) := by decide +kernel
theorem dL_refuses_26 : decode cL_refuses 26 = .ok (.imul, 1) := by decide +kernel
theorem dL_refuses_27 : decode cL_refuses 27 = .ok (.iconst 1, 1) := by decide +kernel
theorem dL_refuses_28 : decode cL_refuses 28 = .ok (.iadd, 1) := by decide +kernel
theorem dL_refuses_29 : decode cL_refuses 29 = .ok (.iaload, 1) := by decide +kernel
theorem dL_refuses_30 : decode cL_refuses 30 = .ok (.ifCond .lt 9, 3) := by decide +kernel
theorem dL_refuses_33 : decode cL_refuses 33 = .ok (.sipush (-2003), 3) := by decide +kernel
theorem dL_refuses_36 : decode cL_refuses 36 = .ok (.goto 4, 3) := by decide +kernel
theorem dL_refuses_39 : decode cL_refuses 39 = .ok (.iconst 0, 1) := by decide +kernel
theorem dL_refuses_40 : decode cL_refuses 40 = .ok (.ireturn, 1) := by decide +kernel
theorem dL_covers_0 : decode cL_covers 0 = .ok (.iconst 0, 1) := by decide +kernel
theorem dL_covers_1 : decode cL_covers 1 = .ok (.istore 4, 2) := by decide +kernel
theorem dL_covers_3 : decode cL_covers 3 = .ok (.iconst 0, 1) := by decide +kernel
theorem dL_covers_4 : decode cL_covers 4 = .ok (.istore 5, 2) := by decide +kernel
theorem dL_covers_6 : decode cL_covers 6 = .ok (.iload 5, 2) := by decide +kernel
theorem dL_covers_8 : decode cL_covers 8 = .ok (.iconst 5, 1) := by decide +kernel
theorem dL_covers_9 : decode cL_covers 9 = .ok (.if_icmp .ge 99, 3) := by decide +kernel
theorem dL_covers_12 : decode cL_covers 12 = .ok (.aload_n 2, 1) := by decide +kernel
theorem dL_covers_13 : decode cL_covers 13 = .ok (.iconst 4, 1) := by decide +kernel
theorem dL_covers_14 : decode cL_covers 14 = .ok (.iload 5, 2) := by decide +kernel
theorem dL_covers_16 : decode cL_covers 16 = .ok (.imul, 1) := by decide +kernel
theorem dL_covers_17 : decode cL_covers 17 = .ok (.iconst 2, 1) := by decide +kernel
theorem dL_covers_18 : decode cL_covers 18 = .ok (.iadd, 1) := by decide +kernel
theorem dL_covers_19 : decode cL_covers 19 = .ok (.aload_n 3, 1) := by decide +kernel
theorem dL_covers_20 : decode cL_covers 20 = .ok (.bipush 6, 2) := by decide +kernel
theorem dL_covers_22 : decode cL_covers 22 = .ok (.iload_n 0, 1) := by decide +kernel
theorem dL_covers_23 : decode cL_covers 23 = .ok (.imul, 1) := by decide +kernel
theorem dL_covers_24 : decode cL_covers 24 = .ok (.iaload, 1) := by decide +kernel
theorem dL_covers_25 : decode cL_covers 25 = .ok (.iadd, 1) := by decide +kernel
theorem dL_covers_26 : decode cL_covers 26 = .ok (.iaload, 1) := by decide +kernel
theorem dL_covers_27 : decode cL_covers 27 = .ok (.istore 6, 2) := by decide +kernel
theorem dL_covers_29 : decode cL_covers 29 = .ok (.iload 5, 2) := by decide +kernel
theorem dL_covers_31 : decode cL_covers 31 = .ok (.iload_n 1, 1) := by decide +kernel
theorem dL_covers_32 : decode cL_covers 32 = .ok (.if_icmp .eq 27, 3) := by decide +kernel
theorem dL_covers_35 : decode cL_covers 35 = .ok (.aload_n 3, 1) := by decide +kernel
theorem dL_covers_36 : decode cL_covers 36 = .ok (.bipush 6, 2) := by decide +kernel
theorem dL_covers_38 : decode cL_covers 38 = .ok (.iload_n 0, 1) := by decide +kernel
theorem dL_covers_39 : decode cL_covers 39 = .ok (.imul, 1) := by decide +kernel
theorem dL_covers_40 : decode cL_covers 40 = .ok (.iconst 1, 1) := by decide +kernel
theorem dL_covers_41 : decode cL_covers 41 = .ok (.iadd, 1) := by decide +kernel
theorem dL_covers_42 : decode cL_covers 42 = .ok (.iaload, 1) := by decide +kernel
theorem dL_covers_43 : decode cL_covers 43 = .ok (.iconst 1, 1) := by decide +kernel
theorem dL_covers_44 : decode cL_covers 44 = .ok (.if_icmp .ne 19, 3) := by decide +kernel
theorem dL_covers_47 : decode cL_covers 47 = .ok (.aload_n 2, 1) := by decide +kernel
theorem dL_covers_48 : decode cL_covers 48 = .ok (.iconst 4, 1) := by decide +kernel
theorem dL_covers_49 : decode cL_covers 49 = .ok (.iload 5, 2) := by decide +kernel
theorem dL_covers_51 : decode cL_covers 51 = .ok (.imul, 1) := by decide +kernel
theorem dL_covers_52 : decode cL_covers 52 = .ok (.iconst 1, 1) := by decide +kernel
theorem dL_covers_53 : decode cL_covers 53 = .ok (.iadd, 1) := by decide +kernel
theorem dL_covers_54 : decode cL_covers 54 = .ok (.iaload, 1) := by decide +kernel
theorem dL_covers_55 : decode cL_covers 55 = .ok (.iload_n 1, 1) := by decide +kernel
theorem dL_covers_56 : decode cL_covers 56 = .ok (.if_icmp .ne 7, 3) := by decide +kernel
theorem dL_covers_59 : decode cL_covers 59 = .ok (.iconst 1, 1) := by decide +kernel
theorem dL_covers_60 : decode cL_covers 60 = .ok (.goto 4, 3) := by decide +kernel
theorem dL_covers_63 : decode cL_covers 63 = .ok (.iconst 0, 1) := by decide +kernel
theorem dL_covers_64 : decode cL_covers 64 = .ok (.istore 7, 2) := by decide +kernel
theorem dL_covers_66 : decode cL_covers 66 = .ok (.iload 4, 2) := by decide +kernel
theorem dL_covers_68 : decode cL_covers 68 = .ok (.iload 7, 2) := by decide +kernel
theorem dL_covers_70 : decode cL_covers 70 = .ok (.ifCond .eq 28, 3) := by decide +kernel
theorem dL_covers_73 : decode cL_covers 73 = .ok (.iload 6, 2) := by decide +kernel
theorem dL_covers_75 : decode cL_covers 75 = .ok (.ifCond .le 23, 3) := by decide +kernel
theorem dL_covers_78 : decode cL_covers 78 = .ok (.iload 6, 2) := by decide +kernel
theorem dL_covers_80 : decode cL_covers 80 = .ok (.aload_n 3, 1) := by decide +kernel
theorem dL_covers_81 : decode cL_covers 81 = .ok (.bipush 6, 2) := by decide +kernel
theorem dL_covers_83 : decode cL_covers 83 = .ok (.iload_n 0, 1) := by decide +kernel
theorem dL_covers_84 : decode cL_covers 84 = .ok (.imul, 1) := by decide +kernel
theorem dL_covers_85 : decode cL_covers 85 = .ok (.iconst 4, 1) := by decide +kernel
theorem dL_covers_86 : decode cL_covers 86 = .ok (.iadd, 1) := by decide +kernel
theorem dL_covers_87 : decode cL_covers 87 = .ok (.iaload, 1) := by decide +kernel
theorem dL_covers_88 : decode cL_covers 88 = .ok (.if_icmp .gt 10, 3) := by decide +kernel
theorem dL_covers_91 : decode cL_covers 91 = .ok (.iconst 1, 1) := by decide +kernel
theorem dL_covers_92 : decode cL_covers 92 = .ok (.iload 5, 2) := by decide +kernel
theorem dL_covers_94 : decode cL_covers 94 = .ok (.ishl, 1) := by decide +kernel
theorem dL_covers_95 : decode cL_covers 95 = .ok (.goto 4, 3) := by decide +kernel
theorem dL_covers_98 : decode cL_covers 98 = .ok (.iconst 0, 1) := by decide +kernel
theorem dL_covers_99 : decode cL_covers 99 = .ok (.iadd, 1) := by decide +kernel
theorem dL_covers_100 : decode cL_covers 100 = .ok (.istore 4, 2) := by decide +kernel
theorem dL_covers_102 : decode cL_covers 102 = .ok (.iinc 5 1, 3) := by decide +kernel
theorem dL_covers_105 : decode cL_covers 105 = .ok (.goto (-99), 3) := by decide +kernel
theorem dL_covers_108 : decode cL_covers 108 = .ok (.iload 4, 2) := by decide +kernel
theorem dL_covers_110 : decode cL_covers 110 = .ok (.ireturn, 1) := by decide +kernel
set_option maxRecDepth 20000 in
theorem ggL_spreads_L_covers : GoodIn wsL_spreads wsL_covers := goodIn_r _ [4] (by decide +kernel) (by decide +kernel)
set_option maxRecDepth 20000 in
theorem gL_spreads_L_covers : GoodIn wsL_spreads (va_wsS RL 47 yL_covers wsL_covers) := goodIn_app (goodIn_of _ (by decide +kernel)) ggL_spreads_L_covers
theorem dL_spreads_0 : decode cL_spreads 0 = .ok (.iconst 0, 1) := by decide +kernel
theorem dL_spreads_1 : decode cL_spreads 1 = .ok (.istore 4, 2) := by decide +kernel
theorem dL_spreads_3 : decode cL_spreads 3 = .ok (.iconst 0, 1) := by decide +kernel
theorem dL_spreads_4 : decode cL_spreads 4 = .ok (.istore 5, 2) := by decide +kernel
theorem dL_spreads_6 : decode cL_spreads 6 = .ok (.iload 5, 2) := by decide +kernel
theorem dL_spreads_8 : decode cL_spreads 8 = .ok (.bipush 32, 2) := by decide +kernel
theorem dL_spreads_10 : decode cL_spreads 10 = .ok (.if_icmp .ge 153, 3) := by decide +kernel
theorem dL_spreads_13 : decode cL_spreads 13 = .ok (.iconst 0, 1) := by decide +kernel
theorem dL_spreads_14 : decode cL_spreads 14 = .ok (.istore 6, 2) := by decide +kernel
theorem dL_spreads_16 : decode cL_spreads 16 = .ok (.iconst 0, 1) := by decide +kernel
theorem dL_spreads_17 : decode cL_spreads 17 = .ok (.istore 7, 2) := by decide +kernel
theorem dL_spreads_19 : decode cL_spreads 19 = .ok (.iconst 0, 1) := by decide +kernel
theorem dL_spreads_20 : decode cL_spreads 20 = .ok (.istore 8, 2) := by decide +kernel
theorem dL_spreads_22 : decode cL_spreads 22 = .ok (.iload 8, 2) := by decide +kernel
theorem dL_spreads_24 : decode cL_spreads 24 = .ok (.iconst 5, 1) := by decide +kernel
theorem dL_spreads_25 : decode cL_spreads 25 = .ok (.if_icmp .ge 77, 3) := by decide +kernel
theorem dL_spreads_28 : decode cL_spreads 28 = .ok (.iload 5, 2) := by decide +kernel
theorem dL_spreads_30 : decode cL_spreads 30 = .ok (.iload 8, 2) := by decide +kernel
theorem dL_spreads_32 : decode cL_spreads 32 = .ok (.ishr, 1) := by decide +kernel
theorem dL_spreads_33 : decode cL_spreads 33 = .ok (.iconst 1, 1) := by decide +kernel
theorem dL_spreads_34 : decode cL_spreads 34 = .ok (.iand, 1) := by decide +kernel
theorem dL_spreads_35 : decode cL_spreads 35 = .ok (.iconst 1, 1) := by decide +kernel
theorem dL_spreads_36 : decode cL_spreads 36 = .ok (.if_icmp .ne 60, 3) := by decide +kernel
theorem dL_spreads_39 : decode cL_spreads 39 = .ok (.aload_n 2, 1) := by decide +kernel
theorem dL_spreads_40 : decode cL_spreads 40 = .ok (.iconst 4, 1) := by decide +kernel
theorem dL_spreads_41 : decode cL_spreads 41 = .ok (.iload 8, 2) := by decide +kernel
theorem dL_spreads_43 : decode cL_spreads 43 = .ok (.imul, 1) := by decide +kernel
theorem dL_spreads_44 : decode cL_spreads 44 = .ok (.iaload, 1) := by decide +kernel
theorem dL_spreads_45 : decode cL_spreads 45 = .ok (.iconst 4, 1) := by decide +kernel
theorem dL_spreads_46 : decode cL_spreads 46 = .ok (.if_icmp .le 12, 3) := by decide +kernel
theorem dL_spreads_49 : decode cL_spreads 49 = .ok (.aload_n 2, 1) := by decide +kernel
theorem dL_spreads_50 : decode cL_spreads 50 = .ok (.iconst 4, 1) := by decide +kernel
theorem dL_spreads_51 : decode cL_spreads 51 = .ok (.iload 8, 2) := by decide +kernel
theorem dL_spreads_53 : decode cL_spreads 53 = .ok (.imul, 1) := by decide +kernel
theorem dL_spreads_54 : decode cL_spreads 54 = .ok (.iaload, 1) := by decide +kernel
theorem dL_spreads_55 : decode cL_spreads 55 = .ok (.goto 4, 3) := by decide +kernel
theorem dL_spreads_58 : decode cL_spreads 58 = .ok (.iconst 4, 1) := by decide +kernel
theorem dL_spreads_59 : decode cL_spreads 59 = .ok (.istore 9, 2) := by decide +kernel
theorem dL_spreads_61 : decode cL_spreads 61 = .ok (.iload 6, 2) := by decide +kernel
theorem dL_spreads_63 : decode cL_spreads 63 = .ok (.aload_n 3, 1) := by decide +kernel
theorem dL_spreads_64 : decode cL_spreads 64 = .ok (.bipush 6, 2) := by decide +kernel
theorem dL_spreads_66 : decode cL_spreads 66 = .ok (.iload_n 1, 1) := by decide +kernel
theorem dL_spreads_67 : decode cL_spreads 67 = .ok (.imul, 1) := by decide +kernel
theorem dL_spreads_68 : decode cL_spreads 68 = .ok (.iconst 1, 1) := by decide +kernel
theorem dL_spreads_69 : decode cL_spreads 69 = .ok (.iadd, 1) := by decide +kernel
theorem dL_spreads_70 : decode cL_spreads 70 = .ok (.iaload, 1) := by decide +kernel
theorem dL_spreads_71 : decode cL_spreads 71 = .ok (.ifCond .ne 7, 3) := by decide +kernel
theorem dL_spreads_74 : decode cL_spreads 74 = .ok (.iconst 1, 1) := by decide +kernel
theorem dL_spreads_75 : decode cL_spreads 75 = .ok (.goto 5, 3) := by decide +kernel
theorem dL_spreads_78 : decode cL_spreads 78 = .ok (.iload 9, 2) := by decide +kernel
theorem dL_spreads_80 : decode cL_spreads 80 = .ok (.iadd, 1) := by decide +kernel
theorem dL_spreads_81 : decode cL_spreads 81 = .ok (.istore 6, 2) := by decide +kernel
theorem dL_spreads_83 : decode cL_spreads 83 = .ok (.iload 7, 2) := by decide +kernel
theorem dL_spreads_85 : decode cL_spreads 85 = .ok (.iload_n 1, 1) := by decide +kernel
theorem dL_spreads_86 : decode cL_spreads 86 = .ok (.iload 8, 2) := by decide +kernel
theorem dL_spreads_88 : decode cL_spreads 88 = .ok (.aload_n 2, 1) := by decide +kernel
theorem dL_spreads_89 : decode cL_spreads 89 = .ok (.aload_n 3, 1) := by decide +kernel
theorem dL_spreads_90 : decode cL_spreads 90 = .ok (.invokestatic 47, 3) := by decide +kernel
theorem dL_spreads_93 : decode cL_spreads 93 = .ok (.ior, 1) := by decide +kernel
theorem dL_spreads_94 : decode cL_spreads 94 = .ok (.istore 7, 2) := by decide +kernel
theorem dL_spreads_96 : decode cL_spreads 96 = .ok (.iinc 8 1, 3) := by decide +kernel
theorem dL_spreads_99 : decode cL_spreads 99 = .ok (.goto (-77), 3) := by decide +kernel
theorem dL_spreads_102 : decode cL_spreads 102 = .ok (.iconst 0, 1) := by decide +kernel
theorem dL_spreads_103 : decode cL_spreads 103 = .ok (.istore 8, 2) := by decide +kernel
theorem dL_spreads_105 : decode cL_spreads 105 = .ok (.iload 8, 2) := by decide +kernel
theorem dL_spreads_107 : decode cL_spreads 107 = .ok (.bipush 32, 2) := by decide +kernel
theorem dL_spreads_109 : decode cL_spreads 109 = .ok (.if_icmp .ge 48, 3) := by decide +kernel
theorem dL_spreads_112 : decode cL_spreads 112 = .ok (.iload 6, 2) := by decide +kernel
theorem dL_spreads_114 : decode cL_spreads 114 = .ok (.aload_n 3, 1) := by decide +kernel
theorem dL_spreads_115 : decode cL_spreads 115 = .ok (.bipush 6, 2) := by decide +kernel
theorem dL_spreads_117 : decode cL_spreads 117 = .ok (.iload_n 1, 1) := by decide +kernel
theorem dL_spreads_118 : decode cL_spreads 118 = .ok (.imul, 1) := by decide +kernel
theorem dL_spreads_119 : decode cL_spreads 119 = .ok (.iconst 2, 1) := by decide +kernel
theorem dL_spreads_120 : decode cL_spreads 120 = .ok (.iadd, 1) := by decide +kernel
theorem dL_spreads_121 : decode cL_spreads 121 = .ok (.iaload, 1) := by decide +kernel
theorem dL_spreads_122 : decode cL_spreads 122 = .ok (.if_icmp .gt 35, 3) := by decide +kernel
theorem dL_spreads_125 : decode cL_spreads 125 = .ok (.iload 4, 2) := by decide +kernel
theorem dL_spreads_127 : decode cL_spreads 127 = .ok (.iload_n 0, 1) := by decide +kernel
theorem dL_spreads_128 : decode cL_spreads 128 = .ok (.iload 8, 2) := by decide +kernel
theorem dL_spreads_130 : decode cL_spreads 130 = .ok (.ishr, 1) := by decide +kernel
theorem dL_spreads_131 : decode cL_spreads 131 = .ok (.iconst 1, 1) := by decide +kernel
theorem dL_spreads_132 : decode cL_spreads 132 = .ok (.iand, 1) := by decide +kernel
theorem dL_spreads_133 : decode cL_spreads 133 = .ok (.iconst 1, 1) := by decide +kernel
theorem dL_spreads_134 : decode cL_spreads 134 = .ok (.if_icmp .ne 13, 3) := by decide +kernel
theorem dL_spreads_137 : decode cL_spreads 137 = .ok (.iconst 1, 1) := by decide +kernel
theorem dL_spreads_138 : decode cL_spreads 138 = .ok (.iload 8, 2) := by decide +kernel
theorem dL_spreads_140 : decode cL_spreads 140 = .ok (.iload 7, 2) := by decide +kernel
theorem dL_spreads_142 : decode cL_spreads 142 = .ok (.ior, 1) := by decide +kernel
theorem dL_spreads_143 : decode cL_spreads 143 = .ok (.ishl, 1) := by decide +kernel
theorem dL_spreads_144 : decode cL_spreads 144 = .ok (.goto 4, 3) := by decide +kernel
theorem dL_spreads_147 : decode cL_spreads 147 = .ok (.iconst 0, 1) := by decide +kernel
theorem dL_spreads_148 : decode cL_spreads 148 = .ok (.ior, 1) := by decide +kernel
theorem dL_spreads_149 : decode cL_spreads 149 = .ok (.istore 4, 2) := by decide +kernel
theorem dL_spreads_151 : decode cL_spreads 151 = .ok (.iinc 8 1, 3) := by decide +kernel
theorem dL_spreads_154 : decode cL_spreads 154 = .ok (.goto (-49), 3) := by decide +kernel
theorem dL_spreads_157 : decode cL_spreads 157 = .ok (.iinc 5 1, 3) := by decide +kernel
theorem dL_spreads_160 : decode cL_spreads 160 = .ok (.goto (-154), 3) := by decide +kernel
theorem dL_spreads_163 : decode cL_spreads 163 = .ok (.iload 4, 2) := by decide +kernel
theorem dL_spreads_165 : decode cL_spreads 165 = .ok (.ireturn, 1) := by decide +kernel
set_option maxRecDepth 20000 in
theorem ggL_gap_L_spreads : GoodIn wsL_gap wsL_spreads := goodIn_r _ [5, 6, 7, 4, 8] (by decide +kernel) (by decide +kernel)
set_option maxRecDepth 20000 in
theorem gL_gap_L_spreads : GoodIn wsL_gap (va_wsS RL 51 yL_spreads wsL_spreads) := goodIn_app (goodIn_of _ (by decide +kernel)) ggL_gap_L_spreads
theorem dL_gap_0 : decode cL_gap 0 = .ok (.iconst 1, 1) := by decide +kernel
theorem dL_gap_1 : decode cL_gap 1 = .ok (.istore 5, 2) := by decide +kernel
theorem dL_gap_3 : decode cL_gap 3 = .ok (.iconst 0, 1) := by decide +kernel
theorem dL_gap_4 : decode cL_gap 4 = .ok (.istore 6, 2) := by decide +kernel
theorem dL_gap_6 : decode cL_gap 6 = .ok (.iload 6, 2) := by decide +kernel
theorem dL_gap_8 : decode cL_gap 8 = .ok (.aload 4, 2) := by decide +kernel
theorem dL_gap_10 : decode cL_gap 10 = .ok (.iconst 1, 1) := by decide +kernel
theorem dL_gap_11 : decode cL_gap 11 = .ok (.iaload, 1) := by decide +kernel
theorem dL_gap_12 : decode cL_gap 12 = .ok (.if_icmp .ge 36, 3) := by decide +kernel
theorem dL_gap_15 : decode cL_gap 15 = .ok (.aload_n 3, 1) := by decide +kernel
theorem dL_gap_16 : decode cL_gap 16 = .ok (.bipush 6, 2) := by decide +kernel
theorem dL_gap_18 : decode cL_gap 18 = .ok (.iload 6, 2) := by decide +kernel
theorem dL_gap_20 : decode cL_gap 20 = .ok (.imul, 1) := by decide +kernel
theorem dL_gap_21 : decode cL_gap 21 = .ok (.iaload, 1) := by decide +kernel
theorem dL_gap_22 : decode cL_gap 22 = .ok (.iload_n 0, 1) := by decide +kernel
theorem dL_gap_23 : decode cL_gap 23 = .ok (.if_icmp .ne 15, 3) := by decide +kernel
theorem dL_gap_26 : decode cL_gap 26 = .ok (.iload 5, 2) := by decide +kernel
theorem dL_gap_28 : decode cL_gap 28 = .ok (.iload 6, 2) := by decide +kernel
theorem dL_gap_30 : decode cL_gap 30 = .ok (.aload_n 1, 1) := by decide +kernel
theorem dL_gap_31 : decode cL_gap 31 = .ok (.aload_n 3, 1) := by decide +kernel
theorem dL_gap_32 : decode cL_gap 32 = .ok (.invokestatic 51, 3) := by decide +kernel
theorem dL_gap_35 : decode cL_gap 35 = .ok (.goto 5, 3) := by decide +kernel
theorem dL_gap_38 : decode cL_gap 38 = .ok (.iload 5, 2) := by decide +kernel
theorem dL_gap_40 : decode cL_gap 40 = .ok (.istore 5, 2) := by decide +kernel
theorem dL_gap_42 : decode cL_gap 42 = .ok (.iinc 6 1, 3) := by decide +kernel
theorem dL_gap_45 : decode cL_gap 45 = .ok (.goto (-39), 3) := by decide +kernel
theorem dL_gap_48 : decode cL_gap 48 = .ok (.ldc 54, 2) := by decide +kernel
theorem dL_gap_50 : decode cL_gap 50 = .ok (.istore 6, 2) := by decide +kernel
theorem dL_gap_52 : decode cL_gap 52 = .ok (.bipush 31, 2) := by decide +kernel
theorem dL_gap_54 : decode cL_gap 54 = .ok (.istore 7, 2) := by decide +kernel
theorem dL_gap_56 : decode cL_gap 56 = .ok (.iload 7, 2) := by decide +kernel
theorem dL_gap_58 : decode cL_gap 58 = .ok (.ifCond .lt 198, 3) := by decide +kernel
theorem dL_gap_61 : decode cL_gap 61 = .ok (.iconst 0, 1) := by decide +kernel
theorem dL_gap_62 : decode cL_gap 62 = .ok (.istore 8, 2) := by decide +kernel
theorem dL_gap_64 : decode cL_gap 64 = .ok (.iconst 0, 1) := by decide +kernel
theorem dL_gap_65 : decode cL_gap 65 = .ok (.istore 9, 2) := by decide +kernel
theorem dL_gap_67 : decode cL_gap 67 = .ok (.iconst 0, 1) := by decide +kernel
theorem dL_gap_68 : decode cL_gap 68 = .ok (.istore 10, 2) := by decide +kernel
theorem dL_gap_70 : decode cL_gap 70 = .ok (.iload 10, 2) := by decide +kernel
theorem dL_gap_72 : decode cL_gap 72 = .ok (.iconst 5, 1) := by decide +kernel
theorem dL_gap_73 : decode cL_gap 73 = .ok (.if_icmp .ge 89, 3) := by decide +kernel
theorem dL_gap_76 : decode cL_gap 76 = .ok (.aload_n 1, 1) := by decide +kernel
theorem dL_gap_77 : decode cL_gap 77 = .ok (.iconst 4, 1) := by decide +kernel
theorem dL_gap_78 : decode cL_gap 78 = .ok (.iload 10, 2) := by decide +kernel
theorem dL_gap_80 : decode cL_gap 80 = .ok (.imul, 1) := by decide +kernel
theorem dL_gap_81 : decode cL_gap 81 = .ok (.iconst 2, 1) := by decide +kernel
theorem dL_gap_82 : decode cL_gap 82 = .ok (.iadd, 1) := by decide +kernel
theorem dL_gap_83 : decode cL_gap 83 = .ok (.iload_n 0, 1) := by decide +kernel
theorem dL_gap_84 : decode cL_gap 84 = .ok (.iadd, 1) := by decide +kernel
theorem dL_gap_85 : decode cL_gap 85 = .ok (.iaload, 1) := by decide +kernel
theorem dL_gap_86 : decode cL_gap 86 = .ok (.ifCond .le 7, 3) := by decide +kernel
theorem dL_gap_89 : decode cL_gap 89 = .ok (.iconst 1, 1) := by decide +kernel
theorem dL_gap_90 : decode cL_gap 90 = .ok (.goto 4, 3) := by decide +kernel
theorem dL_gap_93 : decode cL_gap 93 = .ok (.iconst 0, 1) := by decide +kernel
theorem dL_gap_94 : decode cL_gap 94 = .ok (.istore 11, 2) := by decide +kernel
theorem dL_gap_96 : decode cL_gap 96 = .ok (.iload 8, 2) := by decide +kernel
theorem dL_gap_98 : decode cL_gap 98 = .ok (.iload 11, 2) := by decide +kernel
theorem dL_gap_100 : decode cL_gap 100 = .ok (.ifCond .eq 31, 3) := by decide +kernel
theorem dL_gap_103 : decode cL_gap 103 = .ok (.iload 7, 2) := by decide +kernel
theorem dL_gap_105 : decode cL_gap 105 = .ok (.iload 10, 2) := by decide +kernel
theorem dL_gap_107 : decode cL_gap 107 = .ok (.ishr, 1) := by decide +kernel
theorem dL_gap_108 : decode cL_gap 108 = .ok (.iconst 1, 1) := by decide +kernel
theorem dL_gap_109 : decode cL_gap 109 = .ok (.iand, 1) := by decide +kernel
theorem dL_gap_110 : decode cL_gap 110 = .ok (.iconst 1, 1) := by decide +kernel
theorem dL_gap_111 : decode cL_gap 111 = .ok (.if_icmp .ne 20, 3) := by decide +kernel
theorem dL_gap_114 : decode cL_gap 114 = .ok (.aload_n 1, 1) := by decide +kernel
theorem dL_gap_115 : decode cL_gap 115 = .ok (.iconst 4, 1) := by decide +kernel
theorem dL_gap_116 : decode cL_gap 116 = .ok (.iload 10, 2) := by decide +kernel
theorem dL_gap_118 : decode cL_gap 118 = .ok (.imul, 1) := by decide +kernel
theorem dL_gap_119 : decode cL_gap 119 = .ok (.iaload, 1) := by decide +kernel
theorem dL_gap_120 : decode cL_gap 120 = .ok (.aload_n 2, 1) := by decide +kernel
theorem dL_gap_121 : decode cL_gap 121 = .ok (.iconst 2, 1) := by decide +kernel
theorem dL_gap_122 : decode cL_gap 122 = .ok (.iload_n 0, 1) := by decide +kernel
theorem dL_gap_123 : decode cL_gap 123 = .ok (.imul, 1) := by decide +kernel
theorem dL_gap_124 : decode cL_gap 124 = .ok (.iconst 1, 1) := by decide +kernel
theorem dL_gap_125 : decode cL_gap 125 = .ok (.iadd, 1) := by decide +kernel
theorem dL_gap_126 : decode cL_gap 126 = .ok (.iaload, 1) := by decide +kernel
theorem dL_gap_127 : decode cL_gap 127 = .ok (.imul, 1) := by decide +kernel
theorem dL_gap_128 : decode cL_gap 128 = .ok (.goto 4, 3) := by decide +kernel
theorem dL_gap_131 : decode cL_gap 131 = .ok (.iconst 0, 1) := by decide +kernel
theorem dL_gap_132 : decode cL_gap 132 = .ok (.iadd, 1) := by decide +kernel
theorem dL_gap_133 : decode cL_gap 133 = .ok (.istore 8, 2) := by decide +kernel
theorem dL_gap_135 : decode cL_gap 135 = .ok (.iload 9, 2) := by decide +kernel
theorem dL_gap_137 : decode cL_gap 137 = .ok (.iload 11, 2) := by decide +kernel
theorem dL_gap_139 : decode cL_gap 139 = .ok (.ifCond .eq 13, 3) := by decide +kernel
theorem dL_gap_142 : decode cL_gap 142 = .ok (.iload 7, 2) := by decide +kernel
theorem dL_gap_144 : decode cL_gap 144 = .ok (.iconst 1, 1) := by decide +kernel
theorem dL_gap_145 : decode cL_gap 145 = .ok (.iload 10, 2) := by decide +kernel
theorem dL_gap_147 : decode cL_gap 147 = .ok (.ishl, 1) := by decide +kernel
theorem dL_gap_148 : decode cL_gap 148 = .ok (.iand, 1) := by decide +kernel
theorem dL_gap_149 : decode cL_gap 149 = .ok (.goto 4, 3) := by decide +kernel
theorem dL_gap_152 : decode cL_gap 152 = .ok (.iconst 0, 1) := by decide +kernel
theorem dL_gap_153 : decode cL_gap 153 = .ok (.iadd, 1) := by decide +kernel
theorem dL_gap_154 : decode cL_gap 154 = .ok (.istore 9, 2) := by decide +kernel
theorem dL_gap_156 : decode cL_gap 156 = .ok (.iinc 10 1, 3) := by decide +kernel
theorem dL_gap_159 : decode cL_gap 159 = .ok (.goto (-89), 3) := by decide +kernel
theorem dL_gap_162 : decode cL_gap 162 = .ok (.iload 5, 2) := by decide +kernel
theorem dL_gap_164 : decode cL_gap 164 = .ok (.bipush 31, 2) := by decide +kernel
theorem dL_gap_166 : decode cL_gap 166 = .ok (.iload 7, 2) := by decide +kernel
theorem dL_gap_168 : decode cL_gap 168 = .ok (.isub, 1) := by decide +kernel
theorem dL_gap_169 : decode cL_gap 169 = .ok (.ishr, 1) := by decide +kernel
theorem dL_gap_170 : decode cL_gap 170 = .ok (.iconst 1, 1) := by decide +kernel
theorem dL_gap_171 : decode cL_gap 171 = .ok (.iand, 1) := by decide +kernel
theorem dL_gap_172 : decode cL_gap 172 = .ok (.iconst 1, 1) := by decide +kernel
theorem dL_gap_173 : decode cL_gap 173 = .ok (.if_icmp .ne 7, 3) := by decide +kernel
theorem dL_gap_176 : decode cL_gap 176 = .ok (.iconst 1, 1) := by decide +kernel
theorem dL_gap_177 : decode cL_gap 177 = .ok (.goto 4, 3) := by decide +kernel
theorem dL_gap_180 : decode cL_gap 180 = .ok (.iconst 0, 1) := by decide +kernel
theorem dL_gap_181 : decode cL_gap 181 = .ok (.istore 10, 2) := by decide +kernel
theorem dL_gap_183 : decode cL_gap 183 = .ok (.iload 10, 2) := by decide +kernel
theorem dL_gap_185 : decode cL_gap 185 = .ok (.ifCond .eq 30, 3) := by decide +kernel
theorem dL_gap_188 : decode cL_gap 188 = .ok (.iload 8, 2) := by decide +kernel
theorem dL_gap_190 : decode cL_gap 190 = .ok (.iload 6, 2) := by decide +kernel
theorem dL_gap_192 : decode cL_gap 192 = .ok (.if_icmp .lt 19, 3) := by decide +kernel
theorem dL_gap_195 : decode cL_gap 195 = .ok (.iload 8, 2) := by decide +kernel
theorem dL_gap_197 : decode cL_gap 197 = .ok (.iload 6, 2) := by decide +kernel
theorem dL_gap_199 : decode cL_gap 199 = .ok (.if_icmp .ne 16, 3) := by decide +kernel
theorem dL_gap_202 : decode cL_gap 202 = .ok (.iload 9, 2) := by decide +kernel
theorem dL_gap_204 : decode cL_gap 204 = .ok (.aload 4, 2) := by decide +kernel
theorem dL_gap_206 : decode cL_gap 206 = .ok (.iconst 2, 1) := by decide +kernel
theorem dL_gap_207 : decode cL_gap 207 = .ok (.iaload, 1) := by decide +kernel
theorem dL_gap_208 : decode cL_gap 208 = .ok (.if_icmp .ge 7, 3) := by decide +kernel
theorem dL_gap_211 : decode cL_gap 211 = .ok (.iconst 1, 1) := by decide +kernel
theorem dL_gap_212 : decode cL_gap 212 = .ok (.goto 4, 3) := by decide +kernel
theorem dL_gap_215 : decode cL_gap 215 = .ok (.iconst 0, 1) := by decide +kernel
theorem dL_gap_216 : decode cL_gap 216 = .ok (.istore 11, 2) := by decide +kernel
theorem dL_gap_218 : decode cL_gap 218 = .ok (.iload 11, 2) := by decide +kernel
theorem dL_gap_220 : decode cL_gap 220 = .ok (.ifCond .eq 8, 3) := by decide +kernel
theorem dL_gap_223 : decode cL_gap 223 = .ok (.iload 8, 2) := by decide +kernel
theorem dL_gap_225 : decode cL_gap 225 = .ok (.goto 5, 3) := by decide +kernel
theorem dL_gap_228 : decode cL_gap 228 = .ok (.iload 6, 2) := by decide +kernel
theorem dL_gap_230 : decode cL_gap 230 = .ok (.istore 6, 2) := by decide +kernel
theorem dL_gap_232 : decode cL_gap 232 = .ok (.aload 4, 2) := by decide +kernel
theorem dL_gap_234 : decode cL_gap 234 = .ok (.iconst 2, 1) := by decide +kernel
theorem dL_gap_235 : decode cL_gap 235 = .ok (.iload 11, 2) := by decide +kernel
theorem dL_gap_237 : decode cL_gap 237 = .ok (.ifCond .eq 8, 3) := by decide +kernel
theorem dL_gap_240 : decode cL_gap 240 = .ok (.iload 9, 2) := by decide +kernel
theorem dL_gap_242 : decode cL_gap 242 = .ok (.goto 7, 3) := by decide +kernel
theorem dL_gap_245 : decode cL_gap 245 = .ok (.aload 4, 2) := by decide +kernel
theorem dL_gap_247 : decode cL_gap 247 = .ok (.iconst 2, 1) := by decide +kernel
theorem dL_gap_248 : decode cL_gap 248 = .ok (.iaload, 1) := by decide +kernel
theorem dL_gap_249 : decode cL_gap 249 = .ok (.iastore, 1) := by decide +kernel
theorem dL_gap_250 : decode cL_gap 250 = .ok (.iinc 7 (-1), 3) := by decide +kernel
theorem dL_gap_253 : decode cL_gap 253 = .ok (.goto (-197), 3) := by decide +kernel
theorem dL_gap_256 : decode cL_gap 256 = .ok (.iload 6, 2) := by decide +kernel
theorem dL_gap_258 : decode cL_gap 258 = .ok (.ireturn, 1) := by decide +kernel
theorem dL_many_0 : decode cL_many 0 = .ok (.iconst 0, 1) := by decide +kernel
theorem dL_many_1 : decode cL_many 1 = .ok (.istore_n 3, 1) := by decide +kernel
theorem dL_many_2 : decode cL_many 2 = .ok (.iconst 0, 1) := by decide +kernel
theorem dL_many_3 : decode cL_many 3 = .ok (.istore 4, 2) := by decide +kernel
theorem dL_many_5 : decode cL_many 5 = .ok (.iload 4, 2) := by decide +kernel
theorem dL_many_7 : decode cL_many 7 = .ok (.aload_n 2, 1) := by decide +kernel
theorem dL_many_8 : decode cL_many 8 = .ok (.iconst 1, 1) := by decide +kernel
theorem dL_many_9 : decode cL_many 9 = .ok (.iaload, 1) := by decide +kernel
theorem dL_many_10 : decode cL_many 10 = .ok (.if_icmp .ge 40, 3) := by decide +kernel
theorem dL_many_13 : decode cL_many 13 = .ok (.iload_n 3, 1) := by decide +kernel
theorem dL_many_14 : decode cL_many 14 = .ok (.aload_n 1, 1) := by decide +kernel
theorem dL_many_15 : decode cL_many 15 = .ok (.bipush 6, 2) := by decide +kernel
theorem dL_many_17 : decode cL_many 17 = .ok (.iload 4, 2) := by decide +kernel
theorem dL_many_19 : decode cL_many 19 = .ok (.imul, 1) := by decide +kernel
theorem dL_many_20 : decode cL_many 20 = .ok (.iaload, 1) := by decide +kernel
theorem dL_many_21 : decode cL_many 21 = .ok (.iload_n 0, 1) := by decide +kernel
theorem dL_many_22 : decode cL_many 22 = .ok (.if_icmp .ne 19, 3) := by decide +kernel
theorem dL_many_25 : decode cL_many 25 = .ok (.aload_n 1, 1) := by decide +kernel
theorem dL_many_26 : decode cL_many 26 = .ok (.bipush 6, 2) := by decide +kernel
theorem dL_many_28 : decode cL_many 28 = .ok (.iload 4, 2) := by decide +kernel
theorem dL_many_30 : decode cL_many 30 = .ok (.imul, 1) := by decide +kernel
theorem dL_many_31 : decode cL_many 31 = .ok (.iconst 2, 1) := by decide +kernel
theorem dL_many_32 : decode cL_many 32 = .ok (.iadd, 1) := by decide +kernel
theorem dL_many_33 : decode cL_many 33 = .ok (.iaload, 1) := by decide +kernel
theorem dL_many_34 : decode cL_many 34 = .ok (.ifCond .le 7, 3) := by decide +kernel
theorem dL_many_37 : decode cL_many 37 = .ok (.iconst 1, 1) := by decide +kernel
theorem dL_many_38 : decode cL_many 38 = .ok (.goto 4, 3) := by decide +kernel
theorem dL_many_41 : decode cL_many 41 = .ok (.iconst 0, 1) := by decide +kernel
theorem dL_many_42 : decode cL_many 42 = .ok (.iadd, 1) := by decide +kernel
theorem dL_many_43 : decode cL_many 43 = .ok (.istore_n 3, 1) := by decide +kernel
theorem dL_many_44 : decode cL_many 44 = .ok (.iinc 4 1, 3) := by decide +kernel
theorem dL_many_47 : decode cL_many 47 = .ok (.goto (-42), 3) := by decide +kernel
theorem dL_many_50 : decode cL_many 50 = .ok (.iload_n 3, 1) := by decide +kernel
theorem dL_many_51 : decode cL_many 51 = .ok (.ireturn, 1) := by decide +kernel
set_option maxRecDepth 20000 in
theorem ggL_spare_X2_spare : GoodIn wsL_spare wsX2_spare := goodIn_ca (goodIn_r _ [5, 6, 7, 8, 9, 10, 11, 12, 4, 13, 14, 15, 16, 17, 18, 19, 20, 21, 22, 23, 24, 25, 26, 27, 28, 29, 30, 31, 32, 33, 34, 35, 36, 37, 38, 39, 40, 41, 42, 43, 44, 45, 46, 47, 48, 49, 50, 51, 52, 53, 54, 55, 56, 57, 58, 59, 60, 61, 62, 63, 64, 65, 66, 67, 68, 69, 70, 71, 72, 73, 74, 75, 76, 77, 78, 79, 80, 81, 82, 83, 84, 85, 86, 87, 88, 89, 90, 91, 92, 93, 94, 95, 96, 97, 98, 99, 100, 101, 102, 103, 104, 105, 106, 107, 108, 109, 110, 111, 112, 113, 114, 115, 116, 117, 118, 119, 120, 121, 122, 123, 124, 125, 126, 138, 139, 140, 141, 142, 143, 144, 145, 146, 147, 148, 149, 150, 151, 152, 153, 154, 155, 156, 157, 158, 159, 160, 161, 162] (by decide +kernel) (by decide +kernel)) (goodIn_sub (fun _ h => List.mem_cons_of_mem _ (List.mem_append_right _ h)) (by decide +kernel))
set_option maxRecDepth 20000 in
theorem gL_spare_X2_spare : GoodIn wsL_spare (wsV RL 55 RX2 yX2_spare wsX2_spare) := goodIn_app (goodIn_of _ (by decide +kernel)) ggL_spare_X2_spare
set_option maxRecDepth 20000 in
theorem ggL_spare_L_gap : GoodIn wsL_spare wsL_gap := goodIn_r _ [130, 131, 132, 133, 129, 134, 135, 136, 137] (by decide +kernel) (by decide +kernel)
set_option maxRecDepth 20000 in
theorem gL_spare_L_gap : GoodIn wsL_spare (va_wsS RL 58 yL_gap wsL_gap) := goodIn_app (goodIn_of _ (by decide +kernel)) ggL_spare_L_gap
theorem dL_spare_0 : decode cL_spare 0 = .ok (.aload_n 0, 1) := by decide +kernel
theorem dL_spare_1 : decode cL_spare 1 = .ok (.iload_n 1, 1) := by decide +kernel
theorem dL_spare_2 : decode cL_spare 2 = .ok (.invokevirtual 55, 3) := by decide +kernel
theorem dL_spare_5 : decode cL_spare 5 = .ok (.istore 6, 2) := by decide +kernel
theorem dL_spare_7 : decode cL_spare 7 = .ok (.aload 4, 2) := by decide +kernel
theorem dL_spare_9 : decode cL_spare 9 = .ok (.bipush 6, 2) := by decide +kernel
theorem dL_spare_11 : decode cL_spare 11 = .ok (.iload_n 1, 1) := by decide +kernel
theorem dL_spare_12 : decode cL_spare 12 = .ok (.imul, 1) := by decide +kernel
theorem dL_spare_13 : decode cL_spare 13 = .ok (.iconst 2, 1) := by decide +kernel
theorem dL_spare_14 : decode cL_spare 14 = .ok (.iadd, 1) := by decide +kernel
theorem dL_spare_15 : decode cL_spare 15 = .ok (.iaload, 1) := by decide +kernel
theorem dL_spare_16 : decode cL_spare 16 = .ok (.istore 7, 2) := by decide +kernel
theorem dL_spare_18 : decode cL_spare 18 = .ok (.aload 4, 2) := by decide +kernel
theorem dL_spare_20 : decode cL_spare 20 = .ok (.bipush 6, 2) := by decide +kernel
theorem dL_spare_22 : decode cL_spare 22 = .ok (.iload_n 1, 1) := by decide +kernel
theorem dL_spare_23 : decode cL_spare 23 = .ok (.imul, 1) := by decide +kernel
theorem dL_spare_24 : decode cL_spare 24 = .ok (.iaload, 1) := by decide +kernel
theorem dL_spare_25 : decode cL_spare 25 = .ok (.aload_n 2, 1) := by decide +kernel
theorem dL_spare_26 : decode cL_spare 26 = .ok (.aload_n 3, 1) := by decide +kernel
theorem dL_spare_27 : decode cL_spare 27 = .ok (.aload 4, 2) := by decide +kernel
theorem dL_spare_29 : decode cL_spare 29 = .ok (.aload 5, 2) := by decide +kernel
theorem dL_spare_31 : decode cL_spare 31 = .ok (.invokestatic 58, 3) := by decide +kernel
theorem dL_spare_34 : decode cL_spare 34 = .ok (.istore 8, 2) := by decide +kernel
theorem dL_spare_36 : decode cL_spare 36 = .ok (.iload 6, 2) := by decide +kernel
theorem dL_spare_38 : decode cL_spare 38 = .ok (.ifCond .lt 14, 3) := by decide +kernel
theorem dL_spare_41 : decode cL_spare 41 = .ok (.iload 6, 2) := by decide +kernel
theorem dL_spare_43 : decode cL_spare 43 = .ok (.iload 7, 2) := by decide +kernel
theorem dL_spare_45 : decode cL_spare 45 = .ok (.if_icmp .gt 7, 3) := by decide +kernel
theorem dL_spare_48 : decode cL_spare 48 = .ok (.iconst 1, 1) := by decide +kernel
theorem dL_spare_49 : decode cL_spare 49 = .ok (.goto 4, 3) := by decide +kernel
theorem dL_spare_52 : decode cL_spare 52 = .ok (.iconst 0, 1) := by decide +kernel
theorem dL_spare_53 : decode cL_spare 53 = .ok (.istore 9, 2) := by decide +kernel
theorem dL_spare_55 : decode cL_spare 55 = .ok (.aload 4, 2) := by decide +kernel
theorem dL_spare_57 : decode cL_spare 57 = .ok (.bipush 6, 2) := by decide +kernel
theorem dL_spare_59 : decode cL_spare 59 = .ok (.iload_n 1, 1) := by decide +kernel
theorem dL_spare_60 : decode cL_spare 60 = .ok (.imul, 1) := by decide +kernel
theorem dL_spare_61 : decode cL_spare 61 = .ok (.iconst 2, 1) := by decide +kernel
theorem dL_spare_62 : decode cL_spare 62 = .ok (.iadd, 1) := by decide +kernel
theorem dL_spare_63 : decode cL_spare 63 = .ok (.iload 7, 2) := by decide +kernel
theorem dL_spare_65 : decode cL_spare 65 = .ok (.iload 6, 2) := by decide +kernel
theorem dL_spare_67 : decode cL_spare 67 = .ok (.isub, 1) := by decide +kernel
theorem dL_spare_68 : decode cL_spare 68 = .ok (.iastore, 1) := by decide +kernel
theorem dL_spare_69 : decode cL_spare 69 = .ok (.iload 9, 2) := by decide +kernel
theorem dL_spare_71 : decode cL_spare 71 = .ok (.ifCond .eq 28, 3) := by decide +kernel
theorem dL_spare_74 : decode cL_spare 74 = .ok (.aload 4, 2) := by decide +kernel
theorem dL_spare_76 : decode cL_spare 76 = .ok (.bipush 6, 2) := by decide +kernel
theorem dL_spare_78 : decode cL_spare 78 = .ok (.iload_n 1, 1) := by decide +kernel
theorem dL_spare_79 : decode cL_spare 79 = .ok (.imul, 1) := by decide +kernel
theorem dL_spare_80 : decode cL_spare 80 = .ok (.iaload, 1) := by decide +kernel
theorem dL_spare_81 : decode cL_spare 81 = .ok (.aload_n 2, 1) := by decide +kernel
theorem dL_spare_82 : decode cL_spare 82 = .ok (.aload_n 3, 1) := by decide +kernel
theorem dL_spare_83 : decode cL_spare 83 = .ok (.aload 4, 2) := by decide +kernel
theorem dL_spare_85 : decode cL_spare 85 = .ok (.aload 5, 2) := by decide +kernel
theorem dL_spare_87 : decode cL_spare 87 = .ok (.invokestatic 58, 3) := by decide +kernel
theorem dL_spare_90 : decode cL_spare 90 = .ok (.iload 8, 2) := by decide +kernel
theorem dL_spare_92 : decode cL_spare 92 = .ok (.if_icmp .ne 7, 3) := by decide +kernel
theorem dL_spare_95 : decode cL_spare 95 = .ok (.iconst 1, 1) := by decide +kernel
theorem dL_spare_96 : decode cL_spare 96 = .ok (.goto 4, 3) := by decide +kernel
theorem dL_spare_99 : decode cL_spare 99 = .ok (.iconst 0, 1) := by decide +kernel
theorem dL_spare_100 : decode cL_spare 100 = .ok (.istore 9, 2) := by decide +kernel
theorem dL_spare_102 : decode cL_spare 102 = .ok (.aload 4, 2) := by decide +kernel
theorem dL_spare_104 : decode cL_spare 104 = .ok (.bipush 6, 2) := by decide +kernel
theorem dL_spare_106 : decode cL_spare 106 = .ok (.iload_n 1, 1) := by decide +kernel
theorem dL_spare_107 : decode cL_spare 107 = .ok (.imul, 1) := by decide +kernel
theorem dL_spare_108 : decode cL_spare 108 = .ok (.iconst 2, 1) := by decide +kernel
theorem dL_spare_109 : decode cL_spare 109 = .ok (.iadd, 1) := by decide +kernel
theorem dL_spare_110 : decode cL_spare 110 = .ok (.iload 7, 2) := by decide +kernel
theorem dL_spare_112 : decode cL_spare 112 = .ok (.iload 6, 2) := by decide +kernel
theorem dL_spare_114 : decode cL_spare 114 = .ok (.isub, 1) := by decide +kernel
theorem dL_spare_115 : decode cL_spare 115 = .ok (.iconst 1, 1) := by decide +kernel
theorem dL_spare_116 : decode cL_spare 116 = .ok (.isub, 1) := by decide +kernel
theorem dL_spare_117 : decode cL_spare 117 = .ok (.iastore, 1) := by decide +kernel
theorem dL_spare_118 : decode cL_spare 118 = .ok (.iload 9, 2) := by decide +kernel
theorem dL_spare_120 : decode cL_spare 120 = .ok (.ifCond .eq 35, 3) := by decide +kernel
theorem dL_spare_123 : decode cL_spare 123 = .ok (.iload 6, 2) := by decide +kernel
theorem dL_spare_125 : decode cL_spare 125 = .ok (.iload 7, 2) := by decide +kernel
theorem dL_spare_127 : decode cL_spare 127 = .ok (.if_icmp .eq 24, 3) := by decide +kernel
theorem dL_spare_130 : decode cL_spare 130 = .ok (.aload 4, 2) := by decide +kernel
theorem dL_spare_132 : decode cL_spare 132 = .ok (.bipush 6, 2) := by decide +kernel
theorem dL_spare_134 : decode cL_spare 134 = .ok (.iload_n 1, 1) := by decide +kernel
theorem dL_spare_135 : decode cL_spare 135 = .ok (.imul, 1) := by decide +kernel
theorem dL_spare_136 : decode cL_spare 136 = .ok (.iaload, 1) := by decide +kernel
theorem dL_spare_137 : decode cL_spare 137 = .ok (.aload_n 2, 1) := by decide +kernel
theorem dL_spare_138 : decode cL_spare 138 = .ok (.aload_n 3, 1) := by decide +kernel
theorem dL_spare_139 : decode cL_spare 139 = .ok (.aload 4, 2) := by decide +kernel
theorem dL_spare_141 : decode cL_spare 141 = .ok (.aload 5, 2) := by decide +kernel
theorem dL_spare_143 : decode cL_spare 143 = .ok (.invokestatic 58, 3) := by decide +kernel
theorem dL_spare_146 : decode cL_spare 146 = .ok (.iload 8, 2) := by decide +kernel
theorem dL_spare_148 : decode cL_spare 148 = .ok (.if_icmp .le 7, 3) := by decide +kernel
theorem dL_spare_151 : decode cL_spare 151 = .ok (.iconst 1, 1) := by decide +kernel
theorem dL_spare_152 : decode cL_spare 152 = .ok (.goto 4, 3) := by decide +kernel
theorem dL_spare_155 : decode cL_spare 155 = .ok (.iconst 0, 1) := by decide +kernel
theorem dL_spare_156 : decode cL_spare 156 = .ok (.istore 9, 2) := by decide +kernel
theorem dL_spare_158 : decode cL_spare 158 = .ok (.aload 4, 2) := by decide +kernel
theorem dL_spare_160 : decode cL_spare 160 = .ok (.bipush 6, 2) := by decide +kernel
theorem dL_spare_162 : decode cL_spare 162 = .ok (.iload_n 1, 1) := by decide +kernel
theorem dL_spare_163 : decode cL_spare 163 = .ok (.imul, 1) := by decide +kernel
theorem dL_spare_164 : decode cL_spare 164 = .ok (.iconst 2, 1) := by decide +kernel
theorem dL_spare_165 : decode cL_spare 165 = .ok (.iadd, 1) := by decide +kernel
theorem dL_spare_166 : decode cL_spare 166 = .ok (.iload 7, 2) := by decide +kernel
theorem dL_spare_168 : decode cL_spare 168 = .ok (.iastore, 1) := by decide +kernel
theorem dL_spare_169 : decode cL_spare 169 = .ok (.iload 9, 2) := by decide +kernel
theorem dL_spare_171 : decode cL_spare 171 = .ok (.ireturn, 1) := by decide +kernel
set_option maxRecDepth 20000 in
theorem ggL_isSo_X2_today : GoodIn wsL_isSo wsX2_today := goodIn_r _ [5, 6, 350, 351, 352, 353, 354, 355, 356, 357, 358] (by decide +kernel) (by decide +kernel)
set_option maxRecDepth 20000 in
theorem gL_isSo_X2_today : GoodIn wsL_isSo (wsV RL 62 RX2 yX2_today wsX2_today) := goodIn_app (goodIn_of _ (by decide +kernel)) ggL_isSo_X2_today
set_option maxRecDepth 20000 in
theorem ggL_isSo_X2_rights : GoodIn wsL_isSo wsX2_rights := goodIn_r _ [10, 11, 12, 13, 14, 15, 16, 17, 350, 351, 352, 353, 354, 355, 356, 357, 358, 359, 360, 361] (by decide +kernel) (by decide +kernel)
set_option maxRecDepth 20000 in
theorem gL_isSo_X2_rights : GoodIn wsL_isSo (wsV RL 66 RX2 yX2_rights wsX2_rights) := goodIn_app (goodIn_of _ (by decide +kernel)) ggL_isSo_X2_rights
set_option maxRecDepth 20000 in
theorem ggL_isSo_X2_hostOf : GoodIn wsL_isSo wsX2_hostOf := goodIn_ca (goodIn_r _ [21, 22, 23, 24, 4, 25, 26, 27, 350, 351, 352, 353, 354, 355, 356, 357, 358] (by decide +kernel) (by decide +kernel)) (goodIn_sub (fun _ h => List.mem_cons_of_mem _ (List.mem_append_left _ (List.mem_append_left _ (List.mem_append_right _ h)))) (by decide +kernel))
set_option maxRecDepth 20000 in
theorem gL_isSo_X2_hostOf : GoodIn wsL_isSo (wsV RL 69 RX2 yX2_hostOf wsX2_hostOf) := goodIn_app (goodIn_of _ (by decide +kernel)) ggL_isSo_X2_hostOf
set_option maxRecDepth 20000 in
theorem ggL_isSo_X2_weight : GoodIn wsL_isSo wsX2_weight := goodIn_ca (goodIn_r _ [31, 23, 24, 4, 25, 26, 27, 32, 33, 34, 35, 36, 37, 38, 39, 40, 41, 350, 351, 352, 353, 354, 355, 356, 357, 358] (by decide +kernel) (by decide +kernel)) (goodIn_sub (fun _ h => List.mem_cons_of_mem _ (List.mem_append_left _ (List.mem_append_left _ (List.mem_append_right _ h)))) (by decide +kernel))
set_option maxRecDepth 20000 in
theorem gL_isSo_X2_weight : GoodIn wsL_isSo (wsV RL 72 RX2 yX2_weight wsX2_weight) := goodIn_app (goodIn_of _ (by decide +kernel)) ggL_isSo_X2_weight
set_option maxRecDepth 20000 in
theorem ggL_isSo_L_low : GoodIn wsL_isSo wsL_low := goodIn_r _ [45, 46] (by decide +kernel) (by decide +kernel)
set_option maxRecDepth 20000 in
theorem gL_isSo_L_low : GoodIn wsL_isSo (va_wsS RL 75 yL_low wsL_low) := goodIn_app (goodIn_of _ (by decide +kernel)) ggL_isSo_L_low
set_option maxRecDepth 20000 in
theorem ggL_isSo_X2_countOf : GoodIn wsL_isSo wsX2_countOf := goodIn_ca (goodIn_r _ [50, 51, 52, 53, 54, 4, 55, 26, 27, 11, 56, 12, 13, 14, 15, 16, 17, 57, 58, 59, 60, 61, 62, 63, 64, 65, 66, 67, 68, 69, 70, 71, 72, 73, 362, 363, 364, 365, 366, 367, 350, 351, 352, 353, 354, 355, 356, 357, 358, 359, 360, 361] (by decide +kernel) (by decide +kernel)) (goodIn_sub (fun _ h => List.mem_cons_of_mem _ (List.mem_append_left _ (List.mem_append_left _ (List.mem_append_right _ h)))) (by decide +kernel))
set_option maxRecDepth 20000 in
theorem gL_isSo_X2_countOf : GoodIn wsL_isSo (wsV RL 78 RX2 yX2_countOf wsX2_countOf) := goodIn_app (goodIn_of _ (by decide +kernel)) ggL_isSo_X2_countOf
set_option maxRecDepth 20000 in
theorem ggL_isSo_X2_versionOf : GoodIn wsL_isSo wsX2_versionOf := goodIn_ca (goodIn_r _ [77, 78, 52, 53, 54, 4, 55, 26, 27, 11, 56, 12, 13, 14, 15, 16, 17, 57, 58, 59, 60, 61, 62, 63, 64, 65, 66, 67, 68, 69, 70, 71, 72, 73, 362, 363, 364, 365, 366, 367, 350, 351, 352, 353, 354, 355, 356, 357, 358, 359, 360, 361] (by decide +kernel) (by decide +kernel)) (goodIn_sub (fun _ h => List.mem_cons_of_mem _ (List.mem_append_left _ (List.mem_append_left _ (List.mem_append_right _ h)))) (by decide +kernel))
set_option maxRecDepth 20000 in
theorem gL_isSo_X2_versionOf : GoodIn wsL_isSo (wsV RL 81 RX2 yX2_versionOf wsX2_versionOf) := goodIn_app (goodIn_of _ (by decide +kernel)) ggL_isSo_X2_versionOf
set_option maxRecDepth 20000 in
theorem ggL_isSo_X2_covers : GoodIn wsL_isSo wsX2_covers := goodIn_ca (goodIn_r _ [82, 22, 52, 53, 54, 4, 55, 26, 27, 11, 56, 12, 13, 14, 15, 16, 17, 57, 58, 59, 60, 61, 62, 63, 64, 65, 66, 67, 68, 69, 70, 71, 72, 73, 23, 24, 25, 83, 84, 85, 86, 87, 39, 88, 78, 350, 351, 352, 353, 354, 355, 356, 357, 358, 359, 360, 361, 362, 363, 364, 365, 366, 367] (by decide +kernel) (by decide +kernel)) (goodIn_sub (fun _ h => List.mem_cons_of_mem _ (List.mem_append_left _ (List.mem_append_left _ (List.mem_append_right _ h)))) (by decide +kernel))
set_option maxRecDepth 20000 in
theorem gL_isSo_X2_covers : GoodIn wsL_isSo (wsV RL 84 RX2 yX2_covers wsX2_covers) := goodIn_app (goodIn_of _ (by decide +kernel)) ggL_isSo_X2_covers
set_option maxRecDepth 20000 in
theorem ggL_isSo_L_covers : GoodIn wsL_isSo wsL_covers := goodIn_r _ [91] (by decide +kernel) (by decide +kernel)
set_option maxRecDepth 20000 in
theorem gL_isSo_L_covers : GoodIn wsL_isSo (va_wsS RL 47 yL_covers wsL_covers) := goodIn_app (goodIn_of _ (by decide +kernel)) ggL_isSo_L_covers
set_option maxRecDepth 20000 in
theorem ggL_isSo_L_gap : GoodIn wsL_isSo wsL_gap := goodIn_r _ [94, 95, 96, 97, 44, 98, 89, 90, 91] (by decide +kernel) (by decide +kernel)
set_option maxRecDepth 20000 in
theorem gL_isSo_L_gap : GoodIn wsL_isSo (va_wsS RL 58 yL_gap wsL_gap) := goodIn_app (goodIn_of _ (by decide +kernel)) ggL_isSo_L_gap
set_option maxRecDepth 20000 in
theorem ggL_isSo_X2_latest : GoodIn wsL_isSo wsX2_latest := goodIn_ca (goodIn_r _ [102, 103, 32, 33, 4, 34, 26, 27, 350, 351, 352, 353, 354, 355, 356, 357, 358] (by decide +kernel) (by decide +kernel)) (goodIn_sub (fun _ h => List.mem_cons_of_mem _ (List.mem_append_left _ (List.mem_append_left _ (List.mem_append_right _ h)))) (by decide +kernel))
set_option maxRecDepth 20000 in
theorem gL_isSo_X2_latest : GoodIn wsL_isSo (wsV RL 86 RX2 yX2_latest wsX2_latest) := goodIn_app (goodIn_of _ (by decide +kernel)) ggL_isSo_X2_latest
set_option maxRecDepth 20000 in
theorem ggL_isSo_X2_gap : GoodIn wsL_isSo wsX2_gap := goodIn_ca (goodIn_r _ [107, 108, 22, 32, 33, 4, 34, 26, 27, 109, 110, 111, 112, 113, 114, 115, 116, 11, 56, 88, 51, 117, 118, 119, 120, 39, 121, 122, 123, 124, 125, 126, 127, 128, 129, 130, 131, 132, 35, 36, 37, 38, 40, 41, 133, 134, 135, 136, 137, 12, 13, 14, 15, 16, 17, 57, 58, 59, 60, 61, 62, 63, 64, 65, 66, 67, 68, 69, 70, 71, 72, 73, 138, 139, 140, 141, 142, 143, 144, 145, 146, 147, 87, 148, 149, 150, 151, 83, 84, 85, 86, 78, 152, 153, 154, 155, 156, 157, 158, 159, 160, 161, 162, 163, 164, 165, 166, 167, 168, 169, 170, 171, 172, 173, 174, 175, 176, 177, 178, 179, 180, 181, 350, 351, 352, 353, 354, 355, 356, 357, 358, 362, 363, 364, 365, 366, 367, 368, 369, 370, 371, 372, 373, 374, 359, 360, 361] (by decide +kernel) (by decide +kernel)) (goodIn_sub (fun _ h => List.mem_cons_of_mem _ (List.mem_append_left _ (List.mem_append_left _ (List.mem_append_right _ h)))) (by decide +kernel))
set_option maxRecDepth 20000 in
theorem gL_isSo_X2_gap : GoodIn wsL_isSo (wsV RL 89 RX2 yX2_gap wsX2_gap) := goodIn_app (goodIn_of _ (by decide +kernel)) ggL_isSo_X2_gap
set_option maxRecDepth 20000 in
theorem ggL_isSo_X2_uncovered : GoodIn wsL_isSo wsX2_uncovered := goodIn_ca (goodIn_r _ [185, 22, 32, 33, 4, 34, 26, 27, 109, 110, 111, 112, 108, 113, 114, 115, 116, 11, 56, 88, 51, 117, 118, 119, 120, 39, 121, 122, 123, 124, 125, 126, 127, 128, 129, 130, 131, 132, 35, 36, 37, 38, 40, 41, 133, 134, 135, 136, 137, 12, 13, 14, 15, 16, 17, 57, 58, 59, 60, 61, 62, 63, 64, 65, 66, 67, 68, 69, 70, 71, 72, 73, 138, 139, 140, 141, 142, 143, 144, 145, 146, 147, 87, 148, 149, 150, 151, 83, 84, 85, 86, 78, 152, 153, 154, 155, 156, 157, 158, 159, 160, 161, 162, 163, 164, 165, 166, 167, 168, 169, 170, 171, 172, 173, 174, 175, 176, 177, 178, 179, 180, 350, 351, 352, 353, 354, 355, 356, 357, 358, 362, 363, 364, 365, 366, 367, 368, 369, 370, 371, 372, 373, 374, 359, 360, 361] (by decide +kernel) (by decide +kernel)) (goodIn_sub (fun _ h => List.mem_cons_of_mem _ (List.mem_append_left _ (List.mem_append_left _ (List.mem_append_right _ h)))) (by decide +kernel))
set_option maxRecDepth 20000 in
theorem gL_isSo_X2_uncovered : GoodIn wsL_isSo (wsV RL 91 RX2 yX2_uncovered wsX2_uncovered) := goodIn_app (goodIn_of _ (by decide +kernel)) ggL_isSo_X2_uncovered
set_option maxRecDepth 20000 in
theorem ggL_isSo_L_calls : GoodIn wsL_isSo wsL_calls := goodIn_ca (goodIn_ca (goodIn_ca (goodIn_r _ [188, 189, 190, 191, 192, 193, 4, 194, 22, 195, 196, 197, 198, 199, 200, 201, 202, 23, 24, 25, 26, 27, 203, 204, 205, 206, 207, 208, 209, 210, 103, 11, 56, 88, 78, 211, 6, 32, 33, 34, 12, 13, 14, 15, 16, 17, 57, 58, 59, 60, 61, 62, 63, 64, 65, 66, 67, 68, 69, 70, 71, 72, 73, 212, 213, 214, 215, 216, 217, 218, 219, 220, 221, 222, 223, 224, 225, 226, 227, 228, 229, 230, 231, 232, 233, 234, 235, 236, 237, 238, 239, 240, 241, 242, 243, 244, 245, 246, 247, 248, 249, 250, 251, 252, 253, 254, 255, 256, 257, 258, 259, 260, 261, 149, 150, 151, 262, 263, 264, 265, 266, 267, 268, 269, 270, 271, 272, 273, 131, 274, 275, 276, 277, 278, 279, 280, 281, 282, 283, 284, 163, 164, 285, 286, 287, 288, 289, 290, 291, 292, 51, 87, 52, 53, 54, 55, 293, 294, 295, 296, 297, 298, 299, 300, 301, 302, 303, 304, 108, 305, 306, 307, 308, 117, 118, 119, 120, 39, 121, 122, 123, 124, 125, 126, 127, 128, 129, 130, 132, 35, 36, 37, 38, 40, 41, 133, 134, 135, 136, 137, 138, 139, 140, 141, 142, 143, 144, 145, 146, 147, 148, 83, 84, 85, 86, 309, 310, 311, 312, 313, 314, 315, 316, 317, 318, 319, 157, 156, 320, 321, 322, 323, 169, 170, 171, 172, 173, 174, 175, 176, 177, 178, 179, 180, 181, 324, 325, 326, 327, 328, 329, 109, 110, 111, 112, 113, 114, 115, 116, 152, 153, 154, 155, 158, 159, 160, 161, 162, 165, 166, 167, 168, 350, 351, 352, 353, 354, 355, 356, 357, 358, 362, 363, 364, 365, 366, 367, 359, 360, 361, 368, 369, 370, 371, 372, 373, 374] (by decide +kernel) (by decide +kernel)) (goodIn_sub (fun _ h => List.mem_cons_of_mem _ (List.mem_append_left _ (List.mem_append_right _ h))) (by decide +kernel))) (goodIn_sub (fun _ h => List.mem_cons_of_mem _ (List.mem_append_right _ h)) (by decide +kernel))) (goodIn_sub (fun _ h => List.mem_cons_of_mem _ (List.mem_append_left _ (List.mem_append_left _ (List.mem_append_right _ h)))) (by decide +kernel))
set_option maxRecDepth 20000 in
theorem gL_isSo_L_calls : GoodIn wsL_isSo (va_wsS RL 94 yL_calls wsL_calls) := goodIn_app (goodIn_of _ (by decide +kernel)) ggL_isSo_L_calls
set_option maxRecDepth 20000 in
theorem ggL_isSo_L_many : GoodIn wsL_isSo wsL_many := goodIn_r _ [332] (by decide +kernel) (by decide +kernel)
set_option maxRecDepth 20000 in
theorem gL_isSo_L_many : GoodIn wsL_isSo (va_wsS RL 98 yL_many wsL_many) := goodIn_app (goodIn_of _ (by decide +kernel)) ggL_isSo_L_many
set_option maxRecDepth 20000 in
theorem ggL_isSo_L_refuses : GoodIn wsL_isSo wsL_refuses := goodIn_r _ [335, 336, 337, 44, 338] (by decide +kernel) (by decide +kernel)
set_option maxRecDepth 20000 in
theorem gL_isSo_L_refuses : GoodIn wsL_isSo (va_wsS RL 102 yL_refuses wsL_refuses) := goodIn_app (goodIn_of _ (by decide +kernel)) ggL_isSo_L_refuses
set_option maxRecDepth 20000 in
theorem ggL_isSo_L_spare : GoodIn wsL_isSo wsL_spare := goodIn_ca (goodIn_r _ [341, 342, 343, 344, 4, 345, 88, 22, 108, 51, 52, 53, 54, 55, 26, 27, 11, 56, 12, 13, 14, 15, 16, 17, 57, 58, 59, 60, 61, 62, 63, 64, 65, 66, 67, 68, 69, 70, 71, 72, 73, 113, 114, 115, 116, 117, 118, 119, 120, 39, 121, 122, 123, 124, 125, 126, 127, 128, 129, 130, 131, 132, 35, 36, 37, 38, 40, 41, 133, 134, 135, 136, 137, 138, 139, 140, 141, 142, 143, 144, 145, 146, 147, 87, 148, 149, 150, 151, 83, 84, 85, 86, 78, 152, 153, 154, 155, 156, 157, 158, 159, 160, 161, 162, 163, 164, 165, 166, 167, 168, 169, 170, 171, 172, 173, 174, 175, 176, 177, 178, 179, 180, 181, 346, 347, 348, 349, 92, 93, 44, 94, 95, 96, 97, 98, 89, 90, 91, 362, 363, 364, 365, 366, 367, 350, 351, 352, 353, 354, 355, 356, 357, 358, 359, 360, 361, 368, 369, 370, 371, 372, 373, 374] (by decide +kernel) (by decide +kernel)) (goodIn_sub (fun _ h => List.mem_cons_of_mem _ (List.mem_append_left _ (List.mem_append_left _ (List.mem_append_right _ h)))) (by decide +kernel))
set_option maxRecDepth 20000 in
theorem gL_isSo_L_spare : GoodIn wsL_isSo (va_wsS RL 106 yL_spare wsL_spare) := goodIn_app (goodIn_of _ (by decide +kernel)) ggL_isSo_L_spare
theorem dL_isSo_0 : decode cL_isSo 0 = .ok (.aload_n 0, 1) := by decide +kernel
theorem dL_isSo_1 : decode cL_isSo 1 = .ok (.invokevirtual 62, 3) := by decide +kernel
theorem dL_isSo_4 : decode cL_isSo 4 = .ok (.aload 5, 2) := by decide +kernel
theorem dL_isSo_6 : decode cL_isSo 6 = .ok (.iconst 0, 1) := by decide +kernel
theorem dL_isSo_7 : decode cL_isSo 7 = .ok (.iaload, 1) := by decide +kernel
theorem dL_isSo_8 : decode cL_isSo 8 = .ok (.if_icmp .ne 18, 3) := by decide +kernel
theorem dL_isSo_11 : decode cL_isSo 11 = .ok (.aload_n 0, 1) := by decide +kernel
theorem dL_isSo_12 : decode cL_isSo 12 = .ok (.invokevirtual 66, 3) := by decide +kernel
theorem dL_isSo_15 : decode cL_isSo 15 = .ok (.aload 5, 2) := by decide +kernel
theorem dL_isSo_17 : decode cL_isSo 17 = .ok (.iconst 1, 1) := by decide +kernel
theorem dL_isSo_18 : decode cL_isSo 18 = .ok (.iaload, 1) := by decide +kernel
theorem dL_isSo_19 : decode cL_isSo 19 = .ok (.if_icmp .ne 7, 3) := by decide +kernel
theorem dL_isSo_22 : decode cL_isSo 22 = .ok (.iconst 1, 1) := by decide +kernel
theorem dL_isSo_23 : decode cL_isSo 23 = .ok (.goto 4, 3) := by decide +kernel
theorem dL_isSo_26 : decode cL_isSo 26 = .ok (.iconst 0, 1) := by decide +kernel
theorem dL_isSo_27 : decode cL_isSo 27 = .ok (.istore 6, 2) := by decide +kernel
theorem dL_isSo_29 : decode cL_isSo 29 = .ok (.iconst 0, 1) := by decide +kernel
theorem dL_isSo_30 : decode cL_isSo 30 = .ok (.istore 7, 2) := by decide +kernel
theorem dL_isSo_32 : decode cL_isSo 32 = .ok (.iload 7, 2) := by decide +kernel
theorem dL_isSo_34 : decode cL_isSo 34 = .ok (.iconst 5, 1) := by decide +kernel
theorem dL_isSo_35 : decode cL_isSo 35 = .ok (.if_icmp .ge 108, 3) := by decide +kernel
theorem dL_isSo_38 : decode cL_isSo 38 = .ok (.iload 6, 2) := by decide +kernel
theorem dL_isSo_40 : decode cL_isSo 40 = .ok (.ifCond .eq 103, 3) := by decide +kernel
theorem dL_isSo_43 : decode cL_isSo 43 = .ok (.aload_n 0, 1) := by decide +kernel
theorem dL_isSo_44 : decode cL_isSo 44 = .ok (.iload 7, 2) := by decide +kernel
theorem dL_isSo_46 : decode cL_isSo 46 = .ok (.invokevirtual 69, 3) := by decide +kernel
theorem dL_isSo_49 : decode cL_isSo 49 = .ok (.aload_n 2, 1) := by decide +kernel
theorem dL_isSo_50 : decode cL_isSo 50 = .ok (.iconst 4, 1) := by decide +kernel
theorem dL_isSo_51 : decode cL_isSo 51 = .ok (.iload 7, 2) := by decide +kernel
theorem dL_isSo_53 : decode cL_isSo 53 = .ok (.imul, 1) := by decide +kernel
theorem dL_isSo_54 : decode cL_isSo 54 = .ok (.iconst 1, 1) := by decide +kernel
theorem dL_isSo_55 : decode cL_isSo 55 = .ok (.iadd, 1) := by decide +kernel
theorem dL_isSo_56 : decode cL_isSo 56 = .ok (.iaload, 1) := by decide +kernel
theorem dL_isSo_57 : decode cL_isSo 57 = .ok (.if_icmp .ne 77, 3) := by decide +kernel
theorem dL_isSo_60 : decode cL_isSo 60 = .ok (.aload_n 0, 1) := by decide +kernel
theorem dL_isSo_61 : decode cL_isSo 61 = .ok (.iload 7, 2) := by decide +kernel
theorem dL_isSo_63 : decode cL_isSo 63 = .ok (.iconst 0, 1) := by decide +kernel
theorem dL_isSo_64 : decode cL_isSo 64 = .ok (.invokevirtual 72, 3) := by decide +kernel
theorem dL_isSo_67 : decode cL_isSo 67 = .ok (.aload_n 2, 1) := by decide +kernel
theorem dL_isSo_68 : decode cL_isSo 68 = .ok (.iconst 4, 1) := by decide +kernel
theorem dL_isSo_69 : decode cL_isSo 69 = .ok (.iload 7, 2) := by decide +kernel
theorem dL_isSo_71 : decode cL_isSo 71 = .ok (.imul, 1) := by decide +kernel
theorem dL_isSo_72 : decode cL_isSo 72 = .ok (.iconst 2, 1) := by decide +kernel
theorem dL_isSo_73 : decode cL_isSo 73 = .ok (.iadd, 1) := by decide +kernel
theorem dL_isSo_74 : decode cL_isSo 74 = .ok (.iaload, 1) := by decide +kernel
theorem dL_isSo_75 : decode cL_isSo 75 = .ok (.ifCond .le 16, 3) := by decide +kernel
theorem dL_isSo_78 : decode cL_isSo 78 = .ok (.aload_n 2, 1) := by decide +kernel
theorem dL_isSo_79 : decode cL_isSo 79 = .ok (.iconst 4, 1) := by decide +kernel
theorem dL_isSo_80 : decode cL_isSo 80 = .ok (.iload 7, 2) := by decide +kernel
theorem dL_isSo_82 : decode cL_isSo 82 = .ok (.imul, 1) := by decide +kernel
theorem dL_isSo_83 : decode cL_isSo 83 = .ok (.iaload, 1) := by decide +kernel
theorem dL_isSo_84 : decode cL_isSo 84 = .ok (.aload_n 3, 1) := by decide +kernel
theorem dL_isSo_85 : decode cL_isSo 85 = .ok (.iconst 1, 1) := by decide +kernel
theorem dL_isSo_86 : decode cL_isSo 86 = .ok (.iaload, 1) := by decide +kernel
theorem dL_isSo_87 : decode cL_isSo 87 = .ok (.imul, 1) := by decide +kernel
theorem dL_isSo_88 : decode cL_isSo 88 = .ok (.goto 4, 3) := by decide +kernel
theorem dL_isSo_91 : decode cL_isSo 91 = .ok (.iconst 0, 1) := by decide +kernel
theorem dL_isSo_92 : decode cL_isSo 92 = .ok (.if_icmp .ne 42, 3) := by decide +kernel
theorem dL_isSo_95 : decode cL_isSo 95 = .ok (.aload_n 0, 1) := by decide +kernel
theorem dL_isSo_96 : decode cL_isSo 96 = .ok (.iload 7, 2) := by decide +kernel
theorem dL_isSo_98 : decode cL_isSo 98 = .ok (.iconst 1, 1) := by decide +kernel
theorem dL_isSo_99 : decode cL_isSo 99 = .ok (.invokevirtual 72, 3) := by decide +kernel
theorem dL_isSo_102 : decode cL_isSo 102 = .ok (.aload_n 2, 1) := by decide +kernel
theorem dL_isSo_103 : decode cL_isSo 103 = .ok (.iconst 4, 1) := by decide +kernel
theorem dL_isSo_104 : decode cL_isSo 104 = .ok (.iload 7, 2) := by decide +kernel
theorem dL_isSo_106 : decode cL_isSo 106 = .ok (.imul, 1) := by decide +kernel
theorem dL_isSo_107 : decode cL_isSo 107 = .ok (.iconst 3, 1) := by decide +kernel
theorem dL_isSo_108 : decode cL_isSo 108 = .ok (.iadd, 1) := by decide +kernel
theorem dL_isSo_109 : decode cL_isSo 109 = .ok (.iaload, 1) := by decide +kernel
theorem dL_isSo_110 : decode cL_isSo 110 = .ok (.ifCond .le 16, 3) := by decide +kernel
theorem dL_isSo_113 : decode cL_isSo 113 = .ok (.aload_n 2, 1) := by decide +kernel
theorem dL_isSo_114 : decode cL_isSo 114 = .ok (.iconst 4, 1) := by decide +kernel
theorem dL_isSo_115 : decode cL_isSo 115 = .ok (.iload 7, 2) := by decide +kernel
theorem dL_isSo_117 : decode cL_isSo 117 = .ok (.imul, 1) := by decide +kernel
theorem dL_isSo_118 : decode cL_isSo 118 = .ok (.iaload, 1) := by decide +kernel
theorem dL_isSo_119 : decode cL_isSo 119 = .ok (.aload_n 3, 1) := by decide +kernel
theorem dL_isSo_120 : decode cL_isSo 120 = .ok (.iconst 3, 1) := by decide +kernel
theorem dL_isSo_121 : decode cL_isSo 121 = .ok (.iaload, 1) := by decide +kernel
theorem dL_isSo_122 : decode cL_isSo 122 = .ok (.imul, 1) := by decide +kernel
theorem dL_isSo_123 : decode cL_isSo 123 = .ok (.goto 4, 3) := by decide +kernel
theorem dL_isSo_126 : decode cL_isSo 126 = .ok (.iconst 0, 1) := by decide +kernel
theorem dL_isSo_127 : decode cL_isSo 127 = .ok (.if_icmp .ne 7, 3) := by decide +kernel
theorem dL_isSo_130 : decode cL_isSo 130 = .ok (.iconst 1, 1) := by decide +kernel
theorem dL_isSo_131 : decode cL_isSo 131 = .ok (.goto 4, 3) := by decide +kernel
theorem dL_isSo_134 : decode cL_isSo 134 = .ok (.iconst 0, 1) := by decide +kernel
theorem dL_isSo_135 : decode cL_isSo 135 = .ok (.istore 6, 2) := by decide +kernel
theorem dL_isSo_137 : decode cL_isSo 137 = .ok (.iinc 7 1, 3) := by decide +kernel
theorem dL_isSo_140 : decode cL_isSo 140 = .ok (.goto (-108), 3) := by decide +kernel
theorem dL_isSo_143 : decode cL_isSo 143 = .ok (.iconst 0, 1) := by decide +kernel
theorem dL_isSo_144 : decode cL_isSo 144 = .ok (.istore 7, 2) := by decide +kernel
theorem dL_isSo_146 : decode cL_isSo 146 = .ok (.iload 7, 2) := by decide +kernel
theorem dL_isSo_148 : decode cL_isSo 148 = .ok (.aload 5, 2) := by decide +kernel
theorem dL_isSo_150 : decode cL_isSo 150 = .ok (.iconst 1, 1) := by decide +kernel
theorem dL_isSo_151 : decode cL_isSo 151 = .ok (.iaload, 1) := by decide +kernel
theorem dL_isSo_152 : decode cL_isSo 152 = .ok (.if_icmp .ge 90, 3) := by decide +kernel
theorem dL_isSo_155 : decode cL_isSo 155 = .ok (.iload 6, 2) := by decide +kernel
theorem dL_isSo_157 : decode cL_isSo 157 = .ok (.ifCond .eq 85, 3) := by decide +kernel
theorem dL_isSo_160 : decode cL_isSo 160 = .ok (.iload_n 1, 1) := by decide +kernel
theorem dL_isSo_161 : decode cL_isSo 161 = .ok (.iload 7, 2) := by decide +kernel
theorem dL_isSo_163 : decode cL_isSo 163 = .ok (.ishr, 1) := by decide +kernel
theorem dL_isSo_164 : decode cL_isSo 164 = .ok (.iconst 5, 1) := by decide +kernel
theorem dL_isSo_165 : decode cL_isSo 165 = .ok (.invokestatic 75, 3) := by decide +kernel
theorem dL_isSo_168 : decode cL_isSo 168 = .ok (.istore 8, 2) := by decide +kernel
theorem dL_isSo_170 : decode cL_isSo 170 = .ok (.aload_n 0, 1) := by decide +kernel
theorem dL_isSo_171 : decode cL_isSo 171 = .ok (.iload 7, 2) := by decide +kernel
theorem dL_isSo_173 : decode cL_isSo 173 = .ok (.invokevirtual 78, 3) := by decide +kernel
theorem dL_isSo_176 : decode cL_isSo 176 = .ok (.aload 4, 2) := by decide +kernel
theorem dL_isSo_178 : decode cL_isSo 178 = .ok (.bipush 6, 2) := by decide +kernel
theorem dL_isSo_180 : decode cL_isSo 180 = .ok (.iload 7, 2) := by decide +kernel
theorem dL_isSo_182 : decode cL_isSo 182 = .ok (.imul, 1) := by decide +kernel
theorem dL_isSo_183 : decode cL_isSo 183 = .ok (.iconst 2, 1) := by decide +kernel
theorem dL_isSo_184 : decode cL_isSo 184 = .ok (.iadd, 1) := by decide +kernel
theorem dL_isSo_185 : decode cL_isSo 185 = .ok (.iaload, 1) := by decide +kernel
theorem dL_isSo_186 : decode cL_isSo 186 = .ok (.if_icmp .ne 47, 3) := by decide +kernel
theorem dL_isSo_189 : decode cL_isSo 189 = .ok (.aload_n 0, 1) := by decide +kernel
theorem dL_isSo_190 : decode cL_isSo 190 = .ok (.iload 7, 2) := by decide +kernel
theorem dL_isSo_192 : decode cL_isSo 192 = .ok (.invokevirtual 81, 3) := by decide +kernel
theorem dL_isSo_195 : decode cL_isSo 195 = .ok (.aload 4, 2) := by decide +kernel
theorem dL_isSo_197 : decode cL_isSo 197 = .ok (.bipush 6, 2) := by decide +kernel
theorem dL_isSo_199 : decode cL_isSo 199 = .ok (.iload 7, 2) := by decide +kernel
theorem dL_isSo_201 : decode cL_isSo 201 = .ok (.imul, 1) := by decide +kernel
theorem dL_isSo_202 : decode cL_isSo 202 = .ok (.iconst 4, 1) := by decide +kernel
theorem dL_isSo_203 : decode cL_isSo 203 = .ok (.iadd, 1) := by decide +kernel
theorem dL_isSo_204 : decode cL_isSo 204 = .ok (.iaload, 1) := by decide +kernel
theorem dL_isSo_205 : decode cL_isSo 205 = .ok (.if_icmp .ne 28, 3) := by decide +kernel
theorem dL_isSo_208 : decode cL_isSo 208 = .ok (.aload_n 0, 1) := by decide +kernel
theorem dL_isSo_209 : decode cL_isSo 209 = .ok (.iload 7, 2) := by decide +kernel
theorem dL_isSo_211 : decode cL_isSo 211 = .ok (.iload 8, 2) := by decide +kernel
theorem dL_isSo_213 : decode cL_isSo 213 = .ok (.invokevirtual 84, 3) := by decide +kernel
theorem dL_isSo_216 : decode cL_isSo 216 = .ok (.iload 7, 2) := by decide +kernel
theorem dL_isSo_218 : decode cL_isSo 218 = .ok (.iload 8, 2) := by decide +kernel
theorem dL_isSo_220 : decode cL_isSo 220 = .ok (.aload_n 2, 1) := by decide +kernel
theorem dL_isSo_221 : decode cL_isSo 221 = .ok (.aload 4, 2) := by decide +kernel
theorem dL_isSo_223 : decode cL_isSo 223 = .ok (.invokestatic 47, 3) := by decide +kernel
theorem dL_isSo_226 : decode cL_isSo 226 = .ok (.if_icmp .ne 7, 3) := by decide +kernel
theorem dL_isSo_229 : decode cL_isSo 229 = .ok (.iconst 1, 1) := by decide +kernel
theorem dL_isSo_230 : decode cL_isSo 230 = .ok (.goto 4, 3) := by decide +kernel
theorem dL_isSo_233 : decode cL_isSo 233 = .ok (.iconst 0, 1) := by decide +kernel
theorem dL_isSo_234 : decode cL_isSo 234 = .ok (.istore 6, 2) := by decide +kernel
theorem dL_isSo_236 : decode cL_isSo 236 = .ok (.iinc 7 1, 3) := by decide +kernel
theorem dL_isSo_239 : decode cL_isSo 239 = .ok (.goto (-93), 3) := by decide +kernel
theorem dL_isSo_242 : decode cL_isSo 242 = .ok (.iload_n 1, 1) := by decide +kernel
theorem dL_isSo_243 : decode cL_isSo 243 = .ok (.iconst 2, 1) := by decide +kernel
theorem dL_isSo_244 : decode cL_isSo 244 = .ok (.invokestatic 75, 3) := by decide +kernel
theorem dL_isSo_247 : decode cL_isSo 247 = .ok (.istore 7, 2) := by decide +kernel
theorem dL_isSo_249 : decode cL_isSo 249 = .ok (.iload 7, 2) := by decide +kernel
theorem dL_isSo_251 : decode cL_isSo 251 = .ok (.aload_n 2, 1) := by decide +kernel
theorem dL_isSo_252 : decode cL_isSo 252 = .ok (.aload_n 3, 1) := by decide +kernel
theorem dL_isSo_253 : decode cL_isSo 253 = .ok (.aload 4, 2) := by decide +kernel
theorem dL_isSo_255 : decode cL_isSo 255 = .ok (.aload 5, 2) := by decide +kernel
theorem dL_isSo_257 : decode cL_isSo 257 = .ok (.invokestatic 58, 3) := by decide +kernel
theorem dL_isSo_260 : decode cL_isSo 260 = .ok (.istore 8, 2) := by decide +kernel
theorem dL_isSo_262 : decode cL_isSo 262 = .ok (.iload 6, 2) := by decide +kernel
theorem dL_isSo_264 : decode cL_isSo 264 = .ok (.ifCond .eq 46, 3) := by decide +kernel
theorem dL_isSo_267 : decode cL_isSo 267 = .ok (.aload_n 0, 1) := by decide +kernel
theorem dL_isSo_268 : decode cL_isSo 268 = .ok (.iload 7, 2) := by decide +kernel
theorem dL_isSo_270 : decode cL_isSo 270 = .ok (.invokevirtual 86, 3) := by decide +kernel
theorem dL_isSo_273 : decode cL_isSo 273 = .ok (.aload_n 3, 1) := by decide +kernel
theorem dL_isSo_274 : decode cL_isSo 274 = .ok (.iconst 2, 1) := by decide +kernel
theorem dL_isSo_275 : decode cL_isSo 275 = .ok (.iload 7, 2) := by decide +kernel
theorem dL_isSo_277 : decode cL_isSo 277 = .ok (.imul, 1) := by decide +kernel
theorem dL_isSo_278 : decode cL_isSo 278 = .ok (.iaload, 1) := by decide +kernel
theorem dL_isSo_279 : decode cL_isSo 279 = .ok (.if_icmp .ne 31, 3) := by decide +kernel
theorem dL_isSo_282 : decode cL_isSo 282 = .ok (.aload_n 0, 1) := by decide +kernel
theorem dL_isSo_283 : decode cL_isSo 283 = .ok (.iload 7, 2) := by decide +kernel
theorem dL_isSo_285 : decode cL_isSo 285 = .ok (.invokevirtual 89, 3) := by decide +kernel
theorem dL_isSo_288 : decode cL_isSo 288 = .ok (.iload 8, 2) := by decide +kernel
theorem dL_isSo_290 : decode cL_isSo 290 = .ok (.if_icmp .ne 20, 3) := by decide +kernel
theorem dL_isSo_293 : decode cL_isSo 293 = .ok (.aload_n 0, 1) := by decide +kernel
theorem dL_isSo_294 : decode cL_isSo 294 = .ok (.iload 7, 2) := by decide +kernel
theorem dL_isSo_296 : decode cL_isSo 296 = .ok (.invokevirtual 91, 3) := by decide +kernel
theorem dL_isSo_299 : decode cL_isSo 299 = .ok (.aload 5, 2) := by decide +kernel
theorem dL_isSo_301 : decode cL_isSo 301 = .ok (.iconst 2, 1) := by decide +kernel
theorem dL_isSo_302 : decode cL_isSo 302 = .ok (.iaload, 1) := by decide +kernel
theorem dL_isSo_303 : decode cL_isSo 303 = .ok (.if_icmp .ne 7, 3) := by decide +kernel
theorem dL_isSo_306 : decode cL_isSo 306 = .ok (.iconst 1, 1) := by decide +kernel
theorem dL_isSo_307 : decode cL_isSo 307 = .ok (.goto 4, 3) := by decide +kernel
theorem dL_isSo_310 : decode cL_isSo 310 = .ok (.iconst 0, 1) := by decide +kernel
theorem dL_isSo_311 : decode cL_isSo 311 = .ok (.istore 6, 2) := by decide +kernel
theorem dL_isSo_313 : decode cL_isSo 313 = .ok (.iload 6, 2) := by decide +kernel
theorem dL_isSo_315 : decode cL_isSo 315 = .ok (.ifCond .eq 55, 3) := by decide +kernel
theorem dL_isSo_318 : decode cL_isSo 318 = .ok (.iload_n 1, 1) := by decide +kernel
theorem dL_isSo_319 : decode cL_isSo 319 = .ok (.iconst 4, 1) := by decide +kernel
theorem dL_isSo_320 : decode cL_isSo 320 = .ok (.ishr, 1) := by decide +kernel
theorem dL_isSo_321 : decode cL_isSo 321 = .ok (.bipush 8, 2) := by decide +kernel
theorem dL_isSo_323 : decode cL_isSo 323 = .ok (.invokestatic 75, 3) := by decide +kernel
theorem dL_isSo_326 : decode cL_isSo 326 = .ok (.ifCond .ne 44, 3) := by decide +kernel
theorem dL_isSo_329 : decode cL_isSo 329 = .ok (.aload_n 0, 1) := by decide +kernel
theorem dL_isSo_330 : decode cL_isSo 330 = .ok (.iconst 5, 1) := by decide +kernel
theorem dL_isSo_331 : decode cL_isSo 331 = .ok (.iload 7, 2) := by decide +kernel
theorem dL_isSo_333 : decode cL_isSo 333 = .ok (.iconst 0, 1) := by decide +kernel
theorem dL_isSo_334 : decode cL_isSo 334 = .ok (.iconst 0, 1) := by decide +kernel
theorem dL_isSo_335 : decode cL_isSo 335 = .ok (.iconst 0, 1) := by decide +kernel
theorem dL_isSo_336 : decode cL_isSo 336 = .ok (.invokestatic 94, 3) := by decide +kernel
theorem dL_isSo_339 : decode cL_isSo 339 = .ok (.iload 7, 2) := by decide +kernel
theorem dL_isSo_341 : decode cL_isSo 341 = .ok (.aload 4, 2) := by decide +kernel
theorem dL_isSo_343 : decode cL_isSo 343 = .ok (.aload 5, 2) := by decide +kernel
theorem dL_isSo_345 : decode cL_isSo 345 = .ok (.invokestatic 98, 3) := by decide +kernel
theorem dL_isSo_348 : decode cL_isSo 348 = .ok (.iconst 2, 1) := by decide +kernel
theorem dL_isSo_349 : decode cL_isSo 349 = .ok (.if_icmp .le 9, 3) := by decide +kernel
theorem dL_isSo_352 : decode cL_isSo 352 = .ok (.sipush (-2003), 3) := by decide +kernel
theorem dL_isSo_355 : decode cL_isSo 355 = .ok (.goto 5, 3) := by decide +kernel
theorem dL_isSo_358 : decode cL_isSo 358 = .ok (.iload 8, 2) := by decide +kernel
theorem dL_isSo_360 : decode cL_isSo 360 = .ok (.if_icmp .ne 7, 3) := by decide +kernel
theorem dL_isSo_363 : decode cL_isSo 363 = .ok (.iconst 1, 1) := by decide +kernel
theorem dL_isSo_364 : decode cL_isSo 364 = .ok (.goto 4, 3) := by decide +kernel
theorem dL_isSo_367 : decode cL_isSo 367 = .ok (.iconst 0, 1) := by decide +kernel
theorem dL_isSo_368 : decode cL_isSo 368 = .ok (.istore 6, 2) := by decide +kernel
theorem dL_isSo_370 : decode cL_isSo 370 = .ok (.iload 6, 2) := by decide +kernel
theorem dL_isSo_372 : decode cL_isSo 372 = .ok (.ifCond .eq 134, 3) := by decide +kernel
theorem dL_isSo_375 : decode cL_isSo 375 = .ok (.iload_n 1, 1) := by decide +kernel
theorem dL_isSo_376 : decode cL_isSo 376 = .ok (.iconst 5, 1) := by decide +kernel
theorem dL_isSo_377 : decode cL_isSo 377 = .ok (.ishr, 1) := by decide +kernel
theorem dL_isSo_378 : decode cL_isSo 378 = .ok (.iconst 4, 1) := by decide +kernel
theorem dL_isSo_379 : decode cL_isSo 379 = .ok (.invokestatic 75, 3) := by decide +kernel
theorem dL_isSo_382 : decode cL_isSo 382 = .ok (.ifCond .ne 124, 3) := by decide +kernel
theorem dL_isSo_385 : decode cL_isSo 385 = .ok (.iload_n 1, 1) := by decide +kernel
theorem dL_isSo_386 : decode cL_isSo 386 = .ok (.bipush 7, 2) := by decide +kernel
theorem dL_isSo_388 : decode cL_isSo 388 = .ok (.ishr, 1) := by decide +kernel
theorem dL_isSo_389 : decode cL_isSo 389 = .ok (.iconst 5, 1) := by decide +kernel
theorem dL_isSo_390 : decode cL_isSo 390 = .ok (.invokestatic 75, 3) := by decide +kernel
theorem dL_isSo_393 : decode cL_isSo 393 = .ok (.istore 9, 2) := by decide +kernel
theorem dL_isSo_395 : decode cL_isSo 395 = .ok (.iload_n 1, 1) := by decide +kernel
theorem dL_isSo_396 : decode cL_isSo 396 = .ok (.bipush 9, 2) := by decide +kernel
theorem dL_isSo_398 : decode cL_isSo 398 = .ok (.ishr, 1) := by decide +kernel
theorem dL_isSo_399 : decode cL_isSo 399 = .ok (.bipush 6, 2) := by decide +kernel
theorem dL_isSo_401 : decode cL_isSo 401 = .ok (.invokestatic 75, 3) := by decide +kernel
theorem dL_isSo_404 : decode cL_isSo 404 = .ok (.iconst 1, 1) := by decide +kernel
theorem dL_isSo_405 : decode cL_isSo 405 = .ok (.isub, 1) := by decide +kernel
theorem dL_isSo_406 : decode cL_isSo 406 = .ok (.istore 10, 2) := by decide +kernel
theorem dL_isSo_408 : decode cL_isSo 408 = .ok (.iload 9, 2) := by decide +kernel
theorem dL_isSo_410 : decode cL_isSo 410 = .ok (.iload 10, 2) := by decide +kernel
theorem dL_isSo_412 : decode cL_isSo 412 = .ok (.aload_n 2, 1) := by decide +kernel
theorem dL_isSo_413 : decode cL_isSo 413 = .ok (.invokestatic 102, 3) := by decide +kernel
theorem dL_isSo_416 : decode cL_isSo 416 = .ok (.istore 11, 2) := by decide +kernel
theorem dL_isSo_418 : decode cL_isSo 418 = .ok (.aload_n 2, 1) := by decide +kernel
theorem dL_isSo_419 : decode cL_isSo 419 = .ok (.iconst 4, 1) := by decide +kernel
theorem dL_isSo_420 : decode cL_isSo 420 = .ok (.iload 9, 2) := by decide +kernel
theorem dL_isSo_422 : decode cL_isSo 422 = .ok (.imul, 1) := by decide +kernel
theorem dL_isSo_423 : decode cL_isSo 423 = .ok (.iconst 1, 1) := by decide +kernel
theorem dL_isSo_424 : decode cL_isSo 424 = .ok (.iadd, 1) := by decide +kernel
theorem dL_isSo_425 : decode cL_isSo 425 = .ok (.iaload, 1) := by decide +kernel
theorem dL_isSo_426 : decode cL_isSo 426 = .ok (.istore 12, 2) := by decide +kernel
theorem dL_isSo_428 : decode cL_isSo 428 = .ok (.aload_n 2, 1) := by decide +kernel
theorem dL_isSo_429 : decode cL_isSo 429 = .ok (.iconst 4, 1) := by decide +kernel
theorem dL_isSo_430 : decode cL_isSo 430 = .ok (.iload 9, 2) := by decide +kernel
theorem dL_isSo_432 : decode cL_isSo 432 = .ok (.imul, 1) := by decide +kernel
theorem dL_isSo_433 : decode cL_isSo 433 = .ok (.iconst 1, 1) := by decide +kernel
theorem dL_isSo_434 : decode cL_isSo 434 = .ok (.iadd, 1) := by decide +kernel
theorem dL_isSo_435 : decode cL_isSo 435 = .ok (.iload 11, 2) := by decide +kernel
theorem dL_isSo_437 : decode cL_isSo 437 = .ok (.ifCond .ge 8, 3) := by decide +kernel
theorem dL_isSo_440 : decode cL_isSo 440 = .ok (.iload 12, 2) := by decide +kernel
theorem dL_isSo_442 : decode cL_isSo 442 = .ok (.goto 5, 3) := by decide +kernel
theorem dL_isSo_445 : decode cL_isSo 445 = .ok (.iload 10, 2) := by decide +kernel
theorem dL_isSo_447 : decode cL_isSo 447 = .ok (.iastore, 1) := by decide +kernel
theorem dL_isSo_448 : decode cL_isSo 448 = .ok (.iload 11, 2) := by decide +kernel
theorem dL_isSo_450 : decode cL_isSo 450 = .ok (.ifCond .ge 8, 3) := by decide +kernel
theorem dL_isSo_453 : decode cL_isSo 453 = .ok (.iload 11, 2) := by decide +kernel
theorem dL_isSo_455 : decode cL_isSo 455 = .ok (.goto 14, 3) := by decide +kernel
theorem dL_isSo_458 : decode cL_isSo 458 = .ok (.iload 7, 2) := by decide +kernel
theorem dL_isSo_460 : decode cL_isSo 460 = .ok (.aload_n 2, 1) := by decide +kernel
theorem dL_isSo_461 : decode cL_isSo 461 = .ok (.aload_n 3, 1) := by decide +kernel
theorem dL_isSo_462 : decode cL_isSo 462 = .ok (.aload 4, 2) := by decide +kernel
theorem dL_isSo_464 : decode cL_isSo 464 = .ok (.aload 5, 2) := by decide +kernel
theorem dL_isSo_466 : decode cL_isSo 466 = .ok (.invokestatic 58, 3) := by decide +kernel
theorem dL_isSo_469 : decode cL_isSo 469 = .ok (.istore 11, 2) := by decide +kernel
theorem dL_isSo_471 : decode cL_isSo 471 = .ok (.aload_n 2, 1) := by decide +kernel
theorem dL_isSo_472 : decode cL_isSo 472 = .ok (.iconst 4, 1) := by decide +kernel
theorem dL_isSo_473 : decode cL_isSo 473 = .ok (.iload 9, 2) := by decide +kernel
theorem dL_isSo_475 : decode cL_isSo 475 = .ok (.imul, 1) := by decide +kernel
theorem dL_isSo_476 : decode cL_isSo 476 = .ok (.iconst 1, 1) := by decide +kernel
theorem dL_isSo_477 : decode cL_isSo 477 = .ok (.iadd, 1) := by decide +kernel
theorem dL_isSo_478 : decode cL_isSo 478 = .ok (.iload 12, 2) := by decide +kernel
theorem dL_isSo_480 : decode cL_isSo 480 = .ok (.iastore, 1) := by decide +kernel
theorem dL_isSo_481 : decode cL_isSo 481 = .ok (.aload_n 0, 1) := by decide +kernel
theorem dL_isSo_482 : decode cL_isSo 482 = .ok (.bipush 6, 2) := by decide +kernel
theorem dL_isSo_484 : decode cL_isSo 484 = .ok (.iload 7, 2) := by decide +kernel
theorem dL_isSo_486 : decode cL_isSo 486 = .ok (.iload 9, 2) := by decide +kernel
theorem dL_isSo_488 : decode cL_isSo 488 = .ok (.iload 10, 2) := by decide +kernel
theorem dL_isSo_490 : decode cL_isSo 490 = .ok (.iconst 0, 1) := by decide +kernel
theorem dL_isSo_491 : decode cL_isSo 491 = .ok (.invokestatic 94, 3) := by decide +kernel
theorem dL_isSo_494 : decode cL_isSo 494 = .ok (.iload 11, 2) := by decide +kernel
theorem dL_isSo_496 : decode cL_isSo 496 = .ok (.if_icmp .ne 7, 3) := by decide +kernel
theorem dL_isSo_499 : decode cL_isSo 499 = .ok (.iconst 1, 1) := by decide +kernel
theorem dL_isSo_500 : decode cL_isSo 500 = .ok (.goto 4, 3) := by decide +kernel
theorem dL_isSo_503 : decode cL_isSo 503 = .ok (.iconst 0, 1) := by decide +kernel
theorem dL_isSo_504 : decode cL_isSo 504 = .ok (.istore 6, 2) := by decide +kernel
theorem dL_isSo_506 : decode cL_isSo 506 = .ok (.iload 6, 2) := by decide +kernel
theorem dL_isSo_508 : decode cL_isSo 508 = .ok (.ifCond .eq 49, 3) := by decide +kernel
theorem dL_isSo_511 : decode cL_isSo 511 = .ok (.aload 5, 2) := by decide +kernel
theorem dL_isSo_513 : decode cL_isSo 513 = .ok (.iconst 1, 1) := by decide +kernel
theorem dL_isSo_514 : decode cL_isSo 514 = .ok (.iaload, 1) := by decide +kernel
theorem dL_isSo_515 : decode cL_isSo 515 = .ok (.ifCond .eq 38, 3) := by decide +kernel
theorem dL_isSo_518 : decode cL_isSo 518 = .ok (.iload_n 1, 1) := by decide +kernel
theorem dL_isSo_519 : decode cL_isSo 519 = .ok (.bipush 6, 2) := by decide +kernel
theorem dL_isSo_521 : decode cL_isSo 521 = .ok (.ishr, 1) := by decide +kernel
theorem dL_isSo_522 : decode cL_isSo 522 = .ok (.iconst 5, 1) := by decide +kernel
theorem dL_isSo_523 : decode cL_isSo 523 = .ok (.invokestatic 75, 3) := by decide +kernel
theorem dL_isSo_526 : decode cL_isSo 526 = .ok (.ifCond .gt 27, 3) := by decide +kernel
theorem dL_isSo_529 : decode cL_isSo 529 = .ok (.aload_n 0, 1) := by decide +kernel
theorem dL_isSo_530 : decode cL_isSo 530 = .ok (.iload_n 1, 1) := by decide +kernel
theorem dL_isSo_531 : decode cL_isSo 531 = .ok (.bipush 8, 2) := by decide +kernel
theorem dL_isSo_533 : decode cL_isSo 533 = .ok (.ishr, 1) := by decide +kernel
theorem dL_isSo_534 : decode cL_isSo 534 = .ok (.aload 5, 2) := by decide +kernel
theorem dL_isSo_536 : decode cL_isSo 536 = .ok (.iconst 1, 1) := by decide +kernel
theorem dL_isSo_537 : decode cL_isSo 537 = .ok (.iaload, 1) := by decide +kernel
theorem dL_isSo_538 : decode cL_isSo 538 = .ok (.invokestatic 75, 3) := by decide +kernel
theorem dL_isSo_541 : decode cL_isSo 541 = .ok (.aload_n 2, 1) := by decide +kernel
theorem dL_isSo_542 : decode cL_isSo 542 = .ok (.aload_n 3, 1) := by decide +kernel
theorem dL_isSo_543 : decode cL_isSo 543 = .ok (.aload 4, 2) := by decide +kernel
theorem dL_isSo_545 : decode cL_isSo 545 = .ok (.aload 5, 2) := by decide +kernel
theorem dL_isSo_547 : decode cL_isSo 547 = .ok (.invokestatic 106, 3) := by decide +kernel
theorem dL_isSo_550 : decode cL_isSo 550 = .ok (.ifCond .eq 7, 3) := by decide +kernel
theorem dL_isSo_553 : decode cL_isSo 553 = .ok (.iconst 1, 1) := by decide +kernel
theorem dL_isSo_554 : decode cL_isSo 554 = .ok (.goto 4, 3) := by decide +kernel
theorem dL_isSo_557 : decode cL_isSo 557 = .ok (.iconst 0, 1) := by decide +kernel
theorem dL_isSo_558 : decode cL_isSo 558 = .ok (.ireturn, 1) := by decide +kernel
set_option maxRecDepth 20000 in
theorem ggL_machines_L_low : GoodIn wsL_machines wsL_low := goodIn_r _ [4, 5] (by decide +kernel) (by decide +kernel)
set_option maxRecDepth 20000 in
theorem gL_machines_L_low : GoodIn wsL_machines (va_wsS RL 75 yL_low wsL_low) := goodIn_app (goodIn_of _ (by decide +kernel)) ggL_machines_L_low
set_option maxRecDepth 20000 in
theorem ggL_machines_X2_setCores : GoodIn wsL_machines wsX2_setCores := goodIn_ca (goodIn_ca (goodIn_r _ [10, 11, 12, 13, 9, 14, 15, 16, 17, 18, 19, 20, 21, 294, 295, 296, 297, 298, 299, 300, 301, 302] (by decide +kernel) (by decide +kernel)) (goodIn_sub (fun _ h => List.mem_cons_of_mem _ (List.mem_append_left _ (List.mem_append_left _ (List.mem_append_right _ h)))) (by decide +kernel))) (goodIn_sub (fun _ h => List.mem_cons_of_mem _ (List.mem_append_left _ (List.mem_append_right _ h))) (by decide +kernel))
set_option maxRecDepth 20000 in
theorem gL_machines_X2_setCores : GoodIn wsL_machines (wsV RL 109 RX2 yX2_setCores wsX2_setCores) := goodIn_app (goodIn_of _ (by decide +kernel)) ggL_machines_X2_setCores
set_option maxRecDepth 20000 in
theorem ggL_machines_L_refuses : GoodIn wsL_machines wsL_refuses := goodIn_r _ [24, 25, 26, 3, 27] (by decide +kernel) (by decide +kernel)
set_option maxRecDepth 20000 in
theorem gL_machines_L_refuses : GoodIn wsL_machines (va_wsS RL 102 yL_refuses wsL_refuses) := goodIn_app (goodIn_of _ (by decide +kernel)) ggL_machines_L_refuses
set_option maxRecDepth 20000 in
theorem ggL_machines_L_calls : GoodIn wsL_machines wsL_calls := goodIn_ca (goodIn_ca (goodIn_ca (goodIn_r _ [30, 31, 32, 33, 34, 35, 9, 36, 37, 38, 39, 40, 41, 20, 21, 42, 43, 12, 13, 14, 15, 16, 44, 45, 46, 47, 48, 49, 50, 51, 52, 53, 54, 55, 56, 57, 58, 59, 60, 61, 62, 63, 64, 65, 66, 67, 68, 69, 70, 71, 72, 73, 74, 75, 76, 77, 78, 79, 80, 81, 82, 83, 84, 85, 86, 87, 88, 17, 18, 19, 89, 90, 91, 92, 93, 94, 95, 96, 97, 98, 99, 100, 101, 102, 103, 104, 105, 106, 107, 108, 109, 110, 111, 112, 113, 114, 115, 116, 117, 118, 119, 120, 121, 122, 123, 124, 125, 126, 127, 128, 129, 130, 131, 132, 133, 134, 135, 136, 137, 138, 139, 140, 141, 142, 143, 144, 145, 146, 147, 148, 149, 150, 151, 152, 153, 154, 155, 156, 157, 158, 159, 160, 161, 162, 163, 164, 165, 166, 167, 168, 169, 170, 171, 172, 173, 174, 175, 176, 177, 178, 179, 180, 181, 182, 183, 184, 185, 186, 187, 188, 189, 190, 191, 192, 193, 194, 195, 196, 197, 198, 199, 200, 201, 202, 203, 204, 205, 206, 207, 208, 209, 210, 211, 11, 212, 213, 214, 215, 216, 217, 218, 219, 220, 221, 222, 223, 224, 225, 226, 227, 228, 229, 230, 231, 232, 233, 234, 235, 236, 237, 238, 239, 240, 241, 242, 243, 244, 245, 246, 247, 248, 249, 250, 251, 252, 253, 254, 255, 256, 257, 258, 259, 260, 261, 262, 263, 264, 265, 266, 267, 268, 269, 270, 271, 272, 273, 274, 275, 276, 277, 278, 279, 280, 281, 282, 283, 284, 285, 286, 287, 288, 289, 294, 295, 296, 297, 298, 299, 300, 301, 302, 303, 304, 305, 306, 307, 308, 309, 310, 311, 312, 313, 314, 315, 316, 317, 318] (by decide +kernel) (by decide +kernel)) (goodIn_sub (fun _ h => List.mem_cons_of_mem _ (List.mem_append_left _ (List.mem_append_right _ h))) (by decide +kernel))) (goodIn_sub (fun _ h => List.mem_cons_of_mem _ (List.mem_append_right _ h)) (by decide +kernel))) (goodIn_sub (fun _ h => List.mem_cons_of_mem _ (List.mem_append_left _ (List.mem_append_left _ (List.mem_append_right _ h)))) (by decide +kernel))
set_option maxRecDepth 20000 in
theorem gL_machines_L_calls : GoodIn wsL_machines (va_wsS RL 94 yL_calls wsL_calls) := goodIn_app (goodIn_of _ (by decide +kernel)) ggL_machines_L_calls
set_option maxRecDepth 20000 in
theorem ggL_machines_X2_find : GoodIn wsL_machines wsX2_find := goodIn_ca (goodIn_ca (goodIn_r _ [293, 52, 196, 12, 13, 9, 14, 15, 16, 59, 60, 61, 17, 18, 19, 20, 21, 294, 295, 296, 297, 298, 299, 300, 301, 302] (by decide +kernel) (by decide +kernel)) (goodIn_sub (fun _ h => List.mem_cons_of_mem _ (List.mem_append_left _ (List.mem_append_left _ (List.mem_append_right _ h)))) (by decide +kernel))) (goodIn_sub (fun _ h => List.mem_cons_of_mem _ (List.mem_append_left _ (List.mem_append_right _ h))) (by decide +kernel))
set_option maxRecDepth 20000 in
theorem gL_machines_X2_find : GoodIn wsL_machines (wsV RL 112 RX2 yX2_find wsX2_find) := goodIn_app (goodIn_of _ (by decide +kernel)) ggL_machines_X2_find
theorem dL_machines_0 : decode cL_machines 0 = .ok (.iload_n 2, 1) := by decide +kernel
theorem dL_machines_1 : decode cL_machines 1 = .ok (.iconst 5, 1) := by decide +kernel
theorem dL_machines_2 : decode cL_machines 2 = .ok (.invokestatic 75, 3) := by decide +kernel
theorem dL_machines_5 : decode cL_machines 5 = .ok (.istore 5, 2) := by decide +kernel
theorem dL_machines_7 : decode cL_machines 7 = .ok (.iload_n 1, 1) := by decide +kernel
theorem dL_machines_8 : decode cL_machines 8 = .ok (.ifCond .ne 66, 3) := by decide +kernel
theorem dL_machines_11 : decode cL_machines 11 = .ok (.aload_n 3, 1) := by decide +kernel
theorem dL_machines_12 : decode cL_machines 12 = .ok (.iconst 4, 1) := by decide +kernel
theorem dL_machines_13 : decode cL_machines 13 = .ok (.iload 5, 2) := by decide +kernel
theorem dL_machines_15 : decode cL_machines 15 = .ok (.imul, 1) := by decide +kernel
theorem dL_machines_16 : decode cL_machines 16 = .ok (.iaload, 1) := by decide +kernel
theorem dL_machines_17 : decode cL_machines 17 = .ok (.istore 6, 2) := by decide +kernel
theorem dL_machines_19 : decode cL_machines 19 = .ok (.aload_n 3, 1) := by decide +kernel
theorem dL_machines_20 : decode cL_machines 20 = .ok (.iconst 4, 1) := by decide +kernel
theorem dL_machines_21 : decode cL_machines 21 = .ok (.iload 5, 2) := by decide +kernel
theorem dL_machines_23 : decode cL_machines 23 = .ok (.imul, 1) := by decide +kernel
theorem dL_machines_24 : decode cL_machines 24 = .ok (.iconst 1, 1) := by decide +kernel
theorem dL_machines_25 : decode cL_machines 25 = .ok (.iload_n 2, 1) := by decide +kernel
theorem dL_machines_26 : decode cL_machines 26 = .ok (.iconst 3, 1) := by decide +kernel
theorem dL_machines_27 : decode cL_machines 27 = .ok (.ishr, 1) := by decide +kernel
theorem dL_machines_28 : decode cL_machines 28 = .ok (.iload_n 2, 1) := by decide +kernel
theorem dL_machines_29 : decode cL_machines 29 = .ok (.bipush 13, 2) := by decide +kernel
theorem dL_machines_31 : decode cL_machines 31 = .ok (.ishr, 1) := by decide +kernel
theorem dL_machines_32 : decode cL_machines 32 = .ok (.iconst 3, 1) := by decide +kernel
theorem dL_machines_33 : decode cL_machines 33 = .ok (.invokestatic 75, 3) := by decide +kernel
theorem dL_machines_36 : decode cL_machines 36 = .ok (.ifCond .ne 8, 3) := by decide +kernel
theorem dL_machines_39 : decode cL_machines 39 = .ok (.bipush 64, 2) := by decide +kernel
theorem dL_machines_41 : decode cL_machines 41 = .ok (.goto 5, 3) := by decide +kernel
theorem dL_machines_44 : decode cL_machines 44 = .ok (.bipush 10, 2) := by decide +kernel
theorem dL_machines_46 : decode cL_machines 46 = .ok (.invokestatic 75, 3) := by decide +kernel
theorem dL_machines_49 : decode cL_machines 49 = .ok (.iadd, 1) := by decide +kernel
theorem dL_machines_50 : decode cL_machines 50 = .ok (.iastore, 1) := by decide +kernel
theorem dL_machines_51 : decode cL_machines 51 = .ok (.aload_n 0, 1) := by decide +kernel
theorem dL_machines_52 : decode cL_machines 52 = .ok (.iload 5, 2) := by decide +kernel
theorem dL_machines_54 : decode cL_machines 54 = .ok (.aload_n 3, 1) := by decide +kernel
theorem dL_machines_55 : decode cL_machines 55 = .ok (.iconst 4, 1) := by decide +kernel
theorem dL_machines_56 : decode cL_machines 56 = .ok (.iload 5, 2) := by decide +kernel
theorem dL_machines_58 : decode cL_machines 58 = .ok (.imul, 1) := by decide +kernel
theorem dL_machines_59 : decode cL_machines 59 = .ok (.iaload, 1) := by decide +kernel
theorem dL_machines_60 : decode cL_machines 60 = .ok (.invokevirtual 109, 3) := by decide +kernel
theorem dL_machines_63 : decode cL_machines 63 = .ok (.iload 6, 2) := by decide +kernel
theorem dL_machines_65 : decode cL_machines 65 = .ok (.if_icmp .ne 7, 3) := by decide +kernel
theorem dL_machines_68 : decode cL_machines 68 = .ok (.iconst 1, 1) := by decide +kernel
theorem dL_machines_69 : decode cL_machines 69 = .ok (.goto 4, 3) := by decide +kernel
theorem dL_machines_72 : decode cL_machines 72 = .ok (.iconst 0, 1) := by decide +kernel
theorem dL_machines_73 : decode cL_machines 73 = .ok (.ireturn, 1) := by decide +kernel
theorem dL_machines_74 : decode cL_machines 74 = .ok (.iload_n 1, 1) := by decide +kernel
theorem dL_machines_75 : decode cL_machines 75 = .ok (.iconst 1, 1) := by decide +kernel
theorem dL_machines_76 : decode cL_machines 76 = .ok (.if_icmp .ne 87, 3) := by decide +kernel
theorem dL_machines_79 : decode cL_machines 79 = .ok (.iload_n 2, 1) := by decide +kernel
theorem dL_machines_80 : decode cL_machines 80 = .ok (.iconst 3, 1) := by decide +kernel
theorem dL_machines_81 : decode cL_machines 81 = .ok (.ishr, 1) := by decide +kernel
theorem dL_machines_82 : decode cL_machines 82 = .ok (.bipush 6, 2) := by decide +kernel
theorem dL_machines_84 : decode cL_machines 84 = .ok (.invokestatic 75, 3) := by decide +kernel
theorem dL_machines_87 : decode cL_machines 87 = .ok (.iconst 1, 1) := by decide +kernel
theorem dL_machines_88 : decode cL_machines 88 = .ok (.isub, 1) := by decide +kernel
theorem dL_machines_89 : decode cL_machines 89 = .ok (.istore 6, 2) := by decide +kernel
theorem dL_machines_91 : decode cL_machines 91 = .ok (.iload 5, 2) := by decide +kernel
theorem dL_machines_93 : decode cL_machines 93 = .ok (.iload 6, 2) := by decide +kernel
theorem dL_machines_95 : decode cL_machines 95 = .ok (.aload_n 3, 1) := by decide +kernel
theorem dL_machines_96 : decode cL_machines 96 = .ok (.invokestatic 102, 3) := by decide +kernel
theorem dL_machines_99 : decode cL_machines 99 = .ok (.istore 7, 2) := by decide +kernel
theorem dL_machines_101 : decode cL_machines 101 = .ok (.aload_n 3, 1) := by decide +kernel
theorem dL_machines_102 : decode cL_machines 102 = .ok (.iconst 4, 1) := by decide +kernel
theorem dL_machines_103 : decode cL_machines 103 = .ok (.iload 5, 2) := by decide +kernel
theorem dL_machines_105 : decode cL_machines 105 = .ok (.imul, 1) := by decide +kernel
theorem dL_machines_106 : decode cL_machines 106 = .ok (.iconst 1, 1) := by decide +kernel
theorem dL_machines_107 : decode cL_machines 107 = .ok (.iadd, 1) := by decide +kernel
theorem dL_machines_108 : decode cL_machines 108 = .ok (.iaload, 1) := by decide +kernel
theorem dL_machines_109 : decode cL_machines 109 = .ok (.istore 8, 2) := by decide +kernel
theorem dL_machines_111 : decode cL_machines 111 = .ok (.aload_n 3, 1) := by decide +kernel
theorem dL_machines_112 : decode cL_machines 112 = .ok (.iconst 4, 1) := by decide +kernel
theorem dL_machines_113 : decode cL_machines 113 = .ok (.iload 5, 2) := by decide +kernel
theorem dL_machines_115 : decode cL_machines 115 = .ok (.imul, 1) := by decide +kernel
theorem dL_machines_116 : decode cL_machines 116 = .ok (.iconst 1, 1) := by decide +kernel
theorem dL_machines_117 : decode cL_machines 117 = .ok (.iadd, 1) := by decide +kernel
theorem dL_machines_118 : decode cL_machines 118 = .ok (.iload 7, 2) := by decide +kernel
theorem dL_machines_120 : decode cL_machines 120 = .ok (.ifCond .ge 8, 3) := by decide +kernel
theorem dL_machines_123 : decode cL_machines 123 = .ok (.iload 8, 2) := by decide +kernel
theorem dL_machines_125 : decode cL_machines 125 = .ok (.goto 5, 3) := by decide +kernel
theorem dL_machines_128 : decode cL_machines 128 = .ok (.iload 6, 2) := by decide +kernel
theorem dL_machines_130 : decode cL_machines 130 = .ok (.iastore, 1) := by decide +kernel
theorem dL_machines_131 : decode cL_machines 131 = .ok (.aload_n 0, 1) := by decide +kernel
theorem dL_machines_132 : decode cL_machines 132 = .ok (.iconst 0, 1) := by decide +kernel
theorem dL_machines_133 : decode cL_machines 133 = .ok (.iload 5, 2) := by decide +kernel
theorem dL_machines_135 : decode cL_machines 135 = .ok (.iload 6, 2) := by decide +kernel
theorem dL_machines_137 : decode cL_machines 137 = .ok (.iconst 0, 1) := by decide +kernel
theorem dL_machines_138 : decode cL_machines 138 = .ok (.iconst 0, 1) := by decide +kernel
theorem dL_machines_139 : decode cL_machines 139 = .ok (.invokestatic 94, 3) := by decide +kernel
theorem dL_machines_142 : decode cL_machines 142 = .ok (.iload 7, 2) := by decide +kernel
theorem dL_machines_144 : decode cL_machines 144 = .ok (.ifCond .ge 8, 3) := by decide +kernel
theorem dL_machines_147 : decode cL_machines 147 = .ok (.iload 7, 2) := by decide +kernel
theorem dL_machines_149 : decode cL_machines 149 = .ok (.goto 5, 3) := by decide +kernel
theorem dL_machines_152 : decode cL_machines 152 = .ok (.iload 8, 2) := by decide +kernel
theorem dL_machines_154 : decode cL_machines 154 = .ok (.if_icmp .ne 7, 3) := by decide +kernel
theorem dL_machines_157 : decode cL_machines 157 = .ok (.iconst 1, 1) := by decide +kernel
theorem dL_machines_158 : decode cL_machines 158 = .ok (.goto 4, 3) := by decide +kernel
theorem dL_machines_161 : decode cL_machines 161 = .ok (.iconst 0, 1) := by decide +kernel
theorem dL_machines_162 : decode cL_machines 162 = .ok (.ireturn, 1) := by decide +kernel
theorem dL_machines_163 : decode cL_machines 163 = .ok (.iload_n 2, 1) := by decide +kernel
theorem dL_machines_164 : decode cL_machines 164 = .ok (.iconst 3, 1) := by decide +kernel
theorem dL_machines_165 : decode cL_machines 165 = .ok (.ishr, 1) := by decide +kernel
theorem dL_machines_166 : decode cL_machines 166 = .ok (.iconst 2, 1) := by decide +kernel
theorem dL_machines_167 : decode cL_machines 167 = .ok (.invokestatic 75, 3) := by decide +kernel
theorem dL_machines_170 : decode cL_machines 170 = .ok (.istore 6, 2) := by decide +kernel
theorem dL_machines_172 : decode cL_machines 172 = .ok (.aload_n 3, 1) := by decide +kernel
theorem dL_machines_173 : decode cL_machines 173 = .ok (.iconst 4, 1) := by decide +kernel
theorem dL_machines_174 : decode cL_machines 174 = .ok (.iload 5, 2) := by decide +kernel
theorem dL_machines_176 : decode cL_machines 176 = .ok (.imul, 1) := by decide +kernel
theorem dL_machines_177 : decode cL_machines 177 = .ok (.iconst 2, 1) := by decide +kernel
theorem dL_machines_178 : decode cL_machines 178 = .ok (.iadd, 1) := by decide +kernel
theorem dL_machines_179 : decode cL_machines 179 = .ok (.iload 6, 2) := by decide +kernel
theorem dL_machines_181 : decode cL_machines 181 = .ok (.iadd, 1) := by decide +kernel
theorem dL_machines_182 : decode cL_machines 182 = .ok (.iaload, 1) := by decide +kernel
theorem dL_machines_183 : decode cL_machines 183 = .ok (.istore 7, 2) := by decide +kernel
theorem dL_machines_185 : decode cL_machines 185 = .ok (.iload_n 2, 1) := by decide +kernel
theorem dL_machines_186 : decode cL_machines 186 = .ok (.iconst 5, 1) := by decide +kernel
theorem dL_machines_187 : decode cL_machines 187 = .ok (.ishr, 1) := by decide +kernel
theorem dL_machines_188 : decode cL_machines 188 = .ok (.aload 4, 2) := by decide +kernel
theorem dL_machines_190 : decode cL_machines 190 = .ok (.iconst 2, 1) := by decide +kernel
theorem dL_machines_191 : decode cL_machines 191 = .ok (.iload 6, 2) := by decide +kernel
theorem dL_machines_193 : decode cL_machines 193 = .ok (.imul, 1) := by decide +kernel
theorem dL_machines_194 : decode cL_machines 194 = .ok (.iaload, 1) := by decide +kernel
theorem dL_machines_195 : decode cL_machines 195 = .ok (.iconst 1, 1) := by decide +kernel
theorem dL_machines_196 : decode cL_machines 196 = .ok (.iadd, 1) := by decide +kernel
theorem dL_machines_197 : decode cL_machines 197 = .ok (.invokestatic 75, 3) := by decide +kernel
theorem dL_machines_200 : decode cL_machines 200 = .ok (.istore 8, 2) := by decide +kernel
theorem dL_machines_202 : decode cL_machines 202 = .ok (.aload_n 3, 1) := by decide +kernel
theorem dL_machines_203 : decode cL_machines 203 = .ok (.iconst 4, 1) := by decide +kernel
theorem dL_machines_204 : decode cL_machines 204 = .ok (.iload 5, 2) := by decide +kernel
theorem dL_machines_206 : decode cL_machines 206 = .ok (.imul, 1) := by decide +kernel
theorem dL_machines_207 : decode cL_machines 207 = .ok (.iconst 2, 1) := by decide +kernel
theorem dL_machines_208 : decode cL_machines 208 = .ok (.iadd, 1) := by decide +kernel
theorem dL_machines_209 : decode cL_machines 209 = .ok (.iload 6, 2) := by decide +kernel
theorem dL_machines_211 : decode cL_machines 211 = .ok (.iadd, 1) := by decide +kernel
theorem dL_machines_212 : decode cL_machines 212 = .ok (.iload 8, 2) := by decide +kernel
theorem dL_machines_214 : decode cL_machines 214 = .ok (.iastore, 1) := by decide +kernel
theorem dL_machines_215 : decode cL_machines 215 = .ok (.aload_n 0, 1) := by decide +kernel
theorem dL_machines_216 : decode cL_machines 216 = .ok (.iload 5, 2) := by decide +kernel
theorem dL_machines_218 : decode cL_machines 218 = .ok (.iload 6, 2) := by decide +kernel
theorem dL_machines_220 : decode cL_machines 220 = .ok (.iload 8, 2) := by decide +kernel
theorem dL_machines_222 : decode cL_machines 222 = .ok (.invokevirtual 112, 3) := by decide +kernel
theorem dL_machines_225 : decode cL_machines 225 = .ok (.iload 7, 2) := by decide +kernel
theorem dL_machines_227 : decode cL_machines 227 = .ok (.if_icmp .ne 7, 3) := by decide +kernel
theorem dL_machines_230 : decode cL_machines 230 = .ok (.iconst 1, 1) := by decide +kernel
theorem dL_machines_231 : decode cL_machines 231 = .ok (.goto 4, 3) := by decide +kernel
theorem dL_machines_234 : decode cL_machines 234 = .ok (.iconst 0, 1) := by decide +kernel
theorem dL_machines_235 : decode cL_machines 235 = .ok (.ireturn, 1) := by decide +kernel
set_option maxRecDepth 20000 in
theorem ggL_rights_L_low : GoodIn wsL_rights wsL_low := goodIn_r _ [4, 5] (by decide +kernel) (by decide +kernel)
set_option maxRecDepth 20000 in
theorem gL_rights_L_low : GoodIn wsL_rights (va_wsS RL 75 yL_low wsL_low) := goodIn_app (goodIn_of _ (by decide +kernel)) ggL_rights_L_low
set_option maxRecDepth 20000 in
theorem ggL_rights_L_calls : GoodIn wsL_rights wsL_calls := goodIn_ca (goodIn_ca (goodIn_ca (goodIn_r _ [8, 9, 10, 11, 12, 13, 14, 15, 16, 17, 18, 19, 20, 21, 22, 23, 24, 25, 26, 27, 28, 29, 30, 31, 32, 33, 34, 35, 36, 37, 38, 39, 40, 41, 42, 43, 44, 45, 46, 47, 48, 49, 50, 51, 52, 53, 54, 55, 56, 57, 58, 59, 60, 61, 62, 63, 64, 65, 66, 67, 68, 69, 70, 71, 72, 73, 74, 75, 76, 77, 78, 79, 80, 81, 82, 83, 84, 85, 86, 87, 88, 89, 90, 91, 92, 93, 94, 95, 96, 97, 98, 99, 100, 101, 102, 103, 104, 105, 106, 107, 108, 109, 110, 111, 112, 113, 114, 115, 116, 117, 118, 119, 120, 121, 122, 123, 124, 125, 126, 127, 128, 129, 130, 131, 132, 133, 134, 135, 136, 137, 138, 139, 140, 141, 142, 143, 144, 145, 146, 147, 148, 149, 150, 151, 152, 153, 154, 155, 156, 157, 158, 159, 160, 161, 162, 163, 164, 165, 166, 167, 168, 169, 170, 171, 172, 173, 174, 175, 176, 177, 178, 179, 180, 181, 182, 183, 184, 185, 186, 187, 188, 189, 190, 191, 192, 193, 194, 195, 196, 197, 198, 199, 200, 201, 202, 203, 204, 205, 206, 207, 208, 209, 210, 211, 212, 213, 214, 215, 216, 217, 218, 219, 220, 221, 222, 223, 224, 225, 226, 227, 228, 229, 230, 231, 232, 233, 234, 235, 236, 237, 238, 239, 240, 241, 242, 243, 244, 245, 246, 247, 248, 249, 250, 251, 252, 253, 254, 255, 256, 257, 258, 259, 260, 261, 262, 263, 264, 265, 266, 267, 268, 269, 270, 271, 272, 273, 274, 275, 276, 277, 278, 279, 280, 281, 282, 283, 284, 285, 286, 287, 288, 289, 290, 291, 292, 293, 294, 295, 296, 297, 298, 299, 300, 301, 302, 303, 304] (by decide +kernel) (by decide +kernel)) (goodIn_sub (fun _ h => List.mem_cons_of_mem _ (List.mem_append_left _ (List.mem_append_left _ (List.mem_append_right _ h)))) (by decide +kernel))) (goodIn_sub (fun _ h => List.mem_cons_of_mem _ (List.mem_append_left _ (List.mem_append_right _ h))) (by decide +kernel))) (goodIn_sub (fun _ h => List.mem_cons_of_mem _ (List.mem_append_right _ h)) (by decide +kernel))
set_option maxRecDepth 20000 in
theorem gL_rights_L_calls : GoodIn wsL_rights (va_wsS RL 94 yL_calls wsL_calls) := goodIn_app (goodIn_of _ (by decide +kernel)) ggL_rights_L_calls
theorem dL_rights_0 : decode cL_rights 0 = .ok (.aload 5, 2) := by decide +kernel
theorem dL_rights_2 : decode cL_rights 2 = .ok (.iconst 1, 1) := by decide +kernel
theorem dL_rights_3 : decode cL_rights 3 = .ok (.iaload, 1) := by decide +kernel
theorem dL_rights_4 : decode cL_rights 4 = .ok (.ifCond .ne 7, 3) := by decide +kernel
theorem dL_rights_7 : decode cL_rights 7 = .ok (.iconst 0, 1) := by decide +kernel
theorem dL_rights_8 : decode cL_rights 8 = .ok (.goto 11, 3) := by decide +kernel
theorem dL_rights_11 : decode cL_rights 11 = .ok (.iload_n 2, 1) := by decide +kernel
theorem dL_rights_12 : decode cL_rights 12 = .ok (.aload 5, 2) := by decide +kernel
theorem dL_rights_14 : decode cL_rights 14 = .ok (.iconst 1, 1) := by decide +kernel
theorem dL_rights_15 : decode cL_rights 15 = .ok (.iaload, 1) := by decide +kernel
theorem dL_rights_16 : decode cL_rights 16 = .ok (.invokestatic 75, 3) := by decide +kernel
theorem dL_rights_19 : decode cL_rights 19 = .ok (.istore 6, 2) := by decide +kernel
theorem dL_rights_21 : decode cL_rights 21 = .ok (.iload_n 1, 1) := by decide +kernel
theorem dL_rights_22 : decode cL_rights 22 = .ok (.ifCond .eq 10, 3) := by decide +kernel
theorem dL_rights_25 : decode cL_rights 25 = .ok (.aload 5, 2) := by decide +kernel
theorem dL_rights_27 : decode cL_rights 27 = .ok (.iconst 1, 1) := by decide +kernel
theorem dL_rights_28 : decode cL_rights 28 = .ok (.iaload, 1) := by decide +kernel
theorem dL_rights_29 : decode cL_rights 29 = .ok (.ifCond .ne 176, 3) := by decide +kernel
theorem dL_rights_32 : decode cL_rights 32 = .ok (.aload 5, 2) := by decide +kernel
theorem dL_rights_34 : decode cL_rights 34 = .ok (.iconst 1, 1) := by decide +kernel
theorem dL_rights_35 : decode cL_rights 35 = .ok (.iaload, 1) := by decide +kernel
theorem dL_rights_36 : decode cL_rights 36 = .ok (.bipush 10, 2) := by decide +kernel
theorem dL_rights_38 : decode cL_rights 38 = .ok (.if_icmp .ge 167, 3) := by decide +kernel
theorem dL_rights_41 : decode cL_rights 41 = .ok (.bipush 6, 2) := by decide +kernel
theorem dL_rights_43 : decode cL_rights 43 = .ok (.aload 5, 2) := by decide +kernel
theorem dL_rights_45 : decode cL_rights 45 = .ok (.iconst 1, 1) := by decide +kernel
theorem dL_rights_46 : decode cL_rights 46 = .ok (.iaload, 1) := by decide +kernel
theorem dL_rights_47 : decode cL_rights 47 = .ok (.imul, 1) := by decide +kernel
theorem dL_rights_48 : decode cL_rights 48 = .ok (.istore 7, 2) := by decide +kernel
theorem dL_rights_50 : decode cL_rights 50 = .ok (.aload 4, 2) := by decide +kernel
theorem dL_rights_52 : decode cL_rights 52 = .ok (.iload 7, 2) := by decide +kernel
theorem dL_rights_54 : decode cL_rights 54 = .ok (.iload_n 2, 1) := by decide +kernel
theorem dL_rights_55 : decode cL_rights 55 = .ok (.iconst 2, 1) := by decide +kernel
theorem dL_rights_56 : decode cL_rights 56 = .ok (.invokestatic 75, 3) := by decide +kernel
theorem dL_rights_59 : decode cL_rights 59 = .ok (.iastore, 1) := by decide +kernel
theorem dL_rights_60 : decode cL_rights 60 = .ok (.aload 4, 2) := by decide +kernel
theorem dL_rights_62 : decode cL_rights 62 = .ok (.iload 7, 2) := by decide +kernel
theorem dL_rights_64 : decode cL_rights 64 = .ok (.iconst 1, 1) := by decide +kernel
theorem dL_rights_65 : decode cL_rights 65 = .ok (.iadd, 1) := by decide +kernel
theorem dL_rights_66 : decode cL_rights 66 = .ok (.iload_n 2, 1) := by decide +kernel
theorem dL_rights_67 : decode cL_rights 67 = .ok (.iconst 2, 1) := by decide +kernel
theorem dL_rights_68 : decode cL_rights 68 = .ok (.ishr, 1) := by decide +kernel
theorem dL_rights_69 : decode cL_rights 69 = .ok (.iconst 2, 1) := by decide +kernel
theorem dL_rights_70 : decode cL_rights 70 = .ok (.invokestatic 75, 3) := by decide +kernel
theorem dL_rights_73 : decode cL_rights 73 = .ok (.iastore, 1) := by decide +kernel
theorem dL_rights_74 : decode cL_rights 74 = .ok (.aload 4, 2) := by decide +kernel
theorem dL_rights_76 : decode cL_rights 76 = .ok (.iload 7, 2) := by decide +kernel
theorem dL_rights_78 : decode cL_rights 78 = .ok (.iconst 2, 1) := by decide +kernel
theorem dL_rights_79 : decode cL_rights 79 = .ok (.iadd, 1) := by decide +kernel
theorem dL_rights_80 : decode cL_rights 80 = .ok (.iconst 1, 1) := by decide +kernel
theorem dL_rights_81 : decode cL_rights 81 = .ok (.iload_n 2, 1) := by decide +kernel
theorem dL_rights_82 : decode cL_rights 82 = .ok (.iconst 4, 1) := by decide +kernel
theorem dL_rights_83 : decode cL_rights 83 = .ok (.ishr, 1) := by decide +kernel
theorem dL_rights_84 : decode cL_rights 84 = .ok (.aload 4, 2) := by decide +kernel
theorem dL_rights_86 : decode cL_rights 86 = .ok (.iload 7, 2) := by decide +kernel
theorem dL_rights_88 : decode cL_rights 88 = .ok (.iconst 1, 1) := by decide +kernel
theorem dL_rights_89 : decode cL_rights 89 = .ok (.iadd, 1) := by decide +kernel
theorem dL_rights_90 : decode cL_rights 90 = .ok (.iaload, 1) := by decide +kernel
theorem dL_rights_91 : decode cL_rights 91 = .ok (.ifCond .ne 7, 3) := by decide +kernel
theorem dL_rights_94 : decode cL_rights 94 = .ok (.iconst 3, 1) := by decide +kernel
theorem dL_rights_95 : decode cL_rights 95 = .ok (.goto 5, 3) := by decide +kernel
theorem dL_rights_98 : decode cL_rights 98 = .ok (.bipush 30, 2) := by decide +kernel
theorem dL_rights_100 : decode cL_rights 100 = .ok (.invokestatic 75, 3) := by decide +kernel
theorem dL_rights_103 : decode cL_rights 103 = .ok (.iadd, 1) := by decide +kernel
theorem dL_rights_104 : decode cL_rights 104 = .ok (.iastore, 1) := by decide +kernel
theorem dL_rights_105 : decode cL_rights 105 = .ok (.aload 4, 2) := by decide +kernel
theorem dL_rights_107 : decode cL_rights 107 = .ok (.iload 7, 2) := by decide +kernel
theorem dL_rights_109 : decode cL_rights 109 = .ok (.iconst 3, 1) := by decide +kernel
theorem dL_rights_110 : decode cL_rights 110 = .ok (.iadd, 1) := by decide +kernel
theorem dL_rights_111 : decode cL_rights 111 = .ok (.iconst 0, 1) := by decide +kernel
theorem dL_rights_112 : decode cL_rights 112 = .ok (.iastore, 1) := by decide +kernel
theorem dL_rights_113 : decode cL_rights 113 = .ok (.aload 4, 2) := by decide +kernel
theorem dL_rights_115 : decode cL_rights 115 = .ok (.iload 7, 2) := by decide +kernel
theorem dL_rights_117 : decode cL_rights 117 = .ok (.iconst 4, 1) := by decide +kernel
theorem dL_rights_118 : decode cL_rights 118 = .ok (.iadd, 1) := by decide +kernel
theorem dL_rights_119 : decode cL_rights 119 = .ok (.aload_n 3, 1) := by decide +kernel
theorem dL_rights_120 : decode cL_rights 120 = .ok (.iconst 2, 1) := by decide +kernel
theorem dL_rights_121 : decode cL_rights 121 = .ok (.aload 4, 2) := by decide +kernel
theorem dL_rights_123 : decode cL_rights 123 = .ok (.iload 7, 2) := by decide +kernel
theorem dL_rights_125 : decode cL_rights 125 = .ok (.iaload, 1) := by decide +kernel
theorem dL_rights_126 : decode cL_rights 126 = .ok (.imul, 1) := by decide +kernel
theorem dL_rights_127 : decode cL_rights 127 = .ok (.iaload, 1) := by decide +kernel
theorem dL_rights_128 : decode cL_rights 128 = .ok (.iastore, 1) := by decide +kernel
theorem dL_rights_129 : decode cL_rights 129 = .ok (.iload_n 2, 1) := by decide +kernel
theorem dL_rights_130 : decode cL_rights 130 = .ok (.bipush 6, 2) := by decide +kernel
theorem dL_rights_132 : decode cL_rights 132 = .ok (.ishr, 1) := by decide +kernel
theorem dL_rights_133 : decode cL_rights 133 = .ok (.bipush 40, 2) := by decide +kernel
theorem dL_rights_135 : decode cL_rights 135 = .ok (.invokestatic 75, 3) := by decide +kernel
theorem dL_rights_138 : decode cL_rights 138 = .ok (.istore 8, 2) := by decide +kernel
theorem dL_rights_140 : decode cL_rights 140 = .ok (.aload 4, 2) := by decide +kernel
theorem dL_rights_142 : decode cL_rights 142 = .ok (.iload 7, 2) := by decide +kernel
theorem dL_rights_144 : decode cL_rights 144 = .ok (.iconst 5, 1) := by decide +kernel
theorem dL_rights_145 : decode cL_rights 145 = .ok (.iadd, 1) := by decide +kernel
theorem dL_rights_146 : decode cL_rights 146 = .ok (.aload 5, 2) := by decide +kernel
theorem dL_rights_148 : decode cL_rights 148 = .ok (.iconst 0, 1) := by decide +kernel
theorem dL_rights_149 : decode cL_rights 149 = .ok (.iaload, 1) := by decide +kernel
theorem dL_rights_150 : decode cL_rights 150 = .ok (.iload 8, 2) := by decide +kernel
theorem dL_rights_152 : decode cL_rights 152 = .ok (.iadd, 1) := by decide +kernel
theorem dL_rights_153 : decode cL_rights 153 = .ok (.iconst 1, 1) := by decide +kernel
theorem dL_rights_154 : decode cL_rights 154 = .ok (.isub, 1) := by decide +kernel
theorem dL_rights_155 : decode cL_rights 155 = .ok (.iastore, 1) := by decide +kernel
theorem dL_rights_156 : decode cL_rights 156 = .ok (.aload 5, 2) := by decide +kernel
theorem dL_rights_158 : decode cL_rights 158 = .ok (.iconst 1, 1) := by decide +kernel
theorem dL_rights_159 : decode cL_rights 159 = .ok (.dup2, 1) := by decide +kernel
theorem dL_rights_160 : decode cL_rights 160 = .ok (.iaload, 1) := by decide +kernel
theorem dL_rights_161 : decode cL_rights 161 = .ok (.iconst 1, 1) := by decide +kernel
theorem dL_rights_162 : decode cL_rights 162 = .ok (.iadd, 1) := by decide +kernel
theorem dL_rights_163 : decode cL_rights 163 = .ok (.iastore, 1) := by decide +kernel
theorem dL_rights_164 : decode cL_rights 164 = .ok (.aload_n 0, 1) := by decide +kernel
theorem dL_rights_165 : decode cL_rights 165 = .ok (.iconst 2, 1) := by decide +kernel
theorem dL_rights_166 : decode cL_rights 166 = .ok (.aload 4, 2) := by decide +kernel
theorem dL_rights_168 : decode cL_rights 168 = .ok (.iload 7, 2) := by decide +kernel
theorem dL_rights_170 : decode cL_rights 170 = .ok (.iaload, 1) := by decide +kernel
theorem dL_rights_171 : decode cL_rights 171 = .ok (.aload 4, 2) := by decide +kernel
theorem dL_rights_173 : decode cL_rights 173 = .ok (.iload 7, 2) := by decide +kernel
theorem dL_rights_175 : decode cL_rights 175 = .ok (.iconst 1, 1) := by decide +kernel
theorem dL_rights_176 : decode cL_rights 176 = .ok (.iadd, 1) := by decide +kernel
theorem dL_rights_177 : decode cL_rights 177 = .ok (.iaload, 1) := by decide +kernel
theorem dL_rights_178 : decode cL_rights 178 = .ok (.aload 4, 2) := by decide +kernel
theorem dL_rights_180 : decode cL_rights 180 = .ok (.iload 7, 2) := by decide +kernel
theorem dL_rights_182 : decode cL_rights 182 = .ok (.iconst 2, 1) := by decide +kernel
theorem dL_rights_183 : decode cL_rights 183 = .ok (.iadd, 1) := by decide +kernel
theorem dL_rights_184 : decode cL_rights 184 = .ok (.iaload, 1) := by decide +kernel
theorem dL_rights_185 : decode cL_rights 185 = .ok (.iload 8, 2) := by decide +kernel
theorem dL_rights_187 : decode cL_rights 187 = .ok (.invokestatic 94, 3) := by decide +kernel
theorem dL_rights_190 : decode cL_rights 190 = .ok (.aload 5, 2) := by decide +kernel
theorem dL_rights_192 : decode cL_rights 192 = .ok (.iconst 1, 1) := by decide +kernel
theorem dL_rights_193 : decode cL_rights 193 = .ok (.iaload, 1) := by decide +kernel
theorem dL_rights_194 : decode cL_rights 194 = .ok (.iconst 1, 1) := by decide +kernel
theorem dL_rights_195 : decode cL_rights 195 = .ok (.isub, 1) := by decide +kernel
theorem dL_rights_196 : decode cL_rights 196 = .ok (.if_icmp .ne 7, 3) := by decide +kernel
theorem dL_rights_199 : decode cL_rights 199 = .ok (.iconst 1, 1) := by decide +kernel
theorem dL_rights_200 : decode cL_rights 200 = .ok (.goto 4, 3) := by decide +kernel
theorem dL_rights_203 : decode cL_rights 203 = .ok (.iconst 0, 1) := by decide +kernel
theorem dL_rights_204 : decode cL_rights 204 = .ok (.ireturn, 1) := by decide +kernel
theorem dL_rights_205 : decode cL_rights 205 = .ok (.iconst 1, 1) := by decide +kernel
theorem dL_rights_206 : decode cL_rights 206 = .ok (.iload_n 2, 1) := by decide +kernel
theorem dL_rights_207 : decode cL_rights 207 = .ok (.iconst 4, 1) := by decide +kernel
theorem dL_rights_208 : decode cL_rights 208 = .ok (.ishr, 1) := by decide +kernel
theorem dL_rights_209 : decode cL_rights 209 = .ok (.bipush 12, 2) := by decide +kernel
theorem dL_rights_211 : decode cL_rights 211 = .ok (.invokestatic 75, 3) := by decide +kernel
theorem dL_rights_214 : decode cL_rights 214 = .ok (.iadd, 1) := by decide +kernel
theorem dL_rights_215 : decode cL_rights 215 = .ok (.istore 7, 2) := by decide +kernel
theorem dL_rights_217 : decode cL_rights 217 = .ok (.bipush 6, 2) := by decide +kernel
theorem dL_rights_219 : decode cL_rights 219 = .ok (.iload 6, 2) := by decide +kernel
theorem dL_rights_221 : decode cL_rights 221 = .ok (.imul, 1) := by decide +kernel
theorem dL_rights_222 : decode cL_rights 222 = .ok (.istore 8, 2) := by decide +kernel
theorem dL_rights_224 : decode cL_rights 224 = .ok (.iload_n 1, 1) := by decide +kernel
theorem dL_rights_225 : decode cL_rights 225 = .ok (.iconst 1, 1) := by decide +kernel
theorem dL_rights_226 : decode cL_rights 226 = .ok (.if_icmp .ne 194, 3) := by decide +kernel
theorem dL_rights_229 : decode cL_rights 229 = .ok (.aload 5, 2) := by decide +kernel
theorem dL_rights_231 : decode cL_rights 231 = .ok (.iconst 1, 1) := by decide +kernel
theorem dL_rights_232 : decode cL_rights 232 = .ok (.iaload, 1) := by decide +kernel
theorem dL_rights_233 : decode cL_rights 233 = .ok (.bipush 10, 2) := by decide +kernel
theorem dL_rights_235 : decode cL_rights 235 = .ok (.if_icmp .ge 185, 3) := by decide +kernel
theorem dL_rights_238 : decode cL_rights 238 = .ok (.aload 4, 2) := by decide +kernel
theorem dL_rights_240 : decode cL_rights 240 = .ok (.iload 8, 2) := by decide +kernel
theorem dL_rights_242 : decode cL_rights 242 = .ok (.iconst 2, 1) := by decide +kernel
theorem dL_rights_243 : decode cL_rights 243 = .ok (.iadd, 1) := by decide +kernel
theorem dL_rights_244 : decode cL_rights 244 = .ok (.iaload, 1) := by decide +kernel
theorem dL_rights_245 : decode cL_rights 245 = .ok (.iload 7, 2) := by decide +kernel
theorem dL_rights_247 : decode cL_rights 247 = .ok (.if_icmp .lt 26, 3) := by decide +kernel
theorem dL_rights_250 : decode cL_rights 250 = .ok (.aload 4, 2) := by decide +kernel
theorem dL_rights_252 : decode cL_rights 252 = .ok (.iload 8, 2) := by decide +kernel
theorem dL_rights_254 : decode cL_rights 254 = .ok (.iconst 4, 1) := by decide +kernel
theorem dL_rights_255 : decode cL_rights 255 = .ok (.iadd, 1) := by decide +kernel
theorem dL_rights_256 : decode cL_rights 256 = .ok (.iaload, 1) := by decide +kernel
theorem dL_rights_257 : decode cL_rights 257 = .ok (.aload_n 3, 1) := by decide +kernel
theorem dL_rights_258 : decode cL_rights 258 = .ok (.iconst 2, 1) := by decide +kernel
theorem dL_rights_259 : decode cL_rights 259 = .ok (.aload 4, 2) := by decide +kernel
theorem dL_rights_261 : decode cL_rights 261 = .ok (.iload 8, 2) := by decide +kernel
theorem dL_rights_263 : decode cL_rights 263 = .ok (.iaload, 1) := by decide +kernel
theorem dL_rights_264 : decode cL_rights 264 = .ok (.imul, 1) := by decide +kernel
theorem dL_rights_265 : decode cL_rights 265 = .ok (.iaload, 1) := by decide +kernel
theorem dL_rights_266 : decode cL_rights 266 = .ok (.if_icmp .ge 7, 3) := by decide +kernel
theorem dL_rights_269 : decode cL_rights 269 = .ok (.iconst 1, 1) := by decide +kernel
theorem dL_rights_270 : decode cL_rights 270 = .ok (.goto 4, 3) := by decide +kernel
theorem dL_rights_273 : decode cL_rights 273 = .ok (.iconst 0, 1) := by decide +kernel
theorem dL_rights_274 : decode cL_rights 274 = .ok (.istore 9, 2) := by decide +kernel
theorem dL_rights_276 : decode cL_rights 276 = .ok (.iload 9, 2) := by decide +kernel
theorem dL_rights_278 : decode cL_rights 278 = .ok (.ifCond .eq 10, 3) := by decide +kernel
theorem dL_rights_281 : decode cL_rights 281 = .ok (.aload 5, 2) := by decide +kernel
theorem dL_rights_283 : decode cL_rights 283 = .ok (.iconst 1, 1) := by decide +kernel
theorem dL_rights_284 : decode cL_rights 284 = .ok (.iaload, 1) := by decide +kernel
theorem dL_rights_285 : decode cL_rights 285 = .ok (.goto 6, 3) := by decide +kernel
theorem dL_rights_288 : decode cL_rights 288 = .ok (.sipush (-2003), 3) := by decide +kernel
theorem dL_rights_291 : decode cL_rights 291 = .ok (.istore 10, 2) := by decide +kernel
theorem dL_rights_293 : decode cL_rights 293 = .ok (.iload 9, 2) := by decide +kernel
theorem dL_rights_295 : decode cL_rights 295 = .ok (.ifCond .eq 103, 3) := by decide +kernel
theorem dL_rights_298 : decode cL_rights 298 = .ok (.bipush 6, 2) := by decide +kernel
theorem dL_rights_300 : decode cL_rights 300 = .ok (.aload 5, 2) := by decide +kernel
theorem dL_rights_302 : decode cL_rights 302 = .ok (.iconst 1, 1) := by decide +kernel
theorem dL_rights_303 : decode cL_rights 303 = .ok (.iaload, 1) := by decide +kernel
theorem dL_rights_304 : decode cL_rights 304 = .ok (.imul, 1) := by decide +kernel
theorem dL_rights_305 : decode cL_rights 305 = .ok (.istore 11, 2) := by decide +kernel
theorem dL_rights_307 : decode cL_rights 307 = .ok (.aload 4, 2) := by decide +kernel
theorem dL_rights_309 : decode cL_rights 309 = .ok (.iload 8, 2) := by decide +kernel
theorem dL_rights_311 : decode cL_rights 311 = .ok (.iconst 2, 1) := by decide +kernel
theorem dL_rights_312 : decode cL_rights 312 = .ok (.iadd, 1) := by decide +kernel
theorem dL_rights_313 : decode cL_rights 313 = .ok (.dup2, 1) := by decide +kernel
theorem dL_rights_314 : decode cL_rights 314 = .ok (.iaload, 1) := by decide +kernel
theorem dL_rights_315 : decode cL_rights 315 = .ok (.iload 7, 2) := by decide +kernel
theorem dL_rights_317 : decode cL_rights 317 = .ok (.isub, 1) := by decide +kernel
theorem dL_rights_318 : decode cL_rights 318 = .ok (.iastore, 1) := by decide +kernel
theorem dL_rights_319 : decode cL_rights 319 = .ok (.aload 4, 2) := by decide +kernel
theorem dL_rights_321 : decode cL_rights 321 = .ok (.iload 11, 2) := by decide +kernel
theorem dL_rights_323 : decode cL_rights 323 = .ok (.aload 4, 2) := by decide +kernel
theorem dL_rights_325 : decode cL_rights 325 = .ok (.iload 8, 2) := by decide +kernel
theorem dL_rights_327 : decode cL_rights 327 = .ok (.iaload, 1) := by decide +kernel
theorem dL_rights_328 : decode cL_rights 328 = .ok (.iastore, 1) := by decide +kernel
theorem dL_rights_329 : decode cL_rights 329 = .ok (.aload 4, 2) := by decide +kernel
theorem dL_rights_331 : decode cL_rights 331 = .ok (.iload 11, 2) := by decide +kernel
theorem dL_rights_333 : decode cL_rights 333 = .ok (.iconst 1, 1) := by decide +kernel
theorem dL_rights_334 : decode cL_rights 334 = .ok (.iadd, 1) := by decide +kernel
theorem dL_rights_335 : decode cL_rights 335 = .ok (.aload 4, 2) := by decide +kernel
theorem dL_rights_337 : decode cL_rights 337 = .ok (.iload 8, 2) := by decide +kernel
theorem dL_rights_339 : decode cL_rights 339 = .ok (.iconst 1, 1) := by decide +kernel
theorem dL_rights_340 : decode cL_rights 340 = .ok (.iadd, 1) := by decide +kernel
theorem dL_rights_341 : decode cL_rights 341 = .ok (.iaload, 1) := by decide +kernel
theorem dL_rights_342 : decode cL_rights 342 = .ok (.iastore, 1) := by decide +kernel
theorem dL_rights_343 : decode cL_rights 343 = .ok (.aload 4, 2) := by decide +kernel
theorem dL_rights_345 : decode cL_rights 345 = .ok (.iload 11, 2) := by decide +kernel
theorem dL_rights_347 : decode cL_rights 347 = .ok (.iconst 2, 1) := by decide +kernel
theorem dL_rights_348 : decode cL_rights 348 = .ok (.iadd, 1) := by decide +kernel
theorem dL_rights_349 : decode cL_rights 349 = .ok (.iload 7, 2) := by decide +kernel
theorem dL_rights_351 : decode cL_rights 351 = .ok (.iastore, 1) := by decide +kernel
theorem dL_rights_352 : decode cL_rights 352 = .ok (.aload 4, 2) := by decide +kernel
theorem dL_rights_354 : decode cL_rights 354 = .ok (.iload 11, 2) := by decide +kernel
theorem dL_rights_356 : decode cL_rights 356 = .ok (.iconst 3, 1) := by decide +kernel
theorem dL_rights_357 : decode cL_rights 357 = .ok (.iadd, 1) := by decide +kernel
theorem dL_rights_358 : decode cL_rights 358 = .ok (.iconst 0, 1) := by decide +kernel
theorem dL_rights_359 : decode cL_rights 359 = .ok (.iastore, 1) := by decide +kernel
theorem dL_rights_360 : decode cL_rights 360 = .ok (.aload 4, 2) := by decide +kernel
theorem dL_rights_362 : decode cL_rights 362 = .ok (.iload 11, 2) := by decide +kernel
theorem dL_rights_364 : decode cL_rights 364 = .ok (.iconst 4, 1) := by decide +kernel
theorem dL_rights_365 : decode cL_rights 365 = .ok (.iadd, 1) := by decide +kernel
theorem dL_rights_366 : decode cL_rights 366 = .ok (.aload_n 3, 1) := by decide +kernel
theorem dL_rights_367 : decode cL_rights 367 = .ok (.iconst 2, 1) := by decide +kernel
theorem dL_rights_368 : decode cL_rights 368 = .ok (.aload 4, 2) := by decide +kernel
theorem dL_rights_370 : decode cL_rights 370 = .ok (.iload 8, 2) := by decide +kernel
theorem dL_rights_372 : decode cL_rights 372 = .ok (.iaload, 1) := by decide +kernel
theorem dL_rights_373 : decode cL_rights 373 = .ok (.imul, 1) := by decide +kernel
theorem dL_rights_374 : decode cL_rights 374 = .ok (.iaload, 1) := by decide +kernel
theorem dL_rights_375 : decode cL_rights 375 = .ok (.iastore, 1) := by decide +kernel
theorem dL_rights_376 : decode cL_rights 376 = .ok (.aload 4, 2) := by decide +kernel
theorem dL_rights_378 : decode cL_rights 378 = .ok (.iload 11, 2) := by decide +kernel
theorem dL_rights_380 : decode cL_rights 380 = .ok (.iconst 5, 1) := by decide +kernel
theorem dL_rights_381 : decode cL_rights 381 = .ok (.iadd, 1) := by decide +kernel
theorem dL_rights_382 : decode cL_rights 382 = .ok (.aload 4, 2) := by decide +kernel
theorem dL_rights_384 : decode cL_rights 384 = .ok (.iload 8, 2) := by decide +kernel
theorem dL_rights_386 : decode cL_rights 386 = .ok (.iconst 5, 1) := by decide +kernel
theorem dL_rights_387 : decode cL_rights 387 = .ok (.iadd, 1) := by decide +kernel
theorem dL_rights_388 : decode cL_rights 388 = .ok (.iaload, 1) := by decide +kernel
theorem dL_rights_389 : decode cL_rights 389 = .ok (.iastore, 1) := by decide +kernel
theorem dL_rights_390 : decode cL_rights 390 = .ok (.aload 5, 2) := by decide +kernel
theorem dL_rights_392 : decode cL_rights 392 = .ok (.iconst 1, 1) := by decide +kernel
theorem dL_rights_393 : decode cL_rights 393 = .ok (.dup2, 1) := by decide +kernel
theorem dL_rights_394 : decode cL_rights 394 = .ok (.iaload, 1) := by decide +kernel
theorem dL_rights_395 : decode cL_rights 395 = .ok (.iconst 1, 1) := by decide +kernel
theorem dL_rights_396 : decode cL_rights 396 = .ok (.iadd, 1) := by decide +kernel
theorem dL_rights_397 : decode cL_rights 397 = .ok (.iastore, 1) := by decide +kernel
theorem dL_rights_398 : decode cL_rights 398 = .ok (.aload_n 0, 1) := by decide +kernel
theorem dL_rights_399 : decode cL_rights 399 = .ok (.iconst 3, 1) := by decide +kernel
theorem dL_rights_400 : decode cL_rights 400 = .ok (.iload 6, 2) := by decide +kernel
theorem dL_rights_402 : decode cL_rights 402 = .ok (.iload 7, 2) := by decide +kernel
theorem dL_rights_404 : decode cL_rights 404 = .ok (.iconst 0, 1) := by decide +kernel
theorem dL_rights_405 : decode cL_rights 405 = .ok (.iconst 0, 1) := by decide +kernel
theorem dL_rights_406 : decode cL_rights 406 = .ok (.invokestatic 94, 3) := by decide +kernel
theorem dL_rights_409 : decode cL_rights 409 = .ok (.iload 10, 2) := by decide +kernel
theorem dL_rights_411 : decode cL_rights 411 = .ok (.if_icmp .ne 7, 3) := by decide +kernel
theorem dL_rights_414 : decode cL_rights 414 = .ok (.iconst 1, 1) := by decide +kernel
theorem dL_rights_415 : decode cL_rights 415 = .ok (.goto 4, 3) := by decide +kernel
theorem dL_rights_418 : decode cL_rights 418 = .ok (.iconst 0, 1) := by decide +kernel
theorem dL_rights_419 : decode cL_rights 419 = .ok (.ireturn, 1) := by decide +kernel
theorem dL_rights_420 : decode cL_rights 420 = .ok (.iload_n 2, 1) := by decide +kernel
theorem dL_rights_421 : decode cL_rights 421 = .ok (.bipush 9, 2) := by decide +kernel
theorem dL_rights_423 : decode cL_rights 423 = .ok (.ishr, 1) := by decide +kernel
theorem dL_rights_424 : decode cL_rights 424 = .ok (.iconst 2, 1) := by decide +kernel
theorem dL_rights_425 : decode cL_rights 425 = .ok (.invokestatic 75, 3) := by decide +kernel
theorem dL_rights_428 : decode cL_rights 428 = .ok (.ifCond .ne 8, 3) := by decide +kernel
theorem dL_rights_431 : decode cL_rights 431 = .ok (.iload 7, 2) := by decide +kernel
theorem dL_rights_433 : decode cL_rights 433 = .ok (.goto 6, 3) := by decide +kernel
theorem dL_rights_436 : decode cL_rights 436 = .ok (.iload 7, 2) := by decide +kernel
theorem dL_rights_438 : decode cL_rights 438 = .ok (.ineg, 1) := by decide +kernel
theorem dL_rights_439 : decode cL_rights 439 = .ok (.istore 7, 2) := by decide +kernel
theorem dL_rights_441 : decode cL_rights 441 = .ok (.aload 4, 2) := by decide +kernel
theorem dL_rights_443 : decode cL_rights 443 = .ok (.iload 8, 2) := by decide +kernel
theorem dL_rights_445 : decode cL_rights 445 = .ok (.iconst 2, 1) := by decide +kernel
theorem dL_rights_446 : decode cL_rights 446 = .ok (.iadd, 1) := by decide +kernel
theorem dL_rights_447 : decode cL_rights 447 = .ok (.iaload, 1) := by decide +kernel
theorem dL_rights_448 : decode cL_rights 448 = .ok (.iload 7, 2) := by decide +kernel
theorem dL_rights_450 : decode cL_rights 450 = .ok (.if_icmp .lt 20, 3) := by decide +kernel
theorem dL_rights_453 : decode cL_rights 453 = .ok (.aload 4, 2) := by decide +kernel
theorem dL_rights_455 : decode cL_rights 455 = .ok (.iload 8, 2) := by decide +kernel
theorem dL_rights_457 : decode cL_rights 457 = .ok (.iconst 3, 1) := by decide +kernel
theorem dL_rights_458 : decode cL_rights 458 = .ok (.iadd, 1) := by decide +kernel
theorem dL_rights_459 : decode cL_rights 459 = .ok (.iaload, 1) := by decide +kernel
theorem dL_rights_460 : decode cL_rights 460 = .ok (.iload 7, 2) := by decide +kernel
theorem dL_rights_462 : decode cL_rights 462 = .ok (.iadd, 1) := by decide +kernel
theorem dL_rights_463 : decode cL_rights 463 = .ok (.ifCond .lt 7, 3) := by decide +kernel
theorem dL_rights_466 : decode cL_rights 466 = .ok (.iconst 1, 1) := by decide +kernel
theorem dL_rights_467 : decode cL_rights 467 = .ok (.goto 4, 3) := by decide +kernel
theorem dL_rights_470 : decode cL_rights 470 = .ok (.iconst 0, 1) := by decide +kernel
theorem dL_rights_471 : decode cL_rights 471 = .ok (.istore 9, 2) := by decide +kernel
theorem dL_rights_473 : decode cL_rights 473 = .ok (.aload 4, 2) := by decide +kernel
theorem dL_rights_475 : decode cL_rights 475 = .ok (.iload 8, 2) := by decide +kernel
theorem dL_rights_477 : decode cL_rights 477 = .ok (.iconst 2, 1) := by decide +kernel
theorem dL_rights_478 : decode cL_rights 478 = .ok (.iadd, 1) := by decide +kernel
theorem dL_rights_479 : decode cL_rights 479 = .ok (.dup2, 1) := by decide +kernel
theorem dL_rights_480 : decode cL_rights 480 = .ok (.iaload, 1) := by decide +kernel
theorem dL_rights_481 : decode cL_rights 481 = .ok (.iload 9, 2) := by decide +kernel
theorem dL_rights_483 : decode cL_rights 483 = .ok (.ifCond .eq 8, 3) := by decide +kernel
theorem dL_rights_486 : decode cL_rights 486 = .ok (.iload 7, 2) := by decide +kernel
theorem dL_rights_488 : decode cL_rights 488 = .ok (.goto 4, 3) := by decide +kernel
theorem dL_rights_491 : decode cL_rights 491 = .ok (.iconst 0, 1) := by decide +kernel
theorem dL_rights_492 : decode cL_rights 492 = .ok (.isub, 1) := by decide +kernel
theorem dL_rights_493 : decode cL_rights 493 = .ok (.iastore, 1) := by decide +kernel
theorem dL_rights_494 : decode cL_rights 494 = .ok (.aload 4, 2) := by decide +kernel
theorem dL_rights_496 : decode cL_rights 496 = .ok (.iload 8, 2) := by decide +kernel
theorem dL_rights_498 : decode cL_rights 498 = .ok (.iconst 3, 1) := by decide +kernel
theorem dL_rights_499 : decode cL_rights 499 = .ok (.iadd, 1) := by decide +kernel
theorem dL_rights_500 : decode cL_rights 500 = .ok (.dup2, 1) := by decide +kernel
theorem dL_rights_501 : decode cL_rights 501 = .ok (.iaload, 1) := by decide +kernel
theorem dL_rights_502 : decode cL_rights 502 = .ok (.iload 9, 2) := by decide +kernel
theorem dL_rights_504 : decode cL_rights 504 = .ok (.ifCond .eq 8, 3) := by decide +kernel
theorem dL_rights_507 : decode cL_rights 507 = .ok (.iload 7, 2) := by decide +kernel
theorem dL_rights_509 : decode cL_rights 509 = .ok (.goto 4, 3) := by decide +kernel
theorem dL_rights_512 : decode cL_rights 512 = .ok (.iconst 0, 1) := by decide +kernel
theorem dL_rights_513 : decode cL_rights 513 = .ok (.iadd, 1) := by decide +kernel
theorem dL_rights_514 : decode cL_rights 514 = .ok (.iastore, 1) := by decide +kernel
theorem dL_rights_515 : decode cL_rights 515 = .ok (.aload_n 0, 1) := by decide +kernel
theorem dL_rights_516 : decode cL_rights 516 = .ok (.iconst 4, 1) := by decide +kernel
theorem dL_rights_517 : decode cL_rights 517 = .ok (.iload 6, 2) := by decide +kernel
theorem dL_rights_519 : decode cL_rights 519 = .ok (.iload 7, 2) := by decide +kernel
theorem dL_rights_521 : decode cL_rights 521 = .ok (.iconst 0, 1) := by decide +kernel
theorem dL_rights_522 : decode cL_rights 522 = .ok (.iconst 0, 1) := by decide +kernel
theorem dL_rights_523 : decode cL_rights 523 = .ok (.invokestatic 94, 3) := by decide +kernel
theorem dL_rights_526 : decode cL_rights 526 = .ok (.iload 9, 2) := by decide +kernel
theorem dL_rights_528 : decode cL_rights 528 = .ok (.ifCond .eq 13, 3) := by decide +kernel
theorem dL_rights_531 : decode cL_rights 531 = .ok (.aload 4, 2) := by decide +kernel
theorem dL_rights_533 : decode cL_rights 533 = .ok (.iload 8, 2) := by decide +kernel
theorem dL_rights_535 : decode cL_rights 535 = .ok (.iconst 3, 1) := by decide +kernel
theorem dL_rights_536 : decode cL_rights 536 = .ok (.iadd, 1) := by decide +kernel
theorem dL_rights_537 : decode cL_rights 537 = .ok (.iaload, 1) := by decide +kernel
theorem dL_rights_538 : decode cL_rights 538 = .ok (.goto 6, 3) := by decide +kernel
theorem dL_rights_541 : decode cL_rights 541 = .ok (.sipush (-2003), 3) := by decide +kernel
theorem dL_rights_544 : decode cL_rights 544 = .ok (.if_icmp .ne 7, 3) := by decide +kernel
theorem dL_rights_547 : decode cL_rights 547 = .ok (.iconst 1, 1) := by decide +kernel
theorem dL_rights_548 : decode cL_rights 548 = .ok (.goto 4, 3) := by decide +kernel
theorem dL_rights_551 : decode cL_rights 551 = .ok (.iconst 0, 1) := by decide +kernel
theorem dL_rights_552 : decode cL_rights 552 = .ok (.ireturn, 1) := by decide +kernel
set_option maxRecDepth 20000 in
theorem ggL_products_L_low : GoodIn wsL_products wsL_low := goodIn_r _ [4, 5] (by decide +kernel) (by decide +kernel)
set_option maxRecDepth 20000 in
theorem gL_products_L_low : GoodIn wsL_products (va_wsS RL 75 yL_low wsL_low) := goodIn_app (goodIn_of _ (by decide +kernel)) ggL_products_L_low
set_option maxRecDepth 20000 in
theorem ggL_products_X2_setPrice : GoodIn wsL_products wsX2_setPrice := goodIn_ca (goodIn_ca (goodIn_r _ [10, 11, 12, 13, 9, 14, 15, 16, 17, 18, 19, 20, 21, 284, 285, 286, 287, 288, 289, 290, 291, 292] (by decide +kernel) (by decide +kernel)) (goodIn_sub (fun _ h => List.mem_cons_of_mem _ (List.mem_append_left _ (List.mem_append_left _ (List.mem_append_right _ h)))) (by decide +kernel))) (goodIn_sub (fun _ h => List.mem_cons_of_mem _ (List.mem_append_left _ (List.mem_append_right _ h))) (by decide +kernel))
set_option maxRecDepth 20000 in
theorem gL_products_X2_setPrice : GoodIn wsL_products (wsV RL 115 RX2 yX2_setPrice wsX2_setPrice) := goodIn_app (goodIn_of _ (by decide +kernel)) ggL_products_X2_setPrice
set_option maxRecDepth 20000 in
theorem ggL_products_L_calls : GoodIn wsL_products wsL_calls := goodIn_ca (goodIn_ca (goodIn_ca (goodIn_r _ [24, 25, 26, 27, 28, 29, 9, 30, 31, 32, 33, 34, 35, 20, 21, 36, 37, 38, 39, 40, 15, 16, 41, 42, 43, 44, 45, 46, 47, 48, 49, 50, 51, 52, 53, 54, 55, 12, 13, 14, 56, 57, 58, 59, 60, 61, 62, 63, 64, 65, 66, 67, 68, 69, 70, 71, 72, 73, 74, 75, 76, 77, 78, 79, 80, 81, 82, 17, 18, 19, 83, 84, 85, 86, 87, 88, 89, 90, 91, 92, 93, 94, 95, 96, 97, 98, 99, 100, 101, 102, 103, 104, 105, 106, 107, 108, 109, 110, 111, 112, 113, 114, 115, 116, 117, 118, 119, 120, 121, 122, 123, 124, 125, 126, 127, 128, 129, 130, 131, 132, 133, 134, 135, 136, 137, 138, 139, 140, 141, 142, 143, 144, 145, 146, 147, 148, 149, 150, 151, 152, 153, 154, 155, 156, 157, 158, 159, 160, 161, 162, 163, 164, 165, 166, 167, 168, 169, 170, 171, 172, 173, 174, 175, 176, 177, 178, 179, 180, 181, 182, 183, 184, 185, 186, 187, 188, 189, 190, 191, 192, 193, 194, 195, 196, 197, 198, 199, 200, 201, 202, 203, 204, 205, 206, 11, 207, 208, 209, 210, 211, 212, 213, 214, 215, 216, 217, 218, 219, 220, 221, 222, 223, 224, 225, 226, 227, 228, 229, 230, 231, 232, 233, 234, 235, 236, 237, 238, 239, 240, 241, 242, 243, 244, 245, 246, 247, 248, 249, 250, 251, 252, 253, 254, 255, 256, 257, 258, 259, 260, 261, 262, 263, 264, 265, 266, 267, 268, 269, 270, 271, 272, 273, 274, 275, 276, 277, 278, 279, 280, 281, 282, 283, 284, 285, 286, 287, 288, 289, 290, 291, 292, 293, 294, 295, 296, 297, 298, 299, 300, 301, 302, 303, 304, 305, 306, 307, 308] (by decide +kernel) (by decide +kernel)) (goodIn_sub (fun _ h => List.mem_cons_of_mem _ (List.mem_append_left _ (List.mem_append_right _ h))) (by decide +kernel))) (goodIn_sub (fun _ h => List.mem_cons_of_mem _ (List.mem_append_right _ h)) (by decide +kernel))) (goodIn_sub (fun _ h => List.mem_cons_of_mem _ (List.mem_append_left _ (List.mem_append_left _ (List.mem_append_right _ h)))) (by decide +kernel))
set_option maxRecDepth 20000 in
theorem gL_products_L_calls : GoodIn wsL_products (va_wsS RL 94 yL_calls wsL_calls) := goodIn_app (goodIn_of _ (by decide +kernel)) ggL_products_L_calls
theorem dL_products_0 : decode cL_products 0 = .ok (.iload_n 1, 1) := by decide +kernel
theorem dL_products_1 : decode cL_products 1 = .ok (.iconst 2, 1) := by decide +kernel
theorem dL_products_2 : decode cL_products 2 = .ok (.invokestatic 75, 3) := by decide +kernel
theorem dL_products_5 : decode cL_products 5 = .ok (.istore 5, 2) := by decide +kernel
theorem dL_products_7 : decode cL_products 7 = .ok (.iload_n 1, 1) := by decide +kernel
theorem dL_products_8 : decode cL_products 8 = .ok (.iconst 1, 1) := by decide +kernel
theorem dL_products_9 : decode cL_products 9 = .ok (.ishr, 1) := by decide +kernel
theorem dL_products_10 : decode cL_products 10 = .ok (.iconst 3, 1) := by decide +kernel
theorem dL_products_11 : decode cL_products 11 = .ok (.invokestatic 75, 3) := by decide +kernel
theorem dL_products_14 : decode cL_products 14 = .ok (.ifCond .ne 70, 3) := by decide +kernel
theorem dL_products_17 : decode cL_products 17 = .ok (.aload_n 2, 1) := by decide +kernel
theorem dL_products_18 : decode cL_products 18 = .ok (.iconst 2, 1) := by decide +kernel
theorem dL_products_19 : decode cL_products 19 = .ok (.iload 5, 2) := by decide +kernel
theorem dL_products_21 : decode cL_products 21 = .ok (.imul, 1) := by decide +kernel
theorem dL_products_22 : decode cL_products 22 = .ok (.iconst 1, 1) := by decide +kernel
theorem dL_products_23 : decode cL_products 23 = .ok (.iadd, 1) := by decide +kernel
theorem dL_products_24 : decode cL_products 24 = .ok (.iaload, 1) := by decide +kernel
theorem dL_products_25 : decode cL_products 25 = .ok (.istore 6, 2) := by decide +kernel
theorem dL_products_27 : decode cL_products 27 = .ok (.aload_n 2, 1) := by decide +kernel
theorem dL_products_28 : decode cL_products 28 = .ok (.iconst 2, 1) := by decide +kernel
theorem dL_products_29 : decode cL_products 29 = .ok (.iload 5, 2) := by decide +kernel
theorem dL_products_31 : decode cL_products 31 = .ok (.imul, 1) := by decide +kernel
theorem dL_products_32 : decode cL_products 32 = .ok (.iconst 1, 1) := by decide +kernel
theorem dL_products_33 : decode cL_products 33 = .ok (.iadd, 1) := by decide +kernel
theorem dL_products_34 : decode cL_products 34 = .ok (.iload_n 1, 1) := by decide +kernel
theorem dL_products_35 : decode cL_products 35 = .ok (.iconst 3, 1) := by decide +kernel
theorem dL_products_36 : decode cL_products 36 = .ok (.ishr, 1) := by decide +kernel
theorem dL_products_37 : decode cL_products 37 = .ok (.iload_n 1, 1) := by decide +kernel
theorem dL_products_38 : decode cL_products 38 = .ok (.bipush 13, 2) := by decide +kernel
theorem dL_products_40 : decode cL_products 40 = .ok (.ishr, 1) := by decide +kernel
theorem dL_products_41 : decode cL_products 41 = .ok (.iconst 3, 1) := by decide +kernel
theorem dL_products_42 : decode cL_products 42 = .ok (.invokestatic 75, 3) := by decide +kernel
theorem dL_products_45 : decode cL_products 45 = .ok (.ifCond .ne 9, 3) := by decide +kernel
theorem dL_products_48 : decode cL_products 48 = .ok (.sipush 1001, 3) := by decide +kernel
theorem dL_products_51 : decode cL_products 51 = .ok (.goto 4, 3) := by decide +kernel
theorem dL_products_54 : decode cL_products 54 = .ok (.iconst 5, 1) := by decide +kernel
theorem dL_products_55 : decode cL_products 55 = .ok (.invokestatic 75, 3) := by decide +kernel
theorem dL_products_58 : decode cL_products 58 = .ok (.iastore, 1) := by decide +kernel
theorem dL_products_59 : decode cL_products 59 = .ok (.aload_n 0, 1) := by decide +kernel
theorem dL_products_60 : decode cL_products 60 = .ok (.iload 5, 2) := by decide +kernel
theorem dL_products_62 : decode cL_products 62 = .ok (.aload_n 2, 1) := by decide +kernel
theorem dL_products_63 : decode cL_products 63 = .ok (.iconst 2, 1) := by decide +kernel
theorem dL_products_64 : decode cL_products 64 = .ok (.iload 5, 2) := by decide +kernel
theorem dL_products_66 : decode cL_products 66 = .ok (.imul, 1) := by decide +kernel
theorem dL_products_67 : decode cL_products 67 = .ok (.iconst 1, 1) := by decide +kernel
theorem dL_products_68 : decode cL_products 68 = .ok (.iadd, 1) := by decide +kernel
theorem dL_products_69 : decode cL_products 69 = .ok (.iaload, 1) := by decide +kernel
theorem dL_products_70 : decode cL_products 70 = .ok (.invokevirtual 115, 3) := by decide +kernel
theorem dL_products_73 : decode cL_products 73 = .ok (.iload 6, 2) := by decide +kernel
theorem dL_products_75 : decode cL_products 75 = .ok (.if_icmp .ne 7, 3) := by decide +kernel
theorem dL_products_78 : decode cL_products 78 = .ok (.iconst 1, 1) := by decide +kernel
theorem dL_products_79 : decode cL_products 79 = .ok (.goto 4, 3) := by decide +kernel
theorem dL_products_82 : decode cL_products 82 = .ok (.iconst 0, 1) := by decide +kernel
theorem dL_products_83 : decode cL_products 83 = .ok (.ireturn, 1) := by decide +kernel
theorem dL_products_84 : decode cL_products 84 = .ok (.aload_n 2, 1) := by decide +kernel
theorem dL_products_85 : decode cL_products 85 = .ok (.iconst 2, 1) := by decide +kernel
theorem dL_products_86 : decode cL_products 86 = .ok (.iload 5, 2) := by decide +kernel
theorem dL_products_88 : decode cL_products 88 = .ok (.imul, 1) := by decide +kernel
theorem dL_products_89 : decode cL_products 89 = .ok (.iaload, 1) := by decide +kernel
theorem dL_products_90 : decode cL_products 90 = .ok (.bipush 9, 2) := by decide +kernel
theorem dL_products_92 : decode cL_products 92 = .ok (.if_icmp .ne 9, 3) := by decide +kernel
theorem dL_products_95 : decode cL_products 95 = .ok (.sipush (-2003), 3) := by decide +kernel
theorem dL_products_98 : decode cL_products 98 = .ok (.goto 4, 3) := by decide +kernel
theorem dL_products_101 : decode cL_products 101 = .ok (.iconst 0, 1) := by decide +kernel
theorem dL_products_102 : decode cL_products 102 = .ok (.istore 6, 2) := by decide +kernel
theorem dL_products_104 : decode cL_products 104 = .ok (.iconst 0, 1) := by decide +kernel
theorem dL_products_105 : decode cL_products 105 = .ok (.istore 7, 2) := by decide +kernel
theorem dL_products_107 : decode cL_products 107 = .ok (.iload 7, 2) := by decide +kernel
theorem dL_products_109 : decode cL_products 109 = .ok (.aload 4, 2) := by decide +kernel
theorem dL_products_111 : decode cL_products 111 = .ok (.iconst 1, 1) := by decide +kernel
theorem dL_products_112 : decode cL_products 112 = .ok (.iaload, 1) := by decide +kernel
theorem dL_products_113 : decode cL_products 113 = .ok (.if_icmp .ge 104, 3) := by decide +kernel
theorem dL_products_116 : decode cL_products 116 = .ok (.iload 6, 2) := by decide +kernel
theorem dL_products_118 : decode cL_products 118 = .ok (.ifCond .lt 99, 3) := by decide +kernel
theorem dL_products_121 : decode cL_products 121 = .ok (.aload_n 3, 1) := by decide +kernel
theorem dL_products_122 : decode cL_products 122 = .ok (.bipush 6, 2) := by decide +kernel
theorem dL_products_124 : decode cL_products 124 = .ok (.iload 7, 2) := by decide +kernel
theorem dL_products_126 : decode cL_products 126 = .ok (.imul, 1) := by decide +kernel
theorem dL_products_127 : decode cL_products 127 = .ok (.iaload, 1) := by decide +kernel
theorem dL_products_128 : decode cL_products 128 = .ok (.iload 5, 2) := by decide +kernel
theorem dL_products_130 : decode cL_products 130 = .ok (.if_icmp .ne 41, 3) := by decide +kernel
theorem dL_products_133 : decode cL_products 133 = .ok (.aload_n 3, 1) := by decide +kernel
theorem dL_products_134 : decode cL_products 134 = .ok (.bipush 6, 2) := by decide +kernel
theorem dL_products_136 : decode cL_products 136 = .ok (.iload 7, 2) := by decide +kernel
theorem dL_products_138 : decode cL_products 138 = .ok (.imul, 1) := by decide +kernel
theorem dL_products_139 : decode cL_products 139 = .ok (.iconst 4, 1) := by decide +kernel
theorem dL_products_140 : decode cL_products 140 = .ok (.iadd, 1) := by decide +kernel
theorem dL_products_141 : decode cL_products 141 = .ok (.iaload, 1) := by decide +kernel
theorem dL_products_142 : decode cL_products 142 = .ok (.aload_n 2, 1) := by decide +kernel
theorem dL_products_143 : decode cL_products 143 = .ok (.iconst 2, 1) := by decide +kernel
theorem dL_products_144 : decode cL_products 144 = .ok (.iload 5, 2) := by decide +kernel
theorem dL_products_146 : decode cL_products 146 = .ok (.imul, 1) := by decide +kernel
theorem dL_products_147 : decode cL_products 147 = .ok (.iaload, 1) := by decide +kernel
theorem dL_products_148 : decode cL_products 148 = .ok (.if_icmp .ne 23, 3) := by decide +kernel
theorem dL_products_151 : decode cL_products 151 = .ok (.aload_n 3, 1) := by decide +kernel
theorem dL_products_152 : decode cL_products 152 = .ok (.bipush 6, 2) := by decide +kernel
theorem dL_products_154 : decode cL_products 154 = .ok (.iload 7, 2) := by decide +kernel
theorem dL_products_156 : decode cL_products 156 = .ok (.imul, 1) := by decide +kernel
theorem dL_products_157 : decode cL_products 157 = .ok (.iconst 5, 1) := by decide +kernel
theorem dL_products_158 : decode cL_products 158 = .ok (.iadd, 1) := by decide +kernel
theorem dL_products_159 : decode cL_products 159 = .ok (.iaload, 1) := by decide +kernel
theorem dL_products_160 : decode cL_products 160 = .ok (.aload 4, 2) := by decide +kernel
theorem dL_products_162 : decode cL_products 162 = .ok (.iconst 0, 1) := by decide +kernel
theorem dL_products_163 : decode cL_products 163 = .ok (.iaload, 1) := by decide +kernel
theorem dL_products_164 : decode cL_products 164 = .ok (.if_icmp .lt 7, 3) := by decide +kernel
theorem dL_products_167 : decode cL_products 167 = .ok (.iconst 1, 1) := by decide +kernel
theorem dL_products_168 : decode cL_products 168 = .ok (.goto 4, 3) := by decide +kernel
theorem dL_products_171 : decode cL_products 171 = .ok (.iconst 0, 1) := by decide +kernel
theorem dL_products_172 : decode cL_products 172 = .ok (.istore 8, 2) := by decide +kernel
theorem dL_products_174 : decode cL_products 174 = .ok (.aload_n 3, 1) := by decide +kernel
theorem dL_products_175 : decode cL_products 175 = .ok (.bipush 6, 2) := by decide +kernel
theorem dL_products_177 : decode cL_products 177 = .ok (.iload 7, 2) := by decide +kernel
theorem dL_products_179 : decode cL_products 179 = .ok (.imul, 1) := by decide +kernel
theorem dL_products_180 : decode cL_products 180 = .ok (.iconst 4, 1) := by decide +kernel
theorem dL_products_181 : decode cL_products 181 = .ok (.iadd, 1) := by decide +kernel
theorem dL_products_182 : decode cL_products 182 = .ok (.dup2, 1) := by decide +kernel
theorem dL_products_183 : decode cL_products 183 = .ok (.iaload, 1) := by decide +kernel
theorem dL_products_184 : decode cL_products 184 = .ok (.iload 8, 2) := by decide +kernel
theorem dL_products_186 : decode cL_products 186 = .ok (.ifCond .eq 7, 3) := by decide +kernel
theorem dL_products_189 : decode cL_products 189 = .ok (.iconst 1, 1) := by decide +kernel
theorem dL_products_190 : decode cL_products 190 = .ok (.goto 4, 3) := by decide +kernel
theorem dL_products_193 : decode cL_products 193 = .ok (.iconst 0, 1) := by decide +kernel
theorem dL_products_194 : decode cL_products 194 = .ok (.iadd, 1) := by decide +kernel
theorem dL_products_195 : decode cL_products 195 = .ok (.iastore, 1) := by decide +kernel
theorem dL_products_196 : decode cL_products 196 = .ok (.iload 6, 2) := by decide +kernel
theorem dL_products_198 : decode cL_products 198 = .ok (.iload 8, 2) := by decide +kernel
theorem dL_products_200 : decode cL_products 200 = .ok (.ifCond .eq 7, 3) := by decide +kernel
theorem dL_products_203 : decode cL_products 203 = .ok (.iconst 1, 1) := by decide +kernel
theorem dL_products_204 : decode cL_products 204 = .ok (.goto 4, 3) := by decide +kernel
theorem dL_products_207 : decode cL_products 207 = .ok (.iconst 0, 1) := by decide +kernel
theorem dL_products_208 : decode cL_products 208 = .ok (.iadd, 1) := by decide +kernel
theorem dL_products_209 : decode cL_products 209 = .ok (.istore 6, 2) := by decide +kernel
theorem dL_products_211 : decode cL_products 211 = .ok (.iinc 7 1, 3) := by decide +kernel
theorem dL_products_214 : decode cL_products 214 = .ok (.goto (-107), 3) := by decide +kernel
theorem dL_products_217 : decode cL_products 217 = .ok (.aload_n 2, 1) := by decide +kernel
theorem dL_products_218 : decode cL_products 218 = .ok (.iconst 2, 1) := by decide +kernel
theorem dL_products_219 : decode cL_products 219 = .ok (.iload 5, 2) := by decide +kernel
theorem dL_products_221 : decode cL_products 221 = .ok (.imul, 1) := by decide +kernel
theorem dL_products_222 : decode cL_products 222 = .ok (.dup2, 1) := by decide +kernel
theorem dL_products_223 : decode cL_products 223 = .ok (.iaload, 1) := by decide +kernel
theorem dL_products_224 : decode cL_products 224 = .ok (.iload 6, 2) := by decide +kernel
theorem dL_products_226 : decode cL_products 226 = .ok (.ifCond .ge 7, 3) := by decide +kernel
theorem dL_products_229 : decode cL_products 229 = .ok (.iconst 0, 1) := by decide +kernel
theorem dL_products_230 : decode cL_products 230 = .ok (.goto 4, 3) := by decide +kernel
theorem dL_products_233 : decode cL_products 233 = .ok (.iconst 1, 1) := by decide +kernel
theorem dL_products_234 : decode cL_products 234 = .ok (.iadd, 1) := by decide +kernel
theorem dL_products_235 : decode cL_products 235 = .ok (.iastore, 1) := by decide +kernel
theorem dL_products_236 : decode cL_products 236 = .ok (.aload_n 0, 1) := by decide +kernel
theorem dL_products_237 : decode cL_products 237 = .ok (.iconst 1, 1) := by decide +kernel
theorem dL_products_238 : decode cL_products 238 = .ok (.iload 5, 2) := by decide +kernel
theorem dL_products_240 : decode cL_products 240 = .ok (.iconst 0, 1) := by decide +kernel
theorem dL_products_241 : decode cL_products 241 = .ok (.iconst 0, 1) := by decide +kernel
theorem dL_products_242 : decode cL_products 242 = .ok (.iconst 0, 1) := by decide +kernel
theorem dL_products_243 : decode cL_products 243 = .ok (.invokestatic 94, 3) := by decide +kernel
theorem dL_products_246 : decode cL_products 246 = .ok (.iload 6, 2) := by decide +kernel
theorem dL_products_248 : decode cL_products 248 = .ok (.if_icmp .ne 7, 3) := by decide +kernel
theorem dL_products_251 : decode cL_products 251 = .ok (.iconst 1, 1) := by decide +kernel
theorem dL_products_252 : decode cL_products 252 = .ok (.goto 4, 3) := by decide +kernel
theorem dL_products_255 : decode cL_products 255 = .ok (.iconst 0, 1) := by decide +kernel
theorem dL_products_256 : decode cL_products 256 = .ok (.ireturn, 1) := by decide +kernel
