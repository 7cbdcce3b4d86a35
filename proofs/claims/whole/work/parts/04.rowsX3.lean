theorem dX3_init_0 : decode cX3_init 0 = .ok (.aload_n 0, 1) := by decide +kernel
theorem dX3_init_1 : decode cX3_init 1 = .ok (.invokespecial 1, 3) := by decide +kernel
theorem dX3_init_4 : decode cX3_init 4 = .ok (.aload_n 0, 1) := by decide +kernel
theorem dX3_init_5 : decode cX3_init 5 = .ok (.bipush 8, 2) := by decide +kernel
theorem dX3_init_7 : decode cX3_init 7 = .ok (.newarray .int, 2) := by decide +kernel
theorem dX3_init_9 : decode cX3_init 9 = .ok (.putfield 7, 3) := by decide +kernel
theorem dX3_init_12 : decode cX3_init 12 = .ok (.aload_n 0, 1) := by decide +kernel
theorem dX3_init_13 : decode cX3_init 13 = .ok (.bipush 8, 2) := by decide +kernel
theorem dX3_init_15 : decode cX3_init 15 = .ok (.newarray .int, 2) := by decide +kernel
theorem dX3_init_17 : decode cX3_init 17 = .ok (.putfield 13, 3) := by decide +kernel
theorem dX3_init_20 : decode cX3_init 20 = .ok (.aload_n 0, 1) := by decide +kernel
theorem dX3_init_21 : decode cX3_init 21 = .ok (.bipush 32, 2) := by decide +kernel
theorem dX3_init_23 : decode cX3_init 23 = .ok (.newarray .int, 2) := by decide +kernel
theorem dX3_init_25 : decode cX3_init 25 = .ok (.putfield 16, 3) := by decide +kernel
theorem dX3_init_28 : decode cX3_init 28 = .ok (.aload_n 0, 1) := by decide +kernel
theorem dX3_init_29 : decode cX3_init 29 = .ok (.iconst 4, 1) := by decide +kernel
theorem dX3_init_30 : decode cX3_init 30 = .ok (.newarray .int, 2) := by decide +kernel
theorem dX3_init_32 : decode cX3_init 32 = .ok (.putfield 19, 3) := by decide +kernel
theorem dX3_init_35 : decode cX3_init 35 = .ok (.aload_n 0, 1) := by decide +kernel
theorem dX3_init_36 : decode cX3_init 36 = .ok (.iconst 4, 1) := by decide +kernel
theorem dX3_init_37 : decode cX3_init 37 = .ok (.newarray .int, 2) := by decide +kernel
theorem dX3_init_39 : decode cX3_init 39 = .ok (.putfield 22, 3) := by decide +kernel
theorem dX3_init_42 : decode cX3_init 42 = .ok (.aload_n 0, 1) := by decide +kernel
theorem dX3_init_43 : decode cX3_init 43 = .ok (.bipush 12, 2) := by decide +kernel
theorem dX3_init_45 : decode cX3_init 45 = .ok (.newarray .int, 2) := by decide +kernel
theorem dX3_init_47 : decode cX3_init 47 = .ok (.putfield 25, 3) := by decide +kernel
theorem dX3_init_50 : decode cX3_init 50 = .ok (.aload_n 0, 1) := by decide +kernel
theorem dX3_init_51 : decode cX3_init 51 = .ok (.bipush 12, 2) := by decide +kernel
theorem dX3_init_53 : decode cX3_init 53 = .ok (.newarray .int, 2) := by decide +kernel
theorem dX3_init_55 : decode cX3_init 55 = .ok (.putfield 28, 3) := by decide +kernel
theorem dX3_init_58 : decode cX3_init 58 = .ok (.aload_n 0, 1) := by decide +kernel
theorem dX3_init_59 : decode cX3_init 59 = .ok (.bipush 12, 2) := by decide +kernel
theorem dX3_init_61 : decode cX3_init 61 = .ok (.newarray .int, 2) := by decide +kernel
theorem dX3_init_63 : decode cX3_init 63 = .ok (.putfield 31, 3) := by decide +kernel
theorem dX3_init_66 : decode cX3_init 66 = .ok (.aload_n 0, 1) := by decide +kernel
theorem dX3_init_67 : decode cX3_init 67 = .ok (.bipush 12, 2) := by decide +kernel
theorem dX3_init_69 : decode cX3_init 69 = .ok (.newarray .int, 2) := by decide +kernel
theorem dX3_init_71 : decode cX3_init 71 = .ok (.putfield 34, 3) := by decide +kernel
theorem dX3_init_74 : decode cX3_init 74 = .ok (.aload_n 0, 1) := by decide +kernel
theorem dX3_init_75 : decode cX3_init 75 = .ok (.bipush 12, 2) := by decide +kernel
theorem dX3_init_77 : decode cX3_init 77 = .ok (.newarray .int, 2) := by decide +kernel
theorem dX3_init_79 : decode cX3_init 79 = .ok (.putfield 37, 3) := by decide +kernel
theorem dX3_init_82 : decode cX3_init 82 = .ok (.aload_n 0, 1) := by decide +kernel
theorem dX3_init_83 : decode cX3_init 83 = .ok (.bipush 12, 2) := by decide +kernel
theorem dX3_init_85 : decode cX3_init 85 = .ok (.newarray .int, 2) := by decide +kernel
theorem dX3_init_87 : decode cX3_init 87 = .ok (.putfield 40, 3) := by decide +kernel
theorem dX3_init_90 : decode cX3_init 90 = .ok (.aload_n 0, 1) := by decide +kernel
theorem dX3_init_91 : decode cX3_init 91 = .ok (.sipush 256, 3) := by decide +kernel
theorem dX3_init_94 : decode cX3_init 94 = .ok (.newarray .boolean, 2) := by decide +kernel
theorem dX3_init_96 : decode cX3_init 96 = .ok (.putfield 43, 3) := by decide +kernel
theorem dX3_init_99 : decode cX3_init 99 = .ok (.aload_n 0, 1) := by decide +kernel
theorem dX3_init_100 : decode cX3_init 100 = .ok (.sipush 256, 3) := by decide +kernel
theorem dX3_init_103 : decode cX3_init 103 = .ok (.newarray .boolean, 2) := by decide +kernel
theorem dX3_init_105 : decode cX3_init 105 = .ok (.putfield 47, 3) := by decide +kernel
theorem dX3_init_108 : decode cX3_init 108 = .ok (.aload_n 0, 1) := by decide +kernel
theorem dX3_init_109 : decode cX3_init 109 = .ok (.sipush 256, 3) := by decide +kernel
theorem dX3_init_112 : decode cX3_init 112 = .ok (.newarray .int, 2) := by decide +kernel
theorem dX3_init_114 : decode cX3_init 114 = .ok (.putfield 50, 3) := by decide +kernel
theorem dX3_init_117 : decode cX3_init 117 = .ok (.aload_n 0, 1) := by decide +kernel
theorem dX3_init_118 : decode cX3_init 118 = .ok (.sipush 256, 3) := by decide +kernel
theorem dX3_init_121 : decode cX3_init 121 = .ok (.newarray .int, 2) := by decide +kernel
theorem dX3_init_123 : decode cX3_init 123 = .ok (.putfield 53, 3) := by decide +kernel
theorem dX3_init_126 : decode cX3_init 126 = .ok (.iconst 0, 1) := by decide +kernel
theorem dX3_init_127 : decode cX3_init 127 = .ok (.istore_n 1, 1) := by decide +kernel
theorem dX3_init_128 : decode cX3_init 128 = .ok (.iload_n 1, 1) := by decide +kernel
theorem dX3_init_129 : decode cX3_init 129 = .ok (.bipush 8, 2) := by decide +kernel
theorem dX3_init_131 : decode cX3_init 131 = .ok (.if_icmp .ge 23, 3) := by decide +kernel
theorem dX3_init_134 : decode cX3_init 134 = .ok (.aload_n 0, 1) := by decide +kernel
theorem dX3_init_135 : decode cX3_init 135 = .ok (.getfield 7, 3) := by decide +kernel
theorem dX3_init_138 : decode cX3_init 138 = .ok (.iload_n 1, 1) := by decide +kernel
theorem dX3_init_139 : decode cX3_init 139 = .ok (.iconst 1, 1) := by decide +kernel
theorem dX3_init_140 : decode cX3_init 140 = .ok (.iastore, 1) := by decide +kernel
theorem dX3_init_141 : decode cX3_init 141 = .ok (.aload_n 0, 1) := by decide +kernel
theorem dX3_init_142 : decode cX3_init 142 = .ok (.getfield 13, 3) := by decide +kernel
theorem dX3_init_145 : decode cX3_init 145 = .ok (.iload_n 1, 1) := by decide +kernel
theorem dX3_init_146 : decode cX3_init 146 = .ok (.iconst (-1), 1) := by decide +kernel
theorem dX3_init_147 : decode cX3_init 147 = .ok (.iastore, 1) := by decide +kernel
theorem dX3_init_148 : decode cX3_init 148 = .ok (.iinc 1 1, 3) := by decide +kernel
theorem dX3_init_151 : decode cX3_init 151 = .ok (.goto (-23), 3) := by decide +kernel
theorem dX3_init_154 : decode cX3_init 154 = .ok (.iconst 0, 1) := by decide +kernel
theorem dX3_init_155 : decode cX3_init 155 = .ok (.istore_n 1, 1) := by decide +kernel
theorem dX3_init_156 : decode cX3_init 156 = .ok (.iload_n 1, 1) := by decide +kernel
theorem dX3_init_157 : decode cX3_init 157 = .ok (.iconst 4, 1) := by decide +kernel
theorem dX3_init_158 : decode cX3_init 158 = .ok (.if_icmp .ge 23, 3) := by decide +kernel
theorem dX3_init_161 : decode cX3_init 161 = .ok (.aload_n 0, 1) := by decide +kernel
theorem dX3_init_162 : decode cX3_init 162 = .ok (.getfield 19, 3) := by decide +kernel
theorem dX3_init_165 : decode cX3_init 165 = .ok (.iload_n 1, 1) := by decide +kernel
theorem dX3_init_166 : decode cX3_init 166 = .ok (.iconst 1, 1) := by decide +kernel
theorem dX3_init_167 : decode cX3_init 167 = .ok (.iastore, 1) := by decide +kernel
theorem dX3_init_168 : decode cX3_init 168 = .ok (.aload_n 0, 1) := by decide +kernel
theorem dX3_init_169 : decode cX3_init 169 = .ok (.getfield 22, 3) := by decide +kernel
theorem dX3_init_172 : decode cX3_init 172 = .ok (.iload_n 1, 1) := by decide +kernel
theorem dX3_init_173 : decode cX3_init 173 = .ok (.iconst 1, 1) := by decide +kernel
theorem dX3_init_174 : decode cX3_init 174 = .ok (.iastore, 1) := by decide +kernel
theorem dX3_init_175 : decode cX3_init 175 = .ok (.iinc 1 1, 3) := by decide +kernel
theorem dX3_init_178 : decode cX3_init 178 = .ok (.goto (-22), 3) := by decide +kernel
theorem dX3_init_181 : decode cX3_init 181 = .ok (.return_, 1) := by decide +kernel
theorem dX3_thrown_0 : decode cX3_thrown 0 = .ok (.aload_n 0, 1) := by decide +kernel
theorem dX3_thrown_1 : decode cX3_thrown 1 = .ok (.getfield 56, 3) := by decide +kernel
theorem dX3_thrown_4 : decode cX3_thrown 4 = .ok (.ireturn, 1) := by decide +kernel
theorem dX3_fails_0 : decode cX3_fails 0 = .ok (.aload_n 0, 1) := by decide +kernel
theorem dX3_fails_1 : decode cX3_fails 1 = .ok (.iload_n 1, 1) := by decide +kernel
theorem dX3_fails_2 : decode cX3_fails 2 = .ok (.putfield 56, 3) := by decide +kernel
theorem dX3_fails_5 : decode cX3_fails 5 = .ok (.iconst 0, 1) := by decide +kernel
theorem dX3_fails_6 : decode cX3_fails 6 = .ok (.ireturn, 1) := by decide +kernel
theorem dX3_in_0 : decode cX3_in 0 = .ok (.iload_n 0, 1) := by decide +kernel
theorem dX3_in_1 : decode cX3_in 1 = .ok (.iload_n 1, 1) := by decide +kernel
theorem dX3_in_2 : decode cX3_in 2 = .ok (.if_icmp .lt 12, 3) := by decide +kernel
theorem dX3_in_5 : decode cX3_in 5 = .ok (.iload_n 0, 1) := by decide +kernel
theorem dX3_in_6 : decode cX3_in 6 = .ok (.iload_n 2, 1) := by decide +kernel
theorem dX3_in_7 : decode cX3_in 7 = .ok (.if_icmp .gt 7, 3) := by decide +kernel
theorem dX3_in_10 : decode cX3_in 10 = .ok (.iconst 1, 1) := by decide +kernel
theorem dX3_in_11 : decode cX3_in 11 = .ok (.goto 4, 3) := by decide +kernel
theorem dX3_in_14 : decode cX3_in 14 = .ok (.iconst 0, 1) := by decide +kernel
theorem dX3_in_15 : decode cX3_in 15 = .ok (.ireturn, 1) := by decide +kernel
set_option maxRecDepth 20000 in
theorem ggX3_isMachine_X3_in : GoodIn wsX3_isMachine wsX3_in := goodIn_r _ [4] (by decide +kernel) (by decide +kernel)
set_option maxRecDepth 20000 in
theorem gX3_isMachine_X3_in : GoodIn wsX3_isMachine (va_wsS RX3 60 yX3_in wsX3_in) := goodIn_app (goodIn_of _ (by decide +kernel)) ggX3_isMachine_X3_in
theorem dX3_isMachine_0 : decode cX3_isMachine 0 = .ok (.iload_n 0, 1) := by decide +kernel
theorem dX3_isMachine_1 : decode cX3_isMachine 1 = .ok (.iconst 0, 1) := by decide +kernel
theorem dX3_isMachine_2 : decode cX3_isMachine 2 = .ok (.bipush 7, 2) := by decide +kernel
theorem dX3_isMachine_4 : decode cX3_isMachine 4 = .ok (.invokestatic 60, 3) := by decide +kernel
theorem dX3_isMachine_7 : decode cX3_isMachine 7 = .ok (.ireturn, 1) := by decide +kernel
set_option maxRecDepth 20000 in
theorem ggX3_isProduct_X3_in : GoodIn wsX3_isProduct wsX3_in := goodIn_r _ [4] (by decide +kernel) (by decide +kernel)
set_option maxRecDepth 20000 in
theorem gX3_isProduct_X3_in : GoodIn wsX3_isProduct (va_wsS RX3 60 yX3_in wsX3_in) := goodIn_app (goodIn_of _ (by decide +kernel)) ggX3_isProduct_X3_in
theorem dX3_isProduct_0 : decode cX3_isProduct 0 = .ok (.iload_n 0, 1) := by decide +kernel
theorem dX3_isProduct_1 : decode cX3_isProduct 1 = .ok (.iconst 0, 1) := by decide +kernel
theorem dX3_isProduct_2 : decode cX3_isProduct 2 = .ok (.iconst 3, 1) := by decide +kernel
theorem dX3_isProduct_3 : decode cX3_isProduct 3 = .ok (.invokestatic 60, 3) := by decide +kernel
theorem dX3_isProduct_6 : decode cX3_isProduct 6 = .ok (.ireturn, 1) := by decide +kernel
set_option maxRecDepth 20000 in
theorem ggX3_isRight_X3_in : GoodIn wsX3_isRight wsX3_in := goodIn_r _ [5] (by decide +kernel) (by decide +kernel)
set_option maxRecDepth 20000 in
theorem gX3_isRight_X3_in : GoodIn wsX3_isRight (va_wsS RX3 60 yX3_in wsX3_in) := goodIn_app (goodIn_of _ (by decide +kernel)) ggX3_isRight_X3_in
theorem dX3_isRight_0 : decode cX3_isRight 0 = .ok (.iload_n 1, 1) := by decide +kernel
theorem dX3_isRight_1 : decode cX3_isRight 1 = .ok (.iconst 0, 1) := by decide +kernel
theorem dX3_isRight_2 : decode cX3_isRight 2 = .ok (.aload_n 0, 1) := by decide +kernel
theorem dX3_isRight_3 : decode cX3_isRight 3 = .ok (.getfield 64, 3) := by decide +kernel
theorem dX3_isRight_6 : decode cX3_isRight 6 = .ok (.iconst 1, 1) := by decide +kernel
theorem dX3_isRight_7 : decode cX3_isRight 7 = .ok (.isub, 1) := by decide +kernel
theorem dX3_isRight_8 : decode cX3_isRight 8 = .ok (.invokestatic 60, 3) := by decide +kernel
theorem dX3_isRight_11 : decode cX3_isRight 11 = .ok (.ireturn, 1) := by decide +kernel
set_option maxRecDepth 20000 in
theorem ggX3_setCores_X3_isMachine : GoodIn wsX3_setCores wsX3_isMachine := goodIn_r _ [6, 7, 8, 5, 9] (by decide +kernel) (by decide +kernel)
set_option maxRecDepth 20000 in
theorem gX3_setCores_X3_isMachine : GoodIn wsX3_setCores (va_wsS RX3 67 yX3_isMachine wsX3_isMachine) := goodIn_app (goodIn_of _ (by decide +kernel)) ggX3_setCores_X3_isMachine
set_option maxRecDepth 20000 in
theorem ggX3_setCores_X3_fails : GoodIn wsX3_setCores wsX3_fails := goodIn_r _ [13, 1, 14, 15, 16, 17, 18, 19, 20, 21, 22, 23, 24, 25, 26, 27, 28, 29, 30, 31, 32] (by decide +kernel) (by decide +kernel)
set_option maxRecDepth 20000 in
theorem gX3_setCores_X3_fails : GoodIn wsX3_setCores (wsV RX3 71 RX3 yX3_fails wsX3_fails) := goodIn_app (goodIn_of _ (by decide +kernel)) ggX3_setCores_X3_fails
set_option maxRecDepth 20000 in
theorem ggX3_setCores_X3_in : GoodIn wsX3_setCores wsX3_in := goodIn_r _ [9] (by decide +kernel) (by decide +kernel)
set_option maxRecDepth 20000 in
theorem gX3_setCores_X3_in : GoodIn wsX3_setCores (va_wsS RX3 60 yX3_in wsX3_in) := goodIn_app (goodIn_of _ (by decide +kernel)) ggX3_setCores_X3_in
theorem dX3_setCores_0 : decode cX3_setCores 0 = .ok (.aload_n 0, 1) := by decide +kernel
theorem dX3_setCores_1 : decode cX3_setCores 1 = .ok (.iconst 0, 1) := by decide +kernel
theorem dX3_setCores_2 : decode cX3_setCores 2 = .ok (.putfield 56, 3) := by decide +kernel
theorem dX3_setCores_5 : decode cX3_setCores 5 = .ok (.iload_n 1, 1) := by decide +kernel
theorem dX3_setCores_6 : decode cX3_setCores 6 = .ok (.invokestatic 67, 3) := by decide +kernel
theorem dX3_setCores_9 : decode cX3_setCores 9 = .ok (.ifCond .ne 9, 3) := by decide +kernel
theorem dX3_setCores_12 : decode cX3_setCores 12 = .ok (.aload_n 0, 1) := by decide +kernel
theorem dX3_setCores_13 : decode cX3_setCores 13 = .ok (.iconst 1, 1) := by decide +kernel
theorem dX3_setCores_14 : decode cX3_setCores 14 = .ok (.invokevirtual 71, 3) := by decide +kernel
theorem dX3_setCores_17 : decode cX3_setCores 17 = .ok (.ireturn, 1) := by decide +kernel
theorem dX3_setCores_18 : decode cX3_setCores 18 = .ok (.iload_n 2, 1) := by decide +kernel
theorem dX3_setCores_19 : decode cX3_setCores 19 = .ok (.iconst 1, 1) := by decide +kernel
theorem dX3_setCores_20 : decode cX3_setCores 20 = .ok (.bipush 64, 2) := by decide +kernel
theorem dX3_setCores_22 : decode cX3_setCores 22 = .ok (.invokestatic 60, 3) := by decide +kernel
theorem dX3_setCores_25 : decode cX3_setCores 25 = .ok (.ifCond .ne 9, 3) := by decide +kernel
theorem dX3_setCores_28 : decode cX3_setCores 28 = .ok (.aload_n 0, 1) := by decide +kernel
theorem dX3_setCores_29 : decode cX3_setCores 29 = .ok (.iconst 2, 1) := by decide +kernel
theorem dX3_setCores_30 : decode cX3_setCores 30 = .ok (.invokevirtual 71, 3) := by decide +kernel
theorem dX3_setCores_33 : decode cX3_setCores 33 = .ok (.ireturn, 1) := by decide +kernel
theorem dX3_setCores_34 : decode cX3_setCores 34 = .ok (.aload_n 0, 1) := by decide +kernel
theorem dX3_setCores_35 : decode cX3_setCores 35 = .ok (.getfield 7, 3) := by decide +kernel
theorem dX3_setCores_38 : decode cX3_setCores 38 = .ok (.iload_n 1, 1) := by decide +kernel
theorem dX3_setCores_39 : decode cX3_setCores 39 = .ok (.iaload, 1) := by decide +kernel
theorem dX3_setCores_40 : decode cX3_setCores 40 = .ok (.istore_n 3, 1) := by decide +kernel
theorem dX3_setCores_41 : decode cX3_setCores 41 = .ok (.aload_n 0, 1) := by decide +kernel
theorem dX3_setCores_42 : decode cX3_setCores 42 = .ok (.getfield 7, 3) := by decide +kernel
theorem dX3_setCores_45 : decode cX3_setCores 45 = .ok (.iload_n 1, 1) := by decide +kernel
theorem dX3_setCores_46 : decode cX3_setCores 46 = .ok (.iload_n 2, 1) := by decide +kernel
theorem dX3_setCores_47 : decode cX3_setCores 47 = .ok (.iastore, 1) := by decide +kernel
theorem dX3_setCores_48 : decode cX3_setCores 48 = .ok (.iload_n 3, 1) := by decide +kernel
theorem dX3_setCores_49 : decode cX3_setCores 49 = .ok (.ireturn, 1) := by decide +kernel
theorem dX3_isHost_0 : decode cX3_isHost 0 = .ok (.iconst 0, 1) := by decide +kernel
theorem dX3_isHost_1 : decode cX3_isHost 1 = .ok (.istore_n 2, 1) := by decide +kernel
theorem dX3_isHost_2 : decode cX3_isHost 2 = .ok (.iconst 0, 1) := by decide +kernel
theorem dX3_isHost_3 : decode cX3_isHost 3 = .ok (.istore_n 3, 1) := by decide +kernel
theorem dX3_isHost_4 : decode cX3_isHost 4 = .ok (.iload_n 3, 1) := by decide +kernel
theorem dX3_isHost_5 : decode cX3_isHost 5 = .ok (.bipush 8, 2) := by decide +kernel
theorem dX3_isHost_7 : decode cX3_isHost 7 = .ok (.if_icmp .ge 29, 3) := by decide +kernel
theorem dX3_isHost_10 : decode cX3_isHost 10 = .ok (.iload_n 2, 1) := by decide +kernel
theorem dX3_isHost_11 : decode cX3_isHost 11 = .ok (.ifCond .ne 13, 3) := by decide +kernel
theorem dX3_isHost_14 : decode cX3_isHost 14 = .ok (.aload_n 0, 1) := by decide +kernel
theorem dX3_isHost_15 : decode cX3_isHost 15 = .ok (.getfield 13, 3) := by decide +kernel
theorem dX3_isHost_18 : decode cX3_isHost 18 = .ok (.iload_n 3, 1) := by decide +kernel
theorem dX3_isHost_19 : decode cX3_isHost 19 = .ok (.iaload, 1) := by decide +kernel
theorem dX3_isHost_20 : decode cX3_isHost 20 = .ok (.iload_n 1, 1) := by decide +kernel
theorem dX3_isHost_21 : decode cX3_isHost 21 = .ok (.if_icmp .ne 7, 3) := by decide +kernel
theorem dX3_isHost_24 : decode cX3_isHost 24 = .ok (.iconst 1, 1) := by decide +kernel
theorem dX3_isHost_25 : decode cX3_isHost 25 = .ok (.goto 4, 3) := by decide +kernel
theorem dX3_isHost_28 : decode cX3_isHost 28 = .ok (.iconst 0, 1) := by decide +kernel
theorem dX3_isHost_29 : decode cX3_isHost 29 = .ok (.istore_n 2, 1) := by decide +kernel
theorem dX3_isHost_30 : decode cX3_isHost 30 = .ok (.iinc 3 1, 3) := by decide +kernel
theorem dX3_isHost_33 : decode cX3_isHost 33 = .ok (.goto (-29), 3) := by decide +kernel
theorem dX3_isHost_36 : decode cX3_isHost 36 = .ok (.iload_n 2, 1) := by decide +kernel
theorem dX3_isHost_37 : decode cX3_isHost 37 = .ok (.ireturn, 1) := by decide +kernel
set_option maxRecDepth 20000 in
theorem ggX3_refuses_X3_isMachine : GoodIn wsX3_refuses wsX3_isMachine := goodIn_r _ [5, 6, 7, 4, 8] (by decide +kernel) (by decide +kernel)
set_option maxRecDepth 20000 in
theorem gX3_refuses_X3_isMachine : GoodIn wsX3_refuses (va_wsS RX3 67 yX3_isMachine wsX3_isMachine) := goodIn_app (goodIn_of _ (by decide +kernel)) ggX3_refuses_X3_isMachine
set_option maxRecDepth 20000 in
theorem ggX3_refuses_X3_isHost : GoodIn wsX3_refuses wsX3_isHost := goodIn_r _ [12, 1, 13, 14, 15, 16, 17, 18, 19, 20, 21, 22, 23, 24, 25, 26, 27, 28, 29, 30, 31] (by decide +kernel) (by decide +kernel)
set_option maxRecDepth 20000 in
theorem gX3_refuses_X3_isHost : GoodIn wsX3_refuses (wsV RX3 75 RX3 yX3_isHost wsX3_isHost) := goodIn_app (goodIn_of _ (by decide +kernel)) ggX3_refuses_X3_isHost
theorem dX3_refuses_0 : decode cX3_refuses 0 = .ok (.iload_n 1, 1) := by decide +kernel
theorem dX3_refuses_1 : decode cX3_refuses 1 = .ok (.invokestatic 67, 3) := by decide +kernel
theorem dX3_refuses_4 : decode cX3_refuses 4 = .ok (.ifCond .eq 15, 3) := by decide +kernel
theorem dX3_refuses_7 : decode cX3_refuses 7 = .ok (.iload_n 2, 1) := by decide +kernel
theorem dX3_refuses_8 : decode cX3_refuses 8 = .ok (.iconst (-1), 1) := by decide +kernel
theorem dX3_refuses_9 : decode cX3_refuses 9 = .ok (.if_icmp .eq 12, 3) := by decide +kernel
theorem dX3_refuses_12 : decode cX3_refuses 12 = .ok (.iload_n 2, 1) := by decide +kernel
theorem dX3_refuses_13 : decode cX3_refuses 13 = .ok (.invokestatic 67, 3) := by decide +kernel
theorem dX3_refuses_16 : decode cX3_refuses 16 = .ok (.ifCond .ne 5, 3) := by decide +kernel
theorem dX3_refuses_19 : decode cX3_refuses 19 = .ok (.iconst 1, 1) := by decide +kernel
theorem dX3_refuses_20 : decode cX3_refuses 20 = .ok (.ireturn, 1) := by decide +kernel
theorem dX3_refuses_21 : decode cX3_refuses 21 = .ok (.iload_n 1, 1) := by decide +kernel
theorem dX3_refuses_22 : decode cX3_refuses 22 = .ok (.iload_n 2, 1) := by decide +kernel
theorem dX3_refuses_23 : decode cX3_refuses 23 = .ok (.if_icmp .ne 5, 3) := by decide +kernel
theorem dX3_refuses_26 : decode cX3_refuses 26 = .ok (.iconst 2, 1) := by decide +kernel
theorem dX3_refuses_27 : decode cX3_refuses 27 = .ok (.ireturn, 1) := by decide +kernel
theorem dX3_refuses_28 : decode cX3_refuses 28 = .ok (.iload_n 2, 1) := by decide +kernel
theorem dX3_refuses_29 : decode cX3_refuses 29 = .ok (.iconst (-1), 1) := by decide +kernel
theorem dX3_refuses_30 : decode cX3_refuses 30 = .ok (.if_icmp .eq 25, 3) := by decide +kernel
theorem dX3_refuses_33 : decode cX3_refuses 33 = .ok (.aload_n 0, 1) := by decide +kernel
theorem dX3_refuses_34 : decode cX3_refuses 34 = .ok (.iload_n 1, 1) := by decide +kernel
theorem dX3_refuses_35 : decode cX3_refuses 35 = .ok (.invokevirtual 75, 3) := by decide +kernel
theorem dX3_refuses_38 : decode cX3_refuses 38 = .ok (.ifCond .ne 13, 3) := by decide +kernel
theorem dX3_refuses_41 : decode cX3_refuses 41 = .ok (.aload_n 0, 1) := by decide +kernel
theorem dX3_refuses_42 : decode cX3_refuses 42 = .ok (.getfield 13, 3) := by decide +kernel
theorem dX3_refuses_45 : decode cX3_refuses 45 = .ok (.iload_n 2, 1) := by decide +kernel
theorem dX3_refuses_46 : decode cX3_refuses 46 = .ok (.iaload, 1) := by decide +kernel
theorem dX3_refuses_47 : decode cX3_refuses 47 = .ok (.iconst (-1), 1) := by decide +kernel
theorem dX3_refuses_48 : decode cX3_refuses 48 = .ok (.if_icmp .eq 7, 3) := by decide +kernel
theorem dX3_refuses_51 : decode cX3_refuses 51 = .ok (.iconst 3, 1) := by decide +kernel
theorem dX3_refuses_52 : decode cX3_refuses 52 = .ok (.goto 4, 3) := by decide +kernel
theorem dX3_refuses_55 : decode cX3_refuses 55 = .ok (.iconst 0, 1) := by decide +kernel
theorem dX3_refuses_56 : decode cX3_refuses 56 = .ok (.ireturn, 1) := by decide +kernel
set_option maxRecDepth 20000 in
theorem ggX3_move_X3_refuses : GoodIn wsX3_move wsX3_refuses := goodIn_r _ [7, 2, 8, 9, 6, 10, 11, 12, 13, 14, 15, 16, 17, 18, 19, 20, 21, 22, 23, 24, 25, 26, 27, 28, 29, 30, 31, 32, 33, 34, 35, 36] (by decide +kernel) (by decide +kernel)
set_option maxRecDepth 20000 in
theorem gX3_move_X3_refuses : GoodIn wsX3_move (wsV RX3 78 RX3 yX3_refuses wsX3_refuses) := goodIn_app (goodIn_of _ (by decide +kernel)) ggX3_move_X3_refuses
theorem dX3_move_0 : decode cX3_move 0 = .ok (.aload_n 0, 1) := by decide +kernel
theorem dX3_move_1 : decode cX3_move 1 = .ok (.aload_n 0, 1) := by decide +kernel
theorem dX3_move_2 : decode cX3_move 2 = .ok (.iload_n 1, 1) := by decide +kernel
theorem dX3_move_3 : decode cX3_move 3 = .ok (.iload_n 2, 1) := by decide +kernel
theorem dX3_move_4 : decode cX3_move 4 = .ok (.invokevirtual 78, 3) := by decide +kernel
theorem dX3_move_7 : decode cX3_move 7 = .ok (.putfield 56, 3) := by decide +kernel
theorem dX3_move_10 : decode cX3_move 10 = .ok (.aload_n 0, 1) := by decide +kernel
theorem dX3_move_11 : decode cX3_move 11 = .ok (.getfield 56, 3) := by decide +kernel
theorem dX3_move_14 : decode cX3_move 14 = .ok (.ifCond .le 5, 3) := by decide +kernel
theorem dX3_move_17 : decode cX3_move 17 = .ok (.iconst 0, 1) := by decide +kernel
theorem dX3_move_18 : decode cX3_move 18 = .ok (.ireturn, 1) := by decide +kernel
theorem dX3_move_19 : decode cX3_move 19 = .ok (.aload_n 0, 1) := by decide +kernel
theorem dX3_move_20 : decode cX3_move 20 = .ok (.getfield 13, 3) := by decide +kernel
theorem dX3_move_23 : decode cX3_move 23 = .ok (.iload_n 1, 1) := by decide +kernel
theorem dX3_move_24 : decode cX3_move 24 = .ok (.iaload, 1) := by decide +kernel
theorem dX3_move_25 : decode cX3_move 25 = .ok (.istore_n 3, 1) := by decide +kernel
theorem dX3_move_26 : decode cX3_move 26 = .ok (.aload_n 0, 1) := by decide +kernel
theorem dX3_move_27 : decode cX3_move 27 = .ok (.getfield 13, 3) := by decide +kernel
theorem dX3_move_30 : decode cX3_move 30 = .ok (.iload_n 1, 1) := by decide +kernel
theorem dX3_move_31 : decode cX3_move 31 = .ok (.iload_n 2, 1) := by decide +kernel
theorem dX3_move_32 : decode cX3_move 32 = .ok (.iastore, 1) := by decide +kernel
theorem dX3_move_33 : decode cX3_move 33 = .ok (.iload_n 3, 1) := by decide +kernel
theorem dX3_move_34 : decode cX3_move 34 = .ok (.ireturn, 1) := by decide +kernel
set_option maxRecDepth 20000 in
theorem ggX3_find_X3_isMachine : GoodIn wsX3_find wsX3_isMachine := goodIn_r _ [7, 8, 9, 6, 10] (by decide +kernel) (by decide +kernel)
set_option maxRecDepth 20000 in
theorem gX3_find_X3_isMachine : GoodIn wsX3_find (va_wsS RX3 67 yX3_isMachine wsX3_isMachine) := goodIn_app (goodIn_of _ (by decide +kernel)) ggX3_find_X3_isMachine
set_option maxRecDepth 20000 in
theorem ggX3_find_X3_isProduct : GoodIn wsX3_find wsX3_isProduct := goodIn_r _ [13, 8, 9, 6, 10] (by decide +kernel) (by decide +kernel)
set_option maxRecDepth 20000 in
theorem gX3_find_X3_isProduct : GoodIn wsX3_find (va_wsS RX3 82 yX3_isProduct wsX3_isProduct) := goodIn_app (goodIn_of _ (by decide +kernel)) ggX3_find_X3_isProduct
set_option maxRecDepth 20000 in
theorem ggX3_find_X3_fails : GoodIn wsX3_find wsX3_fails := goodIn_r _ [17, 1, 18, 19, 20, 21, 22, 23, 24, 25, 26, 27, 28, 29, 30, 31, 32, 33, 34, 35, 36] (by decide +kernel) (by decide +kernel)
set_option maxRecDepth 20000 in
theorem gX3_find_X3_fails : GoodIn wsX3_find (wsV RX3 71 RX3 yX3_fails wsX3_fails) := goodIn_app (goodIn_of _ (by decide +kernel)) ggX3_find_X3_fails
set_option maxRecDepth 20000 in
theorem ggX3_find_X3_in : GoodIn wsX3_find wsX3_in := goodIn_r _ [10] (by decide +kernel) (by decide +kernel)
set_option maxRecDepth 20000 in
theorem gX3_find_X3_in : GoodIn wsX3_find (va_wsS RX3 60 yX3_in wsX3_in) := goodIn_app (goodIn_of _ (by decide +kernel)) ggX3_find_X3_in
theorem dX3_find_0 : decode cX3_find 0 = .ok (.aload_n 0, 1) := by decide +kernel
theorem dX3_find_1 : decode cX3_find 1 = .ok (.iconst 0, 1) := by decide +kernel
theorem dX3_find_2 : decode cX3_find 2 = .ok (.putfield 56, 3) := by decide +kernel
theorem dX3_find_5 : decode cX3_find 5 = .ok (.iload_n 1, 1) := by decide +kernel
theorem dX3_find_6 : decode cX3_find 6 = .ok (.invokestatic 67, 3) := by decide +kernel
theorem dX3_find_9 : decode cX3_find 9 = .ok (.ifCond .eq 10, 3) := by decide +kernel
theorem dX3_find_12 : decode cX3_find 12 = .ok (.iload_n 2, 1) := by decide +kernel
theorem dX3_find_13 : decode cX3_find 13 = .ok (.invokestatic 82, 3) := by decide +kernel
theorem dX3_find_16 : decode cX3_find 16 = .ok (.ifCond .ne 9, 3) := by decide +kernel
theorem dX3_find_19 : decode cX3_find 19 = .ok (.aload_n 0, 1) := by decide +kernel
theorem dX3_find_20 : decode cX3_find 20 = .ok (.iconst 1, 1) := by decide +kernel
theorem dX3_find_21 : decode cX3_find 21 = .ok (.invokevirtual 71, 3) := by decide +kernel
theorem dX3_find_24 : decode cX3_find 24 = .ok (.ireturn, 1) := by decide +kernel
theorem dX3_find_25 : decode cX3_find 25 = .ok (.iload_n 3, 1) := by decide +kernel
theorem dX3_find_26 : decode cX3_find 26 = .ok (.iconst 0, 1) := by decide +kernel
theorem dX3_find_27 : decode cX3_find 27 = .ok (.aload_n 0, 1) := by decide +kernel
theorem dX3_find_28 : decode cX3_find 28 = .ok (.getfield 19, 3) := by decide +kernel
theorem dX3_find_31 : decode cX3_find 31 = .ok (.iload_n 2, 1) := by decide +kernel
theorem dX3_find_32 : decode cX3_find 32 = .ok (.iaload, 1) := by decide +kernel
theorem dX3_find_33 : decode cX3_find 33 = .ok (.invokestatic 60, 3) := by decide +kernel
theorem dX3_find_36 : decode cX3_find 36 = .ok (.ifCond .ne 9, 3) := by decide +kernel
theorem dX3_find_39 : decode cX3_find 39 = .ok (.aload_n 0, 1) := by decide +kernel
theorem dX3_find_40 : decode cX3_find 40 = .ok (.iconst 2, 1) := by decide +kernel
theorem dX3_find_41 : decode cX3_find 41 = .ok (.invokevirtual 71, 3) := by decide +kernel
theorem dX3_find_44 : decode cX3_find 44 = .ok (.ireturn, 1) := by decide +kernel
theorem dX3_find_45 : decode cX3_find 45 = .ok (.aload_n 0, 1) := by decide +kernel
theorem dX3_find_46 : decode cX3_find 46 = .ok (.getfield 16, 3) := by decide +kernel
theorem dX3_find_49 : decode cX3_find 49 = .ok (.iconst 4, 1) := by decide +kernel
theorem dX3_find_50 : decode cX3_find 50 = .ok (.iload_n 1, 1) := by decide +kernel
theorem dX3_find_51 : decode cX3_find 51 = .ok (.imul, 1) := by decide +kernel
theorem dX3_find_52 : decode cX3_find 52 = .ok (.iload_n 2, 1) := by decide +kernel
theorem dX3_find_53 : decode cX3_find 53 = .ok (.iadd, 1) := by decide +kernel
theorem dX3_find_54 : decode cX3_find 54 = .ok (.iaload, 1) := by decide +kernel
theorem dX3_find_55 : decode cX3_find 55 = .ok (.istore 4, 2) := by decide +kernel
theorem dX3_find_57 : decode cX3_find 57 = .ok (.aload_n 0, 1) := by decide +kernel
theorem dX3_find_58 : decode cX3_find 58 = .ok (.getfield 16, 3) := by decide +kernel
theorem dX3_find_61 : decode cX3_find 61 = .ok (.iconst 4, 1) := by decide +kernel
theorem dX3_find_62 : decode cX3_find 62 = .ok (.iload_n 1, 1) := by decide +kernel
theorem dX3_find_63 : decode cX3_find 63 = .ok (.imul, 1) := by decide +kernel
theorem dX3_find_64 : decode cX3_find 64 = .ok (.iload_n 2, 1) := by decide +kernel
theorem dX3_find_65 : decode cX3_find 65 = .ok (.iadd, 1) := by decide +kernel
theorem dX3_find_66 : decode cX3_find 66 = .ok (.iload_n 3, 1) := by decide +kernel
theorem dX3_find_67 : decode cX3_find 67 = .ok (.iastore, 1) := by decide +kernel
theorem dX3_find_68 : decode cX3_find 68 = .ok (.iload 4, 2) := by decide +kernel
theorem dX3_find_70 : decode cX3_find 70 = .ok (.ireturn, 1) := by decide +kernel
set_option maxRecDepth 20000 in
theorem ggX3_setPrice_X3_isProduct : GoodIn wsX3_setPrice wsX3_isProduct := goodIn_r _ [6, 7, 8, 5, 9] (by decide +kernel) (by decide +kernel)
set_option maxRecDepth 20000 in
theorem gX3_setPrice_X3_isProduct : GoodIn wsX3_setPrice (va_wsS RX3 82 yX3_isProduct wsX3_isProduct) := goodIn_app (goodIn_of _ (by decide +kernel)) ggX3_setPrice_X3_isProduct
set_option maxRecDepth 20000 in
theorem ggX3_setPrice_X3_fails : GoodIn wsX3_setPrice wsX3_fails := goodIn_r _ [13, 1, 14, 15, 16, 17, 18, 19, 20, 21, 22, 23, 24, 25, 26, 27, 28, 29, 30, 31, 32] (by decide +kernel) (by decide +kernel)
set_option maxRecDepth 20000 in
theorem gX3_setPrice_X3_fails : GoodIn wsX3_setPrice (wsV RX3 71 RX3 yX3_fails wsX3_fails) := goodIn_app (goodIn_of _ (by decide +kernel)) ggX3_setPrice_X3_fails
set_option maxRecDepth 20000 in
theorem ggX3_setPrice_X3_in : GoodIn wsX3_setPrice wsX3_in := goodIn_r _ [9] (by decide +kernel) (by decide +kernel)
set_option maxRecDepth 20000 in
theorem gX3_setPrice_X3_in : GoodIn wsX3_setPrice (va_wsS RX3 60 yX3_in wsX3_in) := goodIn_app (goodIn_of _ (by decide +kernel)) ggX3_setPrice_X3_in
theorem dX3_setPrice_0 : decode cX3_setPrice 0 = .ok (.aload_n 0, 1) := by decide +kernel
theorem dX3_setPrice_1 : decode cX3_setPrice 1 = .ok (.iconst 0, 1) := by decide +kernel
theorem dX3_setPrice_2 : decode cX3_setPrice 2 = .ok (.putfield 56, 3) := by decide +kernel
theorem dX3_setPrice_5 : decode cX3_setPrice 5 = .ok (.iload_n 1, 1) := by decide +kernel
theorem dX3_setPrice_6 : decode cX3_setPrice 6 = .ok (.invokestatic 82, 3) := by decide +kernel
theorem dX3_setPrice_9 : decode cX3_setPrice 9 = .ok (.ifCond .ne 9, 3) := by decide +kernel
theorem dX3_setPrice_12 : decode cX3_setPrice 12 = .ok (.aload_n 0, 1) := by decide +kernel
theorem dX3_setPrice_13 : decode cX3_setPrice 13 = .ok (.iconst 1, 1) := by decide +kernel
theorem dX3_setPrice_14 : decode cX3_setPrice 14 = .ok (.invokevirtual 71, 3) := by decide +kernel
theorem dX3_setPrice_17 : decode cX3_setPrice 17 = .ok (.ireturn, 1) := by decide +kernel
theorem dX3_setPrice_18 : decode cX3_setPrice 18 = .ok (.iload_n 2, 1) := by decide +kernel
theorem dX3_setPrice_19 : decode cX3_setPrice 19 = .ok (.iconst 0, 1) := by decide +kernel
theorem dX3_setPrice_20 : decode cX3_setPrice 20 = .ok (.sipush 1000, 3) := by decide +kernel
theorem dX3_setPrice_23 : decode cX3_setPrice 23 = .ok (.invokestatic 60, 3) := by decide +kernel
theorem dX3_setPrice_26 : decode cX3_setPrice 26 = .ok (.ifCond .ne 9, 3) := by decide +kernel
theorem dX3_setPrice_29 : decode cX3_setPrice 29 = .ok (.aload_n 0, 1) := by decide +kernel
theorem dX3_setPrice_30 : decode cX3_setPrice 30 = .ok (.iconst 2, 1) := by decide +kernel
theorem dX3_setPrice_31 : decode cX3_setPrice 31 = .ok (.invokevirtual 71, 3) := by decide +kernel
theorem dX3_setPrice_34 : decode cX3_setPrice 34 = .ok (.ireturn, 1) := by decide +kernel
theorem dX3_setPrice_35 : decode cX3_setPrice 35 = .ok (.aload_n 0, 1) := by decide +kernel
theorem dX3_setPrice_36 : decode cX3_setPrice 36 = .ok (.getfield 22, 3) := by decide +kernel
theorem dX3_setPrice_39 : decode cX3_setPrice 39 = .ok (.iload_n 1, 1) := by decide +kernel
theorem dX3_setPrice_40 : decode cX3_setPrice 40 = .ok (.iaload, 1) := by decide +kernel
theorem dX3_setPrice_41 : decode cX3_setPrice 41 = .ok (.istore_n 3, 1) := by decide +kernel
theorem dX3_setPrice_42 : decode cX3_setPrice 42 = .ok (.aload_n 0, 1) := by decide +kernel
theorem dX3_setPrice_43 : decode cX3_setPrice 43 = .ok (.getfield 22, 3) := by decide +kernel
theorem dX3_setPrice_46 : decode cX3_setPrice 46 = .ok (.iload_n 1, 1) := by decide +kernel
theorem dX3_setPrice_47 : decode cX3_setPrice 47 = .ok (.iload_n 2, 1) := by decide +kernel
theorem dX3_setPrice_48 : decode cX3_setPrice 48 = .ok (.iastore, 1) := by decide +kernel
theorem dX3_setPrice_49 : decode cX3_setPrice 49 = .ok (.iload_n 3, 1) := by decide +kernel
theorem dX3_setPrice_50 : decode cX3_setPrice 50 = .ok (.ireturn, 1) := by decide +kernel
set_option maxRecDepth 20000 in
theorem ggX3_release_X3_isProduct : GoodIn wsX3_release wsX3_isProduct := goodIn_r _ [11, 12, 13, 10, 14] (by decide +kernel) (by decide +kernel)
set_option maxRecDepth 20000 in
theorem gX3_release_X3_isProduct : GoodIn wsX3_release (va_wsS RX3 82 yX3_isProduct wsX3_isProduct) := goodIn_app (goodIn_of _ (by decide +kernel)) ggX3_release_X3_isProduct
set_option maxRecDepth 20000 in
theorem ggX3_release_X3_fails : GoodIn wsX3_release wsX3_fails := goodIn_r _ [18, 1, 19, 20, 21, 22, 23, 24, 25, 26, 27, 28, 29, 30, 31, 32, 33, 34, 35, 36, 37] (by decide +kernel) (by decide +kernel)
set_option maxRecDepth 20000 in
theorem gX3_release_X3_fails : GoodIn wsX3_release (wsV RX3 71 RX3 yX3_fails wsX3_fails) := goodIn_app (goodIn_of _ (by decide +kernel)) ggX3_release_X3_fails
theorem dX3_release_0 : decode cX3_release 0 = .ok (.aload_n 0, 1) := by decide +kernel
theorem dX3_release_1 : decode cX3_release 1 = .ok (.iconst 0, 1) := by decide +kernel
theorem dX3_release_2 : decode cX3_release 2 = .ok (.putfield 56, 3) := by decide +kernel
theorem dX3_release_5 : decode cX3_release 5 = .ok (.iload_n 1, 1) := by decide +kernel
theorem dX3_release_6 : decode cX3_release 6 = .ok (.invokestatic 82, 3) := by decide +kernel
theorem dX3_release_9 : decode cX3_release 9 = .ok (.ifCond .ne 9, 3) := by decide +kernel
theorem dX3_release_12 : decode cX3_release 12 = .ok (.aload_n 0, 1) := by decide +kernel
theorem dX3_release_13 : decode cX3_release 13 = .ok (.iconst 1, 1) := by decide +kernel
theorem dX3_release_14 : decode cX3_release 14 = .ok (.invokevirtual 71, 3) := by decide +kernel
theorem dX3_release_17 : decode cX3_release 17 = .ok (.ireturn, 1) := by decide +kernel
theorem dX3_release_18 : decode cX3_release 18 = .ok (.aload_n 0, 1) := by decide +kernel
theorem dX3_release_19 : decode cX3_release 19 = .ok (.getfield 19, 3) := by decide +kernel
theorem dX3_release_22 : decode cX3_release 22 = .ok (.iload_n 1, 1) := by decide +kernel
theorem dX3_release_23 : decode cX3_release 23 = .ok (.iaload, 1) := by decide +kernel
theorem dX3_release_24 : decode cX3_release 24 = .ok (.bipush 9, 2) := by decide +kernel
theorem dX3_release_26 : decode cX3_release 26 = .ok (.if_icmp .ne 9, 3) := by decide +kernel
theorem dX3_release_29 : decode cX3_release 29 = .ok (.aload_n 0, 1) := by decide +kernel
theorem dX3_release_30 : decode cX3_release 30 = .ok (.iconst 2, 1) := by decide +kernel
theorem dX3_release_31 : decode cX3_release 31 = .ok (.invokevirtual 71, 3) := by decide +kernel
theorem dX3_release_34 : decode cX3_release 34 = .ok (.ireturn, 1) := by decide +kernel
theorem dX3_release_35 : decode cX3_release 35 = .ok (.iconst 0, 1) := by decide +kernel
theorem dX3_release_36 : decode cX3_release 36 = .ok (.istore_n 2, 1) := by decide +kernel
theorem dX3_release_37 : decode cX3_release 37 = .ok (.iconst 0, 1) := by decide +kernel
theorem dX3_release_38 : decode cX3_release 38 = .ok (.istore_n 3, 1) := by decide +kernel
theorem dX3_release_39 : decode cX3_release 39 = .ok (.iload_n 3, 1) := by decide +kernel
theorem dX3_release_40 : decode cX3_release 40 = .ok (.aload_n 0, 1) := by decide +kernel
theorem dX3_release_41 : decode cX3_release 41 = .ok (.getfield 64, 3) := by decide +kernel
theorem dX3_release_44 : decode cX3_release 44 = .ok (.if_icmp .ge 60, 3) := by decide +kernel
theorem dX3_release_47 : decode cX3_release 47 = .ok (.aload_n 0, 1) := by decide +kernel
theorem dX3_release_48 : decode cX3_release 48 = .ok (.getfield 25, 3) := by decide +kernel
theorem dX3_release_51 : decode cX3_release 51 = .ok (.iload_n 3, 1) := by decide +kernel
theorem dX3_release_52 : decode cX3_release 52 = .ok (.iaload, 1) := by decide +kernel
theorem dX3_release_53 : decode cX3_release 53 = .ok (.iload_n 1, 1) := by decide +kernel
theorem dX3_release_54 : decode cX3_release 54 = .ok (.if_icmp .ne 44, 3) := by decide +kernel
theorem dX3_release_57 : decode cX3_release 57 = .ok (.aload_n 0, 1) := by decide +kernel
theorem dX3_release_58 : decode cX3_release 58 = .ok (.getfield 40, 3) := by decide +kernel
theorem dX3_release_61 : decode cX3_release 61 = .ok (.iload_n 3, 1) := by decide +kernel
theorem dX3_release_62 : decode cX3_release 62 = .ok (.iaload, 1) := by decide +kernel
theorem dX3_release_63 : decode cX3_release 63 = .ok (.aload_n 0, 1) := by decide +kernel
theorem dX3_release_64 : decode cX3_release 64 = .ok (.getfield 85, 3) := by decide +kernel
theorem dX3_release_67 : decode cX3_release 67 = .ok (.if_icmp .lt 31, 3) := by decide +kernel
theorem dX3_release_70 : decode cX3_release 70 = .ok (.aload_n 0, 1) := by decide +kernel
theorem dX3_release_71 : decode cX3_release 71 = .ok (.getfield 37, 3) := by decide +kernel
theorem dX3_release_74 : decode cX3_release 74 = .ok (.iload_n 3, 1) := by decide +kernel
theorem dX3_release_75 : decode cX3_release 75 = .ok (.iaload, 1) := by decide +kernel
theorem dX3_release_76 : decode cX3_release 76 = .ok (.aload_n 0, 1) := by decide +kernel
theorem dX3_release_77 : decode cX3_release 77 = .ok (.getfield 19, 3) := by decide +kernel
theorem dX3_release_80 : decode cX3_release 80 = .ok (.iload_n 1, 1) := by decide +kernel
theorem dX3_release_81 : decode cX3_release 81 = .ok (.iaload, 1) := by decide +kernel
theorem dX3_release_82 : decode cX3_release 82 = .ok (.if_icmp .ne 16, 3) := by decide +kernel
theorem dX3_release_85 : decode cX3_release 85 = .ok (.aload_n 0, 1) := by decide +kernel
theorem dX3_release_86 : decode cX3_release 86 = .ok (.getfield 37, 3) := by decide +kernel
theorem dX3_release_89 : decode cX3_release 89 = .ok (.iload_n 3, 1) := by decide +kernel
theorem dX3_release_90 : decode cX3_release 90 = .ok (.dup2, 1) := by decide +kernel
theorem dX3_release_91 : decode cX3_release 91 = .ok (.iaload, 1) := by decide +kernel
theorem dX3_release_92 : decode cX3_release 92 = .ok (.iconst 1, 1) := by decide +kernel
theorem dX3_release_93 : decode cX3_release 93 = .ok (.iadd, 1) := by decide +kernel
theorem dX3_release_94 : decode cX3_release 94 = .ok (.iastore, 1) := by decide +kernel
theorem dX3_release_95 : decode cX3_release 95 = .ok (.iinc 2 1, 3) := by decide +kernel
theorem dX3_release_98 : decode cX3_release 98 = .ok (.iinc 3 1, 3) := by decide +kernel
theorem dX3_release_101 : decode cX3_release 101 = .ok (.goto (-62), 3) := by decide +kernel
theorem dX3_release_104 : decode cX3_release 104 = .ok (.aload_n 0, 1) := by decide +kernel
theorem dX3_release_105 : decode cX3_release 105 = .ok (.getfield 19, 3) := by decide +kernel
theorem dX3_release_108 : decode cX3_release 108 = .ok (.iload_n 1, 1) := by decide +kernel
theorem dX3_release_109 : decode cX3_release 109 = .ok (.dup2, 1) := by decide +kernel
theorem dX3_release_110 : decode cX3_release 110 = .ok (.iaload, 1) := by decide +kernel
theorem dX3_release_111 : decode cX3_release 111 = .ok (.iconst 1, 1) := by decide +kernel
theorem dX3_release_112 : decode cX3_release 112 = .ok (.iadd, 1) := by decide +kernel
theorem dX3_release_113 : decode cX3_release 113 = .ok (.iastore, 1) := by decide +kernel
theorem dX3_release_114 : decode cX3_release 114 = .ok (.iload_n 2, 1) := by decide +kernel
theorem dX3_release_115 : decode cX3_release 115 = .ok (.ireturn, 1) := by decide +kernel
theorem dX3_lays_0 : decode cX3_lays 0 = .ok (.aload_n 0, 1) := by decide +kernel
theorem dX3_lays_1 : decode cX3_lays 1 = .ok (.getfield 25, 3) := by decide +kernel
theorem dX3_lays_4 : decode cX3_lays 4 = .ok (.aload_n 0, 1) := by decide +kernel
theorem dX3_lays_5 : decode cX3_lays 5 = .ok (.getfield 64, 3) := by decide +kernel
theorem dX3_lays_8 : decode cX3_lays 8 = .ok (.iload_n 1, 1) := by decide +kernel
theorem dX3_lays_9 : decode cX3_lays 9 = .ok (.iastore, 1) := by decide +kernel
theorem dX3_lays_10 : decode cX3_lays 10 = .ok (.aload_n 0, 1) := by decide +kernel
theorem dX3_lays_11 : decode cX3_lays 11 = .ok (.getfield 28, 3) := by decide +kernel
theorem dX3_lays_14 : decode cX3_lays 14 = .ok (.aload_n 0, 1) := by decide +kernel
theorem dX3_lays_15 : decode cX3_lays 15 = .ok (.getfield 64, 3) := by decide +kernel
theorem dX3_lays_18 : decode cX3_lays 18 = .ok (.iload_n 2, 1) := by decide +kernel
theorem dX3_lays_19 : decode cX3_lays 19 = .ok (.iastore, 1) := by decide +kernel
theorem dX3_lays_20 : decode cX3_lays 20 = .ok (.aload_n 0, 1) := by decide +kernel
theorem dX3_lays_21 : decode cX3_lays 21 = .ok (.getfield 31, 3) := by decide +kernel
theorem dX3_lays_24 : decode cX3_lays 24 = .ok (.aload_n 0, 1) := by decide +kernel
theorem dX3_lays_25 : decode cX3_lays 25 = .ok (.getfield 64, 3) := by decide +kernel
theorem dX3_lays_28 : decode cX3_lays 28 = .ok (.iload_n 3, 1) := by decide +kernel
theorem dX3_lays_29 : decode cX3_lays 29 = .ok (.iastore, 1) := by decide +kernel
theorem dX3_lays_30 : decode cX3_lays 30 = .ok (.aload_n 0, 1) := by decide +kernel
theorem dX3_lays_31 : decode cX3_lays 31 = .ok (.getfield 40, 3) := by decide +kernel
theorem dX3_lays_34 : decode cX3_lays 34 = .ok (.aload_n 0, 1) := by decide +kernel
theorem dX3_lays_35 : decode cX3_lays 35 = .ok (.getfield 64, 3) := by decide +kernel
theorem dX3_lays_38 : decode cX3_lays 38 = .ok (.iload 4, 2) := by decide +kernel
theorem dX3_lays_40 : decode cX3_lays 40 = .ok (.iastore, 1) := by decide +kernel
theorem dX3_lays_41 : decode cX3_lays 41 = .ok (.aload_n 0, 1) := by decide +kernel
theorem dX3_lays_42 : decode cX3_lays 42 = .ok (.getfield 37, 3) := by decide +kernel
theorem dX3_lays_45 : decode cX3_lays 45 = .ok (.aload_n 0, 1) := by decide +kernel
theorem dX3_lays_46 : decode cX3_lays 46 = .ok (.getfield 64, 3) := by decide +kernel
theorem dX3_lays_49 : decode cX3_lays 49 = .ok (.aload_n 0, 1) := by decide +kernel
theorem dX3_lays_50 : decode cX3_lays 50 = .ok (.getfield 19, 3) := by decide +kernel
theorem dX3_lays_53 : decode cX3_lays 53 = .ok (.iload_n 1, 1) := by decide +kernel
theorem dX3_lays_54 : decode cX3_lays 54 = .ok (.iaload, 1) := by decide +kernel
theorem dX3_lays_55 : decode cX3_lays 55 = .ok (.iastore, 1) := by decide +kernel
theorem dX3_lays_56 : decode cX3_lays 56 = .ok (.aload_n 0, 1) := by decide +kernel
theorem dX3_lays_57 : decode cX3_lays 57 = .ok (.dup, 1) := by decide +kernel
theorem dX3_lays_58 : decode cX3_lays 58 = .ok (.getfield 64, 3) := by decide +kernel
theorem dX3_lays_61 : decode cX3_lays 61 = .ok (.iconst 1, 1) := by decide +kernel
theorem dX3_lays_62 : decode cX3_lays 62 = .ok (.iadd, 1) := by decide +kernel
theorem dX3_lays_63 : decode cX3_lays 63 = .ok (.putfield 64, 3) := by decide +kernel
theorem dX3_lays_66 : decode cX3_lays 66 = .ok (.aload_n 0, 1) := by decide +kernel
theorem dX3_lays_67 : decode cX3_lays 67 = .ok (.getfield 64, 3) := by decide +kernel
theorem dX3_lays_70 : decode cX3_lays 70 = .ok (.iconst 1, 1) := by decide +kernel
theorem dX3_lays_71 : decode cX3_lays 71 = .ok (.isub, 1) := by decide +kernel
theorem dX3_lays_72 : decode cX3_lays 72 = .ok (.ireturn, 1) := by decide +kernel
set_option maxRecDepth 20000 in
theorem ggX3_buy_X3_isProduct : GoodIn wsX3_buy wsX3_isProduct := goodIn_r _ [7, 8, 9, 6, 10] (by decide +kernel) (by decide +kernel)
set_option maxRecDepth 20000 in
theorem gX3_buy_X3_isProduct : GoodIn wsX3_buy (va_wsS RX3 82 yX3_isProduct wsX3_isProduct) := goodIn_app (goodIn_of _ (by decide +kernel)) ggX3_buy_X3_isProduct
set_option maxRecDepth 20000 in
theorem ggX3_buy_X3_fails : GoodIn wsX3_buy wsX3_fails := goodIn_r _ [14, 1, 25, 26, 27, 28, 29, 30, 31, 32, 33, 34, 35, 36, 37, 38, 39, 40, 41, 42, 43] (by decide +kernel) (by decide +kernel)
set_option maxRecDepth 20000 in
theorem gX3_buy_X3_fails : GoodIn wsX3_buy (wsV RX3 71 RX3 yX3_fails wsX3_fails) := goodIn_app (goodIn_of _ (by decide +kernel)) ggX3_buy_X3_fails
set_option maxRecDepth 20000 in
theorem ggX3_buy_X3_in : GoodIn wsX3_buy wsX3_in := goodIn_r _ [10] (by decide +kernel) (by decide +kernel)
set_option maxRecDepth 20000 in
theorem gX3_buy_X3_in : GoodIn wsX3_buy (va_wsS RX3 60 yX3_in wsX3_in) := goodIn_app (goodIn_of _ (by decide +kernel)) ggX3_buy_X3_in
set_option maxRecDepth 20000 in
theorem ggX3_buy_X3_lays : GoodIn wsX3_buy wsX3_lays := goodIn_r _ [18, 19, 2, 20, 21, 22, 23, 24, 25, 26, 27, 28, 29, 30, 31, 32, 33, 34, 35, 36, 37, 38, 39, 40, 41, 42, 43] (by decide +kernel) (by decide +kernel)
set_option maxRecDepth 20000 in
theorem gX3_buy_X3_lays : GoodIn wsX3_buy (wsV RX3 88 RX3 yX3_lays wsX3_lays) := goodIn_app (goodIn_of _ (by decide +kernel)) ggX3_buy_X3_lays
theorem dX3_buy_0 : decode cX3_buy 0 = .ok (.aload_n 0, 1) := by decide +kernel
theorem dX3_buy_1 : decode cX3_buy 1 = .ok (.iconst 0, 1) := by decide +kernel
theorem dX3_buy_2 : decode cX3_buy 2 = .ok (.putfield 56, 3) := by decide +kernel
theorem dX3_buy_5 : decode cX3_buy 5 = .ok (.iload_n 1, 1) := by decide +kernel
theorem dX3_buy_6 : decode cX3_buy 6 = .ok (.invokestatic 82, 3) := by decide +kernel
theorem dX3_buy_9 : decode cX3_buy 9 = .ok (.ifCond .ne 9, 3) := by decide +kernel
theorem dX3_buy_12 : decode cX3_buy 12 = .ok (.aload_n 0, 1) := by decide +kernel
theorem dX3_buy_13 : decode cX3_buy 13 = .ok (.iconst 1, 1) := by decide +kernel
theorem dX3_buy_14 : decode cX3_buy 14 = .ok (.invokevirtual 71, 3) := by decide +kernel
theorem dX3_buy_17 : decode cX3_buy 17 = .ok (.ireturn, 1) := by decide +kernel
theorem dX3_buy_18 : decode cX3_buy 18 = .ok (.iload_n 2, 1) := by decide +kernel
theorem dX3_buy_19 : decode cX3_buy 19 = .ok (.iconst 0, 1) := by decide +kernel
theorem dX3_buy_20 : decode cX3_buy 20 = .ok (.iconst 1, 1) := by decide +kernel
theorem dX3_buy_21 : decode cX3_buy 21 = .ok (.invokestatic 60, 3) := by decide +kernel
theorem dX3_buy_24 : decode cX3_buy 24 = .ok (.ifCond .eq 26, 3) := by decide +kernel
theorem dX3_buy_27 : decode cX3_buy 27 = .ok (.iload_n 3, 1) := by decide +kernel
theorem dX3_buy_28 : decode cX3_buy 28 = .ok (.iconst 1, 1) := by decide +kernel
theorem dX3_buy_29 : decode cX3_buy 29 = .ok (.sipush 500, 3) := by decide +kernel
theorem dX3_buy_32 : decode cX3_buy 32 = .ok (.invokestatic 60, 3) := by decide +kernel
theorem dX3_buy_35 : decode cX3_buy 35 = .ok (.ifCond .eq 15, 3) := by decide +kernel
theorem dX3_buy_38 : decode cX3_buy 38 = .ok (.iload 4, 2) := by decide +kernel
theorem dX3_buy_40 : decode cX3_buy 40 = .ok (.iconst 0, 1) := by decide +kernel
theorem dX3_buy_41 : decode cX3_buy 41 = .ok (.sipush 1000, 3) := by decide +kernel
theorem dX3_buy_44 : decode cX3_buy 44 = .ok (.invokestatic 60, 3) := by decide +kernel
theorem dX3_buy_47 : decode cX3_buy 47 = .ok (.ifCond .ne 9, 3) := by decide +kernel
theorem dX3_buy_50 : decode cX3_buy 50 = .ok (.aload_n 0, 1) := by decide +kernel
theorem dX3_buy_51 : decode cX3_buy 51 = .ok (.iconst 2, 1) := by decide +kernel
theorem dX3_buy_52 : decode cX3_buy 52 = .ok (.invokevirtual 71, 3) := by decide +kernel
theorem dX3_buy_55 : decode cX3_buy 55 = .ok (.ireturn, 1) := by decide +kernel
theorem dX3_buy_56 : decode cX3_buy 56 = .ok (.aload_n 0, 1) := by decide +kernel
theorem dX3_buy_57 : decode cX3_buy 57 = .ok (.getfield 64, 3) := by decide +kernel
theorem dX3_buy_60 : decode cX3_buy 60 = .ok (.bipush 12, 2) := by decide +kernel
theorem dX3_buy_62 : decode cX3_buy 62 = .ok (.if_icmp .ne 11, 3) := by decide +kernel
theorem dX3_buy_65 : decode cX3_buy 65 = .ok (.aload_n 0, 1) := by decide +kernel
theorem dX3_buy_66 : decode cX3_buy 66 = .ok (.iconst 3, 1) := by decide +kernel
theorem dX3_buy_67 : decode cX3_buy 67 = .ok (.invokevirtual 71, 3) := by decide +kernel
theorem dX3_buy_70 : decode cX3_buy 70 = .ok (.goto 19, 3) := by decide +kernel
theorem dX3_buy_73 : decode cX3_buy 73 = .ok (.aload_n 0, 1) := by decide +kernel
theorem dX3_buy_74 : decode cX3_buy 74 = .ok (.iload_n 1, 1) := by decide +kernel
theorem dX3_buy_75 : decode cX3_buy 75 = .ok (.iload_n 2, 1) := by decide +kernel
theorem dX3_buy_76 : decode cX3_buy 76 = .ok (.iload_n 3, 1) := by decide +kernel
theorem dX3_buy_77 : decode cX3_buy 77 = .ok (.aload_n 0, 1) := by decide +kernel
theorem dX3_buy_78 : decode cX3_buy 78 = .ok (.getfield 85, 3) := by decide +kernel
theorem dX3_buy_81 : decode cX3_buy 81 = .ok (.iload 4, 2) := by decide +kernel
theorem dX3_buy_83 : decode cX3_buy 83 = .ok (.iadd, 1) := by decide +kernel
theorem dX3_buy_84 : decode cX3_buy 84 = .ok (.iconst 1, 1) := by decide +kernel
theorem dX3_buy_85 : decode cX3_buy 85 = .ok (.isub, 1) := by decide +kernel
theorem dX3_buy_86 : decode cX3_buy 86 = .ok (.invokevirtual 88, 3) := by decide +kernel
theorem dX3_buy_89 : decode cX3_buy 89 = .ok (.ireturn, 1) := by decide +kernel
set_option maxRecDepth 20000 in
theorem ggX3_upgrade_X3_isRight : GoodIn wsX3_upgrade wsX3_isRight := goodIn_r _ [13, 6, 14, 15, 12, 16, 25, 26, 27, 28, 29, 30, 31, 32, 33, 34, 35, 36, 37, 38, 39, 40, 41, 42, 43] (by decide +kernel) (by decide +kernel)
set_option maxRecDepth 20000 in
theorem gX3_upgrade_X3_isRight : GoodIn wsX3_upgrade (wsV RX3 92 RX3 yX3_isRight wsX3_isRight) := goodIn_app (goodIn_of _ (by decide +kernel)) ggX3_upgrade_X3_isRight
set_option maxRecDepth 20000 in
theorem ggX3_upgrade_X3_fails : GoodIn wsX3_upgrade wsX3_fails := goodIn_r _ [20, 1, 25, 26, 27, 28, 29, 30, 31, 32, 33, 34, 35, 36, 37, 38, 39, 40, 41, 42, 43] (by decide +kernel) (by decide +kernel)
set_option maxRecDepth 20000 in
theorem gX3_upgrade_X3_fails : GoodIn wsX3_upgrade (wsV RX3 71 RX3 yX3_fails wsX3_fails) := goodIn_app (goodIn_of _ (by decide +kernel)) ggX3_upgrade_X3_fails
set_option maxRecDepth 20000 in
theorem ggX3_upgrade_X3_in : GoodIn wsX3_upgrade wsX3_in := goodIn_r _ [16] (by decide +kernel) (by decide +kernel)
set_option maxRecDepth 20000 in
theorem gX3_upgrade_X3_in : GoodIn wsX3_upgrade (va_wsS RX3 60 yX3_in wsX3_in) := goodIn_app (goodIn_of _ (by decide +kernel)) ggX3_upgrade_X3_in
set_option maxRecDepth 20000 in
theorem ggX3_upgrade_X3_lays : GoodIn wsX3_upgrade wsX3_lays := goodIn_r _ [24, 5, 6, 7, 2, 8, 3, 4, 25, 26, 27, 28, 29, 30, 31, 32, 33, 34, 35, 36, 37, 38, 39, 40, 41, 42, 43] (by decide +kernel) (by decide +kernel)
set_option maxRecDepth 20000 in
theorem gX3_upgrade_X3_lays : GoodIn wsX3_upgrade (wsV RX3 88 RX3 yX3_lays wsX3_lays) := goodIn_app (goodIn_of _ (by decide +kernel)) ggX3_upgrade_X3_lays
theorem dX3_upgrade_0 : decode cX3_upgrade 0 = .ok (.aload_n 0, 1) := by decide +kernel
theorem dX3_upgrade_1 : decode cX3_upgrade 1 = .ok (.iconst 0, 1) := by decide +kernel
theorem dX3_upgrade_2 : decode cX3_upgrade 2 = .ok (.putfield 56, 3) := by decide +kernel
theorem dX3_upgrade_5 : decode cX3_upgrade 5 = .ok (.aload_n 0, 1) := by decide +kernel
theorem dX3_upgrade_6 : decode cX3_upgrade 6 = .ok (.iload_n 1, 1) := by decide +kernel
theorem dX3_upgrade_7 : decode cX3_upgrade 7 = .ok (.invokevirtual 92, 3) := by decide +kernel
theorem dX3_upgrade_10 : decode cX3_upgrade 10 = .ok (.ifCond .ne 9, 3) := by decide +kernel
theorem dX3_upgrade_13 : decode cX3_upgrade 13 = .ok (.aload_n 0, 1) := by decide +kernel
theorem dX3_upgrade_14 : decode cX3_upgrade 14 = .ok (.iconst 1, 1) := by decide +kernel
theorem dX3_upgrade_15 : decode cX3_upgrade 15 = .ok (.invokevirtual 71, 3) := by decide +kernel
theorem dX3_upgrade_18 : decode cX3_upgrade 18 = .ok (.ireturn, 1) := by decide +kernel
theorem dX3_upgrade_19 : decode cX3_upgrade 19 = .ok (.iload_n 2, 1) := by decide +kernel
theorem dX3_upgrade_20 : decode cX3_upgrade 20 = .ok (.iconst 1, 1) := by decide +kernel
theorem dX3_upgrade_21 : decode cX3_upgrade 21 = .ok (.sipush 500, 3) := by decide +kernel
theorem dX3_upgrade_24 : decode cX3_upgrade 24 = .ok (.invokestatic 60, 3) := by decide +kernel
theorem dX3_upgrade_27 : decode cX3_upgrade 27 = .ok (.ifCond .ne 9, 3) := by decide +kernel
theorem dX3_upgrade_30 : decode cX3_upgrade 30 = .ok (.aload_n 0, 1) := by decide +kernel
theorem dX3_upgrade_31 : decode cX3_upgrade 31 = .ok (.iconst 2, 1) := by decide +kernel
theorem dX3_upgrade_32 : decode cX3_upgrade 32 = .ok (.invokevirtual 71, 3) := by decide +kernel
theorem dX3_upgrade_35 : decode cX3_upgrade 35 = .ok (.ireturn, 1) := by decide +kernel
theorem dX3_upgrade_36 : decode cX3_upgrade 36 = .ok (.aload_n 0, 1) := by decide +kernel
theorem dX3_upgrade_37 : decode cX3_upgrade 37 = .ok (.getfield 31, 3) := by decide +kernel
theorem dX3_upgrade_40 : decode cX3_upgrade 40 = .ok (.iload_n 1, 1) := by decide +kernel
theorem dX3_upgrade_41 : decode cX3_upgrade 41 = .ok (.iaload, 1) := by decide +kernel
theorem dX3_upgrade_42 : decode cX3_upgrade 42 = .ok (.iload_n 2, 1) := by decide +kernel
theorem dX3_upgrade_43 : decode cX3_upgrade 43 = .ok (.if_icmp .lt 32, 3) := by decide +kernel
theorem dX3_upgrade_46 : decode cX3_upgrade 46 = .ok (.aload_n 0, 1) := by decide +kernel
theorem dX3_upgrade_47 : decode cX3_upgrade 47 = .ok (.getfield 37, 3) := by decide +kernel
theorem dX3_upgrade_50 : decode cX3_upgrade 50 = .ok (.iload_n 1, 1) := by decide +kernel
theorem dX3_upgrade_51 : decode cX3_upgrade 51 = .ok (.iaload, 1) := by decide +kernel
theorem dX3_upgrade_52 : decode cX3_upgrade 52 = .ok (.aload_n 0, 1) := by decide +kernel
theorem dX3_upgrade_53 : decode cX3_upgrade 53 = .ok (.getfield 19, 3) := by decide +kernel
theorem dX3_upgrade_56 : decode cX3_upgrade 56 = .ok (.aload_n 0, 1) := by decide +kernel
theorem dX3_upgrade_57 : decode cX3_upgrade 57 = .ok (.getfield 25, 3) := by decide +kernel
theorem dX3_upgrade_60 : decode cX3_upgrade 60 = .ok (.iload_n 1, 1) := by decide +kernel
theorem dX3_upgrade_61 : decode cX3_upgrade 61 = .ok (.iaload, 1) := by decide +kernel
theorem dX3_upgrade_62 : decode cX3_upgrade 62 = .ok (.iaload, 1) := by decide +kernel
theorem dX3_upgrade_63 : decode cX3_upgrade 63 = .ok (.if_icmp .eq 12, 3) := by decide +kernel
theorem dX3_upgrade_66 : decode cX3_upgrade 66 = .ok (.aload_n 0, 1) := by decide +kernel
theorem dX3_upgrade_67 : decode cX3_upgrade 67 = .ok (.getfield 64, 3) := by decide +kernel
theorem dX3_upgrade_70 : decode cX3_upgrade 70 = .ok (.bipush 12, 2) := by decide +kernel
theorem dX3_upgrade_72 : decode cX3_upgrade 72 = .ok (.if_icmp .ne 9, 3) := by decide +kernel
theorem dX3_upgrade_75 : decode cX3_upgrade 75 = .ok (.aload_n 0, 1) := by decide +kernel
theorem dX3_upgrade_76 : decode cX3_upgrade 76 = .ok (.iconst 3, 1) := by decide +kernel
theorem dX3_upgrade_77 : decode cX3_upgrade 77 = .ok (.invokevirtual 71, 3) := by decide +kernel
theorem dX3_upgrade_80 : decode cX3_upgrade 80 = .ok (.ireturn, 1) := by decide +kernel
theorem dX3_upgrade_81 : decode cX3_upgrade 81 = .ok (.aload_n 0, 1) := by decide +kernel
theorem dX3_upgrade_82 : decode cX3_upgrade 82 = .ok (.getfield 31, 3) := by decide +kernel
theorem dX3_upgrade_85 : decode cX3_upgrade 85 = .ok (.iload_n 1, 1) := by decide +kernel
theorem dX3_upgrade_86 : decode cX3_upgrade 86 = .ok (.dup2, 1) := by decide +kernel
theorem dX3_upgrade_87 : decode cX3_upgrade 87 = .ok (.iaload, 1) := by decide +kernel
theorem dX3_upgrade_88 : decode cX3_upgrade 88 = .ok (.iload_n 2, 1) := by decide +kernel
theorem dX3_upgrade_89 : decode cX3_upgrade 89 = .ok (.isub, 1) := by decide +kernel
theorem dX3_upgrade_90 : decode cX3_upgrade 90 = .ok (.iastore, 1) := by decide +kernel
theorem dX3_upgrade_91 : decode cX3_upgrade 91 = .ok (.aload_n 0, 1) := by decide +kernel
theorem dX3_upgrade_92 : decode cX3_upgrade 92 = .ok (.aload_n 0, 1) := by decide +kernel
theorem dX3_upgrade_93 : decode cX3_upgrade 93 = .ok (.getfield 25, 3) := by decide +kernel
theorem dX3_upgrade_96 : decode cX3_upgrade 96 = .ok (.iload_n 1, 1) := by decide +kernel
theorem dX3_upgrade_97 : decode cX3_upgrade 97 = .ok (.iaload, 1) := by decide +kernel
theorem dX3_upgrade_98 : decode cX3_upgrade 98 = .ok (.aload_n 0, 1) := by decide +kernel
theorem dX3_upgrade_99 : decode cX3_upgrade 99 = .ok (.getfield 28, 3) := by decide +kernel
theorem dX3_upgrade_102 : decode cX3_upgrade 102 = .ok (.iload_n 1, 1) := by decide +kernel
theorem dX3_upgrade_103 : decode cX3_upgrade 103 = .ok (.iaload, 1) := by decide +kernel
theorem dX3_upgrade_104 : decode cX3_upgrade 104 = .ok (.iload_n 2, 1) := by decide +kernel
theorem dX3_upgrade_105 : decode cX3_upgrade 105 = .ok (.aload_n 0, 1) := by decide +kernel
theorem dX3_upgrade_106 : decode cX3_upgrade 106 = .ok (.getfield 40, 3) := by decide +kernel
theorem dX3_upgrade_109 : decode cX3_upgrade 109 = .ok (.iload_n 1, 1) := by decide +kernel
theorem dX3_upgrade_110 : decode cX3_upgrade 110 = .ok (.iaload, 1) := by decide +kernel
theorem dX3_upgrade_111 : decode cX3_upgrade 111 = .ok (.invokevirtual 88, 3) := by decide +kernel
theorem dX3_upgrade_114 : decode cX3_upgrade 114 = .ok (.ireturn, 1) := by decide +kernel
set_option maxRecDepth 20000 in
theorem ggX3_lend_X3_isRight : GoodIn wsX3_lend wsX3_isRight := goodIn_r _ [8, 9, 10, 11, 7, 12, 17, 18, 19, 20, 21, 22, 23, 24, 25, 26, 27, 28, 29, 30, 31, 32, 33, 34, 35] (by decide +kernel) (by decide +kernel)
set_option maxRecDepth 20000 in
theorem gX3_lend_X3_isRight : GoodIn wsX3_lend (wsV RX3 92 RX3 yX3_isRight wsX3_isRight) := goodIn_app (goodIn_of _ (by decide +kernel)) ggX3_lend_X3_isRight
set_option maxRecDepth 20000 in
theorem ggX3_lend_X3_fails : GoodIn wsX3_lend wsX3_fails := goodIn_r _ [16, 1, 17, 18, 19, 20, 21, 22, 23, 24, 25, 26, 27, 28, 29, 30, 31, 32, 33, 34, 35] (by decide +kernel) (by decide +kernel)
set_option maxRecDepth 20000 in
theorem gX3_lend_X3_fails : GoodIn wsX3_lend (wsV RX3 71 RX3 yX3_fails wsX3_fails) := goodIn_app (goodIn_of _ (by decide +kernel)) ggX3_lend_X3_fails
set_option maxRecDepth 20000 in
theorem ggX3_lend_X3_in : GoodIn wsX3_lend wsX3_in := goodIn_r _ [12] (by decide +kernel) (by decide +kernel)
set_option maxRecDepth 20000 in
theorem gX3_lend_X3_in : GoodIn wsX3_lend (va_wsS RX3 60 yX3_in wsX3_in) := goodIn_app (goodIn_of _ (by decide +kernel)) ggX3_lend_X3_in
theorem dX3_lend_0 : decode cX3_lend 0 = .ok (.aload_n 0, 1) := by decide +kernel
theorem dX3_lend_1 : decode cX3_lend 1 = .ok (.iconst 0, 1) := by decide +kernel
theorem dX3_lend_2 : decode cX3_lend 2 = .ok (.putfield 56, 3) := by decide +kernel
theorem dX3_lend_5 : decode cX3_lend 5 = .ok (.aload_n 0, 1) := by decide +kernel
theorem dX3_lend_6 : decode cX3_lend 6 = .ok (.iload_n 1, 1) := by decide +kernel
theorem dX3_lend_7 : decode cX3_lend 7 = .ok (.invokevirtual 92, 3) := by decide +kernel
theorem dX3_lend_10 : decode cX3_lend 10 = .ok (.ifCond .ne 9, 3) := by decide +kernel
theorem dX3_lend_13 : decode cX3_lend 13 = .ok (.aload_n 0, 1) := by decide +kernel
theorem dX3_lend_14 : decode cX3_lend 14 = .ok (.iconst 1, 1) := by decide +kernel
theorem dX3_lend_15 : decode cX3_lend 15 = .ok (.invokevirtual 71, 3) := by decide +kernel
theorem dX3_lend_18 : decode cX3_lend 18 = .ok (.ireturn, 1) := by decide +kernel
theorem dX3_lend_19 : decode cX3_lend 19 = .ok (.iload_n 2, 1) := by decide +kernel
theorem dX3_lend_20 : decode cX3_lend 20 = .ok (.sipush (-500), 3) := by decide +kernel
theorem dX3_lend_23 : decode cX3_lend 23 = .ok (.sipush 500, 3) := by decide +kernel
theorem dX3_lend_26 : decode cX3_lend 26 = .ok (.invokestatic 60, 3) := by decide +kernel
theorem dX3_lend_29 : decode cX3_lend 29 = .ok (.ifCond .ne 9, 3) := by decide +kernel
theorem dX3_lend_32 : decode cX3_lend 32 = .ok (.aload_n 0, 1) := by decide +kernel
theorem dX3_lend_33 : decode cX3_lend 33 = .ok (.iconst 2, 1) := by decide +kernel
theorem dX3_lend_34 : decode cX3_lend 34 = .ok (.invokevirtual 71, 3) := by decide +kernel
theorem dX3_lend_37 : decode cX3_lend 37 = .ok (.ireturn, 1) := by decide +kernel
theorem dX3_lend_38 : decode cX3_lend 38 = .ok (.aload_n 0, 1) := by decide +kernel
theorem dX3_lend_39 : decode cX3_lend 39 = .ok (.getfield 31, 3) := by decide +kernel
theorem dX3_lend_42 : decode cX3_lend 42 = .ok (.iload_n 1, 1) := by decide +kernel
theorem dX3_lend_43 : decode cX3_lend 43 = .ok (.iaload, 1) := by decide +kernel
theorem dX3_lend_44 : decode cX3_lend 44 = .ok (.iload_n 2, 1) := by decide +kernel
theorem dX3_lend_45 : decode cX3_lend 45 = .ok (.if_icmp .lt 14, 3) := by decide +kernel
theorem dX3_lend_48 : decode cX3_lend 48 = .ok (.aload_n 0, 1) := by decide +kernel
theorem dX3_lend_49 : decode cX3_lend 49 = .ok (.getfield 34, 3) := by decide +kernel
theorem dX3_lend_52 : decode cX3_lend 52 = .ok (.iload_n 1, 1) := by decide +kernel
theorem dX3_lend_53 : decode cX3_lend 53 = .ok (.iaload, 1) := by decide +kernel
theorem dX3_lend_54 : decode cX3_lend 54 = .ok (.iload_n 2, 1) := by decide +kernel
theorem dX3_lend_55 : decode cX3_lend 55 = .ok (.iadd, 1) := by decide +kernel
theorem dX3_lend_56 : decode cX3_lend 56 = .ok (.ifCond .ge 9, 3) := by decide +kernel
theorem dX3_lend_59 : decode cX3_lend 59 = .ok (.aload_n 0, 1) := by decide +kernel
theorem dX3_lend_60 : decode cX3_lend 60 = .ok (.iconst 3, 1) := by decide +kernel
theorem dX3_lend_61 : decode cX3_lend 61 = .ok (.invokevirtual 71, 3) := by decide +kernel
theorem dX3_lend_64 : decode cX3_lend 64 = .ok (.ireturn, 1) := by decide +kernel
theorem dX3_lend_65 : decode cX3_lend 65 = .ok (.aload_n 0, 1) := by decide +kernel
theorem dX3_lend_66 : decode cX3_lend 66 = .ok (.getfield 31, 3) := by decide +kernel
theorem dX3_lend_69 : decode cX3_lend 69 = .ok (.iload_n 1, 1) := by decide +kernel
theorem dX3_lend_70 : decode cX3_lend 70 = .ok (.dup2, 1) := by decide +kernel
theorem dX3_lend_71 : decode cX3_lend 71 = .ok (.iaload, 1) := by decide +kernel
theorem dX3_lend_72 : decode cX3_lend 72 = .ok (.iload_n 2, 1) := by decide +kernel
theorem dX3_lend_73 : decode cX3_lend 73 = .ok (.isub, 1) := by decide +kernel
theorem dX3_lend_74 : decode cX3_lend 74 = .ok (.iastore, 1) := by decide +kernel
theorem dX3_lend_75 : decode cX3_lend 75 = .ok (.aload_n 0, 1) := by decide +kernel
theorem dX3_lend_76 : decode cX3_lend 76 = .ok (.getfield 34, 3) := by decide +kernel
theorem dX3_lend_79 : decode cX3_lend 79 = .ok (.iload_n 1, 1) := by decide +kernel
theorem dX3_lend_80 : decode cX3_lend 80 = .ok (.dup2, 1) := by decide +kernel
theorem dX3_lend_81 : decode cX3_lend 81 = .ok (.iaload, 1) := by decide +kernel
theorem dX3_lend_82 : decode cX3_lend 82 = .ok (.iload_n 2, 1) := by decide +kernel
theorem dX3_lend_83 : decode cX3_lend 83 = .ok (.iadd, 1) := by decide +kernel
theorem dX3_lend_84 : decode cX3_lend 84 = .ok (.iastore, 1) := by decide +kernel
theorem dX3_lend_85 : decode cX3_lend 85 = .ok (.aload_n 0, 1) := by decide +kernel
theorem dX3_lend_86 : decode cX3_lend 86 = .ok (.getfield 34, 3) := by decide +kernel
theorem dX3_lend_89 : decode cX3_lend 89 = .ok (.iload_n 1, 1) := by decide +kernel
theorem dX3_lend_90 : decode cX3_lend 90 = .ok (.iaload, 1) := by decide +kernel
theorem dX3_lend_91 : decode cX3_lend 91 = .ok (.ireturn, 1) := by decide +kernel
set_option maxRecDepth 20000 in
theorem ggX3_pass_X3_in : GoodIn wsX3_pass wsX3_in := goodIn_r _ [6] (by decide +kernel) (by decide +kernel)
set_option maxRecDepth 20000 in
theorem gX3_pass_X3_in : GoodIn wsX3_pass (va_wsS RX3 60 yX3_in wsX3_in) := goodIn_app (goodIn_of _ (by decide +kernel)) ggX3_pass_X3_in
set_option maxRecDepth 20000 in
theorem ggX3_pass_X3_fails : GoodIn wsX3_pass wsX3_fails := goodIn_r _ [10, 1, 11, 12, 13, 14, 15, 16, 17, 18, 19, 20, 21, 22, 23, 24, 25, 26, 27, 28, 29] (by decide +kernel) (by decide +kernel)
set_option maxRecDepth 20000 in
theorem gX3_pass_X3_fails : GoodIn wsX3_pass (wsV RX3 71 RX3 yX3_fails wsX3_fails) := goodIn_app (goodIn_of _ (by decide +kernel)) ggX3_pass_X3_fails
theorem dX3_pass_0 : decode cX3_pass 0 = .ok (.aload_n 0, 1) := by decide +kernel
theorem dX3_pass_1 : decode cX3_pass 1 = .ok (.iconst 0, 1) := by decide +kernel
theorem dX3_pass_2 : decode cX3_pass 2 = .ok (.putfield 56, 3) := by decide +kernel
theorem dX3_pass_5 : decode cX3_pass 5 = .ok (.iload_n 1, 1) := by decide +kernel
theorem dX3_pass_6 : decode cX3_pass 6 = .ok (.iconst 1, 1) := by decide +kernel
theorem dX3_pass_7 : decode cX3_pass 7 = .ok (.sipush 400, 3) := by decide +kernel
theorem dX3_pass_10 : decode cX3_pass 10 = .ok (.invokestatic 60, 3) := by decide +kernel
theorem dX3_pass_13 : decode cX3_pass 13 = .ok (.ifCond .ne 9, 3) := by decide +kernel
theorem dX3_pass_16 : decode cX3_pass 16 = .ok (.aload_n 0, 1) := by decide +kernel
theorem dX3_pass_17 : decode cX3_pass 17 = .ok (.iconst 1, 1) := by decide +kernel
theorem dX3_pass_18 : decode cX3_pass 18 = .ok (.invokevirtual 71, 3) := by decide +kernel
theorem dX3_pass_21 : decode cX3_pass 21 = .ok (.ireturn, 1) := by decide +kernel
theorem dX3_pass_22 : decode cX3_pass 22 = .ok (.aload_n 0, 1) := by decide +kernel
theorem dX3_pass_23 : decode cX3_pass 23 = .ok (.dup, 1) := by decide +kernel
theorem dX3_pass_24 : decode cX3_pass 24 = .ok (.getfield 85, 3) := by decide +kernel
theorem dX3_pass_27 : decode cX3_pass 27 = .ok (.iload_n 1, 1) := by decide +kernel
theorem dX3_pass_28 : decode cX3_pass 28 = .ok (.iadd, 1) := by decide +kernel
theorem dX3_pass_29 : decode cX3_pass 29 = .ok (.putfield 85, 3) := by decide +kernel
theorem dX3_pass_32 : decode cX3_pass 32 = .ok (.aload_n 0, 1) := by decide +kernel
theorem dX3_pass_33 : decode cX3_pass 33 = .ok (.getfield 85, 3) := by decide +kernel
theorem dX3_pass_36 : decode cX3_pass 36 = .ok (.ireturn, 1) := by decide +kernel
theorem dX3_today_0 : decode cX3_today 0 = .ok (.aload_n 0, 1) := by decide +kernel
theorem dX3_today_1 : decode cX3_today 1 = .ok (.iconst 0, 1) := by decide +kernel
theorem dX3_today_2 : decode cX3_today 2 = .ok (.putfield 56, 3) := by decide +kernel
theorem dX3_today_5 : decode cX3_today 5 = .ok (.aload_n 0, 1) := by decide +kernel
theorem dX3_today_6 : decode cX3_today 6 = .ok (.getfield 85, 3) := by decide +kernel
theorem dX3_today_9 : decode cX3_today 9 = .ok (.ireturn, 1) := by decide +kernel
theorem dX3_rights_0 : decode cX3_rights 0 = .ok (.aload_n 0, 1) := by decide +kernel
theorem dX3_rights_1 : decode cX3_rights 1 = .ok (.iconst 0, 1) := by decide +kernel
theorem dX3_rights_2 : decode cX3_rights 2 = .ok (.putfield 56, 3) := by decide +kernel
theorem dX3_rights_5 : decode cX3_rights 5 = .ok (.aload_n 0, 1) := by decide +kernel
theorem dX3_rights_6 : decode cX3_rights 6 = .ok (.getfield 64, 3) := by decide +kernel
theorem dX3_rights_9 : decode cX3_rights 9 = .ok (.ireturn, 1) := by decide +kernel
set_option maxRecDepth 20000 in
theorem ggX3_countOf_X3_isRight : GoodIn wsX3_countOf wsX3_isRight := goodIn_r _ [7, 8, 9, 10, 6, 11, 16, 17, 18, 19, 20, 21, 22, 23, 24, 25, 26, 27, 28, 29, 30, 31, 32, 33, 34] (by decide +kernel) (by decide +kernel)
set_option maxRecDepth 20000 in
theorem gX3_countOf_X3_isRight : GoodIn wsX3_countOf (wsV RX3 92 RX3 yX3_isRight wsX3_isRight) := goodIn_app (goodIn_of _ (by decide +kernel)) ggX3_countOf_X3_isRight
set_option maxRecDepth 20000 in
theorem ggX3_countOf_X3_fails : GoodIn wsX3_countOf wsX3_fails := goodIn_r _ [15, 1, 16, 17, 18, 19, 20, 21, 22, 23, 24, 25, 26, 27, 28, 29, 30, 31, 32, 33, 34] (by decide +kernel) (by decide +kernel)
set_option maxRecDepth 20000 in
theorem gX3_countOf_X3_fails : GoodIn wsX3_countOf (wsV RX3 71 RX3 yX3_fails wsX3_fails) := goodIn_app (goodIn_of _ (by decide +kernel)) ggX3_countOf_X3_fails
theorem dX3_countOf_0 : decode cX3_countOf 0 = .ok (.aload_n 0, 1) := by decide +kernel
theorem dX3_countOf_1 : decode cX3_countOf 1 = .ok (.iconst 0, 1) := by decide +kernel
theorem dX3_countOf_2 : decode cX3_countOf 2 = .ok (.putfield 56, 3) := by decide +kernel
theorem dX3_countOf_5 : decode cX3_countOf 5 = .ok (.aload_n 0, 1) := by decide +kernel
theorem dX3_countOf_6 : decode cX3_countOf 6 = .ok (.iload_n 1, 1) := by decide +kernel
theorem dX3_countOf_7 : decode cX3_countOf 7 = .ok (.invokevirtual 92, 3) := by decide +kernel
theorem dX3_countOf_10 : decode cX3_countOf 10 = .ok (.ifCond .eq 12, 3) := by decide +kernel
theorem dX3_countOf_13 : decode cX3_countOf 13 = .ok (.aload_n 0, 1) := by decide +kernel
theorem dX3_countOf_14 : decode cX3_countOf 14 = .ok (.getfield 31, 3) := by decide +kernel
theorem dX3_countOf_17 : decode cX3_countOf 17 = .ok (.iload_n 1, 1) := by decide +kernel
theorem dX3_countOf_18 : decode cX3_countOf 18 = .ok (.iaload, 1) := by decide +kernel
theorem dX3_countOf_19 : decode cX3_countOf 19 = .ok (.goto 8, 3) := by decide +kernel
theorem dX3_countOf_22 : decode cX3_countOf 22 = .ok (.aload_n 0, 1) := by decide +kernel
theorem dX3_countOf_23 : decode cX3_countOf 23 = .ok (.iconst 1, 1) := by decide +kernel
theorem dX3_countOf_24 : decode cX3_countOf 24 = .ok (.invokevirtual 71, 3) := by decide +kernel
theorem dX3_countOf_27 : decode cX3_countOf 27 = .ok (.ireturn, 1) := by decide +kernel
set_option maxRecDepth 20000 in
theorem ggX3_versionOf_X3_isRight : GoodIn wsX3_versionOf wsX3_isRight := goodIn_r _ [7, 8, 9, 10, 6, 11, 16, 17, 18, 19, 20, 21, 22, 23, 24, 25, 26, 27, 28, 29, 30, 31, 32, 33, 34] (by decide +kernel) (by decide +kernel)
set_option maxRecDepth 20000 in
theorem gX3_versionOf_X3_isRight : GoodIn wsX3_versionOf (wsV RX3 92 RX3 yX3_isRight wsX3_isRight) := goodIn_app (goodIn_of _ (by decide +kernel)) ggX3_versionOf_X3_isRight
set_option maxRecDepth 20000 in
theorem ggX3_versionOf_X3_fails : GoodIn wsX3_versionOf wsX3_fails := goodIn_r _ [15, 1, 16, 17, 18, 19, 20, 21, 22, 23, 24, 25, 26, 27, 28, 29, 30, 31, 32, 33, 34] (by decide +kernel) (by decide +kernel)
set_option maxRecDepth 20000 in
theorem gX3_versionOf_X3_fails : GoodIn wsX3_versionOf (wsV RX3 71 RX3 yX3_fails wsX3_fails) := goodIn_app (goodIn_of _ (by decide +kernel)) ggX3_versionOf_X3_fails
theorem dX3_versionOf_0 : decode cX3_versionOf 0 = .ok (.aload_n 0, 1) := by decide +kernel
theorem dX3_versionOf_1 : decode cX3_versionOf 1 = .ok (.iconst 0, 1) := by decide +kernel
theorem dX3_versionOf_2 : decode cX3_versionOf 2 = .ok (.putfield 56, 3) := by decide +kernel
theorem dX3_versionOf_5 : decode cX3_versionOf 5 = .ok (.aload_n 0, 1) := by decide +kernel
theorem dX3_versionOf_6 : decode cX3_versionOf 6 = .ok (.iload_n 1, 1) := by decide +kernel
theorem dX3_versionOf_7 : decode cX3_versionOf 7 = .ok (.invokevirtual 92, 3) := by decide +kernel
theorem dX3_versionOf_10 : decode cX3_versionOf 10 = .ok (.ifCond .eq 12, 3) := by decide +kernel
theorem dX3_versionOf_13 : decode cX3_versionOf 13 = .ok (.aload_n 0, 1) := by decide +kernel
theorem dX3_versionOf_14 : decode cX3_versionOf 14 = .ok (.getfield 37, 3) := by decide +kernel
theorem dX3_versionOf_17 : decode cX3_versionOf 17 = .ok (.iload_n 1, 1) := by decide +kernel
theorem dX3_versionOf_18 : decode cX3_versionOf 18 = .ok (.iaload, 1) := by decide +kernel
theorem dX3_versionOf_19 : decode cX3_versionOf 19 = .ok (.goto 8, 3) := by decide +kernel
theorem dX3_versionOf_22 : decode cX3_versionOf 22 = .ok (.aload_n 0, 1) := by decide +kernel
theorem dX3_versionOf_23 : decode cX3_versionOf 23 = .ok (.iconst 1, 1) := by decide +kernel
theorem dX3_versionOf_24 : decode cX3_versionOf 24 = .ok (.invokevirtual 71, 3) := by decide +kernel
theorem dX3_versionOf_27 : decode cX3_versionOf 27 = .ok (.ireturn, 1) := by decide +kernel
set_option maxRecDepth 20000 in
theorem ggX3_latest_X3_isProduct : GoodIn wsX3_latest wsX3_isProduct := goodIn_r _ [6, 7, 8, 5, 9] (by decide +kernel) (by decide +kernel)
set_option maxRecDepth 20000 in
theorem gX3_latest_X3_isProduct : GoodIn wsX3_latest (va_wsS RX3 82 yX3_isProduct wsX3_isProduct) := goodIn_app (goodIn_of _ (by decide +kernel)) ggX3_latest_X3_isProduct
set_option maxRecDepth 20000 in
theorem ggX3_latest_X3_fails : GoodIn wsX3_latest wsX3_fails := goodIn_r _ [13, 1, 14, 15, 16, 17, 18, 19, 20, 21, 22, 23, 24, 25, 26, 27, 28, 29, 30, 31, 32] (by decide +kernel) (by decide +kernel)
set_option maxRecDepth 20000 in
theorem gX3_latest_X3_fails : GoodIn wsX3_latest (wsV RX3 71 RX3 yX3_fails wsX3_fails) := goodIn_app (goodIn_of _ (by decide +kernel)) ggX3_latest_X3_fails
theorem dX3_latest_0 : decode cX3_latest 0 = .ok (.aload_n 0, 1) := by decide +kernel
theorem dX3_latest_1 : decode cX3_latest 1 = .ok (.iconst 0, 1) := by decide +kernel
theorem dX3_latest_2 : decode cX3_latest 2 = .ok (.putfield 56, 3) := by decide +kernel
theorem dX3_latest_5 : decode cX3_latest 5 = .ok (.iload_n 1, 1) := by decide +kernel
theorem dX3_latest_6 : decode cX3_latest 6 = .ok (.invokestatic 82, 3) := by decide +kernel
theorem dX3_latest_9 : decode cX3_latest 9 = .ok (.ifCond .eq 12, 3) := by decide +kernel
theorem dX3_latest_12 : decode cX3_latest 12 = .ok (.aload_n 0, 1) := by decide +kernel
theorem dX3_latest_13 : decode cX3_latest 13 = .ok (.getfield 19, 3) := by decide +kernel
theorem dX3_latest_16 : decode cX3_latest 16 = .ok (.iload_n 1, 1) := by decide +kernel
theorem dX3_latest_17 : decode cX3_latest 17 = .ok (.iaload, 1) := by decide +kernel
theorem dX3_latest_18 : decode cX3_latest 18 = .ok (.goto 8, 3) := by decide +kernel
theorem dX3_latest_21 : decode cX3_latest 21 = .ok (.aload_n 0, 1) := by decide +kernel
theorem dX3_latest_22 : decode cX3_latest 22 = .ok (.iconst 1, 1) := by decide +kernel
theorem dX3_latest_23 : decode cX3_latest 23 = .ok (.invokevirtual 71, 3) := by decide +kernel
theorem dX3_latest_26 : decode cX3_latest 26 = .ok (.ireturn, 1) := by decide +kernel
set_option maxRecDepth 20000 in
theorem ggX3_hostOf_X3_isMachine : GoodIn wsX3_hostOf wsX3_isMachine := goodIn_r _ [6, 7, 8, 5, 9] (by decide +kernel) (by decide +kernel)
set_option maxRecDepth 20000 in
theorem gX3_hostOf_X3_isMachine : GoodIn wsX3_hostOf (va_wsS RX3 67 yX3_isMachine wsX3_isMachine) := goodIn_app (goodIn_of _ (by decide +kernel)) ggX3_hostOf_X3_isMachine
set_option maxRecDepth 20000 in
theorem ggX3_hostOf_X3_fails : GoodIn wsX3_hostOf wsX3_fails := goodIn_r _ [13, 1, 14, 15, 16, 17, 18, 19, 20, 21, 22, 23, 24, 25, 26, 27, 28, 29, 30, 31, 32] (by decide +kernel) (by decide +kernel)
set_option maxRecDepth 20000 in
theorem gX3_hostOf_X3_fails : GoodIn wsX3_hostOf (wsV RX3 71 RX3 yX3_fails wsX3_fails) := goodIn_app (goodIn_of _ (by decide +kernel)) ggX3_hostOf_X3_fails
theorem dX3_hostOf_0 : decode cX3_hostOf 0 = .ok (.aload_n 0, 1) := by decide +kernel
theorem dX3_hostOf_1 : decode cX3_hostOf 1 = .ok (.iconst 0, 1) := by decide +kernel
theorem dX3_hostOf_2 : decode cX3_hostOf 2 = .ok (.putfield 56, 3) := by decide +kernel
theorem dX3_hostOf_5 : decode cX3_hostOf 5 = .ok (.iload_n 1, 1) := by decide +kernel
theorem dX3_hostOf_6 : decode cX3_hostOf 6 = .ok (.invokestatic 67, 3) := by decide +kernel
theorem dX3_hostOf_9 : decode cX3_hostOf 9 = .ok (.ifCond .eq 12, 3) := by decide +kernel
theorem dX3_hostOf_12 : decode cX3_hostOf 12 = .ok (.aload_n 0, 1) := by decide +kernel
theorem dX3_hostOf_13 : decode cX3_hostOf 13 = .ok (.getfield 13, 3) := by decide +kernel
theorem dX3_hostOf_16 : decode cX3_hostOf 16 = .ok (.iload_n 1, 1) := by decide +kernel
theorem dX3_hostOf_17 : decode cX3_hostOf 17 = .ok (.iaload, 1) := by decide +kernel
theorem dX3_hostOf_18 : decode cX3_hostOf 18 = .ok (.goto 8, 3) := by decide +kernel
theorem dX3_hostOf_21 : decode cX3_hostOf 21 = .ok (.aload_n 0, 1) := by decide +kernel
theorem dX3_hostOf_22 : decode cX3_hostOf 22 = .ok (.iconst 1, 1) := by decide +kernel
theorem dX3_hostOf_23 : decode cX3_hostOf 23 = .ok (.invokevirtual 71, 3) := by decide +kernel
theorem dX3_hostOf_26 : decode cX3_hostOf 26 = .ok (.ireturn, 1) := by decide +kernel
theorem dX3_weighs_0 : decode cX3_weighs 0 = .ok (.aload_n 0, 1) := by decide +kernel
theorem dX3_weighs_1 : decode cX3_weighs 1 = .ok (.getfield 16, 3) := by decide +kernel
theorem dX3_weighs_4 : decode cX3_weighs 4 = .ok (.iconst 4, 1) := by decide +kernel
theorem dX3_weighs_5 : decode cX3_weighs 5 = .ok (.iload_n 1, 1) := by decide +kernel
theorem dX3_weighs_6 : decode cX3_weighs 6 = .ok (.imul, 1) := by decide +kernel
theorem dX3_weighs_7 : decode cX3_weighs 7 = .ok (.iload_n 2, 1) := by decide +kernel
theorem dX3_weighs_8 : decode cX3_weighs 8 = .ok (.iadd, 1) := by decide +kernel
theorem dX3_weighs_9 : decode cX3_weighs 9 = .ok (.iaload, 1) := by decide +kernel
theorem dX3_weighs_10 : decode cX3_weighs 10 = .ok (.ifCond .le 19, 3) := by decide +kernel
theorem dX3_weighs_13 : decode cX3_weighs 13 = .ok (.aload_n 0, 1) := by decide +kernel
theorem dX3_weighs_14 : decode cX3_weighs 14 = .ok (.getfield 7, 3) := by decide +kernel
theorem dX3_weighs_17 : decode cX3_weighs 17 = .ok (.iload_n 1, 1) := by decide +kernel
theorem dX3_weighs_18 : decode cX3_weighs 18 = .ok (.iaload, 1) := by decide +kernel
theorem dX3_weighs_19 : decode cX3_weighs 19 = .ok (.aload_n 0, 1) := by decide +kernel
theorem dX3_weighs_20 : decode cX3_weighs 20 = .ok (.getfield 22, 3) := by decide +kernel
theorem dX3_weighs_23 : decode cX3_weighs 23 = .ok (.iload_n 2, 1) := by decide +kernel
theorem dX3_weighs_24 : decode cX3_weighs 24 = .ok (.iaload, 1) := by decide +kernel
theorem dX3_weighs_25 : decode cX3_weighs 25 = .ok (.imul, 1) := by decide +kernel
theorem dX3_weighs_26 : decode cX3_weighs 26 = .ok (.goto 4, 3) := by decide +kernel
theorem dX3_weighs_29 : decode cX3_weighs 29 = .ok (.iconst 0, 1) := by decide +kernel
theorem dX3_weighs_30 : decode cX3_weighs 30 = .ok (.ireturn, 1) := by decide +kernel
set_option maxRecDepth 20000 in
theorem ggX3_weight_X3_isMachine : GoodIn wsX3_weight wsX3_isMachine := goodIn_r _ [5, 6, 7, 4, 8] (by decide +kernel) (by decide +kernel)
set_option maxRecDepth 20000 in
theorem gX3_weight_X3_isMachine : GoodIn wsX3_weight (va_wsS RX3 67 yX3_isMachine wsX3_isMachine) := goodIn_app (goodIn_of _ (by decide +kernel)) ggX3_weight_X3_isMachine
set_option maxRecDepth 20000 in
theorem ggX3_weight_X3_isProduct : GoodIn wsX3_weight wsX3_isProduct := goodIn_r _ [11, 6, 7, 4, 8] (by decide +kernel) (by decide +kernel)
set_option maxRecDepth 20000 in
theorem gX3_weight_X3_isProduct : GoodIn wsX3_weight (va_wsS RX3 82 yX3_isProduct wsX3_isProduct) := goodIn_app (goodIn_of _ (by decide +kernel)) ggX3_weight_X3_isProduct
set_option maxRecDepth 20000 in
theorem ggX3_weight_X3_weighs : GoodIn wsX3_weight wsX3_weighs := goodIn_r _ [15, 16, 17, 18, 23, 24, 25, 26, 27, 28, 29, 30, 31, 32, 33, 34, 35, 36, 37, 38, 39, 40, 41] (by decide +kernel) (by decide +kernel)
set_option maxRecDepth 20000 in
theorem gX3_weight_X3_weighs : GoodIn wsX3_weight (wsV RX3 95 RX3 yX3_weighs wsX3_weighs) := goodIn_app (goodIn_of _ (by decide +kernel)) ggX3_weight_X3_weighs
set_option maxRecDepth 20000 in
theorem ggX3_weight_X3_fails : GoodIn wsX3_weight wsX3_fails := goodIn_r _ [22, 1, 23, 24, 25, 26, 27, 28, 29, 30, 31, 32, 33, 34, 35, 36, 37, 38, 39, 40, 41] (by decide +kernel) (by decide +kernel)
set_option maxRecDepth 20000 in
theorem gX3_weight_X3_fails : GoodIn wsX3_weight (wsV RX3 71 RX3 yX3_fails wsX3_fails) := goodIn_app (goodIn_of _ (by decide +kernel)) ggX3_weight_X3_fails
theorem dX3_weight_0 : decode cX3_weight 0 = .ok (.aload_n 0, 1) := by decide +kernel
theorem dX3_weight_1 : decode cX3_weight 1 = .ok (.iconst 0, 1) := by decide +kernel
theorem dX3_weight_2 : decode cX3_weight 2 = .ok (.putfield 56, 3) := by decide +kernel
theorem dX3_weight_5 : decode cX3_weight 5 = .ok (.iload_n 1, 1) := by decide +kernel
theorem dX3_weight_6 : decode cX3_weight 6 = .ok (.invokestatic 67, 3) := by decide +kernel
theorem dX3_weight_9 : decode cX3_weight 9 = .ok (.ifCond .eq 19, 3) := by decide +kernel
theorem dX3_weight_12 : decode cX3_weight 12 = .ok (.iload_n 2, 1) := by decide +kernel
theorem dX3_weight_13 : decode cX3_weight 13 = .ok (.invokestatic 82, 3) := by decide +kernel
theorem dX3_weight_16 : decode cX3_weight 16 = .ok (.ifCond .eq 12, 3) := by decide +kernel
theorem dX3_weight_19 : decode cX3_weight 19 = .ok (.aload_n 0, 1) := by decide +kernel
theorem dX3_weight_20 : decode cX3_weight 20 = .ok (.iload_n 1, 1) := by decide +kernel
theorem dX3_weight_21 : decode cX3_weight 21 = .ok (.iload_n 2, 1) := by decide +kernel
theorem dX3_weight_22 : decode cX3_weight 22 = .ok (.invokevirtual 95, 3) := by decide +kernel
theorem dX3_weight_25 : decode cX3_weight 25 = .ok (.goto 8, 3) := by decide +kernel
theorem dX3_weight_28 : decode cX3_weight 28 = .ok (.aload_n 0, 1) := by decide +kernel
theorem dX3_weight_29 : decode cX3_weight 29 = .ok (.iconst 1, 1) := by decide +kernel
theorem dX3_weight_30 : decode cX3_weight 30 = .ok (.invokevirtual 71, 3) := by decide +kernel
theorem dX3_weight_33 : decode cX3_weight 33 = .ok (.ireturn, 1) := by decide +kernel
theorem dX3_covered_0 : decode cX3_covered 0 = .ok (.iconst 0, 1) := by decide +kernel
theorem dX3_covered_1 : decode cX3_covered 1 = .ok (.istore_n 3, 1) := by decide +kernel
theorem dX3_covered_2 : decode cX3_covered 2 = .ok (.iconst 0, 1) := by decide +kernel
theorem dX3_covered_3 : decode cX3_covered 3 = .ok (.istore 4, 2) := by decide +kernel
theorem dX3_covered_5 : decode cX3_covered 5 = .ok (.iload 4, 2) := by decide +kernel
theorem dX3_covered_7 : decode cX3_covered 7 = .ok (.bipush 8, 2) := by decide +kernel
theorem dX3_covered_9 : decode cX3_covered 9 = .ok (.if_icmp .ge 93, 3) := by decide +kernel
theorem dX3_covered_12 : decode cX3_covered 12 = .ok (.iload 4, 2) := by decide +kernel
theorem dX3_covered_14 : decode cX3_covered 14 = .ok (.iload_n 2, 1) := by decide +kernel
theorem dX3_covered_15 : decode cX3_covered 15 = .ok (.if_icmp .eq 24, 3) := by decide +kernel
theorem dX3_covered_18 : decode cX3_covered 18 = .ok (.aload_n 0, 1) := by decide +kernel
theorem dX3_covered_19 : decode cX3_covered 19 = .ok (.getfield 28, 3) := by decide +kernel
theorem dX3_covered_22 : decode cX3_covered 22 = .ok (.iload_n 1, 1) := by decide +kernel
theorem dX3_covered_23 : decode cX3_covered 23 = .ok (.iaload, 1) := by decide +kernel
theorem dX3_covered_24 : decode cX3_covered 24 = .ok (.iconst 1, 1) := by decide +kernel
theorem dX3_covered_25 : decode cX3_covered 25 = .ok (.if_icmp .ne 18, 3) := by decide +kernel
theorem dX3_covered_28 : decode cX3_covered 28 = .ok (.aload_n 0, 1) := by decide +kernel
theorem dX3_covered_29 : decode cX3_covered 29 = .ok (.getfield 13, 3) := by decide +kernel
theorem dX3_covered_32 : decode cX3_covered 32 = .ok (.iload 4, 2) := by decide +kernel
theorem dX3_covered_34 : decode cX3_covered 34 = .ok (.iaload, 1) := by decide +kernel
theorem dX3_covered_35 : decode cX3_covered 35 = .ok (.iload_n 2, 1) := by decide +kernel
theorem dX3_covered_36 : decode cX3_covered 36 = .ok (.if_icmp .ne 7, 3) := by decide +kernel
theorem dX3_covered_39 : decode cX3_covered 39 = .ok (.iconst 1, 1) := by decide +kernel
theorem dX3_covered_40 : decode cX3_covered 40 = .ok (.goto 4, 3) := by decide +kernel
theorem dX3_covered_43 : decode cX3_covered 43 = .ok (.iconst 0, 1) := by decide +kernel
theorem dX3_covered_44 : decode cX3_covered 44 = .ok (.istore 5, 2) := by decide +kernel
theorem dX3_covered_46 : decode cX3_covered 46 = .ok (.aload_n 0, 1) := by decide +kernel
theorem dX3_covered_47 : decode cX3_covered 47 = .ok (.getfield 16, 3) := by decide +kernel
theorem dX3_covered_50 : decode cX3_covered 50 = .ok (.iconst 4, 1) := by decide +kernel
theorem dX3_covered_51 : decode cX3_covered 51 = .ok (.iload 4, 2) := by decide +kernel
theorem dX3_covered_53 : decode cX3_covered 53 = .ok (.imul, 1) := by decide +kernel
theorem dX3_covered_54 : decode cX3_covered 54 = .ok (.aload_n 0, 1) := by decide +kernel
theorem dX3_covered_55 : decode cX3_covered 55 = .ok (.getfield 25, 3) := by decide +kernel
theorem dX3_covered_58 : decode cX3_covered 58 = .ok (.iload_n 1, 1) := by decide +kernel
theorem dX3_covered_59 : decode cX3_covered 59 = .ok (.iaload, 1) := by decide +kernel
theorem dX3_covered_60 : decode cX3_covered 60 = .ok (.iadd, 1) := by decide +kernel
theorem dX3_covered_61 : decode cX3_covered 61 = .ok (.iaload, 1) := by decide +kernel
theorem dX3_covered_62 : decode cX3_covered 62 = .ok (.istore 6, 2) := by decide +kernel
theorem dX3_covered_64 : decode cX3_covered 64 = .ok (.iload_n 3, 1) := by decide +kernel
theorem dX3_covered_65 : decode cX3_covered 65 = .ok (.iload 5, 2) := by decide +kernel
theorem dX3_covered_67 : decode cX3_covered 67 = .ok (.ifCond .eq 26, 3) := by decide +kernel
theorem dX3_covered_70 : decode cX3_covered 70 = .ok (.iload 6, 2) := by decide +kernel
theorem dX3_covered_72 : decode cX3_covered 72 = .ok (.ifCond .le 21, 3) := by decide +kernel
theorem dX3_covered_75 : decode cX3_covered 75 = .ok (.iload 6, 2) := by decide +kernel
theorem dX3_covered_77 : decode cX3_covered 77 = .ok (.aload_n 0, 1) := by decide +kernel
theorem dX3_covered_78 : decode cX3_covered 78 = .ok (.getfield 37, 3) := by decide +kernel
theorem dX3_covered_81 : decode cX3_covered 81 = .ok (.iload_n 1, 1) := by decide +kernel
theorem dX3_covered_82 : decode cX3_covered 82 = .ok (.iaload, 1) := by decide +kernel
theorem dX3_covered_83 : decode cX3_covered 83 = .ok (.if_icmp .gt 10, 3) := by decide +kernel
theorem dX3_covered_86 : decode cX3_covered 86 = .ok (.iconst 1, 1) := by decide +kernel
theorem dX3_covered_87 : decode cX3_covered 87 = .ok (.iload 4, 2) := by decide +kernel
theorem dX3_covered_89 : decode cX3_covered 89 = .ok (.ishl, 1) := by decide +kernel
theorem dX3_covered_90 : decode cX3_covered 90 = .ok (.goto 4, 3) := by decide +kernel
theorem dX3_covered_93 : decode cX3_covered 93 = .ok (.iconst 0, 1) := by decide +kernel
theorem dX3_covered_94 : decode cX3_covered 94 = .ok (.ior, 1) := by decide +kernel
theorem dX3_covered_95 : decode cX3_covered 95 = .ok (.istore_n 3, 1) := by decide +kernel
theorem dX3_covered_96 : decode cX3_covered 96 = .ok (.iinc 4 1, 3) := by decide +kernel
theorem dX3_covered_99 : decode cX3_covered 99 = .ok (.goto (-94), 3) := by decide +kernel
theorem dX3_covered_102 : decode cX3_covered 102 = .ok (.iload_n 3, 1) := by decide +kernel
theorem dX3_covered_103 : decode cX3_covered 103 = .ok (.ireturn, 1) := by decide +kernel
set_option maxRecDepth 20000 in
theorem ggX3_covers_X3_isRight : GoodIn wsX3_covers wsX3_isRight := goodIn_r _ [6, 7, 8, 9, 5, 10, 27, 28, 29, 30, 31, 32, 33, 34, 35, 36, 37, 38, 39, 40, 41, 42, 43, 44, 45] (by decide +kernel) (by decide +kernel)
set_option maxRecDepth 20000 in
theorem gX3_covers_X3_isRight : GoodIn wsX3_covers (wsV RX3 92 RX3 yX3_isRight wsX3_isRight) := goodIn_app (goodIn_of _ (by decide +kernel)) ggX3_covers_X3_isRight
set_option maxRecDepth 20000 in
theorem ggX3_covers_X3_isMachine : GoodIn wsX3_covers wsX3_isMachine := goodIn_r _ [13, 8, 9, 5, 10] (by decide +kernel) (by decide +kernel)
set_option maxRecDepth 20000 in
theorem gX3_covers_X3_isMachine : GoodIn wsX3_covers (va_wsS RX3 67 yX3_isMachine wsX3_isMachine) := goodIn_app (goodIn_of _ (by decide +kernel)) ggX3_covers_X3_isMachine
set_option maxRecDepth 20000 in
theorem ggX3_covers_X3_covered : GoodIn wsX3_covers wsX3_covered := goodIn_r _ [17, 18, 19, 20, 21, 22, 27, 28, 29, 30, 31, 32, 33, 34, 35, 36, 37, 38, 39, 40, 41, 42, 43, 44, 45] (by decide +kernel) (by decide +kernel)
set_option maxRecDepth 20000 in
theorem gX3_covers_X3_covered : GoodIn wsX3_covers (wsV RX3 98 RX3 yX3_covered wsX3_covered) := goodIn_app (goodIn_of _ (by decide +kernel)) ggX3_covers_X3_covered
set_option maxRecDepth 20000 in
theorem ggX3_covers_X3_fails : GoodIn wsX3_covers wsX3_fails := goodIn_r _ [26, 1, 27, 28, 29, 30, 31, 32, 33, 34, 35, 36, 37, 38, 39, 40, 41, 42, 43, 44, 45] (by decide +kernel) (by decide +kernel)
set_option maxRecDepth 20000 in
theorem gX3_covers_X3_fails : GoodIn wsX3_covers (wsV RX3 71 RX3 yX3_fails wsX3_fails) := goodIn_app (goodIn_of _ (by decide +kernel)) ggX3_covers_X3_fails
theorem dX3_covers_0 : decode cX3_covers 0 = .ok (.aload_n 0, 1) := by decide +kernel
theorem dX3_covers_1 : decode cX3_covers 1 = .ok (.iconst 0, 1) := by decide +kernel
theorem dX3_covers_2 : decode cX3_covers 2 = .ok (.putfield 56, 3) := by decide +kernel
theorem dX3_covers_5 : decode cX3_covers 5 = .ok (.aload_n 0, 1) := by decide +kernel
theorem dX3_covers_6 : decode cX3_covers 6 = .ok (.iload_n 1, 1) := by decide +kernel
theorem dX3_covers_7 : decode cX3_covers 7 = .ok (.invokevirtual 92, 3) := by decide +kernel
theorem dX3_covers_10 : decode cX3_covers 10 = .ok (.ifCond .eq 19, 3) := by decide +kernel
theorem dX3_covers_13 : decode cX3_covers 13 = .ok (.iload_n 2, 1) := by decide +kernel
theorem dX3_covers_14 : decode cX3_covers 14 = .ok (.invokestatic 67, 3) := by decide +kernel
theorem dX3_covers_17 : decode cX3_covers 17 = .ok (.ifCond .eq 12, 3) := by decide +kernel
theorem dX3_covers_20 : decode cX3_covers 20 = .ok (.aload_n 0, 1) := by decide +kernel
theorem dX3_covers_21 : decode cX3_covers 21 = .ok (.iload_n 1, 1) := by decide +kernel
theorem dX3_covers_22 : decode cX3_covers 22 = .ok (.iload_n 2, 1) := by decide +kernel
theorem dX3_covers_23 : decode cX3_covers 23 = .ok (.invokevirtual 98, 3) := by decide +kernel
theorem dX3_covers_26 : decode cX3_covers 26 = .ok (.goto 8, 3) := by decide +kernel
theorem dX3_covers_29 : decode cX3_covers 29 = .ok (.aload_n 0, 1) := by decide +kernel
theorem dX3_covers_30 : decode cX3_covers 30 = .ok (.iconst 1, 1) := by decide +kernel
theorem dX3_covers_31 : decode cX3_covers 31 = .ok (.invokevirtual 71, 3) := by decide +kernel
theorem dX3_covers_34 : decode cX3_covers 34 = .ok (.ireturn, 1) := by decide +kernel
set_option maxRecDepth 20000 in
theorem ggX3_spreads_X3_covered : GoodIn wsX3_spreads wsX3_covered := goodIn_r _ [9, 1, 10, 11, 12, 13, 14, 15, 16, 17, 18, 19, 20, 21, 22, 23, 24, 25, 26, 27, 28, 29, 30, 31, 32] (by decide +kernel) (by decide +kernel)
set_option maxRecDepth 20000 in
theorem gX3_spreads_X3_covered : GoodIn wsX3_spreads (wsV RX3 98 RX3 yX3_covered wsX3_covered) := goodIn_app (goodIn_of _ (by decide +kernel)) ggX3_spreads_X3_covered
theorem dX3_spreads_0 : decode cX3_spreads 0 = .ok (.iconst 1, 1) := by decide +kernel
theorem dX3_spreads_1 : decode cX3_spreads 1 = .ok (.istore_n 2, 1) := by decide +kernel
theorem dX3_spreads_2 : decode cX3_spreads 2 = .ok (.iload_n 2, 1) := by decide +kernel
theorem dX3_spreads_3 : decode cX3_spreads 3 = .ok (.sipush 256, 3) := by decide +kernel
theorem dX3_spreads_6 : decode cX3_spreads 6 = .ok (.if_icmp .ge 103, 3) := by decide +kernel
theorem dX3_spreads_9 : decode cX3_spreads 9 = .ok (.iconst 0, 1) := by decide +kernel
theorem dX3_spreads_10 : decode cX3_spreads 10 = .ok (.istore_n 3, 1) := by decide +kernel
theorem dX3_spreads_11 : decode cX3_spreads 11 = .ok (.iload_n 2, 1) := by decide +kernel
theorem dX3_spreads_12 : decode cX3_spreads 12 = .ok (.iload_n 3, 1) := by decide +kernel
theorem dX3_spreads_13 : decode cX3_spreads 13 = .ok (.ishr, 1) := by decide +kernel
theorem dX3_spreads_14 : decode cX3_spreads 14 = .ok (.iconst 1, 1) := by decide +kernel
theorem dX3_spreads_15 : decode cX3_spreads 15 = .ok (.iand, 1) := by decide +kernel
theorem dX3_spreads_16 : decode cX3_spreads 16 = .ok (.ifCond .ne 9, 3) := by decide +kernel
theorem dX3_spreads_19 : decode cX3_spreads 19 = .ok (.iinc 3 1, 3) := by decide +kernel
theorem dX3_spreads_22 : decode cX3_spreads 22 = .ok (.goto (-11), 3) := by decide +kernel
theorem dX3_spreads_25 : decode cX3_spreads 25 = .ok (.aload_n 0, 1) := by decide +kernel
theorem dX3_spreads_26 : decode cX3_spreads 26 = .ok (.getfield 28, 3) := by decide +kernel
theorem dX3_spreads_29 : decode cX3_spreads 29 = .ok (.iload_n 1, 1) := by decide +kernel
theorem dX3_spreads_30 : decode cX3_spreads 30 = .ok (.iaload, 1) := by decide +kernel
theorem dX3_spreads_31 : decode cX3_spreads 31 = .ok (.iconst 1, 1) := by decide +kernel
theorem dX3_spreads_32 : decode cX3_spreads 32 = .ok (.if_icmp .eq 7, 3) := by decide +kernel
theorem dX3_spreads_35 : decode cX3_spreads 35 = .ok (.iconst 1, 1) := by decide +kernel
theorem dX3_spreads_36 : decode cX3_spreads 36 = .ok (.goto 23, 3) := by decide +kernel
theorem dX3_spreads_39 : decode cX3_spreads 39 = .ok (.aload_n 0, 1) := by decide +kernel
theorem dX3_spreads_40 : decode cX3_spreads 40 = .ok (.getfield 7, 3) := by decide +kernel
theorem dX3_spreads_43 : decode cX3_spreads 43 = .ok (.iload_n 3, 1) := by decide +kernel
theorem dX3_spreads_44 : decode cX3_spreads 44 = .ok (.iaload, 1) := by decide +kernel
theorem dX3_spreads_45 : decode cX3_spreads 45 = .ok (.iconst 4, 1) := by decide +kernel
theorem dX3_spreads_46 : decode cX3_spreads 46 = .ok (.if_icmp .ge 7, 3) := by decide +kernel
theorem dX3_spreads_49 : decode cX3_spreads 49 = .ok (.iconst 4, 1) := by decide +kernel
theorem dX3_spreads_50 : decode cX3_spreads 50 = .ok (.goto 9, 3) := by decide +kernel
theorem dX3_spreads_53 : decode cX3_spreads 53 = .ok (.aload_n 0, 1) := by decide +kernel
theorem dX3_spreads_54 : decode cX3_spreads 54 = .ok (.getfield 7, 3) := by decide +kernel
theorem dX3_spreads_57 : decode cX3_spreads 57 = .ok (.iload_n 3, 1) := by decide +kernel
theorem dX3_spreads_58 : decode cX3_spreads 58 = .ok (.iaload, 1) := by decide +kernel
theorem dX3_spreads_59 : decode cX3_spreads 59 = .ok (.istore 4, 2) := by decide +kernel
theorem dX3_spreads_61 : decode cX3_spreads 61 = .ok (.aload_n 0, 1) := by decide +kernel
theorem dX3_spreads_62 : decode cX3_spreads 62 = .ok (.getfield 50, 3) := by decide +kernel
theorem dX3_spreads_65 : decode cX3_spreads 65 = .ok (.iload_n 2, 1) := by decide +kernel
theorem dX3_spreads_66 : decode cX3_spreads 66 = .ok (.aload_n 0, 1) := by decide +kernel
theorem dX3_spreads_67 : decode cX3_spreads 67 = .ok (.getfield 50, 3) := by decide +kernel
theorem dX3_spreads_70 : decode cX3_spreads 70 = .ok (.iload_n 2, 1) := by decide +kernel
theorem dX3_spreads_71 : decode cX3_spreads 71 = .ok (.iconst 1, 1) := by decide +kernel
theorem dX3_spreads_72 : decode cX3_spreads 72 = .ok (.iload_n 3, 1) := by decide +kernel
theorem dX3_spreads_73 : decode cX3_spreads 73 = .ok (.ishl, 1) := by decide +kernel
theorem dX3_spreads_74 : decode cX3_spreads 74 = .ok (.isub, 1) := by decide +kernel
theorem dX3_spreads_75 : decode cX3_spreads 75 = .ok (.iaload, 1) := by decide +kernel
theorem dX3_spreads_76 : decode cX3_spreads 76 = .ok (.iload 4, 2) := by decide +kernel
theorem dX3_spreads_78 : decode cX3_spreads 78 = .ok (.iadd, 1) := by decide +kernel
theorem dX3_spreads_79 : decode cX3_spreads 79 = .ok (.iastore, 1) := by decide +kernel
theorem dX3_spreads_80 : decode cX3_spreads 80 = .ok (.aload_n 0, 1) := by decide +kernel
theorem dX3_spreads_81 : decode cX3_spreads 81 = .ok (.getfield 53, 3) := by decide +kernel
theorem dX3_spreads_84 : decode cX3_spreads 84 = .ok (.iload_n 2, 1) := by decide +kernel
theorem dX3_spreads_85 : decode cX3_spreads 85 = .ok (.aload_n 0, 1) := by decide +kernel
theorem dX3_spreads_86 : decode cX3_spreads 86 = .ok (.getfield 53, 3) := by decide +kernel
theorem dX3_spreads_89 : decode cX3_spreads 89 = .ok (.iload_n 2, 1) := by decide +kernel
theorem dX3_spreads_90 : decode cX3_spreads 90 = .ok (.iconst 1, 1) := by decide +kernel
theorem dX3_spreads_91 : decode cX3_spreads 91 = .ok (.iload_n 3, 1) := by decide +kernel
theorem dX3_spreads_92 : decode cX3_spreads 92 = .ok (.ishl, 1) := by decide +kernel
theorem dX3_spreads_93 : decode cX3_spreads 93 = .ok (.isub, 1) := by decide +kernel
theorem dX3_spreads_94 : decode cX3_spreads 94 = .ok (.iaload, 1) := by decide +kernel
theorem dX3_spreads_95 : decode cX3_spreads 95 = .ok (.aload_n 0, 1) := by decide +kernel
theorem dX3_spreads_96 : decode cX3_spreads 96 = .ok (.iload_n 1, 1) := by decide +kernel
theorem dX3_spreads_97 : decode cX3_spreads 97 = .ok (.iload_n 3, 1) := by decide +kernel
theorem dX3_spreads_98 : decode cX3_spreads 98 = .ok (.invokevirtual 98, 3) := by decide +kernel
theorem dX3_spreads_101 : decode cX3_spreads 101 = .ok (.ior, 1) := by decide +kernel
theorem dX3_spreads_102 : decode cX3_spreads 102 = .ok (.iastore, 1) := by decide +kernel
theorem dX3_spreads_103 : decode cX3_spreads 103 = .ok (.iinc 2 1, 3) := by decide +kernel
theorem dX3_spreads_106 : decode cX3_spreads 106 = .ok (.goto (-104), 3) := by decide +kernel
theorem dX3_spreads_109 : decode cX3_spreads 109 = .ok (.return_, 1) := by decide +kernel
set_option maxRecDepth 20000 in
theorem ggX3_least_X3_spreads : GoodIn wsX3_least wsX3_spreads := goodIn_r _ [15, 16, 17, 7, 8, 18, 19, 20, 14, 21, 22, 9, 3, 23, 29, 30, 31, 32, 33, 34, 35, 36, 37, 38, 39, 40, 41, 42, 43, 44, 45, 46, 47] (by decide +kernel) (by decide +kernel)
set_option maxRecDepth 20000 in
theorem gX3_least_X3_spreads : GoodIn wsX3_least (wsV RX3 101 RX3 yX3_spreads wsX3_spreads) := goodIn_app (goodIn_of _ (by decide +kernel)) ggX3_least_X3_spreads
set_option maxRecDepth 20000 in
theorem ggX3_least_X3_weighs : GoodIn wsX3_least wsX3_weighs := goodIn_r _ [27, 9, 17, 28, 29, 30, 31, 32, 33, 34, 35, 36, 37, 38, 39, 40, 41, 42, 43, 44, 45, 46, 47] (by decide +kernel) (by decide +kernel)
set_option maxRecDepth 20000 in
theorem gX3_least_X3_weighs : GoodIn wsX3_least (wsV RX3 95 RX3 yX3_weighs wsX3_weighs) := goodIn_app (goodIn_of _ (by decide +kernel)) ggX3_least_X3_weighs
theorem dX3_least_0 : decode cX3_least 0 = .ok (.iconst 0, 1) := by decide +kernel
theorem dX3_least_1 : decode cX3_least 1 = .ok (.istore_n 2, 1) := by decide +kernel
theorem dX3_least_2 : decode cX3_least 2 = .ok (.iload_n 2, 1) := by decide +kernel
theorem dX3_least_3 : decode cX3_least 3 = .ok (.sipush 256, 3) := by decide +kernel
theorem dX3_least_6 : decode cX3_least 6 = .ok (.if_icmp .ge 24, 3) := by decide +kernel
theorem dX3_least_9 : decode cX3_least 9 = .ok (.aload_n 0, 1) := by decide +kernel
theorem dX3_least_10 : decode cX3_least 10 = .ok (.getfield 43, 3) := by decide +kernel
theorem dX3_least_13 : decode cX3_least 13 = .ok (.iload_n 2, 1) := by decide +kernel
theorem dX3_least_14 : decode cX3_least 14 = .ok (.iload_n 2, 1) := by decide +kernel
theorem dX3_least_15 : decode cX3_least 15 = .ok (.ifCond .ne 7, 3) := by decide +kernel
theorem dX3_least_18 : decode cX3_least 18 = .ok (.iconst 1, 1) := by decide +kernel
theorem dX3_least_19 : decode cX3_least 19 = .ok (.goto 4, 3) := by decide +kernel
theorem dX3_least_22 : decode cX3_least 22 = .ok (.iconst 0, 1) := by decide +kernel
theorem dX3_least_23 : decode cX3_least 23 = .ok (.bastore, 1) := by decide +kernel
theorem dX3_least_24 : decode cX3_least 24 = .ok (.iinc 2 1, 3) := by decide +kernel
theorem dX3_least_27 : decode cX3_least 27 = .ok (.goto (-25), 3) := by decide +kernel
theorem dX3_least_30 : decode cX3_least 30 = .ok (.iconst 0, 1) := by decide +kernel
theorem dX3_least_31 : decode cX3_least 31 = .ok (.istore_n 2, 1) := by decide +kernel
theorem dX3_least_32 : decode cX3_least 32 = .ok (.iload_n 2, 1) := by decide +kernel
theorem dX3_least_33 : decode cX3_least 33 = .ok (.aload_n 0, 1) := by decide +kernel
theorem dX3_least_34 : decode cX3_least 34 = .ok (.getfield 64, 3) := by decide +kernel
theorem dX3_least_37 : decode cX3_least 37 = .ok (.if_icmp .ge 150, 3) := by decide +kernel
theorem dX3_least_40 : decode cX3_least 40 = .ok (.aload_n 0, 1) := by decide +kernel
theorem dX3_least_41 : decode cX3_least 41 = .ok (.getfield 25, 3) := by decide +kernel
theorem dX3_least_44 : decode cX3_least 44 = .ok (.iload_n 2, 1) := by decide +kernel
theorem dX3_least_45 : decode cX3_least 45 = .ok (.iaload, 1) := by decide +kernel
theorem dX3_least_46 : decode cX3_least 46 = .ok (.iload_n 1, 1) := by decide +kernel
theorem dX3_least_47 : decode cX3_least 47 = .ok (.if_icmp .ne 134, 3) := by decide +kernel
theorem dX3_least_50 : decode cX3_least 50 = .ok (.aload_n 0, 1) := by decide +kernel
theorem dX3_least_51 : decode cX3_least 51 = .ok (.getfield 31, 3) := by decide +kernel
theorem dX3_least_54 : decode cX3_least 54 = .ok (.iload_n 2, 1) := by decide +kernel
theorem dX3_least_55 : decode cX3_least 55 = .ok (.iaload, 1) := by decide +kernel
theorem dX3_least_56 : decode cX3_least 56 = .ok (.ifCond .le 125, 3) := by decide +kernel
theorem dX3_least_59 : decode cX3_least 59 = .ok (.aload_n 0, 1) := by decide +kernel
theorem dX3_least_60 : decode cX3_least 60 = .ok (.iload_n 2, 1) := by decide +kernel
theorem dX3_least_61 : decode cX3_least 61 = .ok (.invokevirtual 101, 3) := by decide +kernel
theorem dX3_least_64 : decode cX3_least 64 = .ok (.iconst 0, 1) := by decide +kernel
theorem dX3_least_65 : decode cX3_least 65 = .ok (.istore_n 3, 1) := by decide +kernel
theorem dX3_least_66 : decode cX3_least 66 = .ok (.iload_n 3, 1) := by decide +kernel
theorem dX3_least_67 : decode cX3_least 67 = .ok (.sipush 256, 3) := by decide +kernel
theorem dX3_least_70 : decode cX3_least 70 = .ok (.if_icmp .ge 16, 3) := by decide +kernel
theorem dX3_least_73 : decode cX3_least 73 = .ok (.aload_n 0, 1) := by decide +kernel
theorem dX3_least_74 : decode cX3_least 74 = .ok (.getfield 47, 3) := by decide +kernel
theorem dX3_least_77 : decode cX3_least 77 = .ok (.iload_n 3, 1) := by decide +kernel
theorem dX3_least_78 : decode cX3_least 78 = .ok (.iconst 0, 1) := by decide +kernel
theorem dX3_least_79 : decode cX3_least 79 = .ok (.bastore, 1) := by decide +kernel
theorem dX3_least_80 : decode cX3_least 80 = .ok (.iinc 3 1, 3) := by decide +kernel
theorem dX3_least_83 : decode cX3_least 83 = .ok (.goto (-17), 3) := by decide +kernel
theorem dX3_least_86 : decode cX3_least 86 = .ok (.iconst 0, 1) := by decide +kernel
theorem dX3_least_87 : decode cX3_least 87 = .ok (.istore_n 3, 1) := by decide +kernel
theorem dX3_least_88 : decode cX3_least 88 = .ok (.iload_n 3, 1) := by decide +kernel
theorem dX3_least_89 : decode cX3_least 89 = .ok (.ldc 105, 2) := by decide +kernel
theorem dX3_least_91 : decode cX3_least 91 = .ok (.if_icmp .ge 63, 3) := by decide +kernel
theorem dX3_least_94 : decode cX3_least 94 = .ok (.aload_n 0, 1) := by decide +kernel
theorem dX3_least_95 : decode cX3_least 95 = .ok (.getfield 43, 3) := by decide +kernel
theorem dX3_least_98 : decode cX3_least 98 = .ok (.iload_n 3, 1) := by decide +kernel
theorem dX3_least_99 : decode cX3_least 99 = .ok (.sipush 256, 3) := by decide +kernel
theorem dX3_least_102 : decode cX3_least 102 = .ok (.idiv, 1) := by decide +kernel
theorem dX3_least_103 : decode cX3_least 103 = .ok (.baload, 1) := by decide +kernel
theorem dX3_least_104 : decode cX3_least 104 = .ok (.ifCond .eq 44, 3) := by decide +kernel
theorem dX3_least_107 : decode cX3_least 107 = .ok (.aload_n 0, 1) := by decide +kernel
theorem dX3_least_108 : decode cX3_least 108 = .ok (.getfield 50, 3) := by decide +kernel
theorem dX3_least_111 : decode cX3_least 111 = .ok (.iload_n 3, 1) := by decide +kernel
theorem dX3_least_112 : decode cX3_least 112 = .ok (.sipush 256, 3) := by decide +kernel
theorem dX3_least_115 : decode cX3_least 115 = .ok (.irem, 1) := by decide +kernel
theorem dX3_least_116 : decode cX3_least 116 = .ok (.iaload, 1) := by decide +kernel
theorem dX3_least_117 : decode cX3_least 117 = .ok (.aload_n 0, 1) := by decide +kernel
theorem dX3_least_118 : decode cX3_least 118 = .ok (.getfield 31, 3) := by decide +kernel
theorem dX3_least_121 : decode cX3_least 121 = .ok (.iload_n 2, 1) := by decide +kernel
theorem dX3_least_122 : decode cX3_least 122 = .ok (.iaload, 1) := by decide +kernel
theorem dX3_least_123 : decode cX3_least 123 = .ok (.if_icmp .gt 25, 3) := by decide +kernel
theorem dX3_least_126 : decode cX3_least 126 = .ok (.aload_n 0, 1) := by decide +kernel
theorem dX3_least_127 : decode cX3_least 127 = .ok (.getfield 47, 3) := by decide +kernel
theorem dX3_least_130 : decode cX3_least 130 = .ok (.iload_n 3, 1) := by decide +kernel
theorem dX3_least_131 : decode cX3_least 131 = .ok (.sipush 256, 3) := by decide +kernel
theorem dX3_least_134 : decode cX3_least 134 = .ok (.idiv, 1) := by decide +kernel
theorem dX3_least_135 : decode cX3_least 135 = .ok (.aload_n 0, 1) := by decide +kernel
theorem dX3_least_136 : decode cX3_least 136 = .ok (.getfield 53, 3) := by decide +kernel
theorem dX3_least_139 : decode cX3_least 139 = .ok (.iload_n 3, 1) := by decide +kernel
theorem dX3_least_140 : decode cX3_least 140 = .ok (.sipush 256, 3) := by decide +kernel
theorem dX3_least_143 : decode cX3_least 143 = .ok (.irem, 1) := by decide +kernel
theorem dX3_least_144 : decode cX3_least 144 = .ok (.iaload, 1) := by decide +kernel
theorem dX3_least_145 : decode cX3_least 145 = .ok (.ior, 1) := by decide +kernel
theorem dX3_least_146 : decode cX3_least 146 = .ok (.iconst 1, 1) := by decide +kernel
theorem dX3_least_147 : decode cX3_least 147 = .ok (.bastore, 1) := by decide +kernel
theorem dX3_least_148 : decode cX3_least 148 = .ok (.iinc 3 1, 3) := by decide +kernel
theorem dX3_least_151 : decode cX3_least 151 = .ok (.goto (-63), 3) := by decide +kernel
theorem dX3_least_154 : decode cX3_least 154 = .ok (.iconst 0, 1) := by decide +kernel
theorem dX3_least_155 : decode cX3_least 155 = .ok (.istore_n 3, 1) := by decide +kernel
theorem dX3_least_156 : decode cX3_least 156 = .ok (.iload_n 3, 1) := by decide +kernel
theorem dX3_least_157 : decode cX3_least 157 = .ok (.sipush 256, 3) := by decide +kernel
theorem dX3_least_160 : decode cX3_least 160 = .ok (.if_icmp .ge 21, 3) := by decide +kernel
theorem dX3_least_163 : decode cX3_least 163 = .ok (.aload_n 0, 1) := by decide +kernel
theorem dX3_least_164 : decode cX3_least 164 = .ok (.getfield 43, 3) := by decide +kernel
theorem dX3_least_167 : decode cX3_least 167 = .ok (.iload_n 3, 1) := by decide +kernel
theorem dX3_least_168 : decode cX3_least 168 = .ok (.aload_n 0, 1) := by decide +kernel
theorem dX3_least_169 : decode cX3_least 169 = .ok (.getfield 47, 3) := by decide +kernel
theorem dX3_least_172 : decode cX3_least 172 = .ok (.iload_n 3, 1) := by decide +kernel
theorem dX3_least_173 : decode cX3_least 173 = .ok (.baload, 1) := by decide +kernel
theorem dX3_least_174 : decode cX3_least 174 = .ok (.bastore, 1) := by decide +kernel
theorem dX3_least_175 : decode cX3_least 175 = .ok (.iinc 3 1, 3) := by decide +kernel
theorem dX3_least_178 : decode cX3_least 178 = .ok (.goto (-22), 3) := by decide +kernel
theorem dX3_least_181 : decode cX3_least 181 = .ok (.iinc 2 1, 3) := by decide +kernel
theorem dX3_least_184 : decode cX3_least 184 = .ok (.goto (-152), 3) := by decide +kernel
theorem dX3_least_187 : decode cX3_least 187 = .ok (.iconst 0, 1) := by decide +kernel
theorem dX3_least_188 : decode cX3_least 188 = .ok (.istore_n 2, 1) := by decide +kernel
theorem dX3_least_189 : decode cX3_least 189 = .ok (.iconst 0, 1) := by decide +kernel
theorem dX3_least_190 : decode cX3_least 190 = .ok (.istore_n 3, 1) := by decide +kernel
theorem dX3_least_191 : decode cX3_least 191 = .ok (.iload_n 3, 1) := by decide +kernel
theorem dX3_least_192 : decode cX3_least 192 = .ok (.bipush 8, 2) := by decide +kernel
theorem dX3_least_194 : decode cX3_least 194 = .ok (.if_icmp .ge 32, 3) := by decide +kernel
theorem dX3_least_197 : decode cX3_least 197 = .ok (.iload_n 2, 1) := by decide +kernel
theorem dX3_least_198 : decode cX3_least 198 = .ok (.aload_n 0, 1) := by decide +kernel
theorem dX3_least_199 : decode cX3_least 199 = .ok (.getfield 16, 3) := by decide +kernel
theorem dX3_least_202 : decode cX3_least 202 = .ok (.iconst 4, 1) := by decide +kernel
theorem dX3_least_203 : decode cX3_least 203 = .ok (.iload_n 3, 1) := by decide +kernel
theorem dX3_least_204 : decode cX3_least 204 = .ok (.imul, 1) := by decide +kernel
theorem dX3_least_205 : decode cX3_least 205 = .ok (.iload_n 1, 1) := by decide +kernel
theorem dX3_least_206 : decode cX3_least 206 = .ok (.iadd, 1) := by decide +kernel
theorem dX3_least_207 : decode cX3_least 207 = .ok (.iaload, 1) := by decide +kernel
theorem dX3_least_208 : decode cX3_least 208 = .ok (.ifCond .le 9, 3) := by decide +kernel
theorem dX3_least_211 : decode cX3_least 211 = .ok (.iconst 1, 1) := by decide +kernel
theorem dX3_least_212 : decode cX3_least 212 = .ok (.iload_n 3, 1) := by decide +kernel
theorem dX3_least_213 : decode cX3_least 213 = .ok (.ishl, 1) := by decide +kernel
theorem dX3_least_214 : decode cX3_least 214 = .ok (.goto 4, 3) := by decide +kernel
theorem dX3_least_217 : decode cX3_least 217 = .ok (.iconst 0, 1) := by decide +kernel
theorem dX3_least_218 : decode cX3_least 218 = .ok (.ior, 1) := by decide +kernel
theorem dX3_least_219 : decode cX3_least 219 = .ok (.istore_n 2, 1) := by decide +kernel
theorem dX3_least_220 : decode cX3_least 220 = .ok (.iinc 3 1, 3) := by decide +kernel
theorem dX3_least_223 : decode cX3_least 223 = .ok (.goto (-32), 3) := by decide +kernel
theorem dX3_least_226 : decode cX3_least 226 = .ok (.iconst (-1), 1) := by decide +kernel
theorem dX3_least_227 : decode cX3_least 227 = .ok (.istore_n 3, 1) := by decide +kernel
theorem dX3_least_228 : decode cX3_least 228 = .ok (.iconst 0, 1) := by decide +kernel
theorem dX3_least_229 : decode cX3_least 229 = .ok (.istore 4, 2) := by decide +kernel
theorem dX3_least_231 : decode cX3_least 231 = .ok (.iload 4, 2) := by decide +kernel
theorem dX3_least_233 : decode cX3_least 233 = .ok (.sipush 256, 3) := by decide +kernel
theorem dX3_least_236 : decode cX3_least 236 = .ok (.if_icmp .ge 136, 3) := by decide +kernel
theorem dX3_least_239 : decode cX3_least 239 = .ok (.iload_n 2, 1) := by decide +kernel
theorem dX3_least_240 : decode cX3_least 240 = .ok (.iload 4, 2) := by decide +kernel
theorem dX3_least_242 : decode cX3_least 242 = .ok (.iconst (-1), 1) := by decide +kernel
theorem dX3_least_243 : decode cX3_least 243 = .ok (.ixor, 1) := by decide +kernel
theorem dX3_least_244 : decode cX3_least 244 = .ok (.iand, 1) := by decide +kernel
theorem dX3_least_245 : decode cX3_least 245 = .ok (.istore 5, 2) := by decide +kernel
theorem dX3_least_247 : decode cX3_least 247 = .ok (.iconst 0, 1) := by decide +kernel
theorem dX3_least_248 : decode cX3_least 248 = .ok (.istore 6, 2) := by decide +kernel
theorem dX3_least_250 : decode cX3_least 250 = .ok (.iconst 0, 1) := by decide +kernel
theorem dX3_least_251 : decode cX3_least 251 = .ok (.istore 7, 2) := by decide +kernel
theorem dX3_least_253 : decode cX3_least 253 = .ok (.iload 7, 2) := by decide +kernel
theorem dX3_least_255 : decode cX3_least 255 = .ok (.bipush 8, 2) := by decide +kernel
theorem dX3_least_257 : decode cX3_least 257 = .ok (.if_icmp .ge 36, 3) := by decide +kernel
theorem dX3_least_260 : decode cX3_least 260 = .ok (.iload 6, 2) := by decide +kernel
theorem dX3_least_262 : decode cX3_least 262 = .ok (.iload 5, 2) := by decide +kernel
theorem dX3_least_264 : decode cX3_least 264 = .ok (.iload 7, 2) := by decide +kernel
theorem dX3_least_266 : decode cX3_least 266 = .ok (.ishr, 1) := by decide +kernel
theorem dX3_least_267 : decode cX3_least 267 = .ok (.iconst 1, 1) := by decide +kernel
theorem dX3_least_268 : decode cX3_least 268 = .ok (.iand, 1) := by decide +kernel
theorem dX3_least_269 : decode cX3_least 269 = .ok (.iconst 1, 1) := by decide +kernel
theorem dX3_least_270 : decode cX3_least 270 = .ok (.if_icmp .ne 13, 3) := by decide +kernel
theorem dX3_least_273 : decode cX3_least 273 = .ok (.aload_n 0, 1) := by decide +kernel
theorem dX3_least_274 : decode cX3_least 274 = .ok (.iload 7, 2) := by decide +kernel
theorem dX3_least_276 : decode cX3_least 276 = .ok (.iload_n 1, 1) := by decide +kernel
theorem dX3_least_277 : decode cX3_least 277 = .ok (.invokevirtual 95, 3) := by decide +kernel
theorem dX3_least_280 : decode cX3_least 280 = .ok (.goto 4, 3) := by decide +kernel
theorem dX3_least_283 : decode cX3_least 283 = .ok (.iconst 0, 1) := by decide +kernel
theorem dX3_least_284 : decode cX3_least 284 = .ok (.iadd, 1) := by decide +kernel
theorem dX3_least_285 : decode cX3_least 285 = .ok (.istore 6, 2) := by decide +kernel
theorem dX3_least_287 : decode cX3_least 287 = .ok (.iinc 7 1, 3) := by decide +kernel
theorem dX3_least_290 : decode cX3_least 290 = .ok (.goto (-37), 3) := by decide +kernel
theorem dX3_least_293 : decode cX3_least 293 = .ok (.aload_n 0, 1) := by decide +kernel
theorem dX3_least_294 : decode cX3_least 294 = .ok (.getfield 43, 3) := by decide +kernel
theorem dX3_least_297 : decode cX3_least 297 = .ok (.iload 4, 2) := by decide +kernel
theorem dX3_least_299 : decode cX3_least 299 = .ok (.baload, 1) := by decide +kernel
theorem dX3_least_300 : decode cX3_least 300 = .ok (.ifCond .eq 33, 3) := by decide +kernel
theorem dX3_least_303 : decode cX3_least 303 = .ok (.iload_n 3, 1) := by decide +kernel
theorem dX3_least_304 : decode cX3_least 304 = .ok (.iconst (-1), 1) := by decide +kernel
theorem dX3_least_305 : decode cX3_least 305 = .ok (.if_icmp .eq 24, 3) := by decide +kernel
theorem dX3_least_308 : decode cX3_least 308 = .ok (.iload 6, 2) := by decide +kernel
theorem dX3_least_310 : decode cX3_least 310 = .ok (.iload_n 3, 1) := by decide +kernel
theorem dX3_least_311 : decode cX3_least 311 = .ok (.if_icmp .lt 18, 3) := by decide +kernel
theorem dX3_least_314 : decode cX3_least 314 = .ok (.iload 6, 2) := by decide +kernel
theorem dX3_least_316 : decode cX3_least 316 = .ok (.iload_n 3, 1) := by decide +kernel
theorem dX3_least_317 : decode cX3_least 317 = .ok (.if_icmp .ne 16, 3) := by decide +kernel
theorem dX3_least_320 : decode cX3_least 320 = .ok (.iload 5, 2) := by decide +kernel
theorem dX3_least_322 : decode cX3_least 322 = .ok (.aload_n 0, 1) := by decide +kernel
theorem dX3_least_323 : decode cX3_least 323 = .ok (.getfield 106, 3) := by decide +kernel
theorem dX3_least_326 : decode cX3_least 326 = .ok (.if_icmp .ge 7, 3) := by decide +kernel
theorem dX3_least_329 : decode cX3_least 329 = .ok (.iconst 1, 1) := by decide +kernel
theorem dX3_least_330 : decode cX3_least 330 = .ok (.goto 4, 3) := by decide +kernel
theorem dX3_least_333 : decode cX3_least 333 = .ok (.iconst 0, 1) := by decide +kernel
theorem dX3_least_334 : decode cX3_least 334 = .ok (.istore 7, 2) := by decide +kernel
theorem dX3_least_336 : decode cX3_least 336 = .ok (.iload 7, 2) := by decide +kernel
theorem dX3_least_338 : decode cX3_least 338 = .ok (.ifCond .eq 8, 3) := by decide +kernel
theorem dX3_least_341 : decode cX3_least 341 = .ok (.iload 6, 2) := by decide +kernel
theorem dX3_least_343 : decode cX3_least 343 = .ok (.goto 4, 3) := by decide +kernel
theorem dX3_least_346 : decode cX3_least 346 = .ok (.iload_n 3, 1) := by decide +kernel
theorem dX3_least_347 : decode cX3_least 347 = .ok (.istore_n 3, 1) := by decide +kernel
theorem dX3_least_348 : decode cX3_least 348 = .ok (.aload_n 0, 1) := by decide +kernel
theorem dX3_least_349 : decode cX3_least 349 = .ok (.iload 7, 2) := by decide +kernel
theorem dX3_least_351 : decode cX3_least 351 = .ok (.ifCond .eq 8, 3) := by decide +kernel
theorem dX3_least_354 : decode cX3_least 354 = .ok (.iload 5, 2) := by decide +kernel
theorem dX3_least_356 : decode cX3_least 356 = .ok (.goto 7, 3) := by decide +kernel
theorem dX3_least_359 : decode cX3_least 359 = .ok (.aload_n 0, 1) := by decide +kernel
theorem dX3_least_360 : decode cX3_least 360 = .ok (.getfield 106, 3) := by decide +kernel
theorem dX3_least_363 : decode cX3_least 363 = .ok (.putfield 106, 3) := by decide +kernel
theorem dX3_least_366 : decode cX3_least 366 = .ok (.iinc 4 1, 3) := by decide +kernel
theorem dX3_least_369 : decode cX3_least 369 = .ok (.goto (-138), 3) := by decide +kernel
theorem dX3_least_372 : decode cX3_least 372 = .ok (.iload_n 3, 1) := by decide +kernel
theorem dX3_least_373 : decode cX3_least 373 = .ok (.ireturn, 1) := by decide +kernel
set_option maxRecDepth 20000 in
theorem ggX3_gap_X3_isProduct : GoodIn wsX3_gap wsX3_isProduct := goodIn_r _ [5, 6, 7, 4, 8] (by decide +kernel) (by decide +kernel)
set_option maxRecDepth 20000 in
theorem gX3_gap_X3_isProduct : GoodIn wsX3_gap (va_wsS RX3 82 yX3_isProduct wsX3_isProduct) := goodIn_app (goodIn_of _ (by decide +kernel)) ggX3_gap_X3_isProduct
set_option maxRecDepth 20000 in
theorem ggX3_gap_X3_least : GoodIn wsX3_gap wsX3_least := goodIn_r _ [12, 13, 14, 15, 16, 17, 18, 19, 20, 21, 22, 23, 24, 25, 4, 26, 27, 28, 29, 30, 31, 32, 33, 34, 35, 36, 37, 38, 39, 44, 45, 46, 47, 48, 49, 50, 51, 52, 53, 54, 55, 56, 57, 58, 59, 60, 61, 62] (by decide +kernel) (by decide +kernel)
set_option maxRecDepth 20000 in
theorem gX3_gap_X3_least : GoodIn wsX3_gap (wsV RX3 109 RX3 yX3_least wsX3_least) := goodIn_app (goodIn_of _ (by decide +kernel)) ggX3_gap_X3_least
set_option maxRecDepth 20000 in
theorem ggX3_gap_X3_fails : GoodIn wsX3_gap wsX3_fails := goodIn_r _ [43, 1, 44, 45, 46, 47, 48, 49, 50, 51, 52, 53, 54, 55, 56, 57, 58, 59, 60, 61, 62] (by decide +kernel) (by decide +kernel)
set_option maxRecDepth 20000 in
theorem gX3_gap_X3_fails : GoodIn wsX3_gap (wsV RX3 71 RX3 yX3_fails wsX3_fails) := goodIn_app (goodIn_of _ (by decide +kernel)) ggX3_gap_X3_fails
theorem dX3_gap_0 : decode cX3_gap 0 = .ok (.aload_n 0, 1) := by decide +kernel
theorem dX3_gap_1 : decode cX3_gap 1 = .ok (.iconst 0, 1) := by decide +kernel
theorem dX3_gap_2 : decode cX3_gap 2 = .ok (.putfield 56, 3) := by decide +kernel
theorem dX3_gap_5 : decode cX3_gap 5 = .ok (.iload_n 1, 1) := by decide +kernel
theorem dX3_gap_6 : decode cX3_gap 6 = .ok (.invokestatic 82, 3) := by decide +kernel
theorem dX3_gap_9 : decode cX3_gap 9 = .ok (.ifCond .eq 11, 3) := by decide +kernel
theorem dX3_gap_12 : decode cX3_gap 12 = .ok (.aload_n 0, 1) := by decide +kernel
theorem dX3_gap_13 : decode cX3_gap 13 = .ok (.iload_n 1, 1) := by decide +kernel
theorem dX3_gap_14 : decode cX3_gap 14 = .ok (.invokevirtual 109, 3) := by decide +kernel
theorem dX3_gap_17 : decode cX3_gap 17 = .ok (.goto 8, 3) := by decide +kernel
theorem dX3_gap_20 : decode cX3_gap 20 = .ok (.aload_n 0, 1) := by decide +kernel
theorem dX3_gap_21 : decode cX3_gap 21 = .ok (.iconst 1, 1) := by decide +kernel
theorem dX3_gap_22 : decode cX3_gap 22 = .ok (.invokevirtual 71, 3) := by decide +kernel
theorem dX3_gap_25 : decode cX3_gap 25 = .ok (.ireturn, 1) := by decide +kernel
set_option maxRecDepth 20000 in
theorem ggX3_uncovered_X3_isProduct : GoodIn wsX3_uncovered wsX3_isProduct := goodIn_r _ [6, 7, 8, 5, 9] (by decide +kernel) (by decide +kernel)
set_option maxRecDepth 20000 in
theorem gX3_uncovered_X3_isProduct : GoodIn wsX3_uncovered (va_wsS RX3 82 yX3_isProduct wsX3_isProduct) := goodIn_app (goodIn_of _ (by decide +kernel)) ggX3_uncovered_X3_isProduct
set_option maxRecDepth 20000 in
theorem ggX3_uncovered_X3_fails : GoodIn wsX3_uncovered wsX3_fails := goodIn_r _ [13, 1, 44, 45, 46, 47, 48, 49, 50, 51, 52, 53, 54, 55, 56, 57, 58, 59, 60, 61, 62] (by decide +kernel) (by decide +kernel)
set_option maxRecDepth 20000 in
theorem gX3_uncovered_X3_fails : GoodIn wsX3_uncovered (wsV RX3 71 RX3 yX3_fails wsX3_fails) := goodIn_app (goodIn_of _ (by decide +kernel)) ggX3_uncovered_X3_fails
set_option maxRecDepth 20000 in
theorem ggX3_uncovered_X3_least : GoodIn wsX3_uncovered wsX3_least := goodIn_r _ [17, 18, 19, 20, 21, 22, 23, 24, 25, 26, 2, 27, 28, 29, 5, 30, 31, 32, 33, 34, 35, 36, 37, 38, 39, 40, 41, 42, 43, 44, 45, 46, 47, 48, 49, 50, 51, 52, 53, 54, 55, 56, 57, 58, 59, 60, 61, 62] (by decide +kernel) (by decide +kernel)
set_option maxRecDepth 20000 in
theorem gX3_uncovered_X3_least : GoodIn wsX3_uncovered (wsV RX3 109 RX3 yX3_least wsX3_least) := goodIn_app (goodIn_of _ (by decide +kernel)) ggX3_uncovered_X3_least
theorem dX3_uncovered_0 : decode cX3_uncovered 0 = .ok (.aload_n 0, 1) := by decide +kernel
theorem dX3_uncovered_1 : decode cX3_uncovered 1 = .ok (.iconst 0, 1) := by decide +kernel
theorem dX3_uncovered_2 : decode cX3_uncovered 2 = .ok (.putfield 56, 3) := by decide +kernel
theorem dX3_uncovered_5 : decode cX3_uncovered 5 = .ok (.iload_n 1, 1) := by decide +kernel
theorem dX3_uncovered_6 : decode cX3_uncovered 6 = .ok (.invokestatic 82, 3) := by decide +kernel
theorem dX3_uncovered_9 : decode cX3_uncovered 9 = .ok (.ifCond .ne 9, 3) := by decide +kernel
theorem dX3_uncovered_12 : decode cX3_uncovered 12 = .ok (.aload_n 0, 1) := by decide +kernel
theorem dX3_uncovered_13 : decode cX3_uncovered 13 = .ok (.iconst 1, 1) := by decide +kernel
theorem dX3_uncovered_14 : decode cX3_uncovered 14 = .ok (.invokevirtual 71, 3) := by decide +kernel
theorem dX3_uncovered_17 : decode cX3_uncovered 17 = .ok (.ireturn, 1) := by decide +kernel
theorem dX3_uncovered_18 : decode cX3_uncovered 18 = .ok (.aload_n 0, 1) := by decide +kernel
theorem dX3_uncovered_19 : decode cX3_uncovered 19 = .ok (.iload_n 1, 1) := by decide +kernel
theorem dX3_uncovered_20 : decode cX3_uncovered 20 = .ok (.invokevirtual 109, 3) := by decide +kernel
theorem dX3_uncovered_23 : decode cX3_uncovered 23 = .ok (.istore_n 2, 1) := by decide +kernel
theorem dX3_uncovered_24 : decode cX3_uncovered 24 = .ok (.aload_n 0, 1) := by decide +kernel
theorem dX3_uncovered_25 : decode cX3_uncovered 25 = .ok (.getfield 106, 3) := by decide +kernel
theorem dX3_uncovered_28 : decode cX3_uncovered 28 = .ok (.ireturn, 1) := by decide +kernel
set_option maxRecDepth 20000 in
theorem ggX3_gapByAll_X3_isProduct : GoodIn wsX3_gapByAll wsX3_isProduct := goodIn_r _ [8, 9, 10, 7, 11] (by decide +kernel) (by decide +kernel)
set_option maxRecDepth 20000 in
theorem gX3_gapByAll_X3_isProduct : GoodIn wsX3_gapByAll (va_wsS RX3 82 yX3_isProduct wsX3_isProduct) := goodIn_app (goodIn_of _ (by decide +kernel)) ggX3_gapByAll_X3_isProduct
set_option maxRecDepth 20000 in
theorem ggX3_gapByAll_X3_fails : GoodIn wsX3_gapByAll wsX3_fails := goodIn_r _ [15, 1, 44, 45, 46, 47, 48, 49, 50, 51, 52, 53, 54, 55, 56, 57, 58, 59, 60, 61, 62] (by decide +kernel) (by decide +kernel)
set_option maxRecDepth 20000 in
theorem gX3_gapByAll_X3_fails : GoodIn wsX3_gapByAll (wsV RX3 71 RX3 yX3_fails wsX3_fails) := goodIn_app (goodIn_of _ (by decide +kernel)) ggX3_gapByAll_X3_fails
set_option maxRecDepth 20000 in
theorem ggX3_gapByAll_X3_least : GoodIn wsX3_gapByAll wsX3_least := goodIn_r _ [19, 20, 2, 3, 4, 21, 22, 23, 24, 25, 26, 27, 28, 29, 7, 30, 31, 32, 33, 34, 35, 36, 37, 38, 39, 40, 41, 42, 43, 44, 45, 46, 47, 48, 49, 50, 51, 52, 53, 54, 55, 56, 57, 58, 59, 60, 61, 62] (by decide +kernel) (by decide +kernel)
set_option maxRecDepth 20000 in
theorem gX3_gapByAll_X3_least : GoodIn wsX3_gapByAll (wsV RX3 109 RX3 yX3_least wsX3_least) := goodIn_app (goodIn_of _ (by decide +kernel)) ggX3_gapByAll_X3_least
theorem dX3_gapByAll_0 : decode cX3_gapByAll 0 = .ok (.aload_n 0, 1) := by decide +kernel
theorem dX3_gapByAll_1 : decode cX3_gapByAll 1 = .ok (.iconst 0, 1) := by decide +kernel
theorem dX3_gapByAll_2 : decode cX3_gapByAll 2 = .ok (.putfield 56, 3) := by decide +kernel
theorem dX3_gapByAll_5 : decode cX3_gapByAll 5 = .ok (.iload_n 1, 1) := by decide +kernel
theorem dX3_gapByAll_6 : decode cX3_gapByAll 6 = .ok (.invokestatic 82, 3) := by decide +kernel
theorem dX3_gapByAll_9 : decode cX3_gapByAll 9 = .ok (.ifCond .ne 9, 3) := by decide +kernel
theorem dX3_gapByAll_12 : decode cX3_gapByAll 12 = .ok (.aload_n 0, 1) := by decide +kernel
theorem dX3_gapByAll_13 : decode cX3_gapByAll 13 = .ok (.iconst 1, 1) := by decide +kernel
theorem dX3_gapByAll_14 : decode cX3_gapByAll 14 = .ok (.invokevirtual 71, 3) := by decide +kernel
theorem dX3_gapByAll_17 : decode cX3_gapByAll 17 = .ok (.ireturn, 1) := by decide +kernel
theorem dX3_gapByAll_18 : decode cX3_gapByAll 18 = .ok (.iconst 0, 1) := by decide +kernel
theorem dX3_gapByAll_19 : decode cX3_gapByAll 19 = .ok (.istore_n 2, 1) := by decide +kernel
theorem dX3_gapByAll_20 : decode cX3_gapByAll 20 = .ok (.iconst 0, 1) := by decide +kernel
theorem dX3_gapByAll_21 : decode cX3_gapByAll 21 = .ok (.istore_n 3, 1) := by decide +kernel
theorem dX3_gapByAll_22 : decode cX3_gapByAll 22 = .ok (.iload_n 3, 1) := by decide +kernel
theorem dX3_gapByAll_23 : decode cX3_gapByAll 23 = .ok (.aload_n 0, 1) := by decide +kernel
theorem dX3_gapByAll_24 : decode cX3_gapByAll 24 = .ok (.getfield 64, 3) := by decide +kernel
theorem dX3_gapByAll_27 : decode cX3_gapByAll 27 = .ok (.if_icmp .ge 36, 3) := by decide +kernel
theorem dX3_gapByAll_30 : decode cX3_gapByAll 30 = .ok (.iload_n 2, 1) := by decide +kernel
theorem dX3_gapByAll_31 : decode cX3_gapByAll 31 = .ok (.aload_n 0, 1) := by decide +kernel
theorem dX3_gapByAll_32 : decode cX3_gapByAll 32 = .ok (.getfield 25, 3) := by decide +kernel
theorem dX3_gapByAll_35 : decode cX3_gapByAll 35 = .ok (.iload_n 3, 1) := by decide +kernel
theorem dX3_gapByAll_36 : decode cX3_gapByAll 36 = .ok (.iaload, 1) := by decide +kernel
theorem dX3_gapByAll_37 : decode cX3_gapByAll 37 = .ok (.iload_n 1, 1) := by decide +kernel
theorem dX3_gapByAll_38 : decode cX3_gapByAll 38 = .ok (.if_icmp .ne 16, 3) := by decide +kernel
theorem dX3_gapByAll_41 : decode cX3_gapByAll 41 = .ok (.aload_n 0, 1) := by decide +kernel
theorem dX3_gapByAll_42 : decode cX3_gapByAll 42 = .ok (.getfield 31, 3) := by decide +kernel
theorem dX3_gapByAll_45 : decode cX3_gapByAll 45 = .ok (.iload_n 3, 1) := by decide +kernel
theorem dX3_gapByAll_46 : decode cX3_gapByAll 46 = .ok (.iaload, 1) := by decide +kernel
theorem dX3_gapByAll_47 : decode cX3_gapByAll 47 = .ok (.ifCond .le 7, 3) := by decide +kernel
theorem dX3_gapByAll_50 : decode cX3_gapByAll 50 = .ok (.iconst 1, 1) := by decide +kernel
theorem dX3_gapByAll_51 : decode cX3_gapByAll 51 = .ok (.goto 4, 3) := by decide +kernel
theorem dX3_gapByAll_54 : decode cX3_gapByAll 54 = .ok (.iconst 0, 1) := by decide +kernel
theorem dX3_gapByAll_55 : decode cX3_gapByAll 55 = .ok (.iadd, 1) := by decide +kernel
theorem dX3_gapByAll_56 : decode cX3_gapByAll 56 = .ok (.istore_n 2, 1) := by decide +kernel
theorem dX3_gapByAll_57 : decode cX3_gapByAll 57 = .ok (.iinc 3 1, 3) := by decide +kernel
theorem dX3_gapByAll_60 : decode cX3_gapByAll 60 = .ok (.goto (-38), 3) := by decide +kernel
theorem dX3_gapByAll_63 : decode cX3_gapByAll 63 = .ok (.iload_n 2, 1) := by decide +kernel
theorem dX3_gapByAll_64 : decode cX3_gapByAll 64 = .ok (.iconst 2, 1) := by decide +kernel
theorem dX3_gapByAll_65 : decode cX3_gapByAll 65 = .ok (.if_icmp .le 11, 3) := by decide +kernel
theorem dX3_gapByAll_68 : decode cX3_gapByAll 68 = .ok (.aload_n 0, 1) := by decide +kernel
theorem dX3_gapByAll_69 : decode cX3_gapByAll 69 = .ok (.iconst 2, 1) := by decide +kernel
theorem dX3_gapByAll_70 : decode cX3_gapByAll 70 = .ok (.invokevirtual 71, 3) := by decide +kernel
theorem dX3_gapByAll_73 : decode cX3_gapByAll 73 = .ok (.goto 8, 3) := by decide +kernel
theorem dX3_gapByAll_76 : decode cX3_gapByAll 76 = .ok (.aload_n 0, 1) := by decide +kernel
theorem dX3_gapByAll_77 : decode cX3_gapByAll 77 = .ok (.iload_n 1, 1) := by decide +kernel
theorem dX3_gapByAll_78 : decode cX3_gapByAll 78 = .ok (.invokevirtual 109, 3) := by decide +kernel
theorem dX3_gapByAll_81 : decode cX3_gapByAll 81 = .ok (.ireturn, 1) := by decide +kernel
set_option maxRecDepth 20000 in
theorem ggX3_gapIf_X3_isProduct : GoodIn wsX3_gapIf wsX3_isProduct := goodIn_r _ [6, 7, 8, 5, 9] (by decide +kernel) (by decide +kernel)
set_option maxRecDepth 20000 in
theorem gX3_gapIf_X3_isProduct : GoodIn wsX3_gapIf (va_wsS RX3 82 yX3_isProduct wsX3_isProduct) := goodIn_app (goodIn_of _ (by decide +kernel)) ggX3_gapIf_X3_isProduct
set_option maxRecDepth 20000 in
theorem ggX3_gapIf_X3_refuses : GoodIn wsX3_gapIf wsX3_refuses := goodIn_r _ [13, 2, 14, 15, 5, 16, 7, 8, 9, 17, 18, 19, 20, 51, 52, 53, 54, 55, 56, 57, 58, 59, 60, 61, 62, 63, 64, 65, 66, 67, 68, 69] (by decide +kernel) (by decide +kernel)
set_option maxRecDepth 20000 in
theorem gX3_gapIf_X3_refuses : GoodIn wsX3_gapIf (wsV RX3 78 RX3 yX3_refuses wsX3_refuses) := goodIn_app (goodIn_of _ (by decide +kernel)) ggX3_gapIf_X3_refuses
set_option maxRecDepth 20000 in
theorem ggX3_gapIf_X3_least : GoodIn wsX3_gapIf wsX3_least := goodIn_r _ [24, 25, 26, 27, 28, 29, 30, 31, 32, 33, 34, 35, 36, 37, 5, 38, 39, 40, 41, 42, 43, 44, 2, 45, 46, 47, 48, 49, 50, 51, 52, 53, 54, 55, 56, 57, 58, 59, 60, 61, 62, 63, 64, 65, 66, 67, 68, 69] (by decide +kernel) (by decide +kernel)
set_option maxRecDepth 20000 in
theorem gX3_gapIf_X3_least : GoodIn wsX3_gapIf (wsV RX3 109 RX3 yX3_least wsX3_least) := goodIn_app (goodIn_of _ (by decide +kernel)) ggX3_gapIf_X3_least
theorem dX3_gapIf_0 : decode cX3_gapIf 0 = .ok (.aload_n 0, 1) := by decide +kernel
theorem dX3_gapIf_1 : decode cX3_gapIf 1 = .ok (.iload_n 1, 1) := by decide +kernel
theorem dX3_gapIf_2 : decode cX3_gapIf 2 = .ok (.invokestatic 82, 3) := by decide +kernel
theorem dX3_gapIf_5 : decode cX3_gapIf 5 = .ok (.ifCond .eq 12, 3) := by decide +kernel
theorem dX3_gapIf_8 : decode cX3_gapIf 8 = .ok (.aload_n 0, 1) := by decide +kernel
theorem dX3_gapIf_9 : decode cX3_gapIf 9 = .ok (.iload_n 2, 1) := by decide +kernel
theorem dX3_gapIf_10 : decode cX3_gapIf 10 = .ok (.iload_n 3, 1) := by decide +kernel
theorem dX3_gapIf_11 : decode cX3_gapIf 11 = .ok (.invokevirtual 78, 3) := by decide +kernel
theorem dX3_gapIf_14 : decode cX3_gapIf 14 = .ok (.goto 4, 3) := by decide +kernel
theorem dX3_gapIf_17 : decode cX3_gapIf 17 = .ok (.iconst 1, 1) := by decide +kernel
theorem dX3_gapIf_18 : decode cX3_gapIf 18 = .ok (.putfield 56, 3) := by decide +kernel
theorem dX3_gapIf_21 : decode cX3_gapIf 21 = .ok (.aload_n 0, 1) := by decide +kernel
theorem dX3_gapIf_22 : decode cX3_gapIf 22 = .ok (.getfield 56, 3) := by decide +kernel
theorem dX3_gapIf_25 : decode cX3_gapIf 25 = .ok (.ifCond .le 5, 3) := by decide +kernel
theorem dX3_gapIf_28 : decode cX3_gapIf 28 = .ok (.iconst 0, 1) := by decide +kernel
theorem dX3_gapIf_29 : decode cX3_gapIf 29 = .ok (.ireturn, 1) := by decide +kernel
theorem dX3_gapIf_30 : decode cX3_gapIf 30 = .ok (.aload_n 0, 1) := by decide +kernel
theorem dX3_gapIf_31 : decode cX3_gapIf 31 = .ok (.getfield 13, 3) := by decide +kernel
theorem dX3_gapIf_34 : decode cX3_gapIf 34 = .ok (.iload_n 2, 1) := by decide +kernel
theorem dX3_gapIf_35 : decode cX3_gapIf 35 = .ok (.iaload, 1) := by decide +kernel
theorem dX3_gapIf_36 : decode cX3_gapIf 36 = .ok (.istore 4, 2) := by decide +kernel
theorem dX3_gapIf_38 : decode cX3_gapIf 38 = .ok (.aload_n 0, 1) := by decide +kernel
theorem dX3_gapIf_39 : decode cX3_gapIf 39 = .ok (.getfield 13, 3) := by decide +kernel
theorem dX3_gapIf_42 : decode cX3_gapIf 42 = .ok (.iload_n 2, 1) := by decide +kernel
theorem dX3_gapIf_43 : decode cX3_gapIf 43 = .ok (.iload_n 3, 1) := by decide +kernel
theorem dX3_gapIf_44 : decode cX3_gapIf 44 = .ok (.iastore, 1) := by decide +kernel
theorem dX3_gapIf_45 : decode cX3_gapIf 45 = .ok (.aload_n 0, 1) := by decide +kernel
theorem dX3_gapIf_46 : decode cX3_gapIf 46 = .ok (.iload_n 1, 1) := by decide +kernel
theorem dX3_gapIf_47 : decode cX3_gapIf 47 = .ok (.invokevirtual 109, 3) := by decide +kernel
theorem dX3_gapIf_50 : decode cX3_gapIf 50 = .ok (.istore 5, 2) := by decide +kernel
theorem dX3_gapIf_52 : decode cX3_gapIf 52 = .ok (.aload_n 0, 1) := by decide +kernel
theorem dX3_gapIf_53 : decode cX3_gapIf 53 = .ok (.getfield 13, 3) := by decide +kernel
theorem dX3_gapIf_56 : decode cX3_gapIf 56 = .ok (.iload_n 2, 1) := by decide +kernel
theorem dX3_gapIf_57 : decode cX3_gapIf 57 = .ok (.iload 4, 2) := by decide +kernel
theorem dX3_gapIf_59 : decode cX3_gapIf 59 = .ok (.iastore, 1) := by decide +kernel
theorem dX3_gapIf_60 : decode cX3_gapIf 60 = .ok (.iload 5, 2) := by decide +kernel
theorem dX3_gapIf_62 : decode cX3_gapIf 62 = .ok (.ireturn, 1) := by decide +kernel
set_option maxRecDepth 20000 in
theorem ggX3_spare_X3_isRight : GoodIn wsX3_spare wsX3_isRight := goodIn_r _ [8, 9, 10, 11, 7, 12, 45, 46, 47, 48, 49, 50, 51, 52, 53, 54, 55, 56, 57, 58, 59, 60, 61, 62, 63] (by decide +kernel) (by decide +kernel)
set_option maxRecDepth 20000 in
theorem gX3_spare_X3_isRight : GoodIn wsX3_spare (wsV RX3 92 RX3 yX3_isRight wsX3_isRight) := goodIn_app (goodIn_of _ (by decide +kernel)) ggX3_spare_X3_isRight
set_option maxRecDepth 20000 in
theorem ggX3_spare_X3_fails : GoodIn wsX3_spare wsX3_fails := goodIn_r _ [16, 1, 45, 46, 47, 48, 49, 50, 51, 52, 53, 54, 55, 56, 57, 58, 59, 60, 61, 62, 63] (by decide +kernel) (by decide +kernel)
set_option maxRecDepth 20000 in
theorem gX3_spare_X3_fails : GoodIn wsX3_spare (wsV RX3 71 RX3 yX3_fails wsX3_fails) := goodIn_app (goodIn_of _ (by decide +kernel)) ggX3_spare_X3_fails
set_option maxRecDepth 20000 in
theorem ggX3_spare_X3_least : GoodIn wsX3_spare wsX3_least := goodIn_r _ [20, 21, 9, 3, 2, 22, 23, 24, 25, 26, 27, 28, 29, 30, 7, 31, 32, 33, 34, 35, 36, 37, 38, 39, 40, 41, 42, 43, 44, 45, 46, 47, 48, 49, 50, 51, 52, 53, 54, 55, 56, 57, 58, 59, 60, 61, 62, 63] (by decide +kernel) (by decide +kernel)
set_option maxRecDepth 20000 in
theorem gX3_spare_X3_least : GoodIn wsX3_spare (wsV RX3 109 RX3 yX3_least wsX3_least) := goodIn_app (goodIn_of _ (by decide +kernel)) ggX3_spare_X3_least
theorem dX3_spare_0 : decode cX3_spare 0 = .ok (.aload_n 0, 1) := by decide +kernel
theorem dX3_spare_1 : decode cX3_spare 1 = .ok (.iconst 0, 1) := by decide +kernel
theorem dX3_spare_2 : decode cX3_spare 2 = .ok (.putfield 56, 3) := by decide +kernel
theorem dX3_spare_5 : decode cX3_spare 5 = .ok (.aload_n 0, 1) := by decide +kernel
theorem dX3_spare_6 : decode cX3_spare 6 = .ok (.iload_n 1, 1) := by decide +kernel
theorem dX3_spare_7 : decode cX3_spare 7 = .ok (.invokevirtual 92, 3) := by decide +kernel
theorem dX3_spare_10 : decode cX3_spare 10 = .ok (.ifCond .ne 9, 3) := by decide +kernel
theorem dX3_spare_13 : decode cX3_spare 13 = .ok (.aload_n 0, 1) := by decide +kernel
theorem dX3_spare_14 : decode cX3_spare 14 = .ok (.iconst 1, 1) := by decide +kernel
theorem dX3_spare_15 : decode cX3_spare 15 = .ok (.invokevirtual 71, 3) := by decide +kernel
theorem dX3_spare_18 : decode cX3_spare 18 = .ok (.ireturn, 1) := by decide +kernel
theorem dX3_spare_19 : decode cX3_spare 19 = .ok (.aload_n 0, 1) := by decide +kernel
theorem dX3_spare_20 : decode cX3_spare 20 = .ok (.getfield 31, 3) := by decide +kernel
theorem dX3_spare_23 : decode cX3_spare 23 = .ok (.iload_n 1, 1) := by decide +kernel
theorem dX3_spare_24 : decode cX3_spare 24 = .ok (.iaload, 1) := by decide +kernel
theorem dX3_spare_25 : decode cX3_spare 25 = .ok (.istore_n 2, 1) := by decide +kernel
theorem dX3_spare_26 : decode cX3_spare 26 = .ok (.aload_n 0, 1) := by decide +kernel
theorem dX3_spare_27 : decode cX3_spare 27 = .ok (.aload_n 0, 1) := by decide +kernel
theorem dX3_spare_28 : decode cX3_spare 28 = .ok (.getfield 25, 3) := by decide +kernel
theorem dX3_spare_31 : decode cX3_spare 31 = .ok (.iload_n 1, 1) := by decide +kernel
theorem dX3_spare_32 : decode cX3_spare 32 = .ok (.iaload, 1) := by decide +kernel
theorem dX3_spare_33 : decode cX3_spare 33 = .ok (.invokevirtual 109, 3) := by decide +kernel
theorem dX3_spare_36 : decode cX3_spare 36 = .ok (.istore_n 3, 1) := by decide +kernel
theorem dX3_spare_37 : decode cX3_spare 37 = .ok (.iconst (-1), 1) := by decide +kernel
theorem dX3_spare_38 : decode cX3_spare 38 = .ok (.istore 4, 2) := by decide +kernel
theorem dX3_spare_40 : decode cX3_spare 40 = .ok (.iload_n 2, 1) := by decide +kernel
theorem dX3_spare_41 : decode cX3_spare 41 = .ok (.istore 5, 2) := by decide +kernel
theorem dX3_spare_43 : decode cX3_spare 43 = .ok (.iload 5, 2) := by decide +kernel
theorem dX3_spare_45 : decode cX3_spare 45 = .ok (.iload 4, 2) := by decide +kernel
theorem dX3_spare_47 : decode cX3_spare 47 = .ok (.isub, 1) := by decide +kernel
theorem dX3_spare_48 : decode cX3_spare 48 = .ok (.iconst 1, 1) := by decide +kernel
theorem dX3_spare_49 : decode cX3_spare 49 = .ok (.if_icmp .le 79, 3) := by decide +kernel
theorem dX3_spare_52 : decode cX3_spare 52 = .ok (.aload_n 0, 1) := by decide +kernel
theorem dX3_spare_53 : decode cX3_spare 53 = .ok (.getfield 31, 3) := by decide +kernel
theorem dX3_spare_56 : decode cX3_spare 56 = .ok (.iload_n 1, 1) := by decide +kernel
theorem dX3_spare_57 : decode cX3_spare 57 = .ok (.iload 4, 2) := by decide +kernel
theorem dX3_spare_59 : decode cX3_spare 59 = .ok (.iload 5, 2) := by decide +kernel
theorem dX3_spare_61 : decode cX3_spare 61 = .ok (.iload 4, 2) := by decide +kernel
theorem dX3_spare_63 : decode cX3_spare 63 = .ok (.isub, 1) := by decide +kernel
theorem dX3_spare_64 : decode cX3_spare 64 = .ok (.iconst 2, 1) := by decide +kernel
theorem dX3_spare_65 : decode cX3_spare 65 = .ok (.idiv, 1) := by decide +kernel
theorem dX3_spare_66 : decode cX3_spare 66 = .ok (.iadd, 1) := by decide +kernel
theorem dX3_spare_67 : decode cX3_spare 67 = .ok (.iastore, 1) := by decide +kernel
theorem dX3_spare_68 : decode cX3_spare 68 = .ok (.aload_n 0, 1) := by decide +kernel
theorem dX3_spare_69 : decode cX3_spare 69 = .ok (.aload_n 0, 1) := by decide +kernel
theorem dX3_spare_70 : decode cX3_spare 70 = .ok (.getfield 25, 3) := by decide +kernel
theorem dX3_spare_73 : decode cX3_spare 73 = .ok (.iload_n 1, 1) := by decide +kernel
theorem dX3_spare_74 : decode cX3_spare 74 = .ok (.iaload, 1) := by decide +kernel
theorem dX3_spare_75 : decode cX3_spare 75 = .ok (.invokevirtual 109, 3) := by decide +kernel
theorem dX3_spare_78 : decode cX3_spare 78 = .ok (.iload_n 3, 1) := by decide +kernel
theorem dX3_spare_79 : decode cX3_spare 79 = .ok (.if_icmp .ne 7, 3) := by decide +kernel
theorem dX3_spare_82 : decode cX3_spare 82 = .ok (.iconst 1, 1) := by decide +kernel
theorem dX3_spare_83 : decode cX3_spare 83 = .ok (.goto 4, 3) := by decide +kernel
theorem dX3_spare_86 : decode cX3_spare 86 = .ok (.iconst 0, 1) := by decide +kernel
theorem dX3_spare_87 : decode cX3_spare 87 = .ok (.istore 6, 2) := by decide +kernel
theorem dX3_spare_89 : decode cX3_spare 89 = .ok (.iload 6, 2) := by decide +kernel
theorem dX3_spare_91 : decode cX3_spare 91 = .ok (.ifCond .eq 12, 3) := by decide +kernel
theorem dX3_spare_94 : decode cX3_spare 94 = .ok (.aload_n 0, 1) := by decide +kernel
theorem dX3_spare_95 : decode cX3_spare 95 = .ok (.getfield 31, 3) := by decide +kernel
theorem dX3_spare_98 : decode cX3_spare 98 = .ok (.iload_n 1, 1) := by decide +kernel
theorem dX3_spare_99 : decode cX3_spare 99 = .ok (.iaload, 1) := by decide +kernel
theorem dX3_spare_100 : decode cX3_spare 100 = .ok (.goto 5, 3) := by decide +kernel
theorem dX3_spare_103 : decode cX3_spare 103 = .ok (.iload 5, 2) := by decide +kernel
theorem dX3_spare_105 : decode cX3_spare 105 = .ok (.istore 5, 2) := by decide +kernel
theorem dX3_spare_107 : decode cX3_spare 107 = .ok (.iload 6, 2) := by decide +kernel
theorem dX3_spare_109 : decode cX3_spare 109 = .ok (.ifCond .eq 8, 3) := by decide +kernel
theorem dX3_spare_112 : decode cX3_spare 112 = .ok (.iload 4, 2) := by decide +kernel
theorem dX3_spare_114 : decode cX3_spare 114 = .ok (.goto 9, 3) := by decide +kernel
theorem dX3_spare_117 : decode cX3_spare 117 = .ok (.aload_n 0, 1) := by decide +kernel
theorem dX3_spare_118 : decode cX3_spare 118 = .ok (.getfield 31, 3) := by decide +kernel
theorem dX3_spare_121 : decode cX3_spare 121 = .ok (.iload_n 1, 1) := by decide +kernel
theorem dX3_spare_122 : decode cX3_spare 122 = .ok (.iaload, 1) := by decide +kernel
theorem dX3_spare_123 : decode cX3_spare 123 = .ok (.istore 4, 2) := by decide +kernel
theorem dX3_spare_125 : decode cX3_spare 125 = .ok (.goto (-82), 3) := by decide +kernel
theorem dX3_spare_128 : decode cX3_spare 128 = .ok (.aload_n 0, 1) := by decide +kernel
theorem dX3_spare_129 : decode cX3_spare 129 = .ok (.getfield 31, 3) := by decide +kernel
theorem dX3_spare_132 : decode cX3_spare 132 = .ok (.iload_n 1, 1) := by decide +kernel
theorem dX3_spare_133 : decode cX3_spare 133 = .ok (.iload_n 2, 1) := by decide +kernel
theorem dX3_spare_134 : decode cX3_spare 134 = .ok (.iastore, 1) := by decide +kernel
theorem dX3_spare_135 : decode cX3_spare 135 = .ok (.iload_n 2, 1) := by decide +kernel
theorem dX3_spare_136 : decode cX3_spare 136 = .ok (.iload 5, 2) := by decide +kernel
theorem dX3_spare_138 : decode cX3_spare 138 = .ok (.isub, 1) := by decide +kernel
theorem dX3_spare_139 : decode cX3_spare 139 = .ok (.ireturn, 1) := by decide +kernel
