theorem dX0_init_0 : decode cX0_init 0 = .ok (.aload_n 0, 1) := by decide +kernel
theorem dX0_init_1 : decode cX0_init 1 = .ok (.invokespecial 3, 3) := by decide +kernel
theorem dX0_init_4 : decode cX0_init 4 = .ok (.aload_n 0, 1) := by decide +kernel
theorem dX0_init_5 : decode cX0_init 5 = .ok (.bipush 8, 2) := by decide +kernel
theorem dX0_init_7 : decode cX0_init 7 = .ok (.newarray .int, 2) := by decide +kernel
theorem dX0_init_9 : decode cX0_init 9 = .ok (.putfield 9, 3) := by decide +kernel
theorem dX0_init_12 : decode cX0_init 12 = .ok (.aload_n 0, 1) := by decide +kernel
theorem dX0_init_13 : decode cX0_init 13 = .ok (.bipush 8, 2) := by decide +kernel
theorem dX0_init_15 : decode cX0_init 15 = .ok (.newarray .int, 2) := by decide +kernel
theorem dX0_init_17 : decode cX0_init 17 = .ok (.putfield 15, 3) := by decide +kernel
theorem dX0_init_20 : decode cX0_init 20 = .ok (.aload_n 0, 1) := by decide +kernel
theorem dX0_init_21 : decode cX0_init 21 = .ok (.sipush 256, 3) := by decide +kernel
theorem dX0_init_24 : decode cX0_init 24 = .ok (.newarray .int, 2) := by decide +kernel
theorem dX0_init_26 : decode cX0_init 26 = .ok (.putfield 18, 3) := by decide +kernel
theorem dX0_init_29 : decode cX0_init 29 = .ok (.aload_n 0, 1) := by decide +kernel
theorem dX0_init_30 : decode cX0_init 30 = .ok (.iconst 0, 1) := by decide +kernel
theorem dX0_init_31 : decode cX0_init 31 = .ok (.putfield 21, 3) := by decide +kernel
theorem dX0_init_34 : decode cX0_init 34 = .ok (.aload_n 0, 1) := by decide +kernel
theorem dX0_init_35 : decode cX0_init 35 = .ok (.sipush 256, 3) := by decide +kernel
theorem dX0_init_38 : decode cX0_init 38 = .ok (.newarray .int, 2) := by decide +kernel
theorem dX0_init_40 : decode cX0_init 40 = .ok (.putfield 25, 3) := by decide +kernel
theorem dX0_init_43 : decode cX0_init 43 = .ok (.aload_n 0, 1) := by decide +kernel
theorem dX0_init_44 : decode cX0_init 44 = .ok (.sipush 256, 3) := by decide +kernel
theorem dX0_init_47 : decode cX0_init 47 = .ok (.newarray .int, 2) := by decide +kernel
theorem dX0_init_49 : decode cX0_init 49 = .ok (.putfield 28, 3) := by decide +kernel
theorem dX0_init_52 : decode cX0_init 52 = .ok (.aload_n 0, 1) := by decide +kernel
theorem dX0_init_53 : decode cX0_init 53 = .ok (.sipush 256, 3) := by decide +kernel
theorem dX0_init_56 : decode cX0_init 56 = .ok (.newarray .int, 2) := by decide +kernel
theorem dX0_init_58 : decode cX0_init 58 = .ok (.putfield 31, 3) := by decide +kernel
theorem dX0_init_61 : decode cX0_init 61 = .ok (.return_, 1) := by decide +kernel
set_option maxRecDepth 20000 in
theorem ggX0_clearAll_J7_fill_53178 : GoodIn wsX0_clearAll wsJ7_fill_53178 := goodIn_r _ [7] (by decide +kernel) (by decide +kernel)
set_option maxRecDepth 20000 in
theorem gX0_clearAll_J7_fill_53178 : GoodIn wsX0_clearAll (va_wsS RX0 35 yJ7_fill_53178 wsJ7_fill_53178) := goodIn_app (goodIn_of _ (by decide +kernel)) ggX0_clearAll_J7_fill_53178
theorem dX0_clearAll_0 : decode cX0_clearAll 0 = .ok (.aload_n 0, 1) := by decide +kernel
theorem dX0_clearAll_1 : decode cX0_clearAll 1 = .ok (.iconst 0, 1) := by decide +kernel
theorem dX0_clearAll_2 : decode cX0_clearAll 2 = .ok (.putfield 21, 3) := by decide +kernel
theorem dX0_clearAll_5 : decode cX0_clearAll 5 = .ok (.aload_n 0, 1) := by decide +kernel
theorem dX0_clearAll_6 : decode cX0_clearAll 6 = .ok (.getfield 25, 3) := by decide +kernel
theorem dX0_clearAll_9 : decode cX0_clearAll 9 = .ok (.ldc 34, 2) := by decide +kernel
theorem dX0_clearAll_11 : decode cX0_clearAll 11 = .ok (.invokestatic 35, 3) := by decide +kernel
theorem dX0_clearAll_14 : decode cX0_clearAll 14 = .ok (.aload_n 0, 1) := by decide +kernel
theorem dX0_clearAll_15 : decode cX0_clearAll 15 = .ok (.getfield 25, 3) := by decide +kernel
theorem dX0_clearAll_18 : decode cX0_clearAll 18 = .ok (.iconst 0, 1) := by decide +kernel
theorem dX0_clearAll_19 : decode cX0_clearAll 19 = .ok (.iconst 0, 1) := by decide +kernel
theorem dX0_clearAll_20 : decode cX0_clearAll 20 = .ok (.iastore, 1) := by decide +kernel
theorem dX0_clearAll_21 : decode cX0_clearAll 21 = .ok (.return_, 1) := by decide +kernel
theorem dX0_weigh_0 : decode cX0_weigh 0 = .ok (.iconst 1, 1) := by decide +kernel
theorem dX0_weigh_1 : decode cX0_weigh 1 = .ok (.iload_n 1, 1) := by decide +kernel
theorem dX0_weigh_2 : decode cX0_weigh 2 = .ok (.ishl, 1) := by decide +kernel
theorem dX0_weigh_3 : decode cX0_weigh 3 = .ok (.istore 4, 2) := by decide +kernel
theorem dX0_weigh_5 : decode cX0_weigh 5 = .ok (.iload_n 2, 1) := by decide +kernel
theorem dX0_weigh_6 : decode cX0_weigh 6 = .ok (.ifCond .eq 14, 3) := by decide +kernel
theorem dX0_weigh_9 : decode cX0_weigh 9 = .ok (.aload_n 0, 1) := by decide +kernel
theorem dX0_weigh_10 : decode cX0_weigh 10 = .ok (.dup, 1) := by decide +kernel
theorem dX0_weigh_11 : decode cX0_weigh 11 = .ok (.getfield 21, 3) := by decide +kernel
theorem dX0_weigh_14 : decode cX0_weigh 14 = .ok (.iload 4, 2) := by decide +kernel
theorem dX0_weigh_16 : decode cX0_weigh 16 = .ok (.ior, 1) := by decide +kernel
theorem dX0_weigh_17 : decode cX0_weigh 17 = .ok (.putfield 21, 3) := by decide +kernel
theorem dX0_weigh_20 : decode cX0_weigh 20 = .ok (.iconst 0, 1) := by decide +kernel
theorem dX0_weigh_21 : decode cX0_weigh 21 = .ok (.istore 5, 2) := by decide +kernel
theorem dX0_weigh_23 : decode cX0_weigh 23 = .ok (.iload 5, 2) := by decide +kernel
theorem dX0_weigh_25 : decode cX0_weigh 25 = .ok (.iload 4, 2) := by decide +kernel
theorem dX0_weigh_27 : decode cX0_weigh 27 = .ok (.if_icmp .ge 39, 3) := by decide +kernel
theorem dX0_weigh_30 : decode cX0_weigh 30 = .ok (.iload 4, 2) := by decide +kernel
theorem dX0_weigh_32 : decode cX0_weigh 32 = .ok (.iload 5, 2) := by decide +kernel
theorem dX0_weigh_34 : decode cX0_weigh 34 = .ok (.ior, 1) := by decide +kernel
theorem dX0_weigh_35 : decode cX0_weigh 35 = .ok (.sipush 256, 3) := by decide +kernel
theorem dX0_weigh_38 : decode cX0_weigh 38 = .ok (.if_icmp .ge 28, 3) := by decide +kernel
theorem dX0_weigh_41 : decode cX0_weigh 41 = .ok (.aload_n 0, 1) := by decide +kernel
theorem dX0_weigh_42 : decode cX0_weigh 42 = .ok (.getfield 18, 3) := by decide +kernel
theorem dX0_weigh_45 : decode cX0_weigh 45 = .ok (.iload 4, 2) := by decide +kernel
theorem dX0_weigh_47 : decode cX0_weigh 47 = .ok (.iload 5, 2) := by decide +kernel
theorem dX0_weigh_49 : decode cX0_weigh 49 = .ok (.ior, 1) := by decide +kernel
theorem dX0_weigh_50 : decode cX0_weigh 50 = .ok (.aload_n 0, 1) := by decide +kernel
theorem dX0_weigh_51 : decode cX0_weigh 51 = .ok (.getfield 18, 3) := by decide +kernel
theorem dX0_weigh_54 : decode cX0_weigh 54 = .ok (.iload 5, 2) := by decide +kernel
theorem dX0_weigh_56 : decode cX0_weigh 56 = .ok (.iaload, 1) := by decide +kernel
theorem dX0_weigh_57 : decode cX0_weigh 57 = .ok (.iload_n 3, 1) := by decide +kernel
theorem dX0_weigh_58 : decode cX0_weigh 58 = .ok (.iadd, 1) := by decide +kernel
theorem dX0_weigh_59 : decode cX0_weigh 59 = .ok (.iastore, 1) := by decide +kernel
theorem dX0_weigh_60 : decode cX0_weigh 60 = .ok (.iinc 5 1, 3) := by decide +kernel
theorem dX0_weigh_63 : decode cX0_weigh 63 = .ok (.goto (-40), 3) := by decide +kernel
theorem dX0_weigh_66 : decode cX0_weigh 66 = .ok (.return_, 1) := by decide +kernel
set_option maxRecDepth 20000 in
theorem ggX0_layOpen_X0_layOrNot : GoodIn wsX0_layOpen wsX0_layOrNot := goodIn_r _ [7, 8, 9, 10, 11, 12, 13, 14, 15, 16, 17, 18, 19] (by decide +kernel) (by decide +kernel)
set_option maxRecDepth 20000 in
theorem gX0_layOpen_X0_layOrNot : GoodIn wsX0_layOpen (wsV RX0 41 RX0 yX0_layOrNot wsX0_layOrNot) := goodIn_app (goodIn_of _ (by decide +kernel)) ggX0_layOpen_X0_layOrNot
theorem dX0_layOpen_0 : decode cX0_layOpen 0 = .ok (.iconst 0, 1) := by decide +kernel
theorem dX0_layOpen_1 : decode cX0_layOpen 1 = .ok (.istore_n 1, 1) := by decide +kernel
theorem dX0_layOpen_2 : decode cX0_layOpen 2 = .ok (.iload_n 1, 1) := by decide +kernel
theorem dX0_layOpen_3 : decode cX0_layOpen 3 = .ok (.bipush 8, 2) := by decide +kernel
theorem dX0_layOpen_5 : decode cX0_layOpen 5 = .ok (.if_icmp .ge 34, 3) := by decide +kernel
theorem dX0_layOpen_8 : decode cX0_layOpen 8 = .ok (.aload_n 0, 1) := by decide +kernel
theorem dX0_layOpen_9 : decode cX0_layOpen 9 = .ok (.getfield 15, 3) := by decide +kernel
theorem dX0_layOpen_12 : decode cX0_layOpen 12 = .ok (.iload_n 1, 1) := by decide +kernel
theorem dX0_layOpen_13 : decode cX0_layOpen 13 = .ok (.iaload, 1) := by decide +kernel
theorem dX0_layOpen_14 : decode cX0_layOpen 14 = .ok (.ifCond .eq 19, 3) := by decide +kernel
theorem dX0_layOpen_17 : decode cX0_layOpen 17 = .ok (.aload_n 0, 1) := by decide +kernel
theorem dX0_layOpen_18 : decode cX0_layOpen 18 = .ok (.aload_n 0, 1) := by decide +kernel
theorem dX0_layOpen_19 : decode cX0_layOpen 19 = .ok (.getfield 15, 3) := by decide +kernel
theorem dX0_layOpen_22 : decode cX0_layOpen 22 = .ok (.iload_n 1, 1) := by decide +kernel
theorem dX0_layOpen_23 : decode cX0_layOpen 23 = .ok (.iaload, 1) := by decide +kernel
theorem dX0_layOpen_24 : decode cX0_layOpen 24 = .ok (.aload_n 0, 1) := by decide +kernel
theorem dX0_layOpen_25 : decode cX0_layOpen 25 = .ok (.getfield 9, 3) := by decide +kernel
theorem dX0_layOpen_28 : decode cX0_layOpen 28 = .ok (.iload_n 1, 1) := by decide +kernel
theorem dX0_layOpen_29 : decode cX0_layOpen 29 = .ok (.iaload, 1) := by decide +kernel
theorem dX0_layOpen_30 : decode cX0_layOpen 30 = .ok (.invokevirtual 41, 3) := by decide +kernel
theorem dX0_layOpen_33 : decode cX0_layOpen 33 = .ok (.iinc 1 1, 3) := by decide +kernel
theorem dX0_layOpen_36 : decode cX0_layOpen 36 = .ok (.goto (-34), 3) := by decide +kernel
theorem dX0_layOpen_39 : decode cX0_layOpen 39 = .ok (.return_, 1) := by decide +kernel
theorem dX0_layOrNot_0 : decode cX0_layOrNot 0 = .ok (.iconst 0, 1) := by decide +kernel
theorem dX0_layOrNot_1 : decode cX0_layOrNot 1 = .ok (.istore_n 3, 1) := by decide +kernel
theorem dX0_layOrNot_2 : decode cX0_layOrNot 2 = .ok (.iload_n 3, 1) := by decide +kernel
theorem dX0_layOrNot_3 : decode cX0_layOrNot 3 = .ok (.sipush 256, 3) := by decide +kernel
theorem dX0_layOrNot_6 : decode cX0_layOrNot 6 = .ok (.if_icmp .ge 43, 3) := by decide +kernel
theorem dX0_layOrNot_9 : decode cX0_layOrNot 9 = .ok (.iload_n 3, 1) := by decide +kernel
theorem dX0_layOrNot_10 : decode cX0_layOrNot 10 = .ok (.iload_n 1, 1) := by decide +kernel
theorem dX0_layOrNot_11 : decode cX0_layOrNot 11 = .ok (.ior, 1) := by decide +kernel
theorem dX0_layOrNot_12 : decode cX0_layOrNot 12 = .ok (.sipush 255, 3) := by decide +kernel
theorem dX0_layOrNot_15 : decode cX0_layOrNot 15 = .ok (.iand, 1) := by decide +kernel
theorem dX0_layOrNot_16 : decode cX0_layOrNot 16 = .ok (.istore 4, 2) := by decide +kernel
theorem dX0_layOrNot_18 : decode cX0_layOrNot 18 = .ok (.aload_n 0, 1) := by decide +kernel
theorem dX0_layOrNot_19 : decode cX0_layOrNot 19 = .ok (.getfield 25, 3) := by decide +kernel
theorem dX0_layOrNot_22 : decode cX0_layOrNot 22 = .ok (.iload 4, 2) := by decide +kernel
theorem dX0_layOrNot_24 : decode cX0_layOrNot 24 = .ok (.aload_n 0, 1) := by decide +kernel
theorem dX0_layOrNot_25 : decode cX0_layOrNot 25 = .ok (.getfield 25, 3) := by decide +kernel
theorem dX0_layOrNot_28 : decode cX0_layOrNot 28 = .ok (.iload 4, 2) := by decide +kernel
theorem dX0_layOrNot_30 : decode cX0_layOrNot 30 = .ok (.iaload, 1) := by decide +kernel
theorem dX0_layOrNot_31 : decode cX0_layOrNot 31 = .ok (.aload_n 0, 1) := by decide +kernel
theorem dX0_layOrNot_32 : decode cX0_layOrNot 32 = .ok (.getfield 25, 3) := by decide +kernel
theorem dX0_layOrNot_35 : decode cX0_layOrNot 35 = .ok (.iload_n 3, 1) := by decide +kernel
theorem dX0_layOrNot_36 : decode cX0_layOrNot 36 = .ok (.iaload, 1) := by decide +kernel
theorem dX0_layOrNot_37 : decode cX0_layOrNot 37 = .ok (.iload_n 2, 1) := by decide +kernel
theorem dX0_layOrNot_38 : decode cX0_layOrNot 38 = .ok (.iadd, 1) := by decide +kernel
theorem dX0_layOrNot_39 : decode cX0_layOrNot 39 = .ok (.invokestatic 45, 3) := by decide +kernel
theorem dX0_layOrNot_42 : decode cX0_layOrNot 42 = .ok (.iastore, 1) := by decide +kernel
theorem dX0_layOrNot_43 : decode cX0_layOrNot 43 = .ok (.iinc 3 1, 3) := by decide +kernel
theorem dX0_layOrNot_46 : decode cX0_layOrNot 46 = .ok (.goto (-44), 3) := by decide +kernel
theorem dX0_layOrNot_49 : decode cX0_layOrNot 49 = .ok (.return_, 1) := by decide +kernel
theorem dX0_closeWithin_0 : decode cX0_closeWithin 0 = .ok (.iconst 0, 1) := by decide +kernel
theorem dX0_closeWithin_1 : decode cX0_closeWithin 1 = .ok (.istore_n 2, 1) := by decide +kernel
theorem dX0_closeWithin_2 : decode cX0_closeWithin 2 = .ok (.iload_n 2, 1) := by decide +kernel
theorem dX0_closeWithin_3 : decode cX0_closeWithin 3 = .ok (.sipush 256, 3) := by decide +kernel
theorem dX0_closeWithin_6 : decode cX0_closeWithin 6 = .ok (.if_icmp .ge 31, 3) := by decide +kernel
theorem dX0_closeWithin_9 : decode cX0_closeWithin 9 = .ok (.aload_n 0, 1) := by decide +kernel
theorem dX0_closeWithin_10 : decode cX0_closeWithin 10 = .ok (.getfield 25, 3) := by decide +kernel
theorem dX0_closeWithin_13 : decode cX0_closeWithin 13 = .ok (.iload_n 2, 1) := by decide +kernel
theorem dX0_closeWithin_14 : decode cX0_closeWithin 14 = .ok (.aload_n 0, 1) := by decide +kernel
theorem dX0_closeWithin_15 : decode cX0_closeWithin 15 = .ok (.getfield 25, 3) := by decide +kernel
theorem dX0_closeWithin_18 : decode cX0_closeWithin 18 = .ok (.iload_n 2, 1) := by decide +kernel
theorem dX0_closeWithin_19 : decode cX0_closeWithin 19 = .ok (.iaload, 1) := by decide +kernel
theorem dX0_closeWithin_20 : decode cX0_closeWithin 20 = .ok (.iload_n 1, 1) := by decide +kernel
theorem dX0_closeWithin_21 : decode cX0_closeWithin 21 = .ok (.if_icmp .gt 7, 3) := by decide +kernel
theorem dX0_closeWithin_24 : decode cX0_closeWithin 24 = .ok (.iconst 0, 1) := by decide +kernel
theorem dX0_closeWithin_25 : decode cX0_closeWithin 25 = .ok (.goto 5, 3) := by decide +kernel
theorem dX0_closeWithin_28 : decode cX0_closeWithin 28 = .ok (.ldc 34, 2) := by decide +kernel
theorem dX0_closeWithin_30 : decode cX0_closeWithin 30 = .ok (.iastore, 1) := by decide +kernel
theorem dX0_closeWithin_31 : decode cX0_closeWithin 31 = .ok (.iinc 2 1, 3) := by decide +kernel
theorem dX0_closeWithin_34 : decode cX0_closeWithin 34 = .ok (.goto (-32), 3) := by decide +kernel
theorem dX0_closeWithin_37 : decode cX0_closeWithin 37 = .ok (.return_, 1) := by decide +kernel
set_option maxRecDepth 20000 in
theorem ggX0_layOnAllSets_X0_coverOfSet : GoodIn wsX0_layOnAllSets wsX0_coverOfSet := goodIn_r _ [13, 14, 15, 24, 25, 26, 27, 28, 29, 30] (by decide +kernel) (by decide +kernel)
set_option maxRecDepth 20000 in
theorem gX0_layOnAllSets_X0_coverOfSet : GoodIn wsX0_layOnAllSets (wsV RX0 51 RX0 yX0_coverOfSet wsX0_coverOfSet) := goodIn_app (goodIn_of _ (by decide +kernel)) ggX0_layOnAllSets_X0_coverOfSet
set_option maxRecDepth 20000 in
theorem ggX0_layOnAllSets_J7_fill_53178 : GoodIn wsX0_layOnAllSets wsJ7_fill_53178 := goodIn_r _ [19] (by decide +kernel) (by decide +kernel)
set_option maxRecDepth 20000 in
theorem gX0_layOnAllSets_J7_fill_53178 : GoodIn wsX0_layOnAllSets (va_wsS RX0 35 yJ7_fill_53178 wsJ7_fill_53178) := goodIn_app (goodIn_of _ (by decide +kernel)) ggX0_layOnAllSets_J7_fill_53178
set_option maxRecDepth 20000 in
theorem ggX0_layOnAllSets_X0_addToAll : GoodIn wsX0_layOnAllSets wsX0_addToAll := goodIn_r _ [23, 1, 2, 24, 25, 26, 27, 28, 29, 30] (by decide +kernel) (by decide +kernel)
set_option maxRecDepth 20000 in
theorem gX0_layOnAllSets_X0_addToAll : GoodIn wsX0_layOnAllSets (wsV RX0 54 RX0 yX0_addToAll wsX0_addToAll) := goodIn_app (goodIn_of _ (by decide +kernel)) ggX0_layOnAllSets_X0_addToAll
theorem dX0_layOnAllSets_0 : decode cX0_layOnAllSets 0 = .ok (.iconst 0, 1) := by decide +kernel
theorem dX0_layOnAllSets_1 : decode cX0_layOnAllSets 1 = .ok (.istore_n 2, 1) := by decide +kernel
theorem dX0_layOnAllSets_2 : decode cX0_layOnAllSets 2 = .ok (.iload_n 2, 1) := by decide +kernel
theorem dX0_layOnAllSets_3 : decode cX0_layOnAllSets 3 = .ok (.sipush 256, 3) := by decide +kernel
theorem dX0_layOnAllSets_6 : decode cX0_layOnAllSets 6 = .ok (.if_icmp .ge 21, 3) := by decide +kernel
theorem dX0_layOnAllSets_9 : decode cX0_layOnAllSets 9 = .ok (.aload_n 0, 1) := by decide +kernel
theorem dX0_layOnAllSets_10 : decode cX0_layOnAllSets 10 = .ok (.getfield 31, 3) := by decide +kernel
theorem dX0_layOnAllSets_13 : decode cX0_layOnAllSets 13 = .ok (.iload_n 2, 1) := by decide +kernel
theorem dX0_layOnAllSets_14 : decode cX0_layOnAllSets 14 = .ok (.aload_n 0, 1) := by decide +kernel
theorem dX0_layOnAllSets_15 : decode cX0_layOnAllSets 15 = .ok (.iload_n 2, 1) := by decide +kernel
theorem dX0_layOnAllSets_16 : decode cX0_layOnAllSets 16 = .ok (.iload_n 1, 1) := by decide +kernel
theorem dX0_layOnAllSets_17 : decode cX0_layOnAllSets 17 = .ok (.invokevirtual 51, 3) := by decide +kernel
theorem dX0_layOnAllSets_20 : decode cX0_layOnAllSets 20 = .ok (.iastore, 1) := by decide +kernel
theorem dX0_layOnAllSets_21 : decode cX0_layOnAllSets 21 = .ok (.iinc 2 1, 3) := by decide +kernel
theorem dX0_layOnAllSets_24 : decode cX0_layOnAllSets 24 = .ok (.goto (-22), 3) := by decide +kernel
theorem dX0_layOnAllSets_27 : decode cX0_layOnAllSets 27 = .ok (.aload_n 0, 1) := by decide +kernel
theorem dX0_layOnAllSets_28 : decode cX0_layOnAllSets 28 = .ok (.getfield 28, 3) := by decide +kernel
theorem dX0_layOnAllSets_31 : decode cX0_layOnAllSets 31 = .ok (.ldc 34, 2) := by decide +kernel
theorem dX0_layOnAllSets_33 : decode cX0_layOnAllSets 33 = .ok (.invokestatic 35, 3) := by decide +kernel
theorem dX0_layOnAllSets_36 : decode cX0_layOnAllSets 36 = .ok (.iconst 0, 1) := by decide +kernel
theorem dX0_layOnAllSets_37 : decode cX0_layOnAllSets 37 = .ok (.istore_n 2, 1) := by decide +kernel
theorem dX0_layOnAllSets_38 : decode cX0_layOnAllSets 38 = .ok (.iload_n 2, 1) := by decide +kernel
theorem dX0_layOnAllSets_39 : decode cX0_layOnAllSets 39 = .ok (.sipush 256, 3) := by decide +kernel
theorem dX0_layOnAllSets_42 : decode cX0_layOnAllSets 42 = .ok (.if_icmp .ge 23, 3) := by decide +kernel
theorem dX0_layOnAllSets_45 : decode cX0_layOnAllSets 45 = .ok (.aload_n 0, 1) := by decide +kernel
theorem dX0_layOnAllSets_46 : decode cX0_layOnAllSets 46 = .ok (.getfield 25, 3) := by decide +kernel
theorem dX0_layOnAllSets_49 : decode cX0_layOnAllSets 49 = .ok (.iload_n 2, 1) := by decide +kernel
theorem dX0_layOnAllSets_50 : decode cX0_layOnAllSets 50 = .ok (.iaload, 1) := by decide +kernel
theorem dX0_layOnAllSets_51 : decode cX0_layOnAllSets 51 = .ok (.ifCond .ne 8, 3) := by decide +kernel
theorem dX0_layOnAllSets_54 : decode cX0_layOnAllSets 54 = .ok (.aload_n 0, 1) := by decide +kernel
theorem dX0_layOnAllSets_55 : decode cX0_layOnAllSets 55 = .ok (.iload_n 2, 1) := by decide +kernel
theorem dX0_layOnAllSets_56 : decode cX0_layOnAllSets 56 = .ok (.invokevirtual 54, 3) := by decide +kernel
theorem dX0_layOnAllSets_59 : decode cX0_layOnAllSets 59 = .ok (.iinc 2 1, 3) := by decide +kernel
theorem dX0_layOnAllSets_62 : decode cX0_layOnAllSets 62 = .ok (.goto (-24), 3) := by decide +kernel
theorem dX0_layOnAllSets_65 : decode cX0_layOnAllSets 65 = .ok (.aload_n 0, 1) := by decide +kernel
theorem dX0_layOnAllSets_66 : decode cX0_layOnAllSets 66 = .ok (.getfield 28, 3) := by decide +kernel
theorem dX0_layOnAllSets_69 : decode cX0_layOnAllSets 69 = .ok (.iconst 0, 1) := by decide +kernel
theorem dX0_layOnAllSets_70 : decode cX0_layOnAllSets 70 = .ok (.aload_n 0, 1) := by decide +kernel
theorem dX0_layOnAllSets_71 : decode cX0_layOnAllSets 71 = .ok (.getfield 25, 3) := by decide +kernel
theorem dX0_layOnAllSets_74 : decode cX0_layOnAllSets 74 = .ok (.iconst 0, 1) := by decide +kernel
theorem dX0_layOnAllSets_75 : decode cX0_layOnAllSets 75 = .ok (.sipush 256, 3) := by decide +kernel
theorem dX0_layOnAllSets_78 : decode cX0_layOnAllSets 78 = .ok (.invokestatic 58, 3) := by decide +kernel
theorem dX0_layOnAllSets_81 : decode cX0_layOnAllSets 81 = .ok (.return_, 1) := by decide +kernel
theorem dX0_coverOfSet_0 : decode cX0_coverOfSet 0 = .ok (.iconst 0, 1) := by decide +kernel
theorem dX0_coverOfSet_1 : decode cX0_coverOfSet 1 = .ok (.istore_n 3, 1) := by decide +kernel
theorem dX0_coverOfSet_2 : decode cX0_coverOfSet 2 = .ok (.iconst 0, 1) := by decide +kernel
theorem dX0_coverOfSet_3 : decode cX0_coverOfSet 3 = .ok (.istore 4, 2) := by decide +kernel
theorem dX0_coverOfSet_5 : decode cX0_coverOfSet 5 = .ok (.iconst 0, 1) := by decide +kernel
theorem dX0_coverOfSet_6 : decode cX0_coverOfSet 6 = .ok (.istore 5, 2) := by decide +kernel
theorem dX0_coverOfSet_8 : decode cX0_coverOfSet 8 = .ok (.iload 5, 2) := by decide +kernel
theorem dX0_coverOfSet_10 : decode cX0_coverOfSet 10 = .ok (.bipush 8, 2) := by decide +kernel
theorem dX0_coverOfSet_12 : decode cX0_coverOfSet 12 = .ok (.if_icmp .ge 40, 3) := by decide +kernel
theorem dX0_coverOfSet_15 : decode cX0_coverOfSet 15 = .ok (.iload_n 1, 1) := by decide +kernel
theorem dX0_coverOfSet_16 : decode cX0_coverOfSet 16 = .ok (.iconst 1, 1) := by decide +kernel
theorem dX0_coverOfSet_17 : decode cX0_coverOfSet 17 = .ok (.iload 5, 2) := by decide +kernel
theorem dX0_coverOfSet_19 : decode cX0_coverOfSet 19 = .ok (.ishl, 1) := by decide +kernel
theorem dX0_coverOfSet_20 : decode cX0_coverOfSet 20 = .ok (.iand, 1) := by decide +kernel
theorem dX0_coverOfSet_21 : decode cX0_coverOfSet 21 = .ok (.ifCond .eq 25, 3) := by decide +kernel
theorem dX0_coverOfSet_24 : decode cX0_coverOfSet 24 = .ok (.iload_n 3, 1) := by decide +kernel
theorem dX0_coverOfSet_25 : decode cX0_coverOfSet 25 = .ok (.aload_n 0, 1) := by decide +kernel
theorem dX0_coverOfSet_26 : decode cX0_coverOfSet 26 = .ok (.getfield 9, 3) := by decide +kernel
theorem dX0_coverOfSet_29 : decode cX0_coverOfSet 29 = .ok (.iload 5, 2) := by decide +kernel
theorem dX0_coverOfSet_31 : decode cX0_coverOfSet 31 = .ok (.iaload, 1) := by decide +kernel
theorem dX0_coverOfSet_32 : decode cX0_coverOfSet 32 = .ok (.iadd, 1) := by decide +kernel
theorem dX0_coverOfSet_33 : decode cX0_coverOfSet 33 = .ok (.istore_n 3, 1) := by decide +kernel
theorem dX0_coverOfSet_34 : decode cX0_coverOfSet 34 = .ok (.iload 4, 2) := by decide +kernel
theorem dX0_coverOfSet_36 : decode cX0_coverOfSet 36 = .ok (.aload_n 0, 1) := by decide +kernel
theorem dX0_coverOfSet_37 : decode cX0_coverOfSet 37 = .ok (.getfield 15, 3) := by decide +kernel
theorem dX0_coverOfSet_40 : decode cX0_coverOfSet 40 = .ok (.iload 5, 2) := by decide +kernel
theorem dX0_coverOfSet_42 : decode cX0_coverOfSet 42 = .ok (.iaload, 1) := by decide +kernel
theorem dX0_coverOfSet_43 : decode cX0_coverOfSet 43 = .ok (.ior, 1) := by decide +kernel
theorem dX0_coverOfSet_44 : decode cX0_coverOfSet 44 = .ok (.istore 4, 2) := by decide +kernel
theorem dX0_coverOfSet_46 : decode cX0_coverOfSet 46 = .ok (.iinc 5 1, 3) := by decide +kernel
theorem dX0_coverOfSet_49 : decode cX0_coverOfSet 49 = .ok (.goto (-41), 3) := by decide +kernel
theorem dX0_coverOfSet_52 : decode cX0_coverOfSet 52 = .ok (.iload_n 3, 1) := by decide +kernel
theorem dX0_coverOfSet_53 : decode cX0_coverOfSet 53 = .ok (.iload_n 2, 1) := by decide +kernel
theorem dX0_coverOfSet_54 : decode cX0_coverOfSet 54 = .ok (.if_icmp .gt 8, 3) := by decide +kernel
theorem dX0_coverOfSet_57 : decode cX0_coverOfSet 57 = .ok (.iload 4, 2) := by decide +kernel
theorem dX0_coverOfSet_59 : decode cX0_coverOfSet 59 = .ok (.goto 4, 3) := by decide +kernel
theorem dX0_coverOfSet_62 : decode cX0_coverOfSet 62 = .ok (.iconst (-1), 1) := by decide +kernel
theorem dX0_coverOfSet_63 : decode cX0_coverOfSet 63 = .ok (.ireturn, 1) := by decide +kernel
theorem dX0_addToAll_0 : decode cX0_addToAll 0 = .ok (.iconst 0, 1) := by decide +kernel
theorem dX0_addToAll_1 : decode cX0_addToAll 1 = .ok (.istore_n 2, 1) := by decide +kernel
theorem dX0_addToAll_2 : decode cX0_addToAll 2 = .ok (.iload_n 2, 1) := by decide +kernel
theorem dX0_addToAll_3 : decode cX0_addToAll 3 = .ok (.sipush 256, 3) := by decide +kernel
theorem dX0_addToAll_6 : decode cX0_addToAll 6 = .ok (.if_icmp .ge 37, 3) := by decide +kernel
theorem dX0_addToAll_9 : decode cX0_addToAll 9 = .ok (.aload_n 0, 1) := by decide +kernel
theorem dX0_addToAll_10 : decode cX0_addToAll 10 = .ok (.getfield 31, 3) := by decide +kernel
theorem dX0_addToAll_13 : decode cX0_addToAll 13 = .ok (.iload_n 2, 1) := by decide +kernel
theorem dX0_addToAll_14 : decode cX0_addToAll 14 = .ok (.iaload, 1) := by decide +kernel
theorem dX0_addToAll_15 : decode cX0_addToAll 15 = .ok (.iconst (-1), 1) := by decide +kernel
theorem dX0_addToAll_16 : decode cX0_addToAll 16 = .ok (.if_icmp .eq 21, 3) := by decide +kernel
theorem dX0_addToAll_19 : decode cX0_addToAll 19 = .ok (.aload_n 0, 1) := by decide +kernel
theorem dX0_addToAll_20 : decode cX0_addToAll 20 = .ok (.getfield 28, 3) := by decide +kernel
theorem dX0_addToAll_23 : decode cX0_addToAll 23 = .ok (.iload_n 1, 1) := by decide +kernel
theorem dX0_addToAll_24 : decode cX0_addToAll 24 = .ok (.aload_n 0, 1) := by decide +kernel
theorem dX0_addToAll_25 : decode cX0_addToAll 25 = .ok (.getfield 31, 3) := by decide +kernel
theorem dX0_addToAll_28 : decode cX0_addToAll 28 = .ok (.iload_n 2, 1) := by decide +kernel
theorem dX0_addToAll_29 : decode cX0_addToAll 29 = .ok (.iaload, 1) := by decide +kernel
theorem dX0_addToAll_30 : decode cX0_addToAll 30 = .ok (.ior, 1) := by decide +kernel
theorem dX0_addToAll_31 : decode cX0_addToAll 31 = .ok (.sipush 255, 3) := by decide +kernel
theorem dX0_addToAll_34 : decode cX0_addToAll 34 = .ok (.iand, 1) := by decide +kernel
theorem dX0_addToAll_35 : decode cX0_addToAll 35 = .ok (.iconst 0, 1) := by decide +kernel
theorem dX0_addToAll_36 : decode cX0_addToAll 36 = .ok (.iastore, 1) := by decide +kernel
theorem dX0_addToAll_37 : decode cX0_addToAll 37 = .ok (.iinc 2 1, 3) := by decide +kernel
theorem dX0_addToAll_40 : decode cX0_addToAll 40 = .ok (.goto (-38), 3) := by decide +kernel
theorem dX0_addToAll_43 : decode cX0_addToAll 43 = .ok (.return_, 1) := by decide +kernel
set_option maxRecDepth 20000 in
theorem ggX0_leastUncoveredWithin_X0_isLess : GoodIn wsX0_leastUncoveredWithin wsX0_isLess := goodIn_r _ [7, 8, 9, 10, 6, 11, 12, 13, 14, 15, 16, 17, 18, 19] (by decide +kernel) (by decide +kernel)
set_option maxRecDepth 20000 in
theorem gX0_leastUncoveredWithin_X0_isLess : GoodIn wsX0_leastUncoveredWithin (wsV RX0 64 RX0 yX0_isLess wsX0_isLess) := goodIn_app (goodIn_of _ (by decide +kernel)) ggX0_leastUncoveredWithin_X0_isLess
theorem dX0_leastUncoveredWithin_0 : decode cX0_leastUncoveredWithin 0 = .ok (.aload_n 0, 1) := by decide +kernel
theorem dX0_leastUncoveredWithin_1 : decode cX0_leastUncoveredWithin 1 = .ok (.getfield 21, 3) := by decide +kernel
theorem dX0_leastUncoveredWithin_4 : decode cX0_leastUncoveredWithin 4 = .ok (.istore_n 2, 1) := by decide +kernel
theorem dX0_leastUncoveredWithin_5 : decode cX0_leastUncoveredWithin 5 = .ok (.iconst 0, 1) := by decide +kernel
theorem dX0_leastUncoveredWithin_6 : decode cX0_leastUncoveredWithin 6 = .ok (.istore_n 3, 1) := by decide +kernel
theorem dX0_leastUncoveredWithin_7 : decode cX0_leastUncoveredWithin 7 = .ok (.iload_n 3, 1) := by decide +kernel
theorem dX0_leastUncoveredWithin_8 : decode cX0_leastUncoveredWithin 8 = .ok (.sipush 256, 3) := by decide +kernel
theorem dX0_leastUncoveredWithin_11 : decode cX0_leastUncoveredWithin 11 = .ok (.if_icmp .ge 42, 3) := by decide +kernel
theorem dX0_leastUncoveredWithin_14 : decode cX0_leastUncoveredWithin 14 = .ok (.aload_n 0, 1) := by decide +kernel
theorem dX0_leastUncoveredWithin_15 : decode cX0_leastUncoveredWithin 15 = .ok (.getfield 21, 3) := by decide +kernel
theorem dX0_leastUncoveredWithin_18 : decode cX0_leastUncoveredWithin 18 = .ok (.iload_n 3, 1) := by decide +kernel
theorem dX0_leastUncoveredWithin_19 : decode cX0_leastUncoveredWithin 19 = .ok (.iconst (-1), 1) := by decide +kernel
theorem dX0_leastUncoveredWithin_20 : decode cX0_leastUncoveredWithin 20 = .ok (.ixor, 1) := by decide +kernel
theorem dX0_leastUncoveredWithin_21 : decode cX0_leastUncoveredWithin 21 = .ok (.iand, 1) := by decide +kernel
theorem dX0_leastUncoveredWithin_22 : decode cX0_leastUncoveredWithin 22 = .ok (.istore 4, 2) := by decide +kernel
theorem dX0_leastUncoveredWithin_24 : decode cX0_leastUncoveredWithin 24 = .ok (.aload_n 0, 1) := by decide +kernel
theorem dX0_leastUncoveredWithin_25 : decode cX0_leastUncoveredWithin 25 = .ok (.getfield 25, 3) := by decide +kernel
theorem dX0_leastUncoveredWithin_28 : decode cX0_leastUncoveredWithin 28 = .ok (.iload_n 3, 1) := by decide +kernel
theorem dX0_leastUncoveredWithin_29 : decode cX0_leastUncoveredWithin 29 = .ok (.iaload, 1) := by decide +kernel
theorem dX0_leastUncoveredWithin_30 : decode cX0_leastUncoveredWithin 30 = .ok (.iload_n 1, 1) := by decide +kernel
theorem dX0_leastUncoveredWithin_31 : decode cX0_leastUncoveredWithin 31 = .ok (.if_icmp .gt 16, 3) := by decide +kernel
theorem dX0_leastUncoveredWithin_34 : decode cX0_leastUncoveredWithin 34 = .ok (.aload_n 0, 1) := by decide +kernel
theorem dX0_leastUncoveredWithin_35 : decode cX0_leastUncoveredWithin 35 = .ok (.iload 4, 2) := by decide +kernel
theorem dX0_leastUncoveredWithin_37 : decode cX0_leastUncoveredWithin 37 = .ok (.iload_n 2, 1) := by decide +kernel
theorem dX0_leastUncoveredWithin_38 : decode cX0_leastUncoveredWithin 38 = .ok (.invokevirtual 64, 3) := by decide +kernel
theorem dX0_leastUncoveredWithin_41 : decode cX0_leastUncoveredWithin 41 = .ok (.ifCond .eq 6, 3) := by decide +kernel
theorem dX0_leastUncoveredWithin_44 : decode cX0_leastUncoveredWithin 44 = .ok (.iload 4, 2) := by decide +kernel
theorem dX0_leastUncoveredWithin_46 : decode cX0_leastUncoveredWithin 46 = .ok (.istore_n 2, 1) := by decide +kernel
theorem dX0_leastUncoveredWithin_47 : decode cX0_leastUncoveredWithin 47 = .ok (.iinc 3 1, 3) := by decide +kernel
theorem dX0_leastUncoveredWithin_50 : decode cX0_leastUncoveredWithin 50 = .ok (.goto (-43), 3) := by decide +kernel
theorem dX0_leastUncoveredWithin_53 : decode cX0_leastUncoveredWithin 53 = .ok (.iload_n 2, 1) := by decide +kernel
theorem dX0_leastUncoveredWithin_54 : decode cX0_leastUncoveredWithin 54 = .ok (.ireturn, 1) := by decide +kernel
set_option maxRecDepth 20000 in
theorem ggX0_isLess_X0_weightOfSet : GoodIn wsX0_isLess wsX0_weightOfSet := goodIn_r _ [5, 6, 7, 8, 9, 10, 11, 12, 13] (by decide +kernel) (by decide +kernel)
set_option maxRecDepth 20000 in
theorem gX0_isLess_X0_weightOfSet : GoodIn wsX0_isLess (wsV RX0 68 RX0 yX0_weightOfSet wsX0_weightOfSet) := goodIn_app (goodIn_of _ (by decide +kernel)) ggX0_isLess_X0_weightOfSet
theorem dX0_isLess_0 : decode cX0_isLess 0 = .ok (.aload_n 0, 1) := by decide +kernel
theorem dX0_isLess_1 : decode cX0_isLess 1 = .ok (.iload_n 1, 1) := by decide +kernel
theorem dX0_isLess_2 : decode cX0_isLess 2 = .ok (.invokevirtual 68, 3) := by decide +kernel
theorem dX0_isLess_5 : decode cX0_isLess 5 = .ok (.aload_n 0, 1) := by decide +kernel
theorem dX0_isLess_6 : decode cX0_isLess 6 = .ok (.iload_n 2, 1) := by decide +kernel
theorem dX0_isLess_7 : decode cX0_isLess 7 = .ok (.invokevirtual 68, 3) := by decide +kernel
theorem dX0_isLess_10 : decode cX0_isLess 10 = .ok (.isub, 1) := by decide +kernel
theorem dX0_isLess_11 : decode cX0_isLess 11 = .ok (.istore_n 3, 1) := by decide +kernel
theorem dX0_isLess_12 : decode cX0_isLess 12 = .ok (.iload_n 3, 1) := by decide +kernel
theorem dX0_isLess_13 : decode cX0_isLess 13 = .ok (.ifCond .lt 12, 3) := by decide +kernel
theorem dX0_isLess_16 : decode cX0_isLess 16 = .ok (.iload_n 3, 1) := by decide +kernel
theorem dX0_isLess_17 : decode cX0_isLess 17 = .ok (.ifCond .ne 12, 3) := by decide +kernel
theorem dX0_isLess_20 : decode cX0_isLess 20 = .ok (.iload_n 1, 1) := by decide +kernel
theorem dX0_isLess_21 : decode cX0_isLess 21 = .ok (.iload_n 2, 1) := by decide +kernel
theorem dX0_isLess_22 : decode cX0_isLess 22 = .ok (.if_icmp .ge 7, 3) := by decide +kernel
theorem dX0_isLess_25 : decode cX0_isLess 25 = .ok (.iconst 1, 1) := by decide +kernel
theorem dX0_isLess_26 : decode cX0_isLess 26 = .ok (.goto 4, 3) := by decide +kernel
theorem dX0_isLess_29 : decode cX0_isLess 29 = .ok (.iconst 0, 1) := by decide +kernel
theorem dX0_isLess_30 : decode cX0_isLess 30 = .ok (.ireturn, 1) := by decide +kernel
set_option maxRecDepth 20000 in
theorem ggX0_leastTakenFor_X0_weightOfSet : GoodIn wsX0_leastTakenFor wsX0_weightOfSet := goodIn_r _ [12, 13, 14, 15, 16, 17, 18, 19, 20] (by decide +kernel) (by decide +kernel)
set_option maxRecDepth 20000 in
theorem gX0_leastTakenFor_X0_weightOfSet : GoodIn wsX0_leastTakenFor (wsV RX0 68 RX0 yX0_weightOfSet wsX0_weightOfSet) := goodIn_app (goodIn_of _ (by decide +kernel)) ggX0_leastTakenFor_X0_weightOfSet
theorem dX0_leastTakenFor_0 : decode cX0_leastTakenFor 0 = .ok (.ldc 34, 2) := by decide +kernel
theorem dX0_leastTakenFor_2 : decode cX0_leastTakenFor 2 = .ok (.istore_n 2, 1) := by decide +kernel
theorem dX0_leastTakenFor_3 : decode cX0_leastTakenFor 3 = .ok (.iconst 0, 1) := by decide +kernel
theorem dX0_leastTakenFor_4 : decode cX0_leastTakenFor 4 = .ok (.istore_n 3, 1) := by decide +kernel
theorem dX0_leastTakenFor_5 : decode cX0_leastTakenFor 5 = .ok (.iload_n 3, 1) := by decide +kernel
theorem dX0_leastTakenFor_6 : decode cX0_leastTakenFor 6 = .ok (.sipush 256, 3) := by decide +kernel
theorem dX0_leastTakenFor_9 : decode cX0_leastTakenFor 9 = .ok (.if_icmp .ge 36, 3) := by decide +kernel
theorem dX0_leastTakenFor_12 : decode cX0_leastTakenFor 12 = .ok (.aload_n 0, 1) := by decide +kernel
theorem dX0_leastTakenFor_13 : decode cX0_leastTakenFor 13 = .ok (.aload_n 0, 1) := by decide +kernel
theorem dX0_leastTakenFor_14 : decode cX0_leastTakenFor 14 = .ok (.getfield 21, 3) := by decide +kernel
theorem dX0_leastTakenFor_17 : decode cX0_leastTakenFor 17 = .ok (.iload_n 3, 1) := by decide +kernel
theorem dX0_leastTakenFor_18 : decode cX0_leastTakenFor 18 = .ok (.iconst (-1), 1) := by decide +kernel
theorem dX0_leastTakenFor_19 : decode cX0_leastTakenFor 19 = .ok (.ixor, 1) := by decide +kernel
theorem dX0_leastTakenFor_20 : decode cX0_leastTakenFor 20 = .ok (.iand, 1) := by decide +kernel
theorem dX0_leastTakenFor_21 : decode cX0_leastTakenFor 21 = .ok (.invokevirtual 68, 3) := by decide +kernel
theorem dX0_leastTakenFor_24 : decode cX0_leastTakenFor 24 = .ok (.iload_n 1, 1) := by decide +kernel
theorem dX0_leastTakenFor_25 : decode cX0_leastTakenFor 25 = .ok (.if_icmp .ne 14, 3) := by decide +kernel
theorem dX0_leastTakenFor_28 : decode cX0_leastTakenFor 28 = .ok (.iload_n 2, 1) := by decide +kernel
theorem dX0_leastTakenFor_29 : decode cX0_leastTakenFor 29 = .ok (.aload_n 0, 1) := by decide +kernel
theorem dX0_leastTakenFor_30 : decode cX0_leastTakenFor 30 = .ok (.getfield 25, 3) := by decide +kernel
theorem dX0_leastTakenFor_33 : decode cX0_leastTakenFor 33 = .ok (.iload_n 3, 1) := by decide +kernel
theorem dX0_leastTakenFor_34 : decode cX0_leastTakenFor 34 = .ok (.iaload, 1) := by decide +kernel
theorem dX0_leastTakenFor_35 : decode cX0_leastTakenFor 35 = .ok (.invokestatic 45, 3) := by decide +kernel
theorem dX0_leastTakenFor_38 : decode cX0_leastTakenFor 38 = .ok (.istore_n 2, 1) := by decide +kernel
theorem dX0_leastTakenFor_39 : decode cX0_leastTakenFor 39 = .ok (.iinc 3 1, 3) := by decide +kernel
theorem dX0_leastTakenFor_42 : decode cX0_leastTakenFor 42 = .ok (.goto (-37), 3) := by decide +kernel
theorem dX0_leastTakenFor_45 : decode cX0_leastTakenFor 45 = .ok (.iload_n 2, 1) := by decide +kernel
theorem dX0_leastTakenFor_46 : decode cX0_leastTakenFor 46 = .ok (.ireturn, 1) := by decide +kernel
theorem dX0_weightOfSet_0 : decode cX0_weightOfSet 0 = .ok (.aload_n 0, 1) := by decide +kernel
theorem dX0_weightOfSet_1 : decode cX0_weightOfSet 1 = .ok (.getfield 18, 3) := by decide +kernel
theorem dX0_weightOfSet_4 : decode cX0_weightOfSet 4 = .ok (.iload_n 1, 1) := by decide +kernel
theorem dX0_weightOfSet_5 : decode cX0_weightOfSet 5 = .ok (.sipush 255, 3) := by decide +kernel
theorem dX0_weightOfSet_8 : decode cX0_weightOfSet 8 = .ok (.iand, 1) := by decide +kernel
theorem dX0_weightOfSet_9 : decode cX0_weightOfSet 9 = .ok (.iaload, 1) := by decide +kernel
theorem dX0_weightOfSet_10 : decode cX0_weightOfSet 10 = .ok (.ireturn, 1) := by decide +kernel
theorem dX1_init_0 : decode cX1_init 0 = .ok (.aload_n 0, 1) := by decide +kernel
theorem dX1_init_1 : decode cX1_init 1 = .ok (.invokespecial 1, 3) := by decide +kernel
theorem dX1_init_4 : decode cX1_init 4 = .ok (.aload_n 0, 1) := by decide +kernel
theorem dX1_init_5 : decode cX1_init 5 = .ok (.iconst 0, 1) := by decide +kernel
theorem dX1_init_6 : decode cX1_init 6 = .ok (.putfield 7, 3) := by decide +kernel
theorem dX1_init_9 : decode cX1_init 9 = .ok (.aload_n 0, 1) := by decide +kernel
theorem dX1_init_10 : decode cX1_init 10 = .ok (.iload_n 1, 1) := by decide +kernel
theorem dX1_init_11 : decode cX1_init 11 = .ok (.putfield 13, 3) := by decide +kernel
theorem dX1_init_14 : decode cX1_init 14 = .ok (.aload_n 0, 1) := by decide +kernel
theorem dX1_init_15 : decode cX1_init 15 = .ok (.iload_n 2, 1) := by decide +kernel
theorem dX1_init_16 : decode cX1_init 16 = .ok (.putfield 16, 3) := by decide +kernel
theorem dX1_init_19 : decode cX1_init 19 = .ok (.aload_n 0, 1) := by decide +kernel
theorem dX1_init_20 : decode cX1_init 20 = .ok (.iload_n 3, 1) := by decide +kernel
theorem dX1_init_21 : decode cX1_init 21 = .ok (.putfield 19, 3) := by decide +kernel
theorem dX1_init_24 : decode cX1_init 24 = .ok (.aload_n 0, 1) := by decide +kernel
theorem dX1_init_25 : decode cX1_init 25 = .ok (.iload 4, 2) := by decide +kernel
theorem dX1_init_27 : decode cX1_init 27 = .ok (.putfield 22, 3) := by decide +kernel
theorem dX1_init_30 : decode cX1_init 30 = .ok (.aload_n 0, 1) := by decide +kernel
theorem dX1_init_31 : decode cX1_init 31 = .ok (.iload 5, 2) := by decide +kernel
theorem dX1_init_33 : decode cX1_init 33 = .ok (.putfield 25, 3) := by decide +kernel
theorem dX1_init_36 : decode cX1_init 36 = .ok (.return_, 1) := by decide +kernel
set_option maxRecDepth 20000 in
theorem ggX2_init_Jx4a65c_init_da8c8 : GoodIn wsX2_init wsJx4a65c_init_da8c8 := goodIn_r _ [23, 24, 25, 26, 27, 28, 29, 30, 31, 32, 33, 34, 35, 2, 3, 59, 60, 61] (by decide +kernel) (by decide +kernel)
set_option maxRecDepth 20000 in
theorem gX2_init_Jx4a65c_init_da8c8 : GoodIn wsX2_init (wsJx4a65c_init_da8c8) := ggX2_init_Jx4a65c_init_da8c8
set_option maxRecDepth 20000 in
theorem ggX2_init_X0_init : GoodIn wsX2_init wsX0_init := goodIn_r _ [37, 38, 2, 3, 4, 39, 40, 41, 42, 43, 44, 45, 62, 63, 64, 65, 66, 67, 68] (by decide +kernel) (by decide +kernel)
set_option maxRecDepth 20000 in
theorem gX2_init_X0_init_n39 : GoodIn wsX2_init (wsX0_init) := ggX2_init_X0_init
set_option maxRecDepth 20000 in
theorem ggX2_init_J7_fill_53178 : GoodIn wsX2_init wsJ7_fill_53178 := goodIn_r _ [49] (by decide +kernel) (by decide +kernel)
set_option maxRecDepth 20000 in
theorem gX2_init_J7_fill_53178 : GoodIn wsX2_init (va_wsS RX2 48 yJ7_fill_53178 wsJ7_fill_53178) := goodIn_app (goodIn_of _ (by decide +kernel)) ggX2_init_J7_fill_53178
theorem dX2_init_0 : decode cX2_init 0 = .ok (.aload_n 0, 1) := by decide +kernel
theorem dX2_init_1 : decode cX2_init 1 = .ok (.invokespecial 3, 3) := by decide +kernel
theorem dX2_init_4 : decode cX2_init 4 = .ok (.aload_n 0, 1) := by decide +kernel
theorem dX2_init_5 : decode cX2_init 5 = .ok (.bipush 8, 2) := by decide +kernel
theorem dX2_init_7 : decode cX2_init 7 = .ok (.newarray .int, 2) := by decide +kernel
theorem dX2_init_9 : decode cX2_init 9 = .ok (.putfield 9, 3) := by decide +kernel
theorem dX2_init_12 : decode cX2_init 12 = .ok (.aload_n 0, 1) := by decide +kernel
theorem dX2_init_13 : decode cX2_init 13 = .ok (.bipush 8, 2) := by decide +kernel
theorem dX2_init_15 : decode cX2_init 15 = .ok (.newarray .int, 2) := by decide +kernel
theorem dX2_init_17 : decode cX2_init 17 = .ok (.putfield 13, 3) := by decide +kernel
theorem dX2_init_20 : decode cX2_init 20 = .ok (.aload_n 0, 1) := by decide +kernel
theorem dX2_init_21 : decode cX2_init 21 = .ok (.bipush 8, 2) := by decide +kernel
theorem dX2_init_23 : decode cX2_init 23 = .ok (.newarray .int, 2) := by decide +kernel
theorem dX2_init_25 : decode cX2_init 25 = .ok (.putfield 16, 3) := by decide +kernel
theorem dX2_init_28 : decode cX2_init 28 = .ok (.aload_n 0, 1) := by decide +kernel
theorem dX2_init_29 : decode cX2_init 29 = .ok (.bipush 8, 2) := by decide +kernel
theorem dX2_init_31 : decode cX2_init 31 = .ok (.iconst 4, 1) := by decide +kernel
theorem dX2_init_32 : decode cX2_init 32 = .ok (.multianewarray 19 2, 4) := by decide +kernel
theorem dX2_init_36 : decode cX2_init 36 = .ok (.putfield 21, 3) := by decide +kernel
theorem dX2_init_39 : decode cX2_init 39 = .ok (.aload_n 0, 1) := by decide +kernel
theorem dX2_init_40 : decode cX2_init 40 = .ok (.iconst 4, 1) := by decide +kernel
theorem dX2_init_41 : decode cX2_init 41 = .ok (.newarray .int, 2) := by decide +kernel
theorem dX2_init_43 : decode cX2_init 43 = .ok (.putfield 24, 3) := by decide +kernel
theorem dX2_init_46 : decode cX2_init 46 = .ok (.aload_n 0, 1) := by decide +kernel
theorem dX2_init_47 : decode cX2_init 47 = .ok (.iconst 4, 1) := by decide +kernel
theorem dX2_init_48 : decode cX2_init 48 = .ok (.newarray .int, 2) := by decide +kernel
theorem dX2_init_50 : decode cX2_init 50 = .ok (.putfield 27, 3) := by decide +kernel
theorem dX2_init_53 : decode cX2_init 53 = .ok (.aload_n 0, 1) := by decide +kernel
theorem dX2_init_54 : decode cX2_init 54 = .ok (.new 30, 3) := by decide +kernel
theorem dX2_init_57 : decode cX2_init 57 = .ok (.dup, 1) := by decide +kernel
theorem dX2_init_58 : decode cX2_init 58 = .ok (.invokespecial 32, 3) := by decide +kernel
theorem dX2_init_61 : decode cX2_init 61 = .ok (.putfield 33, 3) := by decide +kernel
theorem dX2_init_64 : decode cX2_init 64 = .ok (.aload_n 0, 1) := by decide +kernel
theorem dX2_init_65 : decode cX2_init 65 = .ok (.new 37, 3) := by decide +kernel
theorem dX2_init_68 : decode cX2_init 68 = .ok (.dup, 1) := by decide +kernel
theorem dX2_init_69 : decode cX2_init 69 = .ok (.invokespecial 39, 3) := by decide +kernel
theorem dX2_init_72 : decode cX2_init 72 = .ok (.putfield 40, 3) := by decide +kernel
theorem dX2_init_75 : decode cX2_init 75 = .ok (.aload_n 0, 1) := by decide +kernel
theorem dX2_init_76 : decode cX2_init 76 = .ok (.iconst 0, 1) := by decide +kernel
theorem dX2_init_77 : decode cX2_init 77 = .ok (.putfield 44, 3) := by decide +kernel
theorem dX2_init_80 : decode cX2_init 80 = .ok (.aload_n 0, 1) := by decide +kernel
theorem dX2_init_81 : decode cX2_init 81 = .ok (.getfield 9, 3) := by decide +kernel
theorem dX2_init_84 : decode cX2_init 84 = .ok (.iconst 1, 1) := by decide +kernel
theorem dX2_init_85 : decode cX2_init 85 = .ok (.invokestatic 48, 3) := by decide +kernel
theorem dX2_init_88 : decode cX2_init 88 = .ok (.aload_n 0, 1) := by decide +kernel
theorem dX2_init_89 : decode cX2_init 89 = .ok (.getfield 13, 3) := by decide +kernel
theorem dX2_init_92 : decode cX2_init 92 = .ok (.iconst (-1), 1) := by decide +kernel
theorem dX2_init_93 : decode cX2_init 93 = .ok (.invokestatic 48, 3) := by decide +kernel
theorem dX2_init_96 : decode cX2_init 96 = .ok (.aload_n 0, 1) := by decide +kernel
theorem dX2_init_97 : decode cX2_init 97 = .ok (.getfield 24, 3) := by decide +kernel
theorem dX2_init_100 : decode cX2_init 100 = .ok (.iconst 1, 1) := by decide +kernel
theorem dX2_init_101 : decode cX2_init 101 = .ok (.invokestatic 48, 3) := by decide +kernel
theorem dX2_init_104 : decode cX2_init 104 = .ok (.aload_n 0, 1) := by decide +kernel
theorem dX2_init_105 : decode cX2_init 105 = .ok (.getfield 27, 3) := by decide +kernel
theorem dX2_init_108 : decode cX2_init 108 = .ok (.iconst 1, 1) := by decide +kernel
theorem dX2_init_109 : decode cX2_init 109 = .ok (.invokestatic 48, 3) := by decide +kernel
theorem dX2_init_112 : decode cX2_init 112 = .ok (.return_, 1) := by decide +kernel
set_option maxRecDepth 20000 in
theorem ggX2_setCores_X2_requireMachine : GoodIn wsX2_setCores wsX2_requireMachine := goodIn_ca (goodIn_r _ [5, 6, 7] (by decide +kernel) (by decide +kernel)) (goodIn_sub (fun _ h => List.mem_cons_of_mem _ (List.mem_append_left _ (List.mem_append_right _ h))) (by decide +kernel))
set_option maxRecDepth 20000 in
theorem gX2_setCores_X2_requireMachine : GoodIn wsX2_setCores (va_wsS RX2 54 yX2_requireMachine wsX2_requireMachine) := goodIn_app (goodIn_of _ (by decide +kernel)) ggX2_setCores_X2_requireMachine
set_option maxRecDepth 20000 in
theorem ggX2_setCores_X2_requireRange : GoodIn wsX2_setCores wsX2_requireRange := goodIn_ca (goodIn_r _ [10, 11, 12] (by decide +kernel) (by decide +kernel)) (goodIn_sub (fun _ h => List.mem_cons_of_mem _ (List.mem_append_right _ h)) (by decide +kernel))
set_option maxRecDepth 20000 in
theorem gX2_setCores_X2_requireRange : GoodIn wsX2_setCores (va_wsS RX2 58 yX2_requireRange wsX2_requireRange) := goodIn_app (goodIn_of _ (by decide +kernel)) ggX2_setCores_X2_requireRange
theorem dX2_setCores_0 : decode cX2_setCores 0 = .ok (.iload_n 1, 1) := by decide +kernel
theorem dX2_setCores_1 : decode cX2_setCores 1 = .ok (.invokestatic 54, 3) := by decide +kernel
theorem dX2_setCores_4 : decode cX2_setCores 4 = .ok (.iload_n 2, 1) := by decide +kernel
theorem dX2_setCores_5 : decode cX2_setCores 5 = .ok (.iconst 1, 1) := by decide +kernel
theorem dX2_setCores_6 : decode cX2_setCores 6 = .ok (.bipush 64, 2) := by decide +kernel
theorem dX2_setCores_8 : decode cX2_setCores 8 = .ok (.invokestatic 58, 3) := by decide +kernel
theorem dX2_setCores_11 : decode cX2_setCores 11 = .ok (.aload_n 0, 1) := by decide +kernel
theorem dX2_setCores_12 : decode cX2_setCores 12 = .ok (.getfield 9, 3) := by decide +kernel
theorem dX2_setCores_15 : decode cX2_setCores 15 = .ok (.iload_n 1, 1) := by decide +kernel
theorem dX2_setCores_16 : decode cX2_setCores 16 = .ok (.iaload, 1) := by decide +kernel
theorem dX2_setCores_17 : decode cX2_setCores 17 = .ok (.istore_n 3, 1) := by decide +kernel
theorem dX2_setCores_18 : decode cX2_setCores 18 = .ok (.aload_n 0, 1) := by decide +kernel
theorem dX2_setCores_19 : decode cX2_setCores 19 = .ok (.getfield 9, 3) := by decide +kernel
theorem dX2_setCores_22 : decode cX2_setCores 22 = .ok (.iload_n 1, 1) := by decide +kernel
theorem dX2_setCores_23 : decode cX2_setCores 23 = .ok (.iload_n 2, 1) := by decide +kernel
theorem dX2_setCores_24 : decode cX2_setCores 24 = .ok (.iastore, 1) := by decide +kernel
theorem dX2_setCores_25 : decode cX2_setCores 25 = .ok (.iload_n 3, 1) := by decide +kernel
theorem dX2_setCores_26 : decode cX2_setCores 26 = .ok (.ireturn, 1) := by decide +kernel
set_option maxRecDepth 20000 in
theorem ggX2_move_X2_requireMovable : GoodIn wsX2_move wsX2_requireMovable := goodIn_ca (goodIn_ca (goodIn_ca (goodIn_r _ [6, 7, 8, 9, 10, 1, 11, 12, 5, 13, 14, 15, 16, 17, 18, 19, 20, 21, 22, 23, 24, 25, 26, 27, 28] (by decide +kernel) (by decide +kernel)) (goodIn_sub (fun _ h => List.mem_cons_of_mem _ (List.mem_append_left _ (List.mem_append_left _ (List.mem_append_right _ h)))) (by decide +kernel))) (goodIn_sub (fun _ h => List.mem_cons_of_mem _ (List.mem_append_left _ (List.mem_append_right _ h))) (by decide +kernel))) (goodIn_sub (fun _ h => List.mem_cons_of_mem _ (List.mem_append_right _ h)) (by decide +kernel))
set_option maxRecDepth 20000 in
theorem gX2_move_X2_requireMovable : GoodIn wsX2_move (wsV RX2 62 RX2 yX2_requireMovable wsX2_requireMovable) := goodIn_app (goodIn_of _ (by decide +kernel)) ggX2_move_X2_requireMovable
theorem dX2_move_0 : decode cX2_move 0 = .ok (.aload_n 0, 1) := by decide +kernel
theorem dX2_move_1 : decode cX2_move 1 = .ok (.iload_n 1, 1) := by decide +kernel
theorem dX2_move_2 : decode cX2_move 2 = .ok (.iload_n 2, 1) := by decide +kernel
theorem dX2_move_3 : decode cX2_move 3 = .ok (.invokevirtual 62, 3) := by decide +kernel
theorem dX2_move_6 : decode cX2_move 6 = .ok (.aload_n 0, 1) := by decide +kernel
theorem dX2_move_7 : decode cX2_move 7 = .ok (.getfield 13, 3) := by decide +kernel
theorem dX2_move_10 : decode cX2_move 10 = .ok (.iload_n 1, 1) := by decide +kernel
theorem dX2_move_11 : decode cX2_move 11 = .ok (.iaload, 1) := by decide +kernel
theorem dX2_move_12 : decode cX2_move 12 = .ok (.istore_n 3, 1) := by decide +kernel
theorem dX2_move_13 : decode cX2_move 13 = .ok (.aload_n 0, 1) := by decide +kernel
theorem dX2_move_14 : decode cX2_move 14 = .ok (.getfield 13, 3) := by decide +kernel
theorem dX2_move_17 : decode cX2_move 17 = .ok (.iload_n 1, 1) := by decide +kernel
theorem dX2_move_18 : decode cX2_move 18 = .ok (.iload_n 2, 1) := by decide +kernel
theorem dX2_move_19 : decode cX2_move 19 = .ok (.iastore, 1) := by decide +kernel
theorem dX2_move_20 : decode cX2_move 20 = .ok (.iload_n 3, 1) := by decide +kernel
theorem dX2_move_21 : decode cX2_move 21 = .ok (.ireturn, 1) := by decide +kernel
set_option maxRecDepth 20000 in
theorem ggX2_find_X2_requireMachine : GoodIn wsX2_find wsX2_requireMachine := goodIn_ca (goodIn_r _ [6, 7, 8] (by decide +kernel) (by decide +kernel)) (goodIn_sub (fun _ h => List.mem_cons_of_mem _ (List.mem_append_left _ (List.mem_append_right _ h))) (by decide +kernel))
set_option maxRecDepth 20000 in
theorem gX2_find_X2_requireMachine : GoodIn wsX2_find (va_wsS RX2 54 yX2_requireMachine wsX2_requireMachine) := goodIn_app (goodIn_of _ (by decide +kernel)) ggX2_find_X2_requireMachine
set_option maxRecDepth 20000 in
theorem ggX2_find_X2_requireProduct : GoodIn wsX2_find wsX2_requireProduct := goodIn_ca (goodIn_r _ [11, 7, 8] (by decide +kernel) (by decide +kernel)) (goodIn_sub (fun _ h => List.mem_cons_of_mem _ (List.mem_append_left _ (List.mem_append_right _ h))) (by decide +kernel))
set_option maxRecDepth 20000 in
theorem gX2_find_X2_requireProduct : GoodIn wsX2_find (va_wsS RX2 66 yX2_requireProduct wsX2_requireProduct) := goodIn_app (goodIn_of _ (by decide +kernel)) ggX2_find_X2_requireProduct
set_option maxRecDepth 20000 in
theorem ggX2_find_X2_requireRange : GoodIn wsX2_find wsX2_requireRange := goodIn_ca (goodIn_r _ [14, 15, 16] (by decide +kernel) (by decide +kernel)) (goodIn_sub (fun _ h => List.mem_cons_of_mem _ (List.mem_append_right _ h)) (by decide +kernel))
set_option maxRecDepth 20000 in
theorem gX2_find_X2_requireRange : GoodIn wsX2_find (va_wsS RX2 58 yX2_requireRange wsX2_requireRange) := goodIn_app (goodIn_of _ (by decide +kernel)) ggX2_find_X2_requireRange
theorem dX2_find_0 : decode cX2_find 0 = .ok (.iload_n 1, 1) := by decide +kernel
theorem dX2_find_1 : decode cX2_find 1 = .ok (.invokestatic 54, 3) := by decide +kernel
theorem dX2_find_4 : decode cX2_find 4 = .ok (.iload_n 2, 1) := by decide +kernel
theorem dX2_find_5 : decode cX2_find 5 = .ok (.invokestatic 66, 3) := by decide +kernel
theorem dX2_find_8 : decode cX2_find 8 = .ok (.iload_n 3, 1) := by decide +kernel
theorem dX2_find_9 : decode cX2_find 9 = .ok (.iconst 0, 1) := by decide +kernel
theorem dX2_find_10 : decode cX2_find 10 = .ok (.aload_n 0, 1) := by decide +kernel
theorem dX2_find_11 : decode cX2_find 11 = .ok (.getfield 24, 3) := by decide +kernel
theorem dX2_find_14 : decode cX2_find 14 = .ok (.iload_n 2, 1) := by decide +kernel
theorem dX2_find_15 : decode cX2_find 15 = .ok (.iaload, 1) := by decide +kernel
theorem dX2_find_16 : decode cX2_find 16 = .ok (.invokestatic 58, 3) := by decide +kernel
theorem dX2_find_19 : decode cX2_find 19 = .ok (.aload_n 0, 1) := by decide +kernel
theorem dX2_find_20 : decode cX2_find 20 = .ok (.getfield 21, 3) := by decide +kernel
theorem dX2_find_23 : decode cX2_find 23 = .ok (.iload_n 1, 1) := by decide +kernel
theorem dX2_find_24 : decode cX2_find 24 = .ok (.aaload, 1) := by decide +kernel
theorem dX2_find_25 : decode cX2_find 25 = .ok (.iload_n 2, 1) := by decide +kernel
theorem dX2_find_26 : decode cX2_find 26 = .ok (.iaload, 1) := by decide +kernel
theorem dX2_find_27 : decode cX2_find 27 = .ok (.istore 4, 2) := by decide +kernel
theorem dX2_find_29 : decode cX2_find 29 = .ok (.aload_n 0, 1) := by decide +kernel
theorem dX2_find_30 : decode cX2_find 30 = .ok (.getfield 21, 3) := by decide +kernel
theorem dX2_find_33 : decode cX2_find 33 = .ok (.iload_n 1, 1) := by decide +kernel
theorem dX2_find_34 : decode cX2_find 34 = .ok (.aaload, 1) := by decide +kernel
theorem dX2_find_35 : decode cX2_find 35 = .ok (.iload_n 2, 1) := by decide +kernel
theorem dX2_find_36 : decode cX2_find 36 = .ok (.iload_n 3, 1) := by decide +kernel
theorem dX2_find_37 : decode cX2_find 37 = .ok (.iastore, 1) := by decide +kernel
theorem dX2_find_38 : decode cX2_find 38 = .ok (.iload 4, 2) := by decide +kernel
theorem dX2_find_40 : decode cX2_find 40 = .ok (.ireturn, 1) := by decide +kernel
set_option maxRecDepth 20000 in
theorem ggX2_setPrice_X2_requireProduct : GoodIn wsX2_setPrice wsX2_requireProduct := goodIn_ca (goodIn_r _ [5, 6, 7] (by decide +kernel) (by decide +kernel)) (goodIn_sub (fun _ h => List.mem_cons_of_mem _ (List.mem_append_left _ (List.mem_append_right _ h))) (by decide +kernel))
set_option maxRecDepth 20000 in
theorem gX2_setPrice_X2_requireProduct : GoodIn wsX2_setPrice (va_wsS RX2 66 yX2_requireProduct wsX2_requireProduct) := goodIn_app (goodIn_of _ (by decide +kernel)) ggX2_setPrice_X2_requireProduct
set_option maxRecDepth 20000 in
theorem ggX2_setPrice_X2_requireRange : GoodIn wsX2_setPrice wsX2_requireRange := goodIn_ca (goodIn_r _ [10, 11, 12] (by decide +kernel) (by decide +kernel)) (goodIn_sub (fun _ h => List.mem_cons_of_mem _ (List.mem_append_right _ h)) (by decide +kernel))
set_option maxRecDepth 20000 in
theorem gX2_setPrice_X2_requireRange : GoodIn wsX2_setPrice (va_wsS RX2 58 yX2_requireRange wsX2_requireRange) := goodIn_app (goodIn_of _ (by decide +kernel)) ggX2_setPrice_X2_requireRange
theorem dX2_setPrice_0 : decode cX2_setPrice 0 = .ok (.iload_n 1, 1) := by decide +kernel
theorem dX2_setPrice_1 : decode cX2_setPrice 1 = .ok (.invokestatic 66, 3) := by decide +kernel
theorem dX2_setPrice_4 : decode cX2_setPrice 4 = .ok (.iload_n 2, 1) := by decide +kernel
theorem dX2_setPrice_5 : decode cX2_setPrice 5 = .ok (.iconst 0, 1) := by decide +kernel
theorem dX2_setPrice_6 : decode cX2_setPrice 6 = .ok (.sipush 1000, 3) := by decide +kernel
theorem dX2_setPrice_9 : decode cX2_setPrice 9 = .ok (.invokestatic 58, 3) := by decide +kernel
theorem dX2_setPrice_12 : decode cX2_setPrice 12 = .ok (.aload_n 0, 1) := by decide +kernel
theorem dX2_setPrice_13 : decode cX2_setPrice 13 = .ok (.getfield 27, 3) := by decide +kernel
theorem dX2_setPrice_16 : decode cX2_setPrice 16 = .ok (.iload_n 1, 1) := by decide +kernel
theorem dX2_setPrice_17 : decode cX2_setPrice 17 = .ok (.iaload, 1) := by decide +kernel
theorem dX2_setPrice_18 : decode cX2_setPrice 18 = .ok (.istore_n 3, 1) := by decide +kernel
theorem dX2_setPrice_19 : decode cX2_setPrice 19 = .ok (.aload_n 0, 1) := by decide +kernel
theorem dX2_setPrice_20 : decode cX2_setPrice 20 = .ok (.getfield 27, 3) := by decide +kernel
theorem dX2_setPrice_23 : decode cX2_setPrice 23 = .ok (.iload_n 1, 1) := by decide +kernel
theorem dX2_setPrice_24 : decode cX2_setPrice 24 = .ok (.iload_n 2, 1) := by decide +kernel
theorem dX2_setPrice_25 : decode cX2_setPrice 25 = .ok (.iastore, 1) := by decide +kernel
theorem dX2_setPrice_26 : decode cX2_setPrice 26 = .ok (.iload_n 3, 1) := by decide +kernel
theorem dX2_setPrice_27 : decode cX2_setPrice 27 = .ok (.ireturn, 1) := by decide +kernel
set_option maxRecDepth 20000 in
theorem ggX2_release_X2_requireProduct : GoodIn wsX2_release wsX2_requireProduct := goodIn_ca (goodIn_r _ [13, 14, 15] (by decide +kernel) (by decide +kernel)) (goodIn_sub (fun _ h => List.mem_cons_of_mem _ (List.mem_append_right _ h)) (by decide +kernel))
set_option maxRecDepth 20000 in
theorem gX2_release_X2_requireProduct : GoodIn wsX2_release (va_wsS RX2 66 yX2_requireProduct wsX2_requireProduct) := goodIn_app (goodIn_of _ (by decide +kernel)) ggX2_release_X2_requireProduct
set_option maxRecDepth 20000 in
theorem ggX2_release_Jx4a65c_size_8abf5 : GoodIn wsX2_release wsJx4a65c_size_8abf5 := goodIn_r _ [20, 21, 54, 55, 56] (by decide +kernel) (by decide +kernel)
set_option maxRecDepth 20000 in
theorem gX2_release_Jx4a65c_size_8abf5 : GoodIn wsX2_release (wsV RX2 76 RJx4a65c yJx4a65c_size_8abf5 wsJx4a65c_size_8abf5) := goodIn_app (goodIn_of _ (by decide +kernel)) ggX2_release_Jx4a65c_size_8abf5
set_option maxRecDepth 20000 in
theorem ggX2_release_Jx4a65c_get_915e3 : GoodIn wsX2_release wsJx4a65c_get_915e3 := goodIn_r _ [25, 21, 26, 27, 28, 29, 30, 31, 32, 33, 34, 35, 36, 19, 37, 38, 54, 55, 56] (by decide +kernel) (by decide +kernel)
set_option maxRecDepth 20000 in
theorem gX2_release_Jx4a65c_get_915e3 : GoodIn wsX2_release (wsV RX2 80 RJx4a65c yJx4a65c_get_915e3 wsJx4a65c_get_915e3) := goodIn_app (goodIn_of _ (by decide +kernel)) ggX2_release_Jx4a65c_get_915e3
theorem dX2_release_0 : decode cX2_release 0 = .ok (.iload_n 1, 1) := by decide +kernel
theorem dX2_release_1 : decode cX2_release 1 = .ok (.invokestatic 66, 3) := by decide +kernel
theorem dX2_release_4 : decode cX2_release 4 = .ok (.aload_n 0, 1) := by decide +kernel
theorem dX2_release_5 : decode cX2_release 5 = .ok (.getfield 24, 3) := by decide +kernel
theorem dX2_release_8 : decode cX2_release 8 = .ok (.iload_n 1, 1) := by decide +kernel
theorem dX2_release_9 : decode cX2_release 9 = .ok (.iaload, 1) := by decide +kernel
theorem dX2_release_10 : decode cX2_release 10 = .ok (.istore_n 2, 1) := by decide +kernel
theorem dX2_release_11 : decode cX2_release 11 = .ok (.iload_n 2, 1) := by decide +kernel
theorem dX2_release_12 : decode cX2_release 12 = .ok (.bipush 9, 2) := by decide +kernel
theorem dX2_release_14 : decode cX2_release 14 = .ok (.if_icmp .lt 13, 3) := by decide +kernel
theorem dX2_release_17 : decode cX2_release 17 = .ok (.new 69, 3) := by decide +kernel
theorem dX2_release_20 : decode cX2_release 20 = .ok (.dup, 1) := by decide +kernel
theorem dX2_release_21 : decode cX2_release 21 = .ok (.ldc 71, 2) := by decide +kernel
theorem dX2_release_23 : decode cX2_release 23 = .ok (.invokespecial 73, 3) := by decide +kernel
theorem dX2_release_26 : decode cX2_release 26 = .ok (.athrow, 1) := by decide +kernel
theorem dX2_release_27 : decode cX2_release 27 = .ok (.aload_n 0, 1) := by decide +kernel
theorem dX2_release_28 : decode cX2_release 28 = .ok (.getfield 24, 3) := by decide +kernel
theorem dX2_release_31 : decode cX2_release 31 = .ok (.iload_n 1, 1) := by decide +kernel
theorem dX2_release_32 : decode cX2_release 32 = .ok (.iload_n 2, 1) := by decide +kernel
theorem dX2_release_33 : decode cX2_release 33 = .ok (.iconst 1, 1) := by decide +kernel
theorem dX2_release_34 : decode cX2_release 34 = .ok (.iadd, 1) := by decide +kernel
theorem dX2_release_35 : decode cX2_release 35 = .ok (.iastore, 1) := by decide +kernel
theorem dX2_release_36 : decode cX2_release 36 = .ok (.iconst 0, 1) := by decide +kernel
theorem dX2_release_37 : decode cX2_release 37 = .ok (.istore_n 3, 1) := by decide +kernel
theorem dX2_release_38 : decode cX2_release 38 = .ok (.iconst 0, 1) := by decide +kernel
theorem dX2_release_39 : decode cX2_release 39 = .ok (.istore 4, 2) := by decide +kernel
theorem dX2_release_41 : decode cX2_release 41 = .ok (.iload 4, 2) := by decide +kernel
theorem dX2_release_43 : decode cX2_release 43 = .ok (.aload_n 0, 1) := by decide +kernel
theorem dX2_release_44 : decode cX2_release 44 = .ok (.getfield 33, 3) := by decide +kernel
theorem dX2_release_47 : decode cX2_release 47 = .ok (.invokevirtual 76, 3) := by decide +kernel
theorem dX2_release_50 : decode cX2_release 50 = .ok (.if_icmp .ge 64, 3) := by decide +kernel
theorem dX2_release_53 : decode cX2_release 53 = .ok (.aload_n 0, 1) := by decide +kernel
theorem dX2_release_54 : decode cX2_release 54 = .ok (.getfield 33, 3) := by decide +kernel
theorem dX2_release_57 : decode cX2_release 57 = .ok (.iload 4, 2) := by decide +kernel
theorem dX2_release_59 : decode cX2_release 59 = .ok (.invokevirtual 80, 3) := by decide +kernel
theorem dX2_release_62 : decode cX2_release 62 = .ok (.checkcast 84, 3) := by decide +kernel
theorem dX2_release_65 : decode cX2_release 65 = .ok (.astore 5, 2) := by decide +kernel
theorem dX2_release_67 : decode cX2_release 67 = .ok (.aload 5, 2) := by decide +kernel
theorem dX2_release_69 : decode cX2_release 69 = .ok (.getfield 86, 3) := by decide +kernel
theorem dX2_release_72 : decode cX2_release 72 = .ok (.iload_n 1, 1) := by decide +kernel
theorem dX2_release_73 : decode cX2_release 73 = .ok (.if_icmp .ne 35, 3) := by decide +kernel
theorem dX2_release_76 : decode cX2_release 76 = .ok (.aload 5, 2) := by decide +kernel
theorem dX2_release_78 : decode cX2_release 78 = .ok (.getfield 89, 3) := by decide +kernel
theorem dX2_release_81 : decode cX2_release 81 = .ok (.iload_n 2, 1) := by decide +kernel
theorem dX2_release_82 : decode cX2_release 82 = .ok (.if_icmp .ne 26, 3) := by decide +kernel
theorem dX2_release_85 : decode cX2_release 85 = .ok (.aload 5, 2) := by decide +kernel
theorem dX2_release_87 : decode cX2_release 87 = .ok (.getfield 92, 3) := by decide +kernel
theorem dX2_release_90 : decode cX2_release 90 = .ok (.aload_n 0, 1) := by decide +kernel
theorem dX2_release_91 : decode cX2_release 91 = .ok (.getfield 44, 3) := by decide +kernel
theorem dX2_release_94 : decode cX2_release 94 = .ok (.if_icmp .lt 14, 3) := by decide +kernel
theorem dX2_release_97 : decode cX2_release 97 = .ok (.aload 5, 2) := by decide +kernel
theorem dX2_release_99 : decode cX2_release 99 = .ok (.iload_n 2, 1) := by decide +kernel
theorem dX2_release_100 : decode cX2_release 100 = .ok (.iconst 1, 1) := by decide +kernel
theorem dX2_release_101 : decode cX2_release 101 = .ok (.iadd, 1) := by decide +kernel
theorem dX2_release_102 : decode cX2_release 102 = .ok (.putfield 89, 3) := by decide +kernel
theorem dX2_release_105 : decode cX2_release 105 = .ok (.iinc 3 1, 3) := by decide +kernel
theorem dX2_release_108 : decode cX2_release 108 = .ok (.iinc 4 1, 3) := by decide +kernel
theorem dX2_release_111 : decode cX2_release 111 = .ok (.goto (-70), 3) := by decide +kernel
theorem dX2_release_114 : decode cX2_release 114 = .ok (.iload_n 3, 1) := by decide +kernel
theorem dX2_release_115 : decode cX2_release 115 = .ok (.ireturn, 1) := by decide +kernel
set_option maxRecDepth 20000 in
theorem ggX2_buy_X2_requireProduct : GoodIn wsX2_buy wsX2_requireProduct := goodIn_ca (goodIn_r _ [5, 6, 7] (by decide +kernel) (by decide +kernel)) (goodIn_sub (fun _ h => List.mem_cons_of_mem _ (List.mem_append_left _ (List.mem_append_left _ (List.mem_append_right _ h)))) (by decide +kernel))
set_option maxRecDepth 20000 in
theorem gX2_buy_X2_requireProduct : GoodIn wsX2_buy (va_wsS RX2 66 yX2_requireProduct wsX2_requireProduct) := goodIn_app (goodIn_of _ (by decide +kernel)) ggX2_buy_X2_requireProduct
set_option maxRecDepth 20000 in
theorem ggX2_buy_X2_requireRange : GoodIn wsX2_buy wsX2_requireRange := goodIn_ca (goodIn_r _ [10, 11, 12] (by decide +kernel) (by decide +kernel)) (goodIn_sub (fun _ h => List.mem_cons_of_mem _ (List.mem_append_left _ (List.mem_append_right _ h))) (by decide +kernel))
set_option maxRecDepth 20000 in
theorem gX2_buy_X2_requireRange : GoodIn wsX2_buy (va_wsS RX2 58 yX2_requireRange wsX2_requireRange) := goodIn_app (goodIn_of _ (by decide +kernel)) ggX2_buy_X2_requireRange
set_option maxRecDepth 20000 in
theorem ggX2_buy_X2_requireRoomForRight : GoodIn wsX2_buy wsX2_requireRoomForRight := goodIn_ca (goodIn_r _ [16, 17, 18, 19, 20, 21, 22, 23, 24, 25, 100, 101, 102, 103, 104, 105, 106, 107, 108, 109, 110, 111] (by decide +kernel) (by decide +kernel)) (goodIn_sub (fun _ h => List.mem_cons_of_mem _ (List.mem_append_right _ h)) (by decide +kernel))
set_option maxRecDepth 20000 in
theorem gX2_buy_X2_requireRoomForRight : GoodIn wsX2_buy (wsV RX2 95 RX2 yX2_requireRoomForRight wsX2_requireRoomForRight) := goodIn_app (goodIn_of _ (by decide +kernel)) ggX2_buy_X2_requireRoomForRight
set_option maxRecDepth 20000 in
theorem ggX2_buy_X2_addRight : GoodIn wsX2_buy wsX2_addRight := goodIn_r _ [29, 19, 30, 31, 32, 33, 34, 35, 36, 37, 38, 39, 40, 41, 42, 43, 44, 45, 46, 47, 48, 23, 49, 50, 51, 52, 25, 53, 54, 55, 56, 57, 58, 59, 60, 61, 62, 63, 64, 65, 66, 67, 68, 69, 70, 71, 72, 73, 74, 75, 76, 77, 78, 79, 80, 81, 82, 83, 84, 85, 86, 87, 88, 89, 90, 91, 92, 93, 94, 95, 96, 97, 98, 99, 20, 21, 22, 24, 100, 101, 102, 103, 104, 105, 106, 107, 108, 112, 113, 114, 115, 116, 117, 109, 110, 111] (by decide +kernel) (by decide +kernel)
set_option maxRecDepth 20000 in
theorem gX2_buy_X2_addRight : GoodIn wsX2_buy (wsV RX2 98 RX2 yX2_addRight wsX2_addRight) := goodIn_app (goodIn_of _ (by decide +kernel)) ggX2_buy_X2_addRight
theorem dX2_buy_0 : decode cX2_buy 0 = .ok (.iload_n 1, 1) := by decide +kernel
theorem dX2_buy_1 : decode cX2_buy 1 = .ok (.invokestatic 66, 3) := by decide +kernel
theorem dX2_buy_4 : decode cX2_buy 4 = .ok (.iload_n 2, 1) := by decide +kernel
theorem dX2_buy_5 : decode cX2_buy 5 = .ok (.iconst 0, 1) := by decide +kernel
theorem dX2_buy_6 : decode cX2_buy 6 = .ok (.iconst 1, 1) := by decide +kernel
theorem dX2_buy_7 : decode cX2_buy 7 = .ok (.invokestatic 58, 3) := by decide +kernel
theorem dX2_buy_10 : decode cX2_buy 10 = .ok (.iload_n 3, 1) := by decide +kernel
theorem dX2_buy_11 : decode cX2_buy 11 = .ok (.iconst 1, 1) := by decide +kernel
theorem dX2_buy_12 : decode cX2_buy 12 = .ok (.sipush 500, 3) := by decide +kernel
theorem dX2_buy_15 : decode cX2_buy 15 = .ok (.invokestatic 58, 3) := by decide +kernel
theorem dX2_buy_18 : decode cX2_buy 18 = .ok (.iload 4, 2) := by decide +kernel
theorem dX2_buy_20 : decode cX2_buy 20 = .ok (.iconst 0, 1) := by decide +kernel
theorem dX2_buy_21 : decode cX2_buy 21 = .ok (.sipush 1000, 3) := by decide +kernel
theorem dX2_buy_24 : decode cX2_buy 24 = .ok (.invokestatic 58, 3) := by decide +kernel
theorem dX2_buy_27 : decode cX2_buy 27 = .ok (.aload_n 0, 1) := by decide +kernel
theorem dX2_buy_28 : decode cX2_buy 28 = .ok (.invokevirtual 95, 3) := by decide +kernel
theorem dX2_buy_31 : decode cX2_buy 31 = .ok (.aload_n 0, 1) := by decide +kernel
theorem dX2_buy_32 : decode cX2_buy 32 = .ok (.iload_n 1, 1) := by decide +kernel
theorem dX2_buy_33 : decode cX2_buy 33 = .ok (.iload_n 2, 1) := by decide +kernel
theorem dX2_buy_34 : decode cX2_buy 34 = .ok (.iload_n 3, 1) := by decide +kernel
theorem dX2_buy_35 : decode cX2_buy 35 = .ok (.aload_n 0, 1) := by decide +kernel
theorem dX2_buy_36 : decode cX2_buy 36 = .ok (.getfield 44, 3) := by decide +kernel
theorem dX2_buy_39 : decode cX2_buy 39 = .ok (.iload 4, 2) := by decide +kernel
theorem dX2_buy_41 : decode cX2_buy 41 = .ok (.iadd, 1) := by decide +kernel
theorem dX2_buy_42 : decode cX2_buy 42 = .ok (.iconst 1, 1) := by decide +kernel
theorem dX2_buy_43 : decode cX2_buy 43 = .ok (.isub, 1) := by decide +kernel
theorem dX2_buy_44 : decode cX2_buy 44 = .ok (.invokevirtual 98, 3) := by decide +kernel
theorem dX2_buy_47 : decode cX2_buy 47 = .ok (.ireturn, 1) := by decide +kernel
set_option maxRecDepth 20000 in
theorem ggX2_upgrade_X2_rightAt : GoodIn wsX2_upgrade wsX2_rightAt := goodIn_ca (goodIn_r _ [13, 14, 15, 16, 17, 18, 19, 20, 21, 22, 23, 24, 25, 26, 27, 28, 29, 30, 31, 32, 33, 34, 35, 36, 37, 38, 39, 40, 131, 132, 133, 134, 135, 136, 137, 138, 139, 140, 141, 142] (by decide +kernel) (by decide +kernel)) (goodIn_sub (fun _ h => List.mem_cons_of_mem _ (List.mem_append_left _ (List.mem_append_right _ h))) (by decide +kernel))
set_option maxRecDepth 20000 in
theorem gX2_upgrade_X2_rightAt : GoodIn wsX2_upgrade (wsV RX2 102 RX2 yX2_rightAt wsX2_rightAt) := goodIn_app (goodIn_of _ (by decide +kernel)) ggX2_upgrade_X2_rightAt
set_option maxRecDepth 20000 in
theorem ggX2_upgrade_X2_requireRange : GoodIn wsX2_upgrade wsX2_requireRange := goodIn_ca (goodIn_r _ [43, 44, 45] (by decide +kernel) (by decide +kernel)) (goodIn_sub (fun _ h => List.mem_cons_of_mem _ (List.mem_append_right _ h)) (by decide +kernel))
set_option maxRecDepth 20000 in
theorem gX2_upgrade_X2_requireRange : GoodIn wsX2_upgrade (va_wsS RX2 58 yX2_requireRange wsX2_requireRange) := goodIn_app (goodIn_of _ (by decide +kernel)) ggX2_upgrade_X2_requireRange
set_option maxRecDepth 20000 in
theorem ggX2_upgrade_X2_requireCount : GoodIn wsX2_upgrade wsX2_requireCount := goodIn_ca (goodIn_r _ [48, 1, 2, 6, 125, 126, 127, 128, 129, 130] (by decide +kernel) (by decide +kernel)) (goodIn_sub (fun _ h => List.mem_cons_of_mem _ (List.mem_append_left _ (List.mem_append_left _ (List.mem_append_right _ h)))) (by decide +kernel))
set_option maxRecDepth 20000 in
theorem gX2_upgrade_X2_requireCount : GoodIn wsX2_upgrade (va_wsS RX2 106 yX2_requireCount wsX2_requireCount) := goodIn_app (goodIn_of _ (by decide +kernel)) ggX2_upgrade_X2_requireCount
set_option maxRecDepth 20000 in
theorem ggX2_upgrade_X2_requireRoomForRight : GoodIn wsX2_upgrade wsX2_requireRoomForRight := goodIn_ca (goodIn_r _ [52, 1, 2, 16, 18, 19, 20, 21, 22, 23, 131, 132, 133, 134, 135, 136, 137, 138, 139, 140, 141, 142] (by decide +kernel) (by decide +kernel)) (goodIn_sub (fun _ h => List.mem_cons_of_mem _ (List.mem_append_left _ (List.mem_append_left _ (List.mem_append_right _ h)))) (by decide +kernel))
set_option maxRecDepth 20000 in
theorem gX2_upgrade_X2_requireRoomForRight : GoodIn wsX2_upgrade (wsV RX2 95 RX2 yX2_requireRoomForRight wsX2_requireRoomForRight) := goodIn_app (goodIn_of _ (by decide +kernel)) ggX2_upgrade_X2_requireRoomForRight
set_option maxRecDepth 20000 in
theorem ggX2_upgrade_X2_addRight : GoodIn wsX2_upgrade wsX2_addRight := goodIn_r _ [56, 16, 57, 58, 59, 4, 60, 61, 62, 63, 64, 65, 66, 67, 68, 69, 70, 71, 72, 73, 74, 21, 75, 76, 77, 40, 23, 78, 79, 80, 81, 82, 83, 84, 85, 86, 87, 88, 89, 90, 91, 92, 93, 94, 95, 96, 97, 98, 99, 100, 101, 102, 103, 104, 105, 106, 107, 108, 109, 110, 111, 112, 113, 114, 115, 116, 117, 118, 119, 120, 121, 122, 123, 124, 18, 19, 20, 22, 131, 132, 133, 134, 135, 136, 137, 138, 139, 125, 126, 127, 128, 129, 130, 140, 141, 142] (by decide +kernel) (by decide +kernel)
set_option maxRecDepth 20000 in
theorem gX2_upgrade_X2_addRight : GoodIn wsX2_upgrade (wsV RX2 98 RX2 yX2_addRight wsX2_addRight) := goodIn_app (goodIn_of _ (by decide +kernel)) ggX2_upgrade_X2_addRight
theorem dX2_upgrade_0 : decode cX2_upgrade 0 = .ok (.aload_n 0, 1) := by decide +kernel
theorem dX2_upgrade_1 : decode cX2_upgrade 1 = .ok (.iload_n 1, 1) := by decide +kernel
theorem dX2_upgrade_2 : decode cX2_upgrade 2 = .ok (.invokevirtual 102, 3) := by decide +kernel
theorem dX2_upgrade_5 : decode cX2_upgrade 5 = .ok (.astore_n 3, 1) := by decide +kernel
theorem dX2_upgrade_6 : decode cX2_upgrade 6 = .ok (.iload_n 2, 1) := by decide +kernel
theorem dX2_upgrade_7 : decode cX2_upgrade 7 = .ok (.iconst 1, 1) := by decide +kernel
theorem dX2_upgrade_8 : decode cX2_upgrade 8 = .ok (.sipush 500, 3) := by decide +kernel
theorem dX2_upgrade_11 : decode cX2_upgrade 11 = .ok (.invokestatic 58, 3) := by decide +kernel
theorem dX2_upgrade_14 : decode cX2_upgrade 14 = .ok (.aload_n 3, 1) := by decide +kernel
theorem dX2_upgrade_15 : decode cX2_upgrade 15 = .ok (.iload_n 2, 1) := by decide +kernel
theorem dX2_upgrade_16 : decode cX2_upgrade 16 = .ok (.invokestatic 106, 3) := by decide +kernel
theorem dX2_upgrade_19 : decode cX2_upgrade 19 = .ok (.aload_n 3, 1) := by decide +kernel
theorem dX2_upgrade_20 : decode cX2_upgrade 20 = .ok (.getfield 89, 3) := by decide +kernel
theorem dX2_upgrade_23 : decode cX2_upgrade 23 = .ok (.aload_n 0, 1) := by decide +kernel
theorem dX2_upgrade_24 : decode cX2_upgrade 24 = .ok (.getfield 24, 3) := by decide +kernel
theorem dX2_upgrade_27 : decode cX2_upgrade 27 = .ok (.aload_n 3, 1) := by decide +kernel
theorem dX2_upgrade_28 : decode cX2_upgrade 28 = .ok (.getfield 86, 3) := by decide +kernel
theorem dX2_upgrade_31 : decode cX2_upgrade 31 = .ok (.iaload, 1) := by decide +kernel
theorem dX2_upgrade_32 : decode cX2_upgrade 32 = .ok (.if_icmp .ne 13, 3) := by decide +kernel
theorem dX2_upgrade_35 : decode cX2_upgrade 35 = .ok (.new 69, 3) := by decide +kernel
theorem dX2_upgrade_38 : decode cX2_upgrade 38 = .ok (.dup, 1) := by decide +kernel
theorem dX2_upgrade_39 : decode cX2_upgrade 39 = .ok (.ldc 110, 2) := by decide +kernel
theorem dX2_upgrade_41 : decode cX2_upgrade 41 = .ok (.invokespecial 73, 3) := by decide +kernel
theorem dX2_upgrade_44 : decode cX2_upgrade 44 = .ok (.athrow, 1) := by decide +kernel
theorem dX2_upgrade_45 : decode cX2_upgrade 45 = .ok (.aload_n 0, 1) := by decide +kernel
theorem dX2_upgrade_46 : decode cX2_upgrade 46 = .ok (.invokevirtual 95, 3) := by decide +kernel
theorem dX2_upgrade_49 : decode cX2_upgrade 49 = .ok (.aload_n 3, 1) := by decide +kernel
theorem dX2_upgrade_50 : decode cX2_upgrade 50 = .ok (.dup, 1) := by decide +kernel
theorem dX2_upgrade_51 : decode cX2_upgrade 51 = .ok (.getfield 112, 3) := by decide +kernel
theorem dX2_upgrade_54 : decode cX2_upgrade 54 = .ok (.iload_n 2, 1) := by decide +kernel
theorem dX2_upgrade_55 : decode cX2_upgrade 55 = .ok (.isub, 1) := by decide +kernel
theorem dX2_upgrade_56 : decode cX2_upgrade 56 = .ok (.putfield 112, 3) := by decide +kernel
theorem dX2_upgrade_59 : decode cX2_upgrade 59 = .ok (.aload_n 0, 1) := by decide +kernel
theorem dX2_upgrade_60 : decode cX2_upgrade 60 = .ok (.aload_n 3, 1) := by decide +kernel
theorem dX2_upgrade_61 : decode cX2_upgrade 61 = .ok (.getfield 86, 3) := by decide +kernel
theorem dX2_upgrade_64 : decode cX2_upgrade 64 = .ok (.aload_n 3, 1) := by decide +kernel
theorem dX2_upgrade_65 : decode cX2_upgrade 65 = .ok (.getfield 115, 3) := by decide +kernel
theorem dX2_upgrade_68 : decode cX2_upgrade 68 = .ok (.iload_n 2, 1) := by decide +kernel
theorem dX2_upgrade_69 : decode cX2_upgrade 69 = .ok (.aload_n 3, 1) := by decide +kernel
theorem dX2_upgrade_70 : decode cX2_upgrade 70 = .ok (.getfield 92, 3) := by decide +kernel
theorem dX2_upgrade_73 : decode cX2_upgrade 73 = .ok (.invokevirtual 98, 3) := by decide +kernel
theorem dX2_upgrade_76 : decode cX2_upgrade 76 = .ok (.ireturn, 1) := by decide +kernel
set_option maxRecDepth 20000 in
theorem ggX2_lend_X2_rightAt : GoodIn wsX2_lend wsX2_rightAt := goodIn_ca (goodIn_r _ [9, 10, 11, 12, 13, 14, 15, 16, 17, 18, 19, 20, 21, 22, 23, 24, 25, 26, 27, 28, 29, 30, 31, 32, 33, 34, 35, 36, 51, 52, 53, 54, 55, 56, 57, 58, 59, 60, 61, 62] (by decide +kernel) (by decide +kernel)) (goodIn_sub (fun _ h => List.mem_cons_of_mem _ (List.mem_append_left _ (List.mem_append_right _ h))) (by decide +kernel))
set_option maxRecDepth 20000 in
theorem gX2_lend_X2_rightAt : GoodIn wsX2_lend (wsV RX2 102 RX2 yX2_rightAt wsX2_rightAt) := goodIn_app (goodIn_of _ (by decide +kernel)) ggX2_lend_X2_rightAt
set_option maxRecDepth 20000 in
theorem ggX2_lend_X2_requireRange : GoodIn wsX2_lend wsX2_requireRange := goodIn_ca (goodIn_r _ [39, 40, 41] (by decide +kernel) (by decide +kernel)) (goodIn_sub (fun _ h => List.mem_cons_of_mem _ (List.mem_append_right _ h)) (by decide +kernel))
set_option maxRecDepth 20000 in
theorem gX2_lend_X2_requireRange : GoodIn wsX2_lend (va_wsS RX2 58 yX2_requireRange wsX2_requireRange) := goodIn_app (goodIn_of _ (by decide +kernel)) ggX2_lend_X2_requireRange
set_option maxRecDepth 20000 in
theorem ggX2_lend_X2_requireCount : GoodIn wsX2_lend wsX2_requireCount := goodIn_ca (goodIn_r _ [44, 1, 2, 4, 45, 46, 47, 48, 49, 50] (by decide +kernel) (by decide +kernel)) (goodIn_sub (fun _ h => List.mem_cons_of_mem _ (List.mem_append_left _ (List.mem_append_left _ (List.mem_append_right _ h)))) (by decide +kernel))
set_option maxRecDepth 20000 in
theorem gX2_lend_X2_requireCount : GoodIn wsX2_lend (va_wsS RX2 106 yX2_requireCount wsX2_requireCount) := goodIn_app (goodIn_of _ (by decide +kernel)) ggX2_lend_X2_requireCount
theorem dX2_lend_0 : decode cX2_lend 0 = .ok (.aload_n 0, 1) := by decide +kernel
theorem dX2_lend_1 : decode cX2_lend 1 = .ok (.iload_n 1, 1) := by decide +kernel
theorem dX2_lend_2 : decode cX2_lend 2 = .ok (.invokevirtual 102, 3) := by decide +kernel
theorem dX2_lend_5 : decode cX2_lend 5 = .ok (.astore_n 3, 1) := by decide +kernel
theorem dX2_lend_6 : decode cX2_lend 6 = .ok (.iload_n 2, 1) := by decide +kernel
theorem dX2_lend_7 : decode cX2_lend 7 = .ok (.sipush (-500), 3) := by decide +kernel
theorem dX2_lend_10 : decode cX2_lend 10 = .ok (.sipush 500, 3) := by decide +kernel
theorem dX2_lend_13 : decode cX2_lend 13 = .ok (.invokestatic 58, 3) := by decide +kernel
theorem dX2_lend_16 : decode cX2_lend 16 = .ok (.aload_n 3, 1) := by decide +kernel
theorem dX2_lend_17 : decode cX2_lend 17 = .ok (.iload_n 2, 1) := by decide +kernel
theorem dX2_lend_18 : decode cX2_lend 18 = .ok (.invokestatic 106, 3) := by decide +kernel
theorem dX2_lend_21 : decode cX2_lend 21 = .ok (.aload_n 3, 1) := by decide +kernel
theorem dX2_lend_22 : decode cX2_lend 22 = .ok (.getfield 118, 3) := by decide +kernel
theorem dX2_lend_25 : decode cX2_lend 25 = .ok (.iload_n 2, 1) := by decide +kernel
theorem dX2_lend_26 : decode cX2_lend 26 = .ok (.iadd, 1) := by decide +kernel
theorem dX2_lend_27 : decode cX2_lend 27 = .ok (.ifCond .ge 13, 3) := by decide +kernel
theorem dX2_lend_30 : decode cX2_lend 30 = .ok (.new 69, 3) := by decide +kernel
theorem dX2_lend_33 : decode cX2_lend 33 = .ok (.dup, 1) := by decide +kernel
theorem dX2_lend_34 : decode cX2_lend 34 = .ok (.ldc 121, 2) := by decide +kernel
theorem dX2_lend_36 : decode cX2_lend 36 = .ok (.invokespecial 73, 3) := by decide +kernel
theorem dX2_lend_39 : decode cX2_lend 39 = .ok (.athrow, 1) := by decide +kernel
theorem dX2_lend_40 : decode cX2_lend 40 = .ok (.aload_n 3, 1) := by decide +kernel
theorem dX2_lend_41 : decode cX2_lend 41 = .ok (.dup, 1) := by decide +kernel
theorem dX2_lend_42 : decode cX2_lend 42 = .ok (.getfield 112, 3) := by decide +kernel
theorem dX2_lend_45 : decode cX2_lend 45 = .ok (.iload_n 2, 1) := by decide +kernel
theorem dX2_lend_46 : decode cX2_lend 46 = .ok (.isub, 1) := by decide +kernel
theorem dX2_lend_47 : decode cX2_lend 47 = .ok (.putfield 112, 3) := by decide +kernel
theorem dX2_lend_50 : decode cX2_lend 50 = .ok (.aload_n 3, 1) := by decide +kernel
theorem dX2_lend_51 : decode cX2_lend 51 = .ok (.dup, 1) := by decide +kernel
theorem dX2_lend_52 : decode cX2_lend 52 = .ok (.getfield 118, 3) := by decide +kernel
theorem dX2_lend_55 : decode cX2_lend 55 = .ok (.iload_n 2, 1) := by decide +kernel
theorem dX2_lend_56 : decode cX2_lend 56 = .ok (.iadd, 1) := by decide +kernel
theorem dX2_lend_57 : decode cX2_lend 57 = .ok (.putfield 118, 3) := by decide +kernel
theorem dX2_lend_60 : decode cX2_lend 60 = .ok (.aload_n 3, 1) := by decide +kernel
theorem dX2_lend_61 : decode cX2_lend 61 = .ok (.getfield 118, 3) := by decide +kernel
theorem dX2_lend_64 : decode cX2_lend 64 = .ok (.ireturn, 1) := by decide +kernel
set_option maxRecDepth 20000 in
theorem ggX2_pass_X2_requireRange : GoodIn wsX2_pass wsX2_requireRange := goodIn_ca (goodIn_r _ [5, 6, 7] (by decide +kernel) (by decide +kernel)) (goodIn_sub (fun _ h => List.mem_cons_of_mem _ (List.mem_append_right _ h)) (by decide +kernel))
set_option maxRecDepth 20000 in
theorem gX2_pass_X2_requireRange : GoodIn wsX2_pass (va_wsS RX2 58 yX2_requireRange wsX2_requireRange) := goodIn_app (goodIn_of _ (by decide +kernel)) ggX2_pass_X2_requireRange
theorem dX2_pass_0 : decode cX2_pass 0 = .ok (.iload_n 1, 1) := by decide +kernel
theorem dX2_pass_1 : decode cX2_pass 1 = .ok (.iconst 1, 1) := by decide +kernel
theorem dX2_pass_2 : decode cX2_pass 2 = .ok (.sipush 400, 3) := by decide +kernel
theorem dX2_pass_5 : decode cX2_pass 5 = .ok (.invokestatic 58, 3) := by decide +kernel
theorem dX2_pass_8 : decode cX2_pass 8 = .ok (.aload_n 0, 1) := by decide +kernel
theorem dX2_pass_9 : decode cX2_pass 9 = .ok (.dup, 1) := by decide +kernel
theorem dX2_pass_10 : decode cX2_pass 10 = .ok (.getfield 44, 3) := by decide +kernel
theorem dX2_pass_13 : decode cX2_pass 13 = .ok (.iload_n 1, 1) := by decide +kernel
theorem dX2_pass_14 : decode cX2_pass 14 = .ok (.iadd, 1) := by decide +kernel
theorem dX2_pass_15 : decode cX2_pass 15 = .ok (.putfield 44, 3) := by decide +kernel
theorem dX2_pass_18 : decode cX2_pass 18 = .ok (.aload_n 0, 1) := by decide +kernel
theorem dX2_pass_19 : decode cX2_pass 19 = .ok (.getfield 44, 3) := by decide +kernel
theorem dX2_pass_22 : decode cX2_pass 22 = .ok (.ireturn, 1) := by decide +kernel
theorem dX2_today_0 : decode cX2_today 0 = .ok (.aload_n 0, 1) := by decide +kernel
theorem dX2_today_1 : decode cX2_today 1 = .ok (.getfield 44, 3) := by decide +kernel
theorem dX2_today_4 : decode cX2_today 4 = .ok (.ireturn, 1) := by decide +kernel
set_option maxRecDepth 20000 in
theorem ggX2_rights_Jx4a65c_size_8abf5 : GoodIn wsX2_rights wsJx4a65c_size_8abf5 := goodIn_r _ [6, 7, 17, 18, 19] (by decide +kernel) (by decide +kernel)
set_option maxRecDepth 20000 in
theorem gX2_rights_Jx4a65c_size_8abf5 : GoodIn wsX2_rights (wsV RX2 76 RJx4a65c yJx4a65c_size_8abf5 wsJx4a65c_size_8abf5) := goodIn_app (goodIn_of _ (by decide +kernel)) ggX2_rights_Jx4a65c_size_8abf5
theorem dX2_rights_0 : decode cX2_rights 0 = .ok (.aload_n 0, 1) := by decide +kernel
theorem dX2_rights_1 : decode cX2_rights 1 = .ok (.getfield 33, 3) := by decide +kernel
theorem dX2_rights_4 : decode cX2_rights 4 = .ok (.invokevirtual 76, 3) := by decide +kernel
theorem dX2_rights_7 : decode cX2_rights 7 = .ok (.ireturn, 1) := by decide +kernel
set_option maxRecDepth 20000 in
theorem ggX2_countOf_X2_rightAt : GoodIn wsX2_countOf wsX2_rightAt := goodIn_ca (goodIn_r _ [6, 7, 8, 9, 10, 11, 12, 13, 14, 15, 16, 17, 18, 19, 20, 21, 22, 23, 24, 25, 26, 27, 28, 29, 30, 31, 32, 33, 40, 41, 42, 43, 44, 45, 46, 47, 48, 49, 50, 51] (by decide +kernel) (by decide +kernel)) (goodIn_sub (fun _ h => List.mem_cons_of_mem _ (List.mem_append_right _ h)) (by decide +kernel))
set_option maxRecDepth 20000 in
theorem gX2_countOf_X2_rightAt : GoodIn wsX2_countOf (wsV RX2 102 RX2 yX2_rightAt wsX2_rightAt) := goodIn_app (goodIn_of _ (by decide +kernel)) ggX2_countOf_X2_rightAt
theorem dX2_countOf_0 : decode cX2_countOf 0 = .ok (.aload_n 0, 1) := by decide +kernel
theorem dX2_countOf_1 : decode cX2_countOf 1 = .ok (.iload_n 1, 1) := by decide +kernel
theorem dX2_countOf_2 : decode cX2_countOf 2 = .ok (.invokevirtual 102, 3) := by decide +kernel
theorem dX2_countOf_5 : decode cX2_countOf 5 = .ok (.getfield 112, 3) := by decide +kernel
theorem dX2_countOf_8 : decode cX2_countOf 8 = .ok (.ireturn, 1) := by decide +kernel
set_option maxRecDepth 20000 in
theorem ggX2_versionOf_X2_rightAt : GoodIn wsX2_versionOf wsX2_rightAt := goodIn_ca (goodIn_r _ [6, 7, 8, 9, 10, 11, 12, 13, 14, 15, 16, 17, 18, 19, 20, 21, 22, 23, 24, 25, 26, 27, 28, 29, 30, 31, 32, 33, 40, 41, 42, 43, 44, 45, 46, 47, 48, 49, 50, 51] (by decide +kernel) (by decide +kernel)) (goodIn_sub (fun _ h => List.mem_cons_of_mem _ (List.mem_append_right _ h)) (by decide +kernel))
set_option maxRecDepth 20000 in
theorem gX2_versionOf_X2_rightAt : GoodIn wsX2_versionOf (wsV RX2 102 RX2 yX2_rightAt wsX2_rightAt) := goodIn_app (goodIn_of _ (by decide +kernel)) ggX2_versionOf_X2_rightAt
theorem dX2_versionOf_0 : decode cX2_versionOf 0 = .ok (.aload_n 0, 1) := by decide +kernel
theorem dX2_versionOf_1 : decode cX2_versionOf 1 = .ok (.iload_n 1, 1) := by decide +kernel
theorem dX2_versionOf_2 : decode cX2_versionOf 2 = .ok (.invokevirtual 102, 3) := by decide +kernel
theorem dX2_versionOf_5 : decode cX2_versionOf 5 = .ok (.getfield 89, 3) := by decide +kernel
theorem dX2_versionOf_8 : decode cX2_versionOf 8 = .ok (.ireturn, 1) := by decide +kernel
set_option maxRecDepth 20000 in
theorem ggX2_latest_X2_requireProduct : GoodIn wsX2_latest wsX2_requireProduct := goodIn_ca (goodIn_r _ [5, 6, 7] (by decide +kernel) (by decide +kernel)) (goodIn_sub (fun _ h => List.mem_cons_of_mem _ (List.mem_append_right _ h)) (by decide +kernel))
set_option maxRecDepth 20000 in
theorem gX2_latest_X2_requireProduct : GoodIn wsX2_latest (va_wsS RX2 66 yX2_requireProduct wsX2_requireProduct) := goodIn_app (goodIn_of _ (by decide +kernel)) ggX2_latest_X2_requireProduct
theorem dX2_latest_0 : decode cX2_latest 0 = .ok (.iload_n 1, 1) := by decide +kernel
theorem dX2_latest_1 : decode cX2_latest 1 = .ok (.invokestatic 66, 3) := by decide +kernel
theorem dX2_latest_4 : decode cX2_latest 4 = .ok (.aload_n 0, 1) := by decide +kernel
theorem dX2_latest_5 : decode cX2_latest 5 = .ok (.getfield 24, 3) := by decide +kernel
theorem dX2_latest_8 : decode cX2_latest 8 = .ok (.iload_n 1, 1) := by decide +kernel
theorem dX2_latest_9 : decode cX2_latest 9 = .ok (.iaload, 1) := by decide +kernel
theorem dX2_latest_10 : decode cX2_latest 10 = .ok (.ireturn, 1) := by decide +kernel
set_option maxRecDepth 20000 in
theorem ggX2_hostOf_X2_requireMachine : GoodIn wsX2_hostOf wsX2_requireMachine := goodIn_ca (goodIn_r _ [5, 6, 7] (by decide +kernel) (by decide +kernel)) (goodIn_sub (fun _ h => List.mem_cons_of_mem _ (List.mem_append_right _ h)) (by decide +kernel))
set_option maxRecDepth 20000 in
theorem gX2_hostOf_X2_requireMachine : GoodIn wsX2_hostOf (va_wsS RX2 54 yX2_requireMachine wsX2_requireMachine) := goodIn_app (goodIn_of _ (by decide +kernel)) ggX2_hostOf_X2_requireMachine
theorem dX2_hostOf_0 : decode cX2_hostOf 0 = .ok (.iload_n 1, 1) := by decide +kernel
theorem dX2_hostOf_1 : decode cX2_hostOf 1 = .ok (.invokestatic 54, 3) := by decide +kernel
theorem dX2_hostOf_4 : decode cX2_hostOf 4 = .ok (.aload_n 0, 1) := by decide +kernel
theorem dX2_hostOf_5 : decode cX2_hostOf 5 = .ok (.getfield 13, 3) := by decide +kernel
theorem dX2_hostOf_8 : decode cX2_hostOf 8 = .ok (.iload_n 1, 1) := by decide +kernel
theorem dX2_hostOf_9 : decode cX2_hostOf 9 = .ok (.iaload, 1) := by decide +kernel
theorem dX2_hostOf_10 : decode cX2_hostOf 10 = .ok (.ireturn, 1) := by decide +kernel
set_option maxRecDepth 20000 in
theorem ggX2_weight_X2_requireMachine : GoodIn wsX2_weight wsX2_requireMachine := goodIn_ca (goodIn_r _ [4, 5, 6] (by decide +kernel) (by decide +kernel)) (goodIn_sub (fun _ h => List.mem_cons_of_mem _ (List.mem_append_right _ h)) (by decide +kernel))
set_option maxRecDepth 20000 in
theorem gX2_weight_X2_requireMachine : GoodIn wsX2_weight (va_wsS RX2 54 yX2_requireMachine wsX2_requireMachine) := goodIn_app (goodIn_of _ (by decide +kernel)) ggX2_weight_X2_requireMachine
set_option maxRecDepth 20000 in
theorem ggX2_weight_X2_requireProduct : GoodIn wsX2_weight wsX2_requireProduct := goodIn_ca (goodIn_r _ [9, 5, 6] (by decide +kernel) (by decide +kernel)) (goodIn_sub (fun _ h => List.mem_cons_of_mem _ (List.mem_append_right _ h)) (by decide +kernel))
set_option maxRecDepth 20000 in
theorem gX2_weight_X2_requireProduct : GoodIn wsX2_weight (va_wsS RX2 66 yX2_requireProduct wsX2_requireProduct) := goodIn_app (goodIn_of _ (by decide +kernel)) ggX2_weight_X2_requireProduct
set_option maxRecDepth 20000 in
theorem ggX2_weight_X2_weightOn : GoodIn wsX2_weight wsX2_weightOn := goodIn_r _ [13, 14, 15, 16, 17, 18, 19, 20, 21, 22, 23, 24, 25] (by decide +kernel) (by decide +kernel)
set_option maxRecDepth 20000 in
theorem gX2_weight_X2_weightOn : GoodIn wsX2_weight (wsV RX2 123 RX2 yX2_weightOn wsX2_weightOn) := goodIn_app (goodIn_of _ (by decide +kernel)) ggX2_weight_X2_weightOn
theorem dX2_weight_0 : decode cX2_weight 0 = .ok (.iload_n 1, 1) := by decide +kernel
theorem dX2_weight_1 : decode cX2_weight 1 = .ok (.invokestatic 54, 3) := by decide +kernel
theorem dX2_weight_4 : decode cX2_weight 4 = .ok (.iload_n 2, 1) := by decide +kernel
theorem dX2_weight_5 : decode cX2_weight 5 = .ok (.invokestatic 66, 3) := by decide +kernel
theorem dX2_weight_8 : decode cX2_weight 8 = .ok (.aload_n 0, 1) := by decide +kernel
theorem dX2_weight_9 : decode cX2_weight 9 = .ok (.iload_n 1, 1) := by decide +kernel
theorem dX2_weight_10 : decode cX2_weight 10 = .ok (.iload_n 2, 1) := by decide +kernel
theorem dX2_weight_11 : decode cX2_weight 11 = .ok (.invokevirtual 123, 3) := by decide +kernel
theorem dX2_weight_14 : decode cX2_weight 14 = .ok (.ireturn, 1) := by decide +kernel
set_option maxRecDepth 20000 in
theorem ggX2_covers_X2_rightAt : GoodIn wsX2_covers wsX2_rightAt := goodIn_ca (goodIn_r _ [6, 7, 8, 9, 10, 11, 12, 13, 14, 15, 16, 17, 18, 19, 20, 21, 22, 23, 24, 25, 26, 27, 28, 29, 30, 31, 32, 33, 45, 46, 47, 48, 49, 50, 51, 52, 53, 54, 55, 56] (by decide +kernel) (by decide +kernel)) (goodIn_sub (fun _ h => List.mem_cons_of_mem _ (List.mem_append_right _ h)) (by decide +kernel))
set_option maxRecDepth 20000 in
theorem gX2_covers_X2_rightAt : GoodIn wsX2_covers (wsV RX2 102 RX2 yX2_rightAt wsX2_rightAt) := goodIn_app (goodIn_of _ (by decide +kernel)) ggX2_covers_X2_rightAt
set_option maxRecDepth 20000 in
theorem ggX2_covers_X2_requireMachine : GoodIn wsX2_covers wsX2_requireMachine := goodIn_ca (goodIn_r _ [36, 7, 8] (by decide +kernel) (by decide +kernel)) (goodIn_sub (fun _ h => List.mem_cons_of_mem _ (List.mem_append_right _ h)) (by decide +kernel))
set_option maxRecDepth 20000 in
theorem gX2_covers_X2_requireMachine : GoodIn wsX2_covers (va_wsS RX2 54 yX2_requireMachine wsX2_requireMachine) := goodIn_app (goodIn_of _ (by decide +kernel)) ggX2_covers_X2_requireMachine
set_option maxRecDepth 20000 in
theorem ggX2_covers_X2_coverOn : GoodIn wsX2_covers wsX2_coverOn := goodIn_r _ [40, 41, 42, 43, 44, 57, 58, 59, 60, 61, 62, 45, 46, 47, 48, 49, 50, 51, 52, 53] (by decide +kernel) (by decide +kernel)
set_option maxRecDepth 20000 in
theorem gX2_covers_X2_coverOn : GoodIn wsX2_covers (wsV RX2 127 RX2 yX2_coverOn wsX2_coverOn) := goodIn_app (goodIn_of _ (by decide +kernel)) ggX2_covers_X2_coverOn
theorem dX2_covers_0 : decode cX2_covers 0 = .ok (.aload_n 0, 1) := by decide +kernel
theorem dX2_covers_1 : decode cX2_covers 1 = .ok (.iload_n 1, 1) := by decide +kernel
theorem dX2_covers_2 : decode cX2_covers 2 = .ok (.invokevirtual 102, 3) := by decide +kernel
theorem dX2_covers_5 : decode cX2_covers 5 = .ok (.astore_n 3, 1) := by decide +kernel
theorem dX2_covers_6 : decode cX2_covers 6 = .ok (.iload_n 2, 1) := by decide +kernel
theorem dX2_covers_7 : decode cX2_covers 7 = .ok (.invokestatic 54, 3) := by decide +kernel
theorem dX2_covers_10 : decode cX2_covers 10 = .ok (.aload_n 0, 1) := by decide +kernel
theorem dX2_covers_11 : decode cX2_covers 11 = .ok (.aload_n 3, 1) := by decide +kernel
theorem dX2_covers_12 : decode cX2_covers 12 = .ok (.iload_n 2, 1) := by decide +kernel
theorem dX2_covers_13 : decode cX2_covers 13 = .ok (.aload_n 0, 1) := by decide +kernel
theorem dX2_covers_14 : decode cX2_covers 14 = .ok (.getfield 13, 3) := by decide +kernel
theorem dX2_covers_17 : decode cX2_covers 17 = .ok (.invokevirtual 127, 3) := by decide +kernel
theorem dX2_covers_20 : decode cX2_covers 20 = .ok (.ireturn, 1) := by decide +kernel
set_option maxRecDepth 20000 in
theorem ggX2_gap_X2_requireProduct : GoodIn wsX2_gap wsX2_requireProduct := goodIn_ca (goodIn_r _ [6, 7, 8] (by decide +kernel) (by decide +kernel)) (goodIn_sub (fun _ h => List.mem_cons_of_mem _ (List.mem_append_right _ h)) (by decide +kernel))
set_option maxRecDepth 20000 in
theorem gX2_gap_X2_requireProduct : GoodIn wsX2_gap (va_wsS RX2 66 yX2_requireProduct wsX2_requireProduct) := goodIn_app (goodIn_of _ (by decide +kernel)) ggX2_gap_X2_requireProduct
set_option maxRecDepth 20000 in
theorem ggX2_gap_X2_leastUncovered : GoodIn wsX2_gap wsX2_leastUncovered := goodIn_r _ [12, 1, 13, 14, 15, 5, 16, 17, 18, 19, 20, 21, 22, 23, 24, 25, 26, 27, 28, 29, 30, 31, 32, 33, 34, 35, 36, 37, 38, 39, 40, 41, 42, 43, 44, 45, 46, 47, 48, 49, 50, 51, 52, 53, 54, 55, 56, 57, 58, 59, 60, 61, 62, 63, 64, 65, 66, 67, 68, 69, 70, 71, 72, 73, 74, 75, 76, 77, 78, 79, 80, 81, 82, 83, 84, 85, 86, 87, 88, 89, 90, 91, 92, 93, 94, 95, 96, 97, 98, 99, 100, 101, 102, 103, 104, 105, 106, 107, 108, 109, 110, 111, 112, 113, 114, 115, 116, 117, 118, 119, 120, 122, 123, 124, 125, 126, 127, 128, 129, 130, 131, 132, 133, 134, 135, 136, 137, 138, 139, 140, 141, 142, 143, 144, 145, 146] (by decide +kernel) (by decide +kernel)
set_option maxRecDepth 20000 in
theorem gX2_gap_X2_leastUncovered : GoodIn wsX2_gap (wsV RX2 131 RX2 yX2_leastUncovered wsX2_leastUncovered) := goodIn_app (goodIn_of _ (by decide +kernel)) ggX2_gap_X2_leastUncovered
set_option maxRecDepth 20000 in
theorem ggX2_gap_X0_weightOfSet : GoodIn wsX2_gap wsX0_weightOfSet := goodIn_r _ [120, 48, 137, 138, 139, 140, 141, 142, 143] (by decide +kernel) (by decide +kernel)
set_option maxRecDepth 20000 in
theorem gX2_gap_X0_weightOfSet : GoodIn wsX2_gap (wsV RX2 135 RX0 yX0_weightOfSet wsX0_weightOfSet) := goodIn_app (goodIn_of _ (by decide +kernel)) ggX2_gap_X0_weightOfSet
theorem dX2_gap_0 : decode cX2_gap 0 = .ok (.iload_n 1, 1) := by decide +kernel
theorem dX2_gap_1 : decode cX2_gap 1 = .ok (.invokestatic 66, 3) := by decide +kernel
theorem dX2_gap_4 : decode cX2_gap 4 = .ok (.aload_n 0, 1) := by decide +kernel
theorem dX2_gap_5 : decode cX2_gap 5 = .ok (.getfield 40, 3) := by decide +kernel
theorem dX2_gap_8 : decode cX2_gap 8 = .ok (.aload_n 0, 1) := by decide +kernel
theorem dX2_gap_9 : decode cX2_gap 9 = .ok (.iload_n 1, 1) := by decide +kernel
theorem dX2_gap_10 : decode cX2_gap 10 = .ok (.aload_n 0, 1) := by decide +kernel
theorem dX2_gap_11 : decode cX2_gap 11 = .ok (.getfield 13, 3) := by decide +kernel
theorem dX2_gap_14 : decode cX2_gap 14 = .ok (.invokevirtual 131, 3) := by decide +kernel
theorem dX2_gap_17 : decode cX2_gap 17 = .ok (.invokevirtual 135, 3) := by decide +kernel
theorem dX2_gap_20 : decode cX2_gap 20 = .ok (.ireturn, 1) := by decide +kernel
set_option maxRecDepth 20000 in
theorem ggX2_uncovered_X2_requireProduct : GoodIn wsX2_uncovered wsX2_requireProduct := goodIn_ca (goodIn_r _ [5, 6, 7] (by decide +kernel) (by decide +kernel)) (goodIn_sub (fun _ h => List.mem_cons_of_mem _ (List.mem_append_right _ h)) (by decide +kernel))
set_option maxRecDepth 20000 in
theorem gX2_uncovered_X2_requireProduct : GoodIn wsX2_uncovered (va_wsS RX2 66 yX2_requireProduct wsX2_requireProduct) := goodIn_app (goodIn_of _ (by decide +kernel)) ggX2_uncovered_X2_requireProduct
set_option maxRecDepth 20000 in
theorem ggX2_uncovered_X2_leastUncovered : GoodIn wsX2_uncovered wsX2_leastUncovered := goodIn_r _ [11, 12, 13, 14, 15, 4, 16, 17, 18, 19, 20, 21, 22, 23, 24, 25, 26, 27, 28, 29, 30, 31, 32, 33, 34, 35, 36, 37, 38, 39, 40, 41, 42, 43, 44, 45, 46, 47, 48, 49, 50, 51, 52, 53, 54, 55, 56, 57, 58, 59, 60, 61, 62, 63, 64, 65, 66, 67, 68, 69, 70, 71, 72, 73, 74, 75, 76, 77, 78, 79, 80, 81, 82, 83, 84, 85, 86, 87, 88, 89, 90, 91, 92, 93, 94, 95, 96, 97, 98, 99, 100, 101, 102, 103, 104, 105, 106, 107, 108, 109, 110, 111, 112, 113, 114, 115, 116, 117, 118, 119, 120, 121, 122, 123, 124, 125, 126, 127, 128, 129, 130, 131, 132, 133, 134, 135, 136, 137, 138, 139, 140, 141, 142, 143, 144, 145] (by decide +kernel) (by decide +kernel)
set_option maxRecDepth 20000 in
theorem gX2_uncovered_X2_leastUncovered : GoodIn wsX2_uncovered (wsV RX2 131 RX2 yX2_leastUncovered wsX2_leastUncovered) := goodIn_app (goodIn_of _ (by decide +kernel)) ggX2_uncovered_X2_leastUncovered
theorem dX2_uncovered_0 : decode cX2_uncovered 0 = .ok (.iload_n 1, 1) := by decide +kernel
theorem dX2_uncovered_1 : decode cX2_uncovered 1 = .ok (.invokestatic 66, 3) := by decide +kernel
theorem dX2_uncovered_4 : decode cX2_uncovered 4 = .ok (.aload_n 0, 1) := by decide +kernel
theorem dX2_uncovered_5 : decode cX2_uncovered 5 = .ok (.iload_n 1, 1) := by decide +kernel
theorem dX2_uncovered_6 : decode cX2_uncovered 6 = .ok (.aload_n 0, 1) := by decide +kernel
theorem dX2_uncovered_7 : decode cX2_uncovered 7 = .ok (.getfield 13, 3) := by decide +kernel
theorem dX2_uncovered_10 : decode cX2_uncovered 10 = .ok (.invokevirtual 131, 3) := by decide +kernel
theorem dX2_uncovered_13 : decode cX2_uncovered 13 = .ok (.ireturn, 1) := by decide +kernel
set_option maxRecDepth 20000 in
theorem ggX2_gapByAll_X2_requireProduct : GoodIn wsX2_gapByAll wsX2_requireProduct := goodIn_ca (goodIn_r _ [10, 11, 12] (by decide +kernel) (by decide +kernel)) (goodIn_sub (fun _ h => List.mem_cons_of_mem _ (List.mem_append_left _ (List.mem_append_right _ h))) (by decide +kernel))
set_option maxRecDepth 20000 in
theorem gX2_gapByAll_X2_requireProduct : GoodIn wsX2_gapByAll (va_wsS RX2 66 yX2_requireProduct wsX2_requireProduct) := goodIn_app (goodIn_of _ (by decide +kernel)) ggX2_gapByAll_X2_requireProduct
set_option maxRecDepth 20000 in
theorem ggX2_gapByAll_X2_requireFewRights : GoodIn wsX2_gapByAll wsX2_requireFewRights := goodIn_ca (goodIn_r _ [16, 17, 18, 1, 2, 3, 4, 19, 20, 21, 22, 23, 24, 25, 26, 27, 28, 29, 30, 31, 32, 33, 34, 35, 36, 37, 38, 39, 40, 41, 123, 124, 125, 126, 127, 128, 129, 130, 131, 132, 133, 134, 135, 136, 137, 138, 139, 140] (by decide +kernel) (by decide +kernel)) (goodIn_sub (fun _ h => List.mem_cons_of_mem _ (List.mem_append_right _ h)) (by decide +kernel))
set_option maxRecDepth 20000 in
theorem gX2_gapByAll_X2_requireFewRights : GoodIn wsX2_gapByAll (wsV RX2 139 RX2 yX2_requireFewRights wsX2_requireFewRights) := goodIn_app (goodIn_of _ (by decide +kernel)) ggX2_gapByAll_X2_requireFewRights
set_option maxRecDepth 20000 in
theorem ggX2_gapByAll_X2_startLayings : GoodIn wsX2_gapByAll wsX2_startLayings := goodIn_r _ [45, 6, 46, 47, 48, 49, 50, 51, 52, 53, 54, 55, 56, 57, 58, 59, 60, 61, 9, 62, 63, 64, 65, 66, 67, 68, 69, 123, 124, 125, 126, 127, 128, 129, 130, 131, 141, 142, 143, 144, 145, 146, 147] (by decide +kernel) (by decide +kernel)
set_option maxRecDepth 20000 in
theorem gX2_gapByAll_X2_startLayings : GoodIn wsX2_gapByAll (wsV RX2 142 RX2 yX2_startLayings wsX2_startLayings) := goodIn_app (goodIn_of _ (by decide +kernel)) ggX2_gapByAll_X2_startLayings
set_option maxRecDepth 20000 in
theorem ggX2_gapByAll_Jx4a65c_size_8abf5 : GoodIn wsX2_gapByAll wsJx4a65c_size_8abf5 := goodIn_r _ [23, 24, 138, 139, 140] (by decide +kernel) (by decide +kernel)
set_option maxRecDepth 20000 in
theorem gX2_gapByAll_Jx4a65c_size_8abf5 : GoodIn wsX2_gapByAll (wsV RX2 76 RJx4a65c yJx4a65c_size_8abf5 wsJx4a65c_size_8abf5) := goodIn_app (goodIn_of _ (by decide +kernel)) ggX2_gapByAll_Jx4a65c_size_8abf5
set_option maxRecDepth 20000 in
theorem ggX2_gapByAll_Jx4a65c_get_915e3 : GoodIn wsX2_gapByAll wsJx4a65c_get_915e3 := goodIn_r _ [28, 24, 29, 30, 31, 32, 33, 34, 35, 36, 37, 38, 39, 22, 40, 41, 138, 139, 140] (by decide +kernel) (by decide +kernel)
set_option maxRecDepth 20000 in
theorem gX2_gapByAll_Jx4a65c_get_915e3 : GoodIn wsX2_gapByAll (wsV RX2 80 RJx4a65c yJx4a65c_get_915e3 wsJx4a65c_get_915e3) := goodIn_app (goodIn_of _ (by decide +kernel)) ggX2_gapByAll_Jx4a65c_get_915e3
set_option maxRecDepth 20000 in
theorem ggX2_gapByAll_X2_takeUp : GoodIn wsX2_gapByAll wsX2_takeUp := goodIn_r _ [73, 6, 74, 75, 76, 77, 78, 9, 79, 80, 63, 81, 82, 83, 84, 85, 86, 87, 88, 46, 3, 89, 123, 124, 125, 126, 127, 128, 129, 130, 131, 141, 142, 143, 144, 145, 146, 147, 132, 133, 134, 135, 136, 137] (by decide +kernel) (by decide +kernel)
set_option maxRecDepth 20000 in
theorem gX2_gapByAll_X2_takeUp : GoodIn wsX2_gapByAll (wsV RX2 145 RX2 yX2_takeUp wsX2_takeUp) := goodIn_app (goodIn_of _ (by decide +kernel)) ggX2_gapByAll_X2_takeUp
set_option maxRecDepth 20000 in
theorem ggX2_gapByAll_X0_layOnAllSets : GoodIn wsX2_gapByAll wsX0_layOnAllSets := goodIn_r _ [93, 94, 95, 54, 53, 96, 97, 98, 99, 100, 101, 102, 50, 103, 104, 105, 55, 56, 57, 58, 106, 107, 108, 109, 141, 142, 143, 144, 145, 146, 147] (by decide +kernel) (by decide +kernel)
set_option maxRecDepth 20000 in
theorem gX2_gapByAll_X0_layOnAllSets : GoodIn wsX2_gapByAll (wsV RX2 149 RX0 yX0_layOnAllSets wsX0_layOnAllSets) := goodIn_app (goodIn_of _ (by decide +kernel)) ggX2_gapByAll_X0_layOnAllSets
set_option maxRecDepth 20000 in
theorem ggX2_gapByAll_X0_leastUncoveredWithin : GoodIn wsX2_gapByAll wsX0_leastUncoveredWithin := goodIn_r _ [113, 52, 53, 114, 115, 116, 50, 117, 118, 119, 120, 121, 69, 141, 142, 143, 144, 145, 146, 147] (by decide +kernel) (by decide +kernel)
set_option maxRecDepth 20000 in
theorem gX2_gapByAll_X0_leastUncoveredWithin : GoodIn wsX2_gapByAll (wsV RX2 152 RX0 yX0_leastUncoveredWithin wsX0_leastUncoveredWithin) := goodIn_app (goodIn_of _ (by decide +kernel)) ggX2_gapByAll_X0_leastUncoveredWithin
set_option maxRecDepth 20000 in
theorem ggX2_gapByAll_X0_weightOfSet : GoodIn wsX2_gapByAll wsX0_weightOfSet := goodIn_r _ [121, 69, 141, 142, 143, 144, 145, 146, 147] (by decide +kernel) (by decide +kernel)
set_option maxRecDepth 20000 in
theorem gX2_gapByAll_X0_weightOfSet : GoodIn wsX2_gapByAll (wsV RX2 135 RX0 yX0_weightOfSet wsX0_weightOfSet) := goodIn_app (goodIn_of _ (by decide +kernel)) ggX2_gapByAll_X0_weightOfSet
theorem dX2_gapByAll_0 : decode cX2_gapByAll 0 = .ok (.iload_n 1, 1) := by decide +kernel
theorem dX2_gapByAll_1 : decode cX2_gapByAll 1 = .ok (.invokestatic 66, 3) := by decide +kernel
theorem dX2_gapByAll_4 : decode cX2_gapByAll 4 = .ok (.aload_n 0, 1) := by decide +kernel
theorem dX2_gapByAll_5 : decode cX2_gapByAll 5 = .ok (.iload_n 1, 1) := by decide +kernel
theorem dX2_gapByAll_6 : decode cX2_gapByAll 6 = .ok (.invokevirtual 139, 3) := by decide +kernel
theorem dX2_gapByAll_9 : decode cX2_gapByAll 9 = .ok (.aload_n 0, 1) := by decide +kernel
theorem dX2_gapByAll_10 : decode cX2_gapByAll 10 = .ok (.iload_n 1, 1) := by decide +kernel
theorem dX2_gapByAll_11 : decode cX2_gapByAll 11 = .ok (.invokevirtual 142, 3) := by decide +kernel
theorem dX2_gapByAll_14 : decode cX2_gapByAll 14 = .ok (.iconst 0, 1) := by decide +kernel
theorem dX2_gapByAll_15 : decode cX2_gapByAll 15 = .ok (.istore_n 2, 1) := by decide +kernel
theorem dX2_gapByAll_16 : decode cX2_gapByAll 16 = .ok (.iload_n 2, 1) := by decide +kernel
theorem dX2_gapByAll_17 : decode cX2_gapByAll 17 = .ok (.aload_n 0, 1) := by decide +kernel
theorem dX2_gapByAll_18 : decode cX2_gapByAll 18 = .ok (.getfield 33, 3) := by decide +kernel
theorem dX2_gapByAll_21 : decode cX2_gapByAll 21 = .ok (.invokevirtual 76, 3) := by decide +kernel
theorem dX2_gapByAll_24 : decode cX2_gapByAll 24 = .ok (.if_icmp .ge 56, 3) := by decide +kernel
theorem dX2_gapByAll_27 : decode cX2_gapByAll 27 = .ok (.aload_n 0, 1) := by decide +kernel
theorem dX2_gapByAll_28 : decode cX2_gapByAll 28 = .ok (.getfield 33, 3) := by decide +kernel
theorem dX2_gapByAll_31 : decode cX2_gapByAll 31 = .ok (.iload_n 2, 1) := by decide +kernel
theorem dX2_gapByAll_32 : decode cX2_gapByAll 32 = .ok (.invokevirtual 80, 3) := by decide +kernel
theorem dX2_gapByAll_35 : decode cX2_gapByAll 35 = .ok (.checkcast 84, 3) := by decide +kernel
theorem dX2_gapByAll_38 : decode cX2_gapByAll 38 = .ok (.astore_n 3, 1) := by decide +kernel
theorem dX2_gapByAll_39 : decode cX2_gapByAll 39 = .ok (.aload_n 3, 1) := by decide +kernel
theorem dX2_gapByAll_40 : decode cX2_gapByAll 40 = .ok (.getfield 86, 3) := by decide +kernel
theorem dX2_gapByAll_43 : decode cX2_gapByAll 43 = .ok (.iload_n 1, 1) := by decide +kernel
theorem dX2_gapByAll_44 : decode cX2_gapByAll 44 = .ok (.if_icmp .ne 30, 3) := by decide +kernel
theorem dX2_gapByAll_47 : decode cX2_gapByAll 47 = .ok (.aload_n 3, 1) := by decide +kernel
theorem dX2_gapByAll_48 : decode cX2_gapByAll 48 = .ok (.getfield 112, 3) := by decide +kernel
theorem dX2_gapByAll_51 : decode cX2_gapByAll 51 = .ok (.ifCond .le 23, 3) := by decide +kernel
theorem dX2_gapByAll_54 : decode cX2_gapByAll 54 = .ok (.aload_n 0, 1) := by decide +kernel
theorem dX2_gapByAll_55 : decode cX2_gapByAll 55 = .ok (.aload_n 3, 1) := by decide +kernel
theorem dX2_gapByAll_56 : decode cX2_gapByAll 56 = .ok (.aload_n 0, 1) := by decide +kernel
theorem dX2_gapByAll_57 : decode cX2_gapByAll 57 = .ok (.getfield 13, 3) := by decide +kernel
theorem dX2_gapByAll_60 : decode cX2_gapByAll 60 = .ok (.invokevirtual 145, 3) := by decide +kernel
theorem dX2_gapByAll_63 : decode cX2_gapByAll 63 = .ok (.aload_n 0, 1) := by decide +kernel
theorem dX2_gapByAll_64 : decode cX2_gapByAll 64 = .ok (.getfield 40, 3) := by decide +kernel
theorem dX2_gapByAll_67 : decode cX2_gapByAll 67 = .ok (.aload_n 3, 1) := by decide +kernel
theorem dX2_gapByAll_68 : decode cX2_gapByAll 68 = .ok (.getfield 112, 3) := by decide +kernel
theorem dX2_gapByAll_71 : decode cX2_gapByAll 71 = .ok (.invokevirtual 149, 3) := by decide +kernel
theorem dX2_gapByAll_74 : decode cX2_gapByAll 74 = .ok (.iinc 2 1, 3) := by decide +kernel
theorem dX2_gapByAll_77 : decode cX2_gapByAll 77 = .ok (.goto (-61), 3) := by decide +kernel
theorem dX2_gapByAll_80 : decode cX2_gapByAll 80 = .ok (.aload_n 0, 1) := by decide +kernel
theorem dX2_gapByAll_81 : decode cX2_gapByAll 81 = .ok (.getfield 40, 3) := by decide +kernel
theorem dX2_gapByAll_84 : decode cX2_gapByAll 84 = .ok (.aload_n 0, 1) := by decide +kernel
theorem dX2_gapByAll_85 : decode cX2_gapByAll 85 = .ok (.getfield 40, 3) := by decide +kernel
theorem dX2_gapByAll_88 : decode cX2_gapByAll 88 = .ok (.iconst 0, 1) := by decide +kernel
theorem dX2_gapByAll_89 : decode cX2_gapByAll 89 = .ok (.invokevirtual 152, 3) := by decide +kernel
theorem dX2_gapByAll_92 : decode cX2_gapByAll 92 = .ok (.invokevirtual 135, 3) := by decide +kernel
theorem dX2_gapByAll_95 : decode cX2_gapByAll 95 = .ok (.ireturn, 1) := by decide +kernel
set_option maxRecDepth 20000 in
theorem ggX2_gapIf_X2_requireProduct : GoodIn wsX2_gapIf wsX2_requireProduct := goodIn_ca (goodIn_r _ [11, 12, 13] (by decide +kernel) (by decide +kernel)) (goodIn_sub (fun _ h => List.mem_cons_of_mem _ (List.mem_append_left _ (List.mem_append_left _ (List.mem_append_right _ h)))) (by decide +kernel))
set_option maxRecDepth 20000 in
theorem gX2_gapIf_X2_requireProduct : GoodIn wsX2_gapIf (va_wsS RX2 66 yX2_requireProduct wsX2_requireProduct) := goodIn_app (goodIn_of _ (by decide +kernel)) ggX2_gapIf_X2_requireProduct
set_option maxRecDepth 20000 in
theorem ggX2_gapIf_X2_requireMovable : GoodIn wsX2_gapIf wsX2_requireMovable := goodIn_ca (goodIn_ca (goodIn_ca (goodIn_r _ [17, 18, 19, 20, 21, 1, 22, 23, 10, 24, 12, 13, 25, 26, 27, 28, 142, 143, 144, 145, 146, 147, 148, 149, 150] (by decide +kernel) (by decide +kernel)) (goodIn_sub (fun _ h => List.mem_cons_of_mem _ (List.mem_append_left _ (List.mem_append_right _ h))) (by decide +kernel))) (goodIn_sub (fun _ h => List.mem_cons_of_mem _ (List.mem_append_right _ h)) (by decide +kernel))) (goodIn_sub (fun _ h => List.mem_cons_of_mem _ (List.mem_append_left _ (List.mem_append_left _ (List.mem_append_right _ h)))) (by decide +kernel))
set_option maxRecDepth 20000 in
theorem gX2_gapIf_X2_requireMovable : GoodIn wsX2_gapIf (wsV RX2 62 RX2 yX2_requireMovable wsX2_requireMovable) := goodIn_app (goodIn_of _ (by decide +kernel)) ggX2_gapIf_X2_requireMovable
set_option maxRecDepth 20000 in
theorem ggX2_gapIf_X2_leastUncovered : GoodIn wsX2_gapIf wsX2_leastUncovered := goodIn_r _ [32, 7, 33, 34, 35, 10, 36, 37, 38, 39, 40, 41, 42, 43, 44, 45, 46, 47, 48, 49, 50, 51, 52, 53, 54, 55, 56, 57, 58, 59, 60, 61, 62, 63, 64, 65, 66, 67, 68, 69, 70, 71, 72, 73, 74, 75, 76, 77, 78, 79, 80, 81, 82, 83, 84, 85, 86, 87, 88, 89, 90, 91, 92, 93, 94, 95, 96, 97, 98, 99, 100, 101, 102, 103, 104, 105, 106, 107, 108, 109, 110, 111, 112, 113, 114, 115, 116, 117, 118, 119, 120, 121, 122, 123, 124, 125, 126, 127, 128, 129, 130, 131, 132, 133, 134, 135, 136, 137, 138, 139, 140, 142, 143, 144, 145, 146, 147, 148, 149, 150, 151, 152, 153, 154, 155, 156, 157, 158, 159, 160, 161, 162, 163, 164, 165, 166] (by decide +kernel) (by decide +kernel)
set_option maxRecDepth 20000 in
theorem gX2_gapIf_X2_leastUncovered : GoodIn wsX2_gapIf (wsV RX2 131 RX2 yX2_leastUncovered wsX2_leastUncovered) := goodIn_app (goodIn_of _ (by decide +kernel)) ggX2_gapIf_X2_leastUncovered
set_option maxRecDepth 20000 in
theorem ggX2_gapIf_X0_weightOfSet : GoodIn wsX2_gapIf wsX0_weightOfSet := goodIn_r _ [140, 68, 157, 158, 159, 160, 161, 162, 163] (by decide +kernel) (by decide +kernel)
set_option maxRecDepth 20000 in
theorem gX2_gapIf_X0_weightOfSet : GoodIn wsX2_gapIf (wsV RX2 135 RX0 yX0_weightOfSet wsX0_weightOfSet) := goodIn_app (goodIn_of _ (by decide +kernel)) ggX2_gapIf_X0_weightOfSet
theorem dX2_gapIf_0 : decode cX2_gapIf 0 = .ok (.iload_n 1, 1) := by decide +kernel
theorem dX2_gapIf_1 : decode cX2_gapIf 1 = .ok (.invokestatic 66, 3) := by decide +kernel
theorem dX2_gapIf_4 : decode cX2_gapIf 4 = .ok (.aload_n 0, 1) := by decide +kernel
theorem dX2_gapIf_5 : decode cX2_gapIf 5 = .ok (.iload_n 2, 1) := by decide +kernel
theorem dX2_gapIf_6 : decode cX2_gapIf 6 = .ok (.iload_n 3, 1) := by decide +kernel
theorem dX2_gapIf_7 : decode cX2_gapIf 7 = .ok (.invokevirtual 62, 3) := by decide +kernel
theorem dX2_gapIf_10 : decode cX2_gapIf 10 = .ok (.aload_n 0, 1) := by decide +kernel
theorem dX2_gapIf_11 : decode cX2_gapIf 11 = .ok (.getfield 13, 3) := by decide +kernel
theorem dX2_gapIf_14 : decode cX2_gapIf 14 = .ok (.iconst 0, 1) := by decide +kernel
theorem dX2_gapIf_15 : decode cX2_gapIf 15 = .ok (.aload_n 0, 1) := by decide +kernel
theorem dX2_gapIf_16 : decode cX2_gapIf 16 = .ok (.getfield 16, 3) := by decide +kernel
theorem dX2_gapIf_19 : decode cX2_gapIf 19 = .ok (.iconst 0, 1) := by decide +kernel
theorem dX2_gapIf_20 : decode cX2_gapIf 20 = .ok (.bipush 8, 2) := by decide +kernel
theorem dX2_gapIf_22 : decode cX2_gapIf 22 = .ok (.invokestatic 155, 3) := by decide +kernel
theorem dX2_gapIf_25 : decode cX2_gapIf 25 = .ok (.aload_n 0, 1) := by decide +kernel
theorem dX2_gapIf_26 : decode cX2_gapIf 26 = .ok (.getfield 16, 3) := by decide +kernel
theorem dX2_gapIf_29 : decode cX2_gapIf 29 = .ok (.iload_n 2, 1) := by decide +kernel
theorem dX2_gapIf_30 : decode cX2_gapIf 30 = .ok (.iload_n 3, 1) := by decide +kernel
theorem dX2_gapIf_31 : decode cX2_gapIf 31 = .ok (.iastore, 1) := by decide +kernel
theorem dX2_gapIf_32 : decode cX2_gapIf 32 = .ok (.aload_n 0, 1) := by decide +kernel
theorem dX2_gapIf_33 : decode cX2_gapIf 33 = .ok (.getfield 40, 3) := by decide +kernel
theorem dX2_gapIf_36 : decode cX2_gapIf 36 = .ok (.aload_n 0, 1) := by decide +kernel
theorem dX2_gapIf_37 : decode cX2_gapIf 37 = .ok (.iload_n 1, 1) := by decide +kernel
theorem dX2_gapIf_38 : decode cX2_gapIf 38 = .ok (.aload_n 0, 1) := by decide +kernel
theorem dX2_gapIf_39 : decode cX2_gapIf 39 = .ok (.getfield 16, 3) := by decide +kernel
theorem dX2_gapIf_42 : decode cX2_gapIf 42 = .ok (.invokevirtual 131, 3) := by decide +kernel
theorem dX2_gapIf_45 : decode cX2_gapIf 45 = .ok (.invokevirtual 135, 3) := by decide +kernel
theorem dX2_gapIf_48 : decode cX2_gapIf 48 = .ok (.ireturn, 1) := by decide +kernel
set_option maxRecDepth 20000 in
theorem ggX2_spare_X2_rightAt : GoodIn wsX2_spare wsX2_rightAt := goodIn_ca (goodIn_r _ [9, 10, 11, 12, 13, 14, 15, 16, 17, 18, 19, 20, 21, 22, 23, 24, 25, 26, 27, 28, 29, 30, 31, 32, 33, 34, 35, 36, 129, 130, 131, 132, 133, 134, 135, 136, 137, 138, 139, 140] (by decide +kernel) (by decide +kernel)) (goodIn_sub (fun _ h => List.mem_cons_of_mem _ (List.mem_append_right _ h)) (by decide +kernel))
set_option maxRecDepth 20000 in
theorem gX2_spare_X2_rightAt : GoodIn wsX2_spare (wsV RX2 102 RX2 yX2_rightAt wsX2_rightAt) := goodIn_app (goodIn_of _ (by decide +kernel)) ggX2_spare_X2_rightAt
set_option maxRecDepth 20000 in
theorem ggX2_spare_X2_layAllBut : GoodIn wsX2_spare wsX2_layAllBut := goodIn_r _ [40, 12, 13, 1, 4, 3, 41, 42, 43, 8, 44, 45, 46, 47, 48, 49, 50, 51, 52, 53, 54, 55, 56, 57, 58, 59, 60, 61, 62, 63, 64, 65, 66, 67, 68, 14, 15, 16, 17, 18, 19, 20, 21, 22, 23, 24, 25, 26, 27, 28, 29, 30, 31, 32, 33, 34, 35, 36, 69, 70, 71, 72, 73, 74, 75, 76, 77, 78, 79, 80, 81, 82, 83, 84, 85, 86, 87, 88, 89, 90, 91, 92, 93, 94, 95, 96, 97, 98, 99, 100, 101, 102, 103, 104, 105, 129, 130, 131, 132, 133, 134, 135, 136, 137, 123, 124, 125, 126, 127, 128, 141, 142, 143, 144, 145, 146, 147, 138, 139, 140] (by decide +kernel) (by decide +kernel)
set_option maxRecDepth 20000 in
theorem gX2_spare_X2_layAllBut : GoodIn wsX2_spare (wsV RX2 161 RX2 yX2_layAllBut wsX2_layAllBut) := goodIn_app (goodIn_of _ (by decide +kernel)) ggX2_spare_X2_layAllBut
set_option maxRecDepth 20000 in
theorem ggX2_spare_X2_takeUp : GoodIn wsX2_spare wsX2_takeUp := goodIn_r _ [72, 3, 73, 74, 75, 76, 77, 8, 78, 79, 62, 80, 81, 82, 83, 84, 85, 86, 87, 45, 1, 88, 129, 130, 131, 132, 133, 134, 135, 136, 137, 141, 142, 143, 144, 145, 146, 147, 123, 124, 125, 126, 127, 128] (by decide +kernel) (by decide +kernel)
set_option maxRecDepth 20000 in
theorem gX2_spare_X2_takeUp : GoodIn wsX2_spare (wsV RX2 145 RX2 yX2_takeUp wsX2_takeUp) := goodIn_app (goodIn_of _ (by decide +kernel)) ggX2_spare_X2_takeUp
set_option maxRecDepth 20000 in
theorem ggX2_spare_X0_layOpen : GoodIn wsX2_spare wsX0_layOpen := goodIn_r _ [92, 93, 94, 95, 96, 97, 49, 98, 52, 99, 100, 82, 101, 141, 142, 143, 144, 145, 146, 147] (by decide +kernel) (by decide +kernel)
set_option maxRecDepth 20000 in
theorem gX2_spare_X0_layOpen : GoodIn wsX2_spare (wsV RX2 165 RX0 yX0_layOpen wsX0_layOpen) := goodIn_app (goodIn_of _ (by decide +kernel)) ggX2_spare_X0_layOpen
set_option maxRecDepth 20000 in
theorem ggX2_spare_X0_leastUncoveredWithin : GoodIn wsX2_spare wsX0_leastUncoveredWithin := goodIn_r _ [109, 51, 52, 110, 111, 112, 49, 113, 114, 115, 116, 117, 68, 141, 142, 143, 144, 145, 146, 147] (by decide +kernel) (by decide +kernel)
set_option maxRecDepth 20000 in
theorem gX2_spare_X0_leastUncoveredWithin : GoodIn wsX2_spare (wsV RX2 152 RX0 yX0_leastUncoveredWithin wsX0_leastUncoveredWithin) := goodIn_app (goodIn_of _ (by decide +kernel)) ggX2_spare_X0_leastUncoveredWithin
set_option maxRecDepth 20000 in
theorem ggX2_spare_X0_weightOfSet : GoodIn wsX2_spare wsX0_weightOfSet := goodIn_r _ [117, 68, 141, 142, 143, 144, 145, 146, 147] (by decide +kernel) (by decide +kernel)
set_option maxRecDepth 20000 in
theorem gX2_spare_X0_weightOfSet : GoodIn wsX2_spare (wsV RX2 135 RX0 yX0_weightOfSet wsX0_weightOfSet) := goodIn_app (goodIn_of _ (by decide +kernel)) ggX2_spare_X0_weightOfSet
set_option maxRecDepth 20000 in
theorem ggX2_spare_X0_leastTakenFor : GoodIn wsX2_spare wsX0_leastTakenFor := goodIn_r _ [122, 53, 51, 52, 99, 100, 82, 101, 114, 115, 116, 49, 117, 68, 141, 142, 143, 144, 145, 146, 147] (by decide +kernel) (by decide +kernel)
set_option maxRecDepth 20000 in
theorem gX2_spare_X0_leastTakenFor : GoodIn wsX2_spare (wsV RX2 168 RX0 yX0_leastTakenFor wsX0_leastTakenFor) := goodIn_app (goodIn_of _ (by decide +kernel)) ggX2_spare_X0_leastTakenFor
theorem dX2_spare_0 : decode cX2_spare 0 = .ok (.aload_n 0, 1) := by decide +kernel
theorem dX2_spare_1 : decode cX2_spare 1 = .ok (.iload_n 1, 1) := by decide +kernel
theorem dX2_spare_2 : decode cX2_spare 2 = .ok (.invokevirtual 102, 3) := by decide +kernel
theorem dX2_spare_5 : decode cX2_spare 5 = .ok (.astore_n 2, 1) := by decide +kernel
theorem dX2_spare_6 : decode cX2_spare 6 = .ok (.aload_n 0, 1) := by decide +kernel
theorem dX2_spare_7 : decode cX2_spare 7 = .ok (.iload_n 1, 1) := by decide +kernel
theorem dX2_spare_8 : decode cX2_spare 8 = .ok (.aload_n 2, 1) := by decide +kernel
theorem dX2_spare_9 : decode cX2_spare 9 = .ok (.getfield 86, 3) := by decide +kernel
theorem dX2_spare_12 : decode cX2_spare 12 = .ok (.aload_n 0, 1) := by decide +kernel
theorem dX2_spare_13 : decode cX2_spare 13 = .ok (.getfield 13, 3) := by decide +kernel
theorem dX2_spare_16 : decode cX2_spare 16 = .ok (.invokevirtual 161, 3) := by decide +kernel
theorem dX2_spare_19 : decode cX2_spare 19 = .ok (.aload_n 0, 1) := by decide +kernel
theorem dX2_spare_20 : decode cX2_spare 20 = .ok (.aload_n 2, 1) := by decide +kernel
theorem dX2_spare_21 : decode cX2_spare 21 = .ok (.aload_n 0, 1) := by decide +kernel
theorem dX2_spare_22 : decode cX2_spare 22 = .ok (.getfield 13, 3) := by decide +kernel
theorem dX2_spare_25 : decode cX2_spare 25 = .ok (.invokevirtual 145, 3) := by decide +kernel
theorem dX2_spare_28 : decode cX2_spare 28 = .ok (.aload_n 0, 1) := by decide +kernel
theorem dX2_spare_29 : decode cX2_spare 29 = .ok (.getfield 40, 3) := by decide +kernel
theorem dX2_spare_32 : decode cX2_spare 32 = .ok (.invokevirtual 165, 3) := by decide +kernel
theorem dX2_spare_35 : decode cX2_spare 35 = .ok (.aload_n 0, 1) := by decide +kernel
theorem dX2_spare_36 : decode cX2_spare 36 = .ok (.getfield 40, 3) := by decide +kernel
theorem dX2_spare_39 : decode cX2_spare 39 = .ok (.aload_n 2, 1) := by decide +kernel
theorem dX2_spare_40 : decode cX2_spare 40 = .ok (.getfield 112, 3) := by decide +kernel
theorem dX2_spare_43 : decode cX2_spare 43 = .ok (.invokevirtual 152, 3) := by decide +kernel
theorem dX2_spare_46 : decode cX2_spare 46 = .ok (.istore_n 3, 1) := by decide +kernel
theorem dX2_spare_47 : decode cX2_spare 47 = .ok (.aload_n 2, 1) := by decide +kernel
theorem dX2_spare_48 : decode cX2_spare 48 = .ok (.getfield 112, 3) := by decide +kernel
theorem dX2_spare_51 : decode cX2_spare 51 = .ok (.aload_n 0, 1) := by decide +kernel
theorem dX2_spare_52 : decode cX2_spare 52 = .ok (.getfield 40, 3) := by decide +kernel
theorem dX2_spare_55 : decode cX2_spare 55 = .ok (.aload_n 0, 1) := by decide +kernel
theorem dX2_spare_56 : decode cX2_spare 56 = .ok (.getfield 40, 3) := by decide +kernel
theorem dX2_spare_59 : decode cX2_spare 59 = .ok (.iload_n 3, 1) := by decide +kernel
theorem dX2_spare_60 : decode cX2_spare 60 = .ok (.invokevirtual 135, 3) := by decide +kernel
theorem dX2_spare_63 : decode cX2_spare 63 = .ok (.invokevirtual 168, 3) := by decide +kernel
theorem dX2_spare_66 : decode cX2_spare 66 = .ok (.isub, 1) := by decide +kernel
theorem dX2_spare_67 : decode cX2_spare 67 = .ok (.ireturn, 1) := by decide +kernel
theorem dX2_requireMachine_0 : decode cX2_requireMachine 0 = .ok (.iload_n 0, 1) := by decide +kernel
theorem dX2_requireMachine_1 : decode cX2_requireMachine 1 = .ok (.ifCond .lt 9, 3) := by decide +kernel
theorem dX2_requireMachine_4 : decode cX2_requireMachine 4 = .ok (.iload_n 0, 1) := by decide +kernel
theorem dX2_requireMachine_5 : decode cX2_requireMachine 5 = .ok (.bipush 8, 2) := by decide +kernel
theorem dX2_requireMachine_7 : decode cX2_requireMachine 7 = .ok (.if_icmp .lt 13, 3) := by decide +kernel
theorem dX2_requireMachine_10 : decode cX2_requireMachine 10 = .ok (.new 171, 3) := by decide +kernel
theorem dX2_requireMachine_13 : decode cX2_requireMachine 13 = .ok (.dup, 1) := by decide +kernel
theorem dX2_requireMachine_14 : decode cX2_requireMachine 14 = .ok (.ldc 173, 2) := by decide +kernel
theorem dX2_requireMachine_16 : decode cX2_requireMachine 16 = .ok (.invokespecial 175, 3) := by decide +kernel
theorem dX2_requireMachine_19 : decode cX2_requireMachine 19 = .ok (.athrow, 1) := by decide +kernel
theorem dX2_requireMachine_20 : decode cX2_requireMachine 20 = .ok (.return_, 1) := by decide +kernel
theorem dX2_requireProduct_0 : decode cX2_requireProduct 0 = .ok (.iload_n 0, 1) := by decide +kernel
theorem dX2_requireProduct_1 : decode cX2_requireProduct 1 = .ok (.ifCond .lt 8, 3) := by decide +kernel
theorem dX2_requireProduct_4 : decode cX2_requireProduct 4 = .ok (.iload_n 0, 1) := by decide +kernel
theorem dX2_requireProduct_5 : decode cX2_requireProduct 5 = .ok (.iconst 4, 1) := by decide +kernel
theorem dX2_requireProduct_6 : decode cX2_requireProduct 6 = .ok (.if_icmp .lt 13, 3) := by decide +kernel
theorem dX2_requireProduct_9 : decode cX2_requireProduct 9 = .ok (.new 171, 3) := by decide +kernel
theorem dX2_requireProduct_12 : decode cX2_requireProduct 12 = .ok (.dup, 1) := by decide +kernel
theorem dX2_requireProduct_13 : decode cX2_requireProduct 13 = .ok (.ldc 176, 2) := by decide +kernel
theorem dX2_requireProduct_15 : decode cX2_requireProduct 15 = .ok (.invokespecial 175, 3) := by decide +kernel
theorem dX2_requireProduct_18 : decode cX2_requireProduct 18 = .ok (.athrow, 1) := by decide +kernel
theorem dX2_requireProduct_19 : decode cX2_requireProduct 19 = .ok (.return_, 1) := by decide +kernel
theorem dX2_requireRange_0 : decode cX2_requireRange 0 = .ok (.iload_n 0, 1) := by decide +kernel
theorem dX2_requireRange_1 : decode cX2_requireRange 1 = .ok (.iload_n 1, 1) := by decide +kernel
theorem dX2_requireRange_2 : decode cX2_requireRange 2 = .ok (.if_icmp .lt 8, 3) := by decide +kernel
theorem dX2_requireRange_5 : decode cX2_requireRange 5 = .ok (.iload_n 0, 1) := by decide +kernel
theorem dX2_requireRange_6 : decode cX2_requireRange 6 = .ok (.iload_n 2, 1) := by decide +kernel
theorem dX2_requireRange_7 : decode cX2_requireRange 7 = .ok (.if_icmp .le 13, 3) := by decide +kernel
theorem dX2_requireRange_10 : decode cX2_requireRange 10 = .ok (.new 178, 3) := by decide +kernel
theorem dX2_requireRange_13 : decode cX2_requireRange 13 = .ok (.dup, 1) := by decide +kernel
theorem dX2_requireRange_14 : decode cX2_requireRange 14 = .ok (.ldc 180, 2) := by decide +kernel
theorem dX2_requireRange_16 : decode cX2_requireRange 16 = .ok (.invokespecial 182, 3) := by decide +kernel
theorem dX2_requireRange_19 : decode cX2_requireRange 19 = .ok (.athrow, 1) := by decide +kernel
theorem dX2_requireRange_20 : decode cX2_requireRange 20 = .ok (.return_, 1) := by decide +kernel
theorem dX2_requireCount_0 : decode cX2_requireCount 0 = .ok (.aload_n 0, 1) := by decide +kernel
theorem dX2_requireCount_1 : decode cX2_requireCount 1 = .ok (.getfield 112, 3) := by decide +kernel
theorem dX2_requireCount_4 : decode cX2_requireCount 4 = .ok (.iload_n 1, 1) := by decide +kernel
theorem dX2_requireCount_5 : decode cX2_requireCount 5 = .ok (.if_icmp .ge 13, 3) := by decide +kernel
theorem dX2_requireCount_8 : decode cX2_requireCount 8 = .ok (.new 69, 3) := by decide +kernel
theorem dX2_requireCount_11 : decode cX2_requireCount 11 = .ok (.dup, 1) := by decide +kernel
theorem dX2_requireCount_12 : decode cX2_requireCount 12 = .ok (.ldc 183, 2) := by decide +kernel
theorem dX2_requireCount_14 : decode cX2_requireCount 14 = .ok (.invokespecial 73, 3) := by decide +kernel
theorem dX2_requireCount_17 : decode cX2_requireCount 17 = .ok (.athrow, 1) := by decide +kernel
theorem dX2_requireCount_18 : decode cX2_requireCount 18 = .ok (.return_, 1) := by decide +kernel
set_option maxRecDepth 20000 in
theorem ggX2_requireRoomForRight_Jx4a65c_size_8abf5 : GoodIn wsX2_requireRoomForRight wsJx4a65c_size_8abf5 := goodIn_r _ [8, 9, 19, 20, 21] (by decide +kernel) (by decide +kernel)
set_option maxRecDepth 20000 in
theorem gX2_requireRoomForRight_Jx4a65c_size_8abf5 : GoodIn wsX2_requireRoomForRight (wsV RX2 76 RJx4a65c yJx4a65c_size_8abf5 wsJx4a65c_size_8abf5) := goodIn_app (goodIn_of _ (by decide +kernel)) ggX2_requireRoomForRight_Jx4a65c_size_8abf5
theorem dX2_requireRoomForRight_0 : decode cX2_requireRoomForRight 0 = .ok (.aload_n 0, 1) := by decide +kernel
theorem dX2_requireRoomForRight_1 : decode cX2_requireRoomForRight 1 = .ok (.getfield 33, 3) := by decide +kernel
theorem dX2_requireRoomForRight_4 : decode cX2_requireRoomForRight 4 = .ok (.invokevirtual 76, 3) := by decide +kernel
theorem dX2_requireRoomForRight_7 : decode cX2_requireRoomForRight 7 = .ok (.bipush 12, 2) := by decide +kernel
theorem dX2_requireRoomForRight_9 : decode cX2_requireRoomForRight 9 = .ok (.if_icmp .lt 13, 3) := by decide +kernel
theorem dX2_requireRoomForRight_12 : decode cX2_requireRoomForRight 12 = .ok (.new 69, 3) := by decide +kernel
theorem dX2_requireRoomForRight_15 : decode cX2_requireRoomForRight 15 = .ok (.dup, 1) := by decide +kernel
theorem dX2_requireRoomForRight_16 : decode cX2_requireRoomForRight 16 = .ok (.ldc 185, 2) := by decide +kernel
theorem dX2_requireRoomForRight_18 : decode cX2_requireRoomForRight 18 = .ok (.invokespecial 73, 3) := by decide +kernel
theorem dX2_requireRoomForRight_21 : decode cX2_requireRoomForRight 21 = .ok (.athrow, 1) := by decide +kernel
theorem dX2_requireRoomForRight_22 : decode cX2_requireRoomForRight 22 = .ok (.return_, 1) := by decide +kernel
set_option maxRecDepth 20000 in
theorem ggX2_requireMovable_X2_requireMachine : GoodIn wsX2_requireMovable wsX2_requireMachine := goodIn_ca (goodIn_r _ [9, 10, 11] (by decide +kernel) (by decide +kernel)) (goodIn_sub (fun _ h => List.mem_cons_of_mem _ (List.mem_append_right _ h)) (by decide +kernel))
set_option maxRecDepth 20000 in
theorem gX2_requireMovable_X2_requireMachine : GoodIn wsX2_requireMovable (va_wsS RX2 54 yX2_requireMachine wsX2_requireMachine) := goodIn_app (goodIn_of _ (by decide +kernel)) ggX2_requireMovable_X2_requireMachine
set_option maxRecDepth 20000 in
theorem ggX2_requireMovable_X2_isHost : GoodIn wsX2_requireMovable wsX2_isHost := goodIn_r _ [15, 5, 16, 17, 18, 19, 20, 21, 22, 23, 24] (by decide +kernel) (by decide +kernel)
set_option maxRecDepth 20000 in
theorem gX2_requireMovable_X2_isHost : GoodIn wsX2_requireMovable (wsV RX2 189 RX2 yX2_isHost wsX2_isHost) := goodIn_app (goodIn_of _ (by decide +kernel)) ggX2_requireMovable_X2_isHost
theorem dX2_requireMovable_0 : decode cX2_requireMovable 0 = .ok (.iload_n 1, 1) := by decide +kernel
theorem dX2_requireMovable_1 : decode cX2_requireMovable 1 = .ok (.invokestatic 54, 3) := by decide +kernel
theorem dX2_requireMovable_4 : decode cX2_requireMovable 4 = .ok (.iload_n 2, 1) := by decide +kernel
theorem dX2_requireMovable_5 : decode cX2_requireMovable 5 = .ok (.iconst (-1), 1) := by decide +kernel
theorem dX2_requireMovable_6 : decode cX2_requireMovable 6 = .ok (.if_icmp .ne 4, 3) := by decide +kernel
theorem dX2_requireMovable_9 : decode cX2_requireMovable 9 = .ok (.return_, 1) := by decide +kernel
theorem dX2_requireMovable_10 : decode cX2_requireMovable 10 = .ok (.iload_n 2, 1) := by decide +kernel
theorem dX2_requireMovable_11 : decode cX2_requireMovable 11 = .ok (.invokestatic 54, 3) := by decide +kernel
theorem dX2_requireMovable_14 : decode cX2_requireMovable 14 = .ok (.iload_n 1, 1) := by decide +kernel
theorem dX2_requireMovable_15 : decode cX2_requireMovable 15 = .ok (.iload_n 2, 1) := by decide +kernel
theorem dX2_requireMovable_16 : decode cX2_requireMovable 16 = .ok (.if_icmp .ne 13, 3) := by decide +kernel
theorem dX2_requireMovable_19 : decode cX2_requireMovable 19 = .ok (.new 178, 3) := by decide +kernel
theorem dX2_requireMovable_22 : decode cX2_requireMovable 22 = .ok (.dup, 1) := by decide +kernel
theorem dX2_requireMovable_23 : decode cX2_requireMovable 23 = .ok (.ldc 187, 2) := by decide +kernel
theorem dX2_requireMovable_25 : decode cX2_requireMovable 25 = .ok (.invokespecial 182, 3) := by decide +kernel
theorem dX2_requireMovable_28 : decode cX2_requireMovable 28 = .ok (.athrow, 1) := by decide +kernel
theorem dX2_requireMovable_29 : decode cX2_requireMovable 29 = .ok (.aload_n 0, 1) := by decide +kernel
theorem dX2_requireMovable_30 : decode cX2_requireMovable 30 = .ok (.iload_n 1, 1) := by decide +kernel
theorem dX2_requireMovable_31 : decode cX2_requireMovable 31 = .ok (.invokevirtual 189, 3) := by decide +kernel
theorem dX2_requireMovable_34 : decode cX2_requireMovable 34 = .ok (.ifCond .ne 13, 3) := by decide +kernel
theorem dX2_requireMovable_37 : decode cX2_requireMovable 37 = .ok (.aload_n 0, 1) := by decide +kernel
theorem dX2_requireMovable_38 : decode cX2_requireMovable 38 = .ok (.getfield 13, 3) := by decide +kernel
theorem dX2_requireMovable_41 : decode cX2_requireMovable 41 = .ok (.iload_n 2, 1) := by decide +kernel
theorem dX2_requireMovable_42 : decode cX2_requireMovable 42 = .ok (.iaload, 1) := by decide +kernel
theorem dX2_requireMovable_43 : decode cX2_requireMovable 43 = .ok (.iconst (-1), 1) := by decide +kernel
theorem dX2_requireMovable_44 : decode cX2_requireMovable 44 = .ok (.if_icmp .eq 13, 3) := by decide +kernel
theorem dX2_requireMovable_47 : decode cX2_requireMovable 47 = .ok (.new 69, 3) := by decide +kernel
theorem dX2_requireMovable_50 : decode cX2_requireMovable 50 = .ok (.dup, 1) := by decide +kernel
theorem dX2_requireMovable_51 : decode cX2_requireMovable 51 = .ok (.ldc 193, 2) := by decide +kernel
theorem dX2_requireMovable_53 : decode cX2_requireMovable 53 = .ok (.invokespecial 73, 3) := by decide +kernel
theorem dX2_requireMovable_56 : decode cX2_requireMovable 56 = .ok (.athrow, 1) := by decide +kernel
theorem dX2_requireMovable_57 : decode cX2_requireMovable 57 = .ok (.return_, 1) := by decide +kernel
set_option maxRecDepth 20000 in
theorem ggX2_requireFewRights_Jx4a65c_size_8abf5 : GoodIn wsX2_requireFewRights wsJx4a65c_size_8abf5 := goodIn_r _ [11, 12, 45, 46, 47] (by decide +kernel) (by decide +kernel)
set_option maxRecDepth 20000 in
theorem gX2_requireFewRights_Jx4a65c_size_8abf5 : GoodIn wsX2_requireFewRights (wsV RX2 76 RJx4a65c yJx4a65c_size_8abf5 wsJx4a65c_size_8abf5) := goodIn_app (goodIn_of _ (by decide +kernel)) ggX2_requireFewRights_Jx4a65c_size_8abf5
set_option maxRecDepth 20000 in
theorem ggX2_requireFewRights_Jx4a65c_get_915e3 : GoodIn wsX2_requireFewRights wsJx4a65c_get_915e3 := goodIn_r _ [16, 12, 17, 18, 19, 20, 21, 22, 23, 24, 25, 26, 27, 10, 28, 29, 45, 46, 47] (by decide +kernel) (by decide +kernel)
set_option maxRecDepth 20000 in
theorem gX2_requireFewRights_Jx4a65c_get_915e3 : GoodIn wsX2_requireFewRights (wsV RX2 80 RJx4a65c yJx4a65c_get_915e3 wsJx4a65c_get_915e3) := goodIn_app (goodIn_of _ (by decide +kernel)) ggX2_requireFewRights_Jx4a65c_get_915e3
theorem dX2_requireFewRights_0 : decode cX2_requireFewRights 0 = .ok (.iconst 0, 1) := by decide +kernel
theorem dX2_requireFewRights_1 : decode cX2_requireFewRights 1 = .ok (.istore_n 2, 1) := by decide +kernel
theorem dX2_requireFewRights_2 : decode cX2_requireFewRights 2 = .ok (.iconst 0, 1) := by decide +kernel
theorem dX2_requireFewRights_3 : decode cX2_requireFewRights 3 = .ok (.istore_n 3, 1) := by decide +kernel
theorem dX2_requireFewRights_4 : decode cX2_requireFewRights 4 = .ok (.iload_n 3, 1) := by decide +kernel
theorem dX2_requireFewRights_5 : decode cX2_requireFewRights 5 = .ok (.aload_n 0, 1) := by decide +kernel
theorem dX2_requireFewRights_6 : decode cX2_requireFewRights 6 = .ok (.getfield 33, 3) := by decide +kernel
theorem dX2_requireFewRights_9 : decode cX2_requireFewRights 9 = .ok (.invokevirtual 76, 3) := by decide +kernel
theorem dX2_requireFewRights_12 : decode cX2_requireFewRights 12 = .ok (.if_icmp .ge 42, 3) := by decide +kernel
theorem dX2_requireFewRights_15 : decode cX2_requireFewRights 15 = .ok (.aload_n 0, 1) := by decide +kernel
theorem dX2_requireFewRights_16 : decode cX2_requireFewRights 16 = .ok (.getfield 33, 3) := by decide +kernel
theorem dX2_requireFewRights_19 : decode cX2_requireFewRights 19 = .ok (.iload_n 3, 1) := by decide +kernel
theorem dX2_requireFewRights_20 : decode cX2_requireFewRights 20 = .ok (.invokevirtual 80, 3) := by decide +kernel
theorem dX2_requireFewRights_23 : decode cX2_requireFewRights 23 = .ok (.checkcast 84, 3) := by decide +kernel
theorem dX2_requireFewRights_26 : decode cX2_requireFewRights 26 = .ok (.astore 4, 2) := by decide +kernel
theorem dX2_requireFewRights_28 : decode cX2_requireFewRights 28 = .ok (.aload 4, 2) := by decide +kernel
theorem dX2_requireFewRights_30 : decode cX2_requireFewRights 30 = .ok (.getfield 86, 3) := by decide +kernel
theorem dX2_requireFewRights_33 : decode cX2_requireFewRights 33 = .ok (.iload_n 1, 1) := by decide +kernel
theorem dX2_requireFewRights_34 : decode cX2_requireFewRights 34 = .ok (.if_icmp .ne 14, 3) := by decide +kernel
theorem dX2_requireFewRights_37 : decode cX2_requireFewRights 37 = .ok (.aload 4, 2) := by decide +kernel
theorem dX2_requireFewRights_39 : decode cX2_requireFewRights 39 = .ok (.getfield 112, 3) := by decide +kernel
theorem dX2_requireFewRights_42 : decode cX2_requireFewRights 42 = .ok (.ifCond .le 6, 3) := by decide +kernel
theorem dX2_requireFewRights_45 : decode cX2_requireFewRights 45 = .ok (.iinc 2 1, 3) := by decide +kernel
theorem dX2_requireFewRights_48 : decode cX2_requireFewRights 48 = .ok (.iinc 3 1, 3) := by decide +kernel
theorem dX2_requireFewRights_51 : decode cX2_requireFewRights 51 = .ok (.goto (-47), 3) := by decide +kernel
theorem dX2_requireFewRights_54 : decode cX2_requireFewRights 54 = .ok (.iload_n 2, 1) := by decide +kernel
theorem dX2_requireFewRights_55 : decode cX2_requireFewRights 55 = .ok (.iconst 2, 1) := by decide +kernel
theorem dX2_requireFewRights_56 : decode cX2_requireFewRights 56 = .ok (.if_icmp .le 13, 3) := by decide +kernel
theorem dX2_requireFewRights_59 : decode cX2_requireFewRights 59 = .ok (.new 69, 3) := by decide +kernel
theorem dX2_requireFewRights_62 : decode cX2_requireFewRights 62 = .ok (.dup, 1) := by decide +kernel
theorem dX2_requireFewRights_63 : decode cX2_requireFewRights 63 = .ok (.ldc 195, 2) := by decide +kernel
theorem dX2_requireFewRights_65 : decode cX2_requireFewRights 65 = .ok (.invokespecial 73, 3) := by decide +kernel
theorem dX2_requireFewRights_68 : decode cX2_requireFewRights 68 = .ok (.athrow, 1) := by decide +kernel
theorem dX2_requireFewRights_69 : decode cX2_requireFewRights 69 = .ok (.return_, 1) := by decide +kernel
set_option maxRecDepth 20000 in
theorem ggX2_rightAt_Jx4a65c_size_8abf5 : GoodIn wsX2_rightAt wsJx4a65c_size_8abf5 := goodIn_r _ [9, 10, 37, 38, 39] (by decide +kernel) (by decide +kernel)
set_option maxRecDepth 20000 in
theorem gX2_rightAt_Jx4a65c_size_8abf5 : GoodIn wsX2_rightAt (wsV RX2 76 RJx4a65c yJx4a65c_size_8abf5 wsJx4a65c_size_8abf5) := goodIn_app (goodIn_of _ (by decide +kernel)) ggX2_rightAt_Jx4a65c_size_8abf5
set_option maxRecDepth 20000 in
theorem ggX2_rightAt_Jx4a65c_get_915e3 : GoodIn wsX2_rightAt wsJx4a65c_get_915e3 := goodIn_r _ [14, 10, 15, 16, 17, 18, 19, 20, 21, 22, 23, 24, 25, 8, 26, 27, 37, 38, 39] (by decide +kernel) (by decide +kernel)
set_option maxRecDepth 20000 in
theorem gX2_rightAt_Jx4a65c_get_915e3 : GoodIn wsX2_rightAt (wsV RX2 80 RJx4a65c yJx4a65c_get_915e3 wsJx4a65c_get_915e3) := goodIn_app (goodIn_of _ (by decide +kernel)) ggX2_rightAt_Jx4a65c_get_915e3
theorem dX2_rightAt_0 : decode cX2_rightAt 0 = .ok (.iload_n 1, 1) := by decide +kernel
theorem dX2_rightAt_1 : decode cX2_rightAt 1 = .ok (.ifCond .lt 14, 3) := by decide +kernel
theorem dX2_rightAt_4 : decode cX2_rightAt 4 = .ok (.iload_n 1, 1) := by decide +kernel
theorem dX2_rightAt_5 : decode cX2_rightAt 5 = .ok (.aload_n 0, 1) := by decide +kernel
theorem dX2_rightAt_6 : decode cX2_rightAt 6 = .ok (.getfield 33, 3) := by decide +kernel
theorem dX2_rightAt_9 : decode cX2_rightAt 9 = .ok (.invokevirtual 76, 3) := by decide +kernel
theorem dX2_rightAt_12 : decode cX2_rightAt 12 = .ok (.if_icmp .lt 13, 3) := by decide +kernel
theorem dX2_rightAt_15 : decode cX2_rightAt 15 = .ok (.new 171, 3) := by decide +kernel
theorem dX2_rightAt_18 : decode cX2_rightAt 18 = .ok (.dup, 1) := by decide +kernel
theorem dX2_rightAt_19 : decode cX2_rightAt 19 = .ok (.ldc 197, 2) := by decide +kernel
theorem dX2_rightAt_21 : decode cX2_rightAt 21 = .ok (.invokespecial 175, 3) := by decide +kernel
theorem dX2_rightAt_24 : decode cX2_rightAt 24 = .ok (.athrow, 1) := by decide +kernel
theorem dX2_rightAt_25 : decode cX2_rightAt 25 = .ok (.aload_n 0, 1) := by decide +kernel
theorem dX2_rightAt_26 : decode cX2_rightAt 26 = .ok (.getfield 33, 3) := by decide +kernel
theorem dX2_rightAt_29 : decode cX2_rightAt 29 = .ok (.iload_n 1, 1) := by decide +kernel
theorem dX2_rightAt_30 : decode cX2_rightAt 30 = .ok (.invokevirtual 80, 3) := by decide +kernel
theorem dX2_rightAt_33 : decode cX2_rightAt 33 = .ok (.checkcast 84, 3) := by decide +kernel
theorem dX2_rightAt_36 : decode cX2_rightAt 36 = .ok (.areturn, 1) := by decide +kernel
theorem dX2_isHost_0 : decode cX2_isHost 0 = .ok (.iconst 0, 1) := by decide +kernel
theorem dX2_isHost_1 : decode cX2_isHost 1 = .ok (.istore_n 2, 1) := by decide +kernel
theorem dX2_isHost_2 : decode cX2_isHost 2 = .ok (.iload_n 2, 1) := by decide +kernel
theorem dX2_isHost_3 : decode cX2_isHost 3 = .ok (.bipush 8, 2) := by decide +kernel
theorem dX2_isHost_5 : decode cX2_isHost 5 = .ok (.if_icmp .ge 21, 3) := by decide +kernel
theorem dX2_isHost_8 : decode cX2_isHost 8 = .ok (.aload_n 0, 1) := by decide +kernel
theorem dX2_isHost_9 : decode cX2_isHost 9 = .ok (.getfield 13, 3) := by decide +kernel
theorem dX2_isHost_12 : decode cX2_isHost 12 = .ok (.iload_n 2, 1) := by decide +kernel
theorem dX2_isHost_13 : decode cX2_isHost 13 = .ok (.iaload, 1) := by decide +kernel
theorem dX2_isHost_14 : decode cX2_isHost 14 = .ok (.iload_n 1, 1) := by decide +kernel
theorem dX2_isHost_15 : decode cX2_isHost 15 = .ok (.if_icmp .ne 5, 3) := by decide +kernel
theorem dX2_isHost_18 : decode cX2_isHost 18 = .ok (.iconst 1, 1) := by decide +kernel
theorem dX2_isHost_19 : decode cX2_isHost 19 = .ok (.ireturn, 1) := by decide +kernel
theorem dX2_isHost_20 : decode cX2_isHost 20 = .ok (.iinc 2 1, 3) := by decide +kernel
theorem dX2_isHost_23 : decode cX2_isHost 23 = .ok (.goto (-21), 3) := by decide +kernel
theorem dX2_isHost_26 : decode cX2_isHost 26 = .ok (.iconst 0, 1) := by decide +kernel
theorem dX2_isHost_27 : decode cX2_isHost 27 = .ok (.ireturn, 1) := by decide +kernel
set_option maxRecDepth 20000 in
theorem ggX2_addRight_X1_init : GoodIn wsX2_addRight wsX1_init := goodIn_r _ [8, 9, 10, 11, 12, 13, 14, 15, 16, 17, 87, 88, 89, 90, 91, 92] (by decide +kernel) (by decide +kernel)
set_option maxRecDepth 20000 in
theorem gX2_addRight_X1_init : GoodIn wsX2_addRight (wsX1_init) := ggX2_addRight_X1_init
set_option maxRecDepth 20000 in
theorem ggX2_addRight_Jx4a65c_add_9ea2d : GoodIn wsX2_addRight wsJx4a65c_add_9ea2d := goodIn_r _ [22, 23, 24, 25, 26, 27, 28, 29, 21, 30, 31, 32, 33, 34, 35, 36, 37, 38, 39, 40, 41, 42, 43, 44, 45, 46, 47, 48, 49, 50, 51, 52, 53, 54, 55, 56, 57, 58, 59, 60, 61, 62, 63, 64, 65, 66, 67, 68, 69, 70, 71, 72, 73, 93, 94, 95] (by decide +kernel) (by decide +kernel)
set_option maxRecDepth 20000 in
theorem gX2_addRight_Jx4a65c_add_9ea2d : GoodIn wsX2_addRight (wsV RX2 202 RJx4a65c yJx4a65c_add_9ea2d wsJx4a65c_add_9ea2d) := goodIn_app (goodIn_of _ (by decide +kernel)) ggX2_addRight_Jx4a65c_add_9ea2d
set_option maxRecDepth 20000 in
theorem ggX2_addRight_Jx4a65c_size_8abf5 : GoodIn wsX2_addRight wsJx4a65c_size_8abf5 := goodIn_r _ [77, 26, 93, 94, 95] (by decide +kernel) (by decide +kernel)
set_option maxRecDepth 20000 in
theorem gX2_addRight_Jx4a65c_size_8abf5 : GoodIn wsX2_addRight (wsV RX2 76 RJx4a65c yJx4a65c_size_8abf5 wsJx4a65c_size_8abf5) := goodIn_app (goodIn_of _ (by decide +kernel)) ggX2_addRight_Jx4a65c_size_8abf5
theorem dX2_addRight_0 : decode cX2_addRight 0 = .ok (.aload_n 0, 1) := by decide +kernel
theorem dX2_addRight_1 : decode cX2_addRight 1 = .ok (.getfield 33, 3) := by decide +kernel
theorem dX2_addRight_4 : decode cX2_addRight 4 = .ok (.new 84, 3) := by decide +kernel
theorem dX2_addRight_7 : decode cX2_addRight 7 = .ok (.dup, 1) := by decide +kernel
theorem dX2_addRight_8 : decode cX2_addRight 8 = .ok (.iload_n 1, 1) := by decide +kernel
theorem dX2_addRight_9 : decode cX2_addRight 9 = .ok (.iload_n 2, 1) := by decide +kernel
theorem dX2_addRight_10 : decode cX2_addRight 10 = .ok (.iload_n 3, 1) := by decide +kernel
theorem dX2_addRight_11 : decode cX2_addRight 11 = .ok (.aload_n 0, 1) := by decide +kernel
theorem dX2_addRight_12 : decode cX2_addRight 12 = .ok (.getfield 24, 3) := by decide +kernel
theorem dX2_addRight_15 : decode cX2_addRight 15 = .ok (.iload_n 1, 1) := by decide +kernel
theorem dX2_addRight_16 : decode cX2_addRight 16 = .ok (.iaload, 1) := by decide +kernel
theorem dX2_addRight_17 : decode cX2_addRight 17 = .ok (.iload 4, 2) := by decide +kernel
theorem dX2_addRight_19 : decode cX2_addRight 19 = .ok (.invokespecial 199, 3) := by decide +kernel
theorem dX2_addRight_22 : decode cX2_addRight 22 = .ok (.invokevirtual 202, 3) := by decide +kernel
theorem dX2_addRight_25 : decode cX2_addRight 25 = .ok (.pop, 1) := by decide +kernel
theorem dX2_addRight_26 : decode cX2_addRight 26 = .ok (.aload_n 0, 1) := by decide +kernel
theorem dX2_addRight_27 : decode cX2_addRight 27 = .ok (.getfield 33, 3) := by decide +kernel
theorem dX2_addRight_30 : decode cX2_addRight 30 = .ok (.invokevirtual 76, 3) := by decide +kernel
theorem dX2_addRight_33 : decode cX2_addRight 33 = .ok (.iconst 1, 1) := by decide +kernel
theorem dX2_addRight_34 : decode cX2_addRight 34 = .ok (.isub, 1) := by decide +kernel
theorem dX2_addRight_35 : decode cX2_addRight 35 = .ok (.ireturn, 1) := by decide +kernel
theorem dX2_weightOn_0 : decode cX2_weightOn 0 = .ok (.aload_n 0, 1) := by decide +kernel
theorem dX2_weightOn_1 : decode cX2_weightOn 1 = .ok (.getfield 21, 3) := by decide +kernel
theorem dX2_weightOn_4 : decode cX2_weightOn 4 = .ok (.iload_n 1, 1) := by decide +kernel
theorem dX2_weightOn_5 : decode cX2_weightOn 5 = .ok (.aaload, 1) := by decide +kernel
theorem dX2_weightOn_6 : decode cX2_weightOn 6 = .ok (.iload_n 2, 1) := by decide +kernel
theorem dX2_weightOn_7 : decode cX2_weightOn 7 = .ok (.iaload, 1) := by decide +kernel
theorem dX2_weightOn_8 : decode cX2_weightOn 8 = .ok (.ifCond .le 19, 3) := by decide +kernel
theorem dX2_weightOn_11 : decode cX2_weightOn 11 = .ok (.aload_n 0, 1) := by decide +kernel
theorem dX2_weightOn_12 : decode cX2_weightOn 12 = .ok (.getfield 9, 3) := by decide +kernel
theorem dX2_weightOn_15 : decode cX2_weightOn 15 = .ok (.iload_n 1, 1) := by decide +kernel
theorem dX2_weightOn_16 : decode cX2_weightOn 16 = .ok (.iaload, 1) := by decide +kernel
theorem dX2_weightOn_17 : decode cX2_weightOn 17 = .ok (.aload_n 0, 1) := by decide +kernel
theorem dX2_weightOn_18 : decode cX2_weightOn 18 = .ok (.getfield 27, 3) := by decide +kernel
theorem dX2_weightOn_21 : decode cX2_weightOn 21 = .ok (.iload_n 2, 1) := by decide +kernel
theorem dX2_weightOn_22 : decode cX2_weightOn 22 = .ok (.iaload, 1) := by decide +kernel
theorem dX2_weightOn_23 : decode cX2_weightOn 23 = .ok (.imul, 1) := by decide +kernel
theorem dX2_weightOn_24 : decode cX2_weightOn 24 = .ok (.goto 4, 3) := by decide +kernel
theorem dX2_weightOn_27 : decode cX2_weightOn 27 = .ok (.iconst 0, 1) := by decide +kernel
theorem dX2_weightOn_28 : decode cX2_weightOn 28 = .ok (.ireturn, 1) := by decide +kernel
theorem dX2_takenOn_0 : decode cX2_takenOn 0 = .ok (.aload_n 1, 1) := by decide +kernel
theorem dX2_takenOn_1 : decode cX2_takenOn 1 = .ok (.getfield 115, 3) := by decide +kernel
theorem dX2_takenOn_4 : decode cX2_takenOn 4 = .ok (.iconst 1, 1) := by decide +kernel
theorem dX2_takenOn_5 : decode cX2_takenOn 5 = .ok (.if_icmp .ne 16, 3) := by decide +kernel
theorem dX2_takenOn_8 : decode cX2_takenOn 8 = .ok (.iconst 4, 1) := by decide +kernel
theorem dX2_takenOn_9 : decode cX2_takenOn 9 = .ok (.aload_n 0, 1) := by decide +kernel
theorem dX2_takenOn_10 : decode cX2_takenOn 10 = .ok (.getfield 9, 3) := by decide +kernel
theorem dX2_takenOn_13 : decode cX2_takenOn 13 = .ok (.iload_n 2, 1) := by decide +kernel
theorem dX2_takenOn_14 : decode cX2_takenOn 14 = .ok (.iaload, 1) := by decide +kernel
theorem dX2_takenOn_15 : decode cX2_takenOn 15 = .ok (.invokestatic 206, 3) := by decide +kernel
theorem dX2_takenOn_18 : decode cX2_takenOn 18 = .ok (.goto 4, 3) := by decide +kernel
theorem dX2_takenOn_21 : decode cX2_takenOn 21 = .ok (.iconst 1, 1) := by decide +kernel
theorem dX2_takenOn_22 : decode cX2_takenOn 22 = .ok (.ireturn, 1) := by decide +kernel
theorem dX2_coverOn_0 : decode cX2_coverOn 0 = .ok (.iconst 0, 1) := by decide +kernel
theorem dX2_coverOn_1 : decode cX2_coverOn 1 = .ok (.istore 4, 2) := by decide +kernel
theorem dX2_coverOn_3 : decode cX2_coverOn 3 = .ok (.iconst 0, 1) := by decide +kernel
theorem dX2_coverOn_4 : decode cX2_coverOn 4 = .ok (.istore 5, 2) := by decide +kernel
theorem dX2_coverOn_6 : decode cX2_coverOn 6 = .ok (.iload 5, 2) := by decide +kernel
theorem dX2_coverOn_8 : decode cX2_coverOn 8 = .ok (.bipush 8, 2) := by decide +kernel
theorem dX2_coverOn_10 : decode cX2_coverOn 10 = .ok (.if_icmp .ge 80, 3) := by decide +kernel
theorem dX2_coverOn_13 : decode cX2_coverOn 13 = .ok (.iload 5, 2) := by decide +kernel
theorem dX2_coverOn_15 : decode cX2_coverOn 15 = .ok (.iload_n 2, 1) := by decide +kernel
theorem dX2_coverOn_16 : decode cX2_coverOn 16 = .ok (.if_icmp .eq 19, 3) := by decide +kernel
theorem dX2_coverOn_19 : decode cX2_coverOn 19 = .ok (.aload_n 1, 1) := by decide +kernel
theorem dX2_coverOn_20 : decode cX2_coverOn 20 = .ok (.getfield 115, 3) := by decide +kernel
theorem dX2_coverOn_23 : decode cX2_coverOn 23 = .ok (.iconst 1, 1) := by decide +kernel
theorem dX2_coverOn_24 : decode cX2_coverOn 24 = .ok (.if_icmp .ne 15, 3) := by decide +kernel
theorem dX2_coverOn_27 : decode cX2_coverOn 27 = .ok (.aload_n 3, 1) := by decide +kernel
theorem dX2_coverOn_28 : decode cX2_coverOn 28 = .ok (.iload 5, 2) := by decide +kernel
theorem dX2_coverOn_30 : decode cX2_coverOn 30 = .ok (.iaload, 1) := by decide +kernel
theorem dX2_coverOn_31 : decode cX2_coverOn 31 = .ok (.iload_n 2, 1) := by decide +kernel
theorem dX2_coverOn_32 : decode cX2_coverOn 32 = .ok (.if_icmp .ne 7, 3) := by decide +kernel
theorem dX2_coverOn_35 : decode cX2_coverOn 35 = .ok (.iconst 1, 1) := by decide +kernel
theorem dX2_coverOn_36 : decode cX2_coverOn 36 = .ok (.goto 4, 3) := by decide +kernel
theorem dX2_coverOn_39 : decode cX2_coverOn 39 = .ok (.iconst 0, 1) := by decide +kernel
theorem dX2_coverOn_40 : decode cX2_coverOn 40 = .ok (.istore 6, 2) := by decide +kernel
theorem dX2_coverOn_42 : decode cX2_coverOn 42 = .ok (.aload_n 0, 1) := by decide +kernel
theorem dX2_coverOn_43 : decode cX2_coverOn 43 = .ok (.getfield 21, 3) := by decide +kernel
theorem dX2_coverOn_46 : decode cX2_coverOn 46 = .ok (.iload 5, 2) := by decide +kernel
theorem dX2_coverOn_48 : decode cX2_coverOn 48 = .ok (.aaload, 1) := by decide +kernel
theorem dX2_coverOn_49 : decode cX2_coverOn 49 = .ok (.aload_n 1, 1) := by decide +kernel
theorem dX2_coverOn_50 : decode cX2_coverOn 50 = .ok (.getfield 86, 3) := by decide +kernel
theorem dX2_coverOn_53 : decode cX2_coverOn 53 = .ok (.iaload, 1) := by decide +kernel
theorem dX2_coverOn_54 : decode cX2_coverOn 54 = .ok (.istore 7, 2) := by decide +kernel
theorem dX2_coverOn_56 : decode cX2_coverOn 56 = .ok (.iload 6, 2) := by decide +kernel
theorem dX2_coverOn_58 : decode cX2_coverOn 58 = .ok (.ifCond .eq 26, 3) := by decide +kernel
theorem dX2_coverOn_61 : decode cX2_coverOn 61 = .ok (.iload 7, 2) := by decide +kernel
theorem dX2_coverOn_63 : decode cX2_coverOn 63 = .ok (.ifCond .le 21, 3) := by decide +kernel
theorem dX2_coverOn_66 : decode cX2_coverOn 66 = .ok (.iload 7, 2) := by decide +kernel
theorem dX2_coverOn_68 : decode cX2_coverOn 68 = .ok (.aload_n 1, 1) := by decide +kernel
theorem dX2_coverOn_69 : decode cX2_coverOn 69 = .ok (.getfield 89, 3) := by decide +kernel
theorem dX2_coverOn_72 : decode cX2_coverOn 72 = .ok (.if_icmp .gt 12, 3) := by decide +kernel
theorem dX2_coverOn_75 : decode cX2_coverOn 75 = .ok (.iload 4, 2) := by decide +kernel
theorem dX2_coverOn_77 : decode cX2_coverOn 77 = .ok (.iconst 1, 1) := by decide +kernel
theorem dX2_coverOn_78 : decode cX2_coverOn 78 = .ok (.iload 5, 2) := by decide +kernel
theorem dX2_coverOn_80 : decode cX2_coverOn 80 = .ok (.ishl, 1) := by decide +kernel
theorem dX2_coverOn_81 : decode cX2_coverOn 81 = .ok (.ior, 1) := by decide +kernel
theorem dX2_coverOn_82 : decode cX2_coverOn 82 = .ok (.istore 4, 2) := by decide +kernel
theorem dX2_coverOn_84 : decode cX2_coverOn 84 = .ok (.iinc 5 1, 3) := by decide +kernel
theorem dX2_coverOn_87 : decode cX2_coverOn 87 = .ok (.goto (-81), 3) := by decide +kernel
theorem dX2_coverOn_90 : decode cX2_coverOn 90 = .ok (.iload 4, 2) := by decide +kernel
theorem dX2_coverOn_92 : decode cX2_coverOn 92 = .ok (.ireturn, 1) := by decide +kernel
set_option maxRecDepth 20000 in
theorem ggX2_leastUncovered_X2_layAllBut : GoodIn wsX2_leastUncovered wsX2_layAllBut := goodIn_r _ [6, 7, 8, 9, 10, 1, 11, 12, 13, 5, 14, 15, 16, 17, 18, 19, 20, 21, 22, 23, 24, 25, 26, 27, 28, 29, 30, 31, 32, 33, 34, 35, 36, 37, 38, 39, 40, 41, 42, 43, 44, 45, 46, 47, 48, 49, 50, 51, 52, 53, 54, 55, 56, 57, 58, 59, 60, 61, 62, 63, 64, 65, 66, 67, 68, 69, 70, 71, 72, 73, 74, 75, 76, 77, 78, 79, 80, 81, 82, 83, 84, 85, 86, 87, 88, 89, 90, 91, 92, 93, 94, 95, 96, 97, 98, 111, 112, 113, 114, 115, 116, 117, 118, 119, 120, 121, 122, 123, 124, 125, 126, 127, 128, 129, 130, 131, 132, 133, 134, 135] (by decide +kernel) (by decide +kernel)
set_option maxRecDepth 20000 in
theorem gX2_leastUncovered_X2_layAllBut : GoodIn wsX2_leastUncovered (wsV RX2 161 RX2 yX2_layAllBut wsX2_layAllBut) := goodIn_app (goodIn_of _ (by decide +kernel)) ggX2_leastUncovered_X2_layAllBut
set_option maxRecDepth 20000 in
theorem ggX2_leastUncovered_X0_leastUncoveredWithin : GoodIn wsX2_leastUncovered wsX0_leastUncoveredWithin := goodIn_r _ [102, 21, 22, 103, 104, 105, 19, 106, 107, 108, 109, 110, 38, 126, 127, 128, 129, 130, 131, 132] (by decide +kernel) (by decide +kernel)
set_option maxRecDepth 20000 in
theorem gX2_leastUncovered_X0_leastUncoveredWithin : GoodIn wsX2_leastUncovered (wsV RX2 152 RX0 yX0_leastUncoveredWithin wsX0_leastUncoveredWithin) := goodIn_app (goodIn_of _ (by decide +kernel)) ggX2_leastUncovered_X0_leastUncoveredWithin
theorem dX2_leastUncovered_0 : decode cX2_leastUncovered 0 = .ok (.aload_n 0, 1) := by decide +kernel
theorem dX2_leastUncovered_1 : decode cX2_leastUncovered 1 = .ok (.iconst (-1), 1) := by decide +kernel
theorem dX2_leastUncovered_2 : decode cX2_leastUncovered 2 = .ok (.iload_n 1, 1) := by decide +kernel
theorem dX2_leastUncovered_3 : decode cX2_leastUncovered 3 = .ok (.aload_n 2, 1) := by decide +kernel
theorem dX2_leastUncovered_4 : decode cX2_leastUncovered 4 = .ok (.invokevirtual 161, 3) := by decide +kernel
theorem dX2_leastUncovered_7 : decode cX2_leastUncovered 7 = .ok (.aload_n 0, 1) := by decide +kernel
theorem dX2_leastUncovered_8 : decode cX2_leastUncovered 8 = .ok (.getfield 40, 3) := by decide +kernel
theorem dX2_leastUncovered_11 : decode cX2_leastUncovered 11 = .ok (.iconst 0, 1) := by decide +kernel
theorem dX2_leastUncovered_12 : decode cX2_leastUncovered 12 = .ok (.invokevirtual 152, 3) := by decide +kernel
theorem dX2_leastUncovered_15 : decode cX2_leastUncovered 15 = .ok (.ireturn, 1) := by decide +kernel
set_option maxRecDepth 20000 in
theorem ggX2_layAllBut_X2_startLayings : GoodIn wsX2_layAllBut wsX2_startLayings := goodIn_r _ [10, 5, 11, 12, 13, 14, 15, 16, 17, 18, 19, 20, 21, 22, 23, 24, 25, 26, 9, 27, 28, 29, 30, 31, 32, 33, 34, 95, 96, 97, 98, 99, 100, 101, 102, 103, 110, 111, 112, 113, 114, 115, 116] (by decide +kernel) (by decide +kernel)
set_option maxRecDepth 20000 in
theorem gX2_layAllBut_X2_startLayings : GoodIn wsX2_layAllBut (wsV RX2 142 RX2 yX2_startLayings wsX2_startLayings) := goodIn_app (goodIn_of _ (by decide +kernel)) ggX2_layAllBut_X2_startLayings
set_option maxRecDepth 20000 in
theorem ggX2_layAllBut_Jx4a65c_size_8abf5 : GoodIn wsX2_layAllBut wsJx4a65c_size_8abf5 := goodIn_r _ [39, 40, 117, 118, 119] (by decide +kernel) (by decide +kernel)
set_option maxRecDepth 20000 in
theorem gX2_layAllBut_Jx4a65c_size_8abf5 : GoodIn wsX2_layAllBut (wsV RX2 76 RJx4a65c yJx4a65c_size_8abf5 wsJx4a65c_size_8abf5) := goodIn_app (goodIn_of _ (by decide +kernel)) ggX2_layAllBut_Jx4a65c_size_8abf5
set_option maxRecDepth 20000 in
theorem ggX2_layAllBut_Jx4a65c_get_915e3 : GoodIn wsX2_layAllBut wsJx4a65c_get_915e3 := goodIn_r _ [44, 40, 45, 46, 47, 48, 49, 50, 51, 52, 53, 54, 55, 38, 56, 57, 117, 118, 119] (by decide +kernel) (by decide +kernel)
set_option maxRecDepth 20000 in
theorem gX2_layAllBut_Jx4a65c_get_915e3 : GoodIn wsX2_layAllBut (wsV RX2 80 RJx4a65c yJx4a65c_get_915e3 wsJx4a65c_get_915e3) := goodIn_app (goodIn_of _ (by decide +kernel)) ggX2_layAllBut_Jx4a65c_get_915e3
set_option maxRecDepth 20000 in
theorem ggX2_layAllBut_X2_takeUp : GoodIn wsX2_layAllBut wsX2_takeUp := goodIn_r _ [61, 5, 62, 63, 64, 65, 66, 9, 67, 68, 28, 69, 70, 71, 72, 73, 74, 75, 76, 11, 3, 77, 95, 96, 97, 98, 99, 100, 101, 102, 103, 110, 111, 112, 113, 114, 115, 116, 104, 105, 106, 107, 108, 109] (by decide +kernel) (by decide +kernel)
set_option maxRecDepth 20000 in
theorem gX2_layAllBut_X2_takeUp : GoodIn wsX2_layAllBut (wsV RX2 145 RX2 yX2_takeUp wsX2_takeUp) := goodIn_app (goodIn_of _ (by decide +kernel)) ggX2_layAllBut_X2_takeUp
set_option maxRecDepth 20000 in
theorem ggX2_layAllBut_X0_layOpen : GoodIn wsX2_layAllBut wsX0_layOpen := goodIn_r _ [81, 82, 83, 84, 85, 86, 15, 87, 18, 88, 89, 71, 90, 110, 111, 112, 113, 114, 115, 116] (by decide +kernel) (by decide +kernel)
set_option maxRecDepth 20000 in
theorem gX2_layAllBut_X0_layOpen : GoodIn wsX2_layAllBut (wsV RX2 165 RX0 yX0_layOpen wsX0_layOpen) := goodIn_app (goodIn_of _ (by decide +kernel)) ggX2_layAllBut_X0_layOpen
set_option maxRecDepth 20000 in
theorem ggX2_layAllBut_X0_closeWithin : GoodIn wsX2_layAllBut wsX0_closeWithin := goodIn_r _ [94, 18, 19, 110, 111, 112, 113, 114, 115, 116] (by decide +kernel) (by decide +kernel)
set_option maxRecDepth 20000 in
theorem gX2_layAllBut_X0_closeWithin : GoodIn wsX2_layAllBut (wsV RX2 211 RX0 yX0_closeWithin wsX0_closeWithin) := goodIn_app (goodIn_of _ (by decide +kernel)) ggX2_layAllBut_X0_closeWithin
theorem dX2_layAllBut_0 : decode cX2_layAllBut 0 = .ok (.aload_n 0, 1) := by decide +kernel
theorem dX2_layAllBut_1 : decode cX2_layAllBut 1 = .ok (.iload_n 2, 1) := by decide +kernel
theorem dX2_layAllBut_2 : decode cX2_layAllBut 2 = .ok (.invokevirtual 142, 3) := by decide +kernel
theorem dX2_layAllBut_5 : decode cX2_layAllBut 5 = .ok (.iconst 0, 1) := by decide +kernel
theorem dX2_layAllBut_6 : decode cX2_layAllBut 6 = .ok (.istore 4, 2) := by decide +kernel
theorem dX2_layAllBut_8 : decode cX2_layAllBut 8 = .ok (.iload 4, 2) := by decide +kernel
theorem dX2_layAllBut_10 : decode cX2_layAllBut 10 = .ok (.aload_n 0, 1) := by decide +kernel
theorem dX2_layAllBut_11 : decode cX2_layAllBut 11 = .ok (.getfield 33, 3) := by decide +kernel
theorem dX2_layAllBut_14 : decode cX2_layAllBut 14 = .ok (.invokevirtual 76, 3) := by decide +kernel
theorem dX2_layAllBut_17 : decode cX2_layAllBut 17 = .ok (.if_icmp .ge 72, 3) := by decide +kernel
theorem dX2_layAllBut_20 : decode cX2_layAllBut 20 = .ok (.aload_n 0, 1) := by decide +kernel
theorem dX2_layAllBut_21 : decode cX2_layAllBut 21 = .ok (.getfield 33, 3) := by decide +kernel
theorem dX2_layAllBut_24 : decode cX2_layAllBut 24 = .ok (.iload 4, 2) := by decide +kernel
theorem dX2_layAllBut_26 : decode cX2_layAllBut 26 = .ok (.invokevirtual 80, 3) := by decide +kernel
theorem dX2_layAllBut_29 : decode cX2_layAllBut 29 = .ok (.checkcast 84, 3) := by decide +kernel
theorem dX2_layAllBut_32 : decode cX2_layAllBut 32 = .ok (.astore 5, 2) := by decide +kernel
theorem dX2_layAllBut_34 : decode cX2_layAllBut 34 = .ok (.iload 4, 2) := by decide +kernel
theorem dX2_layAllBut_36 : decode cX2_layAllBut 36 = .ok (.iload_n 1, 1) := by decide +kernel
theorem dX2_layAllBut_37 : decode cX2_layAllBut 37 = .ok (.if_icmp .eq 46, 3) := by decide +kernel
theorem dX2_layAllBut_40 : decode cX2_layAllBut 40 = .ok (.aload 5, 2) := by decide +kernel
theorem dX2_layAllBut_42 : decode cX2_layAllBut 42 = .ok (.getfield 86, 3) := by decide +kernel
theorem dX2_layAllBut_45 : decode cX2_layAllBut 45 = .ok (.iload_n 2, 1) := by decide +kernel
theorem dX2_layAllBut_46 : decode cX2_layAllBut 46 = .ok (.if_icmp .ne 37, 3) := by decide +kernel
theorem dX2_layAllBut_49 : decode cX2_layAllBut 49 = .ok (.aload 5, 2) := by decide +kernel
theorem dX2_layAllBut_51 : decode cX2_layAllBut 51 = .ok (.getfield 112, 3) := by decide +kernel
theorem dX2_layAllBut_54 : decode cX2_layAllBut 54 = .ok (.ifCond .le 29, 3) := by decide +kernel
theorem dX2_layAllBut_57 : decode cX2_layAllBut 57 = .ok (.aload_n 0, 1) := by decide +kernel
theorem dX2_layAllBut_58 : decode cX2_layAllBut 58 = .ok (.aload 5, 2) := by decide +kernel
theorem dX2_layAllBut_60 : decode cX2_layAllBut 60 = .ok (.aload_n 3, 1) := by decide +kernel
theorem dX2_layAllBut_61 : decode cX2_layAllBut 61 = .ok (.invokevirtual 145, 3) := by decide +kernel
theorem dX2_layAllBut_64 : decode cX2_layAllBut 64 = .ok (.aload_n 0, 1) := by decide +kernel
theorem dX2_layAllBut_65 : decode cX2_layAllBut 65 = .ok (.getfield 40, 3) := by decide +kernel
theorem dX2_layAllBut_68 : decode cX2_layAllBut 68 = .ok (.invokevirtual 165, 3) := by decide +kernel
theorem dX2_layAllBut_71 : decode cX2_layAllBut 71 = .ok (.aload_n 0, 1) := by decide +kernel
theorem dX2_layAllBut_72 : decode cX2_layAllBut 72 = .ok (.getfield 40, 3) := by decide +kernel
theorem dX2_layAllBut_75 : decode cX2_layAllBut 75 = .ok (.aload 5, 2) := by decide +kernel
theorem dX2_layAllBut_77 : decode cX2_layAllBut 77 = .ok (.getfield 112, 3) := by decide +kernel
theorem dX2_layAllBut_80 : decode cX2_layAllBut 80 = .ok (.invokevirtual 211, 3) := by decide +kernel
theorem dX2_layAllBut_83 : decode cX2_layAllBut 83 = .ok (.iinc 4 1, 3) := by decide +kernel
theorem dX2_layAllBut_86 : decode cX2_layAllBut 86 = .ok (.goto (-78), 3) := by decide +kernel
theorem dX2_layAllBut_89 : decode cX2_layAllBut 89 = .ok (.return_, 1) := by decide +kernel
set_option maxRecDepth 20000 in
theorem ggX2_startLayings_X0_clearAll : GoodIn wsX2_startLayings wsX0_clearAll := goodIn_r _ [7, 8, 9, 10, 11, 12, 13, 14, 36, 37, 38, 39, 40, 41, 42] (by decide +kernel) (by decide +kernel)
set_option maxRecDepth 20000 in
theorem gX2_startLayings_X0_clearAll : GoodIn wsX2_startLayings (wsV RX2 214 RX0 yX0_clearAll wsX0_clearAll) := goodIn_app (goodIn_of _ (by decide +kernel)) ggX2_startLayings_X0_clearAll
set_option maxRecDepth 20000 in
theorem ggX2_startLayings_X2_weightOn : GoodIn wsX2_startLayings wsX2_weightOn := goodIn_r _ [19, 2, 20, 21, 27, 28, 29, 30, 31, 32, 33, 34, 35] (by decide +kernel) (by decide +kernel)
set_option maxRecDepth 20000 in
theorem gX2_startLayings_X2_weightOn : GoodIn wsX2_startLayings (wsV RX2 123 RX2 yX2_weightOn wsX2_weightOn) := goodIn_app (goodIn_of _ (by decide +kernel)) ggX2_startLayings_X2_weightOn
set_option maxRecDepth 20000 in
theorem ggX2_startLayings_X0_weigh : GoodIn wsX2_startLayings wsX0_weigh := goodIn_r _ [25, 8, 26, 36, 37, 38, 39, 40, 41, 42] (by decide +kernel) (by decide +kernel)
set_option maxRecDepth 20000 in
theorem gX2_startLayings_X0_weigh : GoodIn wsX2_startLayings (wsV RX2 217 RX0 yX0_weigh wsX0_weigh) := goodIn_app (goodIn_of _ (by decide +kernel)) ggX2_startLayings_X0_weigh
theorem dX2_startLayings_0 : decode cX2_startLayings 0 = .ok (.aload_n 0, 1) := by decide +kernel
theorem dX2_startLayings_1 : decode cX2_startLayings 1 = .ok (.getfield 40, 3) := by decide +kernel
theorem dX2_startLayings_4 : decode cX2_startLayings 4 = .ok (.invokevirtual 214, 3) := by decide +kernel
theorem dX2_startLayings_7 : decode cX2_startLayings 7 = .ok (.iconst 0, 1) := by decide +kernel
theorem dX2_startLayings_8 : decode cX2_startLayings 8 = .ok (.istore_n 2, 1) := by decide +kernel
theorem dX2_startLayings_9 : decode cX2_startLayings 9 = .ok (.iload_n 2, 1) := by decide +kernel
theorem dX2_startLayings_10 : decode cX2_startLayings 10 = .ok (.bipush 8, 2) := by decide +kernel
theorem dX2_startLayings_12 : decode cX2_startLayings 12 = .ok (.if_icmp .ge 39, 3) := by decide +kernel
theorem dX2_startLayings_15 : decode cX2_startLayings 15 = .ok (.aload_n 0, 1) := by decide +kernel
theorem dX2_startLayings_16 : decode cX2_startLayings 16 = .ok (.getfield 40, 3) := by decide +kernel
theorem dX2_startLayings_19 : decode cX2_startLayings 19 = .ok (.iload_n 2, 1) := by decide +kernel
theorem dX2_startLayings_20 : decode cX2_startLayings 20 = .ok (.aload_n 0, 1) := by decide +kernel
theorem dX2_startLayings_21 : decode cX2_startLayings 21 = .ok (.getfield 21, 3) := by decide +kernel
theorem dX2_startLayings_24 : decode cX2_startLayings 24 = .ok (.iload_n 2, 1) := by decide +kernel
theorem dX2_startLayings_25 : decode cX2_startLayings 25 = .ok (.aaload, 1) := by decide +kernel
theorem dX2_startLayings_26 : decode cX2_startLayings 26 = .ok (.iload_n 1, 1) := by decide +kernel
theorem dX2_startLayings_27 : decode cX2_startLayings 27 = .ok (.iaload, 1) := by decide +kernel
theorem dX2_startLayings_28 : decode cX2_startLayings 28 = .ok (.ifCond .le 7, 3) := by decide +kernel
theorem dX2_startLayings_31 : decode cX2_startLayings 31 = .ok (.iconst 1, 1) := by decide +kernel
theorem dX2_startLayings_32 : decode cX2_startLayings 32 = .ok (.goto 4, 3) := by decide +kernel
theorem dX2_startLayings_35 : decode cX2_startLayings 35 = .ok (.iconst 0, 1) := by decide +kernel
theorem dX2_startLayings_36 : decode cX2_startLayings 36 = .ok (.aload_n 0, 1) := by decide +kernel
theorem dX2_startLayings_37 : decode cX2_startLayings 37 = .ok (.iload_n 2, 1) := by decide +kernel
theorem dX2_startLayings_38 : decode cX2_startLayings 38 = .ok (.iload_n 1, 1) := by decide +kernel
theorem dX2_startLayings_39 : decode cX2_startLayings 39 = .ok (.invokevirtual 123, 3) := by decide +kernel
theorem dX2_startLayings_42 : decode cX2_startLayings 42 = .ok (.invokevirtual 217, 3) := by decide +kernel
theorem dX2_startLayings_45 : decode cX2_startLayings 45 = .ok (.iinc 2 1, 3) := by decide +kernel
theorem dX2_startLayings_48 : decode cX2_startLayings 48 = .ok (.goto (-39), 3) := by decide +kernel
theorem dX2_startLayings_51 : decode cX2_startLayings 51 = .ok (.return_, 1) := by decide +kernel
set_option maxRecDepth 20000 in
theorem ggX2_takeUp_X2_takenOn : GoodIn wsX2_takeUp wsX2_takenOn := goodIn_r _ [8, 9, 10, 11, 12, 13, 14, 38, 39, 40, 41, 42, 43, 22, 23, 24, 25, 26, 27, 28, 29, 30] (by decide +kernel) (by decide +kernel)
set_option maxRecDepth 20000 in
theorem gX2_takeUp_X2_takenOn : GoodIn wsX2_takeUp (wsV RX2 224 RX2 yX2_takenOn wsX2_takenOn) := goodIn_app (goodIn_of _ (by decide +kernel)) ggX2_takeUp_X2_takenOn
set_option maxRecDepth 20000 in
theorem ggX2_takeUp_X2_coverOn : GoodIn wsX2_takeUp wsX2_coverOn := goodIn_r _ [18, 9, 19, 20, 21, 38, 39, 40, 41, 42, 43, 22, 23, 24, 25, 26, 27, 28, 29, 30] (by decide +kernel) (by decide +kernel)
set_option maxRecDepth 20000 in
theorem gX2_takeUp_X2_coverOn : GoodIn wsX2_takeUp (wsV RX2 127 RX2 yX2_coverOn wsX2_coverOn) := goodIn_app (goodIn_of _ (by decide +kernel)) ggX2_takeUp_X2_coverOn
theorem dX2_takeUp_0 : decode cX2_takeUp 0 = .ok (.iconst 0, 1) := by decide +kernel
theorem dX2_takeUp_1 : decode cX2_takeUp 1 = .ok (.istore_n 3, 1) := by decide +kernel
theorem dX2_takeUp_2 : decode cX2_takeUp 2 = .ok (.iload_n 3, 1) := by decide +kernel
theorem dX2_takeUp_3 : decode cX2_takeUp 3 = .ok (.bipush 8, 2) := by decide +kernel
theorem dX2_takeUp_5 : decode cX2_takeUp 5 = .ok (.if_icmp .ge 40, 3) := by decide +kernel
theorem dX2_takeUp_8 : decode cX2_takeUp 8 = .ok (.aload_n 0, 1) := by decide +kernel
theorem dX2_takeUp_9 : decode cX2_takeUp 9 = .ok (.getfield 40, 3) := by decide +kernel
theorem dX2_takeUp_12 : decode cX2_takeUp 12 = .ok (.getfield 221, 3) := by decide +kernel
theorem dX2_takeUp_15 : decode cX2_takeUp 15 = .ok (.iload_n 3, 1) := by decide +kernel
theorem dX2_takeUp_16 : decode cX2_takeUp 16 = .ok (.aload_n 0, 1) := by decide +kernel
theorem dX2_takeUp_17 : decode cX2_takeUp 17 = .ok (.aload_n 1, 1) := by decide +kernel
theorem dX2_takeUp_18 : decode cX2_takeUp 18 = .ok (.iload_n 3, 1) := by decide +kernel
theorem dX2_takeUp_19 : decode cX2_takeUp 19 = .ok (.invokevirtual 224, 3) := by decide +kernel
theorem dX2_takeUp_22 : decode cX2_takeUp 22 = .ok (.iastore, 1) := by decide +kernel
theorem dX2_takeUp_23 : decode cX2_takeUp 23 = .ok (.aload_n 0, 1) := by decide +kernel
theorem dX2_takeUp_24 : decode cX2_takeUp 24 = .ok (.getfield 40, 3) := by decide +kernel
theorem dX2_takeUp_27 : decode cX2_takeUp 27 = .ok (.getfield 228, 3) := by decide +kernel
theorem dX2_takeUp_30 : decode cX2_takeUp 30 = .ok (.iload_n 3, 1) := by decide +kernel
theorem dX2_takeUp_31 : decode cX2_takeUp 31 = .ok (.aload_n 0, 1) := by decide +kernel
theorem dX2_takeUp_32 : decode cX2_takeUp 32 = .ok (.aload_n 1, 1) := by decide +kernel
theorem dX2_takeUp_33 : decode cX2_takeUp 33 = .ok (.iload_n 3, 1) := by decide +kernel
theorem dX2_takeUp_34 : decode cX2_takeUp 34 = .ok (.aload_n 2, 1) := by decide +kernel
theorem dX2_takeUp_35 : decode cX2_takeUp 35 = .ok (.invokevirtual 127, 3) := by decide +kernel
theorem dX2_takeUp_38 : decode cX2_takeUp 38 = .ok (.iastore, 1) := by decide +kernel
theorem dX2_takeUp_39 : decode cX2_takeUp 39 = .ok (.iinc 3 1, 3) := by decide +kernel
theorem dX2_takeUp_42 : decode cX2_takeUp 42 = .ok (.goto (-40), 3) := by decide +kernel
theorem dX2_takeUp_45 : decode cX2_takeUp 45 = .ok (.return_, 1) := by decide +kernel
theorem dJ9_max_7cf53_0 : decode cJ9_max_7cf53 0 = .ok (.iload_n 0, 1) := by decide +kernel
theorem dJ9_max_7cf53_1 : decode cJ9_max_7cf53 1 = .ok (.iload_n 1, 1) := by decide +kernel
theorem dJ9_max_7cf53_2 : decode cJ9_max_7cf53 2 = .ok (.if_icmp .lt 7, 3) := by decide +kernel
theorem dJ9_max_7cf53_5 : decode cJ9_max_7cf53 5 = .ok (.iload_n 0, 1) := by decide +kernel
theorem dJ9_max_7cf53_6 : decode cJ9_max_7cf53 6 = .ok (.goto 4, 3) := by decide +kernel
theorem dJ9_max_7cf53_9 : decode cJ9_max_7cf53 9 = .ok (.iload_n 1, 1) := by decide +kernel
theorem dJ9_max_7cf53_10 : decode cJ9_max_7cf53 10 = .ok (.ireturn, 1) := by decide +kernel
theorem dJ9_min_7cf53_0 : decode cJ9_min_7cf53 0 = .ok (.iload_n 0, 1) := by decide +kernel
theorem dJ9_min_7cf53_1 : decode cJ9_min_7cf53 1 = .ok (.iload_n 1, 1) := by decide +kernel
theorem dJ9_min_7cf53_2 : decode cJ9_min_7cf53 2 = .ok (.if_icmp .gt 7, 3) := by decide +kernel
theorem dJ9_min_7cf53_5 : decode cJ9_min_7cf53 5 = .ok (.iload_n 0, 1) := by decide +kernel
theorem dJ9_min_7cf53_6 : decode cJ9_min_7cf53 6 = .ok (.goto 4, 3) := by decide +kernel
theorem dJ9_min_7cf53_9 : decode cJ9_min_7cf53 9 = .ok (.iload_n 1, 1) := by decide +kernel
theorem dJ9_min_7cf53_10 : decode cJ9_min_7cf53 10 = .ok (.ireturn, 1) := by decide +kernel
theorem dJxa1e45_init_da8c8_0 : decode cJxa1e45_init_da8c8 0 = .ok (.aload_n 0, 1) := by decide +kernel
theorem dJxa1e45_init_da8c8_1 : decode cJxa1e45_init_da8c8 1 = .ok (.invokespecial 1, 3) := by decide +kernel
theorem dJxa1e45_init_da8c8_4 : decode cJxa1e45_init_da8c8 4 = .ok (.return_, 1) := by decide +kernel
set_option maxRecDepth 20000 in
theorem ggJxc12de_init_da8c8_Jxa1e45_init_da8c8 : GoodIn wsJxc12de_init_da8c8 wsJxa1e45_init_da8c8 := goodIn_r _ [5, 6, 7, 8] (by decide +kernel) (by decide +kernel)
set_option maxRecDepth 20000 in
theorem gJxc12de_init_da8c8_Jxa1e45_init_da8c8 : GoodIn wsJxc12de_init_da8c8 (wsJxa1e45_init_da8c8) := ggJxc12de_init_da8c8_Jxa1e45_init_da8c8
theorem dJxc12de_init_da8c8_0 : decode cJxc12de_init_da8c8 0 = .ok (.aload_n 0, 1) := by decide +kernel
theorem dJxc12de_init_da8c8_1 : decode cJxc12de_init_da8c8 1 = .ok (.invokespecial 1, 3) := by decide +kernel
theorem dJxc12de_init_da8c8_4 : decode cJxc12de_init_da8c8 4 = .ok (.aload_n 0, 1) := by decide +kernel
theorem dJxc12de_init_da8c8_5 : decode cJxc12de_init_da8c8 5 = .ok (.iconst 0, 1) := by decide +kernel
theorem dJxc12de_init_da8c8_6 : decode cJxc12de_init_da8c8 6 = .ok (.putfield 7, 3) := by decide +kernel
theorem dJxc12de_init_da8c8_9 : decode cJxc12de_init_da8c8 9 = .ok (.return_, 1) := by decide +kernel
set_option maxRecDepth 20000 in
theorem ggJx4a65c_init_da8c8_Jxc12de_init_da8c8 : GoodIn wsJx4a65c_init_da8c8 wsJxc12de_init_da8c8 := goodIn_r _ [6, 7, 8, 9, 10, 11, 12, 13, 14, 15, 16, 17] (by decide +kernel) (by decide +kernel)
set_option maxRecDepth 20000 in
theorem gJx4a65c_init_da8c8_Jxc12de_init_da8c8 : GoodIn wsJx4a65c_init_da8c8 (wsJxc12de_init_da8c8) := ggJx4a65c_init_da8c8_Jxc12de_init_da8c8
theorem dJx4a65c_init_da8c8_0 : decode cJx4a65c_init_da8c8 0 = .ok (.aload_n 0, 1) := by decide +kernel
theorem dJx4a65c_init_da8c8_1 : decode cJx4a65c_init_da8c8 1 = .ok (.invokespecial 1, 3) := by decide +kernel
theorem dJx4a65c_init_da8c8_4 : decode cJx4a65c_init_da8c8 4 = .ok (.aload_n 0, 1) := by decide +kernel
theorem dJx4a65c_init_da8c8_5 : decode cJx4a65c_init_da8c8 5 = .ok (.getstatic 39, 3) := by decide +kernel
theorem dJx4a65c_init_da8c8_8 : decode cJx4a65c_init_da8c8 8 = .ok (.putfield 9, 3) := by decide +kernel
theorem dJx4a65c_init_da8c8_11 : decode cJx4a65c_init_da8c8 11 = .ok (.return_, 1) := by decide +kernel
set_option maxRecDepth 20000 in
theorem ggJx4a65c_grow_92f84_J8_newLength_cabcc : GoodIn wsJx4a65c_grow_92f84 wsJ8_newLength_cabcc := goodIn_r _ [11, 12, 4, 5, 6, 13, 14, 15, 10, 16] (by decide +kernel) (by decide +kernel)
set_option maxRecDepth 20000 in
theorem gJx4a65c_grow_92f84_J8_newLength_cabcc : GoodIn wsJx4a65c_grow_92f84 (va_wsS RJx4a65c 73 yJ8_newLength_cabcc wsJ8_newLength_cabcc) := goodIn_app (goodIn_of _ (by decide +kernel)) ggJx4a65c_grow_92f84_J8_newLength_cabcc
set_option maxRecDepth 20000 in
theorem ggJx4a65c_grow_92f84_J7_copyOf_1904c : GoodIn wsJx4a65c_grow_92f84 wsJ7_copyOf_1904c := goodIn_r _ [20, 21, 22, 23, 24, 25, 26, 19, 27, 28, 29, 30, 31, 5, 32, 33, 34, 35, 36] (by decide +kernel) (by decide +kernel)
set_option maxRecDepth 20000 in
theorem gJx4a65c_grow_92f84_J7_copyOf_1904c : GoodIn wsJx4a65c_grow_92f84 (va_wsS RJx4a65c 66 yJ7_copyOf_1904c wsJ7_copyOf_1904c) := goodIn_app (goodIn_of _ (by decide +kernel)) ggJx4a65c_grow_92f84_J7_copyOf_1904c
theorem dJx4a65c_grow_92f84_0 : decode cJx4a65c_grow_92f84 0 = .ok (.aload_n 0, 1) := by decide +kernel
theorem dJx4a65c_grow_92f84_1 : decode cJx4a65c_grow_92f84 1 = .ok (.getfield 9, 3) := by decide +kernel
theorem dJx4a65c_grow_92f84_4 : decode cJx4a65c_grow_92f84 4 = .ok (.arraylength, 1) := by decide +kernel
theorem dJx4a65c_grow_92f84_5 : decode cJx4a65c_grow_92f84 5 = .ok (.istore_n 2, 1) := by decide +kernel
theorem dJx4a65c_grow_92f84_6 : decode cJx4a65c_grow_92f84 6 = .ok (.iload_n 2, 1) := by decide +kernel
theorem dJx4a65c_grow_92f84_7 : decode cJx4a65c_grow_92f84 7 = .ok (.ifCond .gt 13, 3) := by decide +kernel
theorem dJx4a65c_grow_92f84_10 : decode cJx4a65c_grow_92f84 10 = .ok (.aload_n 0, 1) := by decide +kernel
theorem dJx4a65c_grow_92f84_11 : decode cJx4a65c_grow_92f84 11 = .ok (.getfield 9, 3) := by decide +kernel
theorem dJx4a65c_grow_92f84_14 : decode cJx4a65c_grow_92f84 14 = .ok (.getstatic 39, 3) := by decide +kernel
theorem dJx4a65c_grow_92f84_17 : decode cJx4a65c_grow_92f84 17 = .ok (.if_acmp .eq 28, 3) := by decide +kernel
theorem dJx4a65c_grow_92f84_20 : decode cJx4a65c_grow_92f84 20 = .ok (.iload_n 2, 1) := by decide +kernel
theorem dJx4a65c_grow_92f84_21 : decode cJx4a65c_grow_92f84 21 = .ok (.iload_n 1, 1) := by decide +kernel
theorem dJx4a65c_grow_92f84_22 : decode cJx4a65c_grow_92f84 22 = .ok (.iload_n 2, 1) := by decide +kernel
theorem dJx4a65c_grow_92f84_23 : decode cJx4a65c_grow_92f84 23 = .ok (.isub, 1) := by decide +kernel
theorem dJx4a65c_grow_92f84_24 : decode cJx4a65c_grow_92f84 24 = .ok (.iload_n 2, 1) := by decide +kernel
theorem dJx4a65c_grow_92f84_25 : decode cJx4a65c_grow_92f84 25 = .ok (.iconst 1, 1) := by decide +kernel
theorem dJx4a65c_grow_92f84_26 : decode cJx4a65c_grow_92f84 26 = .ok (.ishr, 1) := by decide +kernel
theorem dJx4a65c_grow_92f84_27 : decode cJx4a65c_grow_92f84 27 = .ok (.invokestatic 73, 3) := by decide +kernel
theorem dJx4a65c_grow_92f84_30 : decode cJx4a65c_grow_92f84 30 = .ok (.istore_n 3, 1) := by decide +kernel
theorem dJx4a65c_grow_92f84_31 : decode cJx4a65c_grow_92f84 31 = .ok (.aload_n 0, 1) := by decide +kernel
theorem dJx4a65c_grow_92f84_32 : decode cJx4a65c_grow_92f84 32 = .ok (.aload_n 0, 1) := by decide +kernel
theorem dJx4a65c_grow_92f84_33 : decode cJx4a65c_grow_92f84 33 = .ok (.getfield 9, 3) := by decide +kernel
theorem dJx4a65c_grow_92f84_36 : decode cJx4a65c_grow_92f84 36 = .ok (.iload_n 3, 1) := by decide +kernel
theorem dJx4a65c_grow_92f84_37 : decode cJx4a65c_grow_92f84 37 = .ok (.invokestatic 66, 3) := by decide +kernel
theorem dJx4a65c_grow_92f84_40 : decode cJx4a65c_grow_92f84 40 = .ok (.dup_x1, 1) := by decide +kernel
theorem dJx4a65c_grow_92f84_41 : decode cJx4a65c_grow_92f84 41 = .ok (.putfield 9, 3) := by decide +kernel
theorem dJx4a65c_grow_92f84_44 : decode cJx4a65c_grow_92f84 44 = .ok (.areturn, 1) := by decide +kernel
theorem dJx4a65c_grow_92f84_45 : decode cJx4a65c_grow_92f84 45 = .ok (.aload_n 0, 1) := by decide +kernel
theorem dJx4a65c_grow_92f84_46 : decode cJx4a65c_grow_92f84 46 = .ok (.bipush 10, 2) := by decide +kernel
theorem dJx4a65c_grow_92f84_48 : decode cJx4a65c_grow_92f84 48 = .ok (.iload_n 1, 1) := by decide +kernel
theorem dJx4a65c_grow_92f84_49 : decode cJx4a65c_grow_92f84 49 = .ok (.invokestatic 79, 3) := by decide +kernel
theorem dJx4a65c_grow_92f84_52 : decode cJx4a65c_grow_92f84 52 = .ok (.anewarray 7, 3) := by decide +kernel
theorem dJx4a65c_grow_92f84_55 : decode cJx4a65c_grow_92f84 55 = .ok (.dup_x1, 1) := by decide +kernel
theorem dJx4a65c_grow_92f84_56 : decode cJx4a65c_grow_92f84 56 = .ok (.putfield 9, 3) := by decide +kernel
theorem dJx4a65c_grow_92f84_59 : decode cJx4a65c_grow_92f84 59 = .ok (.areturn, 1) := by decide +kernel
set_option maxRecDepth 20000 in
theorem ggJx4a65c_grow_d5877_Jx4a65c_grow_92f84 : GoodIn wsJx4a65c_grow_d5877 wsJx4a65c_grow_92f84 := goodIn_r _ [6, 7, 8, 9, 10, 11, 12, 13, 14, 15, 16, 17, 18, 19, 20, 21, 22, 23, 24, 25, 26, 27, 28, 29, 30, 31, 32, 33, 34, 35, 36, 37, 38, 39, 40, 41, 42, 43, 44, 45] (by decide +kernel) (by decide +kernel)
set_option maxRecDepth 20000 in
theorem gJx4a65c_grow_d5877_Jx4a65c_grow_92f84 : GoodIn wsJx4a65c_grow_d5877 (wsV RJx4a65c 69 RJx4a65c yJx4a65c_grow_92f84 wsJx4a65c_grow_92f84) := goodIn_app (goodIn_of _ (by decide +kernel)) ggJx4a65c_grow_d5877_Jx4a65c_grow_92f84
theorem dJx4a65c_grow_d5877_0 : decode cJx4a65c_grow_d5877 0 = .ok (.aload_n 0, 1) := by decide +kernel
theorem dJx4a65c_grow_d5877_1 : decode cJx4a65c_grow_d5877 1 = .ok (.aload_n 0, 1) := by decide +kernel
theorem dJx4a65c_grow_d5877_2 : decode cJx4a65c_grow_d5877 2 = .ok (.getfield 48, 3) := by decide +kernel
theorem dJx4a65c_grow_d5877_5 : decode cJx4a65c_grow_d5877 5 = .ok (.iconst 1, 1) := by decide +kernel
theorem dJx4a65c_grow_d5877_6 : decode cJx4a65c_grow_d5877 6 = .ok (.iadd, 1) := by decide +kernel
theorem dJx4a65c_grow_d5877_7 : decode cJx4a65c_grow_d5877 7 = .ok (.invokevirtual 69, 3) := by decide +kernel
theorem dJx4a65c_grow_d5877_10 : decode cJx4a65c_grow_d5877 10 = .ok (.areturn, 1) := by decide +kernel
theorem dJx4a65c_size_8abf5_0 : decode cJx4a65c_size_8abf5 0 = .ok (.aload_n 0, 1) := by decide +kernel
theorem dJx4a65c_size_8abf5_1 : decode cJx4a65c_size_8abf5 1 = .ok (.getfield 48, 3) := by decide +kernel
theorem dJx4a65c_size_8abf5_4 : decode cJx4a65c_size_8abf5 4 = .ok (.ireturn, 1) := by decide +kernel
theorem dJx4a65c_elementData_915e3_0 : decode cJx4a65c_elementData_915e3 0 = .ok (.aload_n 0, 1) := by decide +kernel
theorem dJx4a65c_elementData_915e3_1 : decode cJx4a65c_elementData_915e3 1 = .ok (.getfield 9, 3) := by decide +kernel
theorem dJx4a65c_elementData_915e3_4 : decode cJx4a65c_elementData_915e3 4 = .ok (.iload_n 1, 1) := by decide +kernel
theorem dJx4a65c_elementData_915e3_5 : decode cJx4a65c_elementData_915e3 5 = .ok (.aaload, 1) := by decide +kernel
theorem dJx4a65c_elementData_915e3_6 : decode cJx4a65c_elementData_915e3 6 = .ok (.areturn, 1) := by decide +kernel
set_option maxRecDepth 20000 in
theorem ggJx4a65c_get_915e3_J15_checkIndex_7cf53 : GoodIn wsJx4a65c_get_915e3 wsJ15_checkIndex_7cf53 := goodIn_r _ [5, 6, 7, 8, 9] (by decide +kernel) (by decide +kernel)
set_option maxRecDepth 20000 in
theorem gJx4a65c_get_915e3_J15_checkIndex_7cf53 : GoodIn wsJx4a65c_get_915e3 (va_wsS RJx4a65c 118 yJ15_checkIndex_7cf53 wsJ15_checkIndex_7cf53) := goodIn_app (goodIn_of _ (by decide +kernel)) ggJx4a65c_get_915e3_J15_checkIndex_7cf53
set_option maxRecDepth 20000 in
theorem ggJx4a65c_get_915e3_Jx4a65c_elementData_915e3 : GoodIn wsJx4a65c_get_915e3 wsJx4a65c_elementData_915e3 := goodIn_r _ [14, 15, 16, 17, 18] (by decide +kernel) (by decide +kernel)
set_option maxRecDepth 20000 in
theorem gJx4a65c_get_915e3_Jx4a65c_elementData_915e3 : GoodIn wsJx4a65c_get_915e3 (wsV RJx4a65c 123 RJx4a65c yJx4a65c_elementData_915e3 wsJx4a65c_elementData_915e3) := goodIn_app (goodIn_of _ (by decide +kernel)) ggJx4a65c_get_915e3_Jx4a65c_elementData_915e3
theorem dJx4a65c_get_915e3_0 : decode cJx4a65c_get_915e3 0 = .ok (.iload_n 1, 1) := by decide +kernel
theorem dJx4a65c_get_915e3_1 : decode cJx4a65c_get_915e3 1 = .ok (.aload_n 0, 1) := by decide +kernel
theorem dJx4a65c_get_915e3_2 : decode cJx4a65c_get_915e3 2 = .ok (.getfield 48, 3) := by decide +kernel
theorem dJx4a65c_get_915e3_5 : decode cJx4a65c_get_915e3 5 = .ok (.invokestatic 118, 3) := by decide +kernel
theorem dJx4a65c_get_915e3_8 : decode cJx4a65c_get_915e3 8 = .ok (.pop, 1) := by decide +kernel
theorem dJx4a65c_get_915e3_9 : decode cJx4a65c_get_915e3 9 = .ok (.aload_n 0, 1) := by decide +kernel
theorem dJx4a65c_get_915e3_10 : decode cJx4a65c_get_915e3 10 = .ok (.iload_n 1, 1) := by decide +kernel
theorem dJx4a65c_get_915e3_11 : decode cJx4a65c_get_915e3 11 = .ok (.invokevirtual 123, 3) := by decide +kernel
theorem dJx4a65c_get_915e3_14 : decode cJx4a65c_get_915e3 14 = .ok (.areturn, 1) := by decide +kernel
set_option maxRecDepth 20000 in
theorem ggJx4a65c_add_72be8_Jx4a65c_grow_d5877 : GoodIn wsJx4a65c_add_72be8 wsJx4a65c_grow_d5877 := goodIn_r _ [6, 1, 7, 8, 9, 5, 10, 11, 12, 13, 14, 15, 16, 17, 18, 19, 20, 21, 22, 23, 24, 25, 26, 27, 28, 29, 30, 31, 32, 33, 34, 35, 36, 37, 38, 39, 40, 41, 42, 43, 44, 45, 46, 47, 48, 49] (by decide +kernel) (by decide +kernel)
set_option maxRecDepth 20000 in
theorem gJx4a65c_add_72be8_Jx4a65c_grow_d5877 : GoodIn wsJx4a65c_add_72be8 (wsV RJx4a65c 129 RJx4a65c yJx4a65c_grow_d5877 wsJx4a65c_grow_d5877) := goodIn_app (goodIn_of _ (by decide +kernel)) ggJx4a65c_add_72be8_Jx4a65c_grow_d5877
theorem dJx4a65c_add_72be8_0 : decode cJx4a65c_add_72be8 0 = .ok (.iload_n 3, 1) := by decide +kernel
theorem dJx4a65c_add_72be8_1 : decode cJx4a65c_add_72be8 1 = .ok (.aload_n 2, 1) := by decide +kernel
theorem dJx4a65c_add_72be8_2 : decode cJx4a65c_add_72be8 2 = .ok (.arraylength, 1) := by decide +kernel
theorem dJx4a65c_add_72be8_3 : decode cJx4a65c_add_72be8 3 = .ok (.if_icmp .ne 8, 3) := by decide +kernel
theorem dJx4a65c_add_72be8_6 : decode cJx4a65c_add_72be8 6 = .ok (.aload_n 0, 1) := by decide +kernel
theorem dJx4a65c_add_72be8_7 : decode cJx4a65c_add_72be8 7 = .ok (.invokevirtual 129, 3) := by decide +kernel
theorem dJx4a65c_add_72be8_10 : decode cJx4a65c_add_72be8 10 = .ok (.astore_n 2, 1) := by decide +kernel
theorem dJx4a65c_add_72be8_11 : decode cJx4a65c_add_72be8 11 = .ok (.aload_n 2, 1) := by decide +kernel
theorem dJx4a65c_add_72be8_12 : decode cJx4a65c_add_72be8 12 = .ok (.iload_n 3, 1) := by decide +kernel
theorem dJx4a65c_add_72be8_13 : decode cJx4a65c_add_72be8 13 = .ok (.aload_n 1, 1) := by decide +kernel
theorem dJx4a65c_add_72be8_14 : decode cJx4a65c_add_72be8 14 = .ok (.aastore, 1) := by decide +kernel
theorem dJx4a65c_add_72be8_15 : decode cJx4a65c_add_72be8 15 = .ok (.aload_n 0, 1) := by decide +kernel
theorem dJx4a65c_add_72be8_16 : decode cJx4a65c_add_72be8 16 = .ok (.iload_n 3, 1) := by decide +kernel
theorem dJx4a65c_add_72be8_17 : decode cJx4a65c_add_72be8 17 = .ok (.iconst 1, 1) := by decide +kernel
theorem dJx4a65c_add_72be8_18 : decode cJx4a65c_add_72be8 18 = .ok (.iadd, 1) := by decide +kernel
theorem dJx4a65c_add_72be8_19 : decode cJx4a65c_add_72be8 19 = .ok (.putfield 48, 3) := by decide +kernel
theorem dJx4a65c_add_72be8_22 : decode cJx4a65c_add_72be8 22 = .ok (.return_, 1) := by decide +kernel
set_option maxRecDepth 20000 in
theorem ggJx4a65c_add_9ea2d_Jx4a65c_add_72be8 : GoodIn wsJx4a65c_add_9ea2d wsJx4a65c_add_72be8 := goodIn_r _ [9, 4, 10, 11, 12, 8, 13, 14, 15, 16, 17, 3, 18, 19, 20, 21, 22, 23, 24, 25, 26, 27, 28, 29, 30, 31, 32, 33, 34, 35, 36, 37, 38, 39, 40, 41, 42, 43, 44, 45, 46, 47, 48, 49, 50, 51, 52, 53, 54, 55] (by decide +kernel) (by decide +kernel)
set_option maxRecDepth 20000 in
theorem gJx4a65c_add_9ea2d_Jx4a65c_add_72be8 : GoodIn wsJx4a65c_add_9ea2d (wsV RJx4a65c 131 RJx4a65c yJx4a65c_add_72be8 wsJx4a65c_add_72be8) := goodIn_app (goodIn_of _ (by decide +kernel)) ggJx4a65c_add_9ea2d_Jx4a65c_add_72be8
theorem dJx4a65c_add_9ea2d_0 : decode cJx4a65c_add_9ea2d 0 = .ok (.aload_n 0, 1) := by decide +kernel
theorem dJx4a65c_add_9ea2d_1 : decode cJx4a65c_add_9ea2d 1 = .ok (.dup, 1) := by decide +kernel
theorem dJx4a65c_add_9ea2d_2 : decode cJx4a65c_add_9ea2d 2 = .ok (.getfield 63, 3) := by decide +kernel
theorem dJx4a65c_add_9ea2d_5 : decode cJx4a65c_add_9ea2d 5 = .ok (.iconst 1, 1) := by decide +kernel
theorem dJx4a65c_add_9ea2d_6 : decode cJx4a65c_add_9ea2d 6 = .ok (.iadd, 1) := by decide +kernel
theorem dJx4a65c_add_9ea2d_7 : decode cJx4a65c_add_9ea2d 7 = .ok (.putfield 63, 3) := by decide +kernel
theorem dJx4a65c_add_9ea2d_10 : decode cJx4a65c_add_9ea2d 10 = .ok (.aload_n 0, 1) := by decide +kernel
theorem dJx4a65c_add_9ea2d_11 : decode cJx4a65c_add_9ea2d 11 = .ok (.aload_n 1, 1) := by decide +kernel
theorem dJx4a65c_add_9ea2d_12 : decode cJx4a65c_add_9ea2d 12 = .ok (.aload_n 0, 1) := by decide +kernel
theorem dJx4a65c_add_9ea2d_13 : decode cJx4a65c_add_9ea2d 13 = .ok (.getfield 9, 3) := by decide +kernel
theorem dJx4a65c_add_9ea2d_16 : decode cJx4a65c_add_9ea2d 16 = .ok (.aload_n 0, 1) := by decide +kernel
theorem dJx4a65c_add_9ea2d_17 : decode cJx4a65c_add_9ea2d 17 = .ok (.getfield 48, 3) := by decide +kernel
theorem dJx4a65c_add_9ea2d_20 : decode cJx4a65c_add_9ea2d 20 = .ok (.invokevirtual 131, 3) := by decide +kernel
theorem dJx4a65c_add_9ea2d_23 : decode cJx4a65c_add_9ea2d 23 = .ok (.iconst 1, 1) := by decide +kernel
theorem dJx4a65c_add_9ea2d_24 : decode cJx4a65c_add_9ea2d 24 = .ok (.ireturn, 1) := by decide +kernel
theorem dJ7_fill_53178_0 : decode cJ7_fill_53178 0 = .ok (.iconst 0, 1) := by decide +kernel
theorem dJ7_fill_53178_1 : decode cJ7_fill_53178 1 = .ok (.istore_n 2, 1) := by decide +kernel
theorem dJ7_fill_53178_2 : decode cJ7_fill_53178 2 = .ok (.aload_n 0, 1) := by decide +kernel
theorem dJ7_fill_53178_3 : decode cJ7_fill_53178 3 = .ok (.arraylength, 1) := by decide +kernel
theorem dJ7_fill_53178_4 : decode cJ7_fill_53178 4 = .ok (.istore_n 3, 1) := by decide +kernel
theorem dJ7_fill_53178_5 : decode cJ7_fill_53178 5 = .ok (.iload_n 2, 1) := by decide +kernel
theorem dJ7_fill_53178_6 : decode cJ7_fill_53178 6 = .ok (.iload_n 3, 1) := by decide +kernel
theorem dJ7_fill_53178_7 : decode cJ7_fill_53178 7 = .ok (.if_icmp .ge 13, 3) := by decide +kernel
theorem dJ7_fill_53178_10 : decode cJ7_fill_53178 10 = .ok (.aload_n 0, 1) := by decide +kernel
theorem dJ7_fill_53178_11 : decode cJ7_fill_53178 11 = .ok (.iload_n 2, 1) := by decide +kernel
theorem dJ7_fill_53178_12 : decode cJ7_fill_53178 12 = .ok (.iload_n 1, 1) := by decide +kernel
theorem dJ7_fill_53178_13 : decode cJ7_fill_53178 13 = .ok (.iastore, 1) := by decide +kernel
theorem dJ7_fill_53178_14 : decode cJ7_fill_53178 14 = .ok (.iinc 2 1, 3) := by decide +kernel
theorem dJ7_fill_53178_17 : decode cJ7_fill_53178 17 = .ok (.goto (-12), 3) := by decide +kernel
theorem dJ7_fill_53178_20 : decode cJ7_fill_53178 20 = .ok (.return_, 1) := by decide +kernel
set_option maxRecDepth 20000 in
theorem ggJ7_copyOf_1904c_J7_copyOf_6403c : GoodIn wsJ7_copyOf_1904c wsJ7_copyOf_6403c := goodIn_r _ [8, 9, 10, 11, 12, 13, 14, 15, 16, 17, 18] (by decide +kernel) (by decide +kernel)
set_option maxRecDepth 20000 in
theorem gJ7_copyOf_1904c_J7_copyOf_6403c : GoodIn wsJ7_copyOf_1904c (va_wsS RJ7 300 yJ7_copyOf_6403c wsJ7_copyOf_6403c) := goodIn_app (goodIn_of _ (by decide +kernel)) ggJ7_copyOf_1904c_J7_copyOf_6403c
theorem dJ7_copyOf_1904c_0 : decode cJ7_copyOf_1904c 0 = .ok (.aload_n 0, 1) := by decide +kernel
theorem dJ7_copyOf_1904c_1 : decode cJ7_copyOf_1904c 1 = .ok (.iload_n 1, 1) := by decide +kernel
theorem dJ7_copyOf_1904c_2 : decode cJ7_copyOf_1904c 2 = .ok (.aload_n 0, 1) := by decide +kernel
theorem dJ7_copyOf_1904c_3 : decode cJ7_copyOf_1904c 3 = .ok (.invokevirtual 86, 3) := by decide +kernel
theorem dJ7_copyOf_1904c_6 : decode cJ7_copyOf_1904c 6 = .ok (.invokestatic 300, 3) := by decide +kernel
theorem dJ7_copyOf_1904c_9 : decode cJ7_copyOf_1904c 9 = .ok (.areturn, 1) := by decide +kernel
theorem dJ7_copyOf_6403c_0 : decode cJ7_copyOf_6403c 0 = .ok (.aload_n 2, 1) := by decide +kernel
theorem dJ7_copyOf_6403c_1 : decode cJ7_copyOf_6403c 1 = .ok (.ldc 110, 2) := by decide +kernel
theorem dJ7_copyOf_6403c_3 : decode cJ7_copyOf_6403c 3 = .ok (.if_acmp .ne 10, 3) := by decide +kernel
theorem dJ7_copyOf_6403c_6 : decode cJ7_copyOf_6403c 6 = .ok (.iload_n 1, 1) := by decide +kernel
theorem dJ7_copyOf_6403c_7 : decode cJ7_copyOf_6403c 7 = .ok (.anewarray 2, 3) := by decide +kernel
theorem dJ7_copyOf_6403c_10 : decode cJ7_copyOf_6403c 10 = .ok (.goto 14, 3) := by decide +kernel
theorem dJ7_copyOf_6403c_13 : decode cJ7_copyOf_6403c 13 = .ok (.aload_n 2, 1) := by decide +kernel
theorem dJ7_copyOf_6403c_14 : decode cJ7_copyOf_6403c 14 = .ok (.invokevirtual 90, 3) := by decide +kernel
theorem dJ7_copyOf_6403c_17 : decode cJ7_copyOf_6403c 17 = .ok (.iload_n 1, 1) := by decide +kernel
theorem dJ7_copyOf_6403c_18 : decode cJ7_copyOf_6403c 18 = .ok (.invokestatic 95, 3) := by decide +kernel
theorem dJ7_copyOf_6403c_21 : decode cJ7_copyOf_6403c 21 = .ok (.checkcast 110, 3) := by decide +kernel
theorem dJ7_copyOf_6403c_24 : decode cJ7_copyOf_6403c 24 = .ok (.astore_n 3, 1) := by decide +kernel
theorem dJ7_copyOf_6403c_25 : decode cJ7_copyOf_6403c 25 = .ok (.aload_n 0, 1) := by decide +kernel
theorem dJ7_copyOf_6403c_26 : decode cJ7_copyOf_6403c 26 = .ok (.iconst 0, 1) := by decide +kernel
theorem dJ7_copyOf_6403c_27 : decode cJ7_copyOf_6403c 27 = .ok (.aload_n 3, 1) := by decide +kernel
theorem dJ7_copyOf_6403c_28 : decode cJ7_copyOf_6403c 28 = .ok (.iconst 0, 1) := by decide +kernel
theorem dJ7_copyOf_6403c_29 : decode cJ7_copyOf_6403c 29 = .ok (.aload_n 0, 1) := by decide +kernel
theorem dJ7_copyOf_6403c_30 : decode cJ7_copyOf_6403c 30 = .ok (.arraylength, 1) := by decide +kernel
theorem dJ7_copyOf_6403c_31 : decode cJ7_copyOf_6403c 31 = .ok (.iload_n 1, 1) := by decide +kernel
theorem dJ7_copyOf_6403c_32 : decode cJ7_copyOf_6403c 32 = .ok (.invokestatic 304, 3) := by decide +kernel
theorem dJ7_copyOf_6403c_35 : decode cJ7_copyOf_6403c 35 = .ok (.invokestatic 150, 3) := by decide +kernel
theorem dJ7_copyOf_6403c_38 : decode cJ7_copyOf_6403c 38 = .ok (.aload_n 3, 1) := by decide +kernel
theorem dJ7_copyOf_6403c_39 : decode cJ7_copyOf_6403c 39 = .ok (.areturn, 1) := by decide +kernel
set_option maxRecDepth 20000 in
theorem ggJ15_checkIndex_7cf53_J3_checkIndex_8e157 : GoodIn wsJ15_checkIndex_7cf53 wsJ3_checkIndex_8e157 := goodIn_r _ [4] (by decide +kernel) (by decide +kernel)
set_option maxRecDepth 20000 in
theorem gJ15_checkIndex_7cf53_J3_checkIndex_8e157 : GoodIn wsJ15_checkIndex_7cf53 (va_wsS RJ15 105 yJ3_checkIndex_8e157 wsJ3_checkIndex_8e157) := goodIn_app (goodIn_of _ (by decide +kernel)) ggJ15_checkIndex_7cf53_J3_checkIndex_8e157
theorem dJ15_checkIndex_7cf53_0 : decode cJ15_checkIndex_7cf53 0 = .ok (.iload_n 0, 1) := by decide +kernel
theorem dJ15_checkIndex_7cf53_1 : decode cJ15_checkIndex_7cf53 1 = .ok (.iload_n 1, 1) := by decide +kernel
theorem dJ15_checkIndex_7cf53_2 : decode cJ15_checkIndex_7cf53 2 = .ok (.aconst_null, 1) := by decide +kernel
theorem dJ15_checkIndex_7cf53_3 : decode cJ15_checkIndex_7cf53 3 = .ok (.invokestatic 105, 3) := by decide +kernel
theorem dJ15_checkIndex_7cf53_6 : decode cJ15_checkIndex_7cf53 6 = .ok (.ireturn, 1) := by decide +kernel
set_option maxRecDepth 20000 in
theorem ggJ8_newLength_cabcc_J8_hugeLength_7cf53 : GoodIn wsJ8_newLength_cabcc wsJ8_hugeLength_7cf53 := goodIn_r _ [9, 5] (by decide +kernel) (by decide +kernel)
set_option maxRecDepth 20000 in
theorem gJ8_newLength_cabcc_J8_hugeLength_7cf53 : GoodIn wsJ8_newLength_cabcc (va_wsS RJ8 201 yJ8_hugeLength_7cf53 wsJ8_hugeLength_7cf53) := goodIn_app (goodIn_of _ (by decide +kernel)) ggJ8_newLength_cabcc_J8_hugeLength_7cf53
theorem dJ8_newLength_cabcc_0 : decode cJ8_newLength_cabcc 0 = .ok (.iload_n 0, 1) := by decide +kernel
theorem dJ8_newLength_cabcc_1 : decode cJ8_newLength_cabcc 1 = .ok (.iload_n 1, 1) := by decide +kernel
theorem dJ8_newLength_cabcc_2 : decode cJ8_newLength_cabcc 2 = .ok (.iload_n 2, 1) := by decide +kernel
theorem dJ8_newLength_cabcc_3 : decode cJ8_newLength_cabcc 3 = .ok (.invokestatic 194, 3) := by decide +kernel
theorem dJ8_newLength_cabcc_6 : decode cJ8_newLength_cabcc 6 = .ok (.iadd, 1) := by decide +kernel
theorem dJ8_newLength_cabcc_7 : decode cJ8_newLength_cabcc 7 = .ok (.istore_n 3, 1) := by decide +kernel
theorem dJ8_newLength_cabcc_8 : decode cJ8_newLength_cabcc 8 = .ok (.iconst 0, 1) := by decide +kernel
theorem dJ8_newLength_cabcc_9 : decode cJ8_newLength_cabcc 9 = .ok (.iload_n 3, 1) := by decide +kernel
theorem dJ8_newLength_cabcc_10 : decode cJ8_newLength_cabcc 10 = .ok (.if_icmp .ge 11, 3) := by decide +kernel
theorem dJ8_newLength_cabcc_13 : decode cJ8_newLength_cabcc 13 = .ok (.iload_n 3, 1) := by decide +kernel
theorem dJ8_newLength_cabcc_14 : decode cJ8_newLength_cabcc 14 = .ok (.ldc 200, 2) := by decide +kernel
theorem dJ8_newLength_cabcc_16 : decode cJ8_newLength_cabcc 16 = .ok (.if_icmp .gt 5, 3) := by decide +kernel
theorem dJ8_newLength_cabcc_19 : decode cJ8_newLength_cabcc 19 = .ok (.iload_n 3, 1) := by decide +kernel
theorem dJ8_newLength_cabcc_20 : decode cJ8_newLength_cabcc 20 = .ok (.ireturn, 1) := by decide +kernel
theorem dJ8_newLength_cabcc_21 : decode cJ8_newLength_cabcc 21 = .ok (.iload_n 0, 1) := by decide +kernel
theorem dJ8_newLength_cabcc_22 : decode cJ8_newLength_cabcc 22 = .ok (.iload_n 1, 1) := by decide +kernel
theorem dJ8_newLength_cabcc_23 : decode cJ8_newLength_cabcc 23 = .ok (.invokestatic 201, 3) := by decide +kernel
theorem dJ8_newLength_cabcc_26 : decode cJ8_newLength_cabcc 26 = .ok (.ireturn, 1) := by decide +kernel
theorem dJ8_hugeLength_7cf53_0 : decode cJ8_hugeLength_7cf53 0 = .ok (.iload_n 0, 1) := by decide +kernel
theorem dJ8_hugeLength_7cf53_1 : decode cJ8_hugeLength_7cf53 1 = .ok (.iload_n 1, 1) := by decide +kernel
theorem dJ8_hugeLength_7cf53_2 : decode cJ8_hugeLength_7cf53 2 = .ok (.iadd, 1) := by decide +kernel
theorem dJ8_hugeLength_7cf53_3 : decode cJ8_hugeLength_7cf53 3 = .ok (.istore_n 2, 1) := by decide +kernel
theorem dJ8_hugeLength_7cf53_4 : decode cJ8_hugeLength_7cf53 4 = .ok (.iload_n 2, 1) := by decide +kernel
theorem dJ8_hugeLength_7cf53_5 : decode cJ8_hugeLength_7cf53 5 = .ok (.ifCond .ge 44, 3) := by decide +kernel
theorem dJ8_hugeLength_7cf53_8 : decode cJ8_hugeLength_7cf53 8 = .ok (.new 204, 3) := by decide +kernel
theorem dJ8_hugeLength_7cf53_11 : decode cJ8_hugeLength_7cf53 11 = .ok (.dup, 1) := by decide +kernel
theorem dJ8_hugeLength_7cf53_12 : decode cJ8_hugeLength_7cf53 12 = .ok (.new 89, 3) := by decide +kernel
theorem dJ8_hugeLength_7cf53_15 : decode cJ8_hugeLength_7cf53 15 = .ok (.dup, 1) := by decide +kernel
theorem dJ8_hugeLength_7cf53_16 : decode cJ8_hugeLength_7cf53 16 = .ok (.invokespecial 91, 3) := by decide +kernel
theorem dJ8_hugeLength_7cf53_19 : decode cJ8_hugeLength_7cf53 19 = .ok (.ldc 206, 2) := by decide +kernel
theorem dJ8_hugeLength_7cf53_21 : decode cJ8_hugeLength_7cf53 21 = .ok (.invokevirtual 94, 3) := by decide +kernel
theorem dJ8_hugeLength_7cf53_24 : decode cJ8_hugeLength_7cf53 24 = .ok (.iload_n 0, 1) := by decide +kernel
theorem dJ8_hugeLength_7cf53_25 : decode cJ8_hugeLength_7cf53 25 = .ok (.invokevirtual 98, 3) := by decide +kernel
theorem dJ8_hugeLength_7cf53_28 : decode cJ8_hugeLength_7cf53 28 = .ok (.ldc 208, 2) := by decide +kernel
theorem dJ8_hugeLength_7cf53_30 : decode cJ8_hugeLength_7cf53 30 = .ok (.invokevirtual 94, 3) := by decide +kernel
theorem dJ8_hugeLength_7cf53_33 : decode cJ8_hugeLength_7cf53 33 = .ok (.iload_n 1, 1) := by decide +kernel
theorem dJ8_hugeLength_7cf53_34 : decode cJ8_hugeLength_7cf53 34 = .ok (.invokevirtual 98, 3) := by decide +kernel
theorem dJ8_hugeLength_7cf53_37 : decode cJ8_hugeLength_7cf53 37 = .ok (.ldc 210, 2) := by decide +kernel
theorem dJ8_hugeLength_7cf53_39 : decode cJ8_hugeLength_7cf53 39 = .ok (.invokevirtual 94, 3) := by decide +kernel
theorem dJ8_hugeLength_7cf53_42 : decode cJ8_hugeLength_7cf53 42 = .ok (.invokevirtual 101, 3) := by decide +kernel
theorem dJ8_hugeLength_7cf53_45 : decode cJ8_hugeLength_7cf53 45 = .ok (.invokespecial 212, 3) := by decide +kernel
theorem dJ8_hugeLength_7cf53_48 : decode cJ8_hugeLength_7cf53 48 = .ok (.athrow, 1) := by decide +kernel
theorem dJ8_hugeLength_7cf53_49 : decode cJ8_hugeLength_7cf53 49 = .ok (.iload_n 2, 1) := by decide +kernel
theorem dJ8_hugeLength_7cf53_50 : decode cJ8_hugeLength_7cf53 50 = .ok (.ldc 200, 2) := by decide +kernel
theorem dJ8_hugeLength_7cf53_52 : decode cJ8_hugeLength_7cf53 52 = .ok (.if_icmp .gt 6, 3) := by decide +kernel
theorem dJ8_hugeLength_7cf53_55 : decode cJ8_hugeLength_7cf53 55 = .ok (.ldc 200, 2) := by decide +kernel
theorem dJ8_hugeLength_7cf53_57 : decode cJ8_hugeLength_7cf53 57 = .ok (.ireturn, 1) := by decide +kernel
theorem dJ8_hugeLength_7cf53_58 : decode cJ8_hugeLength_7cf53 58 = .ok (.iload_n 2, 1) := by decide +kernel
theorem dJ8_hugeLength_7cf53_59 : decode cJ8_hugeLength_7cf53 59 = .ok (.ireturn, 1) := by decide +kernel
theorem dJ3_checkIndex_8e157_0 : decode cJ3_checkIndex_8e157 0 = .ok (.iload_n 0, 1) := by decide +kernel
theorem dJ3_checkIndex_8e157_1 : decode cJ3_checkIndex_8e157 1 = .ok (.ifCond .lt 8, 3) := by decide +kernel
theorem dJ3_checkIndex_8e157_4 : decode cJ3_checkIndex_8e157 4 = .ok (.iload_n 0, 1) := by decide +kernel
theorem dJ3_checkIndex_8e157_5 : decode cJ3_checkIndex_8e157 5 = .ok (.iload_n 1, 1) := by decide +kernel
theorem dJ3_checkIndex_8e157_6 : decode cJ3_checkIndex_8e157 6 = .ok (.if_icmp .lt 10, 3) := by decide +kernel
theorem dJ3_checkIndex_8e157_9 : decode cJ3_checkIndex_8e157 9 = .ok (.aload_n 2, 1) := by decide +kernel
theorem dJ3_checkIndex_8e157_10 : decode cJ3_checkIndex_8e157 10 = .ok (.iload_n 0, 1) := by decide +kernel
theorem dJ3_checkIndex_8e157_11 : decode cJ3_checkIndex_8e157 11 = .ok (.iload_n 1, 1) := by decide +kernel
theorem dJ3_checkIndex_8e157_12 : decode cJ3_checkIndex_8e157 12 = .ok (.invokestatic 95, 3) := by decide +kernel
theorem dJ3_checkIndex_8e157_15 : decode cJ3_checkIndex_8e157 15 = .ok (.athrow, 1) := by decide +kernel
theorem dJ3_checkIndex_8e157_16 : decode cJ3_checkIndex_8e157 16 = .ok (.iload_n 0, 1) := by decide +kernel
theorem dJ3_checkIndex_8e157_17 : decode cJ3_checkIndex_8e157 17 = .ok (.ireturn, 1) := by decide +kernel
