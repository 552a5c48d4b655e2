set_option maxRecDepth 20000 in
theorem ggX6_init_X1_init : GoodIn wsX6_init wsX1_init := goodIn_ca (goodIn_r _ [17, 18, 2, 3, 19, 20, 21, 22, 23, 24, 25, 26, 27, 28, 29, 30, 31, 32, 33, 34, 35, 36, 37, 38, 39, 40, 41, 42, 43, 44, 45, 46, 47, 48, 49, 50, 51, 52, 53, 54, 55, 56, 57, 58, 59, 60, 61, 62, 63, 64, 65, 66, 67, 68, 69, 70, 71, 72, 73, 74, 75, 76, 77, 78, 79, 80, 81, 82, 83, 84, 85, 86, 87, 6, 88, 89, 90, 91, 92, 93, 94, 95, 96, 97, 98, 99, 100, 101, 102, 103, 104, 139, 117, 118, 119, 120, 121, 122, 123, 124, 125, 126, 140, 141, 142, 143, 144, 145, 146, 147, 148, 149, 150, 151, 152, 153, 154, 155, 156, 157, 158, 159, 160, 161, 162, 163] (by decide +kernel) (by decide +kernel)) (goodIn_sub (fun _ h => List.mem_cons_of_mem _ (List.mem_append_right _ h)) (by decide +kernel))
set_option maxRecDepth 20000 in
theorem gX6_init_X1_init : GoodIn wsX6_init (wsX1_init) := ggX6_init_X1_init
set_option maxRecDepth 20000 in
theorem ggX6_init_X5_init : GoodIn wsX6_init wsX5_init := goodIn_r _ [106, 107, 2, 3, 108, 20, 21, 109, 110, 111, 112, 113, 114, 115, 116, 37, 38, 39, 40, 41, 42, 43, 44, 45, 139, 132, 133, 134, 135, 136, 137, 138] (by decide +kernel) (by decide +kernel)
set_option maxRecDepth 20000 in
theorem gX6_init_X5_init_n21 : GoodIn wsX6_init (wsX5_init) := ggX6_init_X5_init
theorem dX6_init_0 : decode cX6_init 0 = .ok (.aload_n 0, 1) := by decide +kernel
theorem dX6_init_1 : decode cX6_init 1 = .ok (.invokespecial 3, 3) := by decide +kernel
theorem dX6_init_4 : decode cX6_init 4 = .ok (.aload_n 0, 1) := by decide +kernel
theorem dX6_init_5 : decode cX6_init 5 = .ok (.new 9, 3) := by decide +kernel
theorem dX6_init_8 : decode cX6_init 8 = .ok (.dup, 1) := by decide +kernel
theorem dX6_init_9 : decode cX6_init 9 = .ok (.invokespecial 11, 3) := by decide +kernel
theorem dX6_init_12 : decode cX6_init 12 = .ok (.putfield 12, 3) := by decide +kernel
theorem dX6_init_15 : decode cX6_init 15 = .ok (.aload_n 0, 1) := by decide +kernel
theorem dX6_init_16 : decode cX6_init 16 = .ok (.new 9, 3) := by decide +kernel
theorem dX6_init_19 : decode cX6_init 19 = .ok (.dup, 1) := by decide +kernel
theorem dX6_init_20 : decode cX6_init 20 = .ok (.invokespecial 11, 3) := by decide +kernel
theorem dX6_init_23 : decode cX6_init 23 = .ok (.putfield 16, 3) := by decide +kernel
theorem dX6_init_26 : decode cX6_init 26 = .ok (.aload_n 0, 1) := by decide +kernel
theorem dX6_init_27 : decode cX6_init 27 = .ok (.new 19, 3) := by decide +kernel
theorem dX6_init_30 : decode cX6_init 30 = .ok (.dup, 1) := by decide +kernel
theorem dX6_init_31 : decode cX6_init 31 = .ok (.invokespecial 21, 3) := by decide +kernel
theorem dX6_init_34 : decode cX6_init 34 = .ok (.putfield 22, 3) := by decide +kernel
theorem dX6_init_37 : decode cX6_init 37 = .ok (.aload_n 0, 1) := by decide +kernel
theorem dX6_init_38 : decode cX6_init 38 = .ok (.iconst 0, 1) := by decide +kernel
theorem dX6_init_39 : decode cX6_init 39 = .ok (.putfield 26, 3) := by decide +kernel
theorem dX6_init_42 : decode cX6_init 42 = .ok (.aload_n 0, 1) := by decide +kernel
theorem dX6_init_43 : decode cX6_init 43 = .ok (.iconst (-1), 1) := by decide +kernel
theorem dX6_init_44 : decode cX6_init 44 = .ok (.putfield 30, 3) := by decide +kernel
theorem dX6_init_47 : decode cX6_init 47 = .ok (.return_, 1) := by decide +kernel
set_option maxRecDepth 20000 in
theorem ggX6_setGap_X6_needKey : GoodIn wsX6_setGap wsX6_needKey := goodIn_ca (goodIn_r _ [6, 7, 8] (by decide +kernel) (by decide +kernel)) (goodIn_sub (fun _ h => List.mem_cons_of_mem _ (List.mem_append_left _ (List.mem_append_left _ (List.mem_append_right _ h)))) (by decide +kernel))
set_option maxRecDepth 20000 in
theorem gX6_setGap_X6_needKey : GoodIn wsX6_setGap (va_wsS RX6 34 yX6_needKey wsX6_needKey) := goodIn_app (goodIn_of _ (by decide +kernel)) ggX6_setGap_X6_needKey
set_option maxRecDepth 20000 in
theorem ggX6_setGap_X6_needWithin : GoodIn wsX6_setGap wsX6_needWithin := goodIn_ca (goodIn_r _ [11, 12, 13] (by decide +kernel) (by decide +kernel)) (goodIn_sub (fun _ h => List.mem_cons_of_mem _ (List.mem_append_left _ (List.mem_append_right _ h))) (by decide +kernel))
set_option maxRecDepth 20000 in
theorem gX6_setGap_X6_needWithin : GoodIn wsX6_setGap (va_wsS RX6 38 yX6_needWithin wsX6_needWithin) := goodIn_app (goodIn_of _ (by decide +kernel)) ggX6_setGap_X6_needWithin
set_option maxRecDepth 20000 in
theorem ggX6_setGap_X4_at : GoodIn wsX6_setGap wsX4_at := goodIn_ca (goodIn_r _ [18, 19, 39] (by decide +kernel) (by decide +kernel)) (goodIn_sub (fun _ h => List.mem_cons_of_mem _ (List.mem_append_right _ h)) (by decide +kernel))
set_option maxRecDepth 20000 in
theorem gX6_setGap_X4_at : GoodIn wsX6_setGap (wsV RX6 46 RX4 yX4_at wsX4_at) := goodIn_app (goodIn_of _ (by decide +kernel)) ggX6_setGap_X4_at
set_option maxRecDepth 20000 in
theorem ggX6_setGap_X4_put : GoodIn wsX6_setGap wsX4_put := goodIn_ca (goodIn_r _ [23, 19, 39] (by decide +kernel) (by decide +kernel)) (goodIn_sub (fun _ h => List.mem_cons_of_mem _ (List.mem_append_right _ h)) (by decide +kernel))
set_option maxRecDepth 20000 in
theorem gX6_setGap_X4_put : GoodIn wsX6_setGap (wsV RX6 52 RX4 yX4_put wsX4_put) := goodIn_app (goodIn_of _ (by decide +kernel)) ggX6_setGap_X4_put
theorem dX6_setGap_0 : decode cX6_setGap 0 = .ok (.iload_n 1, 1) := by decide +kernel
theorem dX6_setGap_1 : decode cX6_setGap 1 = .ok (.invokestatic 34, 3) := by decide +kernel
theorem dX6_setGap_4 : decode cX6_setGap 4 = .ok (.iload_n 2, 1) := by decide +kernel
theorem dX6_setGap_5 : decode cX6_setGap 5 = .ok (.iconst 1, 1) := by decide +kernel
theorem dX6_setGap_6 : decode cX6_setGap 6 = .ok (.bipush 50, 2) := by decide +kernel
theorem dX6_setGap_8 : decode cX6_setGap 8 = .ok (.invokestatic 38, 3) := by decide +kernel
theorem dX6_setGap_11 : decode cX6_setGap 11 = .ok (.aload_n 0, 1) := by decide +kernel
theorem dX6_setGap_12 : decode cX6_setGap 12 = .ok (.getfield 12, 3) := by decide +kernel
theorem dX6_setGap_15 : decode cX6_setGap 15 = .ok (.getfield 42, 3) := by decide +kernel
theorem dX6_setGap_18 : decode cX6_setGap 18 = .ok (.iload_n 1, 1) := by decide +kernel
theorem dX6_setGap_19 : decode cX6_setGap 19 = .ok (.invokevirtual 46, 3) := by decide +kernel
theorem dX6_setGap_22 : decode cX6_setGap 22 = .ok (.istore_n 3, 1) := by decide +kernel
theorem dX6_setGap_23 : decode cX6_setGap 23 = .ok (.aload_n 0, 1) := by decide +kernel
theorem dX6_setGap_24 : decode cX6_setGap 24 = .ok (.getfield 12, 3) := by decide +kernel
theorem dX6_setGap_27 : decode cX6_setGap 27 = .ok (.getfield 42, 3) := by decide +kernel
theorem dX6_setGap_30 : decode cX6_setGap 30 = .ok (.iload_n 1, 1) := by decide +kernel
theorem dX6_setGap_31 : decode cX6_setGap 31 = .ok (.iload_n 2, 1) := by decide +kernel
theorem dX6_setGap_32 : decode cX6_setGap 32 = .ok (.invokevirtual 52, 3) := by decide +kernel
theorem dX6_setGap_35 : decode cX6_setGap 35 = .ok (.iload_n 3, 1) := by decide +kernel
theorem dX6_setGap_36 : decode cX6_setGap 36 = .ok (.ireturn, 1) := by decide +kernel
set_option maxRecDepth 20000 in
theorem ggX6_setFold_X6_needKey : GoodIn wsX6_setFold wsX6_needKey := goodIn_ca (goodIn_r _ [6, 7, 8] (by decide +kernel) (by decide +kernel)) (goodIn_sub (fun _ h => List.mem_cons_of_mem _ (List.mem_append_left _ (List.mem_append_left _ (List.mem_append_right _ h)))) (by decide +kernel))
set_option maxRecDepth 20000 in
theorem gX6_setFold_X6_needKey : GoodIn wsX6_setFold (va_wsS RX6 34 yX6_needKey wsX6_needKey) := goodIn_app (goodIn_of _ (by decide +kernel)) ggX6_setFold_X6_needKey
set_option maxRecDepth 20000 in
theorem ggX6_setFold_X6_needWithin : GoodIn wsX6_setFold wsX6_needWithin := goodIn_ca (goodIn_r _ [11, 12, 13] (by decide +kernel) (by decide +kernel)) (goodIn_sub (fun _ h => List.mem_cons_of_mem _ (List.mem_append_left _ (List.mem_append_right _ h))) (by decide +kernel))
set_option maxRecDepth 20000 in
theorem gX6_setFold_X6_needWithin : GoodIn wsX6_setFold (va_wsS RX6 38 yX6_needWithin wsX6_needWithin) := goodIn_app (goodIn_of _ (by decide +kernel)) ggX6_setFold_X6_needWithin
set_option maxRecDepth 20000 in
theorem ggX6_setFold_X4_at : GoodIn wsX6_setFold wsX4_at := goodIn_ca (goodIn_r _ [18, 19, 39] (by decide +kernel) (by decide +kernel)) (goodIn_sub (fun _ h => List.mem_cons_of_mem _ (List.mem_append_right _ h)) (by decide +kernel))
set_option maxRecDepth 20000 in
theorem gX6_setFold_X4_at : GoodIn wsX6_setFold (wsV RX6 46 RX4 yX4_at wsX4_at) := goodIn_app (goodIn_of _ (by decide +kernel)) ggX6_setFold_X4_at
set_option maxRecDepth 20000 in
theorem ggX6_setFold_X4_put : GoodIn wsX6_setFold wsX4_put := goodIn_ca (goodIn_r _ [23, 19, 39] (by decide +kernel) (by decide +kernel)) (goodIn_sub (fun _ h => List.mem_cons_of_mem _ (List.mem_append_right _ h)) (by decide +kernel))
set_option maxRecDepth 20000 in
theorem gX6_setFold_X4_put : GoodIn wsX6_setFold (wsV RX6 52 RX4 yX4_put wsX4_put) := goodIn_app (goodIn_of _ (by decide +kernel)) ggX6_setFold_X4_put
theorem dX6_setFold_0 : decode cX6_setFold 0 = .ok (.iload_n 1, 1) := by decide +kernel
theorem dX6_setFold_1 : decode cX6_setFold 1 = .ok (.invokestatic 34, 3) := by decide +kernel
theorem dX6_setFold_4 : decode cX6_setFold 4 = .ok (.iload_n 2, 1) := by decide +kernel
theorem dX6_setFold_5 : decode cX6_setFold 5 = .ok (.iconst 0, 1) := by decide +kernel
theorem dX6_setFold_6 : decode cX6_setFold 6 = .ok (.iconst 3, 1) := by decide +kernel
theorem dX6_setFold_7 : decode cX6_setFold 7 = .ok (.invokestatic 38, 3) := by decide +kernel
theorem dX6_setFold_10 : decode cX6_setFold 10 = .ok (.aload_n 0, 1) := by decide +kernel
theorem dX6_setFold_11 : decode cX6_setFold 11 = .ok (.getfield 12, 3) := by decide +kernel
theorem dX6_setFold_14 : decode cX6_setFold 14 = .ok (.getfield 56, 3) := by decide +kernel
theorem dX6_setFold_17 : decode cX6_setFold 17 = .ok (.iload_n 1, 1) := by decide +kernel
theorem dX6_setFold_18 : decode cX6_setFold 18 = .ok (.invokevirtual 46, 3) := by decide +kernel
theorem dX6_setFold_21 : decode cX6_setFold 21 = .ok (.istore_n 3, 1) := by decide +kernel
theorem dX6_setFold_22 : decode cX6_setFold 22 = .ok (.aload_n 0, 1) := by decide +kernel
theorem dX6_setFold_23 : decode cX6_setFold 23 = .ok (.getfield 12, 3) := by decide +kernel
theorem dX6_setFold_26 : decode cX6_setFold 26 = .ok (.getfield 56, 3) := by decide +kernel
theorem dX6_setFold_29 : decode cX6_setFold 29 = .ok (.iload_n 1, 1) := by decide +kernel
theorem dX6_setFold_30 : decode cX6_setFold 30 = .ok (.iload_n 2, 1) := by decide +kernel
theorem dX6_setFold_31 : decode cX6_setFold 31 = .ok (.invokevirtual 52, 3) := by decide +kernel
theorem dX6_setFold_34 : decode cX6_setFold 34 = .ok (.iload_n 3, 1) := by decide +kernel
theorem dX6_setFold_35 : decode cX6_setFold 35 = .ok (.ireturn, 1) := by decide +kernel
set_option maxRecDepth 20000 in
theorem ggX6_setLateness_X6_needWithin : GoodIn wsX6_setLateness wsX6_needWithin := goodIn_ca (goodIn_r _ [6, 7, 8] (by decide +kernel) (by decide +kernel)) (goodIn_sub (fun _ h => List.mem_cons_of_mem _ (List.mem_append_right _ h)) (by decide +kernel))
set_option maxRecDepth 20000 in
theorem gX6_setLateness_X6_needWithin : GoodIn wsX6_setLateness (va_wsS RX6 38 yX6_needWithin wsX6_needWithin) := goodIn_app (goodIn_of _ (by decide +kernel)) ggX6_setLateness_X6_needWithin
theorem dX6_setLateness_0 : decode cX6_setLateness 0 = .ok (.iload_n 1, 1) := by decide +kernel
theorem dX6_setLateness_1 : decode cX6_setLateness 1 = .ok (.iconst 0, 1) := by decide +kernel
theorem dX6_setLateness_2 : decode cX6_setLateness 2 = .ok (.bipush 100, 2) := by decide +kernel
theorem dX6_setLateness_4 : decode cX6_setLateness 4 = .ok (.invokestatic 38, 3) := by decide +kernel
theorem dX6_setLateness_7 : decode cX6_setLateness 7 = .ok (.aload_n 0, 1) := by decide +kernel
theorem dX6_setLateness_8 : decode cX6_setLateness 8 = .ok (.getfield 12, 3) := by decide +kernel
theorem dX6_setLateness_11 : decode cX6_setLateness 11 = .ok (.getfield 59, 3) := by decide +kernel
theorem dX6_setLateness_14 : decode cX6_setLateness 14 = .ok (.istore_n 2, 1) := by decide +kernel
theorem dX6_setLateness_15 : decode cX6_setLateness 15 = .ok (.aload_n 0, 1) := by decide +kernel
theorem dX6_setLateness_16 : decode cX6_setLateness 16 = .ok (.getfield 12, 3) := by decide +kernel
theorem dX6_setLateness_19 : decode cX6_setLateness 19 = .ok (.iload_n 1, 1) := by decide +kernel
theorem dX6_setLateness_20 : decode cX6_setLateness 20 = .ok (.putfield 59, 3) := by decide +kernel
theorem dX6_setLateness_23 : decode cX6_setLateness 23 = .ok (.iload_n 2, 1) := by decide +kernel
theorem dX6_setLateness_24 : decode cX6_setLateness 24 = .ok (.ireturn, 1) := by decide +kernel
set_option maxRecDepth 20000 in
theorem ggX6_setTrigger_X6_needWithin : GoodIn wsX6_setTrigger wsX6_needWithin := goodIn_ca (goodIn_r _ [6, 7, 8] (by decide +kernel) (by decide +kernel)) (goodIn_sub (fun _ h => List.mem_cons_of_mem _ (List.mem_append_right _ h)) (by decide +kernel))
set_option maxRecDepth 20000 in
theorem gX6_setTrigger_X6_needWithin : GoodIn wsX6_setTrigger (va_wsS RX6 38 yX6_needWithin wsX6_needWithin) := goodIn_app (goodIn_of _ (by decide +kernel)) ggX6_setTrigger_X6_needWithin
theorem dX6_setTrigger_0 : decode cX6_setTrigger 0 = .ok (.iload_n 1, 1) := by decide +kernel
theorem dX6_setTrigger_1 : decode cX6_setTrigger 1 = .ok (.iconst 0, 1) := by decide +kernel
theorem dX6_setTrigger_2 : decode cX6_setTrigger 2 = .ok (.bipush 10, 2) := by decide +kernel
theorem dX6_setTrigger_4 : decode cX6_setTrigger 4 = .ok (.invokestatic 38, 3) := by decide +kernel
theorem dX6_setTrigger_7 : decode cX6_setTrigger 7 = .ok (.aload_n 0, 1) := by decide +kernel
theorem dX6_setTrigger_8 : decode cX6_setTrigger 8 = .ok (.getfield 12, 3) := by decide +kernel
theorem dX6_setTrigger_11 : decode cX6_setTrigger 11 = .ok (.getfield 62, 3) := by decide +kernel
theorem dX6_setTrigger_14 : decode cX6_setTrigger 14 = .ok (.istore_n 2, 1) := by decide +kernel
theorem dX6_setTrigger_15 : decode cX6_setTrigger 15 = .ok (.aload_n 0, 1) := by decide +kernel
theorem dX6_setTrigger_16 : decode cX6_setTrigger 16 = .ok (.getfield 12, 3) := by decide +kernel
theorem dX6_setTrigger_19 : decode cX6_setTrigger 19 = .ok (.iload_n 1, 1) := by decide +kernel
theorem dX6_setTrigger_20 : decode cX6_setTrigger 20 = .ok (.putfield 62, 3) := by decide +kernel
theorem dX6_setTrigger_23 : decode cX6_setTrigger 23 = .ok (.iload_n 2, 1) := by decide +kernel
theorem dX6_setTrigger_24 : decode cX6_setTrigger 24 = .ok (.ireturn, 1) := by decide +kernel
set_option maxRecDepth 20000 in
theorem ggX6_reset_X1_clear : GoodIn wsX6_reset wsX1_clear := goodIn_ca (goodIn_r _ [8, 9, 10, 11, 12, 13, 14, 15, 16, 17, 18, 19, 20, 21, 22, 23, 24, 25, 26, 27, 28, 29, 30, 31, 32, 33, 34, 35, 36, 42, 43, 44, 45, 46, 47, 48, 49, 50, 51, 52, 53, 54, 55, 56, 57, 58, 59, 60, 61, 62, 63, 64, 65, 66, 67, 68, 69, 70, 71, 72, 73, 74, 75, 76] (by decide +kernel) (by decide +kernel)) (goodIn_sub (fun _ h => List.mem_cons_of_mem _ (List.mem_append_right _ h)) (by decide +kernel))
set_option maxRecDepth 20000 in
theorem gX6_reset_X1_clear : GoodIn wsX6_reset (wsV RX6 74 RX1 yX1_clear wsX1_clear) := goodIn_app (goodIn_of _ (by decide +kernel)) ggX6_reset_X1_clear
theorem dX6_reset_0 : decode cX6_reset 0 = .ok (.aload_n 0, 1) := by decide +kernel
theorem dX6_reset_1 : decode cX6_reset 1 = .ok (.getfield 12, 3) := by decide +kernel
theorem dX6_reset_4 : decode cX6_reset 4 = .ok (.getfield 65, 3) := by decide +kernel
theorem dX6_reset_7 : decode cX6_reset 7 = .ok (.getfield 69, 3) := by decide +kernel
theorem dX6_reset_10 : decode cX6_reset 10 = .ok (.istore_n 1, 1) := by decide +kernel
theorem dX6_reset_11 : decode cX6_reset 11 = .ok (.aload_n 0, 1) := by decide +kernel
theorem dX6_reset_12 : decode cX6_reset 12 = .ok (.getfield 12, 3) := by decide +kernel
theorem dX6_reset_15 : decode cX6_reset 15 = .ok (.invokevirtual 74, 3) := by decide +kernel
theorem dX6_reset_18 : decode cX6_reset 18 = .ok (.iload_n 1, 1) := by decide +kernel
theorem dX6_reset_19 : decode cX6_reset 19 = .ok (.ireturn, 1) := by decide +kernel
set_option maxRecDepth 20000 in
theorem ggX6_add_X6_needKey : GoodIn wsX6_add wsX6_needKey := goodIn_ca (goodIn_r _ [10, 11, 12] (by decide +kernel) (by decide +kernel)) (goodIn_sub (fun _ h => List.mem_cons_of_mem _ (List.mem_append_left _ (List.mem_append_left _ (List.mem_append_left _ (List.mem_append_right _ h))))) (by decide +kernel))
set_option maxRecDepth 20000 in
theorem gX6_add_X6_needKey : GoodIn wsX6_add (va_wsS RX6 34 yX6_needKey wsX6_needKey) := goodIn_app (goodIn_of _ (by decide +kernel)) ggX6_add_X6_needKey
set_option maxRecDepth 20000 in
theorem ggX6_add_X6_needWithin : GoodIn wsX6_add wsX6_needWithin := goodIn_ca (goodIn_r _ [15, 16, 17] (by decide +kernel) (by decide +kernel)) (goodIn_sub (fun _ h => List.mem_cons_of_mem _ (List.mem_append_left _ (List.mem_append_left _ (List.mem_append_right _ h)))) (by decide +kernel))
set_option maxRecDepth 20000 in
theorem gX6_add_X6_needWithin : GoodIn wsX6_add (va_wsS RX6 38 yX6_needWithin wsX6_needWithin) := goodIn_app (goodIn_of _ (by decide +kernel)) ggX6_add_X6_needWithin
set_option maxRecDepth 20000 in
theorem ggX6_add_X1_comesLate : GoodIn wsX6_add wsX1_comesLate := goodIn_r _ [22, 23, 199, 200, 201, 202, 203, 204, 205, 206, 207, 208] (by decide +kernel) (by decide +kernel)
set_option maxRecDepth 20000 in
theorem gX6_add_X1_comesLate : GoodIn wsX6_add (wsV RX6 80 RX1 yX1_comesLate wsX1_comesLate) := goodIn_app (goodIn_of _ (by decide +kernel)) ggX6_add_X1_comesLate
set_option maxRecDepth 20000 in
theorem ggX6_add_X1_take : GoodIn wsX6_add wsX1_take := goodIn_ca (goodIn_ca (goodIn_r _ [27, 28, 29, 30, 31, 32, 33, 19, 20, 21, 22, 23, 34, 35, 36, 37, 38, 39, 40, 41, 42, 43, 44, 45, 46, 47, 48, 49, 50, 51, 52, 53, 54, 55, 56, 57, 58, 59, 60, 61, 62, 63, 64, 65, 66, 67, 68, 69, 70, 71, 72, 73, 74, 75, 76, 77, 78, 79, 80, 81, 82, 83, 84, 85, 86, 87, 88, 89, 90, 91, 92, 93, 94, 95, 96, 97, 98, 99, 100, 101, 102, 103, 104, 105, 106, 107, 108, 109, 110, 111, 112, 113, 114, 115, 116, 117, 118, 119, 120, 121, 122, 123, 124, 125, 126, 127, 128, 129, 130, 131, 132, 133, 134, 135, 136, 137, 138, 139, 140, 141, 142, 143, 144, 145, 146, 147, 148, 149, 150, 151, 152, 153, 154, 155, 156, 157, 158, 159, 160, 161, 162, 163, 164, 165, 166, 167, 168, 169, 170, 171, 172, 173, 174, 175, 176, 177, 178, 179, 180, 181, 182, 183, 184, 185, 186, 187, 188, 189, 190, 191, 192, 193, 199, 200, 201, 202, 203, 204, 205, 206, 207, 208, 213, 214, 215, 216, 217, 218, 219, 220, 221, 222, 223, 209, 210, 211, 212, 224, 225, 226, 227, 228, 229, 230, 231, 232, 233] (by decide +kernel) (by decide +kernel)) (goodIn_sub (fun _ h => List.mem_cons_of_mem _ (List.mem_append_left _ (List.mem_append_right _ h))) (by decide +kernel))) (goodIn_sub (fun _ h => List.mem_cons_of_mem _ (List.mem_append_right _ h)) (by decide +kernel))
set_option maxRecDepth 20000 in
theorem gX6_add_X1_take : GoodIn wsX6_add (wsV RX6 91 RX1 yX1_take wsX1_take) := goodIn_app (goodIn_of _ (by decide +kernel)) ggX6_add_X1_take
theorem dX6_add_0 : decode cX6_add 0 = .ok (.iload_n 1, 1) := by decide +kernel
theorem dX6_add_1 : decode cX6_add 1 = .ok (.invokestatic 34, 3) := by decide +kernel
theorem dX6_add_4 : decode cX6_add 4 = .ok (.iload_n 2, 1) := by decide +kernel
theorem dX6_add_5 : decode cX6_add 5 = .ok (.iconst 0, 1) := by decide +kernel
theorem dX6_add_6 : decode cX6_add 6 = .ok (.sipush 9999, 3) := by decide +kernel
theorem dX6_add_9 : decode cX6_add 9 = .ok (.invokestatic 38, 3) := by decide +kernel
theorem dX6_add_12 : decode cX6_add 12 = .ok (.aload_n 0, 1) := by decide +kernel
theorem dX6_add_13 : decode cX6_add 13 = .ok (.getfield 12, 3) := by decide +kernel
theorem dX6_add_16 : decode cX6_add 16 = .ok (.getfield 65, 3) := by decide +kernel
theorem dX6_add_19 : decode cX6_add 19 = .ok (.getfield 69, 3) := by decide +kernel
theorem dX6_add_22 : decode cX6_add 22 = .ok (.bipush 100, 2) := by decide +kernel
theorem dX6_add_24 : decode cX6_add 24 = .ok (.if_icmp .lt 31, 3) := by decide +kernel
theorem dX6_add_27 : decode cX6_add 27 = .ok (.aload_n 0, 1) := by decide +kernel
theorem dX6_add_28 : decode cX6_add 28 = .ok (.getfield 12, 3) := by decide +kernel
theorem dX6_add_31 : decode cX6_add 31 = .ok (.iload_n 2, 1) := by decide +kernel
theorem dX6_add_32 : decode cX6_add 32 = .ok (.aload_n 0, 1) := by decide +kernel
theorem dX6_add_33 : decode cX6_add 33 = .ok (.getfield 12, 3) := by decide +kernel
theorem dX6_add_36 : decode cX6_add 36 = .ok (.getfield 77, 3) := by decide +kernel
theorem dX6_add_39 : decode cX6_add 39 = .ok (.invokevirtual 80, 3) := by decide +kernel
theorem dX6_add_42 : decode cX6_add 42 = .ok (.ifCond .ne 13, 3) := by decide +kernel
theorem dX6_add_45 : decode cX6_add 45 = .ok (.new 84, 3) := by decide +kernel
theorem dX6_add_48 : decode cX6_add 48 = .ok (.dup, 1) := by decide +kernel
theorem dX6_add_49 : decode cX6_add 49 = .ok (.ldc 86, 2) := by decide +kernel
theorem dX6_add_51 : decode cX6_add 51 = .ok (.invokespecial 88, 3) := by decide +kernel
theorem dX6_add_54 : decode cX6_add 54 = .ok (.athrow, 1) := by decide +kernel
theorem dX6_add_55 : decode cX6_add 55 = .ok (.aload_n 0, 1) := by decide +kernel
theorem dX6_add_56 : decode cX6_add 56 = .ok (.getfield 12, 3) := by decide +kernel
theorem dX6_add_59 : decode cX6_add 59 = .ok (.iload_n 1, 1) := by decide +kernel
theorem dX6_add_60 : decode cX6_add 60 = .ok (.iload_n 2, 1) := by decide +kernel
theorem dX6_add_61 : decode cX6_add 61 = .ok (.iload_n 3, 1) := by decide +kernel
theorem dX6_add_62 : decode cX6_add 62 = .ok (.invokevirtual 91, 3) := by decide +kernel
theorem dX6_add_65 : decode cX6_add 65 = .ok (.ireturn, 1) := by decide +kernel
set_option maxRecDepth 20000 in
theorem ggX6_advance_X6_needWithin : GoodIn wsX6_advance wsX6_needWithin := goodIn_ca (goodIn_r _ [6, 7, 8] (by decide +kernel) (by decide +kernel)) (goodIn_sub (fun _ h => List.mem_cons_of_mem _ (List.mem_append_left _ (List.mem_append_right _ h))) (by decide +kernel))
set_option maxRecDepth 20000 in
theorem gX6_advance_X6_needWithin : GoodIn wsX6_advance (va_wsS RX6 38 yX6_needWithin wsX6_needWithin) := goodIn_app (goodIn_of _ (by decide +kernel)) ggX6_advance_X6_needWithin
set_option maxRecDepth 20000 in
theorem ggX6_advance_X1_moveMark : GoodIn wsX6_advance wsX1_moveMark := goodIn_ca (goodIn_r _ [13, 14, 15, 16, 17, 18, 19, 12, 20, 21, 22, 23, 24, 25, 26, 27, 28, 29, 30, 31, 32, 33, 34, 35, 36, 37, 38, 39, 40, 41, 42, 43, 44, 45, 46, 47, 48, 49, 50, 51, 52, 53, 54, 55, 56, 57, 58, 59, 60, 61, 62, 63, 64, 65, 66, 67, 68, 69, 70, 71, 72, 73, 74, 75, 76, 77, 78, 79, 80, 81, 82, 83, 84, 85, 86, 87, 88, 89, 90, 91, 92, 93, 94, 95, 96, 97, 98, 99, 100, 101, 102, 103, 104, 105, 106, 107, 108, 109, 110, 111, 112, 113, 114, 115, 116, 117, 118, 119, 120, 121, 122, 123, 124, 125, 126, 127, 128, 129, 130, 131, 132, 138, 139, 140, 141, 142, 143, 144, 145, 146, 147, 148, 149, 150, 151, 152, 153, 154, 155, 156, 157, 158, 159, 160, 161, 162, 163, 164, 165, 166, 167, 168, 169, 170, 171, 172] (by decide +kernel) (by decide +kernel)) (goodIn_sub (fun _ h => List.mem_cons_of_mem _ (List.mem_append_right _ h)) (by decide +kernel))
set_option maxRecDepth 20000 in
theorem gX6_advance_X1_moveMark : GoodIn wsX6_advance (wsV RX6 95 RX1 yX1_moveMark wsX1_moveMark) := goodIn_app (goodIn_of _ (by decide +kernel)) ggX6_advance_X1_moveMark
theorem dX6_advance_0 : decode cX6_advance 0 = .ok (.iload_n 1, 1) := by decide +kernel
theorem dX6_advance_1 : decode cX6_advance 1 = .ok (.aload_n 0, 1) := by decide +kernel
theorem dX6_advance_2 : decode cX6_advance 2 = .ok (.getfield 12, 3) := by decide +kernel
theorem dX6_advance_5 : decode cX6_advance 5 = .ok (.getfield 77, 3) := by decide +kernel
theorem dX6_advance_8 : decode cX6_advance 8 = .ok (.sipush 20000, 3) := by decide +kernel
theorem dX6_advance_11 : decode cX6_advance 11 = .ok (.invokestatic 38, 3) := by decide +kernel
theorem dX6_advance_14 : decode cX6_advance 14 = .ok (.aload_n 0, 1) := by decide +kernel
theorem dX6_advance_15 : decode cX6_advance 15 = .ok (.getfield 12, 3) := by decide +kernel
theorem dX6_advance_18 : decode cX6_advance 18 = .ok (.iload_n 1, 1) := by decide +kernel
theorem dX6_advance_19 : decode cX6_advance 19 = .ok (.invokevirtual 95, 3) := by decide +kernel
theorem dX6_advance_22 : decode cX6_advance 22 = .ok (.ireturn, 1) := by decide +kernel
theorem dX6_watermark_0 : decode cX6_watermark 0 = .ok (.aload_n 0, 1) := by decide +kernel
theorem dX6_watermark_1 : decode cX6_watermark 1 = .ok (.getfield 12, 3) := by decide +kernel
theorem dX6_watermark_4 : decode cX6_watermark 4 = .ok (.getfield 77, 3) := by decide +kernel
theorem dX6_watermark_7 : decode cX6_watermark 7 = .ok (.ireturn, 1) := by decide +kernel
theorem dX6_lateCount_0 : decode cX6_lateCount 0 = .ok (.aload_n 0, 1) := by decide +kernel
theorem dX6_lateCount_1 : decode cX6_lateCount 1 = .ok (.getfield 12, 3) := by decide +kernel
theorem dX6_lateCount_4 : decode cX6_lateCount 4 = .ok (.getfield 98, 3) := by decide +kernel
theorem dX6_lateCount_7 : decode cX6_lateCount 7 = .ok (.ireturn, 1) := by decide +kernel
set_option maxRecDepth 20000 in
theorem ggX6_isLate_X1_comesLate : GoodIn wsX6_isLate wsX1_comesLate := goodIn_r _ [7, 8, 14, 15, 16, 17, 18, 19, 20, 21, 22, 23] (by decide +kernel) (by decide +kernel)
set_option maxRecDepth 20000 in
theorem gX6_isLate_X1_comesLate : GoodIn wsX6_isLate (wsV RX6 80 RX1 yX1_comesLate wsX1_comesLate) := goodIn_app (goodIn_of _ (by decide +kernel)) ggX6_isLate_X1_comesLate
theorem dX6_isLate_0 : decode cX6_isLate 0 = .ok (.aload_n 0, 1) := by decide +kernel
theorem dX6_isLate_1 : decode cX6_isLate 1 = .ok (.getfield 12, 3) := by decide +kernel
theorem dX6_isLate_4 : decode cX6_isLate 4 = .ok (.iload_n 1, 1) := by decide +kernel
theorem dX6_isLate_5 : decode cX6_isLate 5 = .ok (.aload_n 0, 1) := by decide +kernel
theorem dX6_isLate_6 : decode cX6_isLate 6 = .ok (.getfield 12, 3) := by decide +kernel
theorem dX6_isLate_9 : decode cX6_isLate 9 = .ok (.getfield 77, 3) := by decide +kernel
theorem dX6_isLate_12 : decode cX6_isLate 12 = .ok (.invokevirtual 80, 3) := by decide +kernel
theorem dX6_isLate_15 : decode cX6_isLate 15 = .ok (.ireturn, 1) := by decide +kernel
theorem dX6_recordCount_0 : decode cX6_recordCount 0 = .ok (.aload_n 0, 1) := by decide +kernel
theorem dX6_recordCount_1 : decode cX6_recordCount 1 = .ok (.getfield 12, 3) := by decide +kernel
theorem dX6_recordCount_4 : decode cX6_recordCount 4 = .ok (.getfield 65, 3) := by decide +kernel
theorem dX6_recordCount_7 : decode cX6_recordCount 7 = .ok (.getfield 69, 3) := by decide +kernel
theorem dX6_recordCount_10 : decode cX6_recordCount 10 = .ok (.ireturn, 1) := by decide +kernel
set_option maxRecDepth 20000 in
theorem ggX6_burstCount_X0_countPhase : GoodIn wsX6_burstCount wsX0_countPhase := goodIn_ca (goodIn_r _ [7, 8, 9, 10, 11, 12, 13, 14, 15, 31, 32, 33, 34, 35, 36, 37, 38, 39, 40, 41] (by decide +kernel) (by decide +kernel)) (goodIn_sub (fun _ h => List.mem_cons_of_mem _ (List.mem_append_right _ h)) (by decide +kernel))
set_option maxRecDepth 20000 in
theorem gX6_burstCount_X0_countPhase : GoodIn wsX6_burstCount (wsV RX6 105 RX0 yX0_countPhase wsX0_countPhase) := goodIn_app (goodIn_of _ (by decide +kernel)) ggX6_burstCount_X0_countPhase
theorem dX6_burstCount_0 : decode cX6_burstCount 0 = .ok (.aload_n 0, 1) := by decide +kernel
theorem dX6_burstCount_1 : decode cX6_burstCount 1 = .ok (.getfield 12, 3) := by decide +kernel
theorem dX6_burstCount_4 : decode cX6_burstCount 4 = .ok (.getfield 101, 3) := by decide +kernel
theorem dX6_burstCount_7 : decode cX6_burstCount 7 = .ok (.iconst 0, 1) := by decide +kernel
theorem dX6_burstCount_8 : decode cX6_burstCount 8 = .ok (.invokevirtual 105, 3) := by decide +kernel
theorem dX6_burstCount_11 : decode cX6_burstCount 11 = .ok (.aload_n 0, 1) := by decide +kernel
theorem dX6_burstCount_12 : decode cX6_burstCount 12 = .ok (.getfield 12, 3) := by decide +kernel
theorem dX6_burstCount_15 : decode cX6_burstCount 15 = .ok (.getfield 101, 3) := by decide +kernel
theorem dX6_burstCount_18 : decode cX6_burstCount 18 = .ok (.iconst 1, 1) := by decide +kernel
theorem dX6_burstCount_19 : decode cX6_burstCount 19 = .ok (.invokevirtual 105, 3) := by decide +kernel
theorem dX6_burstCount_22 : decode cX6_burstCount 22 = .ok (.iadd, 1) := by decide +kernel
theorem dX6_burstCount_23 : decode cX6_burstCount 23 = .ok (.ireturn, 1) := by decide +kernel
set_option maxRecDepth 20000 in
theorem ggX6_openCount_X0_countPhase : GoodIn wsX6_openCount wsX0_countPhase := goodIn_ca (goodIn_r _ [7, 8, 9, 10, 11, 12, 13, 14, 15, 31, 32, 33, 34, 35, 36, 37, 38, 39, 40, 41] (by decide +kernel) (by decide +kernel)) (goodIn_sub (fun _ h => List.mem_cons_of_mem _ (List.mem_append_right _ h)) (by decide +kernel))
set_option maxRecDepth 20000 in
theorem gX6_openCount_X0_countPhase : GoodIn wsX6_openCount (wsV RX6 105 RX0 yX0_countPhase wsX0_countPhase) := goodIn_app (goodIn_of _ (by decide +kernel)) ggX6_openCount_X0_countPhase
theorem dX6_openCount_0 : decode cX6_openCount 0 = .ok (.aload_n 0, 1) := by decide +kernel
theorem dX6_openCount_1 : decode cX6_openCount 1 = .ok (.getfield 12, 3) := by decide +kernel
theorem dX6_openCount_4 : decode cX6_openCount 4 = .ok (.getfield 101, 3) := by decide +kernel
theorem dX6_openCount_7 : decode cX6_openCount 7 = .ok (.iconst 0, 1) := by decide +kernel
theorem dX6_openCount_8 : decode cX6_openCount 8 = .ok (.invokevirtual 105, 3) := by decide +kernel
theorem dX6_openCount_11 : decode cX6_openCount 11 = .ok (.ireturn, 1) := by decide +kernel
set_option maxRecDepth 20000 in
theorem ggX6_burst_X6_needBurst : GoodIn wsX6_burst wsX6_needBurst := goodIn_ca (goodIn_ca (goodIn_r _ [12, 13, 14, 1, 2, 15, 16, 17, 18, 19, 20, 21, 22, 23, 24, 25, 26, 27, 72, 73, 74, 75, 76, 77, 78, 79, 80, 81, 82, 83, 84, 85, 86, 87, 88, 89, 90, 91, 92, 93, 94, 95, 96, 97] (by decide +kernel) (by decide +kernel)) (goodIn_sub (fun _ h => List.mem_cons_of_mem _ (List.mem_append_left _ (List.mem_append_left _ (List.mem_append_right _ h)))) (by decide +kernel))) (goodIn_sub (fun _ h => List.mem_cons_of_mem _ (List.mem_append_left _ (List.mem_append_right _ h))) (by decide +kernel))
set_option maxRecDepth 20000 in
theorem gX6_burst_X6_needBurst : GoodIn wsX6_burst (wsV RX6 110 RX6 yX6_needBurst wsX6_needBurst) := goodIn_app (goodIn_of _ (by decide +kernel)) ggX6_burst_X6_needBurst
set_option maxRecDepth 20000 in
theorem ggX6_burst_X6_needWithin : GoodIn wsX6_burst wsX6_needWithin := goodIn_ca (goodIn_r _ [30, 31, 32] (by decide +kernel) (by decide +kernel)) (goodIn_sub (fun _ h => List.mem_cons_of_mem _ (List.mem_append_right _ h)) (by decide +kernel))
set_option maxRecDepth 20000 in
theorem gX6_burst_X6_needWithin : GoodIn wsX6_burst (va_wsS RX6 38 yX6_needWithin wsX6_needWithin) := goodIn_app (goodIn_of _ (by decide +kernel)) ggX6_burst_X6_needWithin
set_option maxRecDepth 20000 in
theorem ggX6_burst_X4_at : GoodIn wsX6_burst wsX4_at := goodIn_ca (goodIn_r _ [26, 27, 97] (by decide +kernel) (by decide +kernel)) (goodIn_sub (fun _ h => List.mem_cons_of_mem _ (List.mem_append_left _ (List.mem_append_right _ h))) (by decide +kernel))
set_option maxRecDepth 20000 in
theorem gX6_burst_X4_at : GoodIn wsX6_burst (wsV RX6 46 RX4 yX4_at wsX4_at) := goodIn_app (goodIn_of _ (by decide +kernel)) ggX6_burst_X4_at
set_option maxRecDepth 20000 in
theorem ggX6_burst_X3_countOf : GoodIn wsX6_burst wsX3_countOf := goodIn_ca (goodIn_r _ [38, 39, 40, 41, 23, 24, 25, 26, 27, 98, 99, 100, 101, 97] (by decide +kernel) (by decide +kernel)) (goodIn_sub (fun _ h => List.mem_cons_of_mem _ (List.mem_append_left _ (List.mem_append_right _ h))) (by decide +kernel))
set_option maxRecDepth 20000 in
theorem gX6_burst_X3_countOf : GoodIn wsX6_burst (wsV RX6 122 RX3 yX3_countOf wsX3_countOf) := goodIn_app (goodIn_of _ (by decide +kernel)) ggX6_burst_X3_countOf
set_option maxRecDepth 20000 in
theorem ggX6_burst_X1_resultOf : GoodIn wsX6_burst wsX1_resultOf := goodIn_ca (goodIn_r _ [46, 47, 48, 49, 50, 51, 23, 24, 25, 26, 27, 52, 53, 54, 37, 55, 39, 40, 56, 57, 58, 59, 60, 61, 41, 62, 63, 64, 65, 66, 67, 68, 69, 70, 71, 77, 78, 79, 80, 81, 82, 83, 84, 85, 86, 87, 88, 89, 90, 91, 92, 93, 94, 95, 96, 97, 98, 99, 100, 101] (by decide +kernel) (by decide +kernel)) (goodIn_sub (fun _ h => List.mem_cons_of_mem _ (List.mem_append_left _ (List.mem_append_right _ h))) (by decide +kernel))
set_option maxRecDepth 20000 in
theorem gX6_burst_X1_resultOf : GoodIn wsX6_burst (wsV RX6 125 RX1 yX1_resultOf wsX1_resultOf) := goodIn_app (goodIn_of _ (by decide +kernel)) ggX6_burst_X1_resultOf
theorem dX6_burst_0 : decode cX6_burst 0 = .ok (.aload_n 0, 1) := by decide +kernel
theorem dX6_burst_1 : decode cX6_burst 1 = .ok (.iload_n 1, 1) := by decide +kernel
theorem dX6_burst_2 : decode cX6_burst 2 = .ok (.invokevirtual 110, 3) := by decide +kernel
theorem dX6_burst_5 : decode cX6_burst 5 = .ok (.iload_n 2, 1) := by decide +kernel
theorem dX6_burst_6 : decode cX6_burst 6 = .ok (.iconst 0, 1) := by decide +kernel
theorem dX6_burst_7 : decode cX6_burst 7 = .ok (.iconst 5, 1) := by decide +kernel
theorem dX6_burst_8 : decode cX6_burst 8 = .ok (.invokestatic 38, 3) := by decide +kernel
theorem dX6_burst_11 : decode cX6_burst 11 = .ok (.iload_n 2, 1) := by decide +kernel
theorem dX6_burst_12 : decode cX6_burst 12 = .ok (.tableswitch 102 0 4 #[36, 51, 66, 81, 93], 36) := by decide +kernel
theorem dX6_burst_48 : decode cX6_burst 48 = .ok (.aload_n 0, 1) := by decide +kernel
theorem dX6_burst_49 : decode cX6_burst 49 = .ok (.getfield 12, 3) := by decide +kernel
theorem dX6_burst_52 : decode cX6_burst 52 = .ok (.getfield 101, 3) := by decide +kernel
theorem dX6_burst_55 : decode cX6_burst 55 = .ok (.getfield 113, 3) := by decide +kernel
theorem dX6_burst_58 : decode cX6_burst 58 = .ok (.iload_n 1, 1) := by decide +kernel
theorem dX6_burst_59 : decode cX6_burst 59 = .ok (.invokevirtual 46, 3) := by decide +kernel
theorem dX6_burst_62 : decode cX6_burst 62 = .ok (.ireturn, 1) := by decide +kernel
theorem dX6_burst_63 : decode cX6_burst 63 = .ok (.aload_n 0, 1) := by decide +kernel
theorem dX6_burst_64 : decode cX6_burst 64 = .ok (.getfield 12, 3) := by decide +kernel
theorem dX6_burst_67 : decode cX6_burst 67 = .ok (.getfield 101, 3) := by decide +kernel
theorem dX6_burst_70 : decode cX6_burst 70 = .ok (.getfield 116, 3) := by decide +kernel
theorem dX6_burst_73 : decode cX6_burst 73 = .ok (.iload_n 1, 1) := by decide +kernel
theorem dX6_burst_74 : decode cX6_burst 74 = .ok (.invokevirtual 46, 3) := by decide +kernel
theorem dX6_burst_77 : decode cX6_burst 77 = .ok (.ireturn, 1) := by decide +kernel
theorem dX6_burst_78 : decode cX6_burst 78 = .ok (.aload_n 0, 1) := by decide +kernel
theorem dX6_burst_79 : decode cX6_burst 79 = .ok (.getfield 12, 3) := by decide +kernel
theorem dX6_burst_82 : decode cX6_burst 82 = .ok (.getfield 101, 3) := by decide +kernel
theorem dX6_burst_85 : decode cX6_burst 85 = .ok (.getfield 119, 3) := by decide +kernel
theorem dX6_burst_88 : decode cX6_burst 88 = .ok (.iload_n 1, 1) := by decide +kernel
theorem dX6_burst_89 : decode cX6_burst 89 = .ok (.invokevirtual 46, 3) := by decide +kernel
theorem dX6_burst_92 : decode cX6_burst 92 = .ok (.ireturn, 1) := by decide +kernel
theorem dX6_burst_93 : decode cX6_burst 93 = .ok (.aload_n 0, 1) := by decide +kernel
theorem dX6_burst_94 : decode cX6_burst 94 = .ok (.getfield 12, 3) := by decide +kernel
theorem dX6_burst_97 : decode cX6_burst 97 = .ok (.getfield 65, 3) := by decide +kernel
theorem dX6_burst_100 : decode cX6_burst 100 = .ok (.iload_n 1, 1) := by decide +kernel
theorem dX6_burst_101 : decode cX6_burst 101 = .ok (.invokevirtual 122, 3) := by decide +kernel
theorem dX6_burst_104 : decode cX6_burst 104 = .ok (.ireturn, 1) := by decide +kernel
theorem dX6_burst_105 : decode cX6_burst 105 = .ok (.aload_n 0, 1) := by decide +kernel
theorem dX6_burst_106 : decode cX6_burst 106 = .ok (.getfield 12, 3) := by decide +kernel
theorem dX6_burst_109 : decode cX6_burst 109 = .ok (.iload_n 1, 1) := by decide +kernel
theorem dX6_burst_110 : decode cX6_burst 110 = .ok (.invokevirtual 125, 3) := by decide +kernel
theorem dX6_burst_113 : decode cX6_burst 113 = .ok (.ireturn, 1) := by decide +kernel
theorem dX6_burst_114 : decode cX6_burst 114 = .ok (.aload_n 0, 1) := by decide +kernel
theorem dX6_burst_115 : decode cX6_burst 115 = .ok (.getfield 12, 3) := by decide +kernel
theorem dX6_burst_118 : decode cX6_burst 118 = .ok (.getfield 101, 3) := by decide +kernel
theorem dX6_burst_121 : decode cX6_burst 121 = .ok (.getfield 128, 3) := by decide +kernel
theorem dX6_burst_124 : decode cX6_burst 124 = .ok (.iload_n 1, 1) := by decide +kernel
theorem dX6_burst_125 : decode cX6_burst 125 = .ok (.invokevirtual 46, 3) := by decide +kernel
theorem dX6_burst_128 : decode cX6_burst 128 = .ok (.ireturn, 1) := by decide +kernel
set_option maxRecDepth 20000 in
theorem ggX6_isClosed_X6_needBurst : GoodIn wsX6_isClosed wsX6_needBurst := goodIn_ca (goodIn_ca (goodIn_r _ [7, 8, 9, 1, 2, 10, 11, 12, 13, 14, 15, 16, 17, 18, 19, 20, 21, 22, 27, 28, 29, 30, 31, 32, 33, 34, 35, 36, 37, 38, 39, 40, 41, 42, 43, 44, 45, 46, 47, 48, 49, 50, 51, 52] (by decide +kernel) (by decide +kernel)) (goodIn_sub (fun _ h => List.mem_cons_of_mem _ (List.mem_append_left _ (List.mem_append_right _ h))) (by decide +kernel))) (goodIn_sub (fun _ h => List.mem_cons_of_mem _ (List.mem_append_right _ h)) (by decide +kernel))
set_option maxRecDepth 20000 in
theorem gX6_isClosed_X6_needBurst : GoodIn wsX6_isClosed (wsV RX6 110 RX6 yX6_needBurst wsX6_needBurst) := goodIn_app (goodIn_of _ (by decide +kernel)) ggX6_isClosed_X6_needBurst
set_option maxRecDepth 20000 in
theorem ggX6_isClosed_X0_isOpen : GoodIn wsX6_isClosed wsX0_isOpen := goodIn_ca (goodIn_r _ [26, 15, 16, 17, 18, 19, 20, 21, 22, 42, 43, 44, 45, 46, 47, 48, 49, 50, 51, 52] (by decide +kernel) (by decide +kernel)) (goodIn_sub (fun _ h => List.mem_cons_of_mem _ (List.mem_append_right _ h)) (by decide +kernel))
set_option maxRecDepth 20000 in
theorem gX6_isClosed_X0_isOpen : GoodIn wsX6_isClosed (wsV RX6 131 RX0 yX0_isOpen wsX0_isOpen) := goodIn_app (goodIn_of _ (by decide +kernel)) ggX6_isClosed_X0_isOpen
theorem dX6_isClosed_0 : decode cX6_isClosed 0 = .ok (.aload_n 0, 1) := by decide +kernel
theorem dX6_isClosed_1 : decode cX6_isClosed 1 = .ok (.iload_n 1, 1) := by decide +kernel
theorem dX6_isClosed_2 : decode cX6_isClosed 2 = .ok (.invokevirtual 110, 3) := by decide +kernel
theorem dX6_isClosed_5 : decode cX6_isClosed 5 = .ok (.aload_n 0, 1) := by decide +kernel
theorem dX6_isClosed_6 : decode cX6_isClosed 6 = .ok (.getfield 12, 3) := by decide +kernel
theorem dX6_isClosed_9 : decode cX6_isClosed 9 = .ok (.getfield 101, 3) := by decide +kernel
theorem dX6_isClosed_12 : decode cX6_isClosed 12 = .ok (.iload_n 1, 1) := by decide +kernel
theorem dX6_isClosed_13 : decode cX6_isClosed 13 = .ok (.invokevirtual 131, 3) := by decide +kernel
theorem dX6_isClosed_16 : decode cX6_isClosed 16 = .ok (.ifCond .ne 7, 3) := by decide +kernel
theorem dX6_isClosed_19 : decode cX6_isClosed 19 = .ok (.iconst 1, 1) := by decide +kernel
theorem dX6_isClosed_20 : decode cX6_isClosed 20 = .ok (.goto 4, 3) := by decide +kernel
theorem dX6_isClosed_23 : decode cX6_isClosed 23 = .ok (.iconst 0, 1) := by decide +kernel
theorem dX6_isClosed_24 : decode cX6_isClosed 24 = .ok (.ireturn, 1) := by decide +kernel
set_option maxRecDepth 20000 in
theorem ggX6_isDirty_X6_needBurst : GoodIn wsX6_isDirty wsX6_needBurst := goodIn_ca (goodIn_ca (goodIn_r _ [7, 8, 9, 1, 2, 10, 11, 12, 13, 14, 15, 16, 17, 18, 19, 20, 21, 22, 71, 72, 73, 74, 75, 76, 77, 78, 79, 80, 81, 82, 83, 84, 85, 86, 87, 88, 89, 90, 91, 92, 93, 94, 95, 96] (by decide +kernel) (by decide +kernel)) (goodIn_sub (fun _ h => List.mem_cons_of_mem _ (List.mem_append_left _ (List.mem_append_right _ h))) (by decide +kernel))) (goodIn_sub (fun _ h => List.mem_cons_of_mem _ (List.mem_append_right _ h)) (by decide +kernel))
set_option maxRecDepth 20000 in
theorem gX6_isDirty_X6_needBurst : GoodIn wsX6_isDirty (wsV RX6 110 RX6 yX6_needBurst wsX6_needBurst) := goodIn_app (goodIn_of _ (by decide +kernel)) ggX6_isDirty_X6_needBurst
set_option maxRecDepth 20000 in
theorem ggX6_isDirty_X0_hasFired : GoodIn wsX6_isDirty wsX0_hasFired := goodIn_ca (goodIn_r _ [26, 27, 17, 18, 19, 20, 21, 22, 86, 87, 88, 89, 90, 91, 92, 93, 94, 95, 96] (by decide +kernel) (by decide +kernel)) (goodIn_sub (fun _ h => List.mem_cons_of_mem _ (List.mem_append_right _ h)) (by decide +kernel))
set_option maxRecDepth 20000 in
theorem gX6_isDirty_X0_hasFired : GoodIn wsX6_isDirty (wsV RX6 135 RX0 yX0_hasFired wsX0_hasFired) := goodIn_app (goodIn_of _ (by decide +kernel)) ggX6_isDirty_X0_hasFired
set_option maxRecDepth 20000 in
theorem ggX6_isDirty_X1_resultOf : GoodIn wsX6_isDirty wsX1_resultOf := goodIn_ca (goodIn_r _ [32, 33, 34, 35, 36, 37, 18, 19, 20, 21, 22, 38, 39, 40, 41, 42, 43, 44, 45, 46, 47, 48, 49, 50, 51, 52, 53, 54, 55, 56, 57, 58, 59, 60, 61, 76, 77, 78, 79, 80, 81, 82, 83, 84, 85, 86, 87, 88, 89, 90, 91, 92, 93, 94, 95, 96, 97, 98, 99, 100] (by decide +kernel) (by decide +kernel)) (goodIn_sub (fun _ h => List.mem_cons_of_mem _ (List.mem_append_right _ h)) (by decide +kernel))
set_option maxRecDepth 20000 in
theorem gX6_isDirty_X1_resultOf : GoodIn wsX6_isDirty (wsV RX6 125 RX1 yX1_resultOf wsX1_resultOf) := goodIn_app (goodIn_of _ (by decide +kernel)) ggX6_isDirty_X1_resultOf
set_option maxRecDepth 20000 in
theorem ggX6_isDirty_X0_differsFromFired : GoodIn wsX6_isDirty wsX0_differsFromFired := goodIn_ca (goodIn_r _ [65, 66, 67, 68, 69, 70, 17, 18, 19, 20, 21, 22, 86, 87, 88, 89, 90, 91, 92, 93, 94, 95, 96] (by decide +kernel) (by decide +kernel)) (goodIn_sub (fun _ h => List.mem_cons_of_mem _ (List.mem_append_right _ h)) (by decide +kernel))
set_option maxRecDepth 20000 in
theorem gX6_isDirty_X0_differsFromFired : GoodIn wsX6_isDirty (wsV RX6 138 RX0 yX0_differsFromFired wsX0_differsFromFired) := goodIn_app (goodIn_of _ (by decide +kernel)) ggX6_isDirty_X0_differsFromFired
theorem dX6_isDirty_0 : decode cX6_isDirty 0 = .ok (.aload_n 0, 1) := by decide +kernel
theorem dX6_isDirty_1 : decode cX6_isDirty 1 = .ok (.iload_n 1, 1) := by decide +kernel
theorem dX6_isDirty_2 : decode cX6_isDirty 2 = .ok (.invokevirtual 110, 3) := by decide +kernel
theorem dX6_isDirty_5 : decode cX6_isDirty 5 = .ok (.aload_n 0, 1) := by decide +kernel
theorem dX6_isDirty_6 : decode cX6_isDirty 6 = .ok (.getfield 12, 3) := by decide +kernel
theorem dX6_isDirty_9 : decode cX6_isDirty 9 = .ok (.getfield 101, 3) := by decide +kernel
theorem dX6_isDirty_12 : decode cX6_isDirty 12 = .ok (.iload_n 1, 1) := by decide +kernel
theorem dX6_isDirty_13 : decode cX6_isDirty 13 = .ok (.invokevirtual 135, 3) := by decide +kernel
theorem dX6_isDirty_16 : decode cX6_isDirty 16 = .ok (.ifCond .eq 25, 3) := by decide +kernel
theorem dX6_isDirty_19 : decode cX6_isDirty 19 = .ok (.aload_n 0, 1) := by decide +kernel
theorem dX6_isDirty_20 : decode cX6_isDirty 20 = .ok (.getfield 12, 3) := by decide +kernel
theorem dX6_isDirty_23 : decode cX6_isDirty 23 = .ok (.getfield 101, 3) := by decide +kernel
theorem dX6_isDirty_26 : decode cX6_isDirty 26 = .ok (.iload_n 1, 1) := by decide +kernel
theorem dX6_isDirty_27 : decode cX6_isDirty 27 = .ok (.aload_n 0, 1) := by decide +kernel
theorem dX6_isDirty_28 : decode cX6_isDirty 28 = .ok (.getfield 12, 3) := by decide +kernel
theorem dX6_isDirty_31 : decode cX6_isDirty 31 = .ok (.iload_n 1, 1) := by decide +kernel
theorem dX6_isDirty_32 : decode cX6_isDirty 32 = .ok (.invokevirtual 125, 3) := by decide +kernel
theorem dX6_isDirty_35 : decode cX6_isDirty 35 = .ok (.invokevirtual 138, 3) := by decide +kernel
theorem dX6_isDirty_38 : decode cX6_isDirty 38 = .ok (.ifCond .eq 7, 3) := by decide +kernel
theorem dX6_isDirty_41 : decode cX6_isDirty 41 = .ok (.iconst 1, 1) := by decide +kernel
theorem dX6_isDirty_42 : decode cX6_isDirty 42 = .ok (.goto 4, 3) := by decide +kernel
theorem dX6_isDirty_45 : decode cX6_isDirty 45 = .ok (.iconst 0, 1) := by decide +kernel
theorem dX6_isDirty_46 : decode cX6_isDirty 46 = .ok (.ireturn, 1) := by decide +kernel
set_option maxRecDepth 20000 in
theorem ggX6_burstAt_X6_needKey : GoodIn wsX6_burstAt wsX6_needKey := goodIn_ca (goodIn_r _ [6, 7, 8] (by decide +kernel) (by decide +kernel)) (goodIn_sub (fun _ h => List.mem_cons_of_mem _ (List.mem_append_left _ (List.mem_append_left _ (List.mem_append_right _ h)))) (by decide +kernel))
set_option maxRecDepth 20000 in
theorem gX6_burstAt_X6_needKey : GoodIn wsX6_burstAt (va_wsS RX6 34 yX6_needKey wsX6_needKey) := goodIn_app (goodIn_of _ (by decide +kernel)) ggX6_burstAt_X6_needKey
set_option maxRecDepth 20000 in
theorem ggX6_burstAt_X0_atPlace : GoodIn wsX6_burstAt wsX0_atPlace := goodIn_ca (goodIn_r _ [13, 14, 15, 16, 17, 12, 18, 19, 20, 21, 22, 23, 24, 25, 26, 27, 28, 29, 30, 31, 32, 33, 34, 35, 36, 37, 38, 39, 60, 61, 62, 63, 64, 65, 66, 67, 68, 69, 70] (by decide +kernel) (by decide +kernel)) (goodIn_sub (fun _ h => List.mem_cons_of_mem _ (List.mem_append_left _ (List.mem_append_right _ h))) (by decide +kernel))
set_option maxRecDepth 20000 in
theorem gX6_burstAt_X0_atPlace : GoodIn wsX6_burstAt (wsV RX6 141 RX0 yX0_atPlace wsX0_atPlace) := goodIn_app (goodIn_of _ (by decide +kernel)) ggX6_burstAt_X0_atPlace
set_option maxRecDepth 20000 in
theorem ggX6_burstAt_X6_needFound : GoodIn wsX6_burstAt wsX6_needFound := goodIn_ca (goodIn_r _ [42, 43, 44] (by decide +kernel) (by decide +kernel)) (goodIn_sub (fun _ h => List.mem_cons_of_mem _ (List.mem_append_right _ h)) (by decide +kernel))
set_option maxRecDepth 20000 in
theorem gX6_burstAt_X6_needFound : GoodIn wsX6_burstAt (va_wsS RX6 145 yX6_needFound wsX6_needFound) := goodIn_app (goodIn_of _ (by decide +kernel)) ggX6_burstAt_X6_needFound
theorem dX6_burstAt_0 : decode cX6_burstAt 0 = .ok (.iload_n 1, 1) := by decide +kernel
theorem dX6_burstAt_1 : decode cX6_burstAt 1 = .ok (.invokestatic 34, 3) := by decide +kernel
theorem dX6_burstAt_4 : decode cX6_burstAt 4 = .ok (.aload_n 0, 1) := by decide +kernel
theorem dX6_burstAt_5 : decode cX6_burstAt 5 = .ok (.getfield 12, 3) := by decide +kernel
theorem dX6_burstAt_8 : decode cX6_burstAt 8 = .ok (.getfield 101, 3) := by decide +kernel
theorem dX6_burstAt_11 : decode cX6_burstAt 11 = .ok (.iload_n 1, 1) := by decide +kernel
theorem dX6_burstAt_12 : decode cX6_burstAt 12 = .ok (.iload_n 2, 1) := by decide +kernel
theorem dX6_burstAt_13 : decode cX6_burstAt 13 = .ok (.invokevirtual 141, 3) := by decide +kernel
theorem dX6_burstAt_16 : decode cX6_burstAt 16 = .ok (.invokestatic 145, 3) := by decide +kernel
theorem dX6_burstAt_19 : decode cX6_burstAt 19 = .ok (.ireturn, 1) := by decide +kernel
set_option maxRecDepth 20000 in
theorem ggX6_joined_X6_needKey : GoodIn wsX6_joined wsX6_needKey := goodIn_ca (goodIn_r _ [7, 8, 9] (by decide +kernel) (by decide +kernel)) (goodIn_sub (fun _ h => List.mem_cons_of_mem _ (List.mem_append_left _ (List.mem_append_left _ (List.mem_append_left _ (List.mem_append_right _ h))))) (by decide +kernel))
set_option maxRecDepth 20000 in
theorem gX6_joined_X6_needKey : GoodIn wsX6_joined (va_wsS RX6 34 yX6_needKey wsX6_needKey) := goodIn_app (goodIn_of _ (by decide +kernel)) ggX6_joined_X6_needKey
set_option maxRecDepth 20000 in
theorem ggX6_joined_X6_needWithin : GoodIn wsX6_joined wsX6_needWithin := goodIn_ca (goodIn_r _ [12, 13, 14] (by decide +kernel) (by decide +kernel)) (goodIn_sub (fun _ h => List.mem_cons_of_mem _ (List.mem_append_left _ (List.mem_append_left _ (List.mem_append_right _ h)))) (by decide +kernel))
set_option maxRecDepth 20000 in
theorem gX6_joined_X6_needWithin : GoodIn wsX6_joined (va_wsS RX6 38 yX6_needWithin wsX6_needWithin) := goodIn_app (goodIn_of _ (by decide +kernel)) ggX6_joined_X6_needWithin
set_option maxRecDepth 20000 in
theorem ggX6_joined_X4_at : GoodIn wsX6_joined wsX4_at := goodIn_ca (goodIn_r _ [19, 20, 56] (by decide +kernel) (by decide +kernel)) (goodIn_sub (fun _ h => List.mem_cons_of_mem _ (List.mem_append_left _ (List.mem_append_right _ h))) (by decide +kernel))
set_option maxRecDepth 20000 in
theorem gX6_joined_X4_at : GoodIn wsX6_joined (wsV RX6 46 RX4 yX4_at wsX4_at) := goodIn_app (goodIn_of _ (by decide +kernel)) ggX6_joined_X4_at
set_option maxRecDepth 20000 in
theorem ggX6_joined_X0_inReach : GoodIn wsX6_joined wsX0_inReach := goodIn_ca (goodIn_r _ [25, 26, 27, 28, 29, 30, 31, 24, 32, 33, 34, 35, 16, 17, 18, 19, 20, 57, 58, 59, 60, 61, 62, 63, 64, 65, 66, 56] (by decide +kernel) (by decide +kernel)) (goodIn_sub (fun _ h => List.mem_cons_of_mem _ (List.mem_append_left _ (List.mem_append_right _ h))) (by decide +kernel))
set_option maxRecDepth 20000 in
theorem gX6_joined_X0_inReach : GoodIn wsX6_joined (wsV RX6 148 RX0 yX0_inReach wsX0_inReach) := goodIn_app (goodIn_of _ (by decide +kernel)) ggX6_joined_X0_inReach
set_option maxRecDepth 20000 in
theorem ggX6_joined_X6_needFound : GoodIn wsX6_joined wsX6_needFound := goodIn_ca (goodIn_r _ [38, 39, 40] (by decide +kernel) (by decide +kernel)) (goodIn_sub (fun _ h => List.mem_cons_of_mem _ (List.mem_append_right _ h)) (by decide +kernel))
set_option maxRecDepth 20000 in
theorem gX6_joined_X6_needFound : GoodIn wsX6_joined (va_wsS RX6 145 yX6_needFound wsX6_needFound) := goodIn_app (goodIn_of _ (by decide +kernel)) ggX6_joined_X6_needFound
theorem dX6_joined_0 : decode cX6_joined 0 = .ok (.iload_n 1, 1) := by decide +kernel
theorem dX6_joined_1 : decode cX6_joined 1 = .ok (.invokestatic 34, 3) := by decide +kernel
theorem dX6_joined_4 : decode cX6_joined 4 = .ok (.iload_n 2, 1) := by decide +kernel
theorem dX6_joined_5 : decode cX6_joined 5 = .ok (.iconst 0, 1) := by decide +kernel
theorem dX6_joined_6 : decode cX6_joined 6 = .ok (.sipush 9999, 3) := by decide +kernel
theorem dX6_joined_9 : decode cX6_joined 9 = .ok (.invokestatic 38, 3) := by decide +kernel
theorem dX6_joined_12 : decode cX6_joined 12 = .ok (.aload_n 0, 1) := by decide +kernel
theorem dX6_joined_13 : decode cX6_joined 13 = .ok (.getfield 12, 3) := by decide +kernel
theorem dX6_joined_16 : decode cX6_joined 16 = .ok (.getfield 101, 3) := by decide +kernel
theorem dX6_joined_19 : decode cX6_joined 19 = .ok (.iload_n 1, 1) := by decide +kernel
theorem dX6_joined_20 : decode cX6_joined 20 = .ok (.iload_n 2, 1) := by decide +kernel
theorem dX6_joined_21 : decode cX6_joined 21 = .ok (.aload_n 0, 1) := by decide +kernel
theorem dX6_joined_22 : decode cX6_joined 22 = .ok (.getfield 12, 3) := by decide +kernel
theorem dX6_joined_25 : decode cX6_joined 25 = .ok (.getfield 42, 3) := by decide +kernel
theorem dX6_joined_28 : decode cX6_joined 28 = .ok (.iload_n 1, 1) := by decide +kernel
theorem dX6_joined_29 : decode cX6_joined 29 = .ok (.invokevirtual 46, 3) := by decide +kernel
theorem dX6_joined_32 : decode cX6_joined 32 = .ok (.invokevirtual 148, 3) := by decide +kernel
theorem dX6_joined_35 : decode cX6_joined 35 = .ok (.invokestatic 145, 3) := by decide +kernel
theorem dX6_joined_38 : decode cX6_joined 38 = .ok (.ireturn, 1) := by decide +kernel
set_option maxRecDepth 20000 in
theorem ggX6_record_X6_needBurst : GoodIn wsX6_record wsX6_needBurst := goodIn_ca (goodIn_ca (goodIn_r _ [9, 10, 11, 1, 12, 13, 14, 15, 16, 17, 18, 19, 20, 21, 22, 23, 24, 25, 40, 41, 42, 43, 44, 45, 46, 47, 48, 49, 50, 51, 52, 53, 54, 59, 60, 61, 62, 63, 64, 65, 66, 67, 68, 69] (by decide +kernel) (by decide +kernel)) (goodIn_sub (fun _ h => List.mem_cons_of_mem _ (List.mem_append_left _ (List.mem_append_left _ (List.mem_append_right _ h)))) (by decide +kernel))) (goodIn_sub (fun _ h => List.mem_cons_of_mem _ (List.mem_append_left _ (List.mem_append_right _ h))) (by decide +kernel))
set_option maxRecDepth 20000 in
theorem gX6_record_X6_needBurst : GoodIn wsX6_record (wsV RX6 110 RX6 yX6_needBurst wsX6_needBurst) := goodIn_app (goodIn_of _ (by decide +kernel)) ggX6_record_X6_needBurst
set_option maxRecDepth 20000 in
theorem ggX6_record_X3_placeOf : GoodIn wsX6_record wsX3_placeOf := goodIn_ca (goodIn_r _ [30, 31, 32, 33, 21, 22, 23, 24, 25, 55, 56, 57, 58, 69] (by decide +kernel) (by decide +kernel)) (goodIn_sub (fun _ h => List.mem_cons_of_mem _ (List.mem_append_left _ (List.mem_append_right _ h))) (by decide +kernel))
set_option maxRecDepth 20000 in
theorem gX6_record_X3_placeOf : GoodIn wsX6_record (wsV RX6 151 RX3 yX3_placeOf wsX3_placeOf) := goodIn_app (goodIn_of _ (by decide +kernel)) ggX6_record_X3_placeOf
set_option maxRecDepth 20000 in
theorem ggX6_record_X6_needFound : GoodIn wsX6_record wsX6_needFound := goodIn_ca (goodIn_r _ [36, 37, 38] (by decide +kernel) (by decide +kernel)) (goodIn_sub (fun _ h => List.mem_cons_of_mem _ (List.mem_append_right _ h)) (by decide +kernel))
set_option maxRecDepth 20000 in
theorem gX6_record_X6_needFound : GoodIn wsX6_record (va_wsS RX6 145 yX6_needFound wsX6_needFound) := goodIn_app (goodIn_of _ (by decide +kernel)) ggX6_record_X6_needFound
set_option maxRecDepth 20000 in
theorem ggX6_record_X4_at : GoodIn wsX6_record wsX4_at := goodIn_ca (goodIn_r _ [24, 25, 69] (by decide +kernel) (by decide +kernel)) (goodIn_sub (fun _ h => List.mem_cons_of_mem _ (List.mem_append_left _ (List.mem_append_right _ h))) (by decide +kernel))
set_option maxRecDepth 20000 in
theorem gX6_record_X4_at : GoodIn wsX6_record (wsV RX6 46 RX4 yX4_at wsX4_at) := goodIn_app (goodIn_of _ (by decide +kernel)) ggX6_record_X4_at
theorem dX6_record_0 : decode cX6_record 0 = .ok (.aload_n 0, 1) := by decide +kernel
theorem dX6_record_1 : decode cX6_record 1 = .ok (.iload_n 1, 1) := by decide +kernel
theorem dX6_record_2 : decode cX6_record 2 = .ok (.invokevirtual 110, 3) := by decide +kernel
theorem dX6_record_5 : decode cX6_record 5 = .ok (.aload_n 0, 1) := by decide +kernel
theorem dX6_record_6 : decode cX6_record 6 = .ok (.getfield 12, 3) := by decide +kernel
theorem dX6_record_9 : decode cX6_record 9 = .ok (.getfield 65, 3) := by decide +kernel
theorem dX6_record_12 : decode cX6_record 12 = .ok (.iload_n 1, 1) := by decide +kernel
theorem dX6_record_13 : decode cX6_record 13 = .ok (.iload_n 2, 1) := by decide +kernel
theorem dX6_record_14 : decode cX6_record 14 = .ok (.invokevirtual 151, 3) := by decide +kernel
theorem dX6_record_17 : decode cX6_record 17 = .ok (.invokestatic 145, 3) := by decide +kernel
theorem dX6_record_20 : decode cX6_record 20 = .ok (.istore 4, 2) := by decide +kernel
theorem dX6_record_22 : decode cX6_record 22 = .ok (.iload_n 3, 1) := by decide +kernel
theorem dX6_record_23 : decode cX6_record 23 = .ok (.ifCond .eq 21, 3) := by decide +kernel
theorem dX6_record_26 : decode cX6_record 26 = .ok (.aload_n 0, 1) := by decide +kernel
theorem dX6_record_27 : decode cX6_record 27 = .ok (.getfield 12, 3) := by decide +kernel
theorem dX6_record_30 : decode cX6_record 30 = .ok (.getfield 65, 3) := by decide +kernel
theorem dX6_record_33 : decode cX6_record 33 = .ok (.getfield 154, 3) := by decide +kernel
theorem dX6_record_36 : decode cX6_record 36 = .ok (.iload 4, 2) := by decide +kernel
theorem dX6_record_38 : decode cX6_record 38 = .ok (.invokevirtual 46, 3) := by decide +kernel
theorem dX6_record_41 : decode cX6_record 41 = .ok (.goto 18, 3) := by decide +kernel
theorem dX6_record_44 : decode cX6_record 44 = .ok (.aload_n 0, 1) := by decide +kernel
theorem dX6_record_45 : decode cX6_record 45 = .ok (.getfield 12, 3) := by decide +kernel
theorem dX6_record_48 : decode cX6_record 48 = .ok (.getfield 65, 3) := by decide +kernel
theorem dX6_record_51 : decode cX6_record 51 = .ok (.getfield 157, 3) := by decide +kernel
theorem dX6_record_54 : decode cX6_record 54 = .ok (.iload 4, 2) := by decide +kernel
theorem dX6_record_56 : decode cX6_record 56 = .ok (.invokevirtual 46, 3) := by decide +kernel
theorem dX6_record_59 : decode cX6_record 59 = .ok (.ireturn, 1) := by decide +kernel
set_option maxRecDepth 20000 in
theorem ggX6_closesAt_X6_needBurst : GoodIn wsX6_closesAt wsX6_needBurst := goodIn_ca (goodIn_ca (goodIn_r _ [6, 7, 8, 1, 9, 10, 11, 12, 13, 14, 15, 16, 17, 18, 19, 20, 21, 22, 44, 45, 46, 47, 48, 49, 50, 51, 52, 53, 54, 55, 56, 57, 58, 59, 60, 61, 62, 63, 64, 65, 66, 67, 68, 69] (by decide +kernel) (by decide +kernel)) (goodIn_sub (fun _ h => List.mem_cons_of_mem _ (List.mem_append_left _ (List.mem_append_left _ (List.mem_append_right _ h)))) (by decide +kernel))) (goodIn_sub (fun _ h => List.mem_cons_of_mem _ (List.mem_append_left _ (List.mem_append_right _ h))) (by decide +kernel))
set_option maxRecDepth 20000 in
theorem gX6_closesAt_X6_needBurst : GoodIn wsX6_closesAt (wsV RX6 110 RX6 yX6_needBurst wsX6_needBurst) := goodIn_app (goodIn_of _ (by decide +kernel)) ggX6_closesAt_X6_needBurst
set_option maxRecDepth 20000 in
theorem ggX6_closesAt_X6_needOpen : GoodIn wsX6_closesAt wsX6_needOpen := goodIn_ca (goodIn_ca (goodIn_r _ [26, 27, 28, 1, 9, 29, 30, 31, 13, 32, 15, 16, 17, 18, 19, 20, 21, 22, 44, 45, 46, 47, 48, 49, 50, 51, 52, 53, 54, 55, 56, 57, 58, 59, 60, 61, 62, 63, 64, 65, 66, 67, 68, 69] (by decide +kernel) (by decide +kernel)) (goodIn_sub (fun _ h => List.mem_cons_of_mem _ (List.mem_append_right _ h)) (by decide +kernel))) (goodIn_sub (fun _ h => List.mem_cons_of_mem _ (List.mem_append_left _ (List.mem_append_right _ h))) (by decide +kernel))
set_option maxRecDepth 20000 in
theorem gX6_closesAt_X6_needOpen : GoodIn wsX6_closesAt (wsV RX6 160 RX6 yX6_needOpen wsX6_needOpen) := goodIn_app (goodIn_of _ (by decide +kernel)) ggX6_closesAt_X6_needOpen
set_option maxRecDepth 20000 in
theorem ggX6_closesAt_X1_closingMark : GoodIn wsX6_closesAt wsX1_closingMark := goodIn_ca (goodIn_r _ [37, 38, 39, 40, 41, 42, 43, 18, 19, 20, 21, 22, 49, 50, 51, 52, 53, 54, 55, 56, 57, 58, 59, 60, 61, 62, 63, 64, 65, 66, 67, 68, 69] (by decide +kernel) (by decide +kernel)) (goodIn_sub (fun _ h => List.mem_cons_of_mem _ (List.mem_append_left _ (List.mem_append_right _ h))) (by decide +kernel))
set_option maxRecDepth 20000 in
theorem gX6_closesAt_X1_closingMark : GoodIn wsX6_closesAt (wsV RX6 163 RX1 yX1_closingMark wsX1_closingMark) := goodIn_app (goodIn_of _ (by decide +kernel)) ggX6_closesAt_X1_closingMark
theorem dX6_closesAt_0 : decode cX6_closesAt 0 = .ok (.aload_n 0, 1) := by decide +kernel
theorem dX6_closesAt_1 : decode cX6_closesAt 1 = .ok (.iload_n 1, 1) := by decide +kernel
theorem dX6_closesAt_2 : decode cX6_closesAt 2 = .ok (.invokevirtual 110, 3) := by decide +kernel
theorem dX6_closesAt_5 : decode cX6_closesAt 5 = .ok (.aload_n 0, 1) := by decide +kernel
theorem dX6_closesAt_6 : decode cX6_closesAt 6 = .ok (.iload_n 1, 1) := by decide +kernel
theorem dX6_closesAt_7 : decode cX6_closesAt 7 = .ok (.invokevirtual 160, 3) := by decide +kernel
theorem dX6_closesAt_10 : decode cX6_closesAt 10 = .ok (.aload_n 0, 1) := by decide +kernel
theorem dX6_closesAt_11 : decode cX6_closesAt 11 = .ok (.getfield 12, 3) := by decide +kernel
theorem dX6_closesAt_14 : decode cX6_closesAt 14 = .ok (.iload_n 1, 1) := by decide +kernel
theorem dX6_closesAt_15 : decode cX6_closesAt 15 = .ok (.invokevirtual 163, 3) := by decide +kernel
theorem dX6_closesAt_18 : decode cX6_closesAt 18 = .ok (.ireturn, 1) := by decide +kernel
set_option maxRecDepth 20000 in
theorem ggX6_nextClosing_X1_leastClosingMark : GoodIn wsX6_nextClosing wsX1_leastClosingMark := goodIn_ca (goodIn_r _ [6, 7, 8, 9, 10, 11, 12, 13, 14, 15, 16, 17, 18, 19, 20, 21, 22, 23, 24, 25, 26, 27, 28, 29, 5, 30, 31, 32, 33, 34, 35, 51, 52, 53, 54, 55, 56, 57, 58, 59, 60, 61, 62, 63, 64, 65, 66, 67, 68, 69, 70, 71] (by decide +kernel) (by decide +kernel)) (goodIn_sub (fun _ h => List.mem_cons_of_mem _ (List.mem_append_left _ (List.mem_append_right _ h))) (by decide +kernel))
set_option maxRecDepth 20000 in
theorem gX6_nextClosing_X1_leastClosingMark : GoodIn wsX6_nextClosing (wsV RX6 166 RX1 yX1_leastClosingMark wsX1_leastClosingMark) := goodIn_app (goodIn_of _ (by decide +kernel)) ggX6_nextClosing_X1_leastClosingMark
set_option maxRecDepth 20000 in
theorem ggX6_nextClosing_X1_firstToClose : GoodIn wsX6_nextClosing wsX1_firstToClose := goodIn_ca (goodIn_r _ [39, 8, 9, 31, 14, 15, 16, 17, 18, 19, 20, 21, 22, 23, 24, 25, 26, 27, 28, 29, 5, 30, 32, 33, 34, 35, 51, 52, 53, 54, 55, 56, 57, 58, 59, 60, 61, 62, 63, 64, 65, 66, 67, 68, 69, 70, 71] (by decide +kernel) (by decide +kernel)) (goodIn_sub (fun _ h => List.mem_cons_of_mem _ (List.mem_append_left _ (List.mem_append_right _ h))) (by decide +kernel))
set_option maxRecDepth 20000 in
theorem gX6_nextClosing_X1_firstToClose : GoodIn wsX6_nextClosing (wsV RX6 170 RX1 yX1_firstToClose wsX1_firstToClose) := goodIn_app (goodIn_of _ (by decide +kernel)) ggX6_nextClosing_X1_firstToClose
set_option maxRecDepth 20000 in
theorem ggX6_nextClosing_X6_needFound : GoodIn wsX6_nextClosing wsX6_needFound := goodIn_ca (goodIn_r _ [43, 44, 45] (by decide +kernel) (by decide +kernel)) (goodIn_sub (fun _ h => List.mem_cons_of_mem _ (List.mem_append_right _ h)) (by decide +kernel))
set_option maxRecDepth 20000 in
theorem gX6_nextClosing_X6_needFound : GoodIn wsX6_nextClosing (va_wsS RX6 145 yX6_needFound wsX6_needFound) := goodIn_app (goodIn_of _ (by decide +kernel)) ggX6_nextClosing_X6_needFound
theorem dX6_nextClosing_0 : decode cX6_nextClosing 0 = .ok (.aload_n 0, 1) := by decide +kernel
theorem dX6_nextClosing_1 : decode cX6_nextClosing 1 = .ok (.getfield 12, 3) := by decide +kernel
theorem dX6_nextClosing_4 : decode cX6_nextClosing 4 = .ok (.aload_n 0, 1) := by decide +kernel
theorem dX6_nextClosing_5 : decode cX6_nextClosing 5 = .ok (.getfield 12, 3) := by decide +kernel
theorem dX6_nextClosing_8 : decode cX6_nextClosing 8 = .ok (.invokevirtual 166, 3) := by decide +kernel
theorem dX6_nextClosing_11 : decode cX6_nextClosing 11 = .ok (.invokevirtual 170, 3) := by decide +kernel
theorem dX6_nextClosing_14 : decode cX6_nextClosing 14 = .ok (.invokestatic 145, 3) := by decide +kernel
theorem dX6_nextClosing_17 : decode cX6_nextClosing 17 = .ok (.ireturn, 1) := by decide +kernel
set_option maxRecDepth 20000 in
theorem ggX6_averageLength_X6_needKey : GoodIn wsX6_averageLength wsX6_needKey := goodIn_ca (goodIn_r _ [8, 9, 10] (by decide +kernel) (by decide +kernel)) (goodIn_sub (fun _ h => List.mem_cons_of_mem _ (List.mem_append_left _ (List.mem_append_right _ h))) (by decide +kernel))
set_option maxRecDepth 20000 in
theorem gX6_averageLength_X6_needKey : GoodIn wsX6_averageLength (va_wsS RX6 34 yX6_needKey wsX6_needKey) := goodIn_app (goodIn_of _ (by decide +kernel)) ggX6_averageLength_X6_needKey
set_option maxRecDepth 20000 in
theorem ggX6_averageLength_X0_countOfKey : GoodIn wsX6_averageLength wsX0_countOfKey := goodIn_ca (goodIn_r _ [15, 16, 17, 18, 19, 14, 20, 21, 22, 23, 24, 25, 26, 27, 28, 29, 30, 31, 32, 54, 55, 56, 57, 58, 59, 60, 61, 62, 63, 64] (by decide +kernel) (by decide +kernel)) (goodIn_sub (fun _ h => List.mem_cons_of_mem _ (List.mem_append_right _ h)) (by decide +kernel))
set_option maxRecDepth 20000 in
theorem gX6_averageLength_X0_countOfKey : GoodIn wsX6_averageLength (wsV RX6 173 RX0 yX0_countOfKey wsX0_countOfKey) := goodIn_app (goodIn_of _ (by decide +kernel)) ggX6_averageLength_X0_countOfKey
set_option maxRecDepth 20000 in
theorem ggX6_averageLength_X0_lengthOfKey : GoodIn wsX6_averageLength wsX0_lengthOfKey := goodIn_ca (goodIn_r _ [36, 16, 37, 38, 17, 18, 19, 14, 20, 21, 22, 23, 24, 25, 26, 27, 28, 29, 30, 31, 32, 54, 55, 56, 57, 58, 59, 60, 61, 62, 63, 64] (by decide +kernel) (by decide +kernel)) (goodIn_sub (fun _ h => List.mem_cons_of_mem _ (List.mem_append_right _ h)) (by decide +kernel))
set_option maxRecDepth 20000 in
theorem gX6_averageLength_X0_lengthOfKey : GoodIn wsX6_averageLength (wsV RX6 181 RX0 yX0_lengthOfKey wsX0_lengthOfKey) := goodIn_app (goodIn_of _ (by decide +kernel)) ggX6_averageLength_X0_lengthOfKey
theorem dX6_averageLength_0 : decode cX6_averageLength 0 = .ok (.iload_n 1, 1) := by decide +kernel
theorem dX6_averageLength_1 : decode cX6_averageLength 1 = .ok (.invokestatic 34, 3) := by decide +kernel
theorem dX6_averageLength_4 : decode cX6_averageLength 4 = .ok (.aload_n 0, 1) := by decide +kernel
theorem dX6_averageLength_5 : decode cX6_averageLength 5 = .ok (.getfield 12, 3) := by decide +kernel
theorem dX6_averageLength_8 : decode cX6_averageLength 8 = .ok (.getfield 101, 3) := by decide +kernel
theorem dX6_averageLength_11 : decode cX6_averageLength 11 = .ok (.iload_n 1, 1) := by decide +kernel
theorem dX6_averageLength_12 : decode cX6_averageLength 12 = .ok (.invokevirtual 173, 3) := by decide +kernel
theorem dX6_averageLength_15 : decode cX6_averageLength 15 = .ok (.istore_n 2, 1) := by decide +kernel
theorem dX6_averageLength_16 : decode cX6_averageLength 16 = .ok (.iload_n 2, 1) := by decide +kernel
theorem dX6_averageLength_17 : decode cX6_averageLength 17 = .ok (.ifCond .ne 13, 3) := by decide +kernel
theorem dX6_averageLength_20 : decode cX6_averageLength 20 = .ok (.new 176, 3) := by decide +kernel
theorem dX6_averageLength_23 : decode cX6_averageLength 23 = .ok (.dup, 1) := by decide +kernel
theorem dX6_averageLength_24 : decode cX6_averageLength 24 = .ok (.ldc 178, 2) := by decide +kernel
theorem dX6_averageLength_26 : decode cX6_averageLength 26 = .ok (.invokespecial 180, 3) := by decide +kernel
theorem dX6_averageLength_29 : decode cX6_averageLength 29 = .ok (.athrow, 1) := by decide +kernel
theorem dX6_averageLength_30 : decode cX6_averageLength 30 = .ok (.aload_n 0, 1) := by decide +kernel
theorem dX6_averageLength_31 : decode cX6_averageLength 31 = .ok (.getfield 12, 3) := by decide +kernel
theorem dX6_averageLength_34 : decode cX6_averageLength 34 = .ok (.getfield 101, 3) := by decide +kernel
theorem dX6_averageLength_37 : decode cX6_averageLength 37 = .ok (.iload_n 1, 1) := by decide +kernel
theorem dX6_averageLength_38 : decode cX6_averageLength 38 = .ok (.invokevirtual 181, 3) := by decide +kernel
theorem dX6_averageLength_41 : decode cX6_averageLength 41 = .ok (.i2d, 1) := by decide +kernel
theorem dX6_averageLength_42 : decode cX6_averageLength 42 = .ok (.iload_n 2, 1) := by decide +kernel
theorem dX6_averageLength_43 : decode cX6_averageLength 43 = .ok (.i2d, 1) := by decide +kernel
theorem dX6_averageLength_44 : decode cX6_averageLength 44 = .ok (.ddiv, 1) := by decide +kernel
theorem dX6_averageLength_45 : decode cX6_averageLength 45 = .ok (.dreturn, 1) := by decide +kernel
theorem dX6_mergeCount_0 : decode cX6_mergeCount 0 = .ok (.aload_n 0, 1) := by decide +kernel
theorem dX6_mergeCount_1 : decode cX6_mergeCount 1 = .ok (.getfield 12, 3) := by decide +kernel
theorem dX6_mergeCount_4 : decode cX6_mergeCount 4 = .ok (.getfield 184, 3) := by decide +kernel
theorem dX6_mergeCount_7 : decode cX6_mergeCount 7 = .ok (.ireturn, 1) := by decide +kernel
set_option maxRecDepth 20000 in
theorem ggX6_regrouped_X6_needKey : GoodIn wsX6_regrouped wsX6_needKey := goodIn_ca (goodIn_r _ [5, 6, 7] (by decide +kernel) (by decide +kernel)) (goodIn_sub (fun _ h => List.mem_cons_of_mem _ (List.mem_append_left _ (List.mem_append_right _ h))) (by decide +kernel))
set_option maxRecDepth 20000 in
theorem gX6_regrouped_X6_needKey : GoodIn wsX6_regrouped (va_wsS RX6 34 yX6_needKey wsX6_needKey) := goodIn_app (goodIn_of _ (by decide +kernel)) ggX6_regrouped_X6_needKey
set_option maxRecDepth 20000 in
theorem ggX6_regrouped_X1_groupAnew : GoodIn wsX6_regrouped wsX1_groupAnew := goodIn_ca (goodIn_r _ [12, 13, 14, 15, 16, 17, 18, 19, 20, 21, 22, 23, 24, 25, 31, 32, 33, 34, 35, 36, 37, 38, 39, 40, 41, 42, 43, 44, 45, 46, 47, 48, 49, 50, 51, 52, 53, 54, 55] (by decide +kernel) (by decide +kernel)) (goodIn_sub (fun _ h => List.mem_cons_of_mem _ (List.mem_append_right _ h)) (by decide +kernel))
set_option maxRecDepth 20000 in
theorem gX6_regrouped_X1_groupAnew : GoodIn wsX6_regrouped (wsV RX6 187 RX1 yX1_groupAnew wsX1_groupAnew) := goodIn_app (goodIn_of _ (by decide +kernel)) ggX6_regrouped_X1_groupAnew
theorem dX6_regrouped_0 : decode cX6_regrouped 0 = .ok (.iload_n 1, 1) := by decide +kernel
theorem dX6_regrouped_1 : decode cX6_regrouped 1 = .ok (.invokestatic 34, 3) := by decide +kernel
theorem dX6_regrouped_4 : decode cX6_regrouped 4 = .ok (.aload_n 0, 1) := by decide +kernel
theorem dX6_regrouped_5 : decode cX6_regrouped 5 = .ok (.getfield 12, 3) := by decide +kernel
theorem dX6_regrouped_8 : decode cX6_regrouped 8 = .ok (.iload_n 1, 1) := by decide +kernel
theorem dX6_regrouped_9 : decode cX6_regrouped 9 = .ok (.invokevirtual 187, 3) := by decide +kernel
theorem dX6_regrouped_12 : decode cX6_regrouped 12 = .ok (.ireturn, 1) := by decide +kernel
set_option maxRecDepth 20000 in
theorem ggX6_fire_X6_needBurst : GoodIn wsX6_fire wsX6_needBurst := goodIn_ca (goodIn_ca (goodIn_r _ [6, 7, 8, 1, 9, 10, 11, 12, 13, 14, 15, 16, 17, 18, 19, 20, 21, 22, 127, 128, 129, 130, 131, 132, 133, 134, 135, 136, 137, 138, 139, 140, 141, 142, 143, 144, 145, 146, 147, 148, 149, 150, 151, 152] (by decide +kernel) (by decide +kernel)) (goodIn_sub (fun _ h => List.mem_cons_of_mem _ (List.mem_append_left _ (List.mem_append_left _ (List.mem_append_right _ h)))) (by decide +kernel))) (goodIn_sub (fun _ h => List.mem_cons_of_mem _ (List.mem_append_left _ (List.mem_append_right _ h))) (by decide +kernel))
set_option maxRecDepth 20000 in
theorem gX6_fire_X6_needBurst : GoodIn wsX6_fire (wsV RX6 110 RX6 yX6_needBurst wsX6_needBurst) := goodIn_app (goodIn_of _ (by decide +kernel)) ggX6_fire_X6_needBurst
set_option maxRecDepth 20000 in
theorem ggX6_fire_X6_needOpen : GoodIn wsX6_fire wsX6_needOpen := goodIn_ca (goodIn_ca (goodIn_r _ [26, 27, 28, 1, 9, 29, 30, 31, 13, 32, 15, 16, 17, 18, 19, 20, 21, 22, 127, 128, 129, 130, 131, 132, 133, 134, 135, 136, 137, 138, 139, 140, 141, 142, 143, 144, 145, 146, 147, 148, 149, 150, 151, 152] (by decide +kernel) (by decide +kernel)) (goodIn_sub (fun _ h => List.mem_cons_of_mem _ (List.mem_append_right _ h)) (by decide +kernel))) (goodIn_sub (fun _ h => List.mem_cons_of_mem _ (List.mem_append_left _ (List.mem_append_right _ h))) (by decide +kernel))
set_option maxRecDepth 20000 in
theorem gX6_fire_X6_needOpen : GoodIn wsX6_fire (wsV RX6 160 RX6 yX6_needOpen wsX6_needOpen) := goodIn_app (goodIn_of _ (by decide +kernel)) ggX6_fire_X6_needOpen
set_option maxRecDepth 20000 in
theorem ggX6_fire_X1_letFire : GoodIn wsX6_fire wsX1_letFire := goodIn_ca (goodIn_r _ [37, 38, 39, 40, 41, 42, 43, 44, 45, 36, 46, 47, 48, 49, 18, 19, 20, 21, 22, 50, 51, 52, 53, 54, 55, 56, 57, 58, 59, 60, 61, 62, 63, 64, 65, 66, 67, 68, 69, 70, 71, 72, 73, 74, 75, 76, 13, 77, 78, 17, 79, 80, 81, 82, 83, 84, 85, 86, 87, 88, 89, 90, 91, 92, 93, 94, 95, 96, 97, 98, 99, 100, 101, 102, 103, 104, 105, 106, 107, 108, 109, 110, 111, 112, 113, 114, 115, 116, 117, 118, 119, 120, 121, 122, 123, 124, 125, 126, 132, 133, 134, 135, 136, 137, 138, 139, 140, 141, 142, 143, 144, 145, 146, 147, 148, 149, 150, 151, 152, 153, 154, 155, 156, 157, 158, 159, 160, 161, 162, 163, 164, 165, 166] (by decide +kernel) (by decide +kernel)) (goodIn_sub (fun _ h => List.mem_cons_of_mem _ (List.mem_append_left _ (List.mem_append_right _ h))) (by decide +kernel))
set_option maxRecDepth 20000 in
theorem gX6_fire_X1_letFire : GoodIn wsX6_fire (wsV RX6 190 RX1 yX1_letFire wsX1_letFire) := goodIn_app (goodIn_of _ (by decide +kernel)) ggX6_fire_X1_letFire
theorem dX6_fire_0 : decode cX6_fire 0 = .ok (.aload_n 0, 1) := by decide +kernel
theorem dX6_fire_1 : decode cX6_fire 1 = .ok (.iload_n 1, 1) := by decide +kernel
theorem dX6_fire_2 : decode cX6_fire 2 = .ok (.invokevirtual 110, 3) := by decide +kernel
theorem dX6_fire_5 : decode cX6_fire 5 = .ok (.aload_n 0, 1) := by decide +kernel
theorem dX6_fire_6 : decode cX6_fire 6 = .ok (.iload_n 1, 1) := by decide +kernel
theorem dX6_fire_7 : decode cX6_fire 7 = .ok (.invokevirtual 160, 3) := by decide +kernel
theorem dX6_fire_10 : decode cX6_fire 10 = .ok (.aload_n 0, 1) := by decide +kernel
theorem dX6_fire_11 : decode cX6_fire 11 = .ok (.getfield 12, 3) := by decide +kernel
theorem dX6_fire_14 : decode cX6_fire 14 = .ok (.iload_n 1, 1) := by decide +kernel
theorem dX6_fire_15 : decode cX6_fire 15 = .ok (.iconst 0, 1) := by decide +kernel
theorem dX6_fire_16 : decode cX6_fire 16 = .ok (.invokevirtual 190, 3) := by decide +kernel
theorem dX6_fire_19 : decode cX6_fire 19 = .ok (.ireturn, 1) := by decide +kernel
theorem dX6_firingCount_0 : decode cX6_firingCount 0 = .ok (.aload_n 0, 1) := by decide +kernel
theorem dX6_firingCount_1 : decode cX6_firingCount 1 = .ok (.getfield 12, 3) := by decide +kernel
theorem dX6_firingCount_4 : decode cX6_firingCount 4 = .ok (.getfield 193, 3) := by decide +kernel
theorem dX6_firingCount_7 : decode cX6_firingCount 7 = .ok (.getfield 197, 3) := by decide +kernel
theorem dX6_firingCount_10 : decode cX6_firingCount 10 = .ok (.ireturn, 1) := by decide +kernel
set_option maxRecDepth 20000 in
theorem ggX6_firing_X6_needWithin : GoodIn wsX6_firing wsX6_needWithin := goodIn_ca (goodIn_r _ [9, 10, 11] (by decide +kernel) (by decide +kernel)) (goodIn_sub (fun _ h => List.mem_cons_of_mem _ (List.mem_append_left _ (List.mem_append_right _ h))) (by decide +kernel))
set_option maxRecDepth 20000 in
theorem gX6_firing_X6_needWithin : GoodIn wsX6_firing (va_wsS RX6 38 yX6_needWithin wsX6_needWithin) := goodIn_app (goodIn_of _ (by decide +kernel)) ggX6_firing_X6_needWithin
set_option maxRecDepth 20000 in
theorem ggX6_firing_X2_entry : GoodIn wsX6_firing wsX2_entry := goodIn_ca (goodIn_r _ [16, 17, 18, 19, 20, 21, 22, 23, 24, 25, 15, 26, 27, 28, 29, 30, 31, 32, 33, 49, 50, 51, 52, 53, 54, 55, 56, 57, 58, 59] (by decide +kernel) (by decide +kernel)) (goodIn_sub (fun _ h => List.mem_cons_of_mem _ (List.mem_append_right _ h)) (by decide +kernel))
set_option maxRecDepth 20000 in
theorem gX6_firing_X2_entry : GoodIn wsX6_firing (wsV RX6 207 RX2 yX2_entry wsX2_entry) := goodIn_app (goodIn_of _ (by decide +kernel)) ggX6_firing_X2_entry
theorem dX6_firing_0 : decode cX6_firing 0 = .ok (.iload_n 1, 1) := by decide +kernel
theorem dX6_firing_1 : decode cX6_firing 1 = .ok (.ifCond .lt 17, 3) := by decide +kernel
theorem dX6_firing_4 : decode cX6_firing 4 = .ok (.iload_n 1, 1) := by decide +kernel
theorem dX6_firing_5 : decode cX6_firing 5 = .ok (.aload_n 0, 1) := by decide +kernel
theorem dX6_firing_6 : decode cX6_firing 6 = .ok (.getfield 12, 3) := by decide +kernel
theorem dX6_firing_9 : decode cX6_firing 9 = .ok (.getfield 193, 3) := by decide +kernel
theorem dX6_firing_12 : decode cX6_firing 12 = .ok (.getfield 197, 3) := by decide +kernel
theorem dX6_firing_15 : decode cX6_firing 15 = .ok (.if_icmp .lt 13, 3) := by decide +kernel
theorem dX6_firing_18 : decode cX6_firing 18 = .ok (.new 202, 3) := by decide +kernel
theorem dX6_firing_21 : decode cX6_firing 21 = .ok (.dup, 1) := by decide +kernel
theorem dX6_firing_22 : decode cX6_firing 22 = .ok (.ldc 204, 2) := by decide +kernel
theorem dX6_firing_24 : decode cX6_firing 24 = .ok (.invokespecial 206, 3) := by decide +kernel
theorem dX6_firing_27 : decode cX6_firing 27 = .ok (.athrow, 1) := by decide +kernel
theorem dX6_firing_28 : decode cX6_firing 28 = .ok (.iload_n 2, 1) := by decide +kernel
theorem dX6_firing_29 : decode cX6_firing 29 = .ok (.iconst 0, 1) := by decide +kernel
theorem dX6_firing_30 : decode cX6_firing 30 = .ok (.iconst 5, 1) := by decide +kernel
theorem dX6_firing_31 : decode cX6_firing 31 = .ok (.invokestatic 38, 3) := by decide +kernel
theorem dX6_firing_34 : decode cX6_firing 34 = .ok (.aload_n 0, 1) := by decide +kernel
theorem dX6_firing_35 : decode cX6_firing 35 = .ok (.getfield 12, 3) := by decide +kernel
theorem dX6_firing_38 : decode cX6_firing 38 = .ok (.getfield 193, 3) := by decide +kernel
theorem dX6_firing_41 : decode cX6_firing 41 = .ok (.iload_n 1, 1) := by decide +kernel
theorem dX6_firing_42 : decode cX6_firing 42 = .ok (.iload_n 2, 1) := by decide +kernel
theorem dX6_firing_43 : decode cX6_firing 43 = .ok (.invokevirtual 207, 3) := by decide +kernel
theorem dX6_firing_46 : decode cX6_firing 46 = .ok (.ireturn, 1) := by decide +kernel
set_option maxRecDepth 20000 in
theorem ggX6_firings_X6_needWithin : GoodIn wsX6_firings wsX6_needWithin := goodIn_ca (goodIn_r _ [7, 8, 9] (by decide +kernel) (by decide +kernel)) (goodIn_sub (fun _ h => List.mem_cons_of_mem _ (List.mem_append_left _ (List.mem_append_right _ h))) (by decide +kernel))
set_option maxRecDepth 20000 in
theorem gX6_firings_X6_needWithin : GoodIn wsX6_firings (va_wsS RX6 38 yX6_needWithin wsX6_needWithin) := goodIn_app (goodIn_of _ (by decide +kernel)) ggX6_firings_X6_needWithin
set_option maxRecDepth 20000 in
theorem ggX6_firings_X4_at : GoodIn wsX6_firings wsX4_at := goodIn_ca (goodIn_r _ [14, 15, 41] (by decide +kernel) (by decide +kernel)) (goodIn_sub (fun _ h => List.mem_cons_of_mem _ (List.mem_append_right _ h)) (by decide +kernel))
set_option maxRecDepth 20000 in
theorem gX6_firings_X4_at : GoodIn wsX6_firings (wsV RX6 46 RX4 yX4_at wsX4_at) := goodIn_app (goodIn_of _ (by decide +kernel)) ggX6_firings_X4_at
theorem dX6_firings_0 : decode cX6_firings 0 = .ok (.iload_n 1, 1) := by decide +kernel
theorem dX6_firings_1 : decode cX6_firings 1 = .ok (.iconst 0, 1) := by decide +kernel
theorem dX6_firings_2 : decode cX6_firings 2 = .ok (.iconst 2, 1) := by decide +kernel
theorem dX6_firings_3 : decode cX6_firings 3 = .ok (.invokestatic 38, 3) := by decide +kernel
theorem dX6_firings_6 : decode cX6_firings 6 = .ok (.aload_n 0, 1) := by decide +kernel
theorem dX6_firings_7 : decode cX6_firings 7 = .ok (.getfield 12, 3) := by decide +kernel
theorem dX6_firings_10 : decode cX6_firings 10 = .ok (.getfield 193, 3) := by decide +kernel
theorem dX6_firings_13 : decode cX6_firings 13 = .ok (.getfield 210, 3) := by decide +kernel
theorem dX6_firings_16 : decode cX6_firings 16 = .ok (.iload_n 1, 1) := by decide +kernel
theorem dX6_firings_17 : decode cX6_firings 17 = .ok (.invokevirtual 46, 3) := by decide +kernel
theorem dX6_firings_20 : decode cX6_firings 20 = .ok (.ireturn, 1) := by decide +kernel
theorem dX6_balance_0 : decode cX6_balance 0 = .ok (.aload_n 0, 1) := by decide +kernel
theorem dX6_balance_1 : decode cX6_balance 1 = .ok (.getfield 12, 3) := by decide +kernel
theorem dX6_balance_4 : decode cX6_balance 4 = .ok (.getfield 193, 3) := by decide +kernel
theorem dX6_balance_7 : decode cX6_balance 7 = .ok (.getfield 213, 3) := by decide +kernel
theorem dX6_balance_10 : decode cX6_balance 10 = .ok (.lreturn, 1) := by decide +kernel
set_option maxRecDepth 20000 in
theorem ggX6_standing_X0_sumOfFired : GoodIn wsX6_standing wsX0_sumOfFired := goodIn_ca (goodIn_r _ [7, 8, 9, 10, 11, 12, 6, 13, 14, 15, 16, 17, 18, 19, 20, 36, 37, 38, 39, 40, 41, 42, 43, 44, 45, 46] (by decide +kernel) (by decide +kernel)) (goodIn_sub (fun _ h => List.mem_cons_of_mem _ (List.mem_append_right _ h)) (by decide +kernel))
set_option maxRecDepth 20000 in
theorem gX6_standing_X0_sumOfFired : GoodIn wsX6_standing (wsV RX6 217 RX0 yX0_sumOfFired wsX0_sumOfFired) := goodIn_app (goodIn_of _ (by decide +kernel)) ggX6_standing_X0_sumOfFired
theorem dX6_standing_0 : decode cX6_standing 0 = .ok (.aload_n 0, 1) := by decide +kernel
theorem dX6_standing_1 : decode cX6_standing 1 = .ok (.getfield 12, 3) := by decide +kernel
theorem dX6_standing_4 : decode cX6_standing 4 = .ok (.getfield 101, 3) := by decide +kernel
theorem dX6_standing_7 : decode cX6_standing 7 = .ok (.invokevirtual 217, 3) := by decide +kernel
theorem dX6_standing_10 : decode cX6_standing 10 = .ok (.lreturn, 1) := by decide +kernel
set_option maxRecDepth 20000 in
theorem ggX6_append_X6_needWithin : GoodIn wsX6_append wsX6_needWithin := goodIn_ca (goodIn_r _ [8, 9, 10] (by decide +kernel) (by decide +kernel)) (goodIn_sub (fun _ h => List.mem_cons_of_mem _ (List.mem_append_left _ (List.mem_append_right _ h))) (by decide +kernel))
set_option maxRecDepth 20000 in
theorem gX6_append_X6_needWithin : GoodIn wsX6_append (va_wsS RX6 38 yX6_needWithin wsX6_needWithin) := goodIn_app (goodIn_of _ (by decide +kernel)) ggX6_append_X6_needWithin
set_option maxRecDepth 20000 in
theorem ggX6_append_X5_lengthen : GoodIn wsX6_append wsX5_lengthen := goodIn_ca (goodIn_r _ [15, 16, 17, 18, 19, 20, 21, 22, 23, 29, 30, 31, 32, 33, 34, 35, 36] (by decide +kernel) (by decide +kernel)) (goodIn_sub (fun _ h => List.mem_cons_of_mem _ (List.mem_append_right _ h)) (by decide +kernel))
set_option maxRecDepth 20000 in
theorem gX6_append_X5_lengthen : GoodIn wsX6_append (wsV RX6 226 RX5 yX5_lengthen wsX5_lengthen) := goodIn_app (goodIn_of _ (by decide +kernel)) ggX6_append_X5_lengthen
theorem dX6_append_0 : decode cX6_append 0 = .ok (.iload_n 1, 1) := by decide +kernel
theorem dX6_append_1 : decode cX6_append 1 = .ok (.bipush 32, 2) := by decide +kernel
theorem dX6_append_3 : decode cX6_append 3 = .ok (.bipush 126, 2) := by decide +kernel
theorem dX6_append_5 : decode cX6_append 5 = .ok (.invokestatic 38, 3) := by decide +kernel
theorem dX6_append_8 : decode cX6_append 8 = .ok (.aload_n 0, 1) := by decide +kernel
theorem dX6_append_9 : decode cX6_append 9 = .ok (.getfield 22, 3) := by decide +kernel
theorem dX6_append_12 : decode cX6_append 12 = .ok (.getfield 221, 3) := by decide +kernel
theorem dX6_append_15 : decode cX6_append 15 = .ok (.bipush 40, 2) := by decide +kernel
theorem dX6_append_17 : decode cX6_append 17 = .ok (.if_icmp .lt 13, 3) := by decide +kernel
theorem dX6_append_20 : decode cX6_append 20 = .ok (.new 84, 3) := by decide +kernel
theorem dX6_append_23 : decode cX6_append 23 = .ok (.dup, 1) := by decide +kernel
theorem dX6_append_24 : decode cX6_append 24 = .ok (.ldc 224, 2) := by decide +kernel
theorem dX6_append_26 : decode cX6_append 26 = .ok (.invokespecial 88, 3) := by decide +kernel
theorem dX6_append_29 : decode cX6_append 29 = .ok (.athrow, 1) := by decide +kernel
theorem dX6_append_30 : decode cX6_append 30 = .ok (.aload_n 0, 1) := by decide +kernel
theorem dX6_append_31 : decode cX6_append 31 = .ok (.getfield 22, 3) := by decide +kernel
theorem dX6_append_34 : decode cX6_append 34 = .ok (.iload_n 1, 1) := by decide +kernel
theorem dX6_append_35 : decode cX6_append 35 = .ok (.invokevirtual 226, 3) := by decide +kernel
theorem dX6_append_38 : decode cX6_append 38 = .ok (.ireturn, 1) := by decide +kernel
set_option maxRecDepth 20000 in
theorem ggX6_read_X5_parse : GoodIn wsX6_read wsX5_parse := goodIn_ca (goodIn_r _ [18, 19, 20, 21, 22, 23, 24, 17, 25, 26, 27, 28, 29, 30, 31, 32, 33, 34, 35, 36, 37, 38, 39, 40, 41, 42, 43, 44, 45, 46, 47, 48, 49, 50, 51, 52, 53, 54, 55, 56, 57, 58, 59, 60, 61, 62, 63, 262, 263, 264, 265, 266, 267, 268, 269] (by decide +kernel) (by decide +kernel)) (goodIn_sub (fun _ h => List.mem_cons_of_mem _ (List.mem_append_left _ (List.mem_append_right _ h))) (by decide +kernel))
set_option maxRecDepth 20000 in
theorem gX6_read_X5_parse : GoodIn wsX6_read (wsV RX6 229 RX5 yX5_parse wsX5_parse) := goodIn_app (goodIn_of _ (by decide +kernel)) ggX6_read_X5_parse
set_option maxRecDepth 20000 in
theorem ggX6_read_X1_canCarryOut : GoodIn wsX6_read wsX1_canCarryOut := goodIn_ca (goodIn_r _ [68, 69, 70, 71, 72, 73, 74, 75, 32, 33, 34, 35, 36, 76, 77, 78, 67, 79, 80, 270, 271, 272, 273, 274, 275, 276, 277, 278, 279, 280, 281, 282, 283, 262, 263, 264, 265, 266, 267, 268, 269] (by decide +kernel) (by decide +kernel)) (goodIn_sub (fun _ h => List.mem_cons_of_mem _ (List.mem_append_left _ (List.mem_append_right _ h))) (by decide +kernel))
set_option maxRecDepth 20000 in
theorem gX6_read_X1_canCarryOut : GoodIn wsX6_read (wsV RX6 241 RX1 yX1_canCarryOut wsX1_canCarryOut) := goodIn_app (goodIn_of _ (by decide +kernel)) ggX6_read_X1_canCarryOut
set_option maxRecDepth 20000 in
theorem ggX6_read_X4_at : GoodIn wsX6_read wsX4_at := goodIn_ca (goodIn_r _ [35, 36, 269] (by decide +kernel) (by decide +kernel)) (goodIn_sub (fun _ h => List.mem_cons_of_mem _ (List.mem_append_left _ (List.mem_append_right _ h))) (by decide +kernel))
set_option maxRecDepth 20000 in
theorem gX6_read_X4_at : GoodIn wsX6_read (wsV RX6 46 RX4 yX4_at wsX4_at) := goodIn_app (goodIn_of _ (by decide +kernel)) ggX6_read_X4_at
set_option maxRecDepth 20000 in
theorem ggX6_read_X1_moveMark : GoodIn wsX6_read wsX1_moveMark := goodIn_ca (goodIn_r _ [85, 69, 86, 87, 88, 89, 90, 67, 91, 92, 93, 94, 95, 96, 97, 98, 99, 100, 101, 32, 33, 34, 35, 36, 102, 103, 104, 105, 106, 107, 80, 75, 108, 109, 110, 111, 112, 113, 114, 115, 116, 117, 70, 118, 119, 120, 121, 122, 123, 124, 125, 126, 127, 128, 129, 130, 131, 132, 133, 134, 135, 136, 137, 138, 139, 140, 141, 142, 143, 144, 145, 146, 147, 148, 149, 150, 151, 152, 153, 154, 155, 156, 157, 158, 159, 160, 161, 162, 163, 164, 165, 166, 167, 168, 169, 170, 171, 172, 173, 174, 175, 176, 177, 178, 179, 180, 181, 182, 183, 184, 57, 58, 59, 185, 186, 187, 188, 189, 190, 191, 192, 270, 271, 272, 273, 274, 275, 276, 277, 278, 279, 284, 285, 286, 287, 288, 289, 290, 291, 292, 293, 269, 280, 281, 282, 283, 294, 295, 296, 297, 298, 299, 300, 301, 302, 303] (by decide +kernel) (by decide +kernel)) (goodIn_sub (fun _ h => List.mem_cons_of_mem _ (List.mem_append_left _ (List.mem_append_right _ h))) (by decide +kernel))
set_option maxRecDepth 20000 in
theorem gX6_read_X1_moveMark : GoodIn wsX6_read (wsV RX6 95 RX1 yX1_moveMark wsX1_moveMark) := goodIn_app (goodIn_of _ (by decide +kernel)) ggX6_read_X1_moveMark
set_option maxRecDepth 20000 in
theorem ggX6_read_X1_take : GoodIn wsX6_read wsX1_take := goodIn_ca (goodIn_ca (goodIn_r _ [196, 69, 197, 86, 70, 198, 76, 77, 78, 67, 79, 80, 199, 200, 201, 97, 202, 99, 203, 153, 155, 100, 191, 147, 192, 57, 58, 34, 59, 36, 204, 205, 206, 122, 207, 124, 208, 126, 125, 132, 32, 33, 35, 209, 210, 211, 212, 213, 141, 138, 142, 214, 215, 216, 217, 218, 219, 106, 75, 220, 221, 222, 223, 92, 224, 225, 226, 227, 101, 228, 229, 230, 231, 232, 233, 234, 235, 236, 237, 238, 239, 240, 241, 143, 144, 145, 146, 157, 158, 159, 160, 112, 161, 162, 163, 107, 164, 165, 166, 167, 168, 169, 170, 171, 172, 173, 174, 175, 176, 177, 178, 179, 180, 181, 182, 183, 184, 185, 186, 242, 243, 244, 245, 246, 247, 248, 249, 250, 251, 252, 137, 139, 253, 254, 255, 256, 108, 109, 110, 111, 113, 93, 114, 115, 116, 117, 118, 119, 120, 121, 123, 127, 128, 129, 130, 131, 133, 134, 135, 136, 140, 148, 149, 150, 151, 152, 154, 156, 187, 188, 189, 190, 270, 271, 272, 273, 274, 275, 276, 277, 278, 279, 284, 285, 286, 287, 288, 289, 290, 291, 292, 293, 269, 280, 281, 282, 283, 294, 295, 296, 297, 298, 299, 300, 301, 302, 303] (by decide +kernel) (by decide +kernel)) (goodIn_sub (fun _ h => List.mem_cons_of_mem _ (List.mem_append_right _ h)) (by decide +kernel))) (goodIn_sub (fun _ h => List.mem_cons_of_mem _ (List.mem_append_left _ (List.mem_append_right _ h))) (by decide +kernel))
set_option maxRecDepth 20000 in
theorem gX6_read_X1_take : GoodIn wsX6_read (wsV RX6 91 RX1 yX1_take wsX1_take) := goodIn_app (goodIn_of _ (by decide +kernel)) ggX6_read_X1_take
theorem dX6_read_0 : decode cX6_read 0 = .ok (.aload_n 0, 1) := by decide +kernel
theorem dX6_read_1 : decode cX6_read 1 = .ok (.getfield 22, 3) := by decide +kernel
theorem dX6_read_4 : decode cX6_read 4 = .ok (.invokevirtual 229, 3) := by decide +kernel
theorem dX6_read_7 : decode cX6_read 7 = .ok (.istore_n 1, 1) := by decide +kernel
theorem dX6_read_8 : decode cX6_read 8 = .ok (.aload_n 0, 1) := by decide +kernel
theorem dX6_read_9 : decode cX6_read 9 = .ok (.getfield 22, 3) := by decide +kernel
theorem dX6_read_12 : decode cX6_read 12 = .ok (.iconst 0, 1) := by decide +kernel
theorem dX6_read_13 : decode cX6_read 13 = .ok (.putfield 221, 3) := by decide +kernel
theorem dX6_read_16 : decode cX6_read 16 = .ok (.iload_n 1, 1) := by decide +kernel
theorem dX6_read_17 : decode cX6_read 17 = .ok (.ifCond .ne 24, 3) := by decide +kernel
theorem dX6_read_20 : decode cX6_read 20 = .ok (.aload_n 0, 1) := by decide +kernel
theorem dX6_read_21 : decode cX6_read 21 = .ok (.aload_n 0, 1) := by decide +kernel
theorem dX6_read_22 : decode cX6_read 22 = .ok (.getfield 22, 3) := by decide +kernel
theorem dX6_read_25 : decode cX6_read 25 = .ok (.getfield 233, 3) := by decide +kernel
theorem dX6_read_28 : decode cX6_read 28 = .ok (.putfield 30, 3) := by decide +kernel
theorem dX6_read_31 : decode cX6_read 31 = .ok (.new 236, 3) := by decide +kernel
theorem dX6_read_34 : decode cX6_read 34 = .ok (.dup, 1) := by decide +kernel
theorem dX6_read_35 : decode cX6_read 35 = .ok (.ldc 238, 2) := by decide +kernel
theorem dX6_read_37 : decode cX6_read 37 = .ok (.invokespecial 240, 3) := by decide +kernel
theorem dX6_read_40 : decode cX6_read 40 = .ok (.athrow, 1) := by decide +kernel
theorem dX6_read_41 : decode cX6_read 41 = .ok (.aload_n 0, 1) := by decide +kernel
theorem dX6_read_42 : decode cX6_read 42 = .ok (.getfield 12, 3) := by decide +kernel
theorem dX6_read_45 : decode cX6_read 45 = .ok (.aload_n 0, 1) := by decide +kernel
theorem dX6_read_46 : decode cX6_read 46 = .ok (.getfield 22, 3) := by decide +kernel
theorem dX6_read_49 : decode cX6_read 49 = .ok (.invokevirtual 241, 3) := by decide +kernel
theorem dX6_read_52 : decode cX6_read 52 = .ok (.ifCond .ne 13, 3) := by decide +kernel
theorem dX6_read_55 : decode cX6_read 55 = .ok (.new 84, 3) := by decide +kernel
theorem dX6_read_58 : decode cX6_read 58 = .ok (.dup, 1) := by decide +kernel
theorem dX6_read_59 : decode cX6_read 59 = .ok (.ldc 245, 2) := by decide +kernel
theorem dX6_read_61 : decode cX6_read 61 = .ok (.invokespecial 88, 3) := by decide +kernel
theorem dX6_read_64 : decode cX6_read 64 = .ok (.athrow, 1) := by decide +kernel
theorem dX6_read_65 : decode cX6_read 65 = .ok (.iconst 0, 1) := by decide +kernel
theorem dX6_read_66 : decode cX6_read 66 = .ok (.istore_n 2, 1) := by decide +kernel
theorem dX6_read_67 : decode cX6_read 67 = .ok (.iload_n 2, 1) := by decide +kernel
theorem dX6_read_68 : decode cX6_read 68 = .ok (.aload_n 0, 1) := by decide +kernel
theorem dX6_read_69 : decode cX6_read 69 = .ok (.getfield 22, 3) := by decide +kernel
theorem dX6_read_72 : decode cX6_read 72 = .ok (.getfield 247, 3) := by decide +kernel
theorem dX6_read_75 : decode cX6_read 75 = .ok (.if_icmp .ge 87, 3) := by decide +kernel
theorem dX6_read_78 : decode cX6_read 78 = .ok (.aload_n 0, 1) := by decide +kernel
theorem dX6_read_79 : decode cX6_read 79 = .ok (.getfield 22, 3) := by decide +kernel
theorem dX6_read_82 : decode cX6_read 82 = .ok (.getfield 250, 3) := by decide +kernel
theorem dX6_read_85 : decode cX6_read 85 = .ok (.iload_n 2, 1) := by decide +kernel
theorem dX6_read_86 : decode cX6_read 86 = .ok (.invokevirtual 46, 3) := by decide +kernel
theorem dX6_read_89 : decode cX6_read 89 = .ok (.iconst (-1), 1) := by decide +kernel
theorem dX6_read_90 : decode cX6_read 90 = .ok (.if_icmp .ne 25, 3) := by decide +kernel
theorem dX6_read_93 : decode cX6_read 93 = .ok (.aload_n 0, 1) := by decide +kernel
theorem dX6_read_94 : decode cX6_read 94 = .ok (.getfield 12, 3) := by decide +kernel
theorem dX6_read_97 : decode cX6_read 97 = .ok (.aload_n 0, 1) := by decide +kernel
theorem dX6_read_98 : decode cX6_read 98 = .ok (.getfield 22, 3) := by decide +kernel
theorem dX6_read_101 : decode cX6_read 101 = .ok (.getfield 251, 3) := by decide +kernel
theorem dX6_read_104 : decode cX6_read 104 = .ok (.iload_n 2, 1) := by decide +kernel
theorem dX6_read_105 : decode cX6_read 105 = .ok (.invokevirtual 46, 3) := by decide +kernel
theorem dX6_read_108 : decode cX6_read 108 = .ok (.invokevirtual 95, 3) := by decide +kernel
theorem dX6_read_111 : decode cX6_read 111 = .ok (.pop, 1) := by decide +kernel
theorem dX6_read_112 : decode cX6_read 112 = .ok (.goto 44, 3) := by decide +kernel
theorem dX6_read_115 : decode cX6_read 115 = .ok (.aload_n 0, 1) := by decide +kernel
theorem dX6_read_116 : decode cX6_read 116 = .ok (.getfield 12, 3) := by decide +kernel
theorem dX6_read_119 : decode cX6_read 119 = .ok (.aload_n 0, 1) := by decide +kernel
theorem dX6_read_120 : decode cX6_read 120 = .ok (.getfield 22, 3) := by decide +kernel
theorem dX6_read_123 : decode cX6_read 123 = .ok (.getfield 250, 3) := by decide +kernel
theorem dX6_read_126 : decode cX6_read 126 = .ok (.iload_n 2, 1) := by decide +kernel
theorem dX6_read_127 : decode cX6_read 127 = .ok (.invokevirtual 46, 3) := by decide +kernel
theorem dX6_read_130 : decode cX6_read 130 = .ok (.aload_n 0, 1) := by decide +kernel
theorem dX6_read_131 : decode cX6_read 131 = .ok (.getfield 22, 3) := by decide +kernel
theorem dX6_read_134 : decode cX6_read 134 = .ok (.getfield 251, 3) := by decide +kernel
theorem dX6_read_137 : decode cX6_read 137 = .ok (.iload_n 2, 1) := by decide +kernel
theorem dX6_read_138 : decode cX6_read 138 = .ok (.invokevirtual 46, 3) := by decide +kernel
theorem dX6_read_141 : decode cX6_read 141 = .ok (.aload_n 0, 1) := by decide +kernel
theorem dX6_read_142 : decode cX6_read 142 = .ok (.getfield 22, 3) := by decide +kernel
theorem dX6_read_145 : decode cX6_read 145 = .ok (.getfield 252, 3) := by decide +kernel
theorem dX6_read_148 : decode cX6_read 148 = .ok (.iload_n 2, 1) := by decide +kernel
theorem dX6_read_149 : decode cX6_read 149 = .ok (.invokevirtual 46, 3) := by decide +kernel
theorem dX6_read_152 : decode cX6_read 152 = .ok (.invokevirtual 91, 3) := by decide +kernel
theorem dX6_read_155 : decode cX6_read 155 = .ok (.pop, 1) := by decide +kernel
theorem dX6_read_156 : decode cX6_read 156 = .ok (.iinc 2 1, 3) := by decide +kernel
theorem dX6_read_159 : decode cX6_read 159 = .ok (.goto (-92), 3) := by decide +kernel
theorem dX6_read_162 : decode cX6_read 162 = .ok (.aload_n 0, 1) := by decide +kernel
theorem dX6_read_163 : decode cX6_read 163 = .ok (.getfield 22, 3) := by decide +kernel
theorem dX6_read_166 : decode cX6_read 166 = .ok (.getfield 247, 3) := by decide +kernel
theorem dX6_read_169 : decode cX6_read 169 = .ok (.ireturn, 1) := by decide +kernel
set_option maxRecDepth 20000 in
theorem ggX6_errorPosition_X6_needFound : GoodIn wsX6_errorPosition wsX6_needFound := goodIn_ca (goodIn_r _ [5, 6, 7] (by decide +kernel) (by decide +kernel)) (goodIn_sub (fun _ h => List.mem_cons_of_mem _ (List.mem_append_right _ h)) (by decide +kernel))
set_option maxRecDepth 20000 in
theorem gX6_errorPosition_X6_needFound : GoodIn wsX6_errorPosition (va_wsS RX6 145 yX6_needFound wsX6_needFound) := goodIn_app (goodIn_of _ (by decide +kernel)) ggX6_errorPosition_X6_needFound
theorem dX6_errorPosition_0 : decode cX6_errorPosition 0 = .ok (.aload_n 0, 1) := by decide +kernel
theorem dX6_errorPosition_1 : decode cX6_errorPosition 1 = .ok (.getfield 30, 3) := by decide +kernel
theorem dX6_errorPosition_4 : decode cX6_errorPosition 4 = .ok (.invokestatic 145, 3) := by decide +kernel
theorem dX6_errorPosition_7 : decode cX6_errorPosition 7 = .ok (.ireturn, 1) := by decide +kernel
set_option maxRecDepth 20000 in
theorem ggX6_save_X1_copyFrom : GoodIn wsX6_save wsX1_copyFrom := goodIn_ca (goodIn_r _ [10, 11, 12, 13, 14, 15, 16, 17, 18, 19, 20, 21, 22, 23, 24, 25, 26, 27, 28, 29, 30, 31, 32, 33, 34, 35, 36, 37, 38, 39, 40, 41, 42, 43, 44, 45, 46, 47, 48, 49, 50, 51, 52, 53, 54, 55, 56, 57, 58, 59, 60, 61, 62, 63, 64, 65, 66, 67, 68, 69, 70, 71, 72, 78, 79, 80, 81, 82, 83, 84, 85, 86, 87, 92, 88, 89, 90, 91, 93, 94, 95, 96, 97, 98, 99, 100, 101, 102, 103, 104, 105, 106, 107, 108, 109, 110, 111, 112] (by decide +kernel) (by decide +kernel)) (goodIn_sub (fun _ h => List.mem_cons_of_mem _ (List.mem_append_right _ h)) (by decide +kernel))
set_option maxRecDepth 20000 in
theorem gX6_save_X1_copyFrom : GoodIn wsX6_save (wsV RX6 253 RX1 yX1_copyFrom wsX1_copyFrom) := goodIn_app (goodIn_of _ (by decide +kernel)) ggX6_save_X1_copyFrom
theorem dX6_save_0 : decode cX6_save 0 = .ok (.aload_n 0, 1) := by decide +kernel
theorem dX6_save_1 : decode cX6_save 1 = .ok (.getfield 16, 3) := by decide +kernel
theorem dX6_save_4 : decode cX6_save 4 = .ok (.aload_n 0, 1) := by decide +kernel
theorem dX6_save_5 : decode cX6_save 5 = .ok (.getfield 12, 3) := by decide +kernel
theorem dX6_save_8 : decode cX6_save 8 = .ok (.invokevirtual 253, 3) := by decide +kernel
theorem dX6_save_11 : decode cX6_save 11 = .ok (.aload_n 0, 1) := by decide +kernel
theorem dX6_save_12 : decode cX6_save 12 = .ok (.iconst 1, 1) := by decide +kernel
theorem dX6_save_13 : decode cX6_save 13 = .ok (.putfield 26, 3) := by decide +kernel
theorem dX6_save_16 : decode cX6_save 16 = .ok (.aload_n 0, 1) := by decide +kernel
theorem dX6_save_17 : decode cX6_save 17 = .ok (.getfield 12, 3) := by decide +kernel
theorem dX6_save_20 : decode cX6_save 20 = .ok (.getfield 65, 3) := by decide +kernel
theorem dX6_save_23 : decode cX6_save 23 = .ok (.getfield 69, 3) := by decide +kernel
theorem dX6_save_26 : decode cX6_save 26 = .ok (.ireturn, 1) := by decide +kernel
set_option maxRecDepth 20000 in
theorem ggX6_restore_X1_copyFrom : GoodIn wsX6_restore wsX1_copyFrom := goodIn_ca (goodIn_r _ [12, 13, 14, 15, 16, 17, 18, 19, 20, 21, 22, 23, 24, 25, 26, 27, 28, 29, 30, 31, 32, 33, 34, 35, 36, 37, 38, 39, 40, 41, 42, 43, 44, 45, 46, 47, 48, 49, 50, 51, 52, 53, 54, 55, 56, 57, 58, 59, 60, 61, 62, 63, 64, 65, 66, 67, 68, 69, 70, 71, 72, 73, 74, 80, 81, 82, 83, 84, 85, 86, 87, 88, 89, 94, 90, 91, 92, 93, 95, 96, 97, 98, 99, 100, 101, 102, 103, 104, 105, 106, 107, 108, 109, 110, 111, 112, 113, 114] (by decide +kernel) (by decide +kernel)) (goodIn_sub (fun _ h => List.mem_cons_of_mem _ (List.mem_append_right _ h)) (by decide +kernel))
set_option maxRecDepth 20000 in
theorem gX6_restore_X1_copyFrom : GoodIn wsX6_restore (wsV RX6 253 RX1 yX1_copyFrom wsX1_copyFrom) := goodIn_app (goodIn_of _ (by decide +kernel)) ggX6_restore_X1_copyFrom
theorem dX6_restore_0 : decode cX6_restore 0 = .ok (.aload_n 0, 1) := by decide +kernel
theorem dX6_restore_1 : decode cX6_restore 1 = .ok (.getfield 26, 3) := by decide +kernel
theorem dX6_restore_4 : decode cX6_restore 4 = .ok (.ifCond .ne 14, 3) := by decide +kernel
theorem dX6_restore_7 : decode cX6_restore 7 = .ok (.new 84, 3) := by decide +kernel
theorem dX6_restore_10 : decode cX6_restore 10 = .ok (.dup, 1) := by decide +kernel
theorem dX6_restore_11 : decode cX6_restore 11 = .ok (.ldc_w 257, 3) := by decide +kernel
theorem dX6_restore_14 : decode cX6_restore 14 = .ok (.invokespecial 88, 3) := by decide +kernel
theorem dX6_restore_17 : decode cX6_restore 17 = .ok (.athrow, 1) := by decide +kernel
theorem dX6_restore_18 : decode cX6_restore 18 = .ok (.aload_n 0, 1) := by decide +kernel
theorem dX6_restore_19 : decode cX6_restore 19 = .ok (.getfield 12, 3) := by decide +kernel
theorem dX6_restore_22 : decode cX6_restore 22 = .ok (.aload_n 0, 1) := by decide +kernel
theorem dX6_restore_23 : decode cX6_restore 23 = .ok (.getfield 16, 3) := by decide +kernel
theorem dX6_restore_26 : decode cX6_restore 26 = .ok (.invokevirtual 253, 3) := by decide +kernel
theorem dX6_restore_29 : decode cX6_restore 29 = .ok (.aload_n 0, 1) := by decide +kernel
theorem dX6_restore_30 : decode cX6_restore 30 = .ok (.getfield 12, 3) := by decide +kernel
theorem dX6_restore_33 : decode cX6_restore 33 = .ok (.getfield 65, 3) := by decide +kernel
theorem dX6_restore_36 : decode cX6_restore 36 = .ok (.getfield 69, 3) := by decide +kernel
theorem dX6_restore_39 : decode cX6_restore 39 = .ok (.ireturn, 1) := by decide +kernel
theorem dX6_needKey_0 : decode cX6_needKey 0 = .ok (.iload_n 0, 1) := by decide +kernel
theorem dX6_needKey_1 : decode cX6_needKey 1 = .ok (.ifCond .lt 9, 3) := by decide +kernel
theorem dX6_needKey_4 : decode cX6_needKey 4 = .ok (.iload_n 0, 1) := by decide +kernel
theorem dX6_needKey_5 : decode cX6_needKey 5 = .ok (.bipush 8, 2) := by decide +kernel
theorem dX6_needKey_7 : decode cX6_needKey 7 = .ok (.if_icmp .lt 14, 3) := by decide +kernel
theorem dX6_needKey_10 : decode cX6_needKey 10 = .ok (.new 202, 3) := by decide +kernel
theorem dX6_needKey_13 : decode cX6_needKey 13 = .ok (.dup, 1) := by decide +kernel
theorem dX6_needKey_14 : decode cX6_needKey 14 = .ok (.ldc_w 259, 3) := by decide +kernel
theorem dX6_needKey_17 : decode cX6_needKey 17 = .ok (.invokespecial 206, 3) := by decide +kernel
theorem dX6_needKey_20 : decode cX6_needKey 20 = .ok (.athrow, 1) := by decide +kernel
theorem dX6_needKey_21 : decode cX6_needKey 21 = .ok (.return_, 1) := by decide +kernel
theorem dX6_needWithin_0 : decode cX6_needWithin 0 = .ok (.iload_n 0, 1) := by decide +kernel
theorem dX6_needWithin_1 : decode cX6_needWithin 1 = .ok (.iload_n 1, 1) := by decide +kernel
theorem dX6_needWithin_2 : decode cX6_needWithin 2 = .ok (.if_icmp .lt 8, 3) := by decide +kernel
theorem dX6_needWithin_5 : decode cX6_needWithin 5 = .ok (.iload_n 0, 1) := by decide +kernel
theorem dX6_needWithin_6 : decode cX6_needWithin 6 = .ok (.iload_n 2, 1) := by decide +kernel
theorem dX6_needWithin_7 : decode cX6_needWithin 7 = .ok (.if_icmp .le 14, 3) := by decide +kernel
theorem dX6_needWithin_10 : decode cX6_needWithin 10 = .ok (.new 236, 3) := by decide +kernel
theorem dX6_needWithin_13 : decode cX6_needWithin 13 = .ok (.dup, 1) := by decide +kernel
theorem dX6_needWithin_14 : decode cX6_needWithin 14 = .ok (.ldc_w 261, 3) := by decide +kernel
theorem dX6_needWithin_17 : decode cX6_needWithin 17 = .ok (.invokespecial 240, 3) := by decide +kernel
theorem dX6_needWithin_20 : decode cX6_needWithin 20 = .ok (.athrow, 1) := by decide +kernel
theorem dX6_needWithin_21 : decode cX6_needWithin 21 = .ok (.return_, 1) := by decide +kernel
theorem dX6_needFound_0 : decode cX6_needFound 0 = .ok (.iload_n 0, 1) := by decide +kernel
theorem dX6_needFound_1 : decode cX6_needFound 1 = .ok (.iconst (-1), 1) := by decide +kernel
theorem dX6_needFound_2 : decode cX6_needFound 2 = .ok (.if_icmp .ne 14, 3) := by decide +kernel
theorem dX6_needFound_5 : decode cX6_needFound 5 = .ok (.new 263, 3) := by decide +kernel
theorem dX6_needFound_8 : decode cX6_needFound 8 = .ok (.dup, 1) := by decide +kernel
theorem dX6_needFound_9 : decode cX6_needFound 9 = .ok (.ldc_w 265, 3) := by decide +kernel
theorem dX6_needFound_12 : decode cX6_needFound 12 = .ok (.invokespecial 267, 3) := by decide +kernel
theorem dX6_needFound_15 : decode cX6_needFound 15 = .ok (.athrow, 1) := by decide +kernel
theorem dX6_needFound_16 : decode cX6_needFound 16 = .ok (.iload_n 0, 1) := by decide +kernel
theorem dX6_needFound_17 : decode cX6_needFound 17 = .ok (.ireturn, 1) := by decide +kernel
set_option maxRecDepth 20000 in
theorem ggX6_needBurst_X0_stands : GoodIn wsX6_needBurst wsX0_stands := goodIn_ca (goodIn_r _ [9, 10, 11, 12, 13, 14, 15, 16, 17, 33, 34, 35, 36, 37, 38, 39, 40, 41, 42, 43] (by decide +kernel) (by decide +kernel)) (goodIn_sub (fun _ h => List.mem_cons_of_mem _ (List.mem_append_right _ h)) (by decide +kernel))
set_option maxRecDepth 20000 in
theorem gX6_needBurst_X0_stands : GoodIn wsX6_needBurst (wsV RX6 268 RX0 yX0_stands wsX0_stands) := goodIn_app (goodIn_of _ (by decide +kernel)) ggX6_needBurst_X0_stands
theorem dX6_needBurst_0 : decode cX6_needBurst 0 = .ok (.aload_n 0, 1) := by decide +kernel
theorem dX6_needBurst_1 : decode cX6_needBurst 1 = .ok (.getfield 12, 3) := by decide +kernel
theorem dX6_needBurst_4 : decode cX6_needBurst 4 = .ok (.getfield 101, 3) := by decide +kernel
theorem dX6_needBurst_7 : decode cX6_needBurst 7 = .ok (.iload_n 1, 1) := by decide +kernel
theorem dX6_needBurst_8 : decode cX6_needBurst 8 = .ok (.invokevirtual 268, 3) := by decide +kernel
theorem dX6_needBurst_11 : decode cX6_needBurst 11 = .ok (.ifCond .ne 14, 3) := by decide +kernel
theorem dX6_needBurst_14 : decode cX6_needBurst 14 = .ok (.new 202, 3) := by decide +kernel
theorem dX6_needBurst_17 : decode cX6_needBurst 17 = .ok (.dup, 1) := by decide +kernel
theorem dX6_needBurst_18 : decode cX6_needBurst 18 = .ok (.ldc_w 271, 3) := by decide +kernel
theorem dX6_needBurst_21 : decode cX6_needBurst 21 = .ok (.invokespecial 206, 3) := by decide +kernel
theorem dX6_needBurst_24 : decode cX6_needBurst 24 = .ok (.athrow, 1) := by decide +kernel
theorem dX6_needBurst_25 : decode cX6_needBurst 25 = .ok (.return_, 1) := by decide +kernel
set_option maxRecDepth 20000 in
theorem ggX6_needOpen_X0_isOpen : GoodIn wsX6_needOpen wsX0_isOpen := goodIn_ca (goodIn_r _ [9, 10, 11, 12, 13, 14, 15, 16, 17, 33, 34, 35, 36, 37, 38, 39, 40, 41, 42, 43] (by decide +kernel) (by decide +kernel)) (goodIn_sub (fun _ h => List.mem_cons_of_mem _ (List.mem_append_right _ h)) (by decide +kernel))
set_option maxRecDepth 20000 in
theorem gX6_needOpen_X0_isOpen : GoodIn wsX6_needOpen (wsV RX6 131 RX0 yX0_isOpen wsX0_isOpen) := goodIn_app (goodIn_of _ (by decide +kernel)) ggX6_needOpen_X0_isOpen
theorem dX6_needOpen_0 : decode cX6_needOpen 0 = .ok (.aload_n 0, 1) := by decide +kernel
theorem dX6_needOpen_1 : decode cX6_needOpen 1 = .ok (.getfield 12, 3) := by decide +kernel
theorem dX6_needOpen_4 : decode cX6_needOpen 4 = .ok (.getfield 101, 3) := by decide +kernel
theorem dX6_needOpen_7 : decode cX6_needOpen 7 = .ok (.iload_n 1, 1) := by decide +kernel
theorem dX6_needOpen_8 : decode cX6_needOpen 8 = .ok (.invokevirtual 131, 3) := by decide +kernel
theorem dX6_needOpen_11 : decode cX6_needOpen 11 = .ok (.ifCond .ne 14, 3) := by decide +kernel
theorem dX6_needOpen_14 : decode cX6_needOpen 14 = .ok (.new 84, 3) := by decide +kernel
theorem dX6_needOpen_17 : decode cX6_needOpen 17 = .ok (.dup, 1) := by decide +kernel
theorem dX6_needOpen_18 : decode cX6_needOpen 18 = .ok (.ldc_w 273, 3) := by decide +kernel
theorem dX6_needOpen_21 : decode cX6_needOpen 21 = .ok (.invokespecial 88, 3) := by decide +kernel
theorem dX6_needOpen_24 : decode cX6_needOpen 24 = .ok (.athrow, 1) := by decide +kernel
theorem dX6_needOpen_25 : decode cX6_needOpen 25 = .ok (.return_, 1) := by decide +kernel
