set_option maxRecDepth 20000 in
theorem ggX7_init_X7_starts : GoodIn wsX7_init wsX7_starts := goodIn_ca (goodIn_r _ [15, 5, 16, 17, 18, 19, 20, 21, 22, 23, 24, 25, 26, 27, 28, 29, 30, 31, 32] (by decide +kernel) (by decide +kernel)) (goodIn_sub (fun _ h => List.mem_cons_of_mem _ (List.mem_append_right _ h)) (by decide +kernel))
set_option maxRecDepth 20000 in
theorem gX7_init_X7_starts : GoodIn wsX7_init (wsV RX7 27 RX7 yX7_starts wsX7_starts) := goodIn_app (goodIn_of _ (by decide +kernel)) ggX7_init_X7_starts
theorem dX7_init_0 : decode cX7_init 0 = .ok (.aload_n 0, 1) := by decide +kernel
theorem dX7_init_1 : decode cX7_init 1 = .ok (.invokespecial 1, 3) := by decide +kernel
theorem dX7_init_4 : decode cX7_init 4 = .ok (.aload_n 0, 1) := by decide +kernel
theorem dX7_init_5 : decode cX7_init 5 = .ok (.sipush 1787, 3) := by decide +kernel
theorem dX7_init_8 : decode cX7_init 8 = .ok (.newarray .int, 2) := by decide +kernel
theorem dX7_init_10 : decode cX7_init 10 = .ok (.putfield 7, 3) := by decide +kernel
theorem dX7_init_13 : decode cX7_init 13 = .ok (.aload_n 0, 1) := by decide +kernel
theorem dX7_init_14 : decode cX7_init 14 = .ok (.sipush 1787, 3) := by decide +kernel
theorem dX7_init_17 : decode cX7_init 17 = .ok (.newarray .int, 2) := by decide +kernel
theorem dX7_init_19 : decode cX7_init 19 = .ok (.putfield 13, 3) := by decide +kernel
theorem dX7_init_22 : decode cX7_init 22 = .ok (.aload_n 0, 1) := by decide +kernel
theorem dX7_init_23 : decode cX7_init 23 = .ok (.sipush 1787, 3) := by decide +kernel
theorem dX7_init_26 : decode cX7_init 26 = .ok (.newarray .int, 2) := by decide +kernel
theorem dX7_init_28 : decode cX7_init 28 = .ok (.putfield 16, 3) := by decide +kernel
theorem dX7_init_31 : decode cX7_init 31 = .ok (.aload_n 0, 1) := by decide +kernel
theorem dX7_init_32 : decode cX7_init 32 = .ok (.bipush 40, 2) := by decide +kernel
theorem dX7_init_34 : decode cX7_init 34 = .ok (.newarray .char, 2) := by decide +kernel
theorem dX7_init_36 : decode cX7_init 36 = .ok (.putfield 19, 3) := by decide +kernel
theorem dX7_init_39 : decode cX7_init 39 = .ok (.aload_n 0, 1) := by decide +kernel
theorem dX7_init_40 : decode cX7_init 40 = .ok (.iconst (-1), 1) := by decide +kernel
theorem dX7_init_41 : decode cX7_init 41 = .ok (.putfield 23, 3) := by decide +kernel
theorem dX7_init_44 : decode cX7_init 44 = .ok (.aload_n 0, 1) := by decide +kernel
theorem dX7_init_45 : decode cX7_init 45 = .ok (.invokevirtual 27, 3) := by decide +kernel
theorem dX7_init_48 : decode cX7_init 48 = .ok (.return_, 1) := by decide +kernel
theorem dX7_starts_0 : decode cX7_starts 0 = .ok (.iconst 0, 1) := by decide +kernel
theorem dX7_starts_1 : decode cX7_starts 1 = .ok (.istore_n 1, 1) := by decide +kernel
theorem dX7_starts_2 : decode cX7_starts 2 = .ok (.iload_n 1, 1) := by decide +kernel
theorem dX7_starts_3 : decode cX7_starts 3 = .ok (.sipush 1787, 3) := by decide +kernel
theorem dX7_starts_6 : decode cX7_starts 6 = .ok (.if_icmp .ge 16, 3) := by decide +kernel
theorem dX7_starts_9 : decode cX7_starts 9 = .ok (.aload_n 0, 1) := by decide +kernel
theorem dX7_starts_10 : decode cX7_starts 10 = .ok (.getfield 7, 3) := by decide +kernel
theorem dX7_starts_13 : decode cX7_starts 13 = .ok (.iload_n 1, 1) := by decide +kernel
theorem dX7_starts_14 : decode cX7_starts 14 = .ok (.iconst 0, 1) := by decide +kernel
theorem dX7_starts_15 : decode cX7_starts 15 = .ok (.iastore, 1) := by decide +kernel
theorem dX7_starts_16 : decode cX7_starts 16 = .ok (.iinc 1 1, 3) := by decide +kernel
theorem dX7_starts_19 : decode cX7_starts 19 = .ok (.goto (-17), 3) := by decide +kernel
theorem dX7_starts_22 : decode cX7_starts 22 = .ok (.iconst 0, 1) := by decide +kernel
theorem dX7_starts_23 : decode cX7_starts 23 = .ok (.istore_n 1, 1) := by decide +kernel
theorem dX7_starts_24 : decode cX7_starts 24 = .ok (.iload_n 1, 1) := by decide +kernel
theorem dX7_starts_25 : decode cX7_starts 25 = .ok (.bipush 8, 2) := by decide +kernel
theorem dX7_starts_27 : decode cX7_starts 27 = .ok (.if_icmp .ge 21, 3) := by decide +kernel
theorem dX7_starts_30 : decode cX7_starts 30 = .ok (.aload_n 0, 1) := by decide +kernel
theorem dX7_starts_31 : decode cX7_starts 31 = .ok (.getfield 7, 3) := by decide +kernel
theorem dX7_starts_34 : decode cX7_starts 34 = .ok (.sipush 1402, 3) := by decide +kernel
theorem dX7_starts_37 : decode cX7_starts 37 = .ok (.iload_n 1, 1) := by decide +kernel
theorem dX7_starts_38 : decode cX7_starts 38 = .ok (.iadd, 1) := by decide +kernel
theorem dX7_starts_39 : decode cX7_starts 39 = .ok (.bipush 10, 2) := by decide +kernel
theorem dX7_starts_41 : decode cX7_starts 41 = .ok (.iastore, 1) := by decide +kernel
theorem dX7_starts_42 : decode cX7_starts 42 = .ok (.iinc 1 1, 3) := by decide +kernel
theorem dX7_starts_45 : decode cX7_starts 45 = .ok (.goto (-21), 3) := by decide +kernel
theorem dX7_starts_48 : decode cX7_starts 48 = .ok (.aload_n 0, 1) := by decide +kernel
theorem dX7_starts_49 : decode cX7_starts 49 = .ok (.lconst 0, 1) := by decide +kernel
theorem dX7_starts_50 : decode cX7_starts 50 = .ok (.putfield 30, 3) := by decide +kernel
theorem dX7_starts_53 : decode cX7_starts 53 = .ok (.return_, 1) := by decide +kernel
theorem dX7_thrown_0 : decode cX7_thrown 0 = .ok (.aload_n 0, 1) := by decide +kernel
theorem dX7_thrown_1 : decode cX7_thrown 1 = .ok (.getfield 34, 3) := by decide +kernel
theorem dX7_thrown_4 : decode cX7_thrown 4 = .ok (.ireturn, 1) := by decide +kernel
theorem dX7_in_0 : decode cX7_in 0 = .ok (.iload_n 0, 1) := by decide +kernel
theorem dX7_in_1 : decode cX7_in 1 = .ok (.iload_n 1, 1) := by decide +kernel
theorem dX7_in_2 : decode cX7_in 2 = .ok (.if_icmp .lt 12, 3) := by decide +kernel
theorem dX7_in_5 : decode cX7_in 5 = .ok (.iload_n 0, 1) := by decide +kernel
theorem dX7_in_6 : decode cX7_in 6 = .ok (.iload_n 2, 1) := by decide +kernel
theorem dX7_in_7 : decode cX7_in 7 = .ok (.if_icmp .gt 7, 3) := by decide +kernel
theorem dX7_in_10 : decode cX7_in 10 = .ok (.iconst 1, 1) := by decide +kernel
theorem dX7_in_11 : decode cX7_in 11 = .ok (.goto 4, 3) := by decide +kernel
theorem dX7_in_14 : decode cX7_in 14 = .ok (.iconst 0, 1) := by decide +kernel
theorem dX7_in_15 : decode cX7_in 15 = .ok (.ireturn, 1) := by decide +kernel
theorem dX7_fails_0 : decode cX7_fails 0 = .ok (.aload_n 0, 1) := by decide +kernel
theorem dX7_fails_1 : decode cX7_fails 1 = .ok (.iload_n 1, 1) := by decide +kernel
theorem dX7_fails_2 : decode cX7_fails 2 = .ok (.putfield 34, 3) := by decide +kernel
theorem dX7_fails_5 : decode cX7_fails 5 = .ok (.iconst 0, 1) := by decide +kernel
theorem dX7_fails_6 : decode cX7_fails 6 = .ok (.ireturn, 1) := by decide +kernel
theorem dX7_done_0 : decode cX7_done 0 = .ok (.aload_n 0, 1) := by decide +kernel
theorem dX7_done_1 : decode cX7_done 1 = .ok (.iconst 0, 1) := by decide +kernel
theorem dX7_done_2 : decode cX7_done 2 = .ok (.putfield 34, 3) := by decide +kernel
theorem dX7_done_5 : decode cX7_done 5 = .ok (.iload_n 1, 1) := by decide +kernel
theorem dX7_done_6 : decode cX7_done 6 = .ok (.ireturn, 1) := by decide +kernel
set_option maxRecDepth 20000 in
theorem ggX7_isKey_X7_in : GoodIn wsX7_isKey wsX7_in := goodIn_r _ [4] (by decide +kernel) (by decide +kernel)
set_option maxRecDepth 20000 in
theorem gX7_isKey_X7_in : GoodIn wsX7_isKey (va_wsS RX7 37 yX7_in wsX7_in) := goodIn_app (goodIn_of _ (by decide +kernel)) ggX7_isKey_X7_in
theorem dX7_isKey_0 : decode cX7_isKey 0 = .ok (.iload_n 0, 1) := by decide +kernel
theorem dX7_isKey_1 : decode cX7_isKey 1 = .ok (.iconst 0, 1) := by decide +kernel
theorem dX7_isKey_2 : decode cX7_isKey 2 = .ok (.bipush 7, 2) := by decide +kernel
theorem dX7_isKey_4 : decode cX7_isKey 4 = .ok (.invokestatic 37, 3) := by decide +kernel
theorem dX7_isKey_7 : decode cX7_isKey 7 = .ok (.ireturn, 1) := by decide +kernel
theorem dX7_of_0 : decode cX7_of 0 = .ok (.aload_n 0, 1) := by decide +kernel
theorem dX7_of_1 : decode cX7_of 1 = .ok (.getfield 7, 3) := by decide +kernel
theorem dX7_of_4 : decode cX7_of 4 = .ok (.sipush 401, 3) := by decide +kernel
theorem dX7_of_7 : decode cX7_of 7 = .ok (.bipush 10, 2) := by decide +kernel
theorem dX7_of_9 : decode cX7_of 9 = .ok (.iload_n 1, 1) := by decide +kernel
theorem dX7_of_10 : decode cX7_of 10 = .ok (.imul, 1) := by decide +kernel
theorem dX7_of_11 : decode cX7_of 11 = .ok (.iadd, 1) := by decide +kernel
theorem dX7_of_12 : decode cX7_of 12 = .ok (.iload_n 2, 1) := by decide +kernel
theorem dX7_of_13 : decode cX7_of 13 = .ok (.iadd, 1) := by decide +kernel
theorem dX7_of_14 : decode cX7_of 14 = .ok (.iaload, 1) := by decide +kernel
theorem dX7_of_15 : decode cX7_of 15 = .ok (.ireturn, 1) := by decide +kernel
theorem dX7_sets_0 : decode cX7_sets 0 = .ok (.aload_n 0, 1) := by decide +kernel
theorem dX7_sets_1 : decode cX7_sets 1 = .ok (.getfield 7, 3) := by decide +kernel
theorem dX7_sets_4 : decode cX7_sets 4 = .ok (.sipush 401, 3) := by decide +kernel
theorem dX7_sets_7 : decode cX7_sets 7 = .ok (.bipush 10, 2) := by decide +kernel
theorem dX7_sets_9 : decode cX7_sets 9 = .ok (.iload_n 1, 1) := by decide +kernel
theorem dX7_sets_10 : decode cX7_sets 10 = .ok (.imul, 1) := by decide +kernel
theorem dX7_sets_11 : decode cX7_sets 11 = .ok (.iadd, 1) := by decide +kernel
theorem dX7_sets_12 : decode cX7_sets 12 = .ok (.iload_n 2, 1) := by decide +kernel
theorem dX7_sets_13 : decode cX7_sets 13 = .ok (.iadd, 1) := by decide +kernel
theorem dX7_sets_14 : decode cX7_sets 14 = .ok (.iload_n 3, 1) := by decide +kernel
theorem dX7_sets_15 : decode cX7_sets 15 = .ok (.iastore, 1) := by decide +kernel
theorem dX7_sets_16 : decode cX7_sets 16 = .ok (.return_, 1) := by decide +kernel
set_option maxRecDepth 20000 in
theorem ggX7_isBurst_X7_in : GoodIn wsX7_isBurst wsX7_in := goodIn_r _ [5] (by decide +kernel) (by decide +kernel)
set_option maxRecDepth 20000 in
theorem gX7_isBurst_X7_in : GoodIn wsX7_isBurst (va_wsS RX7 37 yX7_in wsX7_in) := goodIn_app (goodIn_of _ (by decide +kernel)) ggX7_isBurst_X7_in
set_option maxRecDepth 20000 in
theorem ggX7_isBurst_X7_of : GoodIn wsX7_isBurst wsX7_of := goodIn_ca (goodIn_r _ [9, 1, 10, 11, 12, 13, 14, 15, 16, 17, 18, 19, 20, 21, 22, 23, 24, 25] (by decide +kernel) (by decide +kernel)) (goodIn_sub (fun _ h => List.mem_cons_of_mem _ (List.mem_append_right _ h)) (by decide +kernel))
set_option maxRecDepth 20000 in
theorem gX7_isBurst_X7_of : GoodIn wsX7_isBurst (wsV RX7 41 RX7 yX7_of wsX7_of) := goodIn_app (goodIn_of _ (by decide +kernel)) ggX7_isBurst_X7_of
theorem dX7_isBurst_0 : decode cX7_isBurst 0 = .ok (.iload_n 1, 1) := by decide +kernel
theorem dX7_isBurst_1 : decode cX7_isBurst 1 = .ok (.iconst 0, 1) := by decide +kernel
theorem dX7_isBurst_2 : decode cX7_isBurst 2 = .ok (.aload_n 0, 1) := by decide +kernel
theorem dX7_isBurst_3 : decode cX7_isBurst 3 = .ok (.getfield 7, 3) := by decide +kernel
theorem dX7_isBurst_6 : decode cX7_isBurst 6 = .ok (.sipush 1401, 3) := by decide +kernel
theorem dX7_isBurst_9 : decode cX7_isBurst 9 = .ok (.iaload, 1) := by decide +kernel
theorem dX7_isBurst_10 : decode cX7_isBurst 10 = .ok (.iconst 1, 1) := by decide +kernel
theorem dX7_isBurst_11 : decode cX7_isBurst 11 = .ok (.isub, 1) := by decide +kernel
theorem dX7_isBurst_12 : decode cX7_isBurst 12 = .ok (.invokestatic 37, 3) := by decide +kernel
theorem dX7_isBurst_15 : decode cX7_isBurst 15 = .ok (.ifCond .eq 17, 3) := by decide +kernel
theorem dX7_isBurst_18 : decode cX7_isBurst 18 = .ok (.aload_n 0, 1) := by decide +kernel
theorem dX7_isBurst_19 : decode cX7_isBurst 19 = .ok (.iload_n 1, 1) := by decide +kernel
theorem dX7_isBurst_20 : decode cX7_isBurst 20 = .ok (.iconst 0, 1) := by decide +kernel
theorem dX7_isBurst_21 : decode cX7_isBurst 21 = .ok (.invokevirtual 41, 3) := by decide +kernel
theorem dX7_isBurst_24 : decode cX7_isBurst 24 = .ok (.iconst 1, 1) := by decide +kernel
theorem dX7_isBurst_25 : decode cX7_isBurst 25 = .ok (.if_icmp .ne 7, 3) := by decide +kernel
theorem dX7_isBurst_28 : decode cX7_isBurst 28 = .ok (.iconst 1, 1) := by decide +kernel
theorem dX7_isBurst_29 : decode cX7_isBurst 29 = .ok (.goto 4, 3) := by decide +kernel
theorem dX7_isBurst_32 : decode cX7_isBurst 32 = .ok (.iconst 0, 1) := by decide +kernel
theorem dX7_isBurst_33 : decode cX7_isBurst 33 = .ok (.ireturn, 1) := by decide +kernel
set_option maxRecDepth 20000 in
theorem ggX7_isOpen_X7_isBurst : GoodIn wsX7_isOpen wsX7_isBurst := goodIn_ca (goodIn_r _ [5, 6, 7, 8, 4, 9, 10, 11, 12, 13, 14, 15, 16, 17, 18, 19, 20, 21, 22, 23, 24, 25, 26, 27, 28, 29] (by decide +kernel) (by decide +kernel)) (goodIn_sub (fun _ h => List.mem_cons_of_mem _ (List.mem_append_right _ h)) (by decide +kernel))
set_option maxRecDepth 20000 in
theorem gX7_isOpen_X7_isBurst : GoodIn wsX7_isOpen (wsV RX7 45 RX7 yX7_isBurst wsX7_isBurst) := goodIn_app (goodIn_of _ (by decide +kernel)) ggX7_isOpen_X7_isBurst
set_option maxRecDepth 20000 in
theorem ggX7_isOpen_X7_of : GoodIn wsX7_isOpen wsX7_of := goodIn_ca (goodIn_r _ [13, 6, 14, 15, 16, 17, 18, 19, 20, 21, 22, 23, 24, 25, 26, 27, 28, 29] (by decide +kernel) (by decide +kernel)) (goodIn_sub (fun _ h => List.mem_cons_of_mem _ (List.mem_append_right _ h)) (by decide +kernel))
set_option maxRecDepth 20000 in
theorem gX7_isOpen_X7_of : GoodIn wsX7_isOpen (wsV RX7 41 RX7 yX7_of wsX7_of) := goodIn_app (goodIn_of _ (by decide +kernel)) ggX7_isOpen_X7_of
theorem dX7_isOpen_0 : decode cX7_isOpen 0 = .ok (.aload_n 0, 1) := by decide +kernel
theorem dX7_isOpen_1 : decode cX7_isOpen 1 = .ok (.iload_n 1, 1) := by decide +kernel
theorem dX7_isOpen_2 : decode cX7_isOpen 2 = .ok (.invokevirtual 45, 3) := by decide +kernel
theorem dX7_isOpen_5 : decode cX7_isOpen 5 = .ok (.ifCond .eq 16, 3) := by decide +kernel
theorem dX7_isOpen_8 : decode cX7_isOpen 8 = .ok (.aload_n 0, 1) := by decide +kernel
theorem dX7_isOpen_9 : decode cX7_isOpen 9 = .ok (.iload_n 1, 1) := by decide +kernel
theorem dX7_isOpen_10 : decode cX7_isOpen 10 = .ok (.iconst 4, 1) := by decide +kernel
theorem dX7_isOpen_11 : decode cX7_isOpen 11 = .ok (.invokevirtual 41, 3) := by decide +kernel
theorem dX7_isOpen_14 : decode cX7_isOpen 14 = .ok (.ifCond .ne 7, 3) := by decide +kernel
theorem dX7_isOpen_17 : decode cX7_isOpen 17 = .ok (.iconst 1, 1) := by decide +kernel
theorem dX7_isOpen_18 : decode cX7_isOpen 18 = .ok (.goto 4, 3) := by decide +kernel
theorem dX7_isOpen_21 : decode cX7_isOpen 21 = .ok (.iconst 0, 1) := by decide +kernel
theorem dX7_isOpen_22 : decode cX7_isOpen 22 = .ok (.ireturn, 1) := by decide +kernel
set_option maxRecDepth 20000 in
theorem ggX7_gapOf_X7_of : GoodIn wsX7_gapOf wsX7_of := goodIn_ca (goodIn_r _ [6, 1, 7, 8, 9, 10, 11, 12, 13, 14, 15, 16, 17, 18, 19, 20, 21, 22] (by decide +kernel) (by decide +kernel)) (goodIn_sub (fun _ h => List.mem_cons_of_mem _ (List.mem_append_right _ h)) (by decide +kernel))
set_option maxRecDepth 20000 in
theorem gX7_gapOf_X7_of : GoodIn wsX7_gapOf (wsV RX7 41 RX7 yX7_of wsX7_of) := goodIn_app (goodIn_of _ (by decide +kernel)) ggX7_gapOf_X7_of
theorem dX7_gapOf_0 : decode cX7_gapOf 0 = .ok (.aload_n 0, 1) := by decide +kernel
theorem dX7_gapOf_1 : decode cX7_gapOf 1 = .ok (.getfield 7, 3) := by decide +kernel
theorem dX7_gapOf_4 : decode cX7_gapOf 4 = .ok (.sipush 1402, 3) := by decide +kernel
theorem dX7_gapOf_7 : decode cX7_gapOf 7 = .ok (.aload_n 0, 1) := by decide +kernel
theorem dX7_gapOf_8 : decode cX7_gapOf 8 = .ok (.iload_n 1, 1) := by decide +kernel
theorem dX7_gapOf_9 : decode cX7_gapOf 9 = .ok (.iconst 1, 1) := by decide +kernel
theorem dX7_gapOf_10 : decode cX7_gapOf 10 = .ok (.invokevirtual 41, 3) := by decide +kernel
theorem dX7_gapOf_13 : decode cX7_gapOf 13 = .ok (.iadd, 1) := by decide +kernel
theorem dX7_gapOf_14 : decode cX7_gapOf 14 = .ok (.iaload, 1) := by decide +kernel
theorem dX7_gapOf_15 : decode cX7_gapOf 15 = .ok (.ireturn, 1) := by decide +kernel
set_option maxRecDepth 20000 in
theorem ggX7_puts_X7_done : GoodIn wsX7_puts wsX7_done := goodIn_r _ [6, 7, 8, 9, 10, 11, 12, 13, 14, 15, 16, 17, 18, 19, 20, 21, 22, 23] (by decide +kernel) (by decide +kernel)
set_option maxRecDepth 20000 in
theorem gX7_puts_X7_done : GoodIn wsX7_puts (wsV RX7 49 RX7 yX7_done wsX7_done) := goodIn_app (goodIn_of _ (by decide +kernel)) ggX7_puts_X7_done
theorem dX7_puts_0 : decode cX7_puts 0 = .ok (.aload_n 0, 1) := by decide +kernel
theorem dX7_puts_1 : decode cX7_puts 1 = .ok (.getfield 7, 3) := by decide +kernel
theorem dX7_puts_4 : decode cX7_puts 4 = .ok (.iload_n 1, 1) := by decide +kernel
theorem dX7_puts_5 : decode cX7_puts 5 = .ok (.iaload, 1) := by decide +kernel
theorem dX7_puts_6 : decode cX7_puts 6 = .ok (.istore_n 3, 1) := by decide +kernel
theorem dX7_puts_7 : decode cX7_puts 7 = .ok (.aload_n 0, 1) := by decide +kernel
theorem dX7_puts_8 : decode cX7_puts 8 = .ok (.getfield 7, 3) := by decide +kernel
theorem dX7_puts_11 : decode cX7_puts 11 = .ok (.iload_n 1, 1) := by decide +kernel
theorem dX7_puts_12 : decode cX7_puts 12 = .ok (.iload_n 2, 1) := by decide +kernel
theorem dX7_puts_13 : decode cX7_puts 13 = .ok (.iastore, 1) := by decide +kernel
theorem dX7_puts_14 : decode cX7_puts 14 = .ok (.aload_n 0, 1) := by decide +kernel
theorem dX7_puts_15 : decode cX7_puts 15 = .ok (.iload_n 3, 1) := by decide +kernel
theorem dX7_puts_16 : decode cX7_puts 16 = .ok (.invokevirtual 49, 3) := by decide +kernel
theorem dX7_puts_19 : decode cX7_puts 19 = .ok (.ireturn, 1) := by decide +kernel
set_option maxRecDepth 20000 in
theorem ggX7_setGap_X7_isKey : GoodIn wsX7_setGap wsX7_isKey := goodIn_r _ [4, 5, 6, 3, 7] (by decide +kernel) (by decide +kernel)
set_option maxRecDepth 20000 in
theorem gX7_setGap_X7_isKey : GoodIn wsX7_setGap (va_wsS RX7 53 yX7_isKey wsX7_isKey) := goodIn_app (goodIn_of _ (by decide +kernel)) ggX7_setGap_X7_isKey
set_option maxRecDepth 20000 in
theorem ggX7_setGap_X7_fails : GoodIn wsX7_setGap wsX7_fails := goodIn_r _ [11, 12, 22, 23, 24, 25, 26, 27, 28, 29, 30, 31, 32, 33, 34, 35, 36, 37] (by decide +kernel) (by decide +kernel)
set_option maxRecDepth 20000 in
theorem gX7_setGap_X7_fails : GoodIn wsX7_setGap (wsV RX7 56 RX7 yX7_fails wsX7_fails) := goodIn_app (goodIn_of _ (by decide +kernel)) ggX7_setGap_X7_fails
set_option maxRecDepth 20000 in
theorem ggX7_setGap_X7_in : GoodIn wsX7_setGap wsX7_in := goodIn_r _ [7] (by decide +kernel) (by decide +kernel)
set_option maxRecDepth 20000 in
theorem gX7_setGap_X7_in : GoodIn wsX7_setGap (va_wsS RX7 37 yX7_in wsX7_in) := goodIn_app (goodIn_of _ (by decide +kernel)) ggX7_setGap_X7_in
set_option maxRecDepth 20000 in
theorem ggX7_setGap_X7_puts : GoodIn wsX7_setGap wsX7_puts := goodIn_ca (goodIn_r _ [16, 17, 18, 19, 20, 3, 21, 12, 22, 23, 24, 25, 26, 27, 28, 29, 30, 31, 32, 33, 34, 35, 36, 37] (by decide +kernel) (by decide +kernel)) (goodIn_sub (fun _ h => List.mem_cons_of_mem _ (List.mem_append_right _ h)) (by decide +kernel))
set_option maxRecDepth 20000 in
theorem gX7_setGap_X7_puts : GoodIn wsX7_setGap (wsV RX7 59 RX7 yX7_puts wsX7_puts) := goodIn_app (goodIn_of _ (by decide +kernel)) ggX7_setGap_X7_puts
theorem dX7_setGap_0 : decode cX7_setGap 0 = .ok (.iload_n 1, 1) := by decide +kernel
theorem dX7_setGap_1 : decode cX7_setGap 1 = .ok (.invokestatic 53, 3) := by decide +kernel
theorem dX7_setGap_4 : decode cX7_setGap 4 = .ok (.ifCond .ne 9, 3) := by decide +kernel
theorem dX7_setGap_7 : decode cX7_setGap 7 = .ok (.aload_n 0, 1) := by decide +kernel
theorem dX7_setGap_8 : decode cX7_setGap 8 = .ok (.iconst 1, 1) := by decide +kernel
theorem dX7_setGap_9 : decode cX7_setGap 9 = .ok (.invokevirtual 56, 3) := by decide +kernel
theorem dX7_setGap_12 : decode cX7_setGap 12 = .ok (.ireturn, 1) := by decide +kernel
theorem dX7_setGap_13 : decode cX7_setGap 13 = .ok (.iload_n 2, 1) := by decide +kernel
theorem dX7_setGap_14 : decode cX7_setGap 14 = .ok (.iconst 1, 1) := by decide +kernel
theorem dX7_setGap_15 : decode cX7_setGap 15 = .ok (.bipush 50, 2) := by decide +kernel
theorem dX7_setGap_17 : decode cX7_setGap 17 = .ok (.invokestatic 37, 3) := by decide +kernel
theorem dX7_setGap_20 : decode cX7_setGap 20 = .ok (.ifCond .eq 16, 3) := by decide +kernel
theorem dX7_setGap_23 : decode cX7_setGap 23 = .ok (.aload_n 0, 1) := by decide +kernel
theorem dX7_setGap_24 : decode cX7_setGap 24 = .ok (.sipush 1402, 3) := by decide +kernel
theorem dX7_setGap_27 : decode cX7_setGap 27 = .ok (.iload_n 1, 1) := by decide +kernel
theorem dX7_setGap_28 : decode cX7_setGap 28 = .ok (.iadd, 1) := by decide +kernel
theorem dX7_setGap_29 : decode cX7_setGap 29 = .ok (.iload_n 2, 1) := by decide +kernel
theorem dX7_setGap_30 : decode cX7_setGap 30 = .ok (.invokevirtual 59, 3) := by decide +kernel
theorem dX7_setGap_33 : decode cX7_setGap 33 = .ok (.goto 8, 3) := by decide +kernel
theorem dX7_setGap_36 : decode cX7_setGap 36 = .ok (.aload_n 0, 1) := by decide +kernel
theorem dX7_setGap_37 : decode cX7_setGap 37 = .ok (.iconst 2, 1) := by decide +kernel
theorem dX7_setGap_38 : decode cX7_setGap 38 = .ok (.invokevirtual 56, 3) := by decide +kernel
theorem dX7_setGap_41 : decode cX7_setGap 41 = .ok (.ireturn, 1) := by decide +kernel
set_option maxRecDepth 20000 in
theorem ggX7_setFold_X7_isKey : GoodIn wsX7_setFold wsX7_isKey := goodIn_r _ [4, 5, 6, 3, 7] (by decide +kernel) (by decide +kernel)
set_option maxRecDepth 20000 in
theorem gX7_setFold_X7_isKey : GoodIn wsX7_setFold (va_wsS RX7 53 yX7_isKey wsX7_isKey) := goodIn_app (goodIn_of _ (by decide +kernel)) ggX7_setFold_X7_isKey
set_option maxRecDepth 20000 in
theorem ggX7_setFold_X7_fails : GoodIn wsX7_setFold wsX7_fails := goodIn_r _ [11, 12, 22, 23, 24, 25, 26, 27, 28, 29, 30, 31, 32, 33, 34, 35, 36, 37] (by decide +kernel) (by decide +kernel)
set_option maxRecDepth 20000 in
theorem gX7_setFold_X7_fails : GoodIn wsX7_setFold (wsV RX7 56 RX7 yX7_fails wsX7_fails) := goodIn_app (goodIn_of _ (by decide +kernel)) ggX7_setFold_X7_fails
set_option maxRecDepth 20000 in
theorem ggX7_setFold_X7_in : GoodIn wsX7_setFold wsX7_in := goodIn_r _ [7] (by decide +kernel) (by decide +kernel)
set_option maxRecDepth 20000 in
theorem gX7_setFold_X7_in : GoodIn wsX7_setFold (va_wsS RX7 37 yX7_in wsX7_in) := goodIn_app (goodIn_of _ (by decide +kernel)) ggX7_setFold_X7_in
set_option maxRecDepth 20000 in
theorem ggX7_setFold_X7_puts : GoodIn wsX7_setFold wsX7_puts := goodIn_ca (goodIn_r _ [16, 17, 18, 19, 20, 3, 21, 12, 22, 23, 24, 25, 26, 27, 28, 29, 30, 31, 32, 33, 34, 35, 36, 37] (by decide +kernel) (by decide +kernel)) (goodIn_sub (fun _ h => List.mem_cons_of_mem _ (List.mem_append_right _ h)) (by decide +kernel))
set_option maxRecDepth 20000 in
theorem gX7_setFold_X7_puts : GoodIn wsX7_setFold (wsV RX7 59 RX7 yX7_puts wsX7_puts) := goodIn_app (goodIn_of _ (by decide +kernel)) ggX7_setFold_X7_puts
theorem dX7_setFold_0 : decode cX7_setFold 0 = .ok (.iload_n 1, 1) := by decide +kernel
theorem dX7_setFold_1 : decode cX7_setFold 1 = .ok (.invokestatic 53, 3) := by decide +kernel
theorem dX7_setFold_4 : decode cX7_setFold 4 = .ok (.ifCond .ne 9, 3) := by decide +kernel
theorem dX7_setFold_7 : decode cX7_setFold 7 = .ok (.aload_n 0, 1) := by decide +kernel
theorem dX7_setFold_8 : decode cX7_setFold 8 = .ok (.iconst 1, 1) := by decide +kernel
theorem dX7_setFold_9 : decode cX7_setFold 9 = .ok (.invokevirtual 56, 3) := by decide +kernel
theorem dX7_setFold_12 : decode cX7_setFold 12 = .ok (.ireturn, 1) := by decide +kernel
theorem dX7_setFold_13 : decode cX7_setFold 13 = .ok (.iload_n 2, 1) := by decide +kernel
theorem dX7_setFold_14 : decode cX7_setFold 14 = .ok (.iconst 0, 1) := by decide +kernel
theorem dX7_setFold_15 : decode cX7_setFold 15 = .ok (.iconst 3, 1) := by decide +kernel
theorem dX7_setFold_16 : decode cX7_setFold 16 = .ok (.invokestatic 37, 3) := by decide +kernel
theorem dX7_setFold_19 : decode cX7_setFold 19 = .ok (.ifCond .eq 16, 3) := by decide +kernel
theorem dX7_setFold_22 : decode cX7_setFold 22 = .ok (.aload_n 0, 1) := by decide +kernel
theorem dX7_setFold_23 : decode cX7_setFold 23 = .ok (.sipush 1410, 3) := by decide +kernel
theorem dX7_setFold_26 : decode cX7_setFold 26 = .ok (.iload_n 1, 1) := by decide +kernel
theorem dX7_setFold_27 : decode cX7_setFold 27 = .ok (.iadd, 1) := by decide +kernel
theorem dX7_setFold_28 : decode cX7_setFold 28 = .ok (.iload_n 2, 1) := by decide +kernel
theorem dX7_setFold_29 : decode cX7_setFold 29 = .ok (.invokevirtual 59, 3) := by decide +kernel
theorem dX7_setFold_32 : decode cX7_setFold 32 = .ok (.goto 8, 3) := by decide +kernel
theorem dX7_setFold_35 : decode cX7_setFold 35 = .ok (.aload_n 0, 1) := by decide +kernel
theorem dX7_setFold_36 : decode cX7_setFold 36 = .ok (.iconst 2, 1) := by decide +kernel
theorem dX7_setFold_37 : decode cX7_setFold 37 = .ok (.invokevirtual 56, 3) := by decide +kernel
theorem dX7_setFold_40 : decode cX7_setFold 40 = .ok (.ireturn, 1) := by decide +kernel
set_option maxRecDepth 20000 in
theorem ggX7_setLateness_X7_in : GoodIn wsX7_setLateness wsX7_in := goodIn_r _ [4] (by decide +kernel) (by decide +kernel)
set_option maxRecDepth 20000 in
theorem gX7_setLateness_X7_in : GoodIn wsX7_setLateness (va_wsS RX7 37 yX7_in wsX7_in) := goodIn_app (goodIn_of _ (by decide +kernel)) ggX7_setLateness_X7_in
set_option maxRecDepth 20000 in
theorem ggX7_setLateness_X7_puts : GoodIn wsX7_setLateness wsX7_puts := goodIn_ca (goodIn_r _ [8, 9, 10, 11, 12, 3, 13, 14, 19, 20, 21, 22, 23, 24, 25, 26, 27, 28, 29, 30, 31, 32, 33, 34] (by decide +kernel) (by decide +kernel)) (goodIn_sub (fun _ h => List.mem_cons_of_mem _ (List.mem_append_right _ h)) (by decide +kernel))
set_option maxRecDepth 20000 in
theorem gX7_setLateness_X7_puts : GoodIn wsX7_setLateness (wsV RX7 59 RX7 yX7_puts wsX7_puts) := goodIn_app (goodIn_of _ (by decide +kernel)) ggX7_setLateness_X7_puts
set_option maxRecDepth 20000 in
theorem ggX7_setLateness_X7_fails : GoodIn wsX7_setLateness wsX7_fails := goodIn_r _ [18, 14, 19, 20, 21, 22, 23, 24, 25, 26, 27, 28, 29, 30, 31, 32, 33, 34] (by decide +kernel) (by decide +kernel)
set_option maxRecDepth 20000 in
theorem gX7_setLateness_X7_fails : GoodIn wsX7_setLateness (wsV RX7 56 RX7 yX7_fails wsX7_fails) := goodIn_app (goodIn_of _ (by decide +kernel)) ggX7_setLateness_X7_fails
theorem dX7_setLateness_0 : decode cX7_setLateness 0 = .ok (.iload_n 1, 1) := by decide +kernel
theorem dX7_setLateness_1 : decode cX7_setLateness 1 = .ok (.iconst 0, 1) := by decide +kernel
theorem dX7_setLateness_2 : decode cX7_setLateness 2 = .ok (.bipush 100, 2) := by decide +kernel
theorem dX7_setLateness_4 : decode cX7_setLateness 4 = .ok (.invokestatic 37, 3) := by decide +kernel
theorem dX7_setLateness_7 : decode cX7_setLateness 7 = .ok (.ifCond .eq 14, 3) := by decide +kernel
theorem dX7_setLateness_10 : decode cX7_setLateness 10 = .ok (.aload_n 0, 1) := by decide +kernel
theorem dX7_setLateness_11 : decode cX7_setLateness 11 = .ok (.sipush 1419, 3) := by decide +kernel
theorem dX7_setLateness_14 : decode cX7_setLateness 14 = .ok (.iload_n 1, 1) := by decide +kernel
theorem dX7_setLateness_15 : decode cX7_setLateness 15 = .ok (.invokevirtual 59, 3) := by decide +kernel
theorem dX7_setLateness_18 : decode cX7_setLateness 18 = .ok (.goto 8, 3) := by decide +kernel
theorem dX7_setLateness_21 : decode cX7_setLateness 21 = .ok (.aload_n 0, 1) := by decide +kernel
theorem dX7_setLateness_22 : decode cX7_setLateness 22 = .ok (.iconst 1, 1) := by decide +kernel
theorem dX7_setLateness_23 : decode cX7_setLateness 23 = .ok (.invokevirtual 56, 3) := by decide +kernel
theorem dX7_setLateness_26 : decode cX7_setLateness 26 = .ok (.ireturn, 1) := by decide +kernel
set_option maxRecDepth 20000 in
theorem ggX7_setTrigger_X7_in : GoodIn wsX7_setTrigger wsX7_in := goodIn_r _ [4] (by decide +kernel) (by decide +kernel)
set_option maxRecDepth 20000 in
theorem gX7_setTrigger_X7_in : GoodIn wsX7_setTrigger (va_wsS RX7 37 yX7_in wsX7_in) := goodIn_app (goodIn_of _ (by decide +kernel)) ggX7_setTrigger_X7_in
set_option maxRecDepth 20000 in
theorem ggX7_setTrigger_X7_puts : GoodIn wsX7_setTrigger wsX7_puts := goodIn_ca (goodIn_r _ [8, 9, 10, 11, 12, 3, 13, 14, 19, 20, 21, 22, 23, 24, 25, 26, 27, 28, 29, 30, 31, 32, 33, 34] (by decide +kernel) (by decide +kernel)) (goodIn_sub (fun _ h => List.mem_cons_of_mem _ (List.mem_append_right _ h)) (by decide +kernel))
set_option maxRecDepth 20000 in
theorem gX7_setTrigger_X7_puts : GoodIn wsX7_setTrigger (wsV RX7 59 RX7 yX7_puts wsX7_puts) := goodIn_app (goodIn_of _ (by decide +kernel)) ggX7_setTrigger_X7_puts
set_option maxRecDepth 20000 in
theorem ggX7_setTrigger_X7_fails : GoodIn wsX7_setTrigger wsX7_fails := goodIn_r _ [18, 14, 19, 20, 21, 22, 23, 24, 25, 26, 27, 28, 29, 30, 31, 32, 33, 34] (by decide +kernel) (by decide +kernel)
set_option maxRecDepth 20000 in
theorem gX7_setTrigger_X7_fails : GoodIn wsX7_setTrigger (wsV RX7 56 RX7 yX7_fails wsX7_fails) := goodIn_app (goodIn_of _ (by decide +kernel)) ggX7_setTrigger_X7_fails
theorem dX7_setTrigger_0 : decode cX7_setTrigger 0 = .ok (.iload_n 1, 1) := by decide +kernel
theorem dX7_setTrigger_1 : decode cX7_setTrigger 1 = .ok (.iconst 0, 1) := by decide +kernel
theorem dX7_setTrigger_2 : decode cX7_setTrigger 2 = .ok (.bipush 10, 2) := by decide +kernel
theorem dX7_setTrigger_4 : decode cX7_setTrigger 4 = .ok (.invokestatic 37, 3) := by decide +kernel
theorem dX7_setTrigger_7 : decode cX7_setTrigger 7 = .ok (.ifCond .eq 14, 3) := by decide +kernel
theorem dX7_setTrigger_10 : decode cX7_setTrigger 10 = .ok (.aload_n 0, 1) := by decide +kernel
theorem dX7_setTrigger_11 : decode cX7_setTrigger 11 = .ok (.sipush 1420, 3) := by decide +kernel
theorem dX7_setTrigger_14 : decode cX7_setTrigger 14 = .ok (.iload_n 1, 1) := by decide +kernel
theorem dX7_setTrigger_15 : decode cX7_setTrigger 15 = .ok (.invokevirtual 59, 3) := by decide +kernel
theorem dX7_setTrigger_18 : decode cX7_setTrigger 18 = .ok (.goto 8, 3) := by decide +kernel
theorem dX7_setTrigger_21 : decode cX7_setTrigger 21 = .ok (.aload_n 0, 1) := by decide +kernel
theorem dX7_setTrigger_22 : decode cX7_setTrigger 22 = .ok (.iconst 1, 1) := by decide +kernel
theorem dX7_setTrigger_23 : decode cX7_setTrigger 23 = .ok (.invokevirtual 56, 3) := by decide +kernel
theorem dX7_setTrigger_26 : decode cX7_setTrigger 26 = .ok (.ireturn, 1) := by decide +kernel
set_option maxRecDepth 20000 in
theorem ggX7_reset_X7_starts : GoodIn wsX7_reset wsX7_starts := goodIn_ca (goodIn_r _ [6, 1, 7, 13, 14, 15, 16, 17, 18, 19, 20, 21, 22, 23, 24, 25, 26, 27, 28] (by decide +kernel) (by decide +kernel)) (goodIn_sub (fun _ h => List.mem_cons_of_mem _ (List.mem_append_right _ h)) (by decide +kernel))
set_option maxRecDepth 20000 in
theorem gX7_reset_X7_starts : GoodIn wsX7_reset (wsV RX7 27 RX7 yX7_starts wsX7_starts) := goodIn_app (goodIn_of _ (by decide +kernel)) ggX7_reset_X7_starts
set_option maxRecDepth 20000 in
theorem ggX7_reset_X7_done : GoodIn wsX7_reset wsX7_done := goodIn_r _ [11, 12, 13, 14, 15, 16, 17, 18, 19, 20, 21, 22, 23, 24, 25, 26, 27, 28] (by decide +kernel) (by decide +kernel)
set_option maxRecDepth 20000 in
theorem gX7_reset_X7_done : GoodIn wsX7_reset (wsV RX7 49 RX7 yX7_done wsX7_done) := goodIn_app (goodIn_of _ (by decide +kernel)) ggX7_reset_X7_done
theorem dX7_reset_0 : decode cX7_reset 0 = .ok (.aload_n 0, 1) := by decide +kernel
theorem dX7_reset_1 : decode cX7_reset 1 = .ok (.getfield 7, 3) := by decide +kernel
theorem dX7_reset_4 : decode cX7_reset 4 = .ok (.sipush 400, 3) := by decide +kernel
theorem dX7_reset_7 : decode cX7_reset 7 = .ok (.iaload, 1) := by decide +kernel
theorem dX7_reset_8 : decode cX7_reset 8 = .ok (.istore_n 1, 1) := by decide +kernel
theorem dX7_reset_9 : decode cX7_reset 9 = .ok (.aload_n 0, 1) := by decide +kernel
theorem dX7_reset_10 : decode cX7_reset 10 = .ok (.invokevirtual 27, 3) := by decide +kernel
theorem dX7_reset_13 : decode cX7_reset 13 = .ok (.aload_n 0, 1) := by decide +kernel
theorem dX7_reset_14 : decode cX7_reset 14 = .ok (.iload_n 1, 1) := by decide +kernel
theorem dX7_reset_15 : decode cX7_reset 15 = .ok (.invokevirtual 49, 3) := by decide +kernel
theorem dX7_reset_18 : decode cX7_reset 18 = .ok (.ireturn, 1) := by decide +kernel
theorem dX7_many_0 : decode cX7_many 0 = .ok (.iconst 0, 1) := by decide +kernel
theorem dX7_many_1 : decode cX7_many 1 = .ok (.istore_n 2, 1) := by decide +kernel
theorem dX7_many_2 : decode cX7_many 2 = .ok (.iconst 0, 1) := by decide +kernel
theorem dX7_many_3 : decode cX7_many 3 = .ok (.istore_n 3, 1) := by decide +kernel
theorem dX7_many_4 : decode cX7_many 4 = .ok (.iload_n 3, 1) := by decide +kernel
theorem dX7_many_5 : decode cX7_many 5 = .ok (.aload_n 0, 1) := by decide +kernel
theorem dX7_many_6 : decode cX7_many 6 = .ok (.getfield 7, 3) := by decide +kernel
theorem dX7_many_9 : decode cX7_many 9 = .ok (.sipush 400, 3) := by decide +kernel
theorem dX7_many_12 : decode cX7_many 12 = .ok (.iaload, 1) := by decide +kernel
theorem dX7_many_13 : decode cX7_many 13 = .ok (.if_icmp .ge 31, 3) := by decide +kernel
theorem dX7_many_16 : decode cX7_many 16 = .ok (.iload_n 2, 1) := by decide +kernel
theorem dX7_many_17 : decode cX7_many 17 = .ok (.aload_n 0, 1) := by decide +kernel
theorem dX7_many_18 : decode cX7_many 18 = .ok (.getfield 7, 3) := by decide +kernel
theorem dX7_many_21 : decode cX7_many 21 = .ok (.iconst 4, 1) := by decide +kernel
theorem dX7_many_22 : decode cX7_many 22 = .ok (.iload_n 3, 1) := by decide +kernel
theorem dX7_many_23 : decode cX7_many 23 = .ok (.imul, 1) := by decide +kernel
theorem dX7_many_24 : decode cX7_many 24 = .ok (.iconst 3, 1) := by decide +kernel
theorem dX7_many_25 : decode cX7_many 25 = .ok (.iadd, 1) := by decide +kernel
theorem dX7_many_26 : decode cX7_many 26 = .ok (.iaload, 1) := by decide +kernel
theorem dX7_many_27 : decode cX7_many 27 = .ok (.iload_n 1, 1) := by decide +kernel
theorem dX7_many_28 : decode cX7_many 28 = .ok (.if_icmp .ne 7, 3) := by decide +kernel
theorem dX7_many_31 : decode cX7_many 31 = .ok (.iconst 1, 1) := by decide +kernel
theorem dX7_many_32 : decode cX7_many 32 = .ok (.goto 4, 3) := by decide +kernel
theorem dX7_many_35 : decode cX7_many 35 = .ok (.iconst 0, 1) := by decide +kernel
theorem dX7_many_36 : decode cX7_many 36 = .ok (.iadd, 1) := by decide +kernel
theorem dX7_many_37 : decode cX7_many 37 = .ok (.istore_n 2, 1) := by decide +kernel
theorem dX7_many_38 : decode cX7_many 38 = .ok (.iinc 3 1, 3) := by decide +kernel
theorem dX7_many_41 : decode cX7_many 41 = .ok (.goto (-37), 3) := by decide +kernel
theorem dX7_many_44 : decode cX7_many 44 = .ok (.iload_n 2, 1) := by decide +kernel
theorem dX7_many_45 : decode cX7_many 45 = .ok (.ireturn, 1) := by decide +kernel
set_option maxRecDepth 20000 in
theorem ggX7_resultOf_X7_of : GoodIn wsX7_resultOf wsX7_of := goodIn_ca (goodIn_r _ [6, 1, 7, 8, 9, 10, 11, 12, 13, 14, 15, 16, 17, 18, 19, 20, 21, 22] (by decide +kernel) (by decide +kernel)) (goodIn_sub (fun _ h => List.mem_cons_of_mem _ (List.mem_append_right _ h)) (by decide +kernel))
set_option maxRecDepth 20000 in
theorem gX7_resultOf_X7_of : GoodIn wsX7_resultOf (wsV RX7 41 RX7 yX7_of wsX7_of) := goodIn_app (goodIn_of _ (by decide +kernel)) ggX7_resultOf_X7_of
theorem dX7_resultOf_0 : decode cX7_resultOf 0 = .ok (.aload_n 0, 1) := by decide +kernel
theorem dX7_resultOf_1 : decode cX7_resultOf 1 = .ok (.getfield 7, 3) := by decide +kernel
theorem dX7_resultOf_4 : decode cX7_resultOf 4 = .ok (.sipush 1410, 3) := by decide +kernel
theorem dX7_resultOf_7 : decode cX7_resultOf 7 = .ok (.aload_n 0, 1) := by decide +kernel
theorem dX7_resultOf_8 : decode cX7_resultOf 8 = .ok (.iload_n 1, 1) := by decide +kernel
theorem dX7_resultOf_9 : decode cX7_resultOf 9 = .ok (.iconst 1, 1) := by decide +kernel
theorem dX7_resultOf_10 : decode cX7_resultOf 10 = .ok (.invokevirtual 41, 3) := by decide +kernel
theorem dX7_resultOf_13 : decode cX7_resultOf 13 = .ok (.iadd, 1) := by decide +kernel
theorem dX7_resultOf_14 : decode cX7_resultOf 14 = .ok (.iaload, 1) := by decide +kernel
theorem dX7_resultOf_15 : decode cX7_resultOf 15 = .ok (.istore_n 2, 1) := by decide +kernel
theorem dX7_resultOf_16 : decode cX7_resultOf 16 = .ok (.iconst 0, 1) := by decide +kernel
theorem dX7_resultOf_17 : decode cX7_resultOf 17 = .ok (.istore_n 3, 1) := by decide +kernel
theorem dX7_resultOf_18 : decode cX7_resultOf 18 = .ok (.iconst 0, 1) := by decide +kernel
theorem dX7_resultOf_19 : decode cX7_resultOf 19 = .ok (.istore 4, 2) := by decide +kernel
theorem dX7_resultOf_21 : decode cX7_resultOf 21 = .ok (.iconst 0, 1) := by decide +kernel
theorem dX7_resultOf_22 : decode cX7_resultOf 22 = .ok (.istore 5, 2) := by decide +kernel
theorem dX7_resultOf_24 : decode cX7_resultOf 24 = .ok (.iload 5, 2) := by decide +kernel
theorem dX7_resultOf_26 : decode cX7_resultOf 26 = .ok (.aload_n 0, 1) := by decide +kernel
theorem dX7_resultOf_27 : decode cX7_resultOf 27 = .ok (.getfield 7, 3) := by decide +kernel
theorem dX7_resultOf_30 : decode cX7_resultOf 30 = .ok (.sipush 400, 3) := by decide +kernel
theorem dX7_resultOf_33 : decode cX7_resultOf 33 = .ok (.iaload, 1) := by decide +kernel
theorem dX7_resultOf_34 : decode cX7_resultOf 34 = .ok (.if_icmp .ge 87, 3) := by decide +kernel
theorem dX7_resultOf_37 : decode cX7_resultOf 37 = .ok (.aload_n 0, 1) := by decide +kernel
theorem dX7_resultOf_38 : decode cX7_resultOf 38 = .ok (.getfield 7, 3) := by decide +kernel
theorem dX7_resultOf_41 : decode cX7_resultOf 41 = .ok (.iconst 4, 1) := by decide +kernel
theorem dX7_resultOf_42 : decode cX7_resultOf 42 = .ok (.iload 5, 2) := by decide +kernel
theorem dX7_resultOf_44 : decode cX7_resultOf 44 = .ok (.imul, 1) := by decide +kernel
theorem dX7_resultOf_45 : decode cX7_resultOf 45 = .ok (.iconst 3, 1) := by decide +kernel
theorem dX7_resultOf_46 : decode cX7_resultOf 46 = .ok (.iadd, 1) := by decide +kernel
theorem dX7_resultOf_47 : decode cX7_resultOf 47 = .ok (.iaload, 1) := by decide +kernel
theorem dX7_resultOf_48 : decode cX7_resultOf 48 = .ok (.iload_n 1, 1) := by decide +kernel
theorem dX7_resultOf_49 : decode cX7_resultOf 49 = .ok (.if_icmp .ne 66, 3) := by decide +kernel
theorem dX7_resultOf_52 : decode cX7_resultOf 52 = .ok (.aload_n 0, 1) := by decide +kernel
theorem dX7_resultOf_53 : decode cX7_resultOf 53 = .ok (.getfield 7, 3) := by decide +kernel
theorem dX7_resultOf_56 : decode cX7_resultOf 56 = .ok (.iconst 4, 1) := by decide +kernel
theorem dX7_resultOf_57 : decode cX7_resultOf 57 = .ok (.iload 5, 2) := by decide +kernel
theorem dX7_resultOf_59 : decode cX7_resultOf 59 = .ok (.imul, 1) := by decide +kernel
theorem dX7_resultOf_60 : decode cX7_resultOf 60 = .ok (.iconst 2, 1) := by decide +kernel
theorem dX7_resultOf_61 : decode cX7_resultOf 61 = .ok (.iadd, 1) := by decide +kernel
theorem dX7_resultOf_62 : decode cX7_resultOf 62 = .ok (.iaload, 1) := by decide +kernel
theorem dX7_resultOf_63 : decode cX7_resultOf 63 = .ok (.istore 6, 2) := by decide +kernel
theorem dX7_resultOf_65 : decode cX7_resultOf 65 = .ok (.iload_n 2, 1) := by decide +kernel
theorem dX7_resultOf_66 : decode cX7_resultOf 66 = .ok (.ifCond .ne 11, 3) := by decide +kernel
theorem dX7_resultOf_69 : decode cX7_resultOf 69 = .ok (.iload 4, 2) := by decide +kernel
theorem dX7_resultOf_71 : decode cX7_resultOf 71 = .ok (.iload 6, 2) := by decide +kernel
theorem dX7_resultOf_73 : decode cX7_resultOf 73 = .ok (.iadd, 1) := by decide +kernel
theorem dX7_resultOf_74 : decode cX7_resultOf 74 = .ok (.goto 36, 3) := by decide +kernel
theorem dX7_resultOf_77 : decode cX7_resultOf 77 = .ok (.iload_n 3, 1) := by decide +kernel
theorem dX7_resultOf_78 : decode cX7_resultOf 78 = .ok (.ifCond .eq 25, 3) := by decide +kernel
theorem dX7_resultOf_81 : decode cX7_resultOf 81 = .ok (.iload_n 2, 1) := by decide +kernel
theorem dX7_resultOf_82 : decode cX7_resultOf 82 = .ok (.iconst 1, 1) := by decide +kernel
theorem dX7_resultOf_83 : decode cX7_resultOf 83 = .ok (.if_icmp .ne 13, 3) := by decide +kernel
theorem dX7_resultOf_86 : decode cX7_resultOf 86 = .ok (.iload 6, 2) := by decide +kernel
theorem dX7_resultOf_88 : decode cX7_resultOf 88 = .ok (.iload 4, 2) := by decide +kernel
theorem dX7_resultOf_90 : decode cX7_resultOf 90 = .ok (.if_icmp .le 18, 3) := by decide +kernel
theorem dX7_resultOf_93 : decode cX7_resultOf 93 = .ok (.goto 10, 3) := by decide +kernel
theorem dX7_resultOf_96 : decode cX7_resultOf 96 = .ok (.iload 6, 2) := by decide +kernel
theorem dX7_resultOf_98 : decode cX7_resultOf 98 = .ok (.iload 4, 2) := by decide +kernel
theorem dX7_resultOf_100 : decode cX7_resultOf 100 = .ok (.if_icmp .ge 8, 3) := by decide +kernel
theorem dX7_resultOf_103 : decode cX7_resultOf 103 = .ok (.iload 6, 2) := by decide +kernel
theorem dX7_resultOf_105 : decode cX7_resultOf 105 = .ok (.goto 5, 3) := by decide +kernel
theorem dX7_resultOf_108 : decode cX7_resultOf 108 = .ok (.iload 4, 2) := by decide +kernel
theorem dX7_resultOf_110 : decode cX7_resultOf 110 = .ok (.istore 4, 2) := by decide +kernel
theorem dX7_resultOf_112 : decode cX7_resultOf 112 = .ok (.iinc 3 1, 3) := by decide +kernel
theorem dX7_resultOf_115 : decode cX7_resultOf 115 = .ok (.iinc 5 1, 3) := by decide +kernel
theorem dX7_resultOf_118 : decode cX7_resultOf 118 = .ok (.goto (-94), 3) := by decide +kernel
theorem dX7_resultOf_121 : decode cX7_resultOf 121 = .ok (.iload_n 2, 1) := by decide +kernel
theorem dX7_resultOf_122 : decode cX7_resultOf 122 = .ok (.iconst 3, 1) := by decide +kernel
theorem dX7_resultOf_123 : decode cX7_resultOf 123 = .ok (.if_icmp .ne 7, 3) := by decide +kernel
theorem dX7_resultOf_126 : decode cX7_resultOf 126 = .ok (.iload_n 3, 1) := by decide +kernel
theorem dX7_resultOf_127 : decode cX7_resultOf 127 = .ok (.goto 5, 3) := by decide +kernel
theorem dX7_resultOf_130 : decode cX7_resultOf 130 = .ok (.iload 4, 2) := by decide +kernel
theorem dX7_resultOf_132 : decode cX7_resultOf 132 = .ok (.ireturn, 1) := by decide +kernel
set_option maxRecDepth 20000 in
theorem ggX7_logs_X7_of : GoodIn wsX7_logs wsX7_of := goodIn_ca (goodIn_r _ [7, 1, 8, 9, 10, 11, 12, 13, 14, 15, 16, 17, 18, 19, 20, 21, 22, 23] (by decide +kernel) (by decide +kernel)) (goodIn_sub (fun _ h => List.mem_cons_of_mem _ (List.mem_append_right _ h)) (by decide +kernel))
set_option maxRecDepth 20000 in
theorem gX7_logs_X7_of : GoodIn wsX7_logs (wsV RX7 41 RX7 yX7_of wsX7_of) := goodIn_app (goodIn_of _ (by decide +kernel)) ggX7_logs_X7_of
theorem dX7_logs_0 : decode cX7_logs 0 = .ok (.aload_n 0, 1) := by decide +kernel
theorem dX7_logs_1 : decode cX7_logs 1 = .ok (.getfield 7, 3) := by decide +kernel
theorem dX7_logs_4 : decode cX7_logs 4 = .ok (.sipush 1426, 3) := by decide +kernel
theorem dX7_logs_7 : decode cX7_logs 7 = .ok (.iaload, 1) := by decide +kernel
theorem dX7_logs_8 : decode cX7_logs 8 = .ok (.bipush 60, 2) := by decide +kernel
theorem dX7_logs_10 : decode cX7_logs 10 = .ok (.if_icmp .ne 57, 3) := by decide +kernel
theorem dX7_logs_13 : decode cX7_logs 13 = .ok (.iconst 0, 1) := by decide +kernel
theorem dX7_logs_14 : decode cX7_logs 14 = .ok (.istore 6, 2) := by decide +kernel
theorem dX7_logs_16 : decode cX7_logs 16 = .ok (.iload 6, 2) := by decide +kernel
theorem dX7_logs_18 : decode cX7_logs 18 = .ok (.sipush 354, 3) := by decide +kernel
theorem dX7_logs_21 : decode cX7_logs 21 = .ok (.if_icmp .ge 34, 3) := by decide +kernel
theorem dX7_logs_24 : decode cX7_logs 24 = .ok (.aload_n 0, 1) := by decide +kernel
theorem dX7_logs_25 : decode cX7_logs 25 = .ok (.getfield 7, 3) := by decide +kernel
theorem dX7_logs_28 : decode cX7_logs 28 = .ok (.sipush 1427, 3) := by decide +kernel
theorem dX7_logs_31 : decode cX7_logs 31 = .ok (.iload 6, 2) := by decide +kernel
theorem dX7_logs_33 : decode cX7_logs 33 = .ok (.iadd, 1) := by decide +kernel
theorem dX7_logs_34 : decode cX7_logs 34 = .ok (.aload_n 0, 1) := by decide +kernel
theorem dX7_logs_35 : decode cX7_logs 35 = .ok (.getfield 7, 3) := by decide +kernel
theorem dX7_logs_38 : decode cX7_logs 38 = .ok (.sipush 1427, 3) := by decide +kernel
theorem dX7_logs_41 : decode cX7_logs 41 = .ok (.iload 6, 2) := by decide +kernel
theorem dX7_logs_43 : decode cX7_logs 43 = .ok (.iadd, 1) := by decide +kernel
theorem dX7_logs_44 : decode cX7_logs 44 = .ok (.bipush 6, 2) := by decide +kernel
theorem dX7_logs_46 : decode cX7_logs 46 = .ok (.iadd, 1) := by decide +kernel
theorem dX7_logs_47 : decode cX7_logs 47 = .ok (.iaload, 1) := by decide +kernel
theorem dX7_logs_48 : decode cX7_logs 48 = .ok (.iastore, 1) := by decide +kernel
theorem dX7_logs_49 : decode cX7_logs 49 = .ok (.iinc 6 1, 3) := by decide +kernel
theorem dX7_logs_52 : decode cX7_logs 52 = .ok (.goto (-36), 3) := by decide +kernel
theorem dX7_logs_55 : decode cX7_logs 55 = .ok (.aload_n 0, 1) := by decide +kernel
theorem dX7_logs_56 : decode cX7_logs 56 = .ok (.getfield 7, 3) := by decide +kernel
theorem dX7_logs_59 : decode cX7_logs 59 = .ok (.sipush 1426, 3) := by decide +kernel
theorem dX7_logs_62 : decode cX7_logs 62 = .ok (.dup2, 1) := by decide +kernel
theorem dX7_logs_63 : decode cX7_logs 63 = .ok (.iaload, 1) := by decide +kernel
theorem dX7_logs_64 : decode cX7_logs 64 = .ok (.iconst 1, 1) := by decide +kernel
theorem dX7_logs_65 : decode cX7_logs 65 = .ok (.isub, 1) := by decide +kernel
theorem dX7_logs_66 : decode cX7_logs 66 = .ok (.iastore, 1) := by decide +kernel
theorem dX7_logs_67 : decode cX7_logs 67 = .ok (.sipush 1427, 3) := by decide +kernel
theorem dX7_logs_70 : decode cX7_logs 70 = .ok (.bipush 6, 2) := by decide +kernel
theorem dX7_logs_72 : decode cX7_logs 72 = .ok (.aload_n 0, 1) := by decide +kernel
theorem dX7_logs_73 : decode cX7_logs 73 = .ok (.getfield 7, 3) := by decide +kernel
theorem dX7_logs_76 : decode cX7_logs 76 = .ok (.sipush 1426, 3) := by decide +kernel
theorem dX7_logs_79 : decode cX7_logs 79 = .ok (.iaload, 1) := by decide +kernel
theorem dX7_logs_80 : decode cX7_logs 80 = .ok (.imul, 1) := by decide +kernel
theorem dX7_logs_81 : decode cX7_logs 81 = .ok (.iadd, 1) := by decide +kernel
theorem dX7_logs_82 : decode cX7_logs 82 = .ok (.istore 6, 2) := by decide +kernel
theorem dX7_logs_84 : decode cX7_logs 84 = .ok (.aload_n 0, 1) := by decide +kernel
theorem dX7_logs_85 : decode cX7_logs 85 = .ok (.getfield 7, 3) := by decide +kernel
theorem dX7_logs_88 : decode cX7_logs 88 = .ok (.iload 6, 2) := by decide +kernel
theorem dX7_logs_90 : decode cX7_logs 90 = .ok (.iload_n 1, 1) := by decide +kernel
theorem dX7_logs_91 : decode cX7_logs 91 = .ok (.iastore, 1) := by decide +kernel
theorem dX7_logs_92 : decode cX7_logs 92 = .ok (.aload_n 0, 1) := by decide +kernel
theorem dX7_logs_93 : decode cX7_logs 93 = .ok (.getfield 7, 3) := by decide +kernel
theorem dX7_logs_96 : decode cX7_logs 96 = .ok (.iload 6, 2) := by decide +kernel
theorem dX7_logs_98 : decode cX7_logs 98 = .ok (.iconst 1, 1) := by decide +kernel
theorem dX7_logs_99 : decode cX7_logs 99 = .ok (.iadd, 1) := by decide +kernel
theorem dX7_logs_100 : decode cX7_logs 100 = .ok (.iload_n 2, 1) := by decide +kernel
theorem dX7_logs_101 : decode cX7_logs 101 = .ok (.iastore, 1) := by decide +kernel
theorem dX7_logs_102 : decode cX7_logs 102 = .ok (.aload_n 0, 1) := by decide +kernel
theorem dX7_logs_103 : decode cX7_logs 103 = .ok (.getfield 7, 3) := by decide +kernel
theorem dX7_logs_106 : decode cX7_logs 106 = .ok (.iload 6, 2) := by decide +kernel
theorem dX7_logs_108 : decode cX7_logs 108 = .ok (.iconst 2, 1) := by decide +kernel
theorem dX7_logs_109 : decode cX7_logs 109 = .ok (.iadd, 1) := by decide +kernel
theorem dX7_logs_110 : decode cX7_logs 110 = .ok (.iload_n 3, 1) := by decide +kernel
theorem dX7_logs_111 : decode cX7_logs 111 = .ok (.iastore, 1) := by decide +kernel
theorem dX7_logs_112 : decode cX7_logs 112 = .ok (.aload_n 0, 1) := by decide +kernel
theorem dX7_logs_113 : decode cX7_logs 113 = .ok (.getfield 7, 3) := by decide +kernel
theorem dX7_logs_116 : decode cX7_logs 116 = .ok (.iload 6, 2) := by decide +kernel
theorem dX7_logs_118 : decode cX7_logs 118 = .ok (.iconst 3, 1) := by decide +kernel
theorem dX7_logs_119 : decode cX7_logs 119 = .ok (.iadd, 1) := by decide +kernel
theorem dX7_logs_120 : decode cX7_logs 120 = .ok (.iload 4, 2) := by decide +kernel
theorem dX7_logs_122 : decode cX7_logs 122 = .ok (.iastore, 1) := by decide +kernel
theorem dX7_logs_123 : decode cX7_logs 123 = .ok (.aload_n 0, 1) := by decide +kernel
theorem dX7_logs_124 : decode cX7_logs 124 = .ok (.getfield 7, 3) := by decide +kernel
theorem dX7_logs_127 : decode cX7_logs 127 = .ok (.iload 6, 2) := by decide +kernel
theorem dX7_logs_129 : decode cX7_logs 129 = .ok (.iconst 4, 1) := by decide +kernel
theorem dX7_logs_130 : decode cX7_logs 130 = .ok (.iadd, 1) := by decide +kernel
theorem dX7_logs_131 : decode cX7_logs 131 = .ok (.iload 5, 2) := by decide +kernel
theorem dX7_logs_133 : decode cX7_logs 133 = .ok (.iastore, 1) := by decide +kernel
theorem dX7_logs_134 : decode cX7_logs 134 = .ok (.aload_n 0, 1) := by decide +kernel
theorem dX7_logs_135 : decode cX7_logs 135 = .ok (.getfield 7, 3) := by decide +kernel
theorem dX7_logs_138 : decode cX7_logs 138 = .ok (.iload 6, 2) := by decide +kernel
theorem dX7_logs_140 : decode cX7_logs 140 = .ok (.iconst 5, 1) := by decide +kernel
theorem dX7_logs_141 : decode cX7_logs 141 = .ok (.iadd, 1) := by decide +kernel
theorem dX7_logs_142 : decode cX7_logs 142 = .ok (.aload_n 0, 1) := by decide +kernel
theorem dX7_logs_143 : decode cX7_logs 143 = .ok (.iload_n 2, 1) := by decide +kernel
theorem dX7_logs_144 : decode cX7_logs 144 = .ok (.iconst 1, 1) := by decide +kernel
theorem dX7_logs_145 : decode cX7_logs 145 = .ok (.invokevirtual 41, 3) := by decide +kernel
theorem dX7_logs_148 : decode cX7_logs 148 = .ok (.iastore, 1) := by decide +kernel
theorem dX7_logs_149 : decode cX7_logs 149 = .ok (.aload_n 0, 1) := by decide +kernel
theorem dX7_logs_150 : decode cX7_logs 150 = .ok (.getfield 7, 3) := by decide +kernel
theorem dX7_logs_153 : decode cX7_logs 153 = .ok (.sipush 1426, 3) := by decide +kernel
theorem dX7_logs_156 : decode cX7_logs 156 = .ok (.dup2, 1) := by decide +kernel
theorem dX7_logs_157 : decode cX7_logs 157 = .ok (.iaload, 1) := by decide +kernel
theorem dX7_logs_158 : decode cX7_logs 158 = .ok (.iconst 1, 1) := by decide +kernel
theorem dX7_logs_159 : decode cX7_logs 159 = .ok (.iadd, 1) := by decide +kernel
theorem dX7_logs_160 : decode cX7_logs 160 = .ok (.iastore, 1) := by decide +kernel
theorem dX7_logs_161 : decode cX7_logs 161 = .ok (.aload_n 0, 1) := by decide +kernel
theorem dX7_logs_162 : decode cX7_logs 162 = .ok (.getfield 7, 3) := by decide +kernel
theorem dX7_logs_165 : decode cX7_logs 165 = .ok (.sipush 1423, 3) := by decide +kernel
theorem dX7_logs_168 : decode cX7_logs 168 = .ok (.iload_n 1, 1) := by decide +kernel
theorem dX7_logs_169 : decode cX7_logs 169 = .ok (.iadd, 1) := by decide +kernel
theorem dX7_logs_170 : decode cX7_logs 170 = .ok (.dup2, 1) := by decide +kernel
theorem dX7_logs_171 : decode cX7_logs 171 = .ok (.iaload, 1) := by decide +kernel
theorem dX7_logs_172 : decode cX7_logs 172 = .ok (.iconst 1, 1) := by decide +kernel
theorem dX7_logs_173 : decode cX7_logs 173 = .ok (.iadd, 1) := by decide +kernel
theorem dX7_logs_174 : decode cX7_logs 174 = .ok (.iastore, 1) := by decide +kernel
theorem dX7_logs_175 : decode cX7_logs 175 = .ok (.aload_n 0, 1) := by decide +kernel
theorem dX7_logs_176 : decode cX7_logs 176 = .ok (.dup, 1) := by decide +kernel
theorem dX7_logs_177 : decode cX7_logs 177 = .ok (.getfield 30, 3) := by decide +kernel
theorem dX7_logs_180 : decode cX7_logs 180 = .ok (.iload_n 1, 1) := by decide +kernel
theorem dX7_logs_181 : decode cX7_logs 181 = .ok (.iconst 2, 1) := by decide +kernel
theorem dX7_logs_182 : decode cX7_logs 182 = .ok (.if_icmp .ne 9, 3) := by decide +kernel
theorem dX7_logs_185 : decode cX7_logs 185 = .ok (.iload_n 3, 1) := by decide +kernel
theorem dX7_logs_186 : decode cX7_logs 186 = .ok (.i2l, 1) := by decide +kernel
theorem dX7_logs_187 : decode cX7_logs 187 = .ok (.lneg, 1) := by decide +kernel
theorem dX7_logs_188 : decode cX7_logs 188 = .ok (.goto 5, 3) := by decide +kernel
theorem dX7_logs_191 : decode cX7_logs 191 = .ok (.iload_n 3, 1) := by decide +kernel
theorem dX7_logs_192 : decode cX7_logs 192 = .ok (.i2l, 1) := by decide +kernel
theorem dX7_logs_193 : decode cX7_logs 193 = .ok (.ladd, 1) := by decide +kernel
theorem dX7_logs_194 : decode cX7_logs 194 = .ok (.putfield 30, 3) := by decide +kernel
theorem dX7_logs_197 : decode cX7_logs 197 = .ok (.return_, 1) := by decide +kernel
set_option maxRecDepth 20000 in
theorem ggX7_takesBack_X7_of : GoodIn wsX7_takesBack wsX7_of := goodIn_ca (goodIn_r _ [5, 6, 16, 17, 18, 19, 20, 21, 22, 23, 24, 25, 26, 27, 28, 29, 30, 31] (by decide +kernel) (by decide +kernel)) (goodIn_sub (fun _ h => List.mem_cons_of_mem _ (List.mem_append_right _ h)) (by decide +kernel))
set_option maxRecDepth 20000 in
theorem gX7_takesBack_X7_of : GoodIn wsX7_takesBack (wsV RX7 41 RX7 yX7_of wsX7_of) := goodIn_app (goodIn_of _ (by decide +kernel)) ggX7_takesBack_X7_of
set_option maxRecDepth 20000 in
theorem ggX7_takesBack_X7_logs : GoodIn wsX7_takesBack wsX7_logs := goodIn_ca (goodIn_r _ [10, 6, 11, 1, 2, 3, 4, 5, 16, 17, 18, 19, 20, 21, 22, 23, 24, 25, 26, 27, 28, 29, 30, 31] (by decide +kernel) (by decide +kernel)) (goodIn_sub (fun _ h => List.mem_cons_of_mem _ (List.mem_append_right _ h)) (by decide +kernel))
set_option maxRecDepth 20000 in
theorem gX7_takesBack_X7_logs : GoodIn wsX7_takesBack (wsV RX7 62 RX7 yX7_logs wsX7_logs) := goodIn_app (goodIn_of _ (by decide +kernel)) ggX7_takesBack_X7_logs
set_option maxRecDepth 20000 in
theorem ggX7_takesBack_X7_sets : GoodIn wsX7_takesBack wsX7_sets := goodIn_ca (goodIn_r _ [15, 6, 16, 17, 18, 19, 20, 21, 22, 23, 24, 25, 26, 27, 28, 29, 30, 31] (by decide +kernel) (by decide +kernel)) (goodIn_sub (fun _ h => List.mem_cons_of_mem _ (List.mem_append_right _ h)) (by decide +kernel))
set_option maxRecDepth 20000 in
theorem gX7_takesBack_X7_sets : GoodIn wsX7_takesBack (wsV RX7 66 RX7 yX7_sets wsX7_sets) := goodIn_app (goodIn_of _ (by decide +kernel)) ggX7_takesBack_X7_sets
theorem dX7_takesBack_0 : decode cX7_takesBack 0 = .ok (.aload_n 0, 1) := by decide +kernel
theorem dX7_takesBack_1 : decode cX7_takesBack 1 = .ok (.iconst 2, 1) := by decide +kernel
theorem dX7_takesBack_2 : decode cX7_takesBack 2 = .ok (.iload_n 1, 1) := by decide +kernel
theorem dX7_takesBack_3 : decode cX7_takesBack 3 = .ok (.aload_n 0, 1) := by decide +kernel
theorem dX7_takesBack_4 : decode cX7_takesBack 4 = .ok (.iload_n 1, 1) := by decide +kernel
theorem dX7_takesBack_5 : decode cX7_takesBack 5 = .ok (.bipush 6, 2) := by decide +kernel
theorem dX7_takesBack_7 : decode cX7_takesBack 7 = .ok (.invokevirtual 41, 3) := by decide +kernel
theorem dX7_takesBack_10 : decode cX7_takesBack 10 = .ok (.aload_n 0, 1) := by decide +kernel
theorem dX7_takesBack_11 : decode cX7_takesBack 11 = .ok (.iload_n 1, 1) := by decide +kernel
theorem dX7_takesBack_12 : decode cX7_takesBack 12 = .ok (.bipush 7, 2) := by decide +kernel
theorem dX7_takesBack_14 : decode cX7_takesBack 14 = .ok (.invokevirtual 41, 3) := by decide +kernel
theorem dX7_takesBack_17 : decode cX7_takesBack 17 = .ok (.aload_n 0, 1) := by decide +kernel
theorem dX7_takesBack_18 : decode cX7_takesBack 18 = .ok (.iload_n 1, 1) := by decide +kernel
theorem dX7_takesBack_19 : decode cX7_takesBack 19 = .ok (.bipush 8, 2) := by decide +kernel
theorem dX7_takesBack_21 : decode cX7_takesBack 21 = .ok (.invokevirtual 41, 3) := by decide +kernel
theorem dX7_takesBack_24 : decode cX7_takesBack 24 = .ok (.invokevirtual 62, 3) := by decide +kernel
theorem dX7_takesBack_27 : decode cX7_takesBack 27 = .ok (.aload_n 0, 1) := by decide +kernel
theorem dX7_takesBack_28 : decode cX7_takesBack 28 = .ok (.iload_n 1, 1) := by decide +kernel
theorem dX7_takesBack_29 : decode cX7_takesBack 29 = .ok (.iconst 5, 1) := by decide +kernel
theorem dX7_takesBack_30 : decode cX7_takesBack 30 = .ok (.iconst 0, 1) := by decide +kernel
theorem dX7_takesBack_31 : decode cX7_takesBack 31 = .ok (.invokevirtual 66, 3) := by decide +kernel
theorem dX7_takesBack_34 : decode cX7_takesBack 34 = .ok (.return_, 1) := by decide +kernel
set_option maxRecDepth 20000 in
theorem ggX7_isOther_X7_of : GoodIn wsX7_isOther wsX7_of := goodIn_ca (goodIn_r _ [5, 6, 11, 12, 13, 14, 15, 16, 17, 18, 19, 20, 21, 22, 23, 24, 25, 26] (by decide +kernel) (by decide +kernel)) (goodIn_sub (fun _ h => List.mem_cons_of_mem _ (List.mem_append_right _ h)) (by decide +kernel))
set_option maxRecDepth 20000 in
theorem gX7_isOther_X7_of : GoodIn wsX7_isOther (wsV RX7 41 RX7 yX7_of wsX7_of) := goodIn_app (goodIn_of _ (by decide +kernel)) ggX7_isOther_X7_of
set_option maxRecDepth 20000 in
theorem ggX7_isOther_X7_resultOf : GoodIn wsX7_isOther wsX7_resultOf := goodIn_ca (goodIn_r _ [10, 6, 1, 2, 3, 4, 5, 11, 12, 13, 14, 15, 16, 17, 18, 19, 20, 21, 22, 23, 24, 25, 26] (by decide +kernel) (by decide +kernel)) (goodIn_sub (fun _ h => List.mem_cons_of_mem _ (List.mem_append_right _ h)) (by decide +kernel))
set_option maxRecDepth 20000 in
theorem gX7_isOther_X7_resultOf : GoodIn wsX7_isOther (wsV RX7 70 RX7 yX7_resultOf wsX7_resultOf) := goodIn_app (goodIn_of _ (by decide +kernel)) ggX7_isOther_X7_resultOf
theorem dX7_isOther_0 : decode cX7_isOther 0 = .ok (.aload_n 0, 1) := by decide +kernel
theorem dX7_isOther_1 : decode cX7_isOther 1 = .ok (.iload_n 1, 1) := by decide +kernel
theorem dX7_isOther_2 : decode cX7_isOther 2 = .ok (.bipush 6, 2) := by decide +kernel
theorem dX7_isOther_4 : decode cX7_isOther 4 = .ok (.invokevirtual 41, 3) := by decide +kernel
theorem dX7_isOther_7 : decode cX7_isOther 7 = .ok (.aload_n 0, 1) := by decide +kernel
theorem dX7_isOther_8 : decode cX7_isOther 8 = .ok (.iload_n 1, 1) := by decide +kernel
theorem dX7_isOther_9 : decode cX7_isOther 9 = .ok (.invokevirtual 70, 3) := by decide +kernel
theorem dX7_isOther_12 : decode cX7_isOther 12 = .ok (.if_icmp .ne 35, 3) := by decide +kernel
theorem dX7_isOther_15 : decode cX7_isOther 15 = .ok (.aload_n 0, 1) := by decide +kernel
theorem dX7_isOther_16 : decode cX7_isOther 16 = .ok (.iload_n 1, 1) := by decide +kernel
theorem dX7_isOther_17 : decode cX7_isOther 17 = .ok (.bipush 7, 2) := by decide +kernel
theorem dX7_isOther_19 : decode cX7_isOther 19 = .ok (.invokevirtual 41, 3) := by decide +kernel
theorem dX7_isOther_22 : decode cX7_isOther 22 = .ok (.aload_n 0, 1) := by decide +kernel
theorem dX7_isOther_23 : decode cX7_isOther 23 = .ok (.iload_n 1, 1) := by decide +kernel
theorem dX7_isOther_24 : decode cX7_isOther 24 = .ok (.iconst 2, 1) := by decide +kernel
theorem dX7_isOther_25 : decode cX7_isOther 25 = .ok (.invokevirtual 41, 3) := by decide +kernel
theorem dX7_isOther_28 : decode cX7_isOther 28 = .ok (.if_icmp .ne 19, 3) := by decide +kernel
theorem dX7_isOther_31 : decode cX7_isOther 31 = .ok (.aload_n 0, 1) := by decide +kernel
theorem dX7_isOther_32 : decode cX7_isOther 32 = .ok (.iload_n 1, 1) := by decide +kernel
theorem dX7_isOther_33 : decode cX7_isOther 33 = .ok (.bipush 8, 2) := by decide +kernel
theorem dX7_isOther_35 : decode cX7_isOther 35 = .ok (.invokevirtual 41, 3) := by decide +kernel
theorem dX7_isOther_38 : decode cX7_isOther 38 = .ok (.aload_n 0, 1) := by decide +kernel
theorem dX7_isOther_39 : decode cX7_isOther 39 = .ok (.iload_n 1, 1) := by decide +kernel
theorem dX7_isOther_40 : decode cX7_isOther 40 = .ok (.iconst 3, 1) := by decide +kernel
theorem dX7_isOther_41 : decode cX7_isOther 41 = .ok (.invokevirtual 41, 3) := by decide +kernel
theorem dX7_isOther_44 : decode cX7_isOther 44 = .ok (.if_icmp .eq 7, 3) := by decide +kernel
theorem dX7_isOther_47 : decode cX7_isOther 47 = .ok (.iconst 1, 1) := by decide +kernel
theorem dX7_isOther_48 : decode cX7_isOther 48 = .ok (.goto 4, 3) := by decide +kernel
theorem dX7_isOther_51 : decode cX7_isOther 51 = .ok (.iconst 0, 1) := by decide +kernel
theorem dX7_isOther_52 : decode cX7_isOther 52 = .ok (.ireturn, 1) := by decide +kernel
set_option maxRecDepth 20000 in
theorem ggX7_fires_X7_of : GoodIn wsX7_fires wsX7_of := goodIn_ca (goodIn_r _ [5, 6, 28, 29, 30, 31, 32, 33, 34, 35, 36, 37, 38, 39, 40, 41, 42, 43] (by decide +kernel) (by decide +kernel)) (goodIn_sub (fun _ h => List.mem_cons_of_mem _ (List.mem_append_right _ h)) (by decide +kernel))
set_option maxRecDepth 20000 in
theorem gX7_fires_X7_of : GoodIn wsX7_fires (wsV RX7 41 RX7 yX7_of wsX7_of) := goodIn_app (goodIn_of _ (by decide +kernel)) ggX7_fires_X7_of
set_option maxRecDepth 20000 in
theorem ggX7_fires_X7_isOther : GoodIn wsX7_fires wsX7_isOther := goodIn_ca (goodIn_r _ [10, 1, 2, 3, 4, 5, 6, 11, 12, 13, 14, 28, 29, 30, 31, 32, 33, 34, 35, 36, 37, 38, 39, 40, 41, 42, 43] (by decide +kernel) (by decide +kernel)) (goodIn_sub (fun _ h => List.mem_cons_of_mem _ (List.mem_append_right _ h)) (by decide +kernel))
set_option maxRecDepth 20000 in
theorem gX7_fires_X7_isOther : GoodIn wsX7_fires (wsV RX7 73 RX7 yX7_isOther wsX7_isOther) := goodIn_app (goodIn_of _ (by decide +kernel)) ggX7_fires_X7_isOther
set_option maxRecDepth 20000 in
theorem ggX7_fires_X7_takesBack : GoodIn wsX7_fires wsX7_takesBack := goodIn_ca (goodIn_r _ [18, 1, 2, 3, 4, 5, 6, 19, 20, 21, 22, 23, 24, 25, 26, 27, 28, 29, 30, 31, 32, 33, 34, 35, 36, 37, 38, 39, 40, 41, 42, 43] (by decide +kernel) (by decide +kernel)) (goodIn_sub (fun _ h => List.mem_cons_of_mem _ (List.mem_append_right _ h)) (by decide +kernel))
set_option maxRecDepth 20000 in
theorem gX7_fires_X7_takesBack : GoodIn wsX7_fires (wsV RX7 76 RX7 yX7_takesBack wsX7_takesBack) := goodIn_app (goodIn_of _ (by decide +kernel)) ggX7_fires_X7_takesBack
set_option maxRecDepth 20000 in
theorem ggX7_fires_X7_resultOf : GoodIn wsX7_fires wsX7_resultOf := goodIn_ca (goodIn_r _ [14, 6, 1, 2, 3, 4, 5, 28, 29, 30, 31, 32, 33, 34, 35, 36, 37, 38, 39, 40, 41, 42, 43] (by decide +kernel) (by decide +kernel)) (goodIn_sub (fun _ h => List.mem_cons_of_mem _ (List.mem_append_right _ h)) (by decide +kernel))
set_option maxRecDepth 20000 in
theorem gX7_fires_X7_resultOf : GoodIn wsX7_fires (wsV RX7 70 RX7 yX7_resultOf wsX7_resultOf) := goodIn_app (goodIn_of _ (by decide +kernel)) ggX7_fires_X7_resultOf
set_option maxRecDepth 20000 in
theorem ggX7_fires_X7_logs : GoodIn wsX7_fires wsX7_logs := goodIn_ca (goodIn_r _ [22, 6, 23, 1, 2, 3, 4, 5, 28, 29, 30, 31, 32, 33, 34, 35, 36, 37, 38, 39, 40, 41, 42, 43] (by decide +kernel) (by decide +kernel)) (goodIn_sub (fun _ h => List.mem_cons_of_mem _ (List.mem_append_right _ h)) (by decide +kernel))
set_option maxRecDepth 20000 in
theorem gX7_fires_X7_logs : GoodIn wsX7_fires (wsV RX7 62 RX7 yX7_logs wsX7_logs) := goodIn_app (goodIn_of _ (by decide +kernel)) ggX7_fires_X7_logs
set_option maxRecDepth 20000 in
theorem ggX7_fires_X7_sets : GoodIn wsX7_fires wsX7_sets := goodIn_ca (goodIn_r _ [27, 6, 28, 29, 30, 31, 32, 33, 34, 35, 36, 37, 38, 39, 40, 41, 42, 43] (by decide +kernel) (by decide +kernel)) (goodIn_sub (fun _ h => List.mem_cons_of_mem _ (List.mem_append_right _ h)) (by decide +kernel))
set_option maxRecDepth 20000 in
theorem gX7_fires_X7_sets : GoodIn wsX7_fires (wsV RX7 66 RX7 yX7_sets wsX7_sets) := goodIn_app (goodIn_of _ (by decide +kernel)) ggX7_fires_X7_sets
theorem dX7_fires_0 : decode cX7_fires 0 = .ok (.iconst 0, 1) := by decide +kernel
theorem dX7_fires_1 : decode cX7_fires 1 = .ok (.istore_n 3, 1) := by decide +kernel
theorem dX7_fires_2 : decode cX7_fires 2 = .ok (.aload_n 0, 1) := by decide +kernel
theorem dX7_fires_3 : decode cX7_fires 3 = .ok (.iload_n 2, 1) := by decide +kernel
theorem dX7_fires_4 : decode cX7_fires 4 = .ok (.iconst 5, 1) := by decide +kernel
theorem dX7_fires_5 : decode cX7_fires 5 = .ok (.invokevirtual 41, 3) := by decide +kernel
theorem dX7_fires_8 : decode cX7_fires 8 = .ok (.iconst 1, 1) := by decide +kernel
theorem dX7_fires_9 : decode cX7_fires 9 = .ok (.if_icmp .ne 34, 3) := by decide +kernel
theorem dX7_fires_12 : decode cX7_fires 12 = .ok (.aload_n 0, 1) := by decide +kernel
theorem dX7_fires_13 : decode cX7_fires 13 = .ok (.iload_n 2, 1) := by decide +kernel
theorem dX7_fires_14 : decode cX7_fires 14 = .ok (.invokevirtual 73, 3) := by decide +kernel
theorem dX7_fires_17 : decode cX7_fires 17 = .ok (.istore 4, 2) := by decide +kernel
theorem dX7_fires_19 : decode cX7_fires 19 = .ok (.iload 4, 2) := by decide +kernel
theorem dX7_fires_21 : decode cX7_fires 21 = .ok (.ifCond .ne 9, 3) := by decide +kernel
theorem dX7_fires_24 : decode cX7_fires 24 = .ok (.iload_n 1, 1) := by decide +kernel
theorem dX7_fires_25 : decode cX7_fires 25 = .ok (.ifCond .ne 5, 3) := by decide +kernel
theorem dX7_fires_28 : decode cX7_fires 28 = .ok (.iconst 0, 1) := by decide +kernel
theorem dX7_fires_29 : decode cX7_fires 29 = .ok (.ireturn, 1) := by decide +kernel
theorem dX7_fires_30 : decode cX7_fires 30 = .ok (.iload 4, 2) := by decide +kernel
theorem dX7_fires_32 : decode cX7_fires 32 = .ok (.ifCond .eq 11, 3) := by decide +kernel
theorem dX7_fires_35 : decode cX7_fires 35 = .ok (.aload_n 0, 1) := by decide +kernel
theorem dX7_fires_36 : decode cX7_fires 36 = .ok (.iload_n 2, 1) := by decide +kernel
theorem dX7_fires_37 : decode cX7_fires 37 = .ok (.invokevirtual 76, 3) := by decide +kernel
theorem dX7_fires_40 : decode cX7_fires 40 = .ok (.iinc 3 1, 3) := by decide +kernel
theorem dX7_fires_43 : decode cX7_fires 43 = .ok (.aload_n 0, 1) := by decide +kernel
theorem dX7_fires_44 : decode cX7_fires 44 = .ok (.iload_n 2, 1) := by decide +kernel
theorem dX7_fires_45 : decode cX7_fires 45 = .ok (.invokevirtual 70, 3) := by decide +kernel
theorem dX7_fires_48 : decode cX7_fires 48 = .ok (.istore 4, 2) := by decide +kernel
theorem dX7_fires_50 : decode cX7_fires 50 = .ok (.aload_n 0, 1) := by decide +kernel
theorem dX7_fires_51 : decode cX7_fires 51 = .ok (.iload_n 1, 1) := by decide +kernel
theorem dX7_fires_52 : decode cX7_fires 52 = .ok (.iload_n 2, 1) := by decide +kernel
theorem dX7_fires_53 : decode cX7_fires 53 = .ok (.iload 4, 2) := by decide +kernel
theorem dX7_fires_55 : decode cX7_fires 55 = .ok (.aload_n 0, 1) := by decide +kernel
theorem dX7_fires_56 : decode cX7_fires 56 = .ok (.iload_n 2, 1) := by decide +kernel
theorem dX7_fires_57 : decode cX7_fires 57 = .ok (.iconst 2, 1) := by decide +kernel
theorem dX7_fires_58 : decode cX7_fires 58 = .ok (.invokevirtual 41, 3) := by decide +kernel
theorem dX7_fires_61 : decode cX7_fires 61 = .ok (.aload_n 0, 1) := by decide +kernel
theorem dX7_fires_62 : decode cX7_fires 62 = .ok (.iload_n 2, 1) := by decide +kernel
theorem dX7_fires_63 : decode cX7_fires 63 = .ok (.iconst 3, 1) := by decide +kernel
theorem dX7_fires_64 : decode cX7_fires 64 = .ok (.invokevirtual 41, 3) := by decide +kernel
theorem dX7_fires_67 : decode cX7_fires 67 = .ok (.invokevirtual 62, 3) := by decide +kernel
theorem dX7_fires_70 : decode cX7_fires 70 = .ok (.aload_n 0, 1) := by decide +kernel
theorem dX7_fires_71 : decode cX7_fires 71 = .ok (.iload_n 2, 1) := by decide +kernel
theorem dX7_fires_72 : decode cX7_fires 72 = .ok (.iconst 5, 1) := by decide +kernel
theorem dX7_fires_73 : decode cX7_fires 73 = .ok (.iconst 1, 1) := by decide +kernel
theorem dX7_fires_74 : decode cX7_fires 74 = .ok (.invokevirtual 66, 3) := by decide +kernel
theorem dX7_fires_77 : decode cX7_fires 77 = .ok (.aload_n 0, 1) := by decide +kernel
theorem dX7_fires_78 : decode cX7_fires 78 = .ok (.iload_n 2, 1) := by decide +kernel
theorem dX7_fires_79 : decode cX7_fires 79 = .ok (.bipush 6, 2) := by decide +kernel
theorem dX7_fires_81 : decode cX7_fires 81 = .ok (.iload 4, 2) := by decide +kernel
theorem dX7_fires_83 : decode cX7_fires 83 = .ok (.invokevirtual 66, 3) := by decide +kernel
theorem dX7_fires_86 : decode cX7_fires 86 = .ok (.aload_n 0, 1) := by decide +kernel
theorem dX7_fires_87 : decode cX7_fires 87 = .ok (.iload_n 2, 1) := by decide +kernel
theorem dX7_fires_88 : decode cX7_fires 88 = .ok (.bipush 7, 2) := by decide +kernel
theorem dX7_fires_90 : decode cX7_fires 90 = .ok (.aload_n 0, 1) := by decide +kernel
theorem dX7_fires_91 : decode cX7_fires 91 = .ok (.iload_n 2, 1) := by decide +kernel
theorem dX7_fires_92 : decode cX7_fires 92 = .ok (.iconst 2, 1) := by decide +kernel
theorem dX7_fires_93 : decode cX7_fires 93 = .ok (.invokevirtual 41, 3) := by decide +kernel
theorem dX7_fires_96 : decode cX7_fires 96 = .ok (.invokevirtual 66, 3) := by decide +kernel
theorem dX7_fires_99 : decode cX7_fires 99 = .ok (.aload_n 0, 1) := by decide +kernel
theorem dX7_fires_100 : decode cX7_fires 100 = .ok (.iload_n 2, 1) := by decide +kernel
theorem dX7_fires_101 : decode cX7_fires 101 = .ok (.bipush 8, 2) := by decide +kernel
theorem dX7_fires_103 : decode cX7_fires 103 = .ok (.aload_n 0, 1) := by decide +kernel
theorem dX7_fires_104 : decode cX7_fires 104 = .ok (.iload_n 2, 1) := by decide +kernel
theorem dX7_fires_105 : decode cX7_fires 105 = .ok (.iconst 3, 1) := by decide +kernel
theorem dX7_fires_106 : decode cX7_fires 106 = .ok (.invokevirtual 41, 3) := by decide +kernel
theorem dX7_fires_109 : decode cX7_fires 109 = .ok (.invokevirtual 66, 3) := by decide +kernel
theorem dX7_fires_112 : decode cX7_fires 112 = .ok (.aload_n 0, 1) := by decide +kernel
theorem dX7_fires_113 : decode cX7_fires 113 = .ok (.iload_n 2, 1) := by decide +kernel
theorem dX7_fires_114 : decode cX7_fires 114 = .ok (.bipush 9, 2) := by decide +kernel
theorem dX7_fires_116 : decode cX7_fires 116 = .ok (.aload_n 0, 1) := by decide +kernel
theorem dX7_fires_117 : decode cX7_fires 117 = .ok (.iload_n 2, 1) := by decide +kernel
theorem dX7_fires_118 : decode cX7_fires 118 = .ok (.bipush 9, 2) := by decide +kernel
theorem dX7_fires_120 : decode cX7_fires 120 = .ok (.invokevirtual 41, 3) := by decide +kernel
theorem dX7_fires_123 : decode cX7_fires 123 = .ok (.iconst 1, 1) := by decide +kernel
theorem dX7_fires_124 : decode cX7_fires 124 = .ok (.iadd, 1) := by decide +kernel
theorem dX7_fires_125 : decode cX7_fires 125 = .ok (.invokevirtual 66, 3) := by decide +kernel
theorem dX7_fires_128 : decode cX7_fires 128 = .ok (.iload_n 3, 1) := by decide +kernel
theorem dX7_fires_129 : decode cX7_fires 129 = .ok (.iconst 1, 1) := by decide +kernel
theorem dX7_fires_130 : decode cX7_fires 130 = .ok (.iadd, 1) := by decide +kernel
theorem dX7_fires_131 : decode cX7_fires 131 = .ok (.ireturn, 1) := by decide +kernel
set_option maxRecDepth 20000 in
theorem ggX7_meet_X7_of : GoodIn wsX7_meet wsX7_of := goodIn_ca (goodIn_r _ [5, 6, 11, 12, 13, 14, 15, 16, 17, 18, 19, 20, 21, 22, 23, 24, 25, 26] (by decide +kernel) (by decide +kernel)) (goodIn_sub (fun _ h => List.mem_cons_of_mem _ (List.mem_append_right _ h)) (by decide +kernel))
set_option maxRecDepth 20000 in
theorem gX7_meet_X7_of : GoodIn wsX7_meet (wsV RX7 41 RX7 yX7_of wsX7_of) := goodIn_app (goodIn_of _ (by decide +kernel)) ggX7_meet_X7_of
set_option maxRecDepth 20000 in
theorem ggX7_meet_X7_gapOf : GoodIn wsX7_meet wsX7_gapOf := goodIn_ca (goodIn_r _ [10, 6, 1, 2, 3, 4, 5, 11, 12, 13, 14, 15, 16, 17, 18, 19, 20, 21, 22, 23, 24, 25, 26] (by decide +kernel) (by decide +kernel)) (goodIn_sub (fun _ h => List.mem_cons_of_mem _ (List.mem_append_right _ h)) (by decide +kernel))
set_option maxRecDepth 20000 in
theorem gX7_meet_X7_gapOf : GoodIn wsX7_meet (wsV RX7 80 RX7 yX7_gapOf wsX7_gapOf) := goodIn_app (goodIn_of _ (by decide +kernel)) ggX7_meet_X7_gapOf
theorem dX7_meet_0 : decode cX7_meet 0 = .ok (.aload_n 0, 1) := by decide +kernel
theorem dX7_meet_1 : decode cX7_meet 1 = .ok (.iload_n 1, 1) := by decide +kernel
theorem dX7_meet_2 : decode cX7_meet 2 = .ok (.iconst 2, 1) := by decide +kernel
theorem dX7_meet_3 : decode cX7_meet 3 = .ok (.invokevirtual 41, 3) := by decide +kernel
theorem dX7_meet_6 : decode cX7_meet 6 = .ok (.aload_n 0, 1) := by decide +kernel
theorem dX7_meet_7 : decode cX7_meet 7 = .ok (.iload_n 2, 1) := by decide +kernel
theorem dX7_meet_8 : decode cX7_meet 8 = .ok (.iconst 3, 1) := by decide +kernel
theorem dX7_meet_9 : decode cX7_meet 9 = .ok (.invokevirtual 41, 3) := by decide +kernel
theorem dX7_meet_12 : decode cX7_meet 12 = .ok (.aload_n 0, 1) := by decide +kernel
theorem dX7_meet_13 : decode cX7_meet 13 = .ok (.iload_n 2, 1) := by decide +kernel
theorem dX7_meet_14 : decode cX7_meet 14 = .ok (.invokevirtual 80, 3) := by decide +kernel
theorem dX7_meet_17 : decode cX7_meet 17 = .ok (.iadd, 1) := by decide +kernel
theorem dX7_meet_18 : decode cX7_meet 18 = .ok (.if_icmp .gt 22, 3) := by decide +kernel
theorem dX7_meet_21 : decode cX7_meet 21 = .ok (.aload_n 0, 1) := by decide +kernel
theorem dX7_meet_22 : decode cX7_meet 22 = .ok (.iload_n 1, 1) := by decide +kernel
theorem dX7_meet_23 : decode cX7_meet 23 = .ok (.iconst 2, 1) := by decide +kernel
theorem dX7_meet_24 : decode cX7_meet 24 = .ok (.invokevirtual 41, 3) := by decide +kernel
theorem dX7_meet_27 : decode cX7_meet 27 = .ok (.aload_n 0, 1) := by decide +kernel
theorem dX7_meet_28 : decode cX7_meet 28 = .ok (.iload_n 2, 1) := by decide +kernel
theorem dX7_meet_29 : decode cX7_meet 29 = .ok (.iconst 2, 1) := by decide +kernel
theorem dX7_meet_30 : decode cX7_meet 30 = .ok (.invokevirtual 41, 3) := by decide +kernel
theorem dX7_meet_33 : decode cX7_meet 33 = .ok (.if_icmp .lt 7, 3) := by decide +kernel
theorem dX7_meet_36 : decode cX7_meet 36 = .ok (.iconst 1, 1) := by decide +kernel
theorem dX7_meet_37 : decode cX7_meet 37 = .ok (.goto 4, 3) := by decide +kernel
theorem dX7_meet_40 : decode cX7_meet 40 = .ok (.iconst 0, 1) := by decide +kernel
theorem dX7_meet_41 : decode cX7_meet 41 = .ok (.istore_n 3, 1) := by decide +kernel
theorem dX7_meet_42 : decode cX7_meet 42 = .ok (.iload_n 3, 1) := by decide +kernel
theorem dX7_meet_43 : decode cX7_meet 43 = .ok (.ifCond .ne 39, 3) := by decide +kernel
theorem dX7_meet_46 : decode cX7_meet 46 = .ok (.aload_n 0, 1) := by decide +kernel
theorem dX7_meet_47 : decode cX7_meet 47 = .ok (.iload_n 2, 1) := by decide +kernel
theorem dX7_meet_48 : decode cX7_meet 48 = .ok (.iconst 2, 1) := by decide +kernel
theorem dX7_meet_49 : decode cX7_meet 49 = .ok (.invokevirtual 41, 3) := by decide +kernel
theorem dX7_meet_52 : decode cX7_meet 52 = .ok (.aload_n 0, 1) := by decide +kernel
theorem dX7_meet_53 : decode cX7_meet 53 = .ok (.iload_n 1, 1) := by decide +kernel
theorem dX7_meet_54 : decode cX7_meet 54 = .ok (.iconst 3, 1) := by decide +kernel
theorem dX7_meet_55 : decode cX7_meet 55 = .ok (.invokevirtual 41, 3) := by decide +kernel
theorem dX7_meet_58 : decode cX7_meet 58 = .ok (.aload_n 0, 1) := by decide +kernel
theorem dX7_meet_59 : decode cX7_meet 59 = .ok (.iload_n 1, 1) := by decide +kernel
theorem dX7_meet_60 : decode cX7_meet 60 = .ok (.invokevirtual 80, 3) := by decide +kernel
theorem dX7_meet_63 : decode cX7_meet 63 = .ok (.iadd, 1) := by decide +kernel
theorem dX7_meet_64 : decode cX7_meet 64 = .ok (.if_icmp .gt 22, 3) := by decide +kernel
theorem dX7_meet_67 : decode cX7_meet 67 = .ok (.aload_n 0, 1) := by decide +kernel
theorem dX7_meet_68 : decode cX7_meet 68 = .ok (.iload_n 2, 1) := by decide +kernel
theorem dX7_meet_69 : decode cX7_meet 69 = .ok (.iconst 2, 1) := by decide +kernel
theorem dX7_meet_70 : decode cX7_meet 70 = .ok (.invokevirtual 41, 3) := by decide +kernel
theorem dX7_meet_73 : decode cX7_meet 73 = .ok (.aload_n 0, 1) := by decide +kernel
theorem dX7_meet_74 : decode cX7_meet 74 = .ok (.iload_n 1, 1) := by decide +kernel
theorem dX7_meet_75 : decode cX7_meet 75 = .ok (.iconst 2, 1) := by decide +kernel
theorem dX7_meet_76 : decode cX7_meet 76 = .ok (.invokevirtual 41, 3) := by decide +kernel
theorem dX7_meet_79 : decode cX7_meet 79 = .ok (.if_icmp .lt 7, 3) := by decide +kernel
theorem dX7_meet_82 : decode cX7_meet 82 = .ok (.iconst 1, 1) := by decide +kernel
theorem dX7_meet_83 : decode cX7_meet 83 = .ok (.goto 4, 3) := by decide +kernel
theorem dX7_meet_86 : decode cX7_meet 86 = .ok (.iconst 0, 1) := by decide +kernel
theorem dX7_meet_87 : decode cX7_meet 87 = .ok (.ireturn, 1) := by decide +kernel
set_option maxRecDepth 20000 in
theorem ggX7_merges_X7_of : GoodIn wsX7_merges wsX7_of := goodIn_ca (goodIn_r _ [6, 1, 20, 21, 22, 23, 24, 25, 26, 27, 28, 29, 30, 31, 32, 33, 34, 35] (by decide +kernel) (by decide +kernel)) (goodIn_sub (fun _ h => List.mem_cons_of_mem _ (List.mem_append_right _ h)) (by decide +kernel))
set_option maxRecDepth 20000 in
theorem gX7_merges_X7_of : GoodIn wsX7_merges (wsV RX7 41 RX7 yX7_of wsX7_of) := goodIn_app (goodIn_of _ (by decide +kernel)) ggX7_merges_X7_of
set_option maxRecDepth 20000 in
theorem ggX7_merges_X7_sets : GoodIn wsX7_merges wsX7_sets := goodIn_ca (goodIn_r _ [10, 1, 20, 21, 22, 23, 24, 25, 26, 27, 28, 29, 30, 31, 32, 33, 34, 35] (by decide +kernel) (by decide +kernel)) (goodIn_sub (fun _ h => List.mem_cons_of_mem _ (List.mem_append_right _ h)) (by decide +kernel))
set_option maxRecDepth 20000 in
theorem gX7_merges_X7_sets : GoodIn wsX7_merges (wsV RX7 66 RX7 yX7_sets wsX7_sets) := goodIn_app (goodIn_of _ (by decide +kernel)) ggX7_merges_X7_sets
set_option maxRecDepth 20000 in
theorem ggX7_merges_X7_takesBack : GoodIn wsX7_merges wsX7_takesBack := goodIn_ca (goodIn_r _ [14, 2, 3, 4, 5, 6, 1, 15, 16, 17, 18, 19, 7, 8, 9, 10, 20, 21, 22, 23, 24, 25, 26, 27, 28, 29, 30, 31, 32, 33, 34, 35] (by decide +kernel) (by decide +kernel)) (goodIn_sub (fun _ h => List.mem_cons_of_mem _ (List.mem_append_right _ h)) (by decide +kernel))
set_option maxRecDepth 20000 in
theorem gX7_merges_X7_takesBack : GoodIn wsX7_merges (wsV RX7 76 RX7 yX7_takesBack wsX7_takesBack) := goodIn_app (goodIn_of _ (by decide +kernel)) ggX7_merges_X7_takesBack
theorem dX7_merges_0 : decode cX7_merges 0 = .ok (.iconst 0, 1) := by decide +kernel
theorem dX7_merges_1 : decode cX7_merges 1 = .ok (.istore_n 3, 1) := by decide +kernel
theorem dX7_merges_2 : decode cX7_merges 2 = .ok (.iload_n 3, 1) := by decide +kernel
theorem dX7_merges_3 : decode cX7_merges 3 = .ok (.aload_n 0, 1) := by decide +kernel
theorem dX7_merges_4 : decode cX7_merges 4 = .ok (.getfield 7, 3) := by decide +kernel
theorem dX7_merges_7 : decode cX7_merges 7 = .ok (.sipush 400, 3) := by decide +kernel
theorem dX7_merges_10 : decode cX7_merges 10 = .ok (.iaload, 1) := by decide +kernel
theorem dX7_merges_11 : decode cX7_merges 11 = .ok (.if_icmp .ge 47, 3) := by decide +kernel
theorem dX7_merges_14 : decode cX7_merges 14 = .ok (.aload_n 0, 1) := by decide +kernel
theorem dX7_merges_15 : decode cX7_merges 15 = .ok (.getfield 7, 3) := by decide +kernel
theorem dX7_merges_18 : decode cX7_merges 18 = .ok (.iconst 4, 1) := by decide +kernel
theorem dX7_merges_19 : decode cX7_merges 19 = .ok (.iload_n 3, 1) := by decide +kernel
theorem dX7_merges_20 : decode cX7_merges 20 = .ok (.imul, 1) := by decide +kernel
theorem dX7_merges_21 : decode cX7_merges 21 = .ok (.iconst 3, 1) := by decide +kernel
theorem dX7_merges_22 : decode cX7_merges 22 = .ok (.iadd, 1) := by decide +kernel
theorem dX7_merges_23 : decode cX7_merges 23 = .ok (.aload_n 0, 1) := by decide +kernel
theorem dX7_merges_24 : decode cX7_merges 24 = .ok (.getfield 7, 3) := by decide +kernel
theorem dX7_merges_27 : decode cX7_merges 27 = .ok (.iconst 4, 1) := by decide +kernel
theorem dX7_merges_28 : decode cX7_merges 28 = .ok (.iload_n 3, 1) := by decide +kernel
theorem dX7_merges_29 : decode cX7_merges 29 = .ok (.imul, 1) := by decide +kernel
theorem dX7_merges_30 : decode cX7_merges 30 = .ok (.iconst 3, 1) := by decide +kernel
theorem dX7_merges_31 : decode cX7_merges 31 = .ok (.iadd, 1) := by decide +kernel
theorem dX7_merges_32 : decode cX7_merges 32 = .ok (.iaload, 1) := by decide +kernel
theorem dX7_merges_33 : decode cX7_merges 33 = .ok (.iload_n 2, 1) := by decide +kernel
theorem dX7_merges_34 : decode cX7_merges 34 = .ok (.if_icmp .ne 7, 3) := by decide +kernel
theorem dX7_merges_37 : decode cX7_merges 37 = .ok (.iload_n 1, 1) := by decide +kernel
theorem dX7_merges_38 : decode cX7_merges 38 = .ok (.goto 13, 3) := by decide +kernel
theorem dX7_merges_41 : decode cX7_merges 41 = .ok (.aload_n 0, 1) := by decide +kernel
theorem dX7_merges_42 : decode cX7_merges 42 = .ok (.getfield 7, 3) := by decide +kernel
theorem dX7_merges_45 : decode cX7_merges 45 = .ok (.iconst 4, 1) := by decide +kernel
theorem dX7_merges_46 : decode cX7_merges 46 = .ok (.iload_n 3, 1) := by decide +kernel
theorem dX7_merges_47 : decode cX7_merges 47 = .ok (.imul, 1) := by decide +kernel
theorem dX7_merges_48 : decode cX7_merges 48 = .ok (.iconst 3, 1) := by decide +kernel
theorem dX7_merges_49 : decode cX7_merges 49 = .ok (.iadd, 1) := by decide +kernel
theorem dX7_merges_50 : decode cX7_merges 50 = .ok (.iaload, 1) := by decide +kernel
theorem dX7_merges_51 : decode cX7_merges 51 = .ok (.iastore, 1) := by decide +kernel
theorem dX7_merges_52 : decode cX7_merges 52 = .ok (.iinc 3 1, 3) := by decide +kernel
theorem dX7_merges_55 : decode cX7_merges 55 = .ok (.goto (-53), 3) := by decide +kernel
theorem dX7_merges_58 : decode cX7_merges 58 = .ok (.aload_n 0, 1) := by decide +kernel
theorem dX7_merges_59 : decode cX7_merges 59 = .ok (.iload_n 1, 1) := by decide +kernel
theorem dX7_merges_60 : decode cX7_merges 60 = .ok (.iconst 2, 1) := by decide +kernel
theorem dX7_merges_61 : decode cX7_merges 61 = .ok (.aload_n 0, 1) := by decide +kernel
theorem dX7_merges_62 : decode cX7_merges 62 = .ok (.iload_n 1, 1) := by decide +kernel
theorem dX7_merges_63 : decode cX7_merges 63 = .ok (.iconst 2, 1) := by decide +kernel
theorem dX7_merges_64 : decode cX7_merges 64 = .ok (.invokevirtual 41, 3) := by decide +kernel
theorem dX7_merges_67 : decode cX7_merges 67 = .ok (.aload_n 0, 1) := by decide +kernel
theorem dX7_merges_68 : decode cX7_merges 68 = .ok (.iload_n 2, 1) := by decide +kernel
theorem dX7_merges_69 : decode cX7_merges 69 = .ok (.iconst 2, 1) := by decide +kernel
theorem dX7_merges_70 : decode cX7_merges 70 = .ok (.invokevirtual 41, 3) := by decide +kernel
theorem dX7_merges_73 : decode cX7_merges 73 = .ok (.if_icmp .ge 12, 3) := by decide +kernel
theorem dX7_merges_76 : decode cX7_merges 76 = .ok (.aload_n 0, 1) := by decide +kernel
theorem dX7_merges_77 : decode cX7_merges 77 = .ok (.iload_n 1, 1) := by decide +kernel
theorem dX7_merges_78 : decode cX7_merges 78 = .ok (.iconst 2, 1) := by decide +kernel
theorem dX7_merges_79 : decode cX7_merges 79 = .ok (.invokevirtual 41, 3) := by decide +kernel
theorem dX7_merges_82 : decode cX7_merges 82 = .ok (.goto 9, 3) := by decide +kernel
theorem dX7_merges_85 : decode cX7_merges 85 = .ok (.aload_n 0, 1) := by decide +kernel
theorem dX7_merges_86 : decode cX7_merges 86 = .ok (.iload_n 2, 1) := by decide +kernel
theorem dX7_merges_87 : decode cX7_merges 87 = .ok (.iconst 2, 1) := by decide +kernel
theorem dX7_merges_88 : decode cX7_merges 88 = .ok (.invokevirtual 41, 3) := by decide +kernel
theorem dX7_merges_91 : decode cX7_merges 91 = .ok (.invokevirtual 66, 3) := by decide +kernel
theorem dX7_merges_94 : decode cX7_merges 94 = .ok (.aload_n 0, 1) := by decide +kernel
theorem dX7_merges_95 : decode cX7_merges 95 = .ok (.iload_n 1, 1) := by decide +kernel
theorem dX7_merges_96 : decode cX7_merges 96 = .ok (.iconst 3, 1) := by decide +kernel
theorem dX7_merges_97 : decode cX7_merges 97 = .ok (.aload_n 0, 1) := by decide +kernel
theorem dX7_merges_98 : decode cX7_merges 98 = .ok (.iload_n 1, 1) := by decide +kernel
theorem dX7_merges_99 : decode cX7_merges 99 = .ok (.iconst 3, 1) := by decide +kernel
theorem dX7_merges_100 : decode cX7_merges 100 = .ok (.invokevirtual 41, 3) := by decide +kernel
theorem dX7_merges_103 : decode cX7_merges 103 = .ok (.aload_n 0, 1) := by decide +kernel
theorem dX7_merges_104 : decode cX7_merges 104 = .ok (.iload_n 2, 1) := by decide +kernel
theorem dX7_merges_105 : decode cX7_merges 105 = .ok (.iconst 3, 1) := by decide +kernel
theorem dX7_merges_106 : decode cX7_merges 106 = .ok (.invokevirtual 41, 3) := by decide +kernel
theorem dX7_merges_109 : decode cX7_merges 109 = .ok (.if_icmp .le 12, 3) := by decide +kernel
theorem dX7_merges_112 : decode cX7_merges 112 = .ok (.aload_n 0, 1) := by decide +kernel
theorem dX7_merges_113 : decode cX7_merges 113 = .ok (.iload_n 1, 1) := by decide +kernel
theorem dX7_merges_114 : decode cX7_merges 114 = .ok (.iconst 3, 1) := by decide +kernel
theorem dX7_merges_115 : decode cX7_merges 115 = .ok (.invokevirtual 41, 3) := by decide +kernel
theorem dX7_merges_118 : decode cX7_merges 118 = .ok (.goto 9, 3) := by decide +kernel
theorem dX7_merges_121 : decode cX7_merges 121 = .ok (.aload_n 0, 1) := by decide +kernel
theorem dX7_merges_122 : decode cX7_merges 122 = .ok (.iload_n 2, 1) := by decide +kernel
theorem dX7_merges_123 : decode cX7_merges 123 = .ok (.iconst 3, 1) := by decide +kernel
theorem dX7_merges_124 : decode cX7_merges 124 = .ok (.invokevirtual 41, 3) := by decide +kernel
theorem dX7_merges_127 : decode cX7_merges 127 = .ok (.invokevirtual 66, 3) := by decide +kernel
theorem dX7_merges_130 : decode cX7_merges 130 = .ok (.aload_n 0, 1) := by decide +kernel
theorem dX7_merges_131 : decode cX7_merges 131 = .ok (.iload_n 2, 1) := by decide +kernel
theorem dX7_merges_132 : decode cX7_merges 132 = .ok (.iconst 5, 1) := by decide +kernel
theorem dX7_merges_133 : decode cX7_merges 133 = .ok (.invokevirtual 41, 3) := by decide +kernel
theorem dX7_merges_136 : decode cX7_merges 136 = .ok (.iconst 1, 1) := by decide +kernel
theorem dX7_merges_137 : decode cX7_merges 137 = .ok (.if_icmp .ne 8, 3) := by decide +kernel
theorem dX7_merges_140 : decode cX7_merges 140 = .ok (.aload_n 0, 1) := by decide +kernel
theorem dX7_merges_141 : decode cX7_merges 141 = .ok (.iload_n 2, 1) := by decide +kernel
theorem dX7_merges_142 : decode cX7_merges 142 = .ok (.invokevirtual 76, 3) := by decide +kernel
theorem dX7_merges_145 : decode cX7_merges 145 = .ok (.aload_n 0, 1) := by decide +kernel
theorem dX7_merges_146 : decode cX7_merges 146 = .ok (.iload_n 2, 1) := by decide +kernel
theorem dX7_merges_147 : decode cX7_merges 147 = .ok (.iconst 0, 1) := by decide +kernel
theorem dX7_merges_148 : decode cX7_merges 148 = .ok (.iconst 0, 1) := by decide +kernel
theorem dX7_merges_149 : decode cX7_merges 149 = .ok (.invokevirtual 66, 3) := by decide +kernel
theorem dX7_merges_152 : decode cX7_merges 152 = .ok (.aload_n 0, 1) := by decide +kernel
theorem dX7_merges_153 : decode cX7_merges 153 = .ok (.getfield 7, 3) := by decide +kernel
theorem dX7_merges_156 : decode cX7_merges 156 = .ok (.sipush 1422, 3) := by decide +kernel
theorem dX7_merges_159 : decode cX7_merges 159 = .ok (.dup2, 1) := by decide +kernel
theorem dX7_merges_160 : decode cX7_merges 160 = .ok (.iaload, 1) := by decide +kernel
theorem dX7_merges_161 : decode cX7_merges 161 = .ok (.iconst 1, 1) := by decide +kernel
theorem dX7_merges_162 : decode cX7_merges 162 = .ok (.iadd, 1) := by decide +kernel
theorem dX7_merges_163 : decode cX7_merges 163 = .ok (.iastore, 1) := by decide +kernel
theorem dX7_merges_164 : decode cX7_merges 164 = .ok (.return_, 1) := by decide +kernel
set_option maxRecDepth 20000 in
theorem ggX7_mergesOne_X7_isOpen : GoodIn wsX7_mergesOne wsX7_isOpen := goodIn_ca (goodIn_r _ [6, 7, 8, 9, 5, 10, 1, 11, 12, 13, 14, 15, 16, 17, 43, 44, 45, 46, 47, 48, 49, 50, 51, 52, 53, 54, 55, 56, 57, 58] (by decide +kernel) (by decide +kernel)) (goodIn_sub (fun _ h => List.mem_cons_of_mem _ (List.mem_append_right _ h)) (by decide +kernel))
set_option maxRecDepth 20000 in
theorem gX7_mergesOne_X7_isOpen : GoodIn wsX7_mergesOne (wsV RX7 83 RX7 yX7_isOpen wsX7_isOpen) := goodIn_app (goodIn_of _ (by decide +kernel)) ggX7_mergesOne_X7_isOpen
set_option maxRecDepth 20000 in
theorem ggX7_mergesOne_X7_of : GoodIn wsX7_mergesOne wsX7_of := goodIn_ca (goodIn_r _ [17, 1, 43, 44, 45, 46, 47, 48, 49, 50, 51, 52, 53, 54, 55, 56, 57, 58] (by decide +kernel) (by decide +kernel)) (goodIn_sub (fun _ h => List.mem_cons_of_mem _ (List.mem_append_right _ h)) (by decide +kernel))
set_option maxRecDepth 20000 in
theorem gX7_mergesOne_X7_of : GoodIn wsX7_mergesOne (wsV RX7 41 RX7 yX7_of wsX7_of) := goodIn_app (goodIn_of _ (by decide +kernel)) ggX7_mergesOne_X7_of
set_option maxRecDepth 20000 in
theorem ggX7_mergesOne_X7_meet : GoodIn wsX7_mergesOne wsX7_meet := goodIn_ca (goodIn_r _ [21, 14, 15, 16, 5, 17, 1, 22, 23, 24, 25, 43, 44, 45, 46, 47, 48, 49, 50, 51, 52, 53, 54, 55, 56, 57, 58] (by decide +kernel) (by decide +kernel)) (goodIn_sub (fun _ h => List.mem_cons_of_mem _ (List.mem_append_right _ h)) (by decide +kernel))
set_option maxRecDepth 20000 in
theorem gX7_mergesOne_X7_meet : GoodIn wsX7_mergesOne (wsV RX7 86 RX7 yX7_meet wsX7_meet) := goodIn_app (goodIn_of _ (by decide +kernel)) ggX7_mergesOne_X7_meet
set_option maxRecDepth 20000 in
theorem ggX7_mergesOne_X7_merges : GoodIn wsX7_mergesOne wsX7_merges := goodIn_ca (goodIn_r _ [29, 1, 14, 15, 16, 5, 17, 30, 31, 32, 33, 34, 35, 36, 37, 38, 39, 40, 41, 42, 43, 44, 45, 46, 47, 48, 49, 50, 51, 52, 53, 54, 55, 56, 57, 58] (by decide +kernel) (by decide +kernel)) (goodIn_sub (fun _ h => List.mem_cons_of_mem _ (List.mem_append_right _ h)) (by decide +kernel))
set_option maxRecDepth 20000 in
theorem gX7_mergesOne_X7_merges : GoodIn wsX7_mergesOne (wsV RX7 90 RX7 yX7_merges wsX7_merges) := goodIn_app (goodIn_of _ (by decide +kernel)) ggX7_mergesOne_X7_merges
theorem dX7_mergesOne_0 : decode cX7_mergesOne 0 = .ok (.iconst 0, 1) := by decide +kernel
theorem dX7_mergesOne_1 : decode cX7_mergesOne 1 = .ok (.istore_n 2, 1) := by decide +kernel
theorem dX7_mergesOne_2 : decode cX7_mergesOne 2 = .ok (.iload_n 2, 1) := by decide +kernel
theorem dX7_mergesOne_3 : decode cX7_mergesOne 3 = .ok (.aload_n 0, 1) := by decide +kernel
theorem dX7_mergesOne_4 : decode cX7_mergesOne 4 = .ok (.getfield 7, 3) := by decide +kernel
theorem dX7_mergesOne_7 : decode cX7_mergesOne 7 = .ok (.sipush 1401, 3) := by decide +kernel
theorem dX7_mergesOne_10 : decode cX7_mergesOne 10 = .ok (.iaload, 1) := by decide +kernel
theorem dX7_mergesOne_11 : decode cX7_mergesOne 11 = .ok (.if_icmp .ge 84, 3) := by decide +kernel
theorem dX7_mergesOne_14 : decode cX7_mergesOne 14 = .ok (.iload_n 2, 1) := by decide +kernel
theorem dX7_mergesOne_15 : decode cX7_mergesOne 15 = .ok (.iconst 1, 1) := by decide +kernel
theorem dX7_mergesOne_16 : decode cX7_mergesOne 16 = .ok (.iadd, 1) := by decide +kernel
theorem dX7_mergesOne_17 : decode cX7_mergesOne 17 = .ok (.istore_n 3, 1) := by decide +kernel
theorem dX7_mergesOne_18 : decode cX7_mergesOne 18 = .ok (.iload_n 3, 1) := by decide +kernel
theorem dX7_mergesOne_19 : decode cX7_mergesOne 19 = .ok (.aload_n 0, 1) := by decide +kernel
theorem dX7_mergesOne_20 : decode cX7_mergesOne 20 = .ok (.getfield 7, 3) := by decide +kernel
theorem dX7_mergesOne_23 : decode cX7_mergesOne 23 = .ok (.sipush 1401, 3) := by decide +kernel
theorem dX7_mergesOne_26 : decode cX7_mergesOne 26 = .ok (.iaload, 1) := by decide +kernel
theorem dX7_mergesOne_27 : decode cX7_mergesOne 27 = .ok (.if_icmp .ge 62, 3) := by decide +kernel
theorem dX7_mergesOne_30 : decode cX7_mergesOne 30 = .ok (.aload_n 0, 1) := by decide +kernel
theorem dX7_mergesOne_31 : decode cX7_mergesOne 31 = .ok (.iload_n 2, 1) := by decide +kernel
theorem dX7_mergesOne_32 : decode cX7_mergesOne 32 = .ok (.invokevirtual 83, 3) := by decide +kernel
theorem dX7_mergesOne_35 : decode cX7_mergesOne 35 = .ok (.ifCond .eq 48, 3) := by decide +kernel
theorem dX7_mergesOne_38 : decode cX7_mergesOne 38 = .ok (.aload_n 0, 1) := by decide +kernel
theorem dX7_mergesOne_39 : decode cX7_mergesOne 39 = .ok (.iload_n 3, 1) := by decide +kernel
theorem dX7_mergesOne_40 : decode cX7_mergesOne 40 = .ok (.invokevirtual 83, 3) := by decide +kernel
theorem dX7_mergesOne_43 : decode cX7_mergesOne 43 = .ok (.ifCond .eq 40, 3) := by decide +kernel
theorem dX7_mergesOne_46 : decode cX7_mergesOne 46 = .ok (.aload_n 0, 1) := by decide +kernel
theorem dX7_mergesOne_47 : decode cX7_mergesOne 47 = .ok (.iload_n 2, 1) := by decide +kernel
theorem dX7_mergesOne_48 : decode cX7_mergesOne 48 = .ok (.iconst 1, 1) := by decide +kernel
theorem dX7_mergesOne_49 : decode cX7_mergesOne 49 = .ok (.invokevirtual 41, 3) := by decide +kernel
theorem dX7_mergesOne_52 : decode cX7_mergesOne 52 = .ok (.iload_n 1, 1) := by decide +kernel
theorem dX7_mergesOne_53 : decode cX7_mergesOne 53 = .ok (.if_icmp .ne 30, 3) := by decide +kernel
theorem dX7_mergesOne_56 : decode cX7_mergesOne 56 = .ok (.aload_n 0, 1) := by decide +kernel
theorem dX7_mergesOne_57 : decode cX7_mergesOne 57 = .ok (.iload_n 3, 1) := by decide +kernel
theorem dX7_mergesOne_58 : decode cX7_mergesOne 58 = .ok (.iconst 1, 1) := by decide +kernel
theorem dX7_mergesOne_59 : decode cX7_mergesOne 59 = .ok (.invokevirtual 41, 3) := by decide +kernel
theorem dX7_mergesOne_62 : decode cX7_mergesOne 62 = .ok (.iload_n 1, 1) := by decide +kernel
theorem dX7_mergesOne_63 : decode cX7_mergesOne 63 = .ok (.if_icmp .ne 20, 3) := by decide +kernel
theorem dX7_mergesOne_66 : decode cX7_mergesOne 66 = .ok (.aload_n 0, 1) := by decide +kernel
theorem dX7_mergesOne_67 : decode cX7_mergesOne 67 = .ok (.iload_n 2, 1) := by decide +kernel
theorem dX7_mergesOne_68 : decode cX7_mergesOne 68 = .ok (.iload_n 3, 1) := by decide +kernel
theorem dX7_mergesOne_69 : decode cX7_mergesOne 69 = .ok (.invokevirtual 86, 3) := by decide +kernel
theorem dX7_mergesOne_72 : decode cX7_mergesOne 72 = .ok (.ifCond .eq 11, 3) := by decide +kernel
theorem dX7_mergesOne_75 : decode cX7_mergesOne 75 = .ok (.aload_n 0, 1) := by decide +kernel
theorem dX7_mergesOne_76 : decode cX7_mergesOne 76 = .ok (.iload_n 2, 1) := by decide +kernel
theorem dX7_mergesOne_77 : decode cX7_mergesOne 77 = .ok (.iload_n 3, 1) := by decide +kernel
theorem dX7_mergesOne_78 : decode cX7_mergesOne 78 = .ok (.invokevirtual 90, 3) := by decide +kernel
theorem dX7_mergesOne_81 : decode cX7_mergesOne 81 = .ok (.iconst 1, 1) := by decide +kernel
theorem dX7_mergesOne_82 : decode cX7_mergesOne 82 = .ok (.ireturn, 1) := by decide +kernel
theorem dX7_mergesOne_83 : decode cX7_mergesOne 83 = .ok (.iinc 3 1, 3) := by decide +kernel
theorem dX7_mergesOne_86 : decode cX7_mergesOne 86 = .ok (.goto (-68), 3) := by decide +kernel
theorem dX7_mergesOne_89 : decode cX7_mergesOne 89 = .ok (.iinc 2 1, 3) := by decide +kernel
theorem dX7_mergesOne_92 : decode cX7_mergesOne 92 = .ok (.goto (-90), 3) := by decide +kernel
theorem dX7_mergesOne_95 : decode cX7_mergesOne 95 = .ok (.iconst 0, 1) := by decide +kernel
theorem dX7_mergesOne_96 : decode cX7_mergesOne 96 = .ok (.ireturn, 1) := by decide +kernel
theorem dX7_isLateNow_0 : decode cX7_isLateNow 0 = .ok (.iload_n 1, 1) := by decide +kernel
theorem dX7_isLateNow_1 : decode cX7_isLateNow 1 = .ok (.i2l, 1) := by decide +kernel
theorem dX7_isLateNow_2 : decode cX7_isLateNow 2 = .ok (.aload_n 0, 1) := by decide +kernel
theorem dX7_isLateNow_3 : decode cX7_isLateNow 3 = .ok (.getfield 7, 3) := by decide +kernel
theorem dX7_isLateNow_6 : decode cX7_isLateNow 6 = .ok (.sipush 1419, 3) := by decide +kernel
theorem dX7_isLateNow_9 : decode cX7_isLateNow 9 = .ok (.iaload, 1) := by decide +kernel
theorem dX7_isLateNow_10 : decode cX7_isLateNow 10 = .ok (.i2l, 1) := by decide +kernel
theorem dX7_isLateNow_11 : decode cX7_isLateNow 11 = .ok (.ladd, 1) := by decide +kernel
theorem dX7_isLateNow_12 : decode cX7_isLateNow 12 = .ok (.aload_n 0, 1) := by decide +kernel
theorem dX7_isLateNow_13 : decode cX7_isLateNow 13 = .ok (.getfield 7, 3) := by decide +kernel
theorem dX7_isLateNow_16 : decode cX7_isLateNow 16 = .ok (.sipush 1418, 3) := by decide +kernel
theorem dX7_isLateNow_19 : decode cX7_isLateNow 19 = .ok (.iaload, 1) := by decide +kernel
theorem dX7_isLateNow_20 : decode cX7_isLateNow 20 = .ok (.i2l, 1) := by decide +kernel
theorem dX7_isLateNow_21 : decode cX7_isLateNow 21 = .ok (.lcmp, 1) := by decide +kernel
theorem dX7_isLateNow_22 : decode cX7_isLateNow 22 = .ok (.ifCond .ge 7, 3) := by decide +kernel
theorem dX7_isLateNow_25 : decode cX7_isLateNow 25 = .ok (.iconst 1, 1) := by decide +kernel
theorem dX7_isLateNow_26 : decode cX7_isLateNow 26 = .ok (.goto 4, 3) := by decide +kernel
theorem dX7_isLateNow_29 : decode cX7_isLateNow 29 = .ok (.iconst 0, 1) := by decide +kernel
theorem dX7_isLateNow_30 : decode cX7_isLateNow 30 = .ok (.ireturn, 1) := by decide +kernel
set_option maxRecDepth 20000 in
theorem ggX7_lacks_X7_isKey : GoodIn wsX7_lacks wsX7_isKey := goodIn_r _ [5, 6, 7, 4, 8] (by decide +kernel) (by decide +kernel)
set_option maxRecDepth 20000 in
theorem gX7_lacks_X7_isKey : GoodIn wsX7_lacks (va_wsS RX7 53 yX7_isKey wsX7_isKey) := goodIn_app (goodIn_of _ (by decide +kernel)) ggX7_lacks_X7_isKey
set_option maxRecDepth 20000 in
theorem ggX7_lacks_X7_in : GoodIn wsX7_lacks wsX7_in := goodIn_r _ [8] (by decide +kernel) (by decide +kernel)
set_option maxRecDepth 20000 in
theorem gX7_lacks_X7_in : GoodIn wsX7_lacks (va_wsS RX7 37 yX7_in wsX7_in) := goodIn_app (goodIn_of _ (by decide +kernel)) ggX7_lacks_X7_in
set_option maxRecDepth 20000 in
theorem ggX7_lacks_X7_isLateNow : GoodIn wsX7_lacks wsX7_isLateNow := goodIn_ca (goodIn_r _ [12, 1, 13, 14, 15, 16, 17, 18, 19, 20, 21, 22, 23, 24, 25, 26, 27, 28] (by decide +kernel) (by decide +kernel)) (goodIn_sub (fun _ h => List.mem_cons_of_mem _ (List.mem_append_right _ h)) (by decide +kernel))
set_option maxRecDepth 20000 in
theorem gX7_lacks_X7_isLateNow : GoodIn wsX7_lacks (wsV RX7 94 RX7 yX7_isLateNow wsX7_isLateNow) := goodIn_app (goodIn_of _ (by decide +kernel)) ggX7_lacks_X7_isLateNow
theorem dX7_lacks_0 : decode cX7_lacks 0 = .ok (.iload_n 1, 1) := by decide +kernel
theorem dX7_lacks_1 : decode cX7_lacks 1 = .ok (.invokestatic 53, 3) := by decide +kernel
theorem dX7_lacks_4 : decode cX7_lacks 4 = .ok (.ifCond .ne 5, 3) := by decide +kernel
theorem dX7_lacks_7 : decode cX7_lacks 7 = .ok (.iconst 1, 1) := by decide +kernel
theorem dX7_lacks_8 : decode cX7_lacks 8 = .ok (.ireturn, 1) := by decide +kernel
theorem dX7_lacks_9 : decode cX7_lacks 9 = .ok (.iload_n 2, 1) := by decide +kernel
theorem dX7_lacks_10 : decode cX7_lacks 10 = .ok (.iconst 0, 1) := by decide +kernel
theorem dX7_lacks_11 : decode cX7_lacks 11 = .ok (.sipush 9999, 3) := by decide +kernel
theorem dX7_lacks_14 : decode cX7_lacks 14 = .ok (.invokestatic 37, 3) := by decide +kernel
theorem dX7_lacks_17 : decode cX7_lacks 17 = .ok (.ifCond .ne 5, 3) := by decide +kernel
theorem dX7_lacks_20 : decode cX7_lacks 20 = .ok (.iconst 2, 1) := by decide +kernel
theorem dX7_lacks_21 : decode cX7_lacks 21 = .ok (.ireturn, 1) := by decide +kernel
theorem dX7_lacks_22 : decode cX7_lacks 22 = .ok (.aload_n 0, 1) := by decide +kernel
theorem dX7_lacks_23 : decode cX7_lacks 23 = .ok (.iload_n 2, 1) := by decide +kernel
theorem dX7_lacks_24 : decode cX7_lacks 24 = .ok (.invokevirtual 94, 3) := by decide +kernel
theorem dX7_lacks_27 : decode cX7_lacks 27 = .ok (.ifCond .ne 20, 3) := by decide +kernel
theorem dX7_lacks_30 : decode cX7_lacks 30 = .ok (.aload_n 0, 1) := by decide +kernel
theorem dX7_lacks_31 : decode cX7_lacks 31 = .ok (.getfield 7, 3) := by decide +kernel
theorem dX7_lacks_34 : decode cX7_lacks 34 = .ok (.sipush 400, 3) := by decide +kernel
theorem dX7_lacks_37 : decode cX7_lacks 37 = .ok (.iaload, 1) := by decide +kernel
theorem dX7_lacks_38 : decode cX7_lacks 38 = .ok (.bipush 100, 2) := by decide +kernel
theorem dX7_lacks_40 : decode cX7_lacks 40 = .ok (.if_icmp .ne 7, 3) := by decide +kernel
theorem dX7_lacks_43 : decode cX7_lacks 43 = .ok (.iconst 3, 1) := by decide +kernel
theorem dX7_lacks_44 : decode cX7_lacks 44 = .ok (.goto 4, 3) := by decide +kernel
theorem dX7_lacks_47 : decode cX7_lacks 47 = .ok (.iconst 0, 1) := by decide +kernel
theorem dX7_lacks_48 : decode cX7_lacks 48 = .ok (.ireturn, 1) := by decide +kernel
set_option maxRecDepth 20000 in
theorem ggX7_comes_X7_isLateNow : GoodIn wsX7_comes wsX7_isLateNow := goodIn_ca (goodIn_r _ [6, 1, 67, 68, 69, 70, 71, 72, 73, 74, 75, 76, 77, 78, 79, 80, 81, 82] (by decide +kernel) (by decide +kernel)) (goodIn_sub (fun _ h => List.mem_cons_of_mem _ (List.mem_append_left _ (List.mem_append_right _ h))) (by decide +kernel))
set_option maxRecDepth 20000 in
theorem gX7_comes_X7_isLateNow : GoodIn wsX7_comes (wsV RX7 94 RX7 yX7_isLateNow wsX7_isLateNow) := goodIn_app (goodIn_of _ (by decide +kernel)) ggX7_comes_X7_isLateNow
set_option maxRecDepth 20000 in
theorem ggX7_comes_X7_sets : GoodIn wsX7_comes wsX7_sets := goodIn_ca (goodIn_r _ [10, 1, 67, 68, 69, 70, 71, 72, 73, 74, 75, 76, 77, 78, 79, 80, 81, 82] (by decide +kernel) (by decide +kernel)) (goodIn_sub (fun _ h => List.mem_cons_of_mem _ (List.mem_append_left _ (List.mem_append_right _ h))) (by decide +kernel))
set_option maxRecDepth 20000 in
theorem gX7_comes_X7_sets : GoodIn wsX7_comes (wsV RX7 66 RX7 yX7_sets wsX7_sets) := goodIn_app (goodIn_of _ (by decide +kernel)) ggX7_comes_X7_sets
set_option maxRecDepth 20000 in
theorem ggX7_comes_X7_mergesOne : GoodIn wsX7_comes wsX7_mergesOne := goodIn_ca (goodIn_r _ [14, 1, 15, 16, 17, 5, 18, 19, 20, 21, 22, 23, 24, 25, 26, 27, 28, 29, 30, 31, 32, 33, 34, 35, 36, 37, 38, 39, 40, 41, 7, 8, 9, 10, 42, 43, 44, 45, 46, 47, 48, 49, 50, 67, 68, 69, 70, 71, 72, 73, 74, 75, 76, 77, 78, 79, 80, 81, 82] (by decide +kernel) (by decide +kernel)) (goodIn_sub (fun _ h => List.mem_cons_of_mem _ (List.mem_append_left _ (List.mem_append_right _ h))) (by decide +kernel))
set_option maxRecDepth 20000 in
theorem gX7_comes_X7_mergesOne : GoodIn wsX7_comes (wsV RX7 97 RX7 yX7_mergesOne wsX7_mergesOne) := goodIn_app (goodIn_of _ (by decide +kernel)) ggX7_comes_X7_mergesOne
set_option maxRecDepth 20000 in
theorem ggX7_comes_X7_many : GoodIn wsX7_comes wsX7_many := goodIn_ca (goodIn_r _ [54, 1, 67, 68, 69, 70, 71, 72, 73, 74, 75, 76, 77, 78, 79, 80, 81, 82] (by decide +kernel) (by decide +kernel)) (goodIn_sub (fun _ h => List.mem_cons_of_mem _ (List.mem_append_left _ (List.mem_append_right _ h))) (by decide +kernel))
set_option maxRecDepth 20000 in
theorem gX7_comes_X7_many : GoodIn wsX7_comes (wsV RX7 100 RX7 yX7_many wsX7_many) := goodIn_app (goodIn_of _ (by decide +kernel)) ggX7_comes_X7_many
set_option maxRecDepth 20000 in
theorem ggX7_comes_X7_fires : GoodIn wsX7_comes wsX7_fires := goodIn_ca (goodIn_r _ [58, 26, 27, 28, 5, 29, 1, 59, 60, 61, 62, 63, 64, 65, 66, 42, 43, 44, 45, 46, 47, 48, 49, 50, 7, 8, 9, 10, 67, 68, 69, 70, 71, 72, 73, 74, 75, 76, 77, 78, 79, 80, 81, 82] (by decide +kernel) (by decide +kernel)) (goodIn_sub (fun _ h => List.mem_cons_of_mem _ (List.mem_append_left _ (List.mem_append_right _ h))) (by decide +kernel))
set_option maxRecDepth 20000 in
theorem gX7_comes_X7_fires : GoodIn wsX7_comes (wsV RX7 103 RX7 yX7_fires wsX7_fires) := goodIn_app (goodIn_of _ (by decide +kernel)) ggX7_comes_X7_fires
theorem dX7_comes_0 : decode cX7_comes 0 = .ok (.aload_n 0, 1) := by decide +kernel
theorem dX7_comes_1 : decode cX7_comes 1 = .ok (.iload_n 2, 1) := by decide +kernel
theorem dX7_comes_2 : decode cX7_comes 2 = .ok (.invokevirtual 94, 3) := by decide +kernel
theorem dX7_comes_5 : decode cX7_comes 5 = .ok (.ifCond .eq 17, 3) := by decide +kernel
theorem dX7_comes_8 : decode cX7_comes 8 = .ok (.aload_n 0, 1) := by decide +kernel
theorem dX7_comes_9 : decode cX7_comes 9 = .ok (.getfield 7, 3) := by decide +kernel
theorem dX7_comes_12 : decode cX7_comes 12 = .ok (.sipush 1421, 3) := by decide +kernel
theorem dX7_comes_15 : decode cX7_comes 15 = .ok (.dup2, 1) := by decide +kernel
theorem dX7_comes_16 : decode cX7_comes 16 = .ok (.iaload, 1) := by decide +kernel
theorem dX7_comes_17 : decode cX7_comes 17 = .ok (.iconst 1, 1) := by decide +kernel
theorem dX7_comes_18 : decode cX7_comes 18 = .ok (.iadd, 1) := by decide +kernel
theorem dX7_comes_19 : decode cX7_comes 19 = .ok (.iastore, 1) := by decide +kernel
theorem dX7_comes_20 : decode cX7_comes 20 = .ok (.iconst (-1), 1) := by decide +kernel
theorem dX7_comes_21 : decode cX7_comes 21 = .ok (.ireturn, 1) := by decide +kernel
theorem dX7_comes_22 : decode cX7_comes 22 = .ok (.aload_n 0, 1) := by decide +kernel
theorem dX7_comes_23 : decode cX7_comes 23 = .ok (.getfield 7, 3) := by decide +kernel
theorem dX7_comes_26 : decode cX7_comes 26 = .ok (.sipush 400, 3) := by decide +kernel
theorem dX7_comes_29 : decode cX7_comes 29 = .ok (.iaload, 1) := by decide +kernel
theorem dX7_comes_30 : decode cX7_comes 30 = .ok (.istore 4, 2) := by decide +kernel
theorem dX7_comes_32 : decode cX7_comes 32 = .ok (.aload_n 0, 1) := by decide +kernel
theorem dX7_comes_33 : decode cX7_comes 33 = .ok (.getfield 7, 3) := by decide +kernel
theorem dX7_comes_36 : decode cX7_comes 36 = .ok (.sipush 1401, 3) := by decide +kernel
theorem dX7_comes_39 : decode cX7_comes 39 = .ok (.iaload, 1) := by decide +kernel
theorem dX7_comes_40 : decode cX7_comes 40 = .ok (.istore 5, 2) := by decide +kernel
theorem dX7_comes_42 : decode cX7_comes 42 = .ok (.aload_n 0, 1) := by decide +kernel
theorem dX7_comes_43 : decode cX7_comes 43 = .ok (.getfield 7, 3) := by decide +kernel
theorem dX7_comes_46 : decode cX7_comes 46 = .ok (.iconst 4, 1) := by decide +kernel
theorem dX7_comes_47 : decode cX7_comes 47 = .ok (.iload 4, 2) := by decide +kernel
theorem dX7_comes_49 : decode cX7_comes 49 = .ok (.imul, 1) := by decide +kernel
theorem dX7_comes_50 : decode cX7_comes 50 = .ok (.iconst 0, 1) := by decide +kernel
theorem dX7_comes_51 : decode cX7_comes 51 = .ok (.iadd, 1) := by decide +kernel
theorem dX7_comes_52 : decode cX7_comes 52 = .ok (.iload_n 1, 1) := by decide +kernel
theorem dX7_comes_53 : decode cX7_comes 53 = .ok (.iastore, 1) := by decide +kernel
theorem dX7_comes_54 : decode cX7_comes 54 = .ok (.aload_n 0, 1) := by decide +kernel
theorem dX7_comes_55 : decode cX7_comes 55 = .ok (.getfield 7, 3) := by decide +kernel
theorem dX7_comes_58 : decode cX7_comes 58 = .ok (.iconst 4, 1) := by decide +kernel
theorem dX7_comes_59 : decode cX7_comes 59 = .ok (.iload 4, 2) := by decide +kernel
theorem dX7_comes_61 : decode cX7_comes 61 = .ok (.imul, 1) := by decide +kernel
theorem dX7_comes_62 : decode cX7_comes 62 = .ok (.iconst 1, 1) := by decide +kernel
theorem dX7_comes_63 : decode cX7_comes 63 = .ok (.iadd, 1) := by decide +kernel
theorem dX7_comes_64 : decode cX7_comes 64 = .ok (.iload_n 2, 1) := by decide +kernel
theorem dX7_comes_65 : decode cX7_comes 65 = .ok (.iastore, 1) := by decide +kernel
theorem dX7_comes_66 : decode cX7_comes 66 = .ok (.aload_n 0, 1) := by decide +kernel
theorem dX7_comes_67 : decode cX7_comes 67 = .ok (.getfield 7, 3) := by decide +kernel
theorem dX7_comes_70 : decode cX7_comes 70 = .ok (.iconst 4, 1) := by decide +kernel
theorem dX7_comes_71 : decode cX7_comes 71 = .ok (.iload 4, 2) := by decide +kernel
theorem dX7_comes_73 : decode cX7_comes 73 = .ok (.imul, 1) := by decide +kernel
theorem dX7_comes_74 : decode cX7_comes 74 = .ok (.iconst 2, 1) := by decide +kernel
theorem dX7_comes_75 : decode cX7_comes 75 = .ok (.iadd, 1) := by decide +kernel
theorem dX7_comes_76 : decode cX7_comes 76 = .ok (.iload_n 3, 1) := by decide +kernel
theorem dX7_comes_77 : decode cX7_comes 77 = .ok (.iastore, 1) := by decide +kernel
theorem dX7_comes_78 : decode cX7_comes 78 = .ok (.aload_n 0, 1) := by decide +kernel
theorem dX7_comes_79 : decode cX7_comes 79 = .ok (.getfield 7, 3) := by decide +kernel
theorem dX7_comes_82 : decode cX7_comes 82 = .ok (.iconst 4, 1) := by decide +kernel
theorem dX7_comes_83 : decode cX7_comes 83 = .ok (.iload 4, 2) := by decide +kernel
theorem dX7_comes_85 : decode cX7_comes 85 = .ok (.imul, 1) := by decide +kernel
theorem dX7_comes_86 : decode cX7_comes 86 = .ok (.iconst 3, 1) := by decide +kernel
theorem dX7_comes_87 : decode cX7_comes 87 = .ok (.iadd, 1) := by decide +kernel
theorem dX7_comes_88 : decode cX7_comes 88 = .ok (.iload 5, 2) := by decide +kernel
theorem dX7_comes_90 : decode cX7_comes 90 = .ok (.iastore, 1) := by decide +kernel
theorem dX7_comes_91 : decode cX7_comes 91 = .ok (.aload_n 0, 1) := by decide +kernel
theorem dX7_comes_92 : decode cX7_comes 92 = .ok (.getfield 7, 3) := by decide +kernel
theorem dX7_comes_95 : decode cX7_comes 95 = .ok (.sipush 400, 3) := by decide +kernel
theorem dX7_comes_98 : decode cX7_comes 98 = .ok (.dup2, 1) := by decide +kernel
theorem dX7_comes_99 : decode cX7_comes 99 = .ok (.iaload, 1) := by decide +kernel
theorem dX7_comes_100 : decode cX7_comes 100 = .ok (.iconst 1, 1) := by decide +kernel
theorem dX7_comes_101 : decode cX7_comes 101 = .ok (.iadd, 1) := by decide +kernel
theorem dX7_comes_102 : decode cX7_comes 102 = .ok (.iastore, 1) := by decide +kernel
theorem dX7_comes_103 : decode cX7_comes 103 = .ok (.aload_n 0, 1) := by decide +kernel
theorem dX7_comes_104 : decode cX7_comes 104 = .ok (.getfield 7, 3) := by decide +kernel
theorem dX7_comes_107 : decode cX7_comes 107 = .ok (.sipush 1401, 3) := by decide +kernel
theorem dX7_comes_110 : decode cX7_comes 110 = .ok (.dup2, 1) := by decide +kernel
theorem dX7_comes_111 : decode cX7_comes 111 = .ok (.iaload, 1) := by decide +kernel
theorem dX7_comes_112 : decode cX7_comes 112 = .ok (.iconst 1, 1) := by decide +kernel
theorem dX7_comes_113 : decode cX7_comes 113 = .ok (.iadd, 1) := by decide +kernel
theorem dX7_comes_114 : decode cX7_comes 114 = .ok (.iastore, 1) := by decide +kernel
theorem dX7_comes_115 : decode cX7_comes 115 = .ok (.iconst 0, 1) := by decide +kernel
theorem dX7_comes_116 : decode cX7_comes 116 = .ok (.istore 6, 2) := by decide +kernel
theorem dX7_comes_118 : decode cX7_comes 118 = .ok (.iload 6, 2) := by decide +kernel
theorem dX7_comes_120 : decode cX7_comes 120 = .ok (.bipush 10, 2) := by decide +kernel
theorem dX7_comes_122 : decode cX7_comes 122 = .ok (.if_icmp .ge 18, 3) := by decide +kernel
theorem dX7_comes_125 : decode cX7_comes 125 = .ok (.aload_n 0, 1) := by decide +kernel
theorem dX7_comes_126 : decode cX7_comes 126 = .ok (.iload 5, 2) := by decide +kernel
theorem dX7_comes_128 : decode cX7_comes 128 = .ok (.iload 6, 2) := by decide +kernel
theorem dX7_comes_130 : decode cX7_comes 130 = .ok (.iconst 0, 1) := by decide +kernel
theorem dX7_comes_131 : decode cX7_comes 131 = .ok (.invokevirtual 66, 3) := by decide +kernel
theorem dX7_comes_134 : decode cX7_comes 134 = .ok (.iinc 6 1, 3) := by decide +kernel
theorem dX7_comes_137 : decode cX7_comes 137 = .ok (.goto (-19), 3) := by decide +kernel
theorem dX7_comes_140 : decode cX7_comes 140 = .ok (.aload_n 0, 1) := by decide +kernel
theorem dX7_comes_141 : decode cX7_comes 141 = .ok (.iload 5, 2) := by decide +kernel
theorem dX7_comes_143 : decode cX7_comes 143 = .ok (.iconst 0, 1) := by decide +kernel
theorem dX7_comes_144 : decode cX7_comes 144 = .ok (.iconst 1, 1) := by decide +kernel
theorem dX7_comes_145 : decode cX7_comes 145 = .ok (.invokevirtual 66, 3) := by decide +kernel
theorem dX7_comes_148 : decode cX7_comes 148 = .ok (.aload_n 0, 1) := by decide +kernel
theorem dX7_comes_149 : decode cX7_comes 149 = .ok (.iload 5, 2) := by decide +kernel
theorem dX7_comes_151 : decode cX7_comes 151 = .ok (.iconst 1, 1) := by decide +kernel
theorem dX7_comes_152 : decode cX7_comes 152 = .ok (.iload_n 1, 1) := by decide +kernel
theorem dX7_comes_153 : decode cX7_comes 153 = .ok (.invokevirtual 66, 3) := by decide +kernel
theorem dX7_comes_156 : decode cX7_comes 156 = .ok (.aload_n 0, 1) := by decide +kernel
theorem dX7_comes_157 : decode cX7_comes 157 = .ok (.iload 5, 2) := by decide +kernel
theorem dX7_comes_159 : decode cX7_comes 159 = .ok (.iconst 2, 1) := by decide +kernel
theorem dX7_comes_160 : decode cX7_comes 160 = .ok (.iload_n 2, 1) := by decide +kernel
theorem dX7_comes_161 : decode cX7_comes 161 = .ok (.invokevirtual 66, 3) := by decide +kernel
theorem dX7_comes_164 : decode cX7_comes 164 = .ok (.aload_n 0, 1) := by decide +kernel
theorem dX7_comes_165 : decode cX7_comes 165 = .ok (.iload 5, 2) := by decide +kernel
theorem dX7_comes_167 : decode cX7_comes 167 = .ok (.iconst 3, 1) := by decide +kernel
theorem dX7_comes_168 : decode cX7_comes 168 = .ok (.iload_n 2, 1) := by decide +kernel
theorem dX7_comes_169 : decode cX7_comes 169 = .ok (.invokevirtual 66, 3) := by decide +kernel
theorem dX7_comes_172 : decode cX7_comes 172 = .ok (.iconst 1, 1) := by decide +kernel
theorem dX7_comes_173 : decode cX7_comes 173 = .ok (.istore 6, 2) := by decide +kernel
theorem dX7_comes_175 : decode cX7_comes 175 = .ok (.iload 6, 2) := by decide +kernel
theorem dX7_comes_177 : decode cX7_comes 177 = .ok (.ifCond .eq 13, 3) := by decide +kernel
theorem dX7_comes_180 : decode cX7_comes 180 = .ok (.aload_n 0, 1) := by decide +kernel
theorem dX7_comes_181 : decode cX7_comes 181 = .ok (.iload_n 1, 1) := by decide +kernel
theorem dX7_comes_182 : decode cX7_comes 182 = .ok (.invokevirtual 97, 3) := by decide +kernel
theorem dX7_comes_185 : decode cX7_comes 185 = .ok (.istore 6, 2) := by decide +kernel
theorem dX7_comes_187 : decode cX7_comes 187 = .ok (.goto (-12), 3) := by decide +kernel
theorem dX7_comes_190 : decode cX7_comes 190 = .ok (.aload_n 0, 1) := by decide +kernel
theorem dX7_comes_191 : decode cX7_comes 191 = .ok (.getfield 7, 3) := by decide +kernel
theorem dX7_comes_194 : decode cX7_comes 194 = .ok (.iconst 4, 1) := by decide +kernel
theorem dX7_comes_195 : decode cX7_comes 195 = .ok (.iload 4, 2) := by decide +kernel
theorem dX7_comes_197 : decode cX7_comes 197 = .ok (.imul, 1) := by decide +kernel
theorem dX7_comes_198 : decode cX7_comes 198 = .ok (.iconst 3, 1) := by decide +kernel
theorem dX7_comes_199 : decode cX7_comes 199 = .ok (.iadd, 1) := by decide +kernel
theorem dX7_comes_200 : decode cX7_comes 200 = .ok (.iaload, 1) := by decide +kernel
theorem dX7_comes_201 : decode cX7_comes 201 = .ok (.istore 7, 2) := by decide +kernel
theorem dX7_comes_203 : decode cX7_comes 203 = .ok (.aload_n 0, 1) := by decide +kernel
theorem dX7_comes_204 : decode cX7_comes 204 = .ok (.getfield 7, 3) := by decide +kernel
theorem dX7_comes_207 : decode cX7_comes 207 = .ok (.sipush 1420, 3) := by decide +kernel
theorem dX7_comes_210 : decode cX7_comes 210 = .ok (.iaload, 1) := by decide +kernel
theorem dX7_comes_211 : decode cX7_comes 211 = .ok (.ifCond .le 30, 3) := by decide +kernel
theorem dX7_comes_214 : decode cX7_comes 214 = .ok (.aload_n 0, 1) := by decide +kernel
theorem dX7_comes_215 : decode cX7_comes 215 = .ok (.iload 7, 2) := by decide +kernel
theorem dX7_comes_217 : decode cX7_comes 217 = .ok (.invokevirtual 100, 3) := by decide +kernel
theorem dX7_comes_220 : decode cX7_comes 220 = .ok (.aload_n 0, 1) := by decide +kernel
theorem dX7_comes_221 : decode cX7_comes 221 = .ok (.getfield 7, 3) := by decide +kernel
theorem dX7_comes_224 : decode cX7_comes 224 = .ok (.sipush 1420, 3) := by decide +kernel
theorem dX7_comes_227 : decode cX7_comes 227 = .ok (.iaload, 1) := by decide +kernel
theorem dX7_comes_228 : decode cX7_comes 228 = .ok (.irem, 1) := by decide +kernel
theorem dX7_comes_229 : decode cX7_comes 229 = .ok (.ifCond .ne 12, 3) := by decide +kernel
theorem dX7_comes_232 : decode cX7_comes 232 = .ok (.aload_n 0, 1) := by decide +kernel
theorem dX7_comes_233 : decode cX7_comes 233 = .ok (.iconst 0, 1) := by decide +kernel
theorem dX7_comes_234 : decode cX7_comes 234 = .ok (.iload 7, 2) := by decide +kernel
theorem dX7_comes_236 : decode cX7_comes 236 = .ok (.invokevirtual 103, 3) := by decide +kernel
theorem dX7_comes_239 : decode cX7_comes 239 = .ok (.istore 8, 2) := by decide +kernel
theorem dX7_comes_241 : decode cX7_comes 241 = .ok (.iload 7, 2) := by decide +kernel
theorem dX7_comes_243 : decode cX7_comes 243 = .ok (.ireturn, 1) := by decide +kernel
set_option maxRecDepth 20000 in
theorem ggX7_add_X7_lacks : GoodIn wsX7_add wsX7_lacks := goodIn_ca (goodIn_r _ [5, 6, 7, 8, 4, 9, 10, 11, 12, 13, 14, 15, 16, 87, 88, 89, 90, 91, 92, 93, 94, 95, 96, 97, 98, 99, 100, 101, 102] (by decide +kernel) (by decide +kernel)) (goodIn_sub (fun _ h => List.mem_cons_of_mem _ (List.mem_append_left _ (List.mem_append_right _ h))) (by decide +kernel))
set_option maxRecDepth 20000 in
theorem gX7_add_X7_lacks : GoodIn wsX7_add (wsV RX7 106 RX7 yX7_lacks wsX7_lacks) := goodIn_app (goodIn_of _ (by decide +kernel)) ggX7_add_X7_lacks
set_option maxRecDepth 20000 in
theorem ggX7_add_X7_fails : GoodIn wsX7_add wsX7_fails := goodIn_r _ [20, 21, 87, 88, 89, 90, 91, 92, 93, 94, 95, 96, 97, 98, 99, 100, 101, 102] (by decide +kernel) (by decide +kernel)
set_option maxRecDepth 20000 in
theorem gX7_add_X7_fails : GoodIn wsX7_add (wsV RX7 56 RX7 yX7_fails wsX7_fails) := goodIn_app (goodIn_of _ (by decide +kernel)) ggX7_add_X7_fails
set_option maxRecDepth 20000 in
theorem ggX7_add_X7_comes : GoodIn wsX7_add wsX7_comes := goodIn_ca (goodIn_ca (goodIn_r _ [25, 6, 13, 14, 15, 4, 16, 26, 27, 28, 29, 30, 31, 32, 33, 34, 35, 36, 37, 38, 39, 40, 41, 10, 11, 12, 42, 43, 44, 45, 46, 47, 48, 49, 50, 51, 52, 53, 54, 55, 56, 57, 58, 59, 60, 61, 62, 63, 64, 65, 66, 67, 68, 69, 70, 71, 72, 73, 74, 75, 76, 77, 78, 79, 80, 81, 82, 87, 88, 89, 90, 91, 92, 93, 94, 95, 96, 97, 98, 99, 100, 101, 102] (by decide +kernel) (by decide +kernel)) (goodIn_sub (fun _ h => List.mem_cons_of_mem _ (List.mem_append_left _ (List.mem_append_right _ h))) (by decide +kernel))) (goodIn_sub (fun _ h => List.mem_cons_of_mem _ (List.mem_append_right _ h)) (by decide +kernel))
set_option maxRecDepth 20000 in
theorem gX7_add_X7_comes : GoodIn wsX7_add (wsV RX7 109 RX7 yX7_comes wsX7_comes) := goodIn_app (goodIn_of _ (by decide +kernel)) ggX7_add_X7_comes
set_option maxRecDepth 20000 in
theorem ggX7_add_X7_done : GoodIn wsX7_add wsX7_done := goodIn_r _ [86, 21, 87, 88, 89, 90, 91, 92, 93, 94, 95, 96, 97, 98, 99, 100, 101, 102] (by decide +kernel) (by decide +kernel)
set_option maxRecDepth 20000 in
theorem gX7_add_X7_done : GoodIn wsX7_add (wsV RX7 49 RX7 yX7_done wsX7_done) := goodIn_app (goodIn_of _ (by decide +kernel)) ggX7_add_X7_done
theorem dX7_add_0 : decode cX7_add 0 = .ok (.aload_n 0, 1) := by decide +kernel
theorem dX7_add_1 : decode cX7_add 1 = .ok (.iload_n 1, 1) := by decide +kernel
theorem dX7_add_2 : decode cX7_add 2 = .ok (.iload_n 2, 1) := by decide +kernel
theorem dX7_add_3 : decode cX7_add 3 = .ok (.invokevirtual 106, 3) := by decide +kernel
theorem dX7_add_6 : decode cX7_add 6 = .ok (.istore 4, 2) := by decide +kernel
theorem dX7_add_8 : decode cX7_add 8 = .ok (.iload 4, 2) := by decide +kernel
theorem dX7_add_10 : decode cX7_add 10 = .ok (.ifCond .eq 12, 3) := by decide +kernel
theorem dX7_add_13 : decode cX7_add 13 = .ok (.aload_n 0, 1) := by decide +kernel
theorem dX7_add_14 : decode cX7_add 14 = .ok (.iload 4, 2) := by decide +kernel
theorem dX7_add_16 : decode cX7_add 16 = .ok (.invokevirtual 56, 3) := by decide +kernel
theorem dX7_add_19 : decode cX7_add 19 = .ok (.goto 14, 3) := by decide +kernel
theorem dX7_add_22 : decode cX7_add 22 = .ok (.aload_n 0, 1) := by decide +kernel
theorem dX7_add_23 : decode cX7_add 23 = .ok (.aload_n 0, 1) := by decide +kernel
theorem dX7_add_24 : decode cX7_add 24 = .ok (.iload_n 1, 1) := by decide +kernel
theorem dX7_add_25 : decode cX7_add 25 = .ok (.iload_n 2, 1) := by decide +kernel
theorem dX7_add_26 : decode cX7_add 26 = .ok (.iload_n 3, 1) := by decide +kernel
theorem dX7_add_27 : decode cX7_add 27 = .ok (.invokevirtual 109, 3) := by decide +kernel
theorem dX7_add_30 : decode cX7_add 30 = .ok (.invokevirtual 49, 3) := by decide +kernel
theorem dX7_add_33 : decode cX7_add 33 = .ok (.ireturn, 1) := by decide +kernel
set_option maxRecDepth 20000 in
theorem ggX7_bound_X7_of : GoodIn wsX7_bound wsX7_of := goodIn_ca (goodIn_r _ [6, 1, 11, 12, 13, 14, 15, 16, 17, 18, 19, 20, 21, 22, 23, 24, 25, 26] (by decide +kernel) (by decide +kernel)) (goodIn_sub (fun _ h => List.mem_cons_of_mem _ (List.mem_append_right _ h)) (by decide +kernel))
set_option maxRecDepth 20000 in
theorem gX7_bound_X7_of : GoodIn wsX7_bound (wsV RX7 41 RX7 yX7_of wsX7_of) := goodIn_app (goodIn_of _ (by decide +kernel)) ggX7_bound_X7_of
set_option maxRecDepth 20000 in
theorem ggX7_bound_X7_gapOf : GoodIn wsX7_bound wsX7_gapOf := goodIn_ca (goodIn_r _ [10, 1, 2, 3, 4, 5, 6, 11, 12, 13, 14, 15, 16, 17, 18, 19, 20, 21, 22, 23, 24, 25, 26] (by decide +kernel) (by decide +kernel)) (goodIn_sub (fun _ h => List.mem_cons_of_mem _ (List.mem_append_right _ h)) (by decide +kernel))
set_option maxRecDepth 20000 in
theorem gX7_bound_X7_gapOf : GoodIn wsX7_bound (wsV RX7 80 RX7 yX7_gapOf wsX7_gapOf) := goodIn_app (goodIn_of _ (by decide +kernel)) ggX7_bound_X7_gapOf
theorem dX7_bound_0 : decode cX7_bound 0 = .ok (.aload_n 0, 1) := by decide +kernel
theorem dX7_bound_1 : decode cX7_bound 1 = .ok (.iload_n 1, 1) := by decide +kernel
theorem dX7_bound_2 : decode cX7_bound 2 = .ok (.iconst 3, 1) := by decide +kernel
theorem dX7_bound_3 : decode cX7_bound 3 = .ok (.invokevirtual 41, 3) := by decide +kernel
theorem dX7_bound_6 : decode cX7_bound 6 = .ok (.aload_n 0, 1) := by decide +kernel
theorem dX7_bound_7 : decode cX7_bound 7 = .ok (.iload_n 1, 1) := by decide +kernel
theorem dX7_bound_8 : decode cX7_bound 8 = .ok (.invokevirtual 80, 3) := by decide +kernel
theorem dX7_bound_11 : decode cX7_bound 11 = .ok (.iadd, 1) := by decide +kernel
theorem dX7_bound_12 : decode cX7_bound 12 = .ok (.aload_n 0, 1) := by decide +kernel
theorem dX7_bound_13 : decode cX7_bound 13 = .ok (.getfield 7, 3) := by decide +kernel
theorem dX7_bound_16 : decode cX7_bound 16 = .ok (.sipush 1419, 3) := by decide +kernel
theorem dX7_bound_19 : decode cX7_bound 19 = .ok (.iaload, 1) := by decide +kernel
theorem dX7_bound_20 : decode cX7_bound 20 = .ok (.iadd, 1) := by decide +kernel
theorem dX7_bound_21 : decode cX7_bound 21 = .ok (.ireturn, 1) := by decide +kernel
set_option maxRecDepth 20000 in
theorem ggX7_nextOf_X7_isOpen : GoodIn wsX7_nextOf wsX7_isOpen := goodIn_ca (goodIn_r _ [6, 7, 8, 9, 5, 10, 1, 11, 12, 13, 14, 15, 16, 17, 26, 27, 28, 29, 30, 31, 32, 33, 34, 35, 36, 37, 38, 39, 40, 41] (by decide +kernel) (by decide +kernel)) (goodIn_sub (fun _ h => List.mem_cons_of_mem _ (List.mem_append_right _ h)) (by decide +kernel))
set_option maxRecDepth 20000 in
theorem gX7_nextOf_X7_isOpen : GoodIn wsX7_nextOf (wsV RX7 83 RX7 yX7_isOpen wsX7_isOpen) := goodIn_app (goodIn_of _ (by decide +kernel)) ggX7_nextOf_X7_isOpen
set_option maxRecDepth 20000 in
theorem ggX7_nextOf_X7_bound : GoodIn wsX7_nextOf wsX7_bound := goodIn_ca (goodIn_r _ [21, 1, 14, 15, 16, 5, 17, 22, 23, 24, 25, 26, 27, 28, 29, 30, 31, 32, 33, 34, 35, 36, 37, 38, 39, 40, 41] (by decide +kernel) (by decide +kernel)) (goodIn_sub (fun _ h => List.mem_cons_of_mem _ (List.mem_append_right _ h)) (by decide +kernel))
set_option maxRecDepth 20000 in
theorem gX7_nextOf_X7_bound : GoodIn wsX7_nextOf (wsV RX7 113 RX7 yX7_bound wsX7_bound) := goodIn_app (goodIn_of _ (by decide +kernel)) ggX7_nextOf_X7_bound
set_option maxRecDepth 20000 in
theorem ggX7_nextOf_X7_of : GoodIn wsX7_nextOf wsX7_of := goodIn_ca (goodIn_r _ [17, 1, 26, 27, 28, 29, 30, 31, 32, 33, 34, 35, 36, 37, 38, 39, 40, 41] (by decide +kernel) (by decide +kernel)) (goodIn_sub (fun _ h => List.mem_cons_of_mem _ (List.mem_append_right _ h)) (by decide +kernel))
set_option maxRecDepth 20000 in
theorem gX7_nextOf_X7_of : GoodIn wsX7_nextOf (wsV RX7 41 RX7 yX7_of wsX7_of) := goodIn_app (goodIn_of _ (by decide +kernel)) ggX7_nextOf_X7_of
theorem dX7_nextOf_0 : decode cX7_nextOf 0 = .ok (.iconst (-1), 1) := by decide +kernel
theorem dX7_nextOf_1 : decode cX7_nextOf 1 = .ok (.istore_n 1, 1) := by decide +kernel
theorem dX7_nextOf_2 : decode cX7_nextOf 2 = .ok (.iconst 0, 1) := by decide +kernel
theorem dX7_nextOf_3 : decode cX7_nextOf 3 = .ok (.istore_n 2, 1) := by decide +kernel
theorem dX7_nextOf_4 : decode cX7_nextOf 4 = .ok (.iload_n 2, 1) := by decide +kernel
theorem dX7_nextOf_5 : decode cX7_nextOf 5 = .ok (.aload_n 0, 1) := by decide +kernel
theorem dX7_nextOf_6 : decode cX7_nextOf 6 = .ok (.getfield 7, 3) := by decide +kernel
theorem dX7_nextOf_9 : decode cX7_nextOf 9 = .ok (.sipush 1401, 3) := by decide +kernel
theorem dX7_nextOf_12 : decode cX7_nextOf 12 = .ok (.iaload, 1) := by decide +kernel
theorem dX7_nextOf_13 : decode cX7_nextOf 13 = .ok (.if_icmp .ge 55, 3) := by decide +kernel
theorem dX7_nextOf_16 : decode cX7_nextOf 16 = .ok (.aload_n 0, 1) := by decide +kernel
theorem dX7_nextOf_17 : decode cX7_nextOf 17 = .ok (.iload_n 2, 1) := by decide +kernel
theorem dX7_nextOf_18 : decode cX7_nextOf 18 = .ok (.invokevirtual 83, 3) := by decide +kernel
theorem dX7_nextOf_21 : decode cX7_nextOf 21 = .ok (.ifCond .eq 41, 3) := by decide +kernel
theorem dX7_nextOf_24 : decode cX7_nextOf 24 = .ok (.aload_n 0, 1) := by decide +kernel
theorem dX7_nextOf_25 : decode cX7_nextOf 25 = .ok (.iload_n 2, 1) := by decide +kernel
theorem dX7_nextOf_26 : decode cX7_nextOf 26 = .ok (.invokevirtual 113, 3) := by decide +kernel
theorem dX7_nextOf_29 : decode cX7_nextOf 29 = .ok (.aload_n 0, 1) := by decide +kernel
theorem dX7_nextOf_30 : decode cX7_nextOf 30 = .ok (.getfield 7, 3) := by decide +kernel
theorem dX7_nextOf_33 : decode cX7_nextOf 33 = .ok (.sipush 1418, 3) := by decide +kernel
theorem dX7_nextOf_36 : decode cX7_nextOf 36 = .ok (.iaload, 1) := by decide +kernel
theorem dX7_nextOf_37 : decode cX7_nextOf 37 = .ok (.if_icmp .ge 25, 3) := by decide +kernel
theorem dX7_nextOf_40 : decode cX7_nextOf 40 = .ok (.iload_n 1, 1) := by decide +kernel
theorem dX7_nextOf_41 : decode cX7_nextOf 41 = .ok (.iconst (-1), 1) := by decide +kernel
theorem dX7_nextOf_42 : decode cX7_nextOf 42 = .ok (.if_icmp .eq 18, 3) := by decide +kernel
theorem dX7_nextOf_45 : decode cX7_nextOf 45 = .ok (.aload_n 0, 1) := by decide +kernel
theorem dX7_nextOf_46 : decode cX7_nextOf 46 = .ok (.iload_n 2, 1) := by decide +kernel
theorem dX7_nextOf_47 : decode cX7_nextOf 47 = .ok (.iconst 3, 1) := by decide +kernel
theorem dX7_nextOf_48 : decode cX7_nextOf 48 = .ok (.invokevirtual 41, 3) := by decide +kernel
theorem dX7_nextOf_51 : decode cX7_nextOf 51 = .ok (.aload_n 0, 1) := by decide +kernel
theorem dX7_nextOf_52 : decode cX7_nextOf 52 = .ok (.iload_n 1, 1) := by decide +kernel
theorem dX7_nextOf_53 : decode cX7_nextOf 53 = .ok (.iconst 3, 1) := by decide +kernel
theorem dX7_nextOf_54 : decode cX7_nextOf 54 = .ok (.invokevirtual 41, 3) := by decide +kernel
theorem dX7_nextOf_57 : decode cX7_nextOf 57 = .ok (.if_icmp .ge 5, 3) := by decide +kernel
theorem dX7_nextOf_60 : decode cX7_nextOf 60 = .ok (.iload_n 2, 1) := by decide +kernel
theorem dX7_nextOf_61 : decode cX7_nextOf 61 = .ok (.istore_n 1, 1) := by decide +kernel
theorem dX7_nextOf_62 : decode cX7_nextOf 62 = .ok (.iinc 2 1, 3) := by decide +kernel
theorem dX7_nextOf_65 : decode cX7_nextOf 65 = .ok (.goto (-61), 3) := by decide +kernel
theorem dX7_nextOf_68 : decode cX7_nextOf 68 = .ok (.iload_n 1, 1) := by decide +kernel
theorem dX7_nextOf_69 : decode cX7_nextOf 69 = .ok (.ireturn, 1) := by decide +kernel
set_option maxRecDepth 20000 in
theorem ggX7_advances_X7_nextOf : GoodIn wsX7_advances wsX7_nextOf := goodIn_ca (goodIn_r _ [6, 1, 7, 8, 9, 5, 10, 11, 12, 13, 14, 15, 16, 17, 18, 19, 20, 21, 22, 23, 24, 25, 26, 27, 28, 29, 55, 56, 57, 58, 59, 60, 61, 62, 63, 64, 65, 66, 67, 68, 69, 70] (by decide +kernel) (by decide +kernel)) (goodIn_sub (fun _ h => List.mem_cons_of_mem _ (List.mem_append_right _ h)) (by decide +kernel))
set_option maxRecDepth 20000 in
theorem gX7_advances_X7_nextOf : GoodIn wsX7_advances (wsV RX7 116 RX7 yX7_nextOf wsX7_nextOf) := goodIn_app (goodIn_of _ (by decide +kernel)) ggX7_advances_X7_nextOf
set_option maxRecDepth 20000 in
theorem ggX7_advances_X7_fires : GoodIn wsX7_advances wsX7_fires := goodIn_ca (goodIn_r _ [33, 18, 19, 20, 5, 21, 1, 34, 35, 36, 37, 38, 39, 40, 41, 42, 43, 44, 45, 46, 47, 48, 49, 50, 51, 52, 53, 54, 55, 56, 57, 58, 59, 60, 61, 62, 63, 64, 65, 66, 67, 68, 69, 70] (by decide +kernel) (by decide +kernel)) (goodIn_sub (fun _ h => List.mem_cons_of_mem _ (List.mem_append_right _ h)) (by decide +kernel))
set_option maxRecDepth 20000 in
theorem gX7_advances_X7_fires : GoodIn wsX7_advances (wsV RX7 103 RX7 yX7_fires wsX7_fires) := goodIn_app (goodIn_of _ (by decide +kernel)) ggX7_advances_X7_fires
set_option maxRecDepth 20000 in
theorem ggX7_advances_X7_sets : GoodIn wsX7_advances wsX7_sets := goodIn_ca (goodIn_r _ [54, 1, 55, 56, 57, 58, 59, 60, 61, 62, 63, 64, 65, 66, 67, 68, 69, 70] (by decide +kernel) (by decide +kernel)) (goodIn_sub (fun _ h => List.mem_cons_of_mem _ (List.mem_append_right _ h)) (by decide +kernel))
set_option maxRecDepth 20000 in
theorem gX7_advances_X7_sets : GoodIn wsX7_advances (wsV RX7 66 RX7 yX7_sets wsX7_sets) := goodIn_app (goodIn_of _ (by decide +kernel)) ggX7_advances_X7_sets
theorem dX7_advances_0 : decode cX7_advances 0 = .ok (.aload_n 0, 1) := by decide +kernel
theorem dX7_advances_1 : decode cX7_advances 1 = .ok (.getfield 7, 3) := by decide +kernel
theorem dX7_advances_4 : decode cX7_advances 4 = .ok (.sipush 1418, 3) := by decide +kernel
theorem dX7_advances_7 : decode cX7_advances 7 = .ok (.iload_n 1, 1) := by decide +kernel
theorem dX7_advances_8 : decode cX7_advances 8 = .ok (.iastore, 1) := by decide +kernel
theorem dX7_advances_9 : decode cX7_advances 9 = .ok (.iconst 0, 1) := by decide +kernel
theorem dX7_advances_10 : decode cX7_advances 10 = .ok (.istore_n 2, 1) := by decide +kernel
theorem dX7_advances_11 : decode cX7_advances 11 = .ok (.aload_n 0, 1) := by decide +kernel
theorem dX7_advances_12 : decode cX7_advances 12 = .ok (.invokevirtual 116, 3) := by decide +kernel
theorem dX7_advances_15 : decode cX7_advances 15 = .ok (.istore_n 3, 1) := by decide +kernel
theorem dX7_advances_16 : decode cX7_advances 16 = .ok (.iload_n 3, 1) := by decide +kernel
theorem dX7_advances_17 : decode cX7_advances 17 = .ok (.ifCond .lt 29, 3) := by decide +kernel
theorem dX7_advances_20 : decode cX7_advances 20 = .ok (.aload_n 0, 1) := by decide +kernel
theorem dX7_advances_21 : decode cX7_advances 21 = .ok (.iconst 1, 1) := by decide +kernel
theorem dX7_advances_22 : decode cX7_advances 22 = .ok (.iload_n 3, 1) := by decide +kernel
theorem dX7_advances_23 : decode cX7_advances 23 = .ok (.invokevirtual 103, 3) := by decide +kernel
theorem dX7_advances_26 : decode cX7_advances 26 = .ok (.istore 4, 2) := by decide +kernel
theorem dX7_advances_28 : decode cX7_advances 28 = .ok (.aload_n 0, 1) := by decide +kernel
theorem dX7_advances_29 : decode cX7_advances 29 = .ok (.iload_n 3, 1) := by decide +kernel
theorem dX7_advances_30 : decode cX7_advances 30 = .ok (.iconst 4, 1) := by decide +kernel
theorem dX7_advances_31 : decode cX7_advances 31 = .ok (.iconst 1, 1) := by decide +kernel
theorem dX7_advances_32 : decode cX7_advances 32 = .ok (.invokevirtual 66, 3) := by decide +kernel
theorem dX7_advances_35 : decode cX7_advances 35 = .ok (.iinc 2 1, 3) := by decide +kernel
theorem dX7_advances_38 : decode cX7_advances 38 = .ok (.aload_n 0, 1) := by decide +kernel
theorem dX7_advances_39 : decode cX7_advances 39 = .ok (.invokevirtual 116, 3) := by decide +kernel
theorem dX7_advances_42 : decode cX7_advances 42 = .ok (.istore_n 3, 1) := by decide +kernel
theorem dX7_advances_43 : decode cX7_advances 43 = .ok (.goto (-27), 3) := by decide +kernel
theorem dX7_advances_46 : decode cX7_advances 46 = .ok (.iload_n 2, 1) := by decide +kernel
theorem dX7_advances_47 : decode cX7_advances 47 = .ok (.ireturn, 1) := by decide +kernel
set_option maxRecDepth 20000 in
theorem ggX7_advance_X7_in : GoodIn wsX7_advance wsX7_in := goodIn_r _ [5] (by decide +kernel) (by decide +kernel)
set_option maxRecDepth 20000 in
theorem gX7_advance_X7_in : GoodIn wsX7_advance (va_wsS RX7 37 yX7_in wsX7_in) := goodIn_app (goodIn_of _ (by decide +kernel)) ggX7_advance_X7_in
set_option maxRecDepth 20000 in
theorem ggX7_advance_X7_advances : GoodIn wsX7_advance wsX7_advances := goodIn_ca (goodIn_r _ [9, 1, 10, 11, 12, 4, 13, 14, 15, 16, 17, 18, 19, 20, 21, 2, 3, 5, 22, 23, 24, 25, 26, 27, 28, 29, 30, 31, 32, 33, 34, 35, 36, 37, 38, 39, 40, 41, 42, 43, 44, 45, 46, 47, 48, 49, 50, 51, 52, 53, 54, 55, 56, 57, 58, 68, 69, 70, 71, 72, 73, 74, 75, 76, 77, 78, 79, 80, 81, 82, 83] (by decide +kernel) (by decide +kernel)) (goodIn_sub (fun _ h => List.mem_cons_of_mem _ (List.mem_append_right _ h)) (by decide +kernel))
set_option maxRecDepth 20000 in
theorem gX7_advance_X7_advances : GoodIn wsX7_advance (wsV RX7 120 RX7 yX7_advances wsX7_advances) := goodIn_app (goodIn_of _ (by decide +kernel)) ggX7_advance_X7_advances
set_option maxRecDepth 20000 in
theorem ggX7_advance_X7_done : GoodIn wsX7_advance wsX7_done := goodIn_r _ [62, 63, 68, 69, 70, 71, 72, 73, 74, 75, 76, 77, 78, 79, 80, 81, 82, 83] (by decide +kernel) (by decide +kernel)
set_option maxRecDepth 20000 in
theorem gX7_advance_X7_done : GoodIn wsX7_advance (wsV RX7 49 RX7 yX7_done wsX7_done) := goodIn_app (goodIn_of _ (by decide +kernel)) ggX7_advance_X7_done
set_option maxRecDepth 20000 in
theorem ggX7_advance_X7_fails : GoodIn wsX7_advance wsX7_fails := goodIn_r _ [67, 63, 68, 69, 70, 71, 72, 73, 74, 75, 76, 77, 78, 79, 80, 81, 82, 83] (by decide +kernel) (by decide +kernel)
set_option maxRecDepth 20000 in
theorem gX7_advance_X7_fails : GoodIn wsX7_advance (wsV RX7 56 RX7 yX7_fails wsX7_fails) := goodIn_app (goodIn_of _ (by decide +kernel)) ggX7_advance_X7_fails
theorem dX7_advance_0 : decode cX7_advance 0 = .ok (.iload_n 1, 1) := by decide +kernel
theorem dX7_advance_1 : decode cX7_advance 1 = .ok (.aload_n 0, 1) := by decide +kernel
theorem dX7_advance_2 : decode cX7_advance 2 = .ok (.getfield 7, 3) := by decide +kernel
theorem dX7_advance_5 : decode cX7_advance 5 = .ok (.sipush 1418, 3) := by decide +kernel
theorem dX7_advance_8 : decode cX7_advance 8 = .ok (.iaload, 1) := by decide +kernel
theorem dX7_advance_9 : decode cX7_advance 9 = .ok (.sipush 20000, 3) := by decide +kernel
theorem dX7_advance_12 : decode cX7_advance 12 = .ok (.invokestatic 37, 3) := by decide +kernel
theorem dX7_advance_15 : decode cX7_advance 15 = .ok (.ifCond .eq 15, 3) := by decide +kernel
theorem dX7_advance_18 : decode cX7_advance 18 = .ok (.aload_n 0, 1) := by decide +kernel
theorem dX7_advance_19 : decode cX7_advance 19 = .ok (.aload_n 0, 1) := by decide +kernel
theorem dX7_advance_20 : decode cX7_advance 20 = .ok (.iload_n 1, 1) := by decide +kernel
theorem dX7_advance_21 : decode cX7_advance 21 = .ok (.invokevirtual 120, 3) := by decide +kernel
theorem dX7_advance_24 : decode cX7_advance 24 = .ok (.invokevirtual 49, 3) := by decide +kernel
theorem dX7_advance_27 : decode cX7_advance 27 = .ok (.goto 8, 3) := by decide +kernel
theorem dX7_advance_30 : decode cX7_advance 30 = .ok (.aload_n 0, 1) := by decide +kernel
theorem dX7_advance_31 : decode cX7_advance 31 = .ok (.iconst 1, 1) := by decide +kernel
theorem dX7_advance_32 : decode cX7_advance 32 = .ok (.invokevirtual 56, 3) := by decide +kernel
theorem dX7_advance_35 : decode cX7_advance 35 = .ok (.ireturn, 1) := by decide +kernel
set_option maxRecDepth 20000 in
theorem ggX7_watermark_X7_done : GoodIn wsX7_watermark wsX7_done := goodIn_r _ [6, 7, 8, 9, 10, 11, 12, 13, 14, 15, 16, 17, 18, 19, 20, 21, 22, 23] (by decide +kernel) (by decide +kernel)
set_option maxRecDepth 20000 in
theorem gX7_watermark_X7_done : GoodIn wsX7_watermark (wsV RX7 49 RX7 yX7_done wsX7_done) := goodIn_app (goodIn_of _ (by decide +kernel)) ggX7_watermark_X7_done
theorem dX7_watermark_0 : decode cX7_watermark 0 = .ok (.aload_n 0, 1) := by decide +kernel
theorem dX7_watermark_1 : decode cX7_watermark 1 = .ok (.aload_n 0, 1) := by decide +kernel
theorem dX7_watermark_2 : decode cX7_watermark 2 = .ok (.getfield 7, 3) := by decide +kernel
theorem dX7_watermark_5 : decode cX7_watermark 5 = .ok (.sipush 1418, 3) := by decide +kernel
theorem dX7_watermark_8 : decode cX7_watermark 8 = .ok (.iaload, 1) := by decide +kernel
theorem dX7_watermark_9 : decode cX7_watermark 9 = .ok (.invokevirtual 49, 3) := by decide +kernel
theorem dX7_watermark_12 : decode cX7_watermark 12 = .ok (.ireturn, 1) := by decide +kernel
set_option maxRecDepth 20000 in
theorem ggX7_lateCount_X7_done : GoodIn wsX7_lateCount wsX7_done := goodIn_r _ [6, 7, 8, 9, 10, 11, 12, 13, 14, 15, 16, 17, 18, 19, 20, 21, 22, 23] (by decide +kernel) (by decide +kernel)
set_option maxRecDepth 20000 in
theorem gX7_lateCount_X7_done : GoodIn wsX7_lateCount (wsV RX7 49 RX7 yX7_done wsX7_done) := goodIn_app (goodIn_of _ (by decide +kernel)) ggX7_lateCount_X7_done
theorem dX7_lateCount_0 : decode cX7_lateCount 0 = .ok (.aload_n 0, 1) := by decide +kernel
theorem dX7_lateCount_1 : decode cX7_lateCount 1 = .ok (.aload_n 0, 1) := by decide +kernel
theorem dX7_lateCount_2 : decode cX7_lateCount 2 = .ok (.getfield 7, 3) := by decide +kernel
theorem dX7_lateCount_5 : decode cX7_lateCount 5 = .ok (.sipush 1421, 3) := by decide +kernel
theorem dX7_lateCount_8 : decode cX7_lateCount 8 = .ok (.iaload, 1) := by decide +kernel
theorem dX7_lateCount_9 : decode cX7_lateCount 9 = .ok (.invokevirtual 49, 3) := by decide +kernel
theorem dX7_lateCount_12 : decode cX7_lateCount 12 = .ok (.ireturn, 1) := by decide +kernel
set_option maxRecDepth 20000 in
theorem ggX7_isLate_X7_isLateNow : GoodIn wsX7_isLate wsX7_isLateNow := goodIn_ca (goodIn_r _ [6, 7, 8, 9, 10, 11, 12, 13, 14, 15, 16, 17, 18, 19, 20, 21, 22, 23] (by decide +kernel) (by decide +kernel)) (goodIn_sub (fun _ h => List.mem_cons_of_mem _ (List.mem_append_right _ h)) (by decide +kernel))
set_option maxRecDepth 20000 in
theorem gX7_isLate_X7_isLateNow : GoodIn wsX7_isLate (wsV RX7 94 RX7 yX7_isLateNow wsX7_isLateNow) := goodIn_app (goodIn_of _ (by decide +kernel)) ggX7_isLate_X7_isLateNow
theorem dX7_isLate_0 : decode cX7_isLate 0 = .ok (.aload_n 0, 1) := by decide +kernel
theorem dX7_isLate_1 : decode cX7_isLate 1 = .ok (.iconst 0, 1) := by decide +kernel
theorem dX7_isLate_2 : decode cX7_isLate 2 = .ok (.putfield 34, 3) := by decide +kernel
theorem dX7_isLate_5 : decode cX7_isLate 5 = .ok (.aload_n 0, 1) := by decide +kernel
theorem dX7_isLate_6 : decode cX7_isLate 6 = .ok (.iload_n 1, 1) := by decide +kernel
theorem dX7_isLate_7 : decode cX7_isLate 7 = .ok (.invokevirtual 94, 3) := by decide +kernel
theorem dX7_isLate_10 : decode cX7_isLate 10 = .ok (.ireturn, 1) := by decide +kernel
set_option maxRecDepth 20000 in
theorem ggX7_recordCount_X7_done : GoodIn wsX7_recordCount wsX7_done := goodIn_r _ [6, 7, 8, 9, 10, 11, 12, 13, 14, 15, 16, 17, 18, 19, 20, 21, 22, 23] (by decide +kernel) (by decide +kernel)
set_option maxRecDepth 20000 in
theorem gX7_recordCount_X7_done : GoodIn wsX7_recordCount (wsV RX7 49 RX7 yX7_done wsX7_done) := goodIn_app (goodIn_of _ (by decide +kernel)) ggX7_recordCount_X7_done
theorem dX7_recordCount_0 : decode cX7_recordCount 0 = .ok (.aload_n 0, 1) := by decide +kernel
theorem dX7_recordCount_1 : decode cX7_recordCount 1 = .ok (.aload_n 0, 1) := by decide +kernel
theorem dX7_recordCount_2 : decode cX7_recordCount 2 = .ok (.getfield 7, 3) := by decide +kernel
theorem dX7_recordCount_5 : decode cX7_recordCount 5 = .ok (.sipush 400, 3) := by decide +kernel
theorem dX7_recordCount_8 : decode cX7_recordCount 8 = .ok (.iaload, 1) := by decide +kernel
theorem dX7_recordCount_9 : decode cX7_recordCount 9 = .ok (.invokevirtual 49, 3) := by decide +kernel
theorem dX7_recordCount_12 : decode cX7_recordCount 12 = .ok (.ireturn, 1) := by decide +kernel
set_option maxRecDepth 20000 in
theorem ggX7_burstCount_X7_of : GoodIn wsX7_burstCount wsX7_of := goodIn_ca (goodIn_r _ [6, 1, 12, 13, 14, 15, 16, 17, 18, 19, 20, 21, 22, 23, 24, 25, 26, 27] (by decide +kernel) (by decide +kernel)) (goodIn_sub (fun _ h => List.mem_cons_of_mem _ (List.mem_append_right _ h)) (by decide +kernel))
set_option maxRecDepth 20000 in
theorem gX7_burstCount_X7_of : GoodIn wsX7_burstCount (wsV RX7 41 RX7 yX7_of wsX7_of) := goodIn_app (goodIn_of _ (by decide +kernel)) ggX7_burstCount_X7_of
set_option maxRecDepth 20000 in
theorem ggX7_burstCount_X7_done : GoodIn wsX7_burstCount wsX7_done := goodIn_r _ [10, 11, 12, 13, 14, 15, 16, 17, 18, 19, 20, 21, 22, 23, 24, 25, 26, 27] (by decide +kernel) (by decide +kernel)
set_option maxRecDepth 20000 in
theorem gX7_burstCount_X7_done : GoodIn wsX7_burstCount (wsV RX7 49 RX7 yX7_done wsX7_done) := goodIn_app (goodIn_of _ (by decide +kernel)) ggX7_burstCount_X7_done
theorem dX7_burstCount_0 : decode cX7_burstCount 0 = .ok (.iconst 0, 1) := by decide +kernel
theorem dX7_burstCount_1 : decode cX7_burstCount 1 = .ok (.istore_n 1, 1) := by decide +kernel
theorem dX7_burstCount_2 : decode cX7_burstCount 2 = .ok (.iconst 0, 1) := by decide +kernel
theorem dX7_burstCount_3 : decode cX7_burstCount 3 = .ok (.istore_n 2, 1) := by decide +kernel
theorem dX7_burstCount_4 : decode cX7_burstCount 4 = .ok (.iload_n 2, 1) := by decide +kernel
theorem dX7_burstCount_5 : decode cX7_burstCount 5 = .ok (.aload_n 0, 1) := by decide +kernel
theorem dX7_burstCount_6 : decode cX7_burstCount 6 = .ok (.getfield 7, 3) := by decide +kernel
theorem dX7_burstCount_9 : decode cX7_burstCount 9 = .ok (.sipush 1401, 3) := by decide +kernel
theorem dX7_burstCount_12 : decode cX7_burstCount 12 = .ok (.iaload, 1) := by decide +kernel
theorem dX7_burstCount_13 : decode cX7_burstCount 13 = .ok (.if_icmp .ge 18, 3) := by decide +kernel
theorem dX7_burstCount_16 : decode cX7_burstCount 16 = .ok (.iload_n 1, 1) := by decide +kernel
theorem dX7_burstCount_17 : decode cX7_burstCount 17 = .ok (.aload_n 0, 1) := by decide +kernel
theorem dX7_burstCount_18 : decode cX7_burstCount 18 = .ok (.iload_n 2, 1) := by decide +kernel
theorem dX7_burstCount_19 : decode cX7_burstCount 19 = .ok (.iconst 0, 1) := by decide +kernel
theorem dX7_burstCount_20 : decode cX7_burstCount 20 = .ok (.invokevirtual 41, 3) := by decide +kernel
theorem dX7_burstCount_23 : decode cX7_burstCount 23 = .ok (.iadd, 1) := by decide +kernel
theorem dX7_burstCount_24 : decode cX7_burstCount 24 = .ok (.istore_n 1, 1) := by decide +kernel
theorem dX7_burstCount_25 : decode cX7_burstCount 25 = .ok (.iinc 2 1, 3) := by decide +kernel
theorem dX7_burstCount_28 : decode cX7_burstCount 28 = .ok (.goto (-24), 3) := by decide +kernel
theorem dX7_burstCount_31 : decode cX7_burstCount 31 = .ok (.aload_n 0, 1) := by decide +kernel
theorem dX7_burstCount_32 : decode cX7_burstCount 32 = .ok (.iload_n 1, 1) := by decide +kernel
theorem dX7_burstCount_33 : decode cX7_burstCount 33 = .ok (.invokevirtual 49, 3) := by decide +kernel
theorem dX7_burstCount_36 : decode cX7_burstCount 36 = .ok (.ireturn, 1) := by decide +kernel
set_option maxRecDepth 20000 in
theorem ggX7_openCount_X7_isOpen : GoodIn wsX7_openCount wsX7_isOpen := goodIn_ca (goodIn_r _ [6, 7, 8, 9, 5, 10, 1, 11, 12, 13, 14, 15, 16, 17, 23, 24, 25, 26, 27, 28, 29, 30, 31, 32, 33, 34, 35, 36, 37, 38] (by decide +kernel) (by decide +kernel)) (goodIn_sub (fun _ h => List.mem_cons_of_mem _ (List.mem_append_right _ h)) (by decide +kernel))
set_option maxRecDepth 20000 in
theorem gX7_openCount_X7_isOpen : GoodIn wsX7_openCount (wsV RX7 83 RX7 yX7_isOpen wsX7_isOpen) := goodIn_app (goodIn_of _ (by decide +kernel)) ggX7_openCount_X7_isOpen
set_option maxRecDepth 20000 in
theorem ggX7_openCount_X7_done : GoodIn wsX7_openCount wsX7_done := goodIn_r _ [21, 22, 23, 24, 25, 26, 27, 28, 29, 30, 31, 32, 33, 34, 35, 36, 37, 38] (by decide +kernel) (by decide +kernel)
set_option maxRecDepth 20000 in
theorem gX7_openCount_X7_done : GoodIn wsX7_openCount (wsV RX7 49 RX7 yX7_done wsX7_done) := goodIn_app (goodIn_of _ (by decide +kernel)) ggX7_openCount_X7_done
theorem dX7_openCount_0 : decode cX7_openCount 0 = .ok (.iconst 0, 1) := by decide +kernel
theorem dX7_openCount_1 : decode cX7_openCount 1 = .ok (.istore_n 1, 1) := by decide +kernel
theorem dX7_openCount_2 : decode cX7_openCount 2 = .ok (.iconst 0, 1) := by decide +kernel
theorem dX7_openCount_3 : decode cX7_openCount 3 = .ok (.istore_n 2, 1) := by decide +kernel
theorem dX7_openCount_4 : decode cX7_openCount 4 = .ok (.iload_n 2, 1) := by decide +kernel
theorem dX7_openCount_5 : decode cX7_openCount 5 = .ok (.aload_n 0, 1) := by decide +kernel
theorem dX7_openCount_6 : decode cX7_openCount 6 = .ok (.getfield 7, 3) := by decide +kernel
theorem dX7_openCount_9 : decode cX7_openCount 9 = .ok (.sipush 1401, 3) := by decide +kernel
theorem dX7_openCount_12 : decode cX7_openCount 12 = .ok (.iaload, 1) := by decide +kernel
theorem dX7_openCount_13 : decode cX7_openCount 13 = .ok (.if_icmp .ge 25, 3) := by decide +kernel
theorem dX7_openCount_16 : decode cX7_openCount 16 = .ok (.iload_n 1, 1) := by decide +kernel
theorem dX7_openCount_17 : decode cX7_openCount 17 = .ok (.aload_n 0, 1) := by decide +kernel
theorem dX7_openCount_18 : decode cX7_openCount 18 = .ok (.iload_n 2, 1) := by decide +kernel
theorem dX7_openCount_19 : decode cX7_openCount 19 = .ok (.invokevirtual 83, 3) := by decide +kernel
theorem dX7_openCount_22 : decode cX7_openCount 22 = .ok (.ifCond .eq 7, 3) := by decide +kernel
theorem dX7_openCount_25 : decode cX7_openCount 25 = .ok (.iconst 1, 1) := by decide +kernel
theorem dX7_openCount_26 : decode cX7_openCount 26 = .ok (.goto 4, 3) := by decide +kernel
theorem dX7_openCount_29 : decode cX7_openCount 29 = .ok (.iconst 0, 1) := by decide +kernel
theorem dX7_openCount_30 : decode cX7_openCount 30 = .ok (.iadd, 1) := by decide +kernel
theorem dX7_openCount_31 : decode cX7_openCount 31 = .ok (.istore_n 1, 1) := by decide +kernel
theorem dX7_openCount_32 : decode cX7_openCount 32 = .ok (.iinc 2 1, 3) := by decide +kernel
theorem dX7_openCount_35 : decode cX7_openCount 35 = .ok (.goto (-31), 3) := by decide +kernel
theorem dX7_openCount_38 : decode cX7_openCount 38 = .ok (.aload_n 0, 1) := by decide +kernel
theorem dX7_openCount_39 : decode cX7_openCount 39 = .ok (.iload_n 1, 1) := by decide +kernel
theorem dX7_openCount_40 : decode cX7_openCount 40 = .ok (.invokevirtual 49, 3) := by decide +kernel
theorem dX7_openCount_43 : decode cX7_openCount 43 = .ok (.ireturn, 1) := by decide +kernel
set_option maxRecDepth 20000 in
theorem ggX7_burst_X7_isBurst : GoodIn wsX7_burst wsX7_isBurst := goodIn_ca (goodIn_r _ [5, 6, 7, 8, 4, 9, 10, 11, 12, 13, 31, 32, 33, 34, 35, 36, 37, 38, 39, 40, 41, 42, 43, 44, 45, 46] (by decide +kernel) (by decide +kernel)) (goodIn_sub (fun _ h => List.mem_cons_of_mem _ (List.mem_append_right _ h)) (by decide +kernel))
set_option maxRecDepth 20000 in
theorem gX7_burst_X7_isBurst : GoodIn wsX7_burst (wsV RX7 45 RX7 yX7_isBurst wsX7_isBurst) := goodIn_app (goodIn_of _ (by decide +kernel)) ggX7_burst_X7_isBurst
set_option maxRecDepth 20000 in
theorem ggX7_burst_X7_fails : GoodIn wsX7_burst wsX7_fails := goodIn_r _ [17, 18, 31, 32, 33, 34, 35, 36, 37, 38, 39, 40, 41, 42, 43, 44, 45, 46] (by decide +kernel) (by decide +kernel)
set_option maxRecDepth 20000 in
theorem gX7_burst_X7_fails : GoodIn wsX7_burst (wsV RX7 56 RX7 yX7_fails wsX7_fails) := goodIn_app (goodIn_of _ (by decide +kernel)) ggX7_burst_X7_fails
set_option maxRecDepth 20000 in
theorem ggX7_burst_X7_of : GoodIn wsX7_burst wsX7_of := goodIn_ca (goodIn_r _ [13, 6, 31, 32, 33, 34, 35, 36, 37, 38, 39, 40, 41, 42, 43, 44, 45, 46] (by decide +kernel) (by decide +kernel)) (goodIn_sub (fun _ h => List.mem_cons_of_mem _ (List.mem_append_right _ h)) (by decide +kernel))
set_option maxRecDepth 20000 in
theorem gX7_burst_X7_of : GoodIn wsX7_burst (wsV RX7 41 RX7 yX7_of wsX7_of) := goodIn_app (goodIn_of _ (by decide +kernel)) ggX7_burst_X7_of
set_option maxRecDepth 20000 in
theorem ggX7_burst_X7_done : GoodIn wsX7_burst wsX7_done := goodIn_r _ [22, 18, 31, 32, 33, 34, 35, 36, 37, 38, 39, 40, 41, 42, 43, 44, 45, 46] (by decide +kernel) (by decide +kernel)
set_option maxRecDepth 20000 in
theorem gX7_burst_X7_done : GoodIn wsX7_burst (wsV RX7 49 RX7 yX7_done wsX7_done) := goodIn_app (goodIn_of _ (by decide +kernel)) ggX7_burst_X7_done
set_option maxRecDepth 20000 in
theorem ggX7_burst_X7_many : GoodIn wsX7_burst wsX7_many := goodIn_ca (goodIn_r _ [26, 6, 31, 32, 33, 34, 35, 36, 37, 38, 39, 40, 41, 42, 43, 44, 45, 46] (by decide +kernel) (by decide +kernel)) (goodIn_sub (fun _ h => List.mem_cons_of_mem _ (List.mem_append_right _ h)) (by decide +kernel))
set_option maxRecDepth 20000 in
theorem gX7_burst_X7_many : GoodIn wsX7_burst (wsV RX7 100 RX7 yX7_many wsX7_many) := goodIn_app (goodIn_of _ (by decide +kernel)) ggX7_burst_X7_many
set_option maxRecDepth 20000 in
theorem ggX7_burst_X7_resultOf : GoodIn wsX7_burst wsX7_resultOf := goodIn_ca (goodIn_r _ [30, 6, 10, 11, 12, 4, 13, 31, 32, 33, 34, 35, 36, 37, 38, 39, 40, 41, 42, 43, 44, 45, 46] (by decide +kernel) (by decide +kernel)) (goodIn_sub (fun _ h => List.mem_cons_of_mem _ (List.mem_append_right _ h)) (by decide +kernel))
set_option maxRecDepth 20000 in
theorem gX7_burst_X7_resultOf : GoodIn wsX7_burst (wsV RX7 70 RX7 yX7_resultOf wsX7_resultOf) := goodIn_app (goodIn_of _ (by decide +kernel)) ggX7_burst_X7_resultOf
theorem dX7_burst_0 : decode cX7_burst 0 = .ok (.aload_n 0, 1) := by decide +kernel
theorem dX7_burst_1 : decode cX7_burst 1 = .ok (.iload_n 1, 1) := by decide +kernel
theorem dX7_burst_2 : decode cX7_burst 2 = .ok (.invokevirtual 45, 3) := by decide +kernel
theorem dX7_burst_5 : decode cX7_burst 5 = .ok (.ifCond .ne 9, 3) := by decide +kernel
theorem dX7_burst_8 : decode cX7_burst 8 = .ok (.aload_n 0, 1) := by decide +kernel
theorem dX7_burst_9 : decode cX7_burst 9 = .ok (.iconst 1, 1) := by decide +kernel
theorem dX7_burst_10 : decode cX7_burst 10 = .ok (.invokevirtual 56, 3) := by decide +kernel
theorem dX7_burst_13 : decode cX7_burst 13 = .ok (.ireturn, 1) := by decide +kernel
theorem dX7_burst_14 : decode cX7_burst 14 = .ok (.iload_n 2, 1) := by decide +kernel
theorem dX7_burst_15 : decode cX7_burst 15 = .ok (.tableswitch 102 0 5 #[37, 48, 59, 70, 80, 90], 37) := by decide +kernel
theorem dX7_burst_52 : decode cX7_burst 52 = .ok (.aload_n 0, 1) := by decide +kernel
theorem dX7_burst_53 : decode cX7_burst 53 = .ok (.aload_n 0, 1) := by decide +kernel
theorem dX7_burst_54 : decode cX7_burst 54 = .ok (.iload_n 1, 1) := by decide +kernel
theorem dX7_burst_55 : decode cX7_burst 55 = .ok (.iconst 1, 1) := by decide +kernel
theorem dX7_burst_56 : decode cX7_burst 56 = .ok (.invokevirtual 41, 3) := by decide +kernel
theorem dX7_burst_59 : decode cX7_burst 59 = .ok (.invokevirtual 49, 3) := by decide +kernel
theorem dX7_burst_62 : decode cX7_burst 62 = .ok (.ireturn, 1) := by decide +kernel
theorem dX7_burst_63 : decode cX7_burst 63 = .ok (.aload_n 0, 1) := by decide +kernel
theorem dX7_burst_64 : decode cX7_burst 64 = .ok (.aload_n 0, 1) := by decide +kernel
theorem dX7_burst_65 : decode cX7_burst 65 = .ok (.iload_n 1, 1) := by decide +kernel
theorem dX7_burst_66 : decode cX7_burst 66 = .ok (.iconst 2, 1) := by decide +kernel
theorem dX7_burst_67 : decode cX7_burst 67 = .ok (.invokevirtual 41, 3) := by decide +kernel
theorem dX7_burst_70 : decode cX7_burst 70 = .ok (.invokevirtual 49, 3) := by decide +kernel
theorem dX7_burst_73 : decode cX7_burst 73 = .ok (.ireturn, 1) := by decide +kernel
theorem dX7_burst_74 : decode cX7_burst 74 = .ok (.aload_n 0, 1) := by decide +kernel
theorem dX7_burst_75 : decode cX7_burst 75 = .ok (.aload_n 0, 1) := by decide +kernel
theorem dX7_burst_76 : decode cX7_burst 76 = .ok (.iload_n 1, 1) := by decide +kernel
theorem dX7_burst_77 : decode cX7_burst 77 = .ok (.iconst 3, 1) := by decide +kernel
theorem dX7_burst_78 : decode cX7_burst 78 = .ok (.invokevirtual 41, 3) := by decide +kernel
theorem dX7_burst_81 : decode cX7_burst 81 = .ok (.invokevirtual 49, 3) := by decide +kernel
theorem dX7_burst_84 : decode cX7_burst 84 = .ok (.ireturn, 1) := by decide +kernel
theorem dX7_burst_85 : decode cX7_burst 85 = .ok (.aload_n 0, 1) := by decide +kernel
theorem dX7_burst_86 : decode cX7_burst 86 = .ok (.aload_n 0, 1) := by decide +kernel
theorem dX7_burst_87 : decode cX7_burst 87 = .ok (.iload_n 1, 1) := by decide +kernel
theorem dX7_burst_88 : decode cX7_burst 88 = .ok (.invokevirtual 100, 3) := by decide +kernel
theorem dX7_burst_91 : decode cX7_burst 91 = .ok (.invokevirtual 49, 3) := by decide +kernel
theorem dX7_burst_94 : decode cX7_burst 94 = .ok (.ireturn, 1) := by decide +kernel
theorem dX7_burst_95 : decode cX7_burst 95 = .ok (.aload_n 0, 1) := by decide +kernel
theorem dX7_burst_96 : decode cX7_burst 96 = .ok (.aload_n 0, 1) := by decide +kernel
theorem dX7_burst_97 : decode cX7_burst 97 = .ok (.iload_n 1, 1) := by decide +kernel
theorem dX7_burst_98 : decode cX7_burst 98 = .ok (.invokevirtual 70, 3) := by decide +kernel
theorem dX7_burst_101 : decode cX7_burst 101 = .ok (.invokevirtual 49, 3) := by decide +kernel
theorem dX7_burst_104 : decode cX7_burst 104 = .ok (.ireturn, 1) := by decide +kernel
theorem dX7_burst_105 : decode cX7_burst 105 = .ok (.aload_n 0, 1) := by decide +kernel
theorem dX7_burst_106 : decode cX7_burst 106 = .ok (.aload_n 0, 1) := by decide +kernel
theorem dX7_burst_107 : decode cX7_burst 107 = .ok (.iload_n 1, 1) := by decide +kernel
theorem dX7_burst_108 : decode cX7_burst 108 = .ok (.bipush 9, 2) := by decide +kernel
theorem dX7_burst_110 : decode cX7_burst 110 = .ok (.invokevirtual 41, 3) := by decide +kernel
theorem dX7_burst_113 : decode cX7_burst 113 = .ok (.invokevirtual 49, 3) := by decide +kernel
theorem dX7_burst_116 : decode cX7_burst 116 = .ok (.ireturn, 1) := by decide +kernel
theorem dX7_burst_117 : decode cX7_burst 117 = .ok (.aload_n 0, 1) := by decide +kernel
theorem dX7_burst_118 : decode cX7_burst 118 = .ok (.iconst 2, 1) := by decide +kernel
theorem dX7_burst_119 : decode cX7_burst 119 = .ok (.invokevirtual 56, 3) := by decide +kernel
theorem dX7_burst_122 : decode cX7_burst 122 = .ok (.ireturn, 1) := by decide +kernel
set_option maxRecDepth 20000 in
theorem ggX7_isClosed_X7_isBurst : GoodIn wsX7_isClosed wsX7_isBurst := goodIn_ca (goodIn_r _ [6, 7, 8, 9, 5, 10, 11, 12, 13, 14, 15, 16, 17, 18, 19, 20, 21, 22, 23, 24, 25, 26, 27, 28, 29, 30] (by decide +kernel) (by decide +kernel)) (goodIn_sub (fun _ h => List.mem_cons_of_mem _ (List.mem_append_right _ h)) (by decide +kernel))
set_option maxRecDepth 20000 in
theorem gX7_isClosed_X7_isBurst : GoodIn wsX7_isClosed (wsV RX7 45 RX7 yX7_isBurst wsX7_isBurst) := goodIn_app (goodIn_of _ (by decide +kernel)) ggX7_isClosed_X7_isBurst
set_option maxRecDepth 20000 in
theorem ggX7_isClosed_X7_of : GoodIn wsX7_isClosed wsX7_of := goodIn_ca (goodIn_r _ [14, 7, 15, 16, 17, 18, 19, 20, 21, 22, 23, 24, 25, 26, 27, 28, 29, 30] (by decide +kernel) (by decide +kernel)) (goodIn_sub (fun _ h => List.mem_cons_of_mem _ (List.mem_append_right _ h)) (by decide +kernel))
set_option maxRecDepth 20000 in
theorem gX7_isClosed_X7_of : GoodIn wsX7_isClosed (wsV RX7 41 RX7 yX7_of wsX7_of) := goodIn_app (goodIn_of _ (by decide +kernel)) ggX7_isClosed_X7_of
theorem dX7_isClosed_0 : decode cX7_isClosed 0 = .ok (.aload_n 0, 1) := by decide +kernel
theorem dX7_isClosed_1 : decode cX7_isClosed 1 = .ok (.aload_n 0, 1) := by decide +kernel
theorem dX7_isClosed_2 : decode cX7_isClosed 2 = .ok (.iload_n 1, 1) := by decide +kernel
theorem dX7_isClosed_3 : decode cX7_isClosed 3 = .ok (.invokevirtual 45, 3) := by decide +kernel
theorem dX7_isClosed_6 : decode cX7_isClosed 6 = .ok (.ifCond .eq 7, 3) := by decide +kernel
theorem dX7_isClosed_9 : decode cX7_isClosed 9 = .ok (.iconst 0, 1) := by decide +kernel
theorem dX7_isClosed_10 : decode cX7_isClosed 10 = .ok (.goto 4, 3) := by decide +kernel
theorem dX7_isClosed_13 : decode cX7_isClosed 13 = .ok (.iconst 1, 1) := by decide +kernel
theorem dX7_isClosed_14 : decode cX7_isClosed 14 = .ok (.putfield 34, 3) := by decide +kernel
theorem dX7_isClosed_17 : decode cX7_isClosed 17 = .ok (.aload_n 0, 1) := by decide +kernel
theorem dX7_isClosed_18 : decode cX7_isClosed 18 = .ok (.getfield 34, 3) := by decide +kernel
theorem dX7_isClosed_21 : decode cX7_isClosed 21 = .ok (.ifCond .ne 17, 3) := by decide +kernel
theorem dX7_isClosed_24 : decode cX7_isClosed 24 = .ok (.aload_n 0, 1) := by decide +kernel
theorem dX7_isClosed_25 : decode cX7_isClosed 25 = .ok (.iload_n 1, 1) := by decide +kernel
theorem dX7_isClosed_26 : decode cX7_isClosed 26 = .ok (.iconst 4, 1) := by decide +kernel
theorem dX7_isClosed_27 : decode cX7_isClosed 27 = .ok (.invokevirtual 41, 3) := by decide +kernel
theorem dX7_isClosed_30 : decode cX7_isClosed 30 = .ok (.iconst 1, 1) := by decide +kernel
theorem dX7_isClosed_31 : decode cX7_isClosed 31 = .ok (.if_icmp .ne 7, 3) := by decide +kernel
theorem dX7_isClosed_34 : decode cX7_isClosed 34 = .ok (.iconst 1, 1) := by decide +kernel
theorem dX7_isClosed_35 : decode cX7_isClosed 35 = .ok (.goto 4, 3) := by decide +kernel
theorem dX7_isClosed_38 : decode cX7_isClosed 38 = .ok (.iconst 0, 1) := by decide +kernel
theorem dX7_isClosed_39 : decode cX7_isClosed 39 = .ok (.ireturn, 1) := by decide +kernel
set_option maxRecDepth 20000 in
theorem ggX7_isDirty_X7_isBurst : GoodIn wsX7_isDirty wsX7_isBurst := goodIn_ca (goodIn_r _ [6, 7, 8, 9, 5, 10, 11, 12, 13, 14, 23, 24, 25, 26, 27, 28, 29, 30, 31, 32, 33, 34, 35, 36, 37, 38] (by decide +kernel) (by decide +kernel)) (goodIn_sub (fun _ h => List.mem_cons_of_mem _ (List.mem_append_right _ h)) (by decide +kernel))
set_option maxRecDepth 20000 in
theorem gX7_isDirty_X7_isBurst : GoodIn wsX7_isDirty (wsV RX7 45 RX7 yX7_isBurst wsX7_isBurst) := goodIn_app (goodIn_of _ (by decide +kernel)) ggX7_isDirty_X7_isBurst
set_option maxRecDepth 20000 in
theorem ggX7_isDirty_X7_of : GoodIn wsX7_isDirty wsX7_of := goodIn_ca (goodIn_r _ [14, 7, 23, 24, 25, 26, 27, 28, 29, 30, 31, 32, 33, 34, 35, 36, 37, 38] (by decide +kernel) (by decide +kernel)) (goodIn_sub (fun _ h => List.mem_cons_of_mem _ (List.mem_append_right _ h)) (by decide +kernel))
set_option maxRecDepth 20000 in
theorem gX7_isDirty_X7_of : GoodIn wsX7_isDirty (wsV RX7 41 RX7 yX7_of wsX7_of) := goodIn_app (goodIn_of _ (by decide +kernel)) ggX7_isDirty_X7_of
set_option maxRecDepth 20000 in
theorem ggX7_isDirty_X7_isOther : GoodIn wsX7_isDirty wsX7_isOther := goodIn_ca (goodIn_r _ [18, 11, 12, 13, 5, 14, 7, 19, 20, 21, 22, 23, 24, 25, 26, 27, 28, 29, 30, 31, 32, 33, 34, 35, 36, 37, 38] (by decide +kernel) (by decide +kernel)) (goodIn_sub (fun _ h => List.mem_cons_of_mem _ (List.mem_append_right _ h)) (by decide +kernel))
set_option maxRecDepth 20000 in
theorem gX7_isDirty_X7_isOther : GoodIn wsX7_isDirty (wsV RX7 73 RX7 yX7_isOther wsX7_isOther) := goodIn_app (goodIn_of _ (by decide +kernel)) ggX7_isDirty_X7_isOther
theorem dX7_isDirty_0 : decode cX7_isDirty 0 = .ok (.aload_n 0, 1) := by decide +kernel
theorem dX7_isDirty_1 : decode cX7_isDirty 1 = .ok (.aload_n 0, 1) := by decide +kernel
theorem dX7_isDirty_2 : decode cX7_isDirty 2 = .ok (.iload_n 1, 1) := by decide +kernel
theorem dX7_isDirty_3 : decode cX7_isDirty 3 = .ok (.invokevirtual 45, 3) := by decide +kernel
theorem dX7_isDirty_6 : decode cX7_isDirty 6 = .ok (.ifCond .eq 7, 3) := by decide +kernel
theorem dX7_isDirty_9 : decode cX7_isDirty 9 = .ok (.iconst 0, 1) := by decide +kernel
theorem dX7_isDirty_10 : decode cX7_isDirty 10 = .ok (.goto 4, 3) := by decide +kernel
theorem dX7_isDirty_13 : decode cX7_isDirty 13 = .ok (.iconst 1, 1) := by decide +kernel
theorem dX7_isDirty_14 : decode cX7_isDirty 14 = .ok (.putfield 34, 3) := by decide +kernel
theorem dX7_isDirty_17 : decode cX7_isDirty 17 = .ok (.aload_n 0, 1) := by decide +kernel
theorem dX7_isDirty_18 : decode cX7_isDirty 18 = .ok (.getfield 34, 3) := by decide +kernel
theorem dX7_isDirty_21 : decode cX7_isDirty 21 = .ok (.ifCond .ne 24, 3) := by decide +kernel
theorem dX7_isDirty_24 : decode cX7_isDirty 24 = .ok (.aload_n 0, 1) := by decide +kernel
theorem dX7_isDirty_25 : decode cX7_isDirty 25 = .ok (.iload_n 1, 1) := by decide +kernel
theorem dX7_isDirty_26 : decode cX7_isDirty 26 = .ok (.iconst 5, 1) := by decide +kernel
theorem dX7_isDirty_27 : decode cX7_isDirty 27 = .ok (.invokevirtual 41, 3) := by decide +kernel
theorem dX7_isDirty_30 : decode cX7_isDirty 30 = .ok (.ifCond .eq 11, 3) := by decide +kernel
theorem dX7_isDirty_33 : decode cX7_isDirty 33 = .ok (.aload_n 0, 1) := by decide +kernel
theorem dX7_isDirty_34 : decode cX7_isDirty 34 = .ok (.iload_n 1, 1) := by decide +kernel
theorem dX7_isDirty_35 : decode cX7_isDirty 35 = .ok (.invokevirtual 73, 3) := by decide +kernel
theorem dX7_isDirty_38 : decode cX7_isDirty 38 = .ok (.ifCond .eq 7, 3) := by decide +kernel
theorem dX7_isDirty_41 : decode cX7_isDirty 41 = .ok (.iconst 1, 1) := by decide +kernel
theorem dX7_isDirty_42 : decode cX7_isDirty 42 = .ok (.goto 4, 3) := by decide +kernel
theorem dX7_isDirty_45 : decode cX7_isDirty 45 = .ok (.iconst 0, 1) := by decide +kernel
theorem dX7_isDirty_46 : decode cX7_isDirty 46 = .ok (.ireturn, 1) := by decide +kernel
set_option maxRecDepth 20000 in
theorem ggX7_placeOf_X7_isBurst : GoodIn wsX7_placeOf wsX7_isBurst := goodIn_ca (goodIn_r _ [6, 1, 7, 8, 5, 9, 10, 11, 12, 13, 14, 15, 16, 17, 18, 19, 20, 21, 22, 23, 24, 25, 26, 27, 28, 29] (by decide +kernel) (by decide +kernel)) (goodIn_sub (fun _ h => List.mem_cons_of_mem _ (List.mem_append_right _ h)) (by decide +kernel))
set_option maxRecDepth 20000 in
theorem gX7_placeOf_X7_isBurst : GoodIn wsX7_placeOf (wsV RX7 45 RX7 yX7_isBurst wsX7_isBurst) := goodIn_app (goodIn_of _ (by decide +kernel)) ggX7_placeOf_X7_isBurst
set_option maxRecDepth 20000 in
theorem ggX7_placeOf_X7_of : GoodIn wsX7_placeOf wsX7_of := goodIn_ca (goodIn_r _ [13, 1, 14, 15, 16, 17, 18, 19, 20, 21, 22, 23, 24, 25, 26, 27, 28, 29] (by decide +kernel) (by decide +kernel)) (goodIn_sub (fun _ h => List.mem_cons_of_mem _ (List.mem_append_right _ h)) (by decide +kernel))
set_option maxRecDepth 20000 in
theorem gX7_placeOf_X7_of : GoodIn wsX7_placeOf (wsV RX7 41 RX7 yX7_of wsX7_of) := goodIn_app (goodIn_of _ (by decide +kernel)) ggX7_placeOf_X7_of
theorem dX7_placeOf_0 : decode cX7_placeOf 0 = .ok (.iconst 0, 1) := by decide +kernel
theorem dX7_placeOf_1 : decode cX7_placeOf 1 = .ok (.istore_n 2, 1) := by decide +kernel
theorem dX7_placeOf_2 : decode cX7_placeOf 2 = .ok (.iconst 0, 1) := by decide +kernel
theorem dX7_placeOf_3 : decode cX7_placeOf 3 = .ok (.istore_n 3, 1) := by decide +kernel
theorem dX7_placeOf_4 : decode cX7_placeOf 4 = .ok (.iload_n 3, 1) := by decide +kernel
theorem dX7_placeOf_5 : decode cX7_placeOf 5 = .ok (.aload_n 0, 1) := by decide +kernel
theorem dX7_placeOf_6 : decode cX7_placeOf 6 = .ok (.getfield 7, 3) := by decide +kernel
theorem dX7_placeOf_9 : decode cX7_placeOf 9 = .ok (.sipush 1401, 3) := by decide +kernel
theorem dX7_placeOf_12 : decode cX7_placeOf 12 = .ok (.iaload, 1) := by decide +kernel
theorem dX7_placeOf_13 : decode cX7_placeOf 13 = .ok (.if_icmp .ge 87, 3) := by decide +kernel
theorem dX7_placeOf_16 : decode cX7_placeOf 16 = .ok (.aload_n 0, 1) := by decide +kernel
theorem dX7_placeOf_17 : decode cX7_placeOf 17 = .ok (.iload_n 3, 1) := by decide +kernel
theorem dX7_placeOf_18 : decode cX7_placeOf 18 = .ok (.invokevirtual 45, 3) := by decide +kernel
theorem dX7_placeOf_21 : decode cX7_placeOf 21 = .ok (.ifCond .eq 22, 3) := by decide +kernel
theorem dX7_placeOf_24 : decode cX7_placeOf 24 = .ok (.aload_n 0, 1) := by decide +kernel
theorem dX7_placeOf_25 : decode cX7_placeOf 25 = .ok (.iload_n 3, 1) := by decide +kernel
theorem dX7_placeOf_26 : decode cX7_placeOf 26 = .ok (.iconst 1, 1) := by decide +kernel
theorem dX7_placeOf_27 : decode cX7_placeOf 27 = .ok (.invokevirtual 41, 3) := by decide +kernel
theorem dX7_placeOf_30 : decode cX7_placeOf 30 = .ok (.aload_n 0, 1) := by decide +kernel
theorem dX7_placeOf_31 : decode cX7_placeOf 31 = .ok (.iload_n 1, 1) := by decide +kernel
theorem dX7_placeOf_32 : decode cX7_placeOf 32 = .ok (.iconst 1, 1) := by decide +kernel
theorem dX7_placeOf_33 : decode cX7_placeOf 33 = .ok (.invokevirtual 41, 3) := by decide +kernel
theorem dX7_placeOf_36 : decode cX7_placeOf 36 = .ok (.if_icmp .ne 7, 3) := by decide +kernel
theorem dX7_placeOf_39 : decode cX7_placeOf 39 = .ok (.iconst 1, 1) := by decide +kernel
theorem dX7_placeOf_40 : decode cX7_placeOf 40 = .ok (.goto 4, 3) := by decide +kernel
theorem dX7_placeOf_43 : decode cX7_placeOf 43 = .ok (.iconst 0, 1) := by decide +kernel
theorem dX7_placeOf_44 : decode cX7_placeOf 44 = .ok (.istore 4, 2) := by decide +kernel
theorem dX7_placeOf_46 : decode cX7_placeOf 46 = .ok (.iload_n 2, 1) := by decide +kernel
theorem dX7_placeOf_47 : decode cX7_placeOf 47 = .ok (.iload 4, 2) := by decide +kernel
theorem dX7_placeOf_49 : decode cX7_placeOf 49 = .ok (.ifCond .eq 42, 3) := by decide +kernel
theorem dX7_placeOf_52 : decode cX7_placeOf 52 = .ok (.aload_n 0, 1) := by decide +kernel
theorem dX7_placeOf_53 : decode cX7_placeOf 53 = .ok (.iload_n 3, 1) := by decide +kernel
theorem dX7_placeOf_54 : decode cX7_placeOf 54 = .ok (.iconst 2, 1) := by decide +kernel
theorem dX7_placeOf_55 : decode cX7_placeOf 55 = .ok (.invokevirtual 41, 3) := by decide +kernel
theorem dX7_placeOf_58 : decode cX7_placeOf 58 = .ok (.aload_n 0, 1) := by decide +kernel
theorem dX7_placeOf_59 : decode cX7_placeOf 59 = .ok (.iload_n 1, 1) := by decide +kernel
theorem dX7_placeOf_60 : decode cX7_placeOf 60 = .ok (.iconst 2, 1) := by decide +kernel
theorem dX7_placeOf_61 : decode cX7_placeOf 61 = .ok (.invokevirtual 41, 3) := by decide +kernel
theorem dX7_placeOf_64 : decode cX7_placeOf 64 = .ok (.if_icmp .lt 23, 3) := by decide +kernel
theorem dX7_placeOf_67 : decode cX7_placeOf 67 = .ok (.aload_n 0, 1) := by decide +kernel
theorem dX7_placeOf_68 : decode cX7_placeOf 68 = .ok (.iload_n 3, 1) := by decide +kernel
theorem dX7_placeOf_69 : decode cX7_placeOf 69 = .ok (.iconst 2, 1) := by decide +kernel
theorem dX7_placeOf_70 : decode cX7_placeOf 70 = .ok (.invokevirtual 41, 3) := by decide +kernel
theorem dX7_placeOf_73 : decode cX7_placeOf 73 = .ok (.aload_n 0, 1) := by decide +kernel
theorem dX7_placeOf_74 : decode cX7_placeOf 74 = .ok (.iload_n 1, 1) := by decide +kernel
theorem dX7_placeOf_75 : decode cX7_placeOf 75 = .ok (.iconst 2, 1) := by decide +kernel
theorem dX7_placeOf_76 : decode cX7_placeOf 76 = .ok (.invokevirtual 41, 3) := by decide +kernel
theorem dX7_placeOf_79 : decode cX7_placeOf 79 = .ok (.if_icmp .ne 12, 3) := by decide +kernel
theorem dX7_placeOf_82 : decode cX7_placeOf 82 = .ok (.iload_n 3, 1) := by decide +kernel
theorem dX7_placeOf_83 : decode cX7_placeOf 83 = .ok (.iload_n 1, 1) := by decide +kernel
theorem dX7_placeOf_84 : decode cX7_placeOf 84 = .ok (.if_icmp .ge 7, 3) := by decide +kernel
theorem dX7_placeOf_87 : decode cX7_placeOf 87 = .ok (.iconst 1, 1) := by decide +kernel
theorem dX7_placeOf_88 : decode cX7_placeOf 88 = .ok (.goto 4, 3) := by decide +kernel
theorem dX7_placeOf_91 : decode cX7_placeOf 91 = .ok (.iconst 0, 1) := by decide +kernel
theorem dX7_placeOf_92 : decode cX7_placeOf 92 = .ok (.iadd, 1) := by decide +kernel
theorem dX7_placeOf_93 : decode cX7_placeOf 93 = .ok (.istore_n 2, 1) := by decide +kernel
theorem dX7_placeOf_94 : decode cX7_placeOf 94 = .ok (.iinc 3 1, 3) := by decide +kernel
theorem dX7_placeOf_97 : decode cX7_placeOf 97 = .ok (.goto (-93), 3) := by decide +kernel
theorem dX7_placeOf_100 : decode cX7_placeOf 100 = .ok (.iload_n 2, 1) := by decide +kernel
theorem dX7_placeOf_101 : decode cX7_placeOf 101 = .ok (.ireturn, 1) := by decide +kernel
set_option maxRecDepth 20000 in
theorem ggX7_burstAt_X7_isKey : GoodIn wsX7_burstAt wsX7_isKey := goodIn_r _ [5, 6, 7, 4, 8] (by decide +kernel) (by decide +kernel)
set_option maxRecDepth 20000 in
theorem gX7_burstAt_X7_isKey : GoodIn wsX7_burstAt (va_wsS RX7 53 yX7_isKey wsX7_isKey) := goodIn_app (goodIn_of _ (by decide +kernel)) ggX7_burstAt_X7_isKey
set_option maxRecDepth 20000 in
theorem ggX7_burstAt_X7_fails : GoodIn wsX7_burstAt wsX7_fails := goodIn_r _ [12, 13, 30, 31, 32, 33, 34, 35, 36, 37, 38, 39, 40, 41, 42, 43, 44, 45] (by decide +kernel) (by decide +kernel)
set_option maxRecDepth 20000 in
theorem gX7_burstAt_X7_fails : GoodIn wsX7_burstAt (wsV RX7 56 RX7 yX7_fails wsX7_fails) := goodIn_app (goodIn_of _ (by decide +kernel)) ggX7_burstAt_X7_fails
set_option maxRecDepth 20000 in
theorem ggX7_burstAt_X7_isBurst : GoodIn wsX7_burstAt wsX7_isBurst := goodIn_ca (goodIn_r _ [17, 1, 6, 7, 4, 8, 18, 19, 20, 21, 30, 31, 32, 33, 34, 35, 36, 37, 38, 39, 40, 41, 42, 43, 44, 45] (by decide +kernel) (by decide +kernel)) (goodIn_sub (fun _ h => List.mem_cons_of_mem _ (List.mem_append_right _ h)) (by decide +kernel))
set_option maxRecDepth 20000 in
theorem gX7_burstAt_X7_isBurst : GoodIn wsX7_burstAt (wsV RX7 45 RX7 yX7_isBurst wsX7_isBurst) := goodIn_app (goodIn_of _ (by decide +kernel)) ggX7_burstAt_X7_isBurst
set_option maxRecDepth 20000 in
theorem ggX7_burstAt_X7_of : GoodIn wsX7_burstAt wsX7_of := goodIn_ca (goodIn_r _ [21, 1, 30, 31, 32, 33, 34, 35, 36, 37, 38, 39, 40, 41, 42, 43, 44, 45] (by decide +kernel) (by decide +kernel)) (goodIn_sub (fun _ h => List.mem_cons_of_mem _ (List.mem_append_right _ h)) (by decide +kernel))
set_option maxRecDepth 20000 in
theorem gX7_burstAt_X7_of : GoodIn wsX7_burstAt (wsV RX7 41 RX7 yX7_of wsX7_of) := goodIn_app (goodIn_of _ (by decide +kernel)) ggX7_burstAt_X7_of
set_option maxRecDepth 20000 in
theorem ggX7_burstAt_X7_placeOf : GoodIn wsX7_burstAt wsX7_placeOf := goodIn_ca (goodIn_r _ [25, 1, 14, 15, 16, 4, 17, 6, 7, 8, 18, 19, 20, 21, 30, 31, 32, 33, 34, 35, 36, 37, 38, 39, 40, 41, 42, 43, 44, 45] (by decide +kernel) (by decide +kernel)) (goodIn_sub (fun _ h => List.mem_cons_of_mem _ (List.mem_append_right _ h)) (by decide +kernel))
set_option maxRecDepth 20000 in
theorem gX7_burstAt_X7_placeOf : GoodIn wsX7_burstAt (wsV RX7 123 RX7 yX7_placeOf wsX7_placeOf) := goodIn_app (goodIn_of _ (by decide +kernel)) ggX7_burstAt_X7_placeOf
set_option maxRecDepth 20000 in
theorem ggX7_burstAt_X7_done : GoodIn wsX7_burstAt wsX7_done := goodIn_r _ [29, 13, 30, 31, 32, 33, 34, 35, 36, 37, 38, 39, 40, 41, 42, 43, 44, 45] (by decide +kernel) (by decide +kernel)
set_option maxRecDepth 20000 in
theorem gX7_burstAt_X7_done : GoodIn wsX7_burstAt (wsV RX7 49 RX7 yX7_done wsX7_done) := goodIn_app (goodIn_of _ (by decide +kernel)) ggX7_burstAt_X7_done
theorem dX7_burstAt_0 : decode cX7_burstAt 0 = .ok (.iload_n 1, 1) := by decide +kernel
theorem dX7_burstAt_1 : decode cX7_burstAt 1 = .ok (.invokestatic 53, 3) := by decide +kernel
theorem dX7_burstAt_4 : decode cX7_burstAt 4 = .ok (.ifCond .ne 9, 3) := by decide +kernel
theorem dX7_burstAt_7 : decode cX7_burstAt 7 = .ok (.aload_n 0, 1) := by decide +kernel
theorem dX7_burstAt_8 : decode cX7_burstAt 8 = .ok (.iconst 1, 1) := by decide +kernel
theorem dX7_burstAt_9 : decode cX7_burstAt 9 = .ok (.invokevirtual 56, 3) := by decide +kernel
theorem dX7_burstAt_12 : decode cX7_burstAt 12 = .ok (.ireturn, 1) := by decide +kernel
theorem dX7_burstAt_13 : decode cX7_burstAt 13 = .ok (.iconst 0, 1) := by decide +kernel
theorem dX7_burstAt_14 : decode cX7_burstAt 14 = .ok (.istore_n 3, 1) := by decide +kernel
theorem dX7_burstAt_15 : decode cX7_burstAt 15 = .ok (.iload_n 3, 1) := by decide +kernel
theorem dX7_burstAt_16 : decode cX7_burstAt 16 = .ok (.aload_n 0, 1) := by decide +kernel
theorem dX7_burstAt_17 : decode cX7_burstAt 17 = .ok (.getfield 7, 3) := by decide +kernel
theorem dX7_burstAt_20 : decode cX7_burstAt 20 = .ok (.sipush 1401, 3) := by decide +kernel
theorem dX7_burstAt_23 : decode cX7_burstAt 23 = .ok (.iaload, 1) := by decide +kernel
theorem dX7_burstAt_24 : decode cX7_burstAt 24 = .ok (.if_icmp .ge 42, 3) := by decide +kernel
theorem dX7_burstAt_27 : decode cX7_burstAt 27 = .ok (.aload_n 0, 1) := by decide +kernel
theorem dX7_burstAt_28 : decode cX7_burstAt 28 = .ok (.iload_n 3, 1) := by decide +kernel
theorem dX7_burstAt_29 : decode cX7_burstAt 29 = .ok (.invokevirtual 45, 3) := by decide +kernel
theorem dX7_burstAt_32 : decode cX7_burstAt 32 = .ok (.ifCond .eq 28, 3) := by decide +kernel
theorem dX7_burstAt_35 : decode cX7_burstAt 35 = .ok (.aload_n 0, 1) := by decide +kernel
theorem dX7_burstAt_36 : decode cX7_burstAt 36 = .ok (.iload_n 3, 1) := by decide +kernel
theorem dX7_burstAt_37 : decode cX7_burstAt 37 = .ok (.iconst 1, 1) := by decide +kernel
theorem dX7_burstAt_38 : decode cX7_burstAt 38 = .ok (.invokevirtual 41, 3) := by decide +kernel
theorem dX7_burstAt_41 : decode cX7_burstAt 41 = .ok (.iload_n 1, 1) := by decide +kernel
theorem dX7_burstAt_42 : decode cX7_burstAt 42 = .ok (.if_icmp .ne 18, 3) := by decide +kernel
theorem dX7_burstAt_45 : decode cX7_burstAt 45 = .ok (.aload_n 0, 1) := by decide +kernel
theorem dX7_burstAt_46 : decode cX7_burstAt 46 = .ok (.iload_n 3, 1) := by decide +kernel
theorem dX7_burstAt_47 : decode cX7_burstAt 47 = .ok (.invokevirtual 123, 3) := by decide +kernel
theorem dX7_burstAt_50 : decode cX7_burstAt 50 = .ok (.iload_n 2, 1) := by decide +kernel
theorem dX7_burstAt_51 : decode cX7_burstAt 51 = .ok (.if_icmp .ne 9, 3) := by decide +kernel
theorem dX7_burstAt_54 : decode cX7_burstAt 54 = .ok (.aload_n 0, 1) := by decide +kernel
theorem dX7_burstAt_55 : decode cX7_burstAt 55 = .ok (.iload_n 3, 1) := by decide +kernel
theorem dX7_burstAt_56 : decode cX7_burstAt 56 = .ok (.invokevirtual 49, 3) := by decide +kernel
theorem dX7_burstAt_59 : decode cX7_burstAt 59 = .ok (.ireturn, 1) := by decide +kernel
theorem dX7_burstAt_60 : decode cX7_burstAt 60 = .ok (.iinc 3 1, 3) := by decide +kernel
theorem dX7_burstAt_63 : decode cX7_burstAt 63 = .ok (.goto (-48), 3) := by decide +kernel
theorem dX7_burstAt_66 : decode cX7_burstAt 66 = .ok (.aload_n 0, 1) := by decide +kernel
theorem dX7_burstAt_67 : decode cX7_burstAt 67 = .ok (.iconst 2, 1) := by decide +kernel
theorem dX7_burstAt_68 : decode cX7_burstAt 68 = .ok (.invokevirtual 56, 3) := by decide +kernel
theorem dX7_burstAt_71 : decode cX7_burstAt 71 = .ok (.ireturn, 1) := by decide +kernel
set_option maxRecDepth 20000 in
theorem ggX7_joined_X7_isKey : GoodIn wsX7_joined wsX7_isKey := goodIn_r _ [5, 6, 7, 4, 8] (by decide +kernel) (by decide +kernel)
set_option maxRecDepth 20000 in
theorem gX7_joined_X7_isKey : GoodIn wsX7_joined (va_wsS RX7 53 yX7_isKey wsX7_isKey) := goodIn_app (goodIn_of _ (by decide +kernel)) ggX7_joined_X7_isKey
set_option maxRecDepth 20000 in
theorem ggX7_joined_X7_fails : GoodIn wsX7_joined wsX7_fails := goodIn_r _ [12, 13, 30, 31, 32, 33, 34, 35, 36, 37, 38, 39, 40, 41, 42, 43, 44, 45] (by decide +kernel) (by decide +kernel)
set_option maxRecDepth 20000 in
theorem gX7_joined_X7_fails : GoodIn wsX7_joined (wsV RX7 56 RX7 yX7_fails wsX7_fails) := goodIn_app (goodIn_of _ (by decide +kernel)) ggX7_joined_X7_fails
set_option maxRecDepth 20000 in
theorem ggX7_joined_X7_in : GoodIn wsX7_joined wsX7_in := goodIn_r _ [8] (by decide +kernel) (by decide +kernel)
set_option maxRecDepth 20000 in
theorem gX7_joined_X7_in : GoodIn wsX7_joined (va_wsS RX7 37 yX7_in wsX7_in) := goodIn_app (goodIn_of _ (by decide +kernel)) ggX7_joined_X7_in
set_option maxRecDepth 20000 in
theorem ggX7_joined_X7_isOpen : GoodIn wsX7_joined wsX7_isOpen := goodIn_ca (goodIn_r _ [17, 18, 19, 20, 4, 21, 1, 6, 7, 8, 22, 23, 24, 25, 30, 31, 32, 33, 34, 35, 36, 37, 38, 39, 40, 41, 42, 43, 44, 45] (by decide +kernel) (by decide +kernel)) (goodIn_sub (fun _ h => List.mem_cons_of_mem _ (List.mem_append_right _ h)) (by decide +kernel))
set_option maxRecDepth 20000 in
theorem gX7_joined_X7_isOpen : GoodIn wsX7_joined (wsV RX7 83 RX7 yX7_isOpen wsX7_isOpen) := goodIn_app (goodIn_of _ (by decide +kernel)) ggX7_joined_X7_isOpen
set_option maxRecDepth 20000 in
theorem ggX7_joined_X7_of : GoodIn wsX7_joined wsX7_of := goodIn_ca (goodIn_r _ [25, 1, 30, 31, 32, 33, 34, 35, 36, 37, 38, 39, 40, 41, 42, 43, 44, 45] (by decide +kernel) (by decide +kernel)) (goodIn_sub (fun _ h => List.mem_cons_of_mem _ (List.mem_append_right _ h)) (by decide +kernel))
set_option maxRecDepth 20000 in
theorem gX7_joined_X7_of : GoodIn wsX7_joined (wsV RX7 41 RX7 yX7_of wsX7_of) := goodIn_app (goodIn_of _ (by decide +kernel)) ggX7_joined_X7_of
set_option maxRecDepth 20000 in
theorem ggX7_joined_X7_done : GoodIn wsX7_joined wsX7_done := goodIn_r _ [29, 13, 30, 31, 32, 33, 34, 35, 36, 37, 38, 39, 40, 41, 42, 43, 44, 45] (by decide +kernel) (by decide +kernel)
set_option maxRecDepth 20000 in
theorem gX7_joined_X7_done : GoodIn wsX7_joined (wsV RX7 49 RX7 yX7_done wsX7_done) := goodIn_app (goodIn_of _ (by decide +kernel)) ggX7_joined_X7_done
theorem dX7_joined_0 : decode cX7_joined 0 = .ok (.iload_n 1, 1) := by decide +kernel
theorem dX7_joined_1 : decode cX7_joined 1 = .ok (.invokestatic 53, 3) := by decide +kernel
theorem dX7_joined_4 : decode cX7_joined 4 = .ok (.ifCond .ne 9, 3) := by decide +kernel
theorem dX7_joined_7 : decode cX7_joined 7 = .ok (.aload_n 0, 1) := by decide +kernel
theorem dX7_joined_8 : decode cX7_joined 8 = .ok (.iconst 1, 1) := by decide +kernel
theorem dX7_joined_9 : decode cX7_joined 9 = .ok (.invokevirtual 56, 3) := by decide +kernel
theorem dX7_joined_12 : decode cX7_joined 12 = .ok (.ireturn, 1) := by decide +kernel
theorem dX7_joined_13 : decode cX7_joined 13 = .ok (.iload_n 2, 1) := by decide +kernel
theorem dX7_joined_14 : decode cX7_joined 14 = .ok (.iconst 0, 1) := by decide +kernel
theorem dX7_joined_15 : decode cX7_joined 15 = .ok (.sipush 9999, 3) := by decide +kernel
theorem dX7_joined_18 : decode cX7_joined 18 = .ok (.invokestatic 37, 3) := by decide +kernel
theorem dX7_joined_21 : decode cX7_joined 21 = .ok (.ifCond .ne 9, 3) := by decide +kernel
theorem dX7_joined_24 : decode cX7_joined 24 = .ok (.aload_n 0, 1) := by decide +kernel
theorem dX7_joined_25 : decode cX7_joined 25 = .ok (.iconst 2, 1) := by decide +kernel
theorem dX7_joined_26 : decode cX7_joined 26 = .ok (.invokevirtual 56, 3) := by decide +kernel
theorem dX7_joined_29 : decode cX7_joined 29 = .ok (.ireturn, 1) := by decide +kernel
theorem dX7_joined_30 : decode cX7_joined 30 = .ok (.iconst 0, 1) := by decide +kernel
theorem dX7_joined_31 : decode cX7_joined 31 = .ok (.istore_n 3, 1) := by decide +kernel
theorem dX7_joined_32 : decode cX7_joined 32 = .ok (.iload_n 3, 1) := by decide +kernel
theorem dX7_joined_33 : decode cX7_joined 33 = .ok (.aload_n 0, 1) := by decide +kernel
theorem dX7_joined_34 : decode cX7_joined 34 = .ok (.getfield 7, 3) := by decide +kernel
theorem dX7_joined_37 : decode cX7_joined 37 = .ok (.sipush 1401, 3) := by decide +kernel
theorem dX7_joined_40 : decode cX7_joined 40 = .ok (.iaload, 1) := by decide +kernel
theorem dX7_joined_41 : decode cX7_joined 41 = .ok (.if_icmp .ge 75, 3) := by decide +kernel
theorem dX7_joined_44 : decode cX7_joined 44 = .ok (.aload_n 0, 1) := by decide +kernel
theorem dX7_joined_45 : decode cX7_joined 45 = .ok (.iload_n 3, 1) := by decide +kernel
theorem dX7_joined_46 : decode cX7_joined 46 = .ok (.invokevirtual 83, 3) := by decide +kernel
theorem dX7_joined_49 : decode cX7_joined 49 = .ok (.ifCond .eq 61, 3) := by decide +kernel
theorem dX7_joined_52 : decode cX7_joined 52 = .ok (.aload_n 0, 1) := by decide +kernel
theorem dX7_joined_53 : decode cX7_joined 53 = .ok (.iload_n 3, 1) := by decide +kernel
theorem dX7_joined_54 : decode cX7_joined 54 = .ok (.iconst 1, 1) := by decide +kernel
theorem dX7_joined_55 : decode cX7_joined 55 = .ok (.invokevirtual 41, 3) := by decide +kernel
theorem dX7_joined_58 : decode cX7_joined 58 = .ok (.iload_n 1, 1) := by decide +kernel
theorem dX7_joined_59 : decode cX7_joined 59 = .ok (.if_icmp .ne 51, 3) := by decide +kernel
theorem dX7_joined_62 : decode cX7_joined 62 = .ok (.aload_n 0, 1) := by decide +kernel
theorem dX7_joined_63 : decode cX7_joined 63 = .ok (.iload_n 3, 1) := by decide +kernel
theorem dX7_joined_64 : decode cX7_joined 64 = .ok (.iconst 2, 1) := by decide +kernel
theorem dX7_joined_65 : decode cX7_joined 65 = .ok (.invokevirtual 41, 3) := by decide +kernel
theorem dX7_joined_68 : decode cX7_joined 68 = .ok (.iload_n 2, 1) := by decide +kernel
theorem dX7_joined_69 : decode cX7_joined 69 = .ok (.aload_n 0, 1) := by decide +kernel
theorem dX7_joined_70 : decode cX7_joined 70 = .ok (.getfield 7, 3) := by decide +kernel
theorem dX7_joined_73 : decode cX7_joined 73 = .ok (.sipush 1402, 3) := by decide +kernel
theorem dX7_joined_76 : decode cX7_joined 76 = .ok (.iload_n 1, 1) := by decide +kernel
theorem dX7_joined_77 : decode cX7_joined 77 = .ok (.iadd, 1) := by decide +kernel
theorem dX7_joined_78 : decode cX7_joined 78 = .ok (.iaload, 1) := by decide +kernel
theorem dX7_joined_79 : decode cX7_joined 79 = .ok (.iadd, 1) := by decide +kernel
theorem dX7_joined_80 : decode cX7_joined 80 = .ok (.if_icmp .gt 30, 3) := by decide +kernel
theorem dX7_joined_83 : decode cX7_joined 83 = .ok (.aload_n 0, 1) := by decide +kernel
theorem dX7_joined_84 : decode cX7_joined 84 = .ok (.iload_n 3, 1) := by decide +kernel
theorem dX7_joined_85 : decode cX7_joined 85 = .ok (.iconst 3, 1) := by decide +kernel
theorem dX7_joined_86 : decode cX7_joined 86 = .ok (.invokevirtual 41, 3) := by decide +kernel
theorem dX7_joined_89 : decode cX7_joined 89 = .ok (.aload_n 0, 1) := by decide +kernel
theorem dX7_joined_90 : decode cX7_joined 90 = .ok (.getfield 7, 3) := by decide +kernel
theorem dX7_joined_93 : decode cX7_joined 93 = .ok (.sipush 1402, 3) := by decide +kernel
theorem dX7_joined_96 : decode cX7_joined 96 = .ok (.iload_n 1, 1) := by decide +kernel
theorem dX7_joined_97 : decode cX7_joined 97 = .ok (.iadd, 1) := by decide +kernel
theorem dX7_joined_98 : decode cX7_joined 98 = .ok (.iaload, 1) := by decide +kernel
theorem dX7_joined_99 : decode cX7_joined 99 = .ok (.iadd, 1) := by decide +kernel
theorem dX7_joined_100 : decode cX7_joined 100 = .ok (.iload_n 2, 1) := by decide +kernel
theorem dX7_joined_101 : decode cX7_joined 101 = .ok (.if_icmp .lt 9, 3) := by decide +kernel
theorem dX7_joined_104 : decode cX7_joined 104 = .ok (.aload_n 0, 1) := by decide +kernel
theorem dX7_joined_105 : decode cX7_joined 105 = .ok (.iload_n 3, 1) := by decide +kernel
theorem dX7_joined_106 : decode cX7_joined 106 = .ok (.invokevirtual 49, 3) := by decide +kernel
theorem dX7_joined_109 : decode cX7_joined 109 = .ok (.ireturn, 1) := by decide +kernel
theorem dX7_joined_110 : decode cX7_joined 110 = .ok (.iinc 3 1, 3) := by decide +kernel
theorem dX7_joined_113 : decode cX7_joined 113 = .ok (.goto (-81), 3) := by decide +kernel
theorem dX7_joined_116 : decode cX7_joined 116 = .ok (.aload_n 0, 1) := by decide +kernel
theorem dX7_joined_117 : decode cX7_joined 117 = .ok (.iconst 3, 1) := by decide +kernel
theorem dX7_joined_118 : decode cX7_joined 118 = .ok (.invokevirtual 56, 3) := by decide +kernel
theorem dX7_joined_121 : decode cX7_joined 121 = .ok (.ireturn, 1) := by decide +kernel
theorem dX7_rankOf_0 : decode cX7_rankOf 0 = .ok (.iconst 0, 1) := by decide +kernel
theorem dX7_rankOf_1 : decode cX7_rankOf 1 = .ok (.istore_n 2, 1) := by decide +kernel
theorem dX7_rankOf_2 : decode cX7_rankOf 2 = .ok (.iconst 0, 1) := by decide +kernel
theorem dX7_rankOf_3 : decode cX7_rankOf 3 = .ok (.istore_n 3, 1) := by decide +kernel
theorem dX7_rankOf_4 : decode cX7_rankOf 4 = .ok (.iload_n 3, 1) := by decide +kernel
theorem dX7_rankOf_5 : decode cX7_rankOf 5 = .ok (.aload_n 0, 1) := by decide +kernel
theorem dX7_rankOf_6 : decode cX7_rankOf 6 = .ok (.getfield 7, 3) := by decide +kernel
theorem dX7_rankOf_9 : decode cX7_rankOf 9 = .ok (.sipush 400, 3) := by decide +kernel
theorem dX7_rankOf_12 : decode cX7_rankOf 12 = .ok (.iaload, 1) := by decide +kernel
theorem dX7_rankOf_13 : decode cX7_rankOf 13 = .ok (.if_icmp .ge 103, 3) := by decide +kernel
theorem dX7_rankOf_16 : decode cX7_rankOf 16 = .ok (.aload_n 0, 1) := by decide +kernel
theorem dX7_rankOf_17 : decode cX7_rankOf 17 = .ok (.getfield 7, 3) := by decide +kernel
theorem dX7_rankOf_20 : decode cX7_rankOf 20 = .ok (.iconst 4, 1) := by decide +kernel
theorem dX7_rankOf_21 : decode cX7_rankOf 21 = .ok (.iload_n 3, 1) := by decide +kernel
theorem dX7_rankOf_22 : decode cX7_rankOf 22 = .ok (.imul, 1) := by decide +kernel
theorem dX7_rankOf_23 : decode cX7_rankOf 23 = .ok (.iconst 3, 1) := by decide +kernel
theorem dX7_rankOf_24 : decode cX7_rankOf 24 = .ok (.iadd, 1) := by decide +kernel
theorem dX7_rankOf_25 : decode cX7_rankOf 25 = .ok (.iaload, 1) := by decide +kernel
theorem dX7_rankOf_26 : decode cX7_rankOf 26 = .ok (.aload_n 0, 1) := by decide +kernel
theorem dX7_rankOf_27 : decode cX7_rankOf 27 = .ok (.getfield 7, 3) := by decide +kernel
theorem dX7_rankOf_30 : decode cX7_rankOf 30 = .ok (.iconst 4, 1) := by decide +kernel
theorem dX7_rankOf_31 : decode cX7_rankOf 31 = .ok (.iload_n 1, 1) := by decide +kernel
theorem dX7_rankOf_32 : decode cX7_rankOf 32 = .ok (.imul, 1) := by decide +kernel
theorem dX7_rankOf_33 : decode cX7_rankOf 33 = .ok (.iconst 3, 1) := by decide +kernel
theorem dX7_rankOf_34 : decode cX7_rankOf 34 = .ok (.iadd, 1) := by decide +kernel
theorem dX7_rankOf_35 : decode cX7_rankOf 35 = .ok (.iaload, 1) := by decide +kernel
theorem dX7_rankOf_36 : decode cX7_rankOf 36 = .ok (.if_icmp .ne 7, 3) := by decide +kernel
theorem dX7_rankOf_39 : decode cX7_rankOf 39 = .ok (.iconst 1, 1) := by decide +kernel
theorem dX7_rankOf_40 : decode cX7_rankOf 40 = .ok (.goto 4, 3) := by decide +kernel
theorem dX7_rankOf_43 : decode cX7_rankOf 43 = .ok (.iconst 0, 1) := by decide +kernel
theorem dX7_rankOf_44 : decode cX7_rankOf 44 = .ok (.istore 4, 2) := by decide +kernel
theorem dX7_rankOf_46 : decode cX7_rankOf 46 = .ok (.iload_n 2, 1) := by decide +kernel
theorem dX7_rankOf_47 : decode cX7_rankOf 47 = .ok (.iload 4, 2) := by decide +kernel
theorem dX7_rankOf_49 : decode cX7_rankOf 49 = .ok (.ifCond .eq 58, 3) := by decide +kernel
theorem dX7_rankOf_52 : decode cX7_rankOf 52 = .ok (.aload_n 0, 1) := by decide +kernel
theorem dX7_rankOf_53 : decode cX7_rankOf 53 = .ok (.getfield 7, 3) := by decide +kernel
theorem dX7_rankOf_56 : decode cX7_rankOf 56 = .ok (.iconst 4, 1) := by decide +kernel
theorem dX7_rankOf_57 : decode cX7_rankOf 57 = .ok (.iload_n 3, 1) := by decide +kernel
theorem dX7_rankOf_58 : decode cX7_rankOf 58 = .ok (.imul, 1) := by decide +kernel
theorem dX7_rankOf_59 : decode cX7_rankOf 59 = .ok (.iconst 1, 1) := by decide +kernel
theorem dX7_rankOf_60 : decode cX7_rankOf 60 = .ok (.iadd, 1) := by decide +kernel
theorem dX7_rankOf_61 : decode cX7_rankOf 61 = .ok (.iaload, 1) := by decide +kernel
theorem dX7_rankOf_62 : decode cX7_rankOf 62 = .ok (.aload_n 0, 1) := by decide +kernel
theorem dX7_rankOf_63 : decode cX7_rankOf 63 = .ok (.getfield 7, 3) := by decide +kernel
theorem dX7_rankOf_66 : decode cX7_rankOf 66 = .ok (.iconst 4, 1) := by decide +kernel
theorem dX7_rankOf_67 : decode cX7_rankOf 67 = .ok (.iload_n 1, 1) := by decide +kernel
theorem dX7_rankOf_68 : decode cX7_rankOf 68 = .ok (.imul, 1) := by decide +kernel
theorem dX7_rankOf_69 : decode cX7_rankOf 69 = .ok (.iconst 1, 1) := by decide +kernel
theorem dX7_rankOf_70 : decode cX7_rankOf 70 = .ok (.iadd, 1) := by decide +kernel
theorem dX7_rankOf_71 : decode cX7_rankOf 71 = .ok (.iaload, 1) := by decide +kernel
theorem dX7_rankOf_72 : decode cX7_rankOf 72 = .ok (.if_icmp .lt 31, 3) := by decide +kernel
theorem dX7_rankOf_75 : decode cX7_rankOf 75 = .ok (.aload_n 0, 1) := by decide +kernel
theorem dX7_rankOf_76 : decode cX7_rankOf 76 = .ok (.getfield 7, 3) := by decide +kernel
theorem dX7_rankOf_79 : decode cX7_rankOf 79 = .ok (.iconst 4, 1) := by decide +kernel
theorem dX7_rankOf_80 : decode cX7_rankOf 80 = .ok (.iload_n 3, 1) := by decide +kernel
theorem dX7_rankOf_81 : decode cX7_rankOf 81 = .ok (.imul, 1) := by decide +kernel
theorem dX7_rankOf_82 : decode cX7_rankOf 82 = .ok (.iconst 1, 1) := by decide +kernel
theorem dX7_rankOf_83 : decode cX7_rankOf 83 = .ok (.iadd, 1) := by decide +kernel
theorem dX7_rankOf_84 : decode cX7_rankOf 84 = .ok (.iaload, 1) := by decide +kernel
theorem dX7_rankOf_85 : decode cX7_rankOf 85 = .ok (.aload_n 0, 1) := by decide +kernel
theorem dX7_rankOf_86 : decode cX7_rankOf 86 = .ok (.getfield 7, 3) := by decide +kernel
theorem dX7_rankOf_89 : decode cX7_rankOf 89 = .ok (.iconst 4, 1) := by decide +kernel
theorem dX7_rankOf_90 : decode cX7_rankOf 90 = .ok (.iload_n 1, 1) := by decide +kernel
theorem dX7_rankOf_91 : decode cX7_rankOf 91 = .ok (.imul, 1) := by decide +kernel
theorem dX7_rankOf_92 : decode cX7_rankOf 92 = .ok (.iconst 1, 1) := by decide +kernel
theorem dX7_rankOf_93 : decode cX7_rankOf 93 = .ok (.iadd, 1) := by decide +kernel
theorem dX7_rankOf_94 : decode cX7_rankOf 94 = .ok (.iaload, 1) := by decide +kernel
theorem dX7_rankOf_95 : decode cX7_rankOf 95 = .ok (.if_icmp .ne 12, 3) := by decide +kernel
theorem dX7_rankOf_98 : decode cX7_rankOf 98 = .ok (.iload_n 3, 1) := by decide +kernel
theorem dX7_rankOf_99 : decode cX7_rankOf 99 = .ok (.iload_n 1, 1) := by decide +kernel
theorem dX7_rankOf_100 : decode cX7_rankOf 100 = .ok (.if_icmp .ge 7, 3) := by decide +kernel
theorem dX7_rankOf_103 : decode cX7_rankOf 103 = .ok (.iconst 1, 1) := by decide +kernel
theorem dX7_rankOf_104 : decode cX7_rankOf 104 = .ok (.goto 4, 3) := by decide +kernel
theorem dX7_rankOf_107 : decode cX7_rankOf 107 = .ok (.iconst 0, 1) := by decide +kernel
theorem dX7_rankOf_108 : decode cX7_rankOf 108 = .ok (.iadd, 1) := by decide +kernel
theorem dX7_rankOf_109 : decode cX7_rankOf 109 = .ok (.istore_n 2, 1) := by decide +kernel
theorem dX7_rankOf_110 : decode cX7_rankOf 110 = .ok (.iinc 3 1, 3) := by decide +kernel
theorem dX7_rankOf_113 : decode cX7_rankOf 113 = .ok (.goto (-109), 3) := by decide +kernel
theorem dX7_rankOf_116 : decode cX7_rankOf 116 = .ok (.iload_n 2, 1) := by decide +kernel
theorem dX7_rankOf_117 : decode cX7_rankOf 117 = .ok (.ireturn, 1) := by decide +kernel
set_option maxRecDepth 20000 in
theorem ggX7_record_X7_isBurst : GoodIn wsX7_record wsX7_isBurst := goodIn_ca (goodIn_r _ [6, 1, 7, 8, 5, 9, 10, 11, 12, 13, 27, 28, 29, 30, 31, 32, 33, 34, 35, 36, 37, 38, 39, 40, 41, 42] (by decide +kernel) (by decide +kernel)) (goodIn_sub (fun _ h => List.mem_cons_of_mem _ (List.mem_append_right _ h)) (by decide +kernel))
set_option maxRecDepth 20000 in
theorem gX7_record_X7_isBurst : GoodIn wsX7_record (wsV RX7 45 RX7 yX7_isBurst wsX7_isBurst) := goodIn_app (goodIn_of _ (by decide +kernel)) ggX7_record_X7_isBurst
set_option maxRecDepth 20000 in
theorem ggX7_record_X7_fails : GoodIn wsX7_record wsX7_fails := goodIn_r _ [17, 18, 27, 28, 29, 30, 31, 32, 33, 34, 35, 36, 37, 38, 39, 40, 41, 42] (by decide +kernel) (by decide +kernel)
set_option maxRecDepth 20000 in
theorem gX7_record_X7_fails : GoodIn wsX7_record (wsV RX7 56 RX7 yX7_fails wsX7_fails) := goodIn_app (goodIn_of _ (by decide +kernel)) ggX7_record_X7_fails
set_option maxRecDepth 20000 in
theorem ggX7_record_X7_rankOf : GoodIn wsX7_record wsX7_rankOf := goodIn_ca (goodIn_r _ [22, 1, 27, 28, 29, 30, 31, 32, 33, 34, 35, 36, 37, 38, 39, 40, 41, 42] (by decide +kernel) (by decide +kernel)) (goodIn_sub (fun _ h => List.mem_cons_of_mem _ (List.mem_append_right _ h)) (by decide +kernel))
set_option maxRecDepth 20000 in
theorem gX7_record_X7_rankOf : GoodIn wsX7_record (wsV RX7 126 RX7 yX7_rankOf wsX7_rankOf) := goodIn_app (goodIn_of _ (by decide +kernel)) ggX7_record_X7_rankOf
set_option maxRecDepth 20000 in
theorem ggX7_record_X7_done : GoodIn wsX7_record wsX7_done := goodIn_r _ [26, 18, 27, 28, 29, 30, 31, 32, 33, 34, 35, 36, 37, 38, 39, 40, 41, 42] (by decide +kernel) (by decide +kernel)
set_option maxRecDepth 20000 in
theorem gX7_record_X7_done : GoodIn wsX7_record (wsV RX7 49 RX7 yX7_done wsX7_done) := goodIn_app (goodIn_of _ (by decide +kernel)) ggX7_record_X7_done
theorem dX7_record_0 : decode cX7_record 0 = .ok (.aload_n 0, 1) := by decide +kernel
theorem dX7_record_1 : decode cX7_record 1 = .ok (.iload_n 1, 1) := by decide +kernel
theorem dX7_record_2 : decode cX7_record 2 = .ok (.invokevirtual 45, 3) := by decide +kernel
theorem dX7_record_5 : decode cX7_record 5 = .ok (.ifCond .ne 9, 3) := by decide +kernel
theorem dX7_record_8 : decode cX7_record 8 = .ok (.aload_n 0, 1) := by decide +kernel
theorem dX7_record_9 : decode cX7_record 9 = .ok (.iconst 1, 1) := by decide +kernel
theorem dX7_record_10 : decode cX7_record 10 = .ok (.invokevirtual 56, 3) := by decide +kernel
theorem dX7_record_13 : decode cX7_record 13 = .ok (.ireturn, 1) := by decide +kernel
theorem dX7_record_14 : decode cX7_record 14 = .ok (.iconst 0, 1) := by decide +kernel
theorem dX7_record_15 : decode cX7_record 15 = .ok (.istore 4, 2) := by decide +kernel
theorem dX7_record_17 : decode cX7_record 17 = .ok (.iload 4, 2) := by decide +kernel
theorem dX7_record_19 : decode cX7_record 19 = .ok (.aload_n 0, 1) := by decide +kernel
theorem dX7_record_20 : decode cX7_record 20 = .ok (.getfield 7, 3) := by decide +kernel
theorem dX7_record_23 : decode cX7_record 23 = .ok (.sipush 400, 3) := by decide +kernel
theorem dX7_record_26 : decode cX7_record 26 = .ok (.iaload, 1) := by decide +kernel
theorem dX7_record_27 : decode cX7_record 27 = .ok (.if_icmp .ge 58, 3) := by decide +kernel
theorem dX7_record_30 : decode cX7_record 30 = .ok (.aload_n 0, 1) := by decide +kernel
theorem dX7_record_31 : decode cX7_record 31 = .ok (.getfield 7, 3) := by decide +kernel
theorem dX7_record_34 : decode cX7_record 34 = .ok (.iconst 4, 1) := by decide +kernel
theorem dX7_record_35 : decode cX7_record 35 = .ok (.iload 4, 2) := by decide +kernel
theorem dX7_record_37 : decode cX7_record 37 = .ok (.imul, 1) := by decide +kernel
theorem dX7_record_38 : decode cX7_record 38 = .ok (.iconst 3, 1) := by decide +kernel
theorem dX7_record_39 : decode cX7_record 39 = .ok (.iadd, 1) := by decide +kernel
theorem dX7_record_40 : decode cX7_record 40 = .ok (.iaload, 1) := by decide +kernel
theorem dX7_record_41 : decode cX7_record 41 = .ok (.iload_n 1, 1) := by decide +kernel
theorem dX7_record_42 : decode cX7_record 42 = .ok (.if_icmp .ne 37, 3) := by decide +kernel
theorem dX7_record_45 : decode cX7_record 45 = .ok (.aload_n 0, 1) := by decide +kernel
theorem dX7_record_46 : decode cX7_record 46 = .ok (.iload 4, 2) := by decide +kernel
theorem dX7_record_48 : decode cX7_record 48 = .ok (.invokevirtual 126, 3) := by decide +kernel
theorem dX7_record_51 : decode cX7_record 51 = .ok (.iload_n 2, 1) := by decide +kernel
theorem dX7_record_52 : decode cX7_record 52 = .ok (.if_icmp .ne 27, 3) := by decide +kernel
theorem dX7_record_55 : decode cX7_record 55 = .ok (.aload_n 0, 1) := by decide +kernel
theorem dX7_record_56 : decode cX7_record 56 = .ok (.aload_n 0, 1) := by decide +kernel
theorem dX7_record_57 : decode cX7_record 57 = .ok (.getfield 7, 3) := by decide +kernel
theorem dX7_record_60 : decode cX7_record 60 = .ok (.iconst 4, 1) := by decide +kernel
theorem dX7_record_61 : decode cX7_record 61 = .ok (.iload 4, 2) := by decide +kernel
theorem dX7_record_63 : decode cX7_record 63 = .ok (.imul, 1) := by decide +kernel
theorem dX7_record_64 : decode cX7_record 64 = .ok (.iload_n 3, 1) := by decide +kernel
theorem dX7_record_65 : decode cX7_record 65 = .ok (.ifCond .eq 7, 3) := by decide +kernel
theorem dX7_record_68 : decode cX7_record 68 = .ok (.iconst 1, 1) := by decide +kernel
theorem dX7_record_69 : decode cX7_record 69 = .ok (.goto 4, 3) := by decide +kernel
theorem dX7_record_72 : decode cX7_record 72 = .ok (.iconst 2, 1) := by decide +kernel
theorem dX7_record_73 : decode cX7_record 73 = .ok (.iadd, 1) := by decide +kernel
theorem dX7_record_74 : decode cX7_record 74 = .ok (.iaload, 1) := by decide +kernel
theorem dX7_record_75 : decode cX7_record 75 = .ok (.invokevirtual 49, 3) := by decide +kernel
theorem dX7_record_78 : decode cX7_record 78 = .ok (.ireturn, 1) := by decide +kernel
theorem dX7_record_79 : decode cX7_record 79 = .ok (.iinc 4 1, 3) := by decide +kernel
theorem dX7_record_82 : decode cX7_record 82 = .ok (.goto (-65), 3) := by decide +kernel
theorem dX7_record_85 : decode cX7_record 85 = .ok (.aload_n 0, 1) := by decide +kernel
theorem dX7_record_86 : decode cX7_record 86 = .ok (.iconst 2, 1) := by decide +kernel
theorem dX7_record_87 : decode cX7_record 87 = .ok (.invokevirtual 56, 3) := by decide +kernel
theorem dX7_record_90 : decode cX7_record 90 = .ok (.ireturn, 1) := by decide +kernel
set_option maxRecDepth 20000 in
theorem ggX7_closesAt_X7_isBurst : GoodIn wsX7_closesAt wsX7_isBurst := goodIn_ca (goodIn_r _ [5, 6, 7, 8, 4, 9, 10, 11, 12, 13, 35, 36, 37, 38, 39, 40, 41, 42, 43, 44, 45, 46, 47, 48, 49, 50] (by decide +kernel) (by decide +kernel)) (goodIn_sub (fun _ h => List.mem_cons_of_mem _ (List.mem_append_right _ h)) (by decide +kernel))
set_option maxRecDepth 20000 in
theorem gX7_closesAt_X7_isBurst : GoodIn wsX7_closesAt (wsV RX7 45 RX7 yX7_isBurst wsX7_isBurst) := goodIn_app (goodIn_of _ (by decide +kernel)) ggX7_closesAt_X7_isBurst
set_option maxRecDepth 20000 in
theorem ggX7_closesAt_X7_fails : GoodIn wsX7_closesAt wsX7_fails := goodIn_r _ [17, 18, 35, 36, 37, 38, 39, 40, 41, 42, 43, 44, 45, 46, 47, 48, 49, 50] (by decide +kernel) (by decide +kernel)
set_option maxRecDepth 20000 in
theorem gX7_closesAt_X7_fails : GoodIn wsX7_closesAt (wsV RX7 56 RX7 yX7_fails wsX7_fails) := goodIn_app (goodIn_of _ (by decide +kernel)) ggX7_closesAt_X7_fails
set_option maxRecDepth 20000 in
theorem ggX7_closesAt_X7_isOpen : GoodIn wsX7_closesAt wsX7_isOpen := goodIn_ca (goodIn_r _ [22, 1, 2, 3, 4, 5, 6, 7, 8, 9, 10, 11, 12, 13, 35, 36, 37, 38, 39, 40, 41, 42, 43, 44, 45, 46, 47, 48, 49, 50] (by decide +kernel) (by decide +kernel)) (goodIn_sub (fun _ h => List.mem_cons_of_mem _ (List.mem_append_right _ h)) (by decide +kernel))
set_option maxRecDepth 20000 in
theorem gX7_closesAt_X7_isOpen : GoodIn wsX7_closesAt (wsV RX7 83 RX7 yX7_isOpen wsX7_isOpen) := goodIn_app (goodIn_of _ (by decide +kernel)) ggX7_closesAt_X7_isOpen
set_option maxRecDepth 20000 in
theorem ggX7_closesAt_X7_bound : GoodIn wsX7_closesAt wsX7_bound := goodIn_ca (goodIn_r _ [26, 6, 10, 11, 12, 4, 13, 27, 28, 29, 30, 35, 36, 37, 38, 39, 40, 41, 42, 43, 44, 45, 46, 47, 48, 49, 50] (by decide +kernel) (by decide +kernel)) (goodIn_sub (fun _ h => List.mem_cons_of_mem _ (List.mem_append_right _ h)) (by decide +kernel))
set_option maxRecDepth 20000 in
theorem gX7_closesAt_X7_bound : GoodIn wsX7_closesAt (wsV RX7 113 RX7 yX7_bound wsX7_bound) := goodIn_app (goodIn_of _ (by decide +kernel)) ggX7_closesAt_X7_bound
set_option maxRecDepth 20000 in
theorem ggX7_closesAt_X7_done : GoodIn wsX7_closesAt wsX7_done := goodIn_r _ [34, 18, 35, 36, 37, 38, 39, 40, 41, 42, 43, 44, 45, 46, 47, 48, 49, 50] (by decide +kernel) (by decide +kernel)
set_option maxRecDepth 20000 in
theorem gX7_closesAt_X7_done : GoodIn wsX7_closesAt (wsV RX7 49 RX7 yX7_done wsX7_done) := goodIn_app (goodIn_of _ (by decide +kernel)) ggX7_closesAt_X7_done
theorem dX7_closesAt_0 : decode cX7_closesAt 0 = .ok (.aload_n 0, 1) := by decide +kernel
theorem dX7_closesAt_1 : decode cX7_closesAt 1 = .ok (.iload_n 1, 1) := by decide +kernel
theorem dX7_closesAt_2 : decode cX7_closesAt 2 = .ok (.invokevirtual 45, 3) := by decide +kernel
theorem dX7_closesAt_5 : decode cX7_closesAt 5 = .ok (.ifCond .ne 9, 3) := by decide +kernel
theorem dX7_closesAt_8 : decode cX7_closesAt 8 = .ok (.aload_n 0, 1) := by decide +kernel
theorem dX7_closesAt_9 : decode cX7_closesAt 9 = .ok (.iconst 1, 1) := by decide +kernel
theorem dX7_closesAt_10 : decode cX7_closesAt 10 = .ok (.invokevirtual 56, 3) := by decide +kernel
theorem dX7_closesAt_13 : decode cX7_closesAt 13 = .ok (.ireturn, 1) := by decide +kernel
theorem dX7_closesAt_14 : decode cX7_closesAt 14 = .ok (.aload_n 0, 1) := by decide +kernel
theorem dX7_closesAt_15 : decode cX7_closesAt 15 = .ok (.iload_n 1, 1) := by decide +kernel
theorem dX7_closesAt_16 : decode cX7_closesAt 16 = .ok (.invokevirtual 83, 3) := by decide +kernel
theorem dX7_closesAt_19 : decode cX7_closesAt 19 = .ok (.ifCond .eq 17, 3) := by decide +kernel
theorem dX7_closesAt_22 : decode cX7_closesAt 22 = .ok (.aload_n 0, 1) := by decide +kernel
theorem dX7_closesAt_23 : decode cX7_closesAt 23 = .ok (.aload_n 0, 1) := by decide +kernel
theorem dX7_closesAt_24 : decode cX7_closesAt 24 = .ok (.iload_n 1, 1) := by decide +kernel
theorem dX7_closesAt_25 : decode cX7_closesAt 25 = .ok (.invokevirtual 113, 3) := by decide +kernel
theorem dX7_closesAt_28 : decode cX7_closesAt 28 = .ok (.iconst 1, 1) := by decide +kernel
theorem dX7_closesAt_29 : decode cX7_closesAt 29 = .ok (.iadd, 1) := by decide +kernel
theorem dX7_closesAt_30 : decode cX7_closesAt 30 = .ok (.invokevirtual 49, 3) := by decide +kernel
theorem dX7_closesAt_33 : decode cX7_closesAt 33 = .ok (.goto 8, 3) := by decide +kernel
theorem dX7_closesAt_36 : decode cX7_closesAt 36 = .ok (.aload_n 0, 1) := by decide +kernel
theorem dX7_closesAt_37 : decode cX7_closesAt 37 = .ok (.iconst 2, 1) := by decide +kernel
theorem dX7_closesAt_38 : decode cX7_closesAt 38 = .ok (.invokevirtual 56, 3) := by decide +kernel
theorem dX7_closesAt_41 : decode cX7_closesAt 41 = .ok (.ireturn, 1) := by decide +kernel
set_option maxRecDepth 20000 in
theorem ggX7_nextClosing_X7_isOpen : GoodIn wsX7_nextClosing wsX7_isOpen := goodIn_ca (goodIn_r _ [6, 7, 8, 9, 5, 10, 1, 11, 12, 13, 14, 15, 16, 17, 35, 36, 37, 38, 39, 40, 41, 42, 43, 44, 45, 46, 47, 48, 49, 50] (by decide +kernel) (by decide +kernel)) (goodIn_sub (fun _ h => List.mem_cons_of_mem _ (List.mem_append_right _ h)) (by decide +kernel))
set_option maxRecDepth 20000 in
theorem gX7_nextClosing_X7_isOpen : GoodIn wsX7_nextClosing (wsV RX7 83 RX7 yX7_isOpen wsX7_isOpen) := goodIn_app (goodIn_of _ (by decide +kernel)) ggX7_nextClosing_X7_isOpen
set_option maxRecDepth 20000 in
theorem ggX7_nextClosing_X7_bound : GoodIn wsX7_nextClosing wsX7_bound := goodIn_ca (goodIn_r _ [21, 1, 14, 15, 16, 5, 17, 22, 23, 24, 25, 35, 36, 37, 38, 39, 40, 41, 42, 43, 44, 45, 46, 47, 48, 49, 50] (by decide +kernel) (by decide +kernel)) (goodIn_sub (fun _ h => List.mem_cons_of_mem _ (List.mem_append_right _ h)) (by decide +kernel))
set_option maxRecDepth 20000 in
theorem gX7_nextClosing_X7_bound : GoodIn wsX7_nextClosing (wsV RX7 113 RX7 yX7_bound wsX7_bound) := goodIn_app (goodIn_of _ (by decide +kernel)) ggX7_nextClosing_X7_bound
set_option maxRecDepth 20000 in
theorem ggX7_nextClosing_X7_of : GoodIn wsX7_nextClosing wsX7_of := goodIn_ca (goodIn_r _ [17, 1, 35, 36, 37, 38, 39, 40, 41, 42, 43, 44, 45, 46, 47, 48, 49, 50] (by decide +kernel) (by decide +kernel)) (goodIn_sub (fun _ h => List.mem_cons_of_mem _ (List.mem_append_right _ h)) (by decide +kernel))
set_option maxRecDepth 20000 in
theorem gX7_nextClosing_X7_of : GoodIn wsX7_nextClosing (wsV RX7 41 RX7 yX7_of wsX7_of) := goodIn_app (goodIn_of _ (by decide +kernel)) ggX7_nextClosing_X7_of
set_option maxRecDepth 20000 in
theorem ggX7_nextClosing_X7_fails : GoodIn wsX7_nextClosing wsX7_fails := goodIn_r _ [29, 30, 35, 36, 37, 38, 39, 40, 41, 42, 43, 44, 45, 46, 47, 48, 49, 50] (by decide +kernel) (by decide +kernel)
set_option maxRecDepth 20000 in
theorem gX7_nextClosing_X7_fails : GoodIn wsX7_nextClosing (wsV RX7 56 RX7 yX7_fails wsX7_fails) := goodIn_app (goodIn_of _ (by decide +kernel)) ggX7_nextClosing_X7_fails
set_option maxRecDepth 20000 in
theorem ggX7_nextClosing_X7_done : GoodIn wsX7_nextClosing wsX7_done := goodIn_r _ [34, 30, 35, 36, 37, 38, 39, 40, 41, 42, 43, 44, 45, 46, 47, 48, 49, 50] (by decide +kernel) (by decide +kernel)
set_option maxRecDepth 20000 in
theorem gX7_nextClosing_X7_done : GoodIn wsX7_nextClosing (wsV RX7 49 RX7 yX7_done wsX7_done) := goodIn_app (goodIn_of _ (by decide +kernel)) ggX7_nextClosing_X7_done
theorem dX7_nextClosing_0 : decode cX7_nextClosing 0 = .ok (.iconst (-1), 1) := by decide +kernel
theorem dX7_nextClosing_1 : decode cX7_nextClosing 1 = .ok (.istore_n 1, 1) := by decide +kernel
theorem dX7_nextClosing_2 : decode cX7_nextClosing 2 = .ok (.iconst 0, 1) := by decide +kernel
theorem dX7_nextClosing_3 : decode cX7_nextClosing 3 = .ok (.istore_n 2, 1) := by decide +kernel
theorem dX7_nextClosing_4 : decode cX7_nextClosing 4 = .ok (.iload_n 2, 1) := by decide +kernel
theorem dX7_nextClosing_5 : decode cX7_nextClosing 5 = .ok (.aload_n 0, 1) := by decide +kernel
theorem dX7_nextClosing_6 : decode cX7_nextClosing 6 = .ok (.getfield 7, 3) := by decide +kernel
theorem dX7_nextClosing_9 : decode cX7_nextClosing 9 = .ok (.sipush 1401, 3) := by decide +kernel
theorem dX7_nextClosing_12 : decode cX7_nextClosing 12 = .ok (.iaload, 1) := by decide +kernel
theorem dX7_nextClosing_13 : decode cX7_nextClosing 13 = .ok (.if_icmp .ge 65, 3) := by decide +kernel
theorem dX7_nextClosing_16 : decode cX7_nextClosing 16 = .ok (.aload_n 0, 1) := by decide +kernel
theorem dX7_nextClosing_17 : decode cX7_nextClosing 17 = .ok (.iload_n 2, 1) := by decide +kernel
theorem dX7_nextClosing_18 : decode cX7_nextClosing 18 = .ok (.invokevirtual 83, 3) := by decide +kernel
theorem dX7_nextClosing_21 : decode cX7_nextClosing 21 = .ok (.ifCond .eq 51, 3) := by decide +kernel
theorem dX7_nextClosing_24 : decode cX7_nextClosing 24 = .ok (.iload_n 1, 1) := by decide +kernel
theorem dX7_nextClosing_25 : decode cX7_nextClosing 25 = .ok (.iconst (-1), 1) := by decide +kernel
theorem dX7_nextClosing_26 : decode cX7_nextClosing 26 = .ok (.if_icmp .eq 44, 3) := by decide +kernel
theorem dX7_nextClosing_29 : decode cX7_nextClosing 29 = .ok (.aload_n 0, 1) := by decide +kernel
theorem dX7_nextClosing_30 : decode cX7_nextClosing 30 = .ok (.iload_n 2, 1) := by decide +kernel
theorem dX7_nextClosing_31 : decode cX7_nextClosing 31 = .ok (.invokevirtual 113, 3) := by decide +kernel
theorem dX7_nextClosing_34 : decode cX7_nextClosing 34 = .ok (.aload_n 0, 1) := by decide +kernel
theorem dX7_nextClosing_35 : decode cX7_nextClosing 35 = .ok (.iload_n 1, 1) := by decide +kernel
theorem dX7_nextClosing_36 : decode cX7_nextClosing 36 = .ok (.invokevirtual 113, 3) := by decide +kernel
theorem dX7_nextClosing_39 : decode cX7_nextClosing 39 = .ok (.if_icmp .lt 31, 3) := by decide +kernel
theorem dX7_nextClosing_42 : decode cX7_nextClosing 42 = .ok (.aload_n 0, 1) := by decide +kernel
theorem dX7_nextClosing_43 : decode cX7_nextClosing 43 = .ok (.iload_n 2, 1) := by decide +kernel
theorem dX7_nextClosing_44 : decode cX7_nextClosing 44 = .ok (.invokevirtual 113, 3) := by decide +kernel
theorem dX7_nextClosing_47 : decode cX7_nextClosing 47 = .ok (.aload_n 0, 1) := by decide +kernel
theorem dX7_nextClosing_48 : decode cX7_nextClosing 48 = .ok (.iload_n 1, 1) := by decide +kernel
theorem dX7_nextClosing_49 : decode cX7_nextClosing 49 = .ok (.invokevirtual 113, 3) := by decide +kernel
theorem dX7_nextClosing_52 : decode cX7_nextClosing 52 = .ok (.if_icmp .ne 20, 3) := by decide +kernel
theorem dX7_nextClosing_55 : decode cX7_nextClosing 55 = .ok (.aload_n 0, 1) := by decide +kernel
theorem dX7_nextClosing_56 : decode cX7_nextClosing 56 = .ok (.iload_n 2, 1) := by decide +kernel
theorem dX7_nextClosing_57 : decode cX7_nextClosing 57 = .ok (.iconst 3, 1) := by decide +kernel
theorem dX7_nextClosing_58 : decode cX7_nextClosing 58 = .ok (.invokevirtual 41, 3) := by decide +kernel
theorem dX7_nextClosing_61 : decode cX7_nextClosing 61 = .ok (.aload_n 0, 1) := by decide +kernel
theorem dX7_nextClosing_62 : decode cX7_nextClosing 62 = .ok (.iload_n 1, 1) := by decide +kernel
theorem dX7_nextClosing_63 : decode cX7_nextClosing 63 = .ok (.iconst 3, 1) := by decide +kernel
theorem dX7_nextClosing_64 : decode cX7_nextClosing 64 = .ok (.invokevirtual 41, 3) := by decide +kernel
theorem dX7_nextClosing_67 : decode cX7_nextClosing 67 = .ok (.if_icmp .ge 5, 3) := by decide +kernel
theorem dX7_nextClosing_70 : decode cX7_nextClosing 70 = .ok (.iload_n 2, 1) := by decide +kernel
theorem dX7_nextClosing_71 : decode cX7_nextClosing 71 = .ok (.istore_n 1, 1) := by decide +kernel
theorem dX7_nextClosing_72 : decode cX7_nextClosing 72 = .ok (.iinc 2 1, 3) := by decide +kernel
theorem dX7_nextClosing_75 : decode cX7_nextClosing 75 = .ok (.goto (-71), 3) := by decide +kernel
theorem dX7_nextClosing_78 : decode cX7_nextClosing 78 = .ok (.iload_n 1, 1) := by decide +kernel
theorem dX7_nextClosing_79 : decode cX7_nextClosing 79 = .ok (.iconst (-1), 1) := by decide +kernel
theorem dX7_nextClosing_80 : decode cX7_nextClosing 80 = .ok (.if_icmp .ne 11, 3) := by decide +kernel
theorem dX7_nextClosing_83 : decode cX7_nextClosing 83 = .ok (.aload_n 0, 1) := by decide +kernel
theorem dX7_nextClosing_84 : decode cX7_nextClosing 84 = .ok (.iconst 1, 1) := by decide +kernel
theorem dX7_nextClosing_85 : decode cX7_nextClosing 85 = .ok (.invokevirtual 56, 3) := by decide +kernel
theorem dX7_nextClosing_88 : decode cX7_nextClosing 88 = .ok (.goto 8, 3) := by decide +kernel
theorem dX7_nextClosing_91 : decode cX7_nextClosing 91 = .ok (.aload_n 0, 1) := by decide +kernel
theorem dX7_nextClosing_92 : decode cX7_nextClosing 92 = .ok (.iload_n 1, 1) := by decide +kernel
theorem dX7_nextClosing_93 : decode cX7_nextClosing 93 = .ok (.invokevirtual 49, 3) := by decide +kernel
theorem dX7_nextClosing_96 : decode cX7_nextClosing 96 = .ok (.ireturn, 1) := by decide +kernel
set_option maxRecDepth 20000 in
theorem ggX7_averageLength_X7_isKey : GoodIn wsX7_averageLength wsX7_isKey := goodIn_r _ [6, 7, 8, 5, 9] (by decide +kernel) (by decide +kernel)
set_option maxRecDepth 20000 in
theorem gX7_averageLength_X7_isKey : GoodIn wsX7_averageLength (va_wsS RX7 53 yX7_isKey wsX7_isKey) := goodIn_app (goodIn_of _ (by decide +kernel)) ggX7_averageLength_X7_isKey
set_option maxRecDepth 20000 in
theorem ggX7_averageLength_X7_isBurst : GoodIn wsX7_averageLength wsX7_isBurst := goodIn_ca (goodIn_r _ [13, 2, 7, 8, 5, 9, 14, 15, 16, 17, 18, 19, 20, 21, 22, 23, 24, 25, 26, 27, 28, 29, 30, 31, 32, 33] (by decide +kernel) (by decide +kernel)) (goodIn_sub (fun _ h => List.mem_cons_of_mem _ (List.mem_append_right _ h)) (by decide +kernel))
set_option maxRecDepth 20000 in
theorem gX7_averageLength_X7_isBurst : GoodIn wsX7_averageLength (wsV RX7 45 RX7 yX7_isBurst wsX7_isBurst) := goodIn_app (goodIn_of _ (by decide +kernel)) ggX7_averageLength_X7_isBurst
set_option maxRecDepth 20000 in
theorem ggX7_averageLength_X7_of : GoodIn wsX7_averageLength wsX7_of := goodIn_ca (goodIn_r _ [17, 2, 18, 19, 20, 21, 22, 23, 24, 25, 26, 27, 28, 29, 30, 31, 32, 33] (by decide +kernel) (by decide +kernel)) (goodIn_sub (fun _ h => List.mem_cons_of_mem _ (List.mem_append_right _ h)) (by decide +kernel))
set_option maxRecDepth 20000 in
theorem gX7_averageLength_X7_of : GoodIn wsX7_averageLength (wsV RX7 41 RX7 yX7_of wsX7_of) := goodIn_app (goodIn_of _ (by decide +kernel)) ggX7_averageLength_X7_of
theorem dX7_averageLength_0 : decode cX7_averageLength 0 = .ok (.aload_n 0, 1) := by decide +kernel
theorem dX7_averageLength_1 : decode cX7_averageLength 1 = .ok (.iload_n 1, 1) := by decide +kernel
theorem dX7_averageLength_2 : decode cX7_averageLength 2 = .ok (.invokestatic 53, 3) := by decide +kernel
theorem dX7_averageLength_5 : decode cX7_averageLength 5 = .ok (.ifCond .eq 7, 3) := by decide +kernel
theorem dX7_averageLength_8 : decode cX7_averageLength 8 = .ok (.iconst 0, 1) := by decide +kernel
theorem dX7_averageLength_9 : decode cX7_averageLength 9 = .ok (.goto 4, 3) := by decide +kernel
theorem dX7_averageLength_12 : decode cX7_averageLength 12 = .ok (.iconst 1, 1) := by decide +kernel
theorem dX7_averageLength_13 : decode cX7_averageLength 13 = .ok (.putfield 34, 3) := by decide +kernel
theorem dX7_averageLength_16 : decode cX7_averageLength 16 = .ok (.aload_n 0, 1) := by decide +kernel
theorem dX7_averageLength_17 : decode cX7_averageLength 17 = .ok (.getfield 34, 3) := by decide +kernel
theorem dX7_averageLength_20 : decode cX7_averageLength 20 = .ok (.ifCond .eq 5, 3) := by decide +kernel
theorem dX7_averageLength_23 : decode cX7_averageLength 23 = .ok (.dconst 0, 1) := by decide +kernel
theorem dX7_averageLength_24 : decode cX7_averageLength 24 = .ok (.dreturn, 1) := by decide +kernel
theorem dX7_averageLength_25 : decode cX7_averageLength 25 = .ok (.iconst 0, 1) := by decide +kernel
theorem dX7_averageLength_26 : decode cX7_averageLength 26 = .ok (.istore_n 2, 1) := by decide +kernel
theorem dX7_averageLength_27 : decode cX7_averageLength 27 = .ok (.iconst 0, 1) := by decide +kernel
theorem dX7_averageLength_28 : decode cX7_averageLength 28 = .ok (.istore_n 3, 1) := by decide +kernel
theorem dX7_averageLength_29 : decode cX7_averageLength 29 = .ok (.iconst 0, 1) := by decide +kernel
theorem dX7_averageLength_30 : decode cX7_averageLength 30 = .ok (.istore 4, 2) := by decide +kernel
theorem dX7_averageLength_32 : decode cX7_averageLength 32 = .ok (.iload 4, 2) := by decide +kernel
theorem dX7_averageLength_34 : decode cX7_averageLength 34 = .ok (.aload_n 0, 1) := by decide +kernel
theorem dX7_averageLength_35 : decode cX7_averageLength 35 = .ok (.getfield 7, 3) := by decide +kernel
theorem dX7_averageLength_38 : decode cX7_averageLength 38 = .ok (.sipush 1401, 3) := by decide +kernel
theorem dX7_averageLength_41 : decode cX7_averageLength 41 = .ok (.iaload, 1) := by decide +kernel
theorem dX7_averageLength_42 : decode cX7_averageLength 42 = .ok (.if_icmp .ge 50, 3) := by decide +kernel
theorem dX7_averageLength_45 : decode cX7_averageLength 45 = .ok (.aload_n 0, 1) := by decide +kernel
theorem dX7_averageLength_46 : decode cX7_averageLength 46 = .ok (.iload 4, 2) := by decide +kernel
theorem dX7_averageLength_48 : decode cX7_averageLength 48 = .ok (.invokevirtual 45, 3) := by decide +kernel
theorem dX7_averageLength_51 : decode cX7_averageLength 51 = .ok (.ifCond .eq 35, 3) := by decide +kernel
theorem dX7_averageLength_54 : decode cX7_averageLength 54 = .ok (.aload_n 0, 1) := by decide +kernel
theorem dX7_averageLength_55 : decode cX7_averageLength 55 = .ok (.iload 4, 2) := by decide +kernel
theorem dX7_averageLength_57 : decode cX7_averageLength 57 = .ok (.iconst 1, 1) := by decide +kernel
theorem dX7_averageLength_58 : decode cX7_averageLength 58 = .ok (.invokevirtual 41, 3) := by decide +kernel
theorem dX7_averageLength_61 : decode cX7_averageLength 61 = .ok (.iload_n 1, 1) := by decide +kernel
theorem dX7_averageLength_62 : decode cX7_averageLength 62 = .ok (.if_icmp .ne 24, 3) := by decide +kernel
theorem dX7_averageLength_65 : decode cX7_averageLength 65 = .ok (.iinc 2 1, 3) := by decide +kernel
theorem dX7_averageLength_68 : decode cX7_averageLength 68 = .ok (.iload_n 3, 1) := by decide +kernel
theorem dX7_averageLength_69 : decode cX7_averageLength 69 = .ok (.aload_n 0, 1) := by decide +kernel
theorem dX7_averageLength_70 : decode cX7_averageLength 70 = .ok (.iload 4, 2) := by decide +kernel
theorem dX7_averageLength_72 : decode cX7_averageLength 72 = .ok (.iconst 3, 1) := by decide +kernel
theorem dX7_averageLength_73 : decode cX7_averageLength 73 = .ok (.invokevirtual 41, 3) := by decide +kernel
theorem dX7_averageLength_76 : decode cX7_averageLength 76 = .ok (.aload_n 0, 1) := by decide +kernel
theorem dX7_averageLength_77 : decode cX7_averageLength 77 = .ok (.iload 4, 2) := by decide +kernel
theorem dX7_averageLength_79 : decode cX7_averageLength 79 = .ok (.iconst 2, 1) := by decide +kernel
theorem dX7_averageLength_80 : decode cX7_averageLength 80 = .ok (.invokevirtual 41, 3) := by decide +kernel
theorem dX7_averageLength_83 : decode cX7_averageLength 83 = .ok (.isub, 1) := by decide +kernel
theorem dX7_averageLength_84 : decode cX7_averageLength 84 = .ok (.iadd, 1) := by decide +kernel
theorem dX7_averageLength_85 : decode cX7_averageLength 85 = .ok (.istore_n 3, 1) := by decide +kernel
theorem dX7_averageLength_86 : decode cX7_averageLength 86 = .ok (.iinc 4 1, 3) := by decide +kernel
theorem dX7_averageLength_89 : decode cX7_averageLength 89 = .ok (.goto (-57), 3) := by decide +kernel
theorem dX7_averageLength_92 : decode cX7_averageLength 92 = .ok (.aload_n 0, 1) := by decide +kernel
theorem dX7_averageLength_93 : decode cX7_averageLength 93 = .ok (.iload_n 2, 1) := by decide +kernel
theorem dX7_averageLength_94 : decode cX7_averageLength 94 = .ok (.ifCond .ne 7, 3) := by decide +kernel
theorem dX7_averageLength_97 : decode cX7_averageLength 97 = .ok (.iconst 2, 1) := by decide +kernel
theorem dX7_averageLength_98 : decode cX7_averageLength 98 = .ok (.goto 4, 3) := by decide +kernel
theorem dX7_averageLength_101 : decode cX7_averageLength 101 = .ok (.iconst 0, 1) := by decide +kernel
theorem dX7_averageLength_102 : decode cX7_averageLength 102 = .ok (.putfield 34, 3) := by decide +kernel
theorem dX7_averageLength_105 : decode cX7_averageLength 105 = .ok (.iload_n 2, 1) := by decide +kernel
theorem dX7_averageLength_106 : decode cX7_averageLength 106 = .ok (.ifCond .ne 7, 3) := by decide +kernel
theorem dX7_averageLength_109 : decode cX7_averageLength 109 = .ok (.dconst 0, 1) := by decide +kernel
theorem dX7_averageLength_110 : decode cX7_averageLength 110 = .ok (.goto 8, 3) := by decide +kernel
theorem dX7_averageLength_113 : decode cX7_averageLength 113 = .ok (.iload_n 3, 1) := by decide +kernel
theorem dX7_averageLength_114 : decode cX7_averageLength 114 = .ok (.i2d, 1) := by decide +kernel
theorem dX7_averageLength_115 : decode cX7_averageLength 115 = .ok (.iload_n 2, 1) := by decide +kernel
theorem dX7_averageLength_116 : decode cX7_averageLength 116 = .ok (.i2d, 1) := by decide +kernel
theorem dX7_averageLength_117 : decode cX7_averageLength 117 = .ok (.ddiv, 1) := by decide +kernel
theorem dX7_averageLength_118 : decode cX7_averageLength 118 = .ok (.dreturn, 1) := by decide +kernel
set_option maxRecDepth 20000 in
theorem ggX7_mergeCount_X7_done : GoodIn wsX7_mergeCount wsX7_done := goodIn_r _ [6, 7, 8, 9, 10, 11, 12, 13, 14, 15, 16, 17, 18, 19, 20, 21, 22, 23] (by decide +kernel) (by decide +kernel)
set_option maxRecDepth 20000 in
theorem gX7_mergeCount_X7_done : GoodIn wsX7_mergeCount (wsV RX7 49 RX7 yX7_done wsX7_done) := goodIn_app (goodIn_of _ (by decide +kernel)) ggX7_mergeCount_X7_done
theorem dX7_mergeCount_0 : decode cX7_mergeCount 0 = .ok (.aload_n 0, 1) := by decide +kernel
theorem dX7_mergeCount_1 : decode cX7_mergeCount 1 = .ok (.aload_n 0, 1) := by decide +kernel
theorem dX7_mergeCount_2 : decode cX7_mergeCount 2 = .ok (.getfield 7, 3) := by decide +kernel
theorem dX7_mergeCount_5 : decode cX7_mergeCount 5 = .ok (.sipush 1422, 3) := by decide +kernel
theorem dX7_mergeCount_8 : decode cX7_mergeCount 8 = .ok (.iaload, 1) := by decide +kernel
theorem dX7_mergeCount_9 : decode cX7_mergeCount 9 = .ok (.invokevirtual 49, 3) := by decide +kernel
theorem dX7_mergeCount_12 : decode cX7_mergeCount 12 = .ok (.ireturn, 1) := by decide +kernel
theorem dX7_begins_0 : decode cX7_begins 0 = .ok (.aload_n 0, 1) := by decide +kernel
theorem dX7_begins_1 : decode cX7_begins 1 = .ok (.getfield 7, 3) := by decide +kernel
theorem dX7_begins_4 : decode cX7_begins 4 = .ok (.iconst 4, 1) := by decide +kernel
theorem dX7_begins_5 : decode cX7_begins 5 = .ok (.iload_n 1, 1) := by decide +kernel
theorem dX7_begins_6 : decode cX7_begins 6 = .ok (.imul, 1) := by decide +kernel
theorem dX7_begins_7 : decode cX7_begins 7 = .ok (.iconst 0, 1) := by decide +kernel
theorem dX7_begins_8 : decode cX7_begins 8 = .ok (.iadd, 1) := by decide +kernel
theorem dX7_begins_9 : decode cX7_begins 9 = .ok (.iaload, 1) := by decide +kernel
theorem dX7_begins_10 : decode cX7_begins 10 = .ok (.iload_n 2, 1) := by decide +kernel
theorem dX7_begins_11 : decode cX7_begins 11 = .ok (.if_icmp .ne 7, 3) := by decide +kernel
theorem dX7_begins_14 : decode cX7_begins 14 = .ok (.iconst 1, 1) := by decide +kernel
theorem dX7_begins_15 : decode cX7_begins 15 = .ok (.goto 4, 3) := by decide +kernel
theorem dX7_begins_18 : decode cX7_begins 18 = .ok (.iconst 0, 1) := by decide +kernel
theorem dX7_begins_19 : decode cX7_begins 19 = .ok (.istore_n 3, 1) := by decide +kernel
theorem dX7_begins_20 : decode cX7_begins 20 = .ok (.iconst 0, 1) := by decide +kernel
theorem dX7_begins_21 : decode cX7_begins 21 = .ok (.istore 4, 2) := by decide +kernel
theorem dX7_begins_23 : decode cX7_begins 23 = .ok (.iload 4, 2) := by decide +kernel
theorem dX7_begins_25 : decode cX7_begins 25 = .ok (.aload_n 0, 1) := by decide +kernel
theorem dX7_begins_26 : decode cX7_begins 26 = .ok (.getfield 7, 3) := by decide +kernel
theorem dX7_begins_29 : decode cX7_begins 29 = .ok (.sipush 400, 3) := by decide +kernel
theorem dX7_begins_32 : decode cX7_begins 32 = .ok (.iaload, 1) := by decide +kernel
theorem dX7_begins_33 : decode cX7_begins 33 = .ok (.if_icmp .ge 101, 3) := by decide +kernel
theorem dX7_begins_36 : decode cX7_begins 36 = .ok (.aload_n 0, 1) := by decide +kernel
theorem dX7_begins_37 : decode cX7_begins 37 = .ok (.getfield 7, 3) := by decide +kernel
theorem dX7_begins_40 : decode cX7_begins 40 = .ok (.iconst 4, 1) := by decide +kernel
theorem dX7_begins_41 : decode cX7_begins 41 = .ok (.iload_n 1, 1) := by decide +kernel
theorem dX7_begins_42 : decode cX7_begins 42 = .ok (.imul, 1) := by decide +kernel
theorem dX7_begins_43 : decode cX7_begins 43 = .ok (.iconst 1, 1) := by decide +kernel
theorem dX7_begins_44 : decode cX7_begins 44 = .ok (.iadd, 1) := by decide +kernel
theorem dX7_begins_45 : decode cX7_begins 45 = .ok (.iaload, 1) := by decide +kernel
theorem dX7_begins_46 : decode cX7_begins 46 = .ok (.aload_n 0, 1) := by decide +kernel
theorem dX7_begins_47 : decode cX7_begins 47 = .ok (.getfield 7, 3) := by decide +kernel
theorem dX7_begins_50 : decode cX7_begins 50 = .ok (.iconst 4, 1) := by decide +kernel
theorem dX7_begins_51 : decode cX7_begins 51 = .ok (.iload 4, 2) := by decide +kernel
theorem dX7_begins_53 : decode cX7_begins 53 = .ok (.imul, 1) := by decide +kernel
theorem dX7_begins_54 : decode cX7_begins 54 = .ok (.iconst 1, 1) := by decide +kernel
theorem dX7_begins_55 : decode cX7_begins 55 = .ok (.iadd, 1) := by decide +kernel
theorem dX7_begins_56 : decode cX7_begins 56 = .ok (.iaload, 1) := by decide +kernel
theorem dX7_begins_57 : decode cX7_begins 57 = .ok (.isub, 1) := by decide +kernel
theorem dX7_begins_58 : decode cX7_begins 58 = .ok (.istore 5, 2) := by decide +kernel
theorem dX7_begins_60 : decode cX7_begins 60 = .ok (.iload 5, 2) := by decide +kernel
theorem dX7_begins_62 : decode cX7_begins 62 = .ok (.ifCond .le 18, 3) := by decide +kernel
theorem dX7_begins_65 : decode cX7_begins 65 = .ok (.iload 5, 2) := by decide +kernel
theorem dX7_begins_67 : decode cX7_begins 67 = .ok (.aload_n 0, 1) := by decide +kernel
theorem dX7_begins_68 : decode cX7_begins 68 = .ok (.getfield 7, 3) := by decide +kernel
theorem dX7_begins_71 : decode cX7_begins 71 = .ok (.sipush 1402, 3) := by decide +kernel
theorem dX7_begins_74 : decode cX7_begins 74 = .ok (.iload_n 2, 1) := by decide +kernel
theorem dX7_begins_75 : decode cX7_begins 75 = .ok (.iadd, 1) := by decide +kernel
theorem dX7_begins_76 : decode cX7_begins 76 = .ok (.iaload, 1) := by decide +kernel
theorem dX7_begins_77 : decode cX7_begins 77 = .ok (.if_icmp .le 14, 3) := by decide +kernel
theorem dX7_begins_80 : decode cX7_begins 80 = .ok (.iload 5, 2) := by decide +kernel
theorem dX7_begins_82 : decode cX7_begins 82 = .ok (.ifCond .ne 13, 3) := by decide +kernel
theorem dX7_begins_85 : decode cX7_begins 85 = .ok (.iload 4, 2) := by decide +kernel
theorem dX7_begins_87 : decode cX7_begins 87 = .ok (.iload_n 1, 1) := by decide +kernel
theorem dX7_begins_88 : decode cX7_begins 88 = .ok (.if_icmp .ge 7, 3) := by decide +kernel
theorem dX7_begins_91 : decode cX7_begins 91 = .ok (.iconst 1, 1) := by decide +kernel
theorem dX7_begins_92 : decode cX7_begins 92 = .ok (.goto 4, 3) := by decide +kernel
theorem dX7_begins_95 : decode cX7_begins 95 = .ok (.iconst 0, 1) := by decide +kernel
theorem dX7_begins_96 : decode cX7_begins 96 = .ok (.istore 6, 2) := by decide +kernel
theorem dX7_begins_98 : decode cX7_begins 98 = .ok (.iload_n 3, 1) := by decide +kernel
theorem dX7_begins_99 : decode cX7_begins 99 = .ok (.ifCond .eq 27, 3) := by decide +kernel
theorem dX7_begins_102 : decode cX7_begins 102 = .ok (.aload_n 0, 1) := by decide +kernel
theorem dX7_begins_103 : decode cX7_begins 103 = .ok (.getfield 7, 3) := by decide +kernel
theorem dX7_begins_106 : decode cX7_begins 106 = .ok (.iconst 4, 1) := by decide +kernel
theorem dX7_begins_107 : decode cX7_begins 107 = .ok (.iload 4, 2) := by decide +kernel
theorem dX7_begins_109 : decode cX7_begins 109 = .ok (.imul, 1) := by decide +kernel
theorem dX7_begins_110 : decode cX7_begins 110 = .ok (.iconst 0, 1) := by decide +kernel
theorem dX7_begins_111 : decode cX7_begins 111 = .ok (.iadd, 1) := by decide +kernel
theorem dX7_begins_112 : decode cX7_begins 112 = .ok (.iaload, 1) := by decide +kernel
theorem dX7_begins_113 : decode cX7_begins 113 = .ok (.iload_n 2, 1) := by decide +kernel
theorem dX7_begins_114 : decode cX7_begins 114 = .ok (.if_icmp .ne 8, 3) := by decide +kernel
theorem dX7_begins_117 : decode cX7_begins 117 = .ok (.iload 6, 2) := by decide +kernel
theorem dX7_begins_119 : decode cX7_begins 119 = .ok (.ifCond .ne 7, 3) := by decide +kernel
theorem dX7_begins_122 : decode cX7_begins 122 = .ok (.iconst 1, 1) := by decide +kernel
theorem dX7_begins_123 : decode cX7_begins 123 = .ok (.goto 4, 3) := by decide +kernel
theorem dX7_begins_126 : decode cX7_begins 126 = .ok (.iconst 0, 1) := by decide +kernel
theorem dX7_begins_127 : decode cX7_begins 127 = .ok (.istore_n 3, 1) := by decide +kernel
theorem dX7_begins_128 : decode cX7_begins 128 = .ok (.iinc 4 1, 3) := by decide +kernel
theorem dX7_begins_131 : decode cX7_begins 131 = .ok (.goto (-108), 3) := by decide +kernel
theorem dX7_begins_134 : decode cX7_begins 134 = .ok (.iload_n 3, 1) := by decide +kernel
theorem dX7_begins_135 : decode cX7_begins 135 = .ok (.ireturn, 1) := by decide +kernel
set_option maxRecDepth 20000 in
theorem ggX7_regrouped_X7_isKey : GoodIn wsX7_regrouped wsX7_isKey := goodIn_r _ [5, 6, 7, 4, 8] (by decide +kernel) (by decide +kernel)
set_option maxRecDepth 20000 in
theorem gX7_regrouped_X7_isKey : GoodIn wsX7_regrouped (va_wsS RX7 53 yX7_isKey wsX7_isKey) := goodIn_app (goodIn_of _ (by decide +kernel)) ggX7_regrouped_X7_isKey
set_option maxRecDepth 20000 in
theorem ggX7_regrouped_X7_fails : GoodIn wsX7_regrouped wsX7_fails := goodIn_r _ [12, 13, 22, 23, 24, 25, 26, 27, 28, 29, 30, 31, 32, 33, 34, 35, 36, 37] (by decide +kernel) (by decide +kernel)
set_option maxRecDepth 20000 in
theorem gX7_regrouped_X7_fails : GoodIn wsX7_regrouped (wsV RX7 56 RX7 yX7_fails wsX7_fails) := goodIn_app (goodIn_of _ (by decide +kernel)) ggX7_regrouped_X7_fails
set_option maxRecDepth 20000 in
theorem ggX7_regrouped_X7_begins : GoodIn wsX7_regrouped wsX7_begins := goodIn_ca (goodIn_r _ [17, 1, 22, 23, 24, 25, 26, 27, 28, 29, 30, 31, 32, 33, 34, 35, 36, 37] (by decide +kernel) (by decide +kernel)) (goodIn_sub (fun _ h => List.mem_cons_of_mem _ (List.mem_append_right _ h)) (by decide +kernel))
set_option maxRecDepth 20000 in
theorem gX7_regrouped_X7_begins : GoodIn wsX7_regrouped (wsV RX7 129 RX7 yX7_begins wsX7_begins) := goodIn_app (goodIn_of _ (by decide +kernel)) ggX7_regrouped_X7_begins
set_option maxRecDepth 20000 in
theorem ggX7_regrouped_X7_done : GoodIn wsX7_regrouped wsX7_done := goodIn_r _ [21, 13, 22, 23, 24, 25, 26, 27, 28, 29, 30, 31, 32, 33, 34, 35, 36, 37] (by decide +kernel) (by decide +kernel)
set_option maxRecDepth 20000 in
theorem gX7_regrouped_X7_done : GoodIn wsX7_regrouped (wsV RX7 49 RX7 yX7_done wsX7_done) := goodIn_app (goodIn_of _ (by decide +kernel)) ggX7_regrouped_X7_done
theorem dX7_regrouped_0 : decode cX7_regrouped 0 = .ok (.iload_n 1, 1) := by decide +kernel
theorem dX7_regrouped_1 : decode cX7_regrouped 1 = .ok (.invokestatic 53, 3) := by decide +kernel
theorem dX7_regrouped_4 : decode cX7_regrouped 4 = .ok (.ifCond .ne 9, 3) := by decide +kernel
theorem dX7_regrouped_7 : decode cX7_regrouped 7 = .ok (.aload_n 0, 1) := by decide +kernel
theorem dX7_regrouped_8 : decode cX7_regrouped 8 = .ok (.iconst 1, 1) := by decide +kernel
theorem dX7_regrouped_9 : decode cX7_regrouped 9 = .ok (.invokevirtual 56, 3) := by decide +kernel
theorem dX7_regrouped_12 : decode cX7_regrouped 12 = .ok (.ireturn, 1) := by decide +kernel
theorem dX7_regrouped_13 : decode cX7_regrouped 13 = .ok (.iconst 0, 1) := by decide +kernel
theorem dX7_regrouped_14 : decode cX7_regrouped 14 = .ok (.istore_n 2, 1) := by decide +kernel
theorem dX7_regrouped_15 : decode cX7_regrouped 15 = .ok (.iconst 0, 1) := by decide +kernel
theorem dX7_regrouped_16 : decode cX7_regrouped 16 = .ok (.istore_n 3, 1) := by decide +kernel
theorem dX7_regrouped_17 : decode cX7_regrouped 17 = .ok (.iload_n 3, 1) := by decide +kernel
theorem dX7_regrouped_18 : decode cX7_regrouped 18 = .ok (.aload_n 0, 1) := by decide +kernel
theorem dX7_regrouped_19 : decode cX7_regrouped 19 = .ok (.getfield 7, 3) := by decide +kernel
theorem dX7_regrouped_22 : decode cX7_regrouped 22 = .ok (.sipush 400, 3) := by decide +kernel
theorem dX7_regrouped_25 : decode cX7_regrouped 25 = .ok (.iaload, 1) := by decide +kernel
theorem dX7_regrouped_26 : decode cX7_regrouped 26 = .ok (.if_icmp .ge 26, 3) := by decide +kernel
theorem dX7_regrouped_29 : decode cX7_regrouped 29 = .ok (.iload_n 2, 1) := by decide +kernel
theorem dX7_regrouped_30 : decode cX7_regrouped 30 = .ok (.aload_n 0, 1) := by decide +kernel
theorem dX7_regrouped_31 : decode cX7_regrouped 31 = .ok (.iload_n 3, 1) := by decide +kernel
theorem dX7_regrouped_32 : decode cX7_regrouped 32 = .ok (.iload_n 1, 1) := by decide +kernel
theorem dX7_regrouped_33 : decode cX7_regrouped 33 = .ok (.invokevirtual 129, 3) := by decide +kernel
theorem dX7_regrouped_36 : decode cX7_regrouped 36 = .ok (.ifCond .eq 7, 3) := by decide +kernel
theorem dX7_regrouped_39 : decode cX7_regrouped 39 = .ok (.iconst 1, 1) := by decide +kernel
theorem dX7_regrouped_40 : decode cX7_regrouped 40 = .ok (.goto 4, 3) := by decide +kernel
theorem dX7_regrouped_43 : decode cX7_regrouped 43 = .ok (.iconst 0, 1) := by decide +kernel
theorem dX7_regrouped_44 : decode cX7_regrouped 44 = .ok (.iadd, 1) := by decide +kernel
theorem dX7_regrouped_45 : decode cX7_regrouped 45 = .ok (.istore_n 2, 1) := by decide +kernel
theorem dX7_regrouped_46 : decode cX7_regrouped 46 = .ok (.iinc 3 1, 3) := by decide +kernel
theorem dX7_regrouped_49 : decode cX7_regrouped 49 = .ok (.goto (-32), 3) := by decide +kernel
theorem dX7_regrouped_52 : decode cX7_regrouped 52 = .ok (.aload_n 0, 1) := by decide +kernel
theorem dX7_regrouped_53 : decode cX7_regrouped 53 = .ok (.iload_n 2, 1) := by decide +kernel
theorem dX7_regrouped_54 : decode cX7_regrouped 54 = .ok (.invokevirtual 49, 3) := by decide +kernel
theorem dX7_regrouped_57 : decode cX7_regrouped 57 = .ok (.ireturn, 1) := by decide +kernel
set_option maxRecDepth 20000 in
theorem ggX7_fire_X7_isBurst : GoodIn wsX7_fire wsX7_isBurst := goodIn_ca (goodIn_r _ [5, 6, 7, 8, 4, 9, 10, 11, 12, 13, 52, 53, 54, 55, 56, 57, 58, 59, 60, 61, 62, 63, 64, 65, 66, 67] (by decide +kernel) (by decide +kernel)) (goodIn_sub (fun _ h => List.mem_cons_of_mem _ (List.mem_append_right _ h)) (by decide +kernel))
set_option maxRecDepth 20000 in
theorem gX7_fire_X7_isBurst : GoodIn wsX7_fire (wsV RX7 45 RX7 yX7_isBurst wsX7_isBurst) := goodIn_app (goodIn_of _ (by decide +kernel)) ggX7_fire_X7_isBurst
set_option maxRecDepth 20000 in
theorem ggX7_fire_X7_fails : GoodIn wsX7_fire wsX7_fails := goodIn_r _ [17, 18, 52, 53, 54, 55, 56, 57, 58, 59, 60, 61, 62, 63, 64, 65, 66, 67] (by decide +kernel) (by decide +kernel)
set_option maxRecDepth 20000 in
theorem gX7_fire_X7_fails : GoodIn wsX7_fire (wsV RX7 56 RX7 yX7_fails wsX7_fails) := goodIn_app (goodIn_of _ (by decide +kernel)) ggX7_fire_X7_fails
set_option maxRecDepth 20000 in
theorem ggX7_fire_X7_isOpen : GoodIn wsX7_fire wsX7_isOpen := goodIn_ca (goodIn_r _ [22, 1, 2, 3, 4, 5, 6, 7, 8, 9, 10, 11, 12, 13, 52, 53, 54, 55, 56, 57, 58, 59, 60, 61, 62, 63, 64, 65, 66, 67] (by decide +kernel) (by decide +kernel)) (goodIn_sub (fun _ h => List.mem_cons_of_mem _ (List.mem_append_right _ h)) (by decide +kernel))
set_option maxRecDepth 20000 in
theorem gX7_fire_X7_isOpen : GoodIn wsX7_fire (wsV RX7 83 RX7 yX7_isOpen wsX7_isOpen) := goodIn_app (goodIn_of _ (by decide +kernel)) ggX7_fire_X7_isOpen
set_option maxRecDepth 20000 in
theorem ggX7_fire_X7_fires : GoodIn wsX7_fire wsX7_fires := goodIn_ca (goodIn_r _ [26, 10, 11, 12, 4, 13, 6, 27, 28, 29, 30, 31, 32, 33, 34, 35, 36, 37, 38, 39, 40, 41, 42, 43, 44, 45, 46, 47, 52, 53, 54, 55, 56, 57, 58, 59, 60, 61, 62, 63, 64, 65, 66, 67] (by decide +kernel) (by decide +kernel)) (goodIn_sub (fun _ h => List.mem_cons_of_mem _ (List.mem_append_right _ h)) (by decide +kernel))
set_option maxRecDepth 20000 in
theorem gX7_fire_X7_fires : GoodIn wsX7_fire (wsV RX7 103 RX7 yX7_fires wsX7_fires) := goodIn_app (goodIn_of _ (by decide +kernel)) ggX7_fire_X7_fires
set_option maxRecDepth 20000 in
theorem ggX7_fire_X7_done : GoodIn wsX7_fire wsX7_done := goodIn_r _ [51, 18, 52, 53, 54, 55, 56, 57, 58, 59, 60, 61, 62, 63, 64, 65, 66, 67] (by decide +kernel) (by decide +kernel)
set_option maxRecDepth 20000 in
theorem gX7_fire_X7_done : GoodIn wsX7_fire (wsV RX7 49 RX7 yX7_done wsX7_done) := goodIn_app (goodIn_of _ (by decide +kernel)) ggX7_fire_X7_done
theorem dX7_fire_0 : decode cX7_fire 0 = .ok (.aload_n 0, 1) := by decide +kernel
theorem dX7_fire_1 : decode cX7_fire 1 = .ok (.iload_n 1, 1) := by decide +kernel
theorem dX7_fire_2 : decode cX7_fire 2 = .ok (.invokevirtual 45, 3) := by decide +kernel
theorem dX7_fire_5 : decode cX7_fire 5 = .ok (.ifCond .ne 9, 3) := by decide +kernel
theorem dX7_fire_8 : decode cX7_fire 8 = .ok (.aload_n 0, 1) := by decide +kernel
theorem dX7_fire_9 : decode cX7_fire 9 = .ok (.iconst 1, 1) := by decide +kernel
theorem dX7_fire_10 : decode cX7_fire 10 = .ok (.invokevirtual 56, 3) := by decide +kernel
theorem dX7_fire_13 : decode cX7_fire 13 = .ok (.ireturn, 1) := by decide +kernel
theorem dX7_fire_14 : decode cX7_fire 14 = .ok (.aload_n 0, 1) := by decide +kernel
theorem dX7_fire_15 : decode cX7_fire 15 = .ok (.iload_n 1, 1) := by decide +kernel
theorem dX7_fire_16 : decode cX7_fire 16 = .ok (.invokevirtual 83, 3) := by decide +kernel
theorem dX7_fire_19 : decode cX7_fire 19 = .ok (.ifCond .eq 16, 3) := by decide +kernel
theorem dX7_fire_22 : decode cX7_fire 22 = .ok (.aload_n 0, 1) := by decide +kernel
theorem dX7_fire_23 : decode cX7_fire 23 = .ok (.aload_n 0, 1) := by decide +kernel
theorem dX7_fire_24 : decode cX7_fire 24 = .ok (.iconst 0, 1) := by decide +kernel
theorem dX7_fire_25 : decode cX7_fire 25 = .ok (.iload_n 1, 1) := by decide +kernel
theorem dX7_fire_26 : decode cX7_fire 26 = .ok (.invokevirtual 103, 3) := by decide +kernel
theorem dX7_fire_29 : decode cX7_fire 29 = .ok (.invokevirtual 49, 3) := by decide +kernel
theorem dX7_fire_32 : decode cX7_fire 32 = .ok (.goto 8, 3) := by decide +kernel
theorem dX7_fire_35 : decode cX7_fire 35 = .ok (.aload_n 0, 1) := by decide +kernel
theorem dX7_fire_36 : decode cX7_fire 36 = .ok (.iconst 2, 1) := by decide +kernel
theorem dX7_fire_37 : decode cX7_fire 37 = .ok (.invokevirtual 56, 3) := by decide +kernel
theorem dX7_fire_40 : decode cX7_fire 40 = .ok (.ireturn, 1) := by decide +kernel
set_option maxRecDepth 20000 in
theorem ggX7_firingCount_X7_done : GoodIn wsX7_firingCount wsX7_done := goodIn_r _ [6, 7, 8, 9, 10, 11, 12, 13, 14, 15, 16, 17, 18, 19, 20, 21, 22, 23] (by decide +kernel) (by decide +kernel)
set_option maxRecDepth 20000 in
theorem gX7_firingCount_X7_done : GoodIn wsX7_firingCount (wsV RX7 49 RX7 yX7_done wsX7_done) := goodIn_app (goodIn_of _ (by decide +kernel)) ggX7_firingCount_X7_done
theorem dX7_firingCount_0 : decode cX7_firingCount 0 = .ok (.aload_n 0, 1) := by decide +kernel
theorem dX7_firingCount_1 : decode cX7_firingCount 1 = .ok (.aload_n 0, 1) := by decide +kernel
theorem dX7_firingCount_2 : decode cX7_firingCount 2 = .ok (.getfield 7, 3) := by decide +kernel
theorem dX7_firingCount_5 : decode cX7_firingCount 5 = .ok (.sipush 1426, 3) := by decide +kernel
theorem dX7_firingCount_8 : decode cX7_firingCount 8 = .ok (.iaload, 1) := by decide +kernel
theorem dX7_firingCount_9 : decode cX7_firingCount 9 = .ok (.invokevirtual 49, 3) := by decide +kernel
theorem dX7_firingCount_12 : decode cX7_firingCount 12 = .ok (.ireturn, 1) := by decide +kernel
set_option maxRecDepth 20000 in
theorem ggX7_firing_X7_in : GoodIn wsX7_firing wsX7_in := goodIn_r _ [5] (by decide +kernel) (by decide +kernel)
set_option maxRecDepth 20000 in
theorem gX7_firing_X7_in : GoodIn wsX7_firing (va_wsS RX7 37 yX7_in wsX7_in) := goodIn_app (goodIn_of _ (by decide +kernel)) ggX7_firing_X7_in
set_option maxRecDepth 20000 in
theorem ggX7_firing_X7_fails : GoodIn wsX7_firing wsX7_fails := goodIn_r _ [9, 10, 15, 16, 17, 18, 19, 20, 21, 22, 23, 24, 25, 26, 27, 28, 29, 30] (by decide +kernel) (by decide +kernel)
set_option maxRecDepth 20000 in
theorem gX7_firing_X7_fails : GoodIn wsX7_firing (wsV RX7 56 RX7 yX7_fails wsX7_fails) := goodIn_app (goodIn_of _ (by decide +kernel)) ggX7_firing_X7_fails
set_option maxRecDepth 20000 in
theorem ggX7_firing_X7_done : GoodIn wsX7_firing wsX7_done := goodIn_r _ [14, 10, 15, 16, 17, 18, 19, 20, 21, 22, 23, 24, 25, 26, 27, 28, 29, 30] (by decide +kernel) (by decide +kernel)
set_option maxRecDepth 20000 in
theorem gX7_firing_X7_done : GoodIn wsX7_firing (wsV RX7 49 RX7 yX7_done wsX7_done) := goodIn_app (goodIn_of _ (by decide +kernel)) ggX7_firing_X7_done
theorem dX7_firing_0 : decode cX7_firing 0 = .ok (.iload_n 1, 1) := by decide +kernel
theorem dX7_firing_1 : decode cX7_firing 1 = .ok (.iconst 0, 1) := by decide +kernel
theorem dX7_firing_2 : decode cX7_firing 2 = .ok (.aload_n 0, 1) := by decide +kernel
theorem dX7_firing_3 : decode cX7_firing 3 = .ok (.getfield 7, 3) := by decide +kernel
theorem dX7_firing_6 : decode cX7_firing 6 = .ok (.sipush 1426, 3) := by decide +kernel
theorem dX7_firing_9 : decode cX7_firing 9 = .ok (.iaload, 1) := by decide +kernel
theorem dX7_firing_10 : decode cX7_firing 10 = .ok (.iconst 1, 1) := by decide +kernel
theorem dX7_firing_11 : decode cX7_firing 11 = .ok (.isub, 1) := by decide +kernel
theorem dX7_firing_12 : decode cX7_firing 12 = .ok (.invokestatic 37, 3) := by decide +kernel
theorem dX7_firing_15 : decode cX7_firing 15 = .ok (.ifCond .ne 9, 3) := by decide +kernel
theorem dX7_firing_18 : decode cX7_firing 18 = .ok (.aload_n 0, 1) := by decide +kernel
theorem dX7_firing_19 : decode cX7_firing 19 = .ok (.iconst 1, 1) := by decide +kernel
theorem dX7_firing_20 : decode cX7_firing 20 = .ok (.invokevirtual 56, 3) := by decide +kernel
theorem dX7_firing_23 : decode cX7_firing 23 = .ok (.ireturn, 1) := by decide +kernel
theorem dX7_firing_24 : decode cX7_firing 24 = .ok (.iload_n 2, 1) := by decide +kernel
theorem dX7_firing_25 : decode cX7_firing 25 = .ok (.iconst 0, 1) := by decide +kernel
theorem dX7_firing_26 : decode cX7_firing 26 = .ok (.iconst 5, 1) := by decide +kernel
theorem dX7_firing_27 : decode cX7_firing 27 = .ok (.invokestatic 37, 3) := by decide +kernel
theorem dX7_firing_30 : decode cX7_firing 30 = .ok (.ifCond .eq 25, 3) := by decide +kernel
theorem dX7_firing_33 : decode cX7_firing 33 = .ok (.aload_n 0, 1) := by decide +kernel
theorem dX7_firing_34 : decode cX7_firing 34 = .ok (.aload_n 0, 1) := by decide +kernel
theorem dX7_firing_35 : decode cX7_firing 35 = .ok (.getfield 7, 3) := by decide +kernel
theorem dX7_firing_38 : decode cX7_firing 38 = .ok (.sipush 1427, 3) := by decide +kernel
theorem dX7_firing_41 : decode cX7_firing 41 = .ok (.bipush 6, 2) := by decide +kernel
theorem dX7_firing_43 : decode cX7_firing 43 = .ok (.iload_n 1, 1) := by decide +kernel
theorem dX7_firing_44 : decode cX7_firing 44 = .ok (.imul, 1) := by decide +kernel
theorem dX7_firing_45 : decode cX7_firing 45 = .ok (.iadd, 1) := by decide +kernel
theorem dX7_firing_46 : decode cX7_firing 46 = .ok (.iload_n 2, 1) := by decide +kernel
theorem dX7_firing_47 : decode cX7_firing 47 = .ok (.iadd, 1) := by decide +kernel
theorem dX7_firing_48 : decode cX7_firing 48 = .ok (.iaload, 1) := by decide +kernel
theorem dX7_firing_49 : decode cX7_firing 49 = .ok (.invokevirtual 49, 3) := by decide +kernel
theorem dX7_firing_52 : decode cX7_firing 52 = .ok (.goto 8, 3) := by decide +kernel
theorem dX7_firing_55 : decode cX7_firing 55 = .ok (.aload_n 0, 1) := by decide +kernel
theorem dX7_firing_56 : decode cX7_firing 56 = .ok (.iconst 2, 1) := by decide +kernel
theorem dX7_firing_57 : decode cX7_firing 57 = .ok (.invokevirtual 56, 3) := by decide +kernel
theorem dX7_firing_60 : decode cX7_firing 60 = .ok (.ireturn, 1) := by decide +kernel
set_option maxRecDepth 20000 in
theorem ggX7_firings_X7_in : GoodIn wsX7_firings wsX7_in := goodIn_r _ [5] (by decide +kernel) (by decide +kernel)
set_option maxRecDepth 20000 in
theorem gX7_firings_X7_in : GoodIn wsX7_firings (va_wsS RX7 37 yX7_in wsX7_in) := goodIn_app (goodIn_of _ (by decide +kernel)) ggX7_firings_X7_in
set_option maxRecDepth 20000 in
theorem ggX7_firings_X7_done : GoodIn wsX7_firings wsX7_done := goodIn_r _ [9, 10, 15, 16, 17, 18, 19, 20, 21, 22, 23, 24, 25, 26, 27, 28, 29, 30] (by decide +kernel) (by decide +kernel)
set_option maxRecDepth 20000 in
theorem gX7_firings_X7_done : GoodIn wsX7_firings (wsV RX7 49 RX7 yX7_done wsX7_done) := goodIn_app (goodIn_of _ (by decide +kernel)) ggX7_firings_X7_done
set_option maxRecDepth 20000 in
theorem ggX7_firings_X7_fails : GoodIn wsX7_firings wsX7_fails := goodIn_r _ [14, 10, 15, 16, 17, 18, 19, 20, 21, 22, 23, 24, 25, 26, 27, 28, 29, 30] (by decide +kernel) (by decide +kernel)
set_option maxRecDepth 20000 in
theorem gX7_firings_X7_fails : GoodIn wsX7_firings (wsV RX7 56 RX7 yX7_fails wsX7_fails) := goodIn_app (goodIn_of _ (by decide +kernel)) ggX7_firings_X7_fails
theorem dX7_firings_0 : decode cX7_firings 0 = .ok (.iload_n 1, 1) := by decide +kernel
theorem dX7_firings_1 : decode cX7_firings 1 = .ok (.iconst 0, 1) := by decide +kernel
theorem dX7_firings_2 : decode cX7_firings 2 = .ok (.iconst 2, 1) := by decide +kernel
theorem dX7_firings_3 : decode cX7_firings 3 = .ok (.invokestatic 37, 3) := by decide +kernel
theorem dX7_firings_6 : decode cX7_firings 6 = .ok (.ifCond .eq 20, 3) := by decide +kernel
theorem dX7_firings_9 : decode cX7_firings 9 = .ok (.aload_n 0, 1) := by decide +kernel
theorem dX7_firings_10 : decode cX7_firings 10 = .ok (.aload_n 0, 1) := by decide +kernel
theorem dX7_firings_11 : decode cX7_firings 11 = .ok (.getfield 7, 3) := by decide +kernel
theorem dX7_firings_14 : decode cX7_firings 14 = .ok (.sipush 1423, 3) := by decide +kernel
theorem dX7_firings_17 : decode cX7_firings 17 = .ok (.iload_n 1, 1) := by decide +kernel
theorem dX7_firings_18 : decode cX7_firings 18 = .ok (.iadd, 1) := by decide +kernel
theorem dX7_firings_19 : decode cX7_firings 19 = .ok (.iaload, 1) := by decide +kernel
theorem dX7_firings_20 : decode cX7_firings 20 = .ok (.invokevirtual 49, 3) := by decide +kernel
theorem dX7_firings_23 : decode cX7_firings 23 = .ok (.goto 8, 3) := by decide +kernel
theorem dX7_firings_26 : decode cX7_firings 26 = .ok (.aload_n 0, 1) := by decide +kernel
theorem dX7_firings_27 : decode cX7_firings 27 = .ok (.iconst 1, 1) := by decide +kernel
theorem dX7_firings_28 : decode cX7_firings 28 = .ok (.invokevirtual 56, 3) := by decide +kernel
theorem dX7_firings_31 : decode cX7_firings 31 = .ok (.ireturn, 1) := by decide +kernel
theorem dX7_balance_0 : decode cX7_balance 0 = .ok (.aload_n 0, 1) := by decide +kernel
theorem dX7_balance_1 : decode cX7_balance 1 = .ok (.iconst 0, 1) := by decide +kernel
theorem dX7_balance_2 : decode cX7_balance 2 = .ok (.putfield 34, 3) := by decide +kernel
theorem dX7_balance_5 : decode cX7_balance 5 = .ok (.aload_n 0, 1) := by decide +kernel
theorem dX7_balance_6 : decode cX7_balance 6 = .ok (.getfield 30, 3) := by decide +kernel
theorem dX7_balance_9 : decode cX7_balance 9 = .ok (.lreturn, 1) := by decide +kernel
set_option maxRecDepth 20000 in
theorem ggX7_standing_X7_isBurst : GoodIn wsX7_standing wsX7_isBurst := goodIn_ca (goodIn_r _ [7, 2, 8, 9, 6, 10, 11, 12, 13, 14, 15, 16, 17, 18, 19, 20, 21, 22, 23, 24, 25, 26, 27, 28, 29, 30] (by decide +kernel) (by decide +kernel)) (goodIn_sub (fun _ h => List.mem_cons_of_mem _ (List.mem_append_right _ h)) (by decide +kernel))
set_option maxRecDepth 20000 in
theorem gX7_standing_X7_isBurst : GoodIn wsX7_standing (wsV RX7 45 RX7 yX7_isBurst wsX7_isBurst) := goodIn_app (goodIn_of _ (by decide +kernel)) ggX7_standing_X7_isBurst
set_option maxRecDepth 20000 in
theorem ggX7_standing_X7_of : GoodIn wsX7_standing wsX7_of := goodIn_ca (goodIn_r _ [14, 2, 15, 16, 17, 18, 19, 20, 21, 22, 23, 24, 25, 26, 27, 28, 29, 30] (by decide +kernel) (by decide +kernel)) (goodIn_sub (fun _ h => List.mem_cons_of_mem _ (List.mem_append_right _ h)) (by decide +kernel))
set_option maxRecDepth 20000 in
theorem gX7_standing_X7_of : GoodIn wsX7_standing (wsV RX7 41 RX7 yX7_of wsX7_of) := goodIn_app (goodIn_of _ (by decide +kernel)) ggX7_standing_X7_of
theorem dX7_standing_0 : decode cX7_standing 0 = .ok (.aload_n 0, 1) := by decide +kernel
theorem dX7_standing_1 : decode cX7_standing 1 = .ok (.iconst 0, 1) := by decide +kernel
theorem dX7_standing_2 : decode cX7_standing 2 = .ok (.putfield 34, 3) := by decide +kernel
theorem dX7_standing_5 : decode cX7_standing 5 = .ok (.lconst 0, 1) := by decide +kernel
theorem dX7_standing_6 : decode cX7_standing 6 = .ok (.lstore_n 1, 1) := by decide +kernel
theorem dX7_standing_7 : decode cX7_standing 7 = .ok (.iconst 0, 1) := by decide +kernel
theorem dX7_standing_8 : decode cX7_standing 8 = .ok (.istore_n 3, 1) := by decide +kernel
theorem dX7_standing_9 : decode cX7_standing 9 = .ok (.iload_n 3, 1) := by decide +kernel
theorem dX7_standing_10 : decode cX7_standing 10 = .ok (.aload_n 0, 1) := by decide +kernel
theorem dX7_standing_11 : decode cX7_standing 11 = .ok (.getfield 7, 3) := by decide +kernel
theorem dX7_standing_14 : decode cX7_standing 14 = .ok (.sipush 1401, 3) := by decide +kernel
theorem dX7_standing_17 : decode cX7_standing 17 = .ok (.iaload, 1) := by decide +kernel
theorem dX7_standing_18 : decode cX7_standing 18 = .ok (.if_icmp .ge 42, 3) := by decide +kernel
theorem dX7_standing_21 : decode cX7_standing 21 = .ok (.lload_n 1, 1) := by decide +kernel
theorem dX7_standing_22 : decode cX7_standing 22 = .ok (.aload_n 0, 1) := by decide +kernel
theorem dX7_standing_23 : decode cX7_standing 23 = .ok (.iload_n 3, 1) := by decide +kernel
theorem dX7_standing_24 : decode cX7_standing 24 = .ok (.invokevirtual 45, 3) := by decide +kernel
theorem dX7_standing_27 : decode cX7_standing 27 = .ok (.ifCond .eq 24, 3) := by decide +kernel
theorem dX7_standing_30 : decode cX7_standing 30 = .ok (.aload_n 0, 1) := by decide +kernel
theorem dX7_standing_31 : decode cX7_standing 31 = .ok (.iload_n 3, 1) := by decide +kernel
theorem dX7_standing_32 : decode cX7_standing 32 = .ok (.iconst 5, 1) := by decide +kernel
theorem dX7_standing_33 : decode cX7_standing 33 = .ok (.invokevirtual 41, 3) := by decide +kernel
theorem dX7_standing_36 : decode cX7_standing 36 = .ok (.iconst 1, 1) := by decide +kernel
theorem dX7_standing_37 : decode cX7_standing 37 = .ok (.if_icmp .ne 14, 3) := by decide +kernel
theorem dX7_standing_40 : decode cX7_standing 40 = .ok (.aload_n 0, 1) := by decide +kernel
theorem dX7_standing_41 : decode cX7_standing 41 = .ok (.iload_n 3, 1) := by decide +kernel
theorem dX7_standing_42 : decode cX7_standing 42 = .ok (.bipush 6, 2) := by decide +kernel
theorem dX7_standing_44 : decode cX7_standing 44 = .ok (.invokevirtual 41, 3) := by decide +kernel
theorem dX7_standing_47 : decode cX7_standing 47 = .ok (.i2l, 1) := by decide +kernel
theorem dX7_standing_48 : decode cX7_standing 48 = .ok (.goto 4, 3) := by decide +kernel
theorem dX7_standing_51 : decode cX7_standing 51 = .ok (.lconst 0, 1) := by decide +kernel
theorem dX7_standing_52 : decode cX7_standing 52 = .ok (.ladd, 1) := by decide +kernel
theorem dX7_standing_53 : decode cX7_standing 53 = .ok (.lstore_n 1, 1) := by decide +kernel
theorem dX7_standing_54 : decode cX7_standing 54 = .ok (.iinc 3 1, 3) := by decide +kernel
theorem dX7_standing_57 : decode cX7_standing 57 = .ok (.goto (-48), 3) := by decide +kernel
theorem dX7_standing_60 : decode cX7_standing 60 = .ok (.lload_n 1, 1) := by decide +kernel
theorem dX7_standing_61 : decode cX7_standing 61 = .ok (.lreturn, 1) := by decide +kernel
set_option maxRecDepth 20000 in
theorem ggX7_append_X7_in : GoodIn wsX7_append wsX7_in := goodIn_r _ [6] (by decide +kernel) (by decide +kernel)
set_option maxRecDepth 20000 in
theorem gX7_append_X7_in : GoodIn wsX7_append (va_wsS RX7 37 yX7_in wsX7_in) := goodIn_app (goodIn_of _ (by decide +kernel)) ggX7_append_X7_in
set_option maxRecDepth 20000 in
theorem ggX7_append_X7_fails : GoodIn wsX7_append wsX7_fails := goodIn_r _ [10, 11, 16, 17, 18, 19, 20, 21, 22, 23, 24, 25, 26, 27, 28, 29, 30, 31] (by decide +kernel) (by decide +kernel)
set_option maxRecDepth 20000 in
theorem gX7_append_X7_fails : GoodIn wsX7_append (wsV RX7 56 RX7 yX7_fails wsX7_fails) := goodIn_app (goodIn_of _ (by decide +kernel)) ggX7_append_X7_fails
set_option maxRecDepth 20000 in
theorem ggX7_append_X7_done : GoodIn wsX7_append wsX7_done := goodIn_r _ [15, 11, 16, 17, 18, 19, 20, 21, 22, 23, 24, 25, 26, 27, 28, 29, 30, 31] (by decide +kernel) (by decide +kernel)
set_option maxRecDepth 20000 in
theorem gX7_append_X7_done : GoodIn wsX7_append (wsV RX7 49 RX7 yX7_done wsX7_done) := goodIn_app (goodIn_of _ (by decide +kernel)) ggX7_append_X7_done
theorem dX7_append_0 : decode cX7_append 0 = .ok (.iload_n 1, 1) := by decide +kernel
theorem dX7_append_1 : decode cX7_append 1 = .ok (.bipush 32, 2) := by decide +kernel
theorem dX7_append_3 : decode cX7_append 3 = .ok (.bipush 126, 2) := by decide +kernel
theorem dX7_append_5 : decode cX7_append 5 = .ok (.invokestatic 37, 3) := by decide +kernel
theorem dX7_append_8 : decode cX7_append 8 = .ok (.ifCond .ne 9, 3) := by decide +kernel
theorem dX7_append_11 : decode cX7_append 11 = .ok (.aload_n 0, 1) := by decide +kernel
theorem dX7_append_12 : decode cX7_append 12 = .ok (.iconst 1, 1) := by decide +kernel
theorem dX7_append_13 : decode cX7_append 13 = .ok (.invokevirtual 56, 3) := by decide +kernel
theorem dX7_append_16 : decode cX7_append 16 = .ok (.ireturn, 1) := by decide +kernel
theorem dX7_append_17 : decode cX7_append 17 = .ok (.aload_n 0, 1) := by decide +kernel
theorem dX7_append_18 : decode cX7_append 18 = .ok (.getfield 132, 3) := by decide +kernel
theorem dX7_append_21 : decode cX7_append 21 = .ok (.bipush 40, 2) := by decide +kernel
theorem dX7_append_23 : decode cX7_append 23 = .ok (.if_icmp .ne 9, 3) := by decide +kernel
theorem dX7_append_26 : decode cX7_append 26 = .ok (.aload_n 0, 1) := by decide +kernel
theorem dX7_append_27 : decode cX7_append 27 = .ok (.iconst 2, 1) := by decide +kernel
theorem dX7_append_28 : decode cX7_append 28 = .ok (.invokevirtual 56, 3) := by decide +kernel
theorem dX7_append_31 : decode cX7_append 31 = .ok (.ireturn, 1) := by decide +kernel
theorem dX7_append_32 : decode cX7_append 32 = .ok (.aload_n 0, 1) := by decide +kernel
theorem dX7_append_33 : decode cX7_append 33 = .ok (.getfield 19, 3) := by decide +kernel
theorem dX7_append_36 : decode cX7_append 36 = .ok (.aload_n 0, 1) := by decide +kernel
theorem dX7_append_37 : decode cX7_append 37 = .ok (.getfield 132, 3) := by decide +kernel
theorem dX7_append_40 : decode cX7_append 40 = .ok (.iload_n 1, 1) := by decide +kernel
theorem dX7_append_41 : decode cX7_append 41 = .ok (.castore, 1) := by decide +kernel
theorem dX7_append_42 : decode cX7_append 42 = .ok (.aload_n 0, 1) := by decide +kernel
theorem dX7_append_43 : decode cX7_append 43 = .ok (.dup, 1) := by decide +kernel
theorem dX7_append_44 : decode cX7_append 44 = .ok (.getfield 132, 3) := by decide +kernel
theorem dX7_append_47 : decode cX7_append 47 = .ok (.iconst 1, 1) := by decide +kernel
theorem dX7_append_48 : decode cX7_append 48 = .ok (.iadd, 1) := by decide +kernel
theorem dX7_append_49 : decode cX7_append 49 = .ok (.putfield 132, 3) := by decide +kernel
theorem dX7_append_52 : decode cX7_append 52 = .ok (.aload_n 0, 1) := by decide +kernel
theorem dX7_append_53 : decode cX7_append 53 = .ok (.aload_n 0, 1) := by decide +kernel
theorem dX7_append_54 : decode cX7_append 54 = .ok (.getfield 132, 3) := by decide +kernel
theorem dX7_append_57 : decode cX7_append 57 = .ok (.invokevirtual 49, 3) := by decide +kernel
theorem dX7_append_60 : decode cX7_append 60 = .ok (.ireturn, 1) := by decide +kernel
theorem dX7_eats_0 : decode cX7_eats 0 = .ok (.aload_n 0, 1) := by decide +kernel
theorem dX7_eats_1 : decode cX7_eats 1 = .ok (.getfield 135, 3) := by decide +kernel
theorem dX7_eats_4 : decode cX7_eats 4 = .ok (.aload_n 0, 1) := by decide +kernel
theorem dX7_eats_5 : decode cX7_eats 5 = .ok (.getfield 132, 3) := by decide +kernel
theorem dX7_eats_8 : decode cX7_eats 8 = .ok (.if_icmp .ge 16, 3) := by decide +kernel
theorem dX7_eats_11 : decode cX7_eats 11 = .ok (.aload_n 0, 1) := by decide +kernel
theorem dX7_eats_12 : decode cX7_eats 12 = .ok (.getfield 19, 3) := by decide +kernel
theorem dX7_eats_15 : decode cX7_eats 15 = .ok (.aload_n 0, 1) := by decide +kernel
theorem dX7_eats_16 : decode cX7_eats 16 = .ok (.getfield 135, 3) := by decide +kernel
theorem dX7_eats_19 : decode cX7_eats 19 = .ok (.caload, 1) := by decide +kernel
theorem dX7_eats_20 : decode cX7_eats 20 = .ok (.iload_n 1, 1) := by decide +kernel
theorem dX7_eats_21 : decode cX7_eats 21 = .ok (.if_icmp .eq 5, 3) := by decide +kernel
theorem dX7_eats_24 : decode cX7_eats 24 = .ok (.iconst 0, 1) := by decide +kernel
theorem dX7_eats_25 : decode cX7_eats 25 = .ok (.ireturn, 1) := by decide +kernel
theorem dX7_eats_26 : decode cX7_eats 26 = .ok (.aload_n 0, 1) := by decide +kernel
theorem dX7_eats_27 : decode cX7_eats 27 = .ok (.dup, 1) := by decide +kernel
theorem dX7_eats_28 : decode cX7_eats 28 = .ok (.getfield 135, 3) := by decide +kernel
theorem dX7_eats_31 : decode cX7_eats 31 = .ok (.iconst 1, 1) := by decide +kernel
theorem dX7_eats_32 : decode cX7_eats 32 = .ok (.iadd, 1) := by decide +kernel
theorem dX7_eats_33 : decode cX7_eats 33 = .ok (.putfield 135, 3) := by decide +kernel
theorem dX7_eats_36 : decode cX7_eats 36 = .ok (.iconst 1, 1) := by decide +kernel
theorem dX7_eats_37 : decode cX7_eats 37 = .ok (.ireturn, 1) := by decide +kernel
set_option maxRecDepth 20000 in
theorem ggX7_readsNumber_X7_in : GoodIn wsX7_readsNumber wsX7_in := goodIn_r _ [8] (by decide +kernel) (by decide +kernel)
set_option maxRecDepth 20000 in
theorem gX7_readsNumber_X7_in : GoodIn wsX7_readsNumber (va_wsS RX7 37 yX7_in wsX7_in) := goodIn_app (goodIn_of _ (by decide +kernel)) ggX7_readsNumber_X7_in
theorem dX7_readsNumber_0 : decode cX7_readsNumber 0 = .ok (.iconst 0, 1) := by decide +kernel
theorem dX7_readsNumber_1 : decode cX7_readsNumber 1 = .ok (.istore_n 2, 1) := by decide +kernel
theorem dX7_readsNumber_2 : decode cX7_readsNumber 2 = .ok (.aload_n 0, 1) := by decide +kernel
theorem dX7_readsNumber_3 : decode cX7_readsNumber 3 = .ok (.iconst 0, 1) := by decide +kernel
theorem dX7_readsNumber_4 : decode cX7_readsNumber 4 = .ok (.putfield 138, 3) := by decide +kernel
theorem dX7_readsNumber_7 : decode cX7_readsNumber 7 = .ok (.iload_n 2, 1) := by decide +kernel
theorem dX7_readsNumber_8 : decode cX7_readsNumber 8 = .ok (.iload_n 1, 1) := by decide +kernel
theorem dX7_readsNumber_9 : decode cX7_readsNumber 9 = .ok (.if_icmp .ge 73, 3) := by decide +kernel
theorem dX7_readsNumber_12 : decode cX7_readsNumber 12 = .ok (.aload_n 0, 1) := by decide +kernel
theorem dX7_readsNumber_13 : decode cX7_readsNumber 13 = .ok (.getfield 135, 3) := by decide +kernel
theorem dX7_readsNumber_16 : decode cX7_readsNumber 16 = .ok (.aload_n 0, 1) := by decide +kernel
theorem dX7_readsNumber_17 : decode cX7_readsNumber 17 = .ok (.getfield 132, 3) := by decide +kernel
theorem dX7_readsNumber_20 : decode cX7_readsNumber 20 = .ok (.if_icmp .ge 62, 3) := by decide +kernel
theorem dX7_readsNumber_23 : decode cX7_readsNumber 23 = .ok (.aload_n 0, 1) := by decide +kernel
theorem dX7_readsNumber_24 : decode cX7_readsNumber 24 = .ok (.getfield 19, 3) := by decide +kernel
theorem dX7_readsNumber_27 : decode cX7_readsNumber 27 = .ok (.aload_n 0, 1) := by decide +kernel
theorem dX7_readsNumber_28 : decode cX7_readsNumber 28 = .ok (.getfield 135, 3) := by decide +kernel
theorem dX7_readsNumber_31 : decode cX7_readsNumber 31 = .ok (.caload, 1) := by decide +kernel
theorem dX7_readsNumber_32 : decode cX7_readsNumber 32 = .ok (.bipush 48, 2) := by decide +kernel
theorem dX7_readsNumber_34 : decode cX7_readsNumber 34 = .ok (.bipush 57, 2) := by decide +kernel
theorem dX7_readsNumber_36 : decode cX7_readsNumber 36 = .ok (.invokestatic 37, 3) := by decide +kernel
theorem dX7_readsNumber_39 : decode cX7_readsNumber 39 = .ok (.ifCond .eq 43, 3) := by decide +kernel
theorem dX7_readsNumber_42 : decode cX7_readsNumber 42 = .ok (.aload_n 0, 1) := by decide +kernel
theorem dX7_readsNumber_43 : decode cX7_readsNumber 43 = .ok (.bipush 10, 2) := by decide +kernel
theorem dX7_readsNumber_45 : decode cX7_readsNumber 45 = .ok (.aload_n 0, 1) := by decide +kernel
theorem dX7_readsNumber_46 : decode cX7_readsNumber 46 = .ok (.getfield 138, 3) := by decide +kernel
theorem dX7_readsNumber_49 : decode cX7_readsNumber 49 = .ok (.imul, 1) := by decide +kernel
theorem dX7_readsNumber_50 : decode cX7_readsNumber 50 = .ok (.aload_n 0, 1) := by decide +kernel
theorem dX7_readsNumber_51 : decode cX7_readsNumber 51 = .ok (.getfield 19, 3) := by decide +kernel
theorem dX7_readsNumber_54 : decode cX7_readsNumber 54 = .ok (.aload_n 0, 1) := by decide +kernel
theorem dX7_readsNumber_55 : decode cX7_readsNumber 55 = .ok (.getfield 135, 3) := by decide +kernel
theorem dX7_readsNumber_58 : decode cX7_readsNumber 58 = .ok (.caload, 1) := by decide +kernel
theorem dX7_readsNumber_59 : decode cX7_readsNumber 59 = .ok (.iadd, 1) := by decide +kernel
theorem dX7_readsNumber_60 : decode cX7_readsNumber 60 = .ok (.bipush 48, 2) := by decide +kernel
theorem dX7_readsNumber_62 : decode cX7_readsNumber 62 = .ok (.isub, 1) := by decide +kernel
theorem dX7_readsNumber_63 : decode cX7_readsNumber 63 = .ok (.putfield 138, 3) := by decide +kernel
theorem dX7_readsNumber_66 : decode cX7_readsNumber 66 = .ok (.aload_n 0, 1) := by decide +kernel
theorem dX7_readsNumber_67 : decode cX7_readsNumber 67 = .ok (.dup, 1) := by decide +kernel
theorem dX7_readsNumber_68 : decode cX7_readsNumber 68 = .ok (.getfield 135, 3) := by decide +kernel
theorem dX7_readsNumber_71 : decode cX7_readsNumber 71 = .ok (.iconst 1, 1) := by decide +kernel
theorem dX7_readsNumber_72 : decode cX7_readsNumber 72 = .ok (.iadd, 1) := by decide +kernel
theorem dX7_readsNumber_73 : decode cX7_readsNumber 73 = .ok (.putfield 135, 3) := by decide +kernel
theorem dX7_readsNumber_76 : decode cX7_readsNumber 76 = .ok (.iinc 2 1, 3) := by decide +kernel
theorem dX7_readsNumber_79 : decode cX7_readsNumber 79 = .ok (.goto (-72), 3) := by decide +kernel
theorem dX7_readsNumber_82 : decode cX7_readsNumber 82 = .ok (.iload_n 2, 1) := by decide +kernel
theorem dX7_readsNumber_83 : decode cX7_readsNumber 83 = .ok (.ifCond .le 7, 3) := by decide +kernel
theorem dX7_readsNumber_86 : decode cX7_readsNumber 86 = .ok (.iconst 1, 1) := by decide +kernel
theorem dX7_readsNumber_87 : decode cX7_readsNumber 87 = .ok (.goto 4, 3) := by decide +kernel
theorem dX7_readsNumber_90 : decode cX7_readsNumber 90 = .ok (.iconst 0, 1) := by decide +kernel
theorem dX7_readsNumber_91 : decode cX7_readsNumber 91 = .ok (.ireturn, 1) := by decide +kernel
set_option maxRecDepth 20000 in
theorem ggX7_readsEntry_X7_eats : GoodIn wsX7_readsEntry wsX7_eats := goodIn_ca (goodIn_r _ [12, 3, 4, 5, 20, 21, 22, 23, 24, 25, 26, 27, 28, 29, 30, 31, 32, 33, 34, 35] (by decide +kernel) (by decide +kernel)) (goodIn_sub (fun _ h => List.mem_cons_of_mem _ (List.mem_append_right _ h)) (by decide +kernel))
set_option maxRecDepth 20000 in
theorem gX7_readsEntry_X7_eats : GoodIn wsX7_readsEntry (wsV RX7 141 RX7 yX7_eats wsX7_eats) := goodIn_app (goodIn_of _ (by decide +kernel)) ggX7_readsEntry_X7_eats
set_option maxRecDepth 20000 in
theorem ggX7_readsEntry_X7_readsNumber : GoodIn wsX7_readsEntry wsX7_readsNumber := goodIn_ca (goodIn_r _ [16, 1, 3, 4, 5, 17, 18, 11, 19, 20, 21, 22, 23, 24, 25, 26, 27, 28, 29, 30, 31, 32, 33, 34, 35] (by decide +kernel) (by decide +kernel)) (goodIn_sub (fun _ h => List.mem_cons_of_mem _ (List.mem_append_right _ h)) (by decide +kernel))
set_option maxRecDepth 20000 in
theorem gX7_readsEntry_X7_readsNumber : GoodIn wsX7_readsEntry (wsV RX7 144 RX7 yX7_readsNumber wsX7_readsNumber) := goodIn_app (goodIn_of _ (by decide +kernel)) ggX7_readsEntry_X7_readsNumber
set_option maxRecDepth 20000 in
theorem ggX7_readsEntry_X7_in : GoodIn wsX7_readsEntry wsX7_in := goodIn_r _ [19] (by decide +kernel) (by decide +kernel)
set_option maxRecDepth 20000 in
theorem gX7_readsEntry_X7_in : GoodIn wsX7_readsEntry (va_wsS RX7 37 yX7_in wsX7_in) := goodIn_app (goodIn_of _ (by decide +kernel)) ggX7_readsEntry_X7_in
theorem dX7_readsEntry_0 : decode cX7_readsEntry 0 = .ok (.aload_n 0, 1) := by decide +kernel
theorem dX7_readsEntry_1 : decode cX7_readsEntry 1 = .ok (.bipush 119, 2) := by decide +kernel
theorem dX7_readsEntry_3 : decode cX7_readsEntry 3 = .ok (.invokevirtual 141, 3) := by decide +kernel
theorem dX7_readsEntry_6 : decode cX7_readsEntry 6 = .ok (.ifCond .eq 36, 3) := by decide +kernel
theorem dX7_readsEntry_9 : decode cX7_readsEntry 9 = .ok (.aload_n 0, 1) := by decide +kernel
theorem dX7_readsEntry_10 : decode cX7_readsEntry 10 = .ok (.iconst 4, 1) := by decide +kernel
theorem dX7_readsEntry_11 : decode cX7_readsEntry 11 = .ok (.invokevirtual 144, 3) := by decide +kernel
theorem dX7_readsEntry_14 : decode cX7_readsEntry 14 = .ok (.ifCond .ne 5, 3) := by decide +kernel
theorem dX7_readsEntry_17 : decode cX7_readsEntry 17 = .ok (.iconst 0, 1) := by decide +kernel
theorem dX7_readsEntry_18 : decode cX7_readsEntry 18 = .ok (.ireturn, 1) := by decide +kernel
theorem dX7_readsEntry_19 : decode cX7_readsEntry 19 = .ok (.aload_n 0, 1) := by decide +kernel
theorem dX7_readsEntry_20 : decode cX7_readsEntry 20 = .ok (.aload_n 0, 1) := by decide +kernel
theorem dX7_readsEntry_21 : decode cX7_readsEntry 21 = .ok (.getfield 138, 3) := by decide +kernel
theorem dX7_readsEntry_24 : decode cX7_readsEntry 24 = .ok (.putfield 147, 3) := by decide +kernel
theorem dX7_readsEntry_27 : decode cX7_readsEntry 27 = .ok (.aload_n 0, 1) := by decide +kernel
theorem dX7_readsEntry_28 : decode cX7_readsEntry 28 = .ok (.bipush 59, 2) := by decide +kernel
theorem dX7_readsEntry_30 : decode cX7_readsEntry 30 = .ok (.invokevirtual 141, 3) := by decide +kernel
theorem dX7_readsEntry_33 : decode cX7_readsEntry 33 = .ok (.ifCond .eq 7, 3) := by decide +kernel
theorem dX7_readsEntry_36 : decode cX7_readsEntry 36 = .ok (.iconst 2, 1) := by decide +kernel
theorem dX7_readsEntry_37 : decode cX7_readsEntry 37 = .ok (.goto 4, 3) := by decide +kernel
theorem dX7_readsEntry_40 : decode cX7_readsEntry 40 = .ok (.iconst 0, 1) := by decide +kernel
theorem dX7_readsEntry_41 : decode cX7_readsEntry 41 = .ok (.ireturn, 1) := by decide +kernel
theorem dX7_readsEntry_42 : decode cX7_readsEntry 42 = .ok (.aload_n 0, 1) := by decide +kernel
theorem dX7_readsEntry_43 : decode cX7_readsEntry 43 = .ok (.bipush 114, 2) := by decide +kernel
theorem dX7_readsEntry_45 : decode cX7_readsEntry 45 = .ok (.invokevirtual 141, 3) := by decide +kernel
theorem dX7_readsEntry_48 : decode cX7_readsEntry 48 = .ok (.ifCond .eq 33, 3) := by decide +kernel
theorem dX7_readsEntry_51 : decode cX7_readsEntry 51 = .ok (.aload_n 0, 1) := by decide +kernel
theorem dX7_readsEntry_52 : decode cX7_readsEntry 52 = .ok (.getfield 135, 3) := by decide +kernel
theorem dX7_readsEntry_55 : decode cX7_readsEntry 55 = .ok (.aload_n 0, 1) := by decide +kernel
theorem dX7_readsEntry_56 : decode cX7_readsEntry 56 = .ok (.getfield 132, 3) := by decide +kernel
theorem dX7_readsEntry_59 : decode cX7_readsEntry 59 = .ok (.if_icmp .ge 22, 3) := by decide +kernel
theorem dX7_readsEntry_62 : decode cX7_readsEntry 62 = .ok (.aload_n 0, 1) := by decide +kernel
theorem dX7_readsEntry_63 : decode cX7_readsEntry 63 = .ok (.getfield 19, 3) := by decide +kernel
theorem dX7_readsEntry_66 : decode cX7_readsEntry 66 = .ok (.aload_n 0, 1) := by decide +kernel
theorem dX7_readsEntry_67 : decode cX7_readsEntry 67 = .ok (.getfield 135, 3) := by decide +kernel
theorem dX7_readsEntry_70 : decode cX7_readsEntry 70 = .ok (.caload, 1) := by decide +kernel
theorem dX7_readsEntry_71 : decode cX7_readsEntry 71 = .ok (.bipush 48, 2) := by decide +kernel
theorem dX7_readsEntry_73 : decode cX7_readsEntry 73 = .ok (.bipush 55, 2) := by decide +kernel
theorem dX7_readsEntry_75 : decode cX7_readsEntry 75 = .ok (.invokestatic 37, 3) := by decide +kernel
theorem dX7_readsEntry_78 : decode cX7_readsEntry 78 = .ok (.ifCond .ne 5, 3) := by decide +kernel
theorem dX7_readsEntry_81 : decode cX7_readsEntry 81 = .ok (.iconst 0, 1) := by decide +kernel
theorem dX7_readsEntry_82 : decode cX7_readsEntry 82 = .ok (.ireturn, 1) := by decide +kernel
theorem dX7_readsEntry_83 : decode cX7_readsEntry 83 = .ok (.aload_n 0, 1) := by decide +kernel
theorem dX7_readsEntry_84 : decode cX7_readsEntry 84 = .ok (.aload_n 0, 1) := by decide +kernel
theorem dX7_readsEntry_85 : decode cX7_readsEntry 85 = .ok (.getfield 19, 3) := by decide +kernel
theorem dX7_readsEntry_88 : decode cX7_readsEntry 88 = .ok (.aload_n 0, 1) := by decide +kernel
theorem dX7_readsEntry_89 : decode cX7_readsEntry 89 = .ok (.getfield 135, 3) := by decide +kernel
theorem dX7_readsEntry_92 : decode cX7_readsEntry 92 = .ok (.caload, 1) := by decide +kernel
theorem dX7_readsEntry_93 : decode cX7_readsEntry 93 = .ok (.bipush 48, 2) := by decide +kernel
theorem dX7_readsEntry_95 : decode cX7_readsEntry 95 = .ok (.isub, 1) := by decide +kernel
theorem dX7_readsEntry_96 : decode cX7_readsEntry 96 = .ok (.putfield 150, 3) := by decide +kernel
theorem dX7_readsEntry_99 : decode cX7_readsEntry 99 = .ok (.aload_n 0, 1) := by decide +kernel
theorem dX7_readsEntry_100 : decode cX7_readsEntry 100 = .ok (.dup, 1) := by decide +kernel
theorem dX7_readsEntry_101 : decode cX7_readsEntry 101 = .ok (.getfield 135, 3) := by decide +kernel
theorem dX7_readsEntry_104 : decode cX7_readsEntry 104 = .ok (.iconst 1, 1) := by decide +kernel
theorem dX7_readsEntry_105 : decode cX7_readsEntry 105 = .ok (.iadd, 1) := by decide +kernel
theorem dX7_readsEntry_106 : decode cX7_readsEntry 106 = .ok (.putfield 135, 3) := by decide +kernel
theorem dX7_readsEntry_109 : decode cX7_readsEntry 109 = .ok (.aload_n 0, 1) := by decide +kernel
theorem dX7_readsEntry_110 : decode cX7_readsEntry 110 = .ok (.bipush 58, 2) := by decide +kernel
theorem dX7_readsEntry_112 : decode cX7_readsEntry 112 = .ok (.invokevirtual 141, 3) := by decide +kernel
theorem dX7_readsEntry_115 : decode cX7_readsEntry 115 = .ok (.ifCond .eq 20, 3) := by decide +kernel
theorem dX7_readsEntry_118 : decode cX7_readsEntry 118 = .ok (.aload_n 0, 1) := by decide +kernel
theorem dX7_readsEntry_119 : decode cX7_readsEntry 119 = .ok (.iconst 4, 1) := by decide +kernel
theorem dX7_readsEntry_120 : decode cX7_readsEntry 120 = .ok (.invokevirtual 144, 3) := by decide +kernel
theorem dX7_readsEntry_123 : decode cX7_readsEntry 123 = .ok (.ifCond .eq 12, 3) := by decide +kernel
theorem dX7_readsEntry_126 : decode cX7_readsEntry 126 = .ok (.aload_n 0, 1) := by decide +kernel
theorem dX7_readsEntry_127 : decode cX7_readsEntry 127 = .ok (.bipush 61, 2) := by decide +kernel
theorem dX7_readsEntry_129 : decode cX7_readsEntry 129 = .ok (.invokevirtual 141, 3) := by decide +kernel
theorem dX7_readsEntry_132 : decode cX7_readsEntry 132 = .ok (.ifCond .ne 5, 3) := by decide +kernel
theorem dX7_readsEntry_135 : decode cX7_readsEntry 135 = .ok (.iconst 0, 1) := by decide +kernel
theorem dX7_readsEntry_136 : decode cX7_readsEntry 136 = .ok (.ireturn, 1) := by decide +kernel
theorem dX7_readsEntry_137 : decode cX7_readsEntry 137 = .ok (.aload_n 0, 1) := by decide +kernel
theorem dX7_readsEntry_138 : decode cX7_readsEntry 138 = .ok (.aload_n 0, 1) := by decide +kernel
theorem dX7_readsEntry_139 : decode cX7_readsEntry 139 = .ok (.getfield 138, 3) := by decide +kernel
theorem dX7_readsEntry_142 : decode cX7_readsEntry 142 = .ok (.putfield 147, 3) := by decide +kernel
theorem dX7_readsEntry_145 : decode cX7_readsEntry 145 = .ok (.aload_n 0, 1) := by decide +kernel
theorem dX7_readsEntry_146 : decode cX7_readsEntry 146 = .ok (.bipush 45, 2) := by decide +kernel
theorem dX7_readsEntry_148 : decode cX7_readsEntry 148 = .ok (.invokevirtual 141, 3) := by decide +kernel
theorem dX7_readsEntry_151 : decode cX7_readsEntry 151 = .ok (.istore_n 1, 1) := by decide +kernel
theorem dX7_readsEntry_152 : decode cX7_readsEntry 152 = .ok (.aload_n 0, 1) := by decide +kernel
theorem dX7_readsEntry_153 : decode cX7_readsEntry 153 = .ok (.iconst 3, 1) := by decide +kernel
theorem dX7_readsEntry_154 : decode cX7_readsEntry 154 = .ok (.invokevirtual 144, 3) := by decide +kernel
theorem dX7_readsEntry_157 : decode cX7_readsEntry 157 = .ok (.ifCond .ne 5, 3) := by decide +kernel
theorem dX7_readsEntry_160 : decode cX7_readsEntry 160 = .ok (.iconst 0, 1) := by decide +kernel
theorem dX7_readsEntry_161 : decode cX7_readsEntry 161 = .ok (.ireturn, 1) := by decide +kernel
theorem dX7_readsEntry_162 : decode cX7_readsEntry 162 = .ok (.aload_n 0, 1) := by decide +kernel
theorem dX7_readsEntry_163 : decode cX7_readsEntry 163 = .ok (.iload_n 1, 1) := by decide +kernel
theorem dX7_readsEntry_164 : decode cX7_readsEntry 164 = .ok (.ifCond .eq 11, 3) := by decide +kernel
theorem dX7_readsEntry_167 : decode cX7_readsEntry 167 = .ok (.aload_n 0, 1) := by decide +kernel
theorem dX7_readsEntry_168 : decode cX7_readsEntry 168 = .ok (.getfield 138, 3) := by decide +kernel
theorem dX7_readsEntry_171 : decode cX7_readsEntry 171 = .ok (.ineg, 1) := by decide +kernel
theorem dX7_readsEntry_172 : decode cX7_readsEntry 172 = .ok (.goto 7, 3) := by decide +kernel
theorem dX7_readsEntry_175 : decode cX7_readsEntry 175 = .ok (.aload_n 0, 1) := by decide +kernel
theorem dX7_readsEntry_176 : decode cX7_readsEntry 176 = .ok (.getfield 138, 3) := by decide +kernel
theorem dX7_readsEntry_179 : decode cX7_readsEntry 179 = .ok (.putfield 153, 3) := by decide +kernel
theorem dX7_readsEntry_182 : decode cX7_readsEntry 182 = .ok (.aload_n 0, 1) := by decide +kernel
theorem dX7_readsEntry_183 : decode cX7_readsEntry 183 = .ok (.bipush 59, 2) := by decide +kernel
theorem dX7_readsEntry_185 : decode cX7_readsEntry 185 = .ok (.invokevirtual 141, 3) := by decide +kernel
theorem dX7_readsEntry_188 : decode cX7_readsEntry 188 = .ok (.ifCond .eq 7, 3) := by decide +kernel
theorem dX7_readsEntry_191 : decode cX7_readsEntry 191 = .ok (.iconst 1, 1) := by decide +kernel
theorem dX7_readsEntry_192 : decode cX7_readsEntry 192 = .ok (.goto 4, 3) := by decide +kernel
theorem dX7_readsEntry_195 : decode cX7_readsEntry 195 = .ok (.iconst 0, 1) := by decide +kernel
theorem dX7_readsEntry_196 : decode cX7_readsEntry 196 = .ok (.ireturn, 1) := by decide +kernel
set_option maxRecDepth 20000 in
theorem ggX7_countsEntries_X7_readsEntry : GoodIn wsX7_countsEntries wsX7_readsEntry := goodIn_ca (goodIn_r _ [7, 8, 9, 1, 2, 10, 11, 12, 13, 14, 15, 6, 16, 17, 18, 19, 20, 21, 22, 23, 24, 25, 26, 27, 28, 29, 30, 31, 32, 33, 34, 35, 36, 37, 38, 39] (by decide +kernel) (by decide +kernel)) (goodIn_sub (fun _ h => List.mem_cons_of_mem _ (List.mem_append_right _ h)) (by decide +kernel))
set_option maxRecDepth 20000 in
theorem gX7_countsEntries_X7_readsEntry : GoodIn wsX7_countsEntries (wsV RX7 156 RX7 yX7_readsEntry wsX7_readsEntry) := goodIn_app (goodIn_of _ (by decide +kernel)) ggX7_countsEntries_X7_readsEntry
theorem dX7_countsEntries_0 : decode cX7_countsEntries 0 = .ok (.aload_n 0, 1) := by decide +kernel
theorem dX7_countsEntries_1 : decode cX7_countsEntries 1 = .ok (.iconst 0, 1) := by decide +kernel
theorem dX7_countsEntries_2 : decode cX7_countsEntries 2 = .ok (.putfield 135, 3) := by decide +kernel
theorem dX7_countsEntries_5 : decode cX7_countsEntries 5 = .ok (.iconst 0, 1) := by decide +kernel
theorem dX7_countsEntries_6 : decode cX7_countsEntries 6 = .ok (.istore_n 1, 1) := by decide +kernel
theorem dX7_countsEntries_7 : decode cX7_countsEntries 7 = .ok (.iconst 1, 1) := by decide +kernel
theorem dX7_countsEntries_8 : decode cX7_countsEntries 8 = .ok (.istore_n 2, 1) := by decide +kernel
theorem dX7_countsEntries_9 : decode cX7_countsEntries 9 = .ok (.iload_n 2, 1) := by decide +kernel
theorem dX7_countsEntries_10 : decode cX7_countsEntries 10 = .ok (.ifCond .eq 38, 3) := by decide +kernel
theorem dX7_countsEntries_13 : decode cX7_countsEntries 13 = .ok (.iload_n 1, 1) := by decide +kernel
theorem dX7_countsEntries_14 : decode cX7_countsEntries 14 = .ok (.ifCond .eq 14, 3) := by decide +kernel
theorem dX7_countsEntries_17 : decode cX7_countsEntries 17 = .ok (.aload_n 0, 1) := by decide +kernel
theorem dX7_countsEntries_18 : decode cX7_countsEntries 18 = .ok (.getfield 135, 3) := by decide +kernel
theorem dX7_countsEntries_21 : decode cX7_countsEntries 21 = .ok (.aload_n 0, 1) := by decide +kernel
theorem dX7_countsEntries_22 : decode cX7_countsEntries 22 = .ok (.getfield 132, 3) := by decide +kernel
theorem dX7_countsEntries_25 : decode cX7_countsEntries 25 = .ok (.if_icmp .ge 23, 3) := by decide +kernel
theorem dX7_countsEntries_28 : decode cX7_countsEntries 28 = .ok (.aload_n 0, 1) := by decide +kernel
theorem dX7_countsEntries_29 : decode cX7_countsEntries 29 = .ok (.invokevirtual 156, 3) := by decide +kernel
theorem dX7_countsEntries_32 : decode cX7_countsEntries 32 = .ok (.istore_n 2, 1) := by decide +kernel
theorem dX7_countsEntries_33 : decode cX7_countsEntries 33 = .ok (.iload_n 1, 1) := by decide +kernel
theorem dX7_countsEntries_34 : decode cX7_countsEntries 34 = .ok (.iload_n 2, 1) := by decide +kernel
theorem dX7_countsEntries_35 : decode cX7_countsEntries 35 = .ok (.ifCond .eq 7, 3) := by decide +kernel
theorem dX7_countsEntries_38 : decode cX7_countsEntries 38 = .ok (.iconst 1, 1) := by decide +kernel
theorem dX7_countsEntries_39 : decode cX7_countsEntries 39 = .ok (.goto 4, 3) := by decide +kernel
theorem dX7_countsEntries_42 : decode cX7_countsEntries 42 = .ok (.iconst 0, 1) := by decide +kernel
theorem dX7_countsEntries_43 : decode cX7_countsEntries 43 = .ok (.iadd, 1) := by decide +kernel
theorem dX7_countsEntries_44 : decode cX7_countsEntries 44 = .ok (.istore_n 1, 1) := by decide +kernel
theorem dX7_countsEntries_45 : decode cX7_countsEntries 45 = .ok (.goto (-36), 3) := by decide +kernel
theorem dX7_countsEntries_48 : decode cX7_countsEntries 48 = .ok (.iload_n 2, 1) := by decide +kernel
theorem dX7_countsEntries_49 : decode cX7_countsEntries 49 = .ok (.ifCond .ne 7, 3) := by decide +kernel
theorem dX7_countsEntries_52 : decode cX7_countsEntries 52 = .ok (.iconst (-1), 1) := by decide +kernel
theorem dX7_countsEntries_53 : decode cX7_countsEntries 53 = .ok (.goto 4, 3) := by decide +kernel
theorem dX7_countsEntries_56 : decode cX7_countsEntries 56 = .ok (.iload_n 1, 1) := by decide +kernel
theorem dX7_countsEntries_57 : decode cX7_countsEntries 57 = .ok (.ireturn, 1) := by decide +kernel
set_option maxRecDepth 20000 in
theorem ggX7_does_X7_advances : GoodIn wsX7_does wsX7_advances := goodIn_ca (goodIn_r _ [9, 2, 10, 11, 12, 8, 13, 14, 15, 16, 17, 18, 19, 20, 21, 22, 23, 24, 25, 26, 27, 28, 29, 30, 31, 32, 33, 34, 35, 36, 37, 38, 39, 40, 41, 42, 43, 44, 45, 46, 47, 48, 49, 50, 51, 52, 53, 54, 55, 56, 57, 58, 59, 60, 61, 93, 94, 95, 96, 97, 98, 99, 100, 101, 102, 103, 104, 105, 106, 107, 108] (by decide +kernel) (by decide +kernel)) (goodIn_sub (fun _ h => List.mem_cons_of_mem _ (List.mem_append_left _ (List.mem_append_right _ h))) (by decide +kernel))
set_option maxRecDepth 20000 in
theorem gX7_does_X7_advances : GoodIn wsX7_does (wsV RX7 120 RX7 yX7_advances wsX7_advances) := goodIn_app (goodIn_of _ (by decide +kernel)) ggX7_does_X7_advances
set_option maxRecDepth 20000 in
theorem ggX7_does_X7_lacks : GoodIn wsX7_does wsX7_lacks := goodIn_ca (goodIn_r _ [65, 2, 66, 67, 8, 68, 22, 23, 24, 69, 70, 71, 72, 93, 94, 95, 96, 97, 98, 99, 100, 101, 102, 103, 104, 105, 106, 107, 108] (by decide +kernel) (by decide +kernel)) (goodIn_sub (fun _ h => List.mem_cons_of_mem _ (List.mem_append_left _ (List.mem_append_right _ h))) (by decide +kernel))
set_option maxRecDepth 20000 in
theorem gX7_does_X7_lacks : GoodIn wsX7_does (wsV RX7 106 RX7 yX7_lacks wsX7_lacks) := goodIn_app (goodIn_of _ (by decide +kernel)) ggX7_does_X7_lacks
set_option maxRecDepth 20000 in
theorem ggX7_does_X7_comes : GoodIn wsX7_does wsX7_comes := goodIn_ca (goodIn_ca (goodIn_r _ [76, 2, 69, 70, 71, 8, 72, 58, 59, 60, 61, 77, 78, 79, 80, 14, 15, 16, 17, 18, 19, 20, 21, 22, 23, 24, 25, 26, 27, 28, 81, 82, 83, 84, 33, 34, 35, 36, 85, 86, 87, 88, 49, 50, 51, 52, 53, 54, 55, 56, 57, 89, 90, 91, 92, 37, 38, 39, 40, 41, 42, 43, 44, 45, 46, 47, 48, 93, 94, 95, 96, 97, 98, 99, 100, 101, 102, 103, 104, 105, 106, 107, 108] (by decide +kernel) (by decide +kernel)) (goodIn_sub (fun _ h => List.mem_cons_of_mem _ (List.mem_append_left _ (List.mem_append_right _ h))) (by decide +kernel))) (goodIn_sub (fun _ h => List.mem_cons_of_mem _ (List.mem_append_right _ h)) (by decide +kernel))
set_option maxRecDepth 20000 in
theorem gX7_does_X7_comes : GoodIn wsX7_does (wsV RX7 109 RX7 yX7_comes wsX7_comes) := goodIn_app (goodIn_of _ (by decide +kernel)) ggX7_does_X7_comes
theorem dX7_does_0 : decode cX7_does 0 = .ok (.iload_n 1, 1) := by decide +kernel
theorem dX7_does_1 : decode cX7_does 1 = .ok (.iconst 2, 1) := by decide +kernel
theorem dX7_does_2 : decode cX7_does 2 = .ok (.if_icmp .ne 31, 3) := by decide +kernel
theorem dX7_does_5 : decode cX7_does 5 = .ok (.aload_n 0, 1) := by decide +kernel
theorem dX7_does_6 : decode cX7_does 6 = .ok (.getfield 147, 3) := by decide +kernel
theorem dX7_does_9 : decode cX7_does 9 = .ok (.aload_n 0, 1) := by decide +kernel
theorem dX7_does_10 : decode cX7_does 10 = .ok (.getfield 7, 3) := by decide +kernel
theorem dX7_does_13 : decode cX7_does 13 = .ok (.sipush 1418, 3) := by decide +kernel
theorem dX7_does_16 : decode cX7_does 16 = .ok (.iaload, 1) := by decide +kernel
theorem dX7_does_17 : decode cX7_does 17 = .ok (.if_icmp .ge 5, 3) := by decide +kernel
theorem dX7_does_20 : decode cX7_does 20 = .ok (.iconst 0, 1) := by decide +kernel
theorem dX7_does_21 : decode cX7_does 21 = .ok (.ireturn, 1) := by decide +kernel
theorem dX7_does_22 : decode cX7_does 22 = .ok (.aload_n 0, 1) := by decide +kernel
theorem dX7_does_23 : decode cX7_does 23 = .ok (.aload_n 0, 1) := by decide +kernel
theorem dX7_does_24 : decode cX7_does 24 = .ok (.getfield 147, 3) := by decide +kernel
theorem dX7_does_27 : decode cX7_does 27 = .ok (.invokevirtual 120, 3) := by decide +kernel
theorem dX7_does_30 : decode cX7_does 30 = .ok (.istore_n 2, 1) := by decide +kernel
theorem dX7_does_31 : decode cX7_does 31 = .ok (.iconst 1, 1) := by decide +kernel
theorem dX7_does_32 : decode cX7_does 32 = .ok (.ireturn, 1) := by decide +kernel
theorem dX7_does_33 : decode cX7_does 33 = .ok (.aload_n 0, 1) := by decide +kernel
theorem dX7_does_34 : decode cX7_does 34 = .ok (.aload_n 0, 1) := by decide +kernel
theorem dX7_does_35 : decode cX7_does 35 = .ok (.getfield 150, 3) := by decide +kernel
theorem dX7_does_38 : decode cX7_does 38 = .ok (.aload_n 0, 1) := by decide +kernel
theorem dX7_does_39 : decode cX7_does 39 = .ok (.getfield 147, 3) := by decide +kernel
theorem dX7_does_42 : decode cX7_does 42 = .ok (.invokevirtual 106, 3) := by decide +kernel
theorem dX7_does_45 : decode cX7_does 45 = .ok (.ifCond .eq 5, 3) := by decide +kernel
theorem dX7_does_48 : decode cX7_does 48 = .ok (.iconst 0, 1) := by decide +kernel
theorem dX7_does_49 : decode cX7_does 49 = .ok (.ireturn, 1) := by decide +kernel
theorem dX7_does_50 : decode cX7_does 50 = .ok (.aload_n 0, 1) := by decide +kernel
theorem dX7_does_51 : decode cX7_does 51 = .ok (.aload_n 0, 1) := by decide +kernel
theorem dX7_does_52 : decode cX7_does 52 = .ok (.getfield 150, 3) := by decide +kernel
theorem dX7_does_55 : decode cX7_does 55 = .ok (.aload_n 0, 1) := by decide +kernel
theorem dX7_does_56 : decode cX7_does 56 = .ok (.getfield 147, 3) := by decide +kernel
theorem dX7_does_59 : decode cX7_does 59 = .ok (.aload_n 0, 1) := by decide +kernel
theorem dX7_does_60 : decode cX7_does 60 = .ok (.getfield 153, 3) := by decide +kernel
theorem dX7_does_63 : decode cX7_does 63 = .ok (.invokevirtual 109, 3) := by decide +kernel
theorem dX7_does_66 : decode cX7_does 66 = .ok (.istore_n 2, 1) := by decide +kernel
theorem dX7_does_67 : decode cX7_does 67 = .ok (.iconst 1, 1) := by decide +kernel
theorem dX7_does_68 : decode cX7_does 68 = .ok (.ireturn, 1) := by decide +kernel
set_option maxRecDepth 20000 in
theorem ggX7_read_X7_countsEntries : GoodIn wsX7_read wsX7_countsEntries := goodIn_ca (goodIn_r _ [12, 1, 3, 13, 14, 15, 11, 16, 17, 18, 19, 20, 21, 22, 23, 24, 25, 26, 27, 28, 29, 30, 31, 32, 129, 130, 131, 132, 133, 134, 135, 136, 137, 138, 139, 140, 141, 142, 143, 144] (by decide +kernel) (by decide +kernel)) (goodIn_sub (fun _ h => List.mem_cons_of_mem _ (List.mem_append_left _ (List.mem_append_right _ h))) (by decide +kernel))
set_option maxRecDepth 20000 in
theorem gX7_read_X7_countsEntries : GoodIn wsX7_read (wsV RX7 159 RX7 yX7_countsEntries wsX7_countsEntries) := goodIn_app (goodIn_of _ (by decide +kernel)) ggX7_read_X7_countsEntries
set_option maxRecDepth 20000 in
theorem ggX7_read_X7_fails : GoodIn wsX7_read wsX7_fails := goodIn_r _ [36, 37, 129, 130, 131, 132, 133, 134, 135, 136, 137, 138, 139, 140, 141, 142, 143, 144] (by decide +kernel) (by decide +kernel)
set_option maxRecDepth 20000 in
theorem gX7_read_X7_fails : GoodIn wsX7_read (wsV RX7 56 RX7 yX7_fails wsX7_fails) := goodIn_app (goodIn_of _ (by decide +kernel)) ggX7_read_X7_fails
set_option maxRecDepth 20000 in
theorem ggX7_read_X7_readsEntry : GoodIn wsX7_read wsX7_readsEntry := goodIn_ca (goodIn_r _ [16, 17, 18, 1, 3, 19, 20, 21, 22, 23, 24, 11, 25, 26, 27, 28, 29, 30, 31, 32, 129, 130, 131, 132, 133, 134, 135, 136, 137, 138, 139, 140, 141, 142, 143, 144] (by decide +kernel) (by decide +kernel)) (goodIn_sub (fun _ h => List.mem_cons_of_mem _ (List.mem_append_left _ (List.mem_append_right _ h))) (by decide +kernel))
set_option maxRecDepth 20000 in
theorem gX7_read_X7_readsEntry : GoodIn wsX7_read (wsV RX7 156 RX7 yX7_readsEntry wsX7_readsEntry) := goodIn_app (goodIn_of _ (by decide +kernel)) ggX7_read_X7_readsEntry
set_option maxRecDepth 20000 in
theorem ggX7_read_X7_does : GoodIn wsX7_read wsX7_does := goodIn_ca (goodIn_ca (goodIn_r _ [41, 18, 5, 20, 21, 42, 43, 44, 11, 45, 46, 47, 48, 49, 50, 51, 52, 53, 54, 55, 56, 57, 30, 31, 32, 58, 59, 60, 61, 62, 63, 64, 65, 66, 67, 68, 69, 70, 71, 72, 73, 74, 75, 76, 77, 78, 79, 80, 81, 82, 83, 84, 85, 86, 87, 88, 89, 6, 90, 91, 92, 93, 94, 95, 96, 97, 98, 99, 100, 101, 102, 103, 104, 105, 106, 107, 108, 109, 110, 111, 112, 113, 114, 115, 116, 117, 118, 119, 120, 121, 122, 123, 124, 129, 130, 131, 132, 133, 134, 135, 136, 137, 138, 139, 140, 141, 142, 143, 144] (by decide +kernel) (by decide +kernel)) (goodIn_sub (fun _ h => List.mem_cons_of_mem _ (List.mem_append_left _ (List.mem_append_right _ h))) (by decide +kernel))) (goodIn_sub (fun _ h => List.mem_cons_of_mem _ (List.mem_append_right _ h)) (by decide +kernel))
set_option maxRecDepth 20000 in
theorem gX7_read_X7_does : GoodIn wsX7_read (wsV RX7 165 RX7 yX7_does wsX7_does) := goodIn_app (goodIn_of _ (by decide +kernel)) ggX7_read_X7_does
set_option maxRecDepth 20000 in
theorem ggX7_read_X7_done : GoodIn wsX7_read wsX7_done := goodIn_r _ [128, 37, 129, 130, 131, 132, 133, 134, 135, 136, 137, 138, 139, 140, 141, 142, 143, 144] (by decide +kernel) (by decide +kernel)
set_option maxRecDepth 20000 in
theorem gX7_read_X7_done : GoodIn wsX7_read (wsV RX7 49 RX7 yX7_done wsX7_done) := goodIn_app (goodIn_of _ (by decide +kernel)) ggX7_read_X7_done
theorem dX7_read_0 : decode cX7_read 0 = .ok (.aload_n 0, 1) := by decide +kernel
theorem dX7_read_1 : decode cX7_read 1 = .ok (.invokevirtual 159, 3) := by decide +kernel
theorem dX7_read_4 : decode cX7_read 4 = .ok (.istore_n 1, 1) := by decide +kernel
theorem dX7_read_5 : decode cX7_read 5 = .ok (.iload_n 1, 1) := by decide +kernel
theorem dX7_read_6 : decode cX7_read 6 = .ok (.iconst (-1), 1) := by decide +kernel
theorem dX7_read_7 : decode cX7_read 7 = .ok (.if_icmp .ne 22, 3) := by decide +kernel
theorem dX7_read_10 : decode cX7_read 10 = .ok (.aload_n 0, 1) := by decide +kernel
theorem dX7_read_11 : decode cX7_read 11 = .ok (.aload_n 0, 1) := by decide +kernel
theorem dX7_read_12 : decode cX7_read 12 = .ok (.getfield 135, 3) := by decide +kernel
theorem dX7_read_15 : decode cX7_read 15 = .ok (.putfield 23, 3) := by decide +kernel
theorem dX7_read_18 : decode cX7_read 18 = .ok (.aload_n 0, 1) := by decide +kernel
theorem dX7_read_19 : decode cX7_read 19 = .ok (.iconst 0, 1) := by decide +kernel
theorem dX7_read_20 : decode cX7_read 20 = .ok (.putfield 132, 3) := by decide +kernel
theorem dX7_read_23 : decode cX7_read 23 = .ok (.aload_n 0, 1) := by decide +kernel
theorem dX7_read_24 : decode cX7_read 24 = .ok (.iconst 1, 1) := by decide +kernel
theorem dX7_read_25 : decode cX7_read 25 = .ok (.invokevirtual 56, 3) := by decide +kernel
theorem dX7_read_28 : decode cX7_read 28 = .ok (.ireturn, 1) := by decide +kernel
theorem dX7_read_29 : decode cX7_read 29 = .ok (.iconst 0, 1) := by decide +kernel
theorem dX7_read_30 : decode cX7_read 30 = .ok (.istore_n 2, 1) := by decide +kernel
theorem dX7_read_31 : decode cX7_read 31 = .ok (.iload_n 2, 1) := by decide +kernel
theorem dX7_read_32 : decode cX7_read 32 = .ok (.sipush 1787, 3) := by decide +kernel
theorem dX7_read_35 : decode cX7_read 35 = .ok (.if_icmp .ge 21, 3) := by decide +kernel
theorem dX7_read_38 : decode cX7_read 38 = .ok (.aload_n 0, 1) := by decide +kernel
theorem dX7_read_39 : decode cX7_read 39 = .ok (.getfield 13, 3) := by decide +kernel
theorem dX7_read_42 : decode cX7_read 42 = .ok (.iload_n 2, 1) := by decide +kernel
theorem dX7_read_43 : decode cX7_read 43 = .ok (.aload_n 0, 1) := by decide +kernel
theorem dX7_read_44 : decode cX7_read 44 = .ok (.getfield 7, 3) := by decide +kernel
theorem dX7_read_47 : decode cX7_read 47 = .ok (.iload_n 2, 1) := by decide +kernel
theorem dX7_read_48 : decode cX7_read 48 = .ok (.iaload, 1) := by decide +kernel
theorem dX7_read_49 : decode cX7_read 49 = .ok (.iastore, 1) := by decide +kernel
theorem dX7_read_50 : decode cX7_read 50 = .ok (.iinc 2 1, 3) := by decide +kernel
theorem dX7_read_53 : decode cX7_read 53 = .ok (.goto (-22), 3) := by decide +kernel
theorem dX7_read_56 : decode cX7_read 56 = .ok (.aload_n 0, 1) := by decide +kernel
theorem dX7_read_57 : decode cX7_read 57 = .ok (.aload_n 0, 1) := by decide +kernel
theorem dX7_read_58 : decode cX7_read 58 = .ok (.getfield 30, 3) := by decide +kernel
theorem dX7_read_61 : decode cX7_read 61 = .ok (.putfield 162, 3) := by decide +kernel
theorem dX7_read_64 : decode cX7_read 64 = .ok (.aload_n 0, 1) := by decide +kernel
theorem dX7_read_65 : decode cX7_read 65 = .ok (.iconst 0, 1) := by decide +kernel
theorem dX7_read_66 : decode cX7_read 66 = .ok (.putfield 135, 3) := by decide +kernel
theorem dX7_read_69 : decode cX7_read 69 = .ok (.iconst 1, 1) := by decide +kernel
theorem dX7_read_70 : decode cX7_read 70 = .ok (.istore_n 2, 1) := by decide +kernel
theorem dX7_read_71 : decode cX7_read 71 = .ok (.iconst 0, 1) := by decide +kernel
theorem dX7_read_72 : decode cX7_read 72 = .ok (.istore_n 3, 1) := by decide +kernel
theorem dX7_read_73 : decode cX7_read 73 = .ok (.iload_n 3, 1) := by decide +kernel
theorem dX7_read_74 : decode cX7_read 74 = .ok (.iload_n 1, 1) := by decide +kernel
theorem dX7_read_75 : decode cX7_read 75 = .ok (.if_icmp .ge 22, 3) := by decide +kernel
theorem dX7_read_78 : decode cX7_read 78 = .ok (.iload_n 2, 1) := by decide +kernel
theorem dX7_read_79 : decode cX7_read 79 = .ok (.ifCond .eq 18, 3) := by decide +kernel
theorem dX7_read_82 : decode cX7_read 82 = .ok (.aload_n 0, 1) := by decide +kernel
theorem dX7_read_83 : decode cX7_read 83 = .ok (.aload_n 0, 1) := by decide +kernel
theorem dX7_read_84 : decode cX7_read 84 = .ok (.invokevirtual 156, 3) := by decide +kernel
theorem dX7_read_87 : decode cX7_read 87 = .ok (.invokevirtual 165, 3) := by decide +kernel
theorem dX7_read_90 : decode cX7_read 90 = .ok (.istore_n 2, 1) := by decide +kernel
theorem dX7_read_91 : decode cX7_read 91 = .ok (.iinc 3 1, 3) := by decide +kernel
theorem dX7_read_94 : decode cX7_read 94 = .ok (.goto (-21), 3) := by decide +kernel
theorem dX7_read_97 : decode cX7_read 97 = .ok (.aload_n 0, 1) := by decide +kernel
theorem dX7_read_98 : decode cX7_read 98 = .ok (.iconst 0, 1) := by decide +kernel
theorem dX7_read_99 : decode cX7_read 99 = .ok (.putfield 132, 3) := by decide +kernel
theorem dX7_read_102 : decode cX7_read 102 = .ok (.iload_n 2, 1) := by decide +kernel
theorem dX7_read_103 : decode cX7_read 103 = .ok (.ifCond .ne 44, 3) := by decide +kernel
theorem dX7_read_106 : decode cX7_read 106 = .ok (.iconst 0, 1) := by decide +kernel
theorem dX7_read_107 : decode cX7_read 107 = .ok (.istore_n 3, 1) := by decide +kernel
theorem dX7_read_108 : decode cX7_read 108 = .ok (.iload_n 3, 1) := by decide +kernel
theorem dX7_read_109 : decode cX7_read 109 = .ok (.sipush 1787, 3) := by decide +kernel
theorem dX7_read_112 : decode cX7_read 112 = .ok (.if_icmp .ge 21, 3) := by decide +kernel
theorem dX7_read_115 : decode cX7_read 115 = .ok (.aload_n 0, 1) := by decide +kernel
theorem dX7_read_116 : decode cX7_read 116 = .ok (.getfield 7, 3) := by decide +kernel
theorem dX7_read_119 : decode cX7_read 119 = .ok (.iload_n 3, 1) := by decide +kernel
theorem dX7_read_120 : decode cX7_read 120 = .ok (.aload_n 0, 1) := by decide +kernel
theorem dX7_read_121 : decode cX7_read 121 = .ok (.getfield 13, 3) := by decide +kernel
theorem dX7_read_124 : decode cX7_read 124 = .ok (.iload_n 3, 1) := by decide +kernel
theorem dX7_read_125 : decode cX7_read 125 = .ok (.iaload, 1) := by decide +kernel
theorem dX7_read_126 : decode cX7_read 126 = .ok (.iastore, 1) := by decide +kernel
theorem dX7_read_127 : decode cX7_read 127 = .ok (.iinc 3 1, 3) := by decide +kernel
theorem dX7_read_130 : decode cX7_read 130 = .ok (.goto (-22), 3) := by decide +kernel
theorem dX7_read_133 : decode cX7_read 133 = .ok (.aload_n 0, 1) := by decide +kernel
theorem dX7_read_134 : decode cX7_read 134 = .ok (.aload_n 0, 1) := by decide +kernel
theorem dX7_read_135 : decode cX7_read 135 = .ok (.getfield 162, 3) := by decide +kernel
theorem dX7_read_138 : decode cX7_read 138 = .ok (.putfield 30, 3) := by decide +kernel
theorem dX7_read_141 : decode cX7_read 141 = .ok (.aload_n 0, 1) := by decide +kernel
theorem dX7_read_142 : decode cX7_read 142 = .ok (.iconst 2, 1) := by decide +kernel
theorem dX7_read_143 : decode cX7_read 143 = .ok (.invokevirtual 56, 3) := by decide +kernel
theorem dX7_read_146 : decode cX7_read 146 = .ok (.ireturn, 1) := by decide +kernel
theorem dX7_read_147 : decode cX7_read 147 = .ok (.aload_n 0, 1) := by decide +kernel
theorem dX7_read_148 : decode cX7_read 148 = .ok (.iload_n 1, 1) := by decide +kernel
theorem dX7_read_149 : decode cX7_read 149 = .ok (.invokevirtual 49, 3) := by decide +kernel
theorem dX7_read_152 : decode cX7_read 152 = .ok (.ireturn, 1) := by decide +kernel
set_option maxRecDepth 20000 in
theorem ggX7_errorPosition_X7_fails : GoodIn wsX7_errorPosition wsX7_fails := goodIn_r _ [6, 7, 12, 13, 14, 15, 16, 17, 18, 19, 20, 21, 22, 23, 24, 25, 26, 27] (by decide +kernel) (by decide +kernel)
set_option maxRecDepth 20000 in
theorem gX7_errorPosition_X7_fails : GoodIn wsX7_errorPosition (wsV RX7 56 RX7 yX7_fails wsX7_fails) := goodIn_app (goodIn_of _ (by decide +kernel)) ggX7_errorPosition_X7_fails
set_option maxRecDepth 20000 in
theorem ggX7_errorPosition_X7_done : GoodIn wsX7_errorPosition wsX7_done := goodIn_r _ [11, 7, 12, 13, 14, 15, 16, 17, 18, 19, 20, 21, 22, 23, 24, 25, 26, 27] (by decide +kernel) (by decide +kernel)
set_option maxRecDepth 20000 in
theorem gX7_errorPosition_X7_done : GoodIn wsX7_errorPosition (wsV RX7 49 RX7 yX7_done wsX7_done) := goodIn_app (goodIn_of _ (by decide +kernel)) ggX7_errorPosition_X7_done
theorem dX7_errorPosition_0 : decode cX7_errorPosition 0 = .ok (.aload_n 0, 1) := by decide +kernel
theorem dX7_errorPosition_1 : decode cX7_errorPosition 1 = .ok (.getfield 23, 3) := by decide +kernel
theorem dX7_errorPosition_4 : decode cX7_errorPosition 4 = .ok (.iconst (-1), 1) := by decide +kernel
theorem dX7_errorPosition_5 : decode cX7_errorPosition 5 = .ok (.if_icmp .ne 11, 3) := by decide +kernel
theorem dX7_errorPosition_8 : decode cX7_errorPosition 8 = .ok (.aload_n 0, 1) := by decide +kernel
theorem dX7_errorPosition_9 : decode cX7_errorPosition 9 = .ok (.iconst 1, 1) := by decide +kernel
theorem dX7_errorPosition_10 : decode cX7_errorPosition 10 = .ok (.invokevirtual 56, 3) := by decide +kernel
theorem dX7_errorPosition_13 : decode cX7_errorPosition 13 = .ok (.goto 11, 3) := by decide +kernel
theorem dX7_errorPosition_16 : decode cX7_errorPosition 16 = .ok (.aload_n 0, 1) := by decide +kernel
theorem dX7_errorPosition_17 : decode cX7_errorPosition 17 = .ok (.aload_n 0, 1) := by decide +kernel
theorem dX7_errorPosition_18 : decode cX7_errorPosition 18 = .ok (.getfield 23, 3) := by decide +kernel
theorem dX7_errorPosition_21 : decode cX7_errorPosition 21 = .ok (.invokevirtual 49, 3) := by decide +kernel
theorem dX7_errorPosition_24 : decode cX7_errorPosition 24 = .ok (.ireturn, 1) := by decide +kernel
set_option maxRecDepth 20000 in
theorem ggX7_save_X7_done : GoodIn wsX7_save wsX7_done := goodIn_r _ [10, 11, 12, 13, 14, 15, 16, 17, 18, 19, 20, 21, 22, 23, 24, 25, 26, 27] (by decide +kernel) (by decide +kernel)
set_option maxRecDepth 20000 in
theorem gX7_save_X7_done : GoodIn wsX7_save (wsV RX7 49 RX7 yX7_done wsX7_done) := goodIn_app (goodIn_of _ (by decide +kernel)) ggX7_save_X7_done
theorem dX7_save_0 : decode cX7_save 0 = .ok (.aload_n 0, 1) := by decide +kernel
theorem dX7_save_1 : decode cX7_save 1 = .ok (.iconst 1, 1) := by decide +kernel
theorem dX7_save_2 : decode cX7_save 2 = .ok (.putfield 168, 3) := by decide +kernel
theorem dX7_save_5 : decode cX7_save 5 = .ok (.iconst 0, 1) := by decide +kernel
theorem dX7_save_6 : decode cX7_save 6 = .ok (.istore_n 1, 1) := by decide +kernel
theorem dX7_save_7 : decode cX7_save 7 = .ok (.iload_n 1, 1) := by decide +kernel
theorem dX7_save_8 : decode cX7_save 8 = .ok (.sipush 1787, 3) := by decide +kernel
theorem dX7_save_11 : decode cX7_save 11 = .ok (.if_icmp .ge 21, 3) := by decide +kernel
theorem dX7_save_14 : decode cX7_save 14 = .ok (.aload_n 0, 1) := by decide +kernel
theorem dX7_save_15 : decode cX7_save 15 = .ok (.getfield 16, 3) := by decide +kernel
theorem dX7_save_18 : decode cX7_save 18 = .ok (.iload_n 1, 1) := by decide +kernel
theorem dX7_save_19 : decode cX7_save 19 = .ok (.aload_n 0, 1) := by decide +kernel
theorem dX7_save_20 : decode cX7_save 20 = .ok (.getfield 7, 3) := by decide +kernel
theorem dX7_save_23 : decode cX7_save 23 = .ok (.iload_n 1, 1) := by decide +kernel
theorem dX7_save_24 : decode cX7_save 24 = .ok (.iaload, 1) := by decide +kernel
theorem dX7_save_25 : decode cX7_save 25 = .ok (.iastore, 1) := by decide +kernel
theorem dX7_save_26 : decode cX7_save 26 = .ok (.iinc 1 1, 3) := by decide +kernel
theorem dX7_save_29 : decode cX7_save 29 = .ok (.goto (-22), 3) := by decide +kernel
theorem dX7_save_32 : decode cX7_save 32 = .ok (.aload_n 0, 1) := by decide +kernel
theorem dX7_save_33 : decode cX7_save 33 = .ok (.aload_n 0, 1) := by decide +kernel
theorem dX7_save_34 : decode cX7_save 34 = .ok (.getfield 30, 3) := by decide +kernel
theorem dX7_save_37 : decode cX7_save 37 = .ok (.putfield 172, 3) := by decide +kernel
theorem dX7_save_40 : decode cX7_save 40 = .ok (.aload_n 0, 1) := by decide +kernel
theorem dX7_save_41 : decode cX7_save 41 = .ok (.aload_n 0, 1) := by decide +kernel
theorem dX7_save_42 : decode cX7_save 42 = .ok (.getfield 7, 3) := by decide +kernel
theorem dX7_save_45 : decode cX7_save 45 = .ok (.sipush 400, 3) := by decide +kernel
theorem dX7_save_48 : decode cX7_save 48 = .ok (.iaload, 1) := by decide +kernel
theorem dX7_save_49 : decode cX7_save 49 = .ok (.invokevirtual 49, 3) := by decide +kernel
theorem dX7_save_52 : decode cX7_save 52 = .ok (.ireturn, 1) := by decide +kernel
set_option maxRecDepth 20000 in
theorem ggX7_restore_X7_fails : GoodIn wsX7_restore wsX7_fails := goodIn_r _ [10, 11, 16, 17, 18, 19, 20, 21, 22, 23, 24, 25, 26, 27, 28, 29, 30, 31] (by decide +kernel) (by decide +kernel)
set_option maxRecDepth 20000 in
theorem gX7_restore_X7_fails : GoodIn wsX7_restore (wsV RX7 56 RX7 yX7_fails wsX7_fails) := goodIn_app (goodIn_of _ (by decide +kernel)) ggX7_restore_X7_fails
set_option maxRecDepth 20000 in
theorem ggX7_restore_X7_done : GoodIn wsX7_restore wsX7_done := goodIn_r _ [15, 11, 16, 17, 18, 19, 20, 21, 22, 23, 24, 25, 26, 27, 28, 29, 30, 31] (by decide +kernel) (by decide +kernel)
set_option maxRecDepth 20000 in
theorem gX7_restore_X7_done : GoodIn wsX7_restore (wsV RX7 49 RX7 yX7_done wsX7_done) := goodIn_app (goodIn_of _ (by decide +kernel)) ggX7_restore_X7_done
theorem dX7_restore_0 : decode cX7_restore 0 = .ok (.aload_n 0, 1) := by decide +kernel
theorem dX7_restore_1 : decode cX7_restore 1 = .ok (.getfield 168, 3) := by decide +kernel
theorem dX7_restore_4 : decode cX7_restore 4 = .ok (.ifCond .ne 9, 3) := by decide +kernel
theorem dX7_restore_7 : decode cX7_restore 7 = .ok (.aload_n 0, 1) := by decide +kernel
theorem dX7_restore_8 : decode cX7_restore 8 = .ok (.iconst 1, 1) := by decide +kernel
theorem dX7_restore_9 : decode cX7_restore 9 = .ok (.invokevirtual 56, 3) := by decide +kernel
theorem dX7_restore_12 : decode cX7_restore 12 = .ok (.ireturn, 1) := by decide +kernel
theorem dX7_restore_13 : decode cX7_restore 13 = .ok (.iconst 0, 1) := by decide +kernel
theorem dX7_restore_14 : decode cX7_restore 14 = .ok (.istore_n 1, 1) := by decide +kernel
theorem dX7_restore_15 : decode cX7_restore 15 = .ok (.iload_n 1, 1) := by decide +kernel
theorem dX7_restore_16 : decode cX7_restore 16 = .ok (.sipush 1787, 3) := by decide +kernel
theorem dX7_restore_19 : decode cX7_restore 19 = .ok (.if_icmp .ge 21, 3) := by decide +kernel
theorem dX7_restore_22 : decode cX7_restore 22 = .ok (.aload_n 0, 1) := by decide +kernel
theorem dX7_restore_23 : decode cX7_restore 23 = .ok (.getfield 7, 3) := by decide +kernel
theorem dX7_restore_26 : decode cX7_restore 26 = .ok (.iload_n 1, 1) := by decide +kernel
theorem dX7_restore_27 : decode cX7_restore 27 = .ok (.aload_n 0, 1) := by decide +kernel
theorem dX7_restore_28 : decode cX7_restore 28 = .ok (.getfield 16, 3) := by decide +kernel
theorem dX7_restore_31 : decode cX7_restore 31 = .ok (.iload_n 1, 1) := by decide +kernel
theorem dX7_restore_32 : decode cX7_restore 32 = .ok (.iaload, 1) := by decide +kernel
theorem dX7_restore_33 : decode cX7_restore 33 = .ok (.iastore, 1) := by decide +kernel
theorem dX7_restore_34 : decode cX7_restore 34 = .ok (.iinc 1 1, 3) := by decide +kernel
theorem dX7_restore_37 : decode cX7_restore 37 = .ok (.goto (-22), 3) := by decide +kernel
theorem dX7_restore_40 : decode cX7_restore 40 = .ok (.aload_n 0, 1) := by decide +kernel
theorem dX7_restore_41 : decode cX7_restore 41 = .ok (.aload_n 0, 1) := by decide +kernel
theorem dX7_restore_42 : decode cX7_restore 42 = .ok (.getfield 172, 3) := by decide +kernel
theorem dX7_restore_45 : decode cX7_restore 45 = .ok (.putfield 30, 3) := by decide +kernel
theorem dX7_restore_48 : decode cX7_restore 48 = .ok (.aload_n 0, 1) := by decide +kernel
theorem dX7_restore_49 : decode cX7_restore 49 = .ok (.aload_n 0, 1) := by decide +kernel
theorem dX7_restore_50 : decode cX7_restore 50 = .ok (.getfield 7, 3) := by decide +kernel
theorem dX7_restore_53 : decode cX7_restore 53 = .ok (.sipush 400, 3) := by decide +kernel
theorem dX7_restore_56 : decode cX7_restore 56 = .ok (.iaload, 1) := by decide +kernel
theorem dX7_restore_57 : decode cX7_restore 57 = .ok (.invokevirtual 49, 3) := by decide +kernel
theorem dX7_restore_60 : decode cX7_restore 60 = .ok (.ireturn, 1) := by decide +kernel
theorem dJx00060_init_a7421_0 : decode cJx00060_init_a7421 0 = .ok (.aload_n 0, 1) := by decide +kernel
theorem dJx00060_init_a7421_1 : decode cJx00060_init_a7421 1 = .ok (.aload_n 1, 1) := by decide +kernel
theorem dJx00060_init_a7421_2 : decode cJx00060_init_a7421 2 = .ok (.invokespecial 7, 3) := by decide +kernel
theorem dJx00060_init_a7421_5 : decode cJx00060_init_a7421 5 = .ok (.return_, 1) := by decide +kernel
theorem dJ9_max_7cf53_0 : decode cJ9_max_7cf53 0 = .ok (.iload_n 0, 1) := by decide +kernel
theorem dJ9_max_7cf53_1 : decode cJ9_max_7cf53 1 = .ok (.iload_n 1, 1) := by decide +kernel
theorem dJ9_max_7cf53_2 : decode cJ9_max_7cf53 2 = .ok (.if_icmp .lt 7, 3) := by decide +kernel
theorem dJ9_max_7cf53_5 : decode cJ9_max_7cf53 5 = .ok (.iload_n 0, 1) := by decide +kernel
theorem dJ9_max_7cf53_6 : decode cJ9_max_7cf53 6 = .ok (.goto 4, 3) := by decide +kernel
theorem dJ9_max_7cf53_9 : decode cJ9_max_7cf53 9 = .ok (.iload_n 1, 1) := by decide +kernel
theorem dJ9_max_7cf53_10 : decode cJ9_max_7cf53 10 = .ok (.ireturn, 1) := by decide +kernel
theorem dJ9_min_7cf53_0 : decode cJ9_min_7cf53 0 = .ok (.iload_n 0, 1) := by decide +kernel
theorem dJ9_min_7cf53_1 : decode cJ9_min_7cf53 1 = .ok (.iload_n 1, 1) := by decide +kernel
theorem dJ9_min_7cf53_2 : decode cJ9_min_7cf53 2 = .ok (.if_icmp .gt 7, 3) := by decide +kernel
theorem dJ9_min_7cf53_5 : decode cJ9_min_7cf53 5 = .ok (.iload_n 0, 1) := by decide +kernel
theorem dJ9_min_7cf53_6 : decode cJ9_min_7cf53 6 = .ok (.goto 4, 3) := by decide +kernel
theorem dJ9_min_7cf53_9 : decode cJ9_min_7cf53 9 = .ok (.iload_n 1, 1) := by decide +kernel
theorem dJ9_min_7cf53_10 : decode cJ9_min_7cf53 10 = .ok (.ireturn, 1) := by decide +kernel
