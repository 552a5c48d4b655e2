set_option maxRecDepth 20000 in
theorem ggX0_init_X4_init : GoodIn wsX0_init wsX4_init := goodIn_r _ [19, 20, 2, 3, 21, 22, 23, 24, 25, 26, 27] (by decide +kernel) (by decide +kernel)
set_option maxRecDepth 20000 in
theorem gX0_init_X4_init : GoodIn wsX0_init (wsX4_init) := ggX0_init_X4_init
theorem dX0_init_0 : decode cX0_init 0 = .ok (.aload_n 0, 1) := by decide +kernel
theorem dX0_init_1 : decode cX0_init 1 = .ok (.invokespecial 3, 3) := by decide +kernel
theorem dX0_init_4 : decode cX0_init 4 = .ok (.aload_n 0, 1) := by decide +kernel
theorem dX0_init_5 : decode cX0_init 5 = .ok (.new 9, 3) := by decide +kernel
theorem dX0_init_8 : decode cX0_init 8 = .ok (.dup, 1) := by decide +kernel
theorem dX0_init_9 : decode cX0_init 9 = .ok (.bipush 100, 2) := by decide +kernel
theorem dX0_init_11 : decode cX0_init 11 = .ok (.invokespecial 11, 3) := by decide +kernel
theorem dX0_init_14 : decode cX0_init 14 = .ok (.putfield 14, 3) := by decide +kernel
theorem dX0_init_17 : decode cX0_init 17 = .ok (.aload_n 0, 1) := by decide +kernel
theorem dX0_init_18 : decode cX0_init 18 = .ok (.new 9, 3) := by decide +kernel
theorem dX0_init_21 : decode cX0_init 21 = .ok (.dup, 1) := by decide +kernel
theorem dX0_init_22 : decode cX0_init 22 = .ok (.bipush 100, 2) := by decide +kernel
theorem dX0_init_24 : decode cX0_init 24 = .ok (.invokespecial 11, 3) := by decide +kernel
theorem dX0_init_27 : decode cX0_init 27 = .ok (.putfield 20, 3) := by decide +kernel
theorem dX0_init_30 : decode cX0_init 30 = .ok (.aload_n 0, 1) := by decide +kernel
theorem dX0_init_31 : decode cX0_init 31 = .ok (.new 9, 3) := by decide +kernel
theorem dX0_init_34 : decode cX0_init 34 = .ok (.dup, 1) := by decide +kernel
theorem dX0_init_35 : decode cX0_init 35 = .ok (.bipush 100, 2) := by decide +kernel
theorem dX0_init_37 : decode cX0_init 37 = .ok (.invokespecial 11, 3) := by decide +kernel
theorem dX0_init_40 : decode cX0_init 40 = .ok (.putfield 23, 3) := by decide +kernel
theorem dX0_init_43 : decode cX0_init 43 = .ok (.aload_n 0, 1) := by decide +kernel
theorem dX0_init_44 : decode cX0_init 44 = .ok (.new 9, 3) := by decide +kernel
theorem dX0_init_47 : decode cX0_init 47 = .ok (.dup, 1) := by decide +kernel
theorem dX0_init_48 : decode cX0_init 48 = .ok (.bipush 100, 2) := by decide +kernel
theorem dX0_init_50 : decode cX0_init 50 = .ok (.invokespecial 11, 3) := by decide +kernel
theorem dX0_init_53 : decode cX0_init 53 = .ok (.putfield 26, 3) := by decide +kernel
theorem dX0_init_56 : decode cX0_init 56 = .ok (.aload_n 0, 1) := by decide +kernel
theorem dX0_init_57 : decode cX0_init 57 = .ok (.new 9, 3) := by decide +kernel
theorem dX0_init_60 : decode cX0_init 60 = .ok (.dup, 1) := by decide +kernel
theorem dX0_init_61 : decode cX0_init 61 = .ok (.bipush 100, 2) := by decide +kernel
theorem dX0_init_63 : decode cX0_init 63 = .ok (.invokespecial 11, 3) := by decide +kernel
theorem dX0_init_66 : decode cX0_init 66 = .ok (.putfield 29, 3) := by decide +kernel
theorem dX0_init_69 : decode cX0_init 69 = .ok (.aload_n 0, 1) := by decide +kernel
theorem dX0_init_70 : decode cX0_init 70 = .ok (.new 9, 3) := by decide +kernel
theorem dX0_init_73 : decode cX0_init 73 = .ok (.dup, 1) := by decide +kernel
theorem dX0_init_74 : decode cX0_init 74 = .ok (.bipush 100, 2) := by decide +kernel
theorem dX0_init_76 : decode cX0_init 76 = .ok (.invokespecial 11, 3) := by decide +kernel
theorem dX0_init_79 : decode cX0_init 79 = .ok (.putfield 32, 3) := by decide +kernel
theorem dX0_init_82 : decode cX0_init 82 = .ok (.aload_n 0, 1) := by decide +kernel
theorem dX0_init_83 : decode cX0_init 83 = .ok (.new 9, 3) := by decide +kernel
theorem dX0_init_86 : decode cX0_init 86 = .ok (.dup, 1) := by decide +kernel
theorem dX0_init_87 : decode cX0_init 87 = .ok (.bipush 100, 2) := by decide +kernel
theorem dX0_init_89 : decode cX0_init 89 = .ok (.invokespecial 11, 3) := by decide +kernel
theorem dX0_init_92 : decode cX0_init 92 = .ok (.putfield 35, 3) := by decide +kernel
theorem dX0_init_95 : decode cX0_init 95 = .ok (.aload_n 0, 1) := by decide +kernel
theorem dX0_init_96 : decode cX0_init 96 = .ok (.new 9, 3) := by decide +kernel
theorem dX0_init_99 : decode cX0_init 99 = .ok (.dup, 1) := by decide +kernel
theorem dX0_init_100 : decode cX0_init 100 = .ok (.bipush 100, 2) := by decide +kernel
theorem dX0_init_102 : decode cX0_init 102 = .ok (.invokespecial 11, 3) := by decide +kernel
theorem dX0_init_105 : decode cX0_init 105 = .ok (.putfield 38, 3) := by decide +kernel
theorem dX0_init_108 : decode cX0_init 108 = .ok (.aload_n 0, 1) := by decide +kernel
theorem dX0_init_109 : decode cX0_init 109 = .ok (.new 9, 3) := by decide +kernel
theorem dX0_init_112 : decode cX0_init 112 = .ok (.dup, 1) := by decide +kernel
theorem dX0_init_113 : decode cX0_init 113 = .ok (.bipush 100, 2) := by decide +kernel
theorem dX0_init_115 : decode cX0_init 115 = .ok (.invokespecial 11, 3) := by decide +kernel
theorem dX0_init_118 : decode cX0_init 118 = .ok (.putfield 41, 3) := by decide +kernel
theorem dX0_init_121 : decode cX0_init 121 = .ok (.aload_n 0, 1) := by decide +kernel
theorem dX0_init_122 : decode cX0_init 122 = .ok (.iconst 0, 1) := by decide +kernel
theorem dX0_init_123 : decode cX0_init 123 = .ok (.putfield 44, 3) := by decide +kernel
theorem dX0_init_126 : decode cX0_init 126 = .ok (.return_, 1) := by decide +kernel
set_option maxRecDepth 20000 in
theorem ggX0_copyFrom_X4_copyFrom : GoodIn wsX0_copyFrom wsX4_copyFrom := goodIn_ca (goodIn_r _ [15, 16, 17, 18, 19, 14, 20, 31] (by decide +kernel) (by decide +kernel)) (goodIn_sub (fun _ h => List.mem_cons_of_mem _ (List.mem_append_right _ h)) (by decide +kernel))
set_option maxRecDepth 20000 in
theorem gX0_copyFrom_X4_copyFrom : GoodIn wsX0_copyFrom (wsV RX0 48 RX4 yX4_copyFrom wsX4_copyFrom) := goodIn_app (goodIn_of _ (by decide +kernel)) ggX0_copyFrom_X4_copyFrom
theorem dX0_copyFrom_0 : decode cX0_copyFrom 0 = .ok (.aload_n 1, 1) := by decide +kernel
theorem dX0_copyFrom_1 : decode cX0_copyFrom 1 = .ok (.ifnonnull 4, 3) := by decide +kernel
theorem dX0_copyFrom_4 : decode cX0_copyFrom 4 = .ok (.return_, 1) := by decide +kernel
theorem dX0_copyFrom_5 : decode cX0_copyFrom 5 = .ok (.aload_n 0, 1) := by decide +kernel
theorem dX0_copyFrom_6 : decode cX0_copyFrom 6 = .ok (.getfield 14, 3) := by decide +kernel
theorem dX0_copyFrom_9 : decode cX0_copyFrom 9 = .ok (.aload_n 1, 1) := by decide +kernel
theorem dX0_copyFrom_10 : decode cX0_copyFrom 10 = .ok (.getfield 14, 3) := by decide +kernel
theorem dX0_copyFrom_13 : decode cX0_copyFrom 13 = .ok (.invokevirtual 48, 3) := by decide +kernel
theorem dX0_copyFrom_16 : decode cX0_copyFrom 16 = .ok (.aload_n 0, 1) := by decide +kernel
theorem dX0_copyFrom_17 : decode cX0_copyFrom 17 = .ok (.getfield 20, 3) := by decide +kernel
theorem dX0_copyFrom_20 : decode cX0_copyFrom 20 = .ok (.aload_n 1, 1) := by decide +kernel
theorem dX0_copyFrom_21 : decode cX0_copyFrom 21 = .ok (.getfield 20, 3) := by decide +kernel
theorem dX0_copyFrom_24 : decode cX0_copyFrom 24 = .ok (.invokevirtual 48, 3) := by decide +kernel
theorem dX0_copyFrom_27 : decode cX0_copyFrom 27 = .ok (.aload_n 0, 1) := by decide +kernel
theorem dX0_copyFrom_28 : decode cX0_copyFrom 28 = .ok (.getfield 23, 3) := by decide +kernel
theorem dX0_copyFrom_31 : decode cX0_copyFrom 31 = .ok (.aload_n 1, 1) := by decide +kernel
theorem dX0_copyFrom_32 : decode cX0_copyFrom 32 = .ok (.getfield 23, 3) := by decide +kernel
theorem dX0_copyFrom_35 : decode cX0_copyFrom 35 = .ok (.invokevirtual 48, 3) := by decide +kernel
theorem dX0_copyFrom_38 : decode cX0_copyFrom 38 = .ok (.aload_n 0, 1) := by decide +kernel
theorem dX0_copyFrom_39 : decode cX0_copyFrom 39 = .ok (.getfield 26, 3) := by decide +kernel
theorem dX0_copyFrom_42 : decode cX0_copyFrom 42 = .ok (.aload_n 1, 1) := by decide +kernel
theorem dX0_copyFrom_43 : decode cX0_copyFrom 43 = .ok (.getfield 26, 3) := by decide +kernel
theorem dX0_copyFrom_46 : decode cX0_copyFrom 46 = .ok (.invokevirtual 48, 3) := by decide +kernel
theorem dX0_copyFrom_49 : decode cX0_copyFrom 49 = .ok (.aload_n 0, 1) := by decide +kernel
theorem dX0_copyFrom_50 : decode cX0_copyFrom 50 = .ok (.getfield 29, 3) := by decide +kernel
theorem dX0_copyFrom_53 : decode cX0_copyFrom 53 = .ok (.aload_n 1, 1) := by decide +kernel
theorem dX0_copyFrom_54 : decode cX0_copyFrom 54 = .ok (.getfield 29, 3) := by decide +kernel
theorem dX0_copyFrom_57 : decode cX0_copyFrom 57 = .ok (.invokevirtual 48, 3) := by decide +kernel
theorem dX0_copyFrom_60 : decode cX0_copyFrom 60 = .ok (.aload_n 0, 1) := by decide +kernel
theorem dX0_copyFrom_61 : decode cX0_copyFrom 61 = .ok (.getfield 32, 3) := by decide +kernel
theorem dX0_copyFrom_64 : decode cX0_copyFrom 64 = .ok (.aload_n 1, 1) := by decide +kernel
theorem dX0_copyFrom_65 : decode cX0_copyFrom 65 = .ok (.getfield 32, 3) := by decide +kernel
theorem dX0_copyFrom_68 : decode cX0_copyFrom 68 = .ok (.invokevirtual 48, 3) := by decide +kernel
theorem dX0_copyFrom_71 : decode cX0_copyFrom 71 = .ok (.aload_n 0, 1) := by decide +kernel
theorem dX0_copyFrom_72 : decode cX0_copyFrom 72 = .ok (.getfield 35, 3) := by decide +kernel
theorem dX0_copyFrom_75 : decode cX0_copyFrom 75 = .ok (.aload_n 1, 1) := by decide +kernel
theorem dX0_copyFrom_76 : decode cX0_copyFrom 76 = .ok (.getfield 35, 3) := by decide +kernel
theorem dX0_copyFrom_79 : decode cX0_copyFrom 79 = .ok (.invokevirtual 48, 3) := by decide +kernel
theorem dX0_copyFrom_82 : decode cX0_copyFrom 82 = .ok (.aload_n 0, 1) := by decide +kernel
theorem dX0_copyFrom_83 : decode cX0_copyFrom 83 = .ok (.getfield 38, 3) := by decide +kernel
theorem dX0_copyFrom_86 : decode cX0_copyFrom 86 = .ok (.aload_n 1, 1) := by decide +kernel
theorem dX0_copyFrom_87 : decode cX0_copyFrom 87 = .ok (.getfield 38, 3) := by decide +kernel
theorem dX0_copyFrom_90 : decode cX0_copyFrom 90 = .ok (.invokevirtual 48, 3) := by decide +kernel
theorem dX0_copyFrom_93 : decode cX0_copyFrom 93 = .ok (.aload_n 0, 1) := by decide +kernel
theorem dX0_copyFrom_94 : decode cX0_copyFrom 94 = .ok (.getfield 41, 3) := by decide +kernel
theorem dX0_copyFrom_97 : decode cX0_copyFrom 97 = .ok (.aload_n 1, 1) := by decide +kernel
theorem dX0_copyFrom_98 : decode cX0_copyFrom 98 = .ok (.getfield 41, 3) := by decide +kernel
theorem dX0_copyFrom_101 : decode cX0_copyFrom 101 = .ok (.invokevirtual 48, 3) := by decide +kernel
theorem dX0_copyFrom_104 : decode cX0_copyFrom 104 = .ok (.aload_n 0, 1) := by decide +kernel
theorem dX0_copyFrom_105 : decode cX0_copyFrom 105 = .ok (.aload_n 1, 1) := by decide +kernel
theorem dX0_copyFrom_106 : decode cX0_copyFrom 106 = .ok (.getfield 44, 3) := by decide +kernel
theorem dX0_copyFrom_109 : decode cX0_copyFrom 109 = .ok (.putfield 44, 3) := by decide +kernel
theorem dX0_copyFrom_112 : decode cX0_copyFrom 112 = .ok (.return_, 1) := by decide +kernel
set_option maxRecDepth 20000 in
theorem ggX0_form_X4_put : GoodIn wsX0_form wsX4_put := goodIn_ca (goodIn_r _ [12, 13, 24] (by decide +kernel) (by decide +kernel)) (goodIn_sub (fun _ h => List.mem_cons_of_mem _ (List.mem_append_right _ h)) (by decide +kernel))
set_option maxRecDepth 20000 in
theorem gX0_form_X4_put : GoodIn wsX0_form (wsV RX0 52 RX4 yX4_put wsX4_put) := goodIn_app (goodIn_of _ (by decide +kernel)) ggX0_form_X4_put
theorem dX0_form_0 : decode cX0_form 0 = .ok (.aload_n 0, 1) := by decide +kernel
theorem dX0_form_1 : decode cX0_form 1 = .ok (.getfield 44, 3) := by decide +kernel
theorem dX0_form_4 : decode cX0_form 4 = .ok (.istore_n 3, 1) := by decide +kernel
theorem dX0_form_5 : decode cX0_form 5 = .ok (.aload_n 0, 1) := by decide +kernel
theorem dX0_form_6 : decode cX0_form 6 = .ok (.getfield 14, 3) := by decide +kernel
theorem dX0_form_9 : decode cX0_form 9 = .ok (.iload_n 3, 1) := by decide +kernel
theorem dX0_form_10 : decode cX0_form 10 = .ok (.iload_n 1, 1) := by decide +kernel
theorem dX0_form_11 : decode cX0_form 11 = .ok (.invokevirtual 52, 3) := by decide +kernel
theorem dX0_form_14 : decode cX0_form 14 = .ok (.aload_n 0, 1) := by decide +kernel
theorem dX0_form_15 : decode cX0_form 15 = .ok (.getfield 20, 3) := by decide +kernel
theorem dX0_form_18 : decode cX0_form 18 = .ok (.iload_n 3, 1) := by decide +kernel
theorem dX0_form_19 : decode cX0_form 19 = .ok (.iload_n 2, 1) := by decide +kernel
theorem dX0_form_20 : decode cX0_form 20 = .ok (.invokevirtual 52, 3) := by decide +kernel
theorem dX0_form_23 : decode cX0_form 23 = .ok (.aload_n 0, 1) := by decide +kernel
theorem dX0_form_24 : decode cX0_form 24 = .ok (.getfield 23, 3) := by decide +kernel
theorem dX0_form_27 : decode cX0_form 27 = .ok (.iload_n 3, 1) := by decide +kernel
theorem dX0_form_28 : decode cX0_form 28 = .ok (.iload_n 2, 1) := by decide +kernel
theorem dX0_form_29 : decode cX0_form 29 = .ok (.invokevirtual 52, 3) := by decide +kernel
theorem dX0_form_32 : decode cX0_form 32 = .ok (.aload_n 0, 1) := by decide +kernel
theorem dX0_form_33 : decode cX0_form 33 = .ok (.getfield 26, 3) := by decide +kernel
theorem dX0_form_36 : decode cX0_form 36 = .ok (.iload_n 3, 1) := by decide +kernel
theorem dX0_form_37 : decode cX0_form 37 = .ok (.iconst 0, 1) := by decide +kernel
theorem dX0_form_38 : decode cX0_form 38 = .ok (.invokevirtual 52, 3) := by decide +kernel
theorem dX0_form_41 : decode cX0_form 41 = .ok (.aload_n 0, 1) := by decide +kernel
theorem dX0_form_42 : decode cX0_form 42 = .ok (.getfield 29, 3) := by decide +kernel
theorem dX0_form_45 : decode cX0_form 45 = .ok (.iload_n 3, 1) := by decide +kernel
theorem dX0_form_46 : decode cX0_form 46 = .ok (.iconst 0, 1) := by decide +kernel
theorem dX0_form_47 : decode cX0_form 47 = .ok (.invokevirtual 52, 3) := by decide +kernel
theorem dX0_form_50 : decode cX0_form 50 = .ok (.aload_n 0, 1) := by decide +kernel
theorem dX0_form_51 : decode cX0_form 51 = .ok (.getfield 32, 3) := by decide +kernel
theorem dX0_form_54 : decode cX0_form 54 = .ok (.iload_n 3, 1) := by decide +kernel
theorem dX0_form_55 : decode cX0_form 55 = .ok (.iconst 0, 1) := by decide +kernel
theorem dX0_form_56 : decode cX0_form 56 = .ok (.invokevirtual 52, 3) := by decide +kernel
theorem dX0_form_59 : decode cX0_form 59 = .ok (.aload_n 0, 1) := by decide +kernel
theorem dX0_form_60 : decode cX0_form 60 = .ok (.dup, 1) := by decide +kernel
theorem dX0_form_61 : decode cX0_form 61 = .ok (.getfield 44, 3) := by decide +kernel
theorem dX0_form_64 : decode cX0_form 64 = .ok (.iconst 1, 1) := by decide +kernel
theorem dX0_form_65 : decode cX0_form 65 = .ok (.iadd, 1) := by decide +kernel
theorem dX0_form_66 : decode cX0_form 66 = .ok (.putfield 44, 3) := by decide +kernel
theorem dX0_form_69 : decode cX0_form 69 = .ok (.iload_n 3, 1) := by decide +kernel
theorem dX0_form_70 : decode cX0_form 70 = .ok (.ireturn, 1) := by decide +kernel
set_option maxRecDepth 20000 in
theorem ggX0_stands_X4_at : GoodIn wsX0_stands wsX4_at := goodIn_ca (goodIn_r _ [7, 8, 19] (by decide +kernel) (by decide +kernel)) (goodIn_sub (fun _ h => List.mem_cons_of_mem _ (List.mem_append_right _ h)) (by decide +kernel))
set_option maxRecDepth 20000 in
theorem gX0_stands_X4_at : GoodIn wsX0_stands (wsV RX0 56 RX4 yX4_at wsX4_at) := goodIn_app (goodIn_of _ (by decide +kernel)) ggX0_stands_X4_at
theorem dX0_stands_0 : decode cX0_stands 0 = .ok (.iload_n 1, 1) := by decide +kernel
theorem dX0_stands_1 : decode cX0_stands 1 = .ok (.ifCond .lt 27, 3) := by decide +kernel
theorem dX0_stands_4 : decode cX0_stands 4 = .ok (.iload_n 1, 1) := by decide +kernel
theorem dX0_stands_5 : decode cX0_stands 5 = .ok (.aload_n 0, 1) := by decide +kernel
theorem dX0_stands_6 : decode cX0_stands 6 = .ok (.getfield 44, 3) := by decide +kernel
theorem dX0_stands_9 : decode cX0_stands 9 = .ok (.if_icmp .ge 19, 3) := by decide +kernel
theorem dX0_stands_12 : decode cX0_stands 12 = .ok (.aload_n 0, 1) := by decide +kernel
theorem dX0_stands_13 : decode cX0_stands 13 = .ok (.getfield 26, 3) := by decide +kernel
theorem dX0_stands_16 : decode cX0_stands 16 = .ok (.iload_n 1, 1) := by decide +kernel
theorem dX0_stands_17 : decode cX0_stands 17 = .ok (.invokevirtual 56, 3) := by decide +kernel
theorem dX0_stands_20 : decode cX0_stands 20 = .ok (.iconst 2, 1) := by decide +kernel
theorem dX0_stands_21 : decode cX0_stands 21 = .ok (.if_icmp .eq 7, 3) := by decide +kernel
theorem dX0_stands_24 : decode cX0_stands 24 = .ok (.iconst 1, 1) := by decide +kernel
theorem dX0_stands_25 : decode cX0_stands 25 = .ok (.goto 4, 3) := by decide +kernel
theorem dX0_stands_28 : decode cX0_stands 28 = .ok (.iconst 0, 1) := by decide +kernel
theorem dX0_stands_29 : decode cX0_stands 29 = .ok (.ireturn, 1) := by decide +kernel
set_option maxRecDepth 20000 in
theorem ggX0_isOpen_X4_at : GoodIn wsX0_isOpen wsX4_at := goodIn_ca (goodIn_r _ [7, 8, 19] (by decide +kernel) (by decide +kernel)) (goodIn_sub (fun _ h => List.mem_cons_of_mem _ (List.mem_append_right _ h)) (by decide +kernel))
set_option maxRecDepth 20000 in
theorem gX0_isOpen_X4_at : GoodIn wsX0_isOpen (wsV RX0 56 RX4 yX4_at wsX4_at) := goodIn_app (goodIn_of _ (by decide +kernel)) ggX0_isOpen_X4_at
theorem dX0_isOpen_0 : decode cX0_isOpen 0 = .ok (.iload_n 1, 1) := by decide +kernel
theorem dX0_isOpen_1 : decode cX0_isOpen 1 = .ok (.ifCond .lt 26, 3) := by decide +kernel
theorem dX0_isOpen_4 : decode cX0_isOpen 4 = .ok (.iload_n 1, 1) := by decide +kernel
theorem dX0_isOpen_5 : decode cX0_isOpen 5 = .ok (.aload_n 0, 1) := by decide +kernel
theorem dX0_isOpen_6 : decode cX0_isOpen 6 = .ok (.getfield 44, 3) := by decide +kernel
theorem dX0_isOpen_9 : decode cX0_isOpen 9 = .ok (.if_icmp .ge 18, 3) := by decide +kernel
theorem dX0_isOpen_12 : decode cX0_isOpen 12 = .ok (.aload_n 0, 1) := by decide +kernel
theorem dX0_isOpen_13 : decode cX0_isOpen 13 = .ok (.getfield 26, 3) := by decide +kernel
theorem dX0_isOpen_16 : decode cX0_isOpen 16 = .ok (.iload_n 1, 1) := by decide +kernel
theorem dX0_isOpen_17 : decode cX0_isOpen 17 = .ok (.invokevirtual 56, 3) := by decide +kernel
theorem dX0_isOpen_20 : decode cX0_isOpen 20 = .ok (.ifCond .ne 7, 3) := by decide +kernel
theorem dX0_isOpen_23 : decode cX0_isOpen 23 = .ok (.iconst 1, 1) := by decide +kernel
theorem dX0_isOpen_24 : decode cX0_isOpen 24 = .ok (.goto 4, 3) := by decide +kernel
theorem dX0_isOpen_27 : decode cX0_isOpen 27 = .ok (.iconst 0, 1) := by decide +kernel
theorem dX0_isOpen_28 : decode cX0_isOpen 28 = .ok (.ireturn, 1) := by decide +kernel
set_option maxRecDepth 20000 in
theorem ggX0_standsOfKey_X0_stands : GoodIn wsX0_standsOfKey wsX0_stands := goodIn_ca (goodIn_r _ [6, 7, 8, 9, 10, 11, 12, 13, 14, 15, 16, 17, 18, 19, 20, 21, 22, 23, 24, 25] (by decide +kernel) (by decide +kernel)) (goodIn_sub (fun _ h => List.mem_cons_of_mem _ (List.mem_append_right _ h)) (by decide +kernel))
set_option maxRecDepth 20000 in
theorem gX0_standsOfKey_X0_stands : GoodIn wsX0_standsOfKey (wsV RX0 60 RX0 yX0_stands wsX0_stands) := goodIn_app (goodIn_of _ (by decide +kernel)) ggX0_standsOfKey_X0_stands
set_option maxRecDepth 20000 in
theorem ggX0_standsOfKey_X4_at : GoodIn wsX0_standsOfKey wsX4_at := goodIn_ca (goodIn_r _ [13, 14, 25] (by decide +kernel) (by decide +kernel)) (goodIn_sub (fun _ h => List.mem_cons_of_mem _ (List.mem_append_right _ h)) (by decide +kernel))
set_option maxRecDepth 20000 in
theorem gX0_standsOfKey_X4_at : GoodIn wsX0_standsOfKey (wsV RX0 56 RX4 yX4_at wsX4_at) := goodIn_app (goodIn_of _ (by decide +kernel)) ggX0_standsOfKey_X4_at
theorem dX0_standsOfKey_0 : decode cX0_standsOfKey 0 = .ok (.aload_n 0, 1) := by decide +kernel
theorem dX0_standsOfKey_1 : decode cX0_standsOfKey 1 = .ok (.iload_n 1, 1) := by decide +kernel
theorem dX0_standsOfKey_2 : decode cX0_standsOfKey 2 = .ok (.invokevirtual 60, 3) := by decide +kernel
theorem dX0_standsOfKey_5 : decode cX0_standsOfKey 5 = .ok (.ifCond .eq 19, 3) := by decide +kernel
theorem dX0_standsOfKey_8 : decode cX0_standsOfKey 8 = .ok (.aload_n 0, 1) := by decide +kernel
theorem dX0_standsOfKey_9 : decode cX0_standsOfKey 9 = .ok (.getfield 14, 3) := by decide +kernel
theorem dX0_standsOfKey_12 : decode cX0_standsOfKey 12 = .ok (.iload_n 1, 1) := by decide +kernel
theorem dX0_standsOfKey_13 : decode cX0_standsOfKey 13 = .ok (.invokevirtual 56, 3) := by decide +kernel
theorem dX0_standsOfKey_16 : decode cX0_standsOfKey 16 = .ok (.iload_n 2, 1) := by decide +kernel
theorem dX0_standsOfKey_17 : decode cX0_standsOfKey 17 = .ok (.if_icmp .ne 7, 3) := by decide +kernel
theorem dX0_standsOfKey_20 : decode cX0_standsOfKey 20 = .ok (.iconst 1, 1) := by decide +kernel
theorem dX0_standsOfKey_21 : decode cX0_standsOfKey 21 = .ok (.goto 4, 3) := by decide +kernel
theorem dX0_standsOfKey_24 : decode cX0_standsOfKey 24 = .ok (.iconst 0, 1) := by decide +kernel
theorem dX0_standsOfKey_25 : decode cX0_standsOfKey 25 = .ok (.ireturn, 1) := by decide +kernel
set_option maxRecDepth 20000 in
theorem ggX0_isOpenOfKey_X4_at : GoodIn wsX0_isOpenOfKey wsX4_at := goodIn_ca (goodIn_r _ [8, 9, 20] (by decide +kernel) (by decide +kernel)) (goodIn_sub (fun _ h => List.mem_cons_of_mem _ (List.mem_append_right _ h)) (by decide +kernel))
set_option maxRecDepth 20000 in
theorem gX0_isOpenOfKey_X4_at : GoodIn wsX0_isOpenOfKey (wsV RX0 56 RX4 yX4_at wsX4_at) := goodIn_app (goodIn_of _ (by decide +kernel)) ggX0_isOpenOfKey_X4_at
theorem dX0_isOpenOfKey_0 : decode cX0_isOpenOfKey 0 = .ok (.iload_n 1, 1) := by decide +kernel
theorem dX0_isOpenOfKey_1 : decode cX0_isOpenOfKey 1 = .ok (.ifCond .lt 38, 3) := by decide +kernel
theorem dX0_isOpenOfKey_4 : decode cX0_isOpenOfKey 4 = .ok (.iload_n 1, 1) := by decide +kernel
theorem dX0_isOpenOfKey_5 : decode cX0_isOpenOfKey 5 = .ok (.aload_n 0, 1) := by decide +kernel
theorem dX0_isOpenOfKey_6 : decode cX0_isOpenOfKey 6 = .ok (.getfield 44, 3) := by decide +kernel
theorem dX0_isOpenOfKey_9 : decode cX0_isOpenOfKey 9 = .ok (.if_icmp .ge 30, 3) := by decide +kernel
theorem dX0_isOpenOfKey_12 : decode cX0_isOpenOfKey 12 = .ok (.aload_n 0, 1) := by decide +kernel
theorem dX0_isOpenOfKey_13 : decode cX0_isOpenOfKey 13 = .ok (.getfield 26, 3) := by decide +kernel
theorem dX0_isOpenOfKey_16 : decode cX0_isOpenOfKey 16 = .ok (.iload_n 1, 1) := by decide +kernel
theorem dX0_isOpenOfKey_17 : decode cX0_isOpenOfKey 17 = .ok (.invokevirtual 56, 3) := by decide +kernel
theorem dX0_isOpenOfKey_20 : decode cX0_isOpenOfKey 20 = .ok (.ifCond .ne 19, 3) := by decide +kernel
theorem dX0_isOpenOfKey_23 : decode cX0_isOpenOfKey 23 = .ok (.aload_n 0, 1) := by decide +kernel
theorem dX0_isOpenOfKey_24 : decode cX0_isOpenOfKey 24 = .ok (.getfield 14, 3) := by decide +kernel
theorem dX0_isOpenOfKey_27 : decode cX0_isOpenOfKey 27 = .ok (.iload_n 1, 1) := by decide +kernel
theorem dX0_isOpenOfKey_28 : decode cX0_isOpenOfKey 28 = .ok (.invokevirtual 56, 3) := by decide +kernel
theorem dX0_isOpenOfKey_31 : decode cX0_isOpenOfKey 31 = .ok (.iload_n 2, 1) := by decide +kernel
theorem dX0_isOpenOfKey_32 : decode cX0_isOpenOfKey 32 = .ok (.if_icmp .ne 7, 3) := by decide +kernel
theorem dX0_isOpenOfKey_35 : decode cX0_isOpenOfKey 35 = .ok (.iconst 1, 1) := by decide +kernel
theorem dX0_isOpenOfKey_36 : decode cX0_isOpenOfKey 36 = .ok (.goto 4, 3) := by decide +kernel
theorem dX0_isOpenOfKey_39 : decode cX0_isOpenOfKey 39 = .ok (.iconst 0, 1) := by decide +kernel
theorem dX0_isOpenOfKey_40 : decode cX0_isOpenOfKey 40 = .ok (.ireturn, 1) := by decide +kernel
set_option maxRecDepth 20000 in
theorem ggX0_hasFired_X4_at : GoodIn wsX0_hasFired wsX4_at := goodIn_ca (goodIn_r _ [6, 7, 18] (by decide +kernel) (by decide +kernel)) (goodIn_sub (fun _ h => List.mem_cons_of_mem _ (List.mem_append_right _ h)) (by decide +kernel))
set_option maxRecDepth 20000 in
theorem gX0_hasFired_X4_at : GoodIn wsX0_hasFired (wsV RX0 56 RX4 yX4_at wsX4_at) := goodIn_app (goodIn_of _ (by decide +kernel)) ggX0_hasFired_X4_at
theorem dX0_hasFired_0 : decode cX0_hasFired 0 = .ok (.aload_n 0, 1) := by decide +kernel
theorem dX0_hasFired_1 : decode cX0_hasFired 1 = .ok (.getfield 32, 3) := by decide +kernel
theorem dX0_hasFired_4 : decode cX0_hasFired 4 = .ok (.iload_n 1, 1) := by decide +kernel
theorem dX0_hasFired_5 : decode cX0_hasFired 5 = .ok (.invokevirtual 56, 3) := by decide +kernel
theorem dX0_hasFired_8 : decode cX0_hasFired 8 = .ok (.iconst 1, 1) := by decide +kernel
theorem dX0_hasFired_9 : decode cX0_hasFired 9 = .ok (.if_icmp .ne 7, 3) := by decide +kernel
theorem dX0_hasFired_12 : decode cX0_hasFired 12 = .ok (.iconst 1, 1) := by decide +kernel
theorem dX0_hasFired_13 : decode cX0_hasFired 13 = .ok (.goto 4, 3) := by decide +kernel
theorem dX0_hasFired_16 : decode cX0_hasFired 16 = .ok (.iconst 0, 1) := by decide +kernel
theorem dX0_hasFired_17 : decode cX0_hasFired 17 = .ok (.ireturn, 1) := by decide +kernel
set_option maxRecDepth 20000 in
theorem ggX0_countPhase_X4_at : GoodIn wsX0_countPhase wsX4_at := goodIn_ca (goodIn_r _ [7, 8, 19] (by decide +kernel) (by decide +kernel)) (goodIn_sub (fun _ h => List.mem_cons_of_mem _ (List.mem_append_right _ h)) (by decide +kernel))
set_option maxRecDepth 20000 in
theorem gX0_countPhase_X4_at : GoodIn wsX0_countPhase (wsV RX0 56 RX4 yX4_at wsX4_at) := goodIn_app (goodIn_of _ (by decide +kernel)) ggX0_countPhase_X4_at
theorem dX0_countPhase_0 : decode cX0_countPhase 0 = .ok (.iconst 0, 1) := by decide +kernel
theorem dX0_countPhase_1 : decode cX0_countPhase 1 = .ok (.istore_n 2, 1) := by decide +kernel
theorem dX0_countPhase_2 : decode cX0_countPhase 2 = .ok (.iconst 0, 1) := by decide +kernel
theorem dX0_countPhase_3 : decode cX0_countPhase 3 = .ok (.istore_n 3, 1) := by decide +kernel
theorem dX0_countPhase_4 : decode cX0_countPhase 4 = .ok (.iload_n 3, 1) := by decide +kernel
theorem dX0_countPhase_5 : decode cX0_countPhase 5 = .ok (.aload_n 0, 1) := by decide +kernel
theorem dX0_countPhase_6 : decode cX0_countPhase 6 = .ok (.getfield 44, 3) := by decide +kernel
theorem dX0_countPhase_9 : decode cX0_countPhase 9 = .ok (.if_icmp .ge 24, 3) := by decide +kernel
theorem dX0_countPhase_12 : decode cX0_countPhase 12 = .ok (.aload_n 0, 1) := by decide +kernel
theorem dX0_countPhase_13 : decode cX0_countPhase 13 = .ok (.getfield 26, 3) := by decide +kernel
theorem dX0_countPhase_16 : decode cX0_countPhase 16 = .ok (.iload_n 3, 1) := by decide +kernel
theorem dX0_countPhase_17 : decode cX0_countPhase 17 = .ok (.invokevirtual 56, 3) := by decide +kernel
theorem dX0_countPhase_20 : decode cX0_countPhase 20 = .ok (.iload_n 1, 1) := by decide +kernel
theorem dX0_countPhase_21 : decode cX0_countPhase 21 = .ok (.if_icmp .ne 6, 3) := by decide +kernel
theorem dX0_countPhase_24 : decode cX0_countPhase 24 = .ok (.iinc 2 1, 3) := by decide +kernel
theorem dX0_countPhase_27 : decode cX0_countPhase 27 = .ok (.iinc 3 1, 3) := by decide +kernel
theorem dX0_countPhase_30 : decode cX0_countPhase 30 = .ok (.goto (-26), 3) := by decide +kernel
theorem dX0_countPhase_33 : decode cX0_countPhase 33 = .ok (.iload_n 2, 1) := by decide +kernel
theorem dX0_countPhase_34 : decode cX0_countPhase 34 = .ok (.ireturn, 1) := by decide +kernel
set_option maxRecDepth 20000 in
theorem ggX0_countOfKey_X0_standsOfKey : GoodIn wsX0_countOfKey wsX0_standsOfKey := goodIn_ca (goodIn_r _ [6, 7, 8, 9, 10, 5, 11, 1, 12, 13, 14, 15, 16, 17, 18, 19, 20, 21, 22, 23, 24, 25, 26, 27, 28, 29] (by decide +kernel) (by decide +kernel)) (goodIn_sub (fun _ h => List.mem_cons_of_mem _ (List.mem_append_right _ h)) (by decide +kernel))
set_option maxRecDepth 20000 in
theorem gX0_countOfKey_X0_standsOfKey : GoodIn wsX0_countOfKey (wsV RX0 64 RX0 yX0_standsOfKey wsX0_standsOfKey) := goodIn_app (goodIn_of _ (by decide +kernel)) ggX0_countOfKey_X0_standsOfKey
theorem dX0_countOfKey_0 : decode cX0_countOfKey 0 = .ok (.iconst 0, 1) := by decide +kernel
theorem dX0_countOfKey_1 : decode cX0_countOfKey 1 = .ok (.istore_n 2, 1) := by decide +kernel
theorem dX0_countOfKey_2 : decode cX0_countOfKey 2 = .ok (.iconst 0, 1) := by decide +kernel
theorem dX0_countOfKey_3 : decode cX0_countOfKey 3 = .ok (.istore_n 3, 1) := by decide +kernel
theorem dX0_countOfKey_4 : decode cX0_countOfKey 4 = .ok (.iload_n 3, 1) := by decide +kernel
theorem dX0_countOfKey_5 : decode cX0_countOfKey 5 = .ok (.aload_n 0, 1) := by decide +kernel
theorem dX0_countOfKey_6 : decode cX0_countOfKey 6 = .ok (.getfield 44, 3) := by decide +kernel
theorem dX0_countOfKey_9 : decode cX0_countOfKey 9 = .ok (.if_icmp .ge 21, 3) := by decide +kernel
theorem dX0_countOfKey_12 : decode cX0_countOfKey 12 = .ok (.aload_n 0, 1) := by decide +kernel
theorem dX0_countOfKey_13 : decode cX0_countOfKey 13 = .ok (.iload_n 3, 1) := by decide +kernel
theorem dX0_countOfKey_14 : decode cX0_countOfKey 14 = .ok (.iload_n 1, 1) := by decide +kernel
theorem dX0_countOfKey_15 : decode cX0_countOfKey 15 = .ok (.invokevirtual 64, 3) := by decide +kernel
theorem dX0_countOfKey_18 : decode cX0_countOfKey 18 = .ok (.ifCond .eq 6, 3) := by decide +kernel
theorem dX0_countOfKey_21 : decode cX0_countOfKey 21 = .ok (.iinc 2 1, 3) := by decide +kernel
theorem dX0_countOfKey_24 : decode cX0_countOfKey 24 = .ok (.iinc 3 1, 3) := by decide +kernel
theorem dX0_countOfKey_27 : decode cX0_countOfKey 27 = .ok (.goto (-23), 3) := by decide +kernel
theorem dX0_countOfKey_30 : decode cX0_countOfKey 30 = .ok (.iload_n 2, 1) := by decide +kernel
theorem dX0_countOfKey_31 : decode cX0_countOfKey 31 = .ok (.ireturn, 1) := by decide +kernel
set_option maxRecDepth 20000 in
theorem ggX0_lengthOfKey_X0_standsOfKey : GoodIn wsX0_lengthOfKey wsX0_standsOfKey := goodIn_ca (goodIn_r _ [8, 9, 10, 11, 12, 7, 13, 1, 14, 15, 16, 17, 18, 19, 20, 21, 22, 23, 24, 25, 26, 27, 28, 29, 30, 31] (by decide +kernel) (by decide +kernel)) (goodIn_sub (fun _ h => List.mem_cons_of_mem _ (List.mem_append_right _ h)) (by decide +kernel))
set_option maxRecDepth 20000 in
theorem gX0_lengthOfKey_X0_standsOfKey : GoodIn wsX0_lengthOfKey (wsV RX0 64 RX0 yX0_standsOfKey wsX0_standsOfKey) := goodIn_app (goodIn_of _ (by decide +kernel)) ggX0_lengthOfKey_X0_standsOfKey
set_option maxRecDepth 20000 in
theorem ggX0_lengthOfKey_X4_at : GoodIn wsX0_lengthOfKey wsX4_at := goodIn_ca (goodIn_r _ [19, 20, 31] (by decide +kernel) (by decide +kernel)) (goodIn_sub (fun _ h => List.mem_cons_of_mem _ (List.mem_append_right _ h)) (by decide +kernel))
set_option maxRecDepth 20000 in
theorem gX0_lengthOfKey_X4_at : GoodIn wsX0_lengthOfKey (wsV RX0 56 RX4 yX4_at wsX4_at) := goodIn_app (goodIn_of _ (by decide +kernel)) ggX0_lengthOfKey_X4_at
theorem dX0_lengthOfKey_0 : decode cX0_lengthOfKey 0 = .ok (.iconst 0, 1) := by decide +kernel
theorem dX0_lengthOfKey_1 : decode cX0_lengthOfKey 1 = .ok (.istore_n 2, 1) := by decide +kernel
theorem dX0_lengthOfKey_2 : decode cX0_lengthOfKey 2 = .ok (.iconst 0, 1) := by decide +kernel
theorem dX0_lengthOfKey_3 : decode cX0_lengthOfKey 3 = .ok (.istore_n 3, 1) := by decide +kernel
theorem dX0_lengthOfKey_4 : decode cX0_lengthOfKey 4 = .ok (.iload_n 3, 1) := by decide +kernel
theorem dX0_lengthOfKey_5 : decode cX0_lengthOfKey 5 = .ok (.aload_n 0, 1) := by decide +kernel
theorem dX0_lengthOfKey_6 : decode cX0_lengthOfKey 6 = .ok (.getfield 44, 3) := by decide +kernel
theorem dX0_lengthOfKey_9 : decode cX0_lengthOfKey 9 = .ok (.if_icmp .ge 38, 3) := by decide +kernel
theorem dX0_lengthOfKey_12 : decode cX0_lengthOfKey 12 = .ok (.aload_n 0, 1) := by decide +kernel
theorem dX0_lengthOfKey_13 : decode cX0_lengthOfKey 13 = .ok (.iload_n 3, 1) := by decide +kernel
theorem dX0_lengthOfKey_14 : decode cX0_lengthOfKey 14 = .ok (.iload_n 1, 1) := by decide +kernel
theorem dX0_lengthOfKey_15 : decode cX0_lengthOfKey 15 = .ok (.invokevirtual 64, 3) := by decide +kernel
theorem dX0_lengthOfKey_18 : decode cX0_lengthOfKey 18 = .ok (.ifCond .eq 23, 3) := by decide +kernel
theorem dX0_lengthOfKey_21 : decode cX0_lengthOfKey 21 = .ok (.iload_n 2, 1) := by decide +kernel
theorem dX0_lengthOfKey_22 : decode cX0_lengthOfKey 22 = .ok (.aload_n 0, 1) := by decide +kernel
theorem dX0_lengthOfKey_23 : decode cX0_lengthOfKey 23 = .ok (.getfield 23, 3) := by decide +kernel
theorem dX0_lengthOfKey_26 : decode cX0_lengthOfKey 26 = .ok (.iload_n 3, 1) := by decide +kernel
theorem dX0_lengthOfKey_27 : decode cX0_lengthOfKey 27 = .ok (.invokevirtual 56, 3) := by decide +kernel
theorem dX0_lengthOfKey_30 : decode cX0_lengthOfKey 30 = .ok (.aload_n 0, 1) := by decide +kernel
theorem dX0_lengthOfKey_31 : decode cX0_lengthOfKey 31 = .ok (.getfield 20, 3) := by decide +kernel
theorem dX0_lengthOfKey_34 : decode cX0_lengthOfKey 34 = .ok (.iload_n 3, 1) := by decide +kernel
theorem dX0_lengthOfKey_35 : decode cX0_lengthOfKey 35 = .ok (.invokevirtual 56, 3) := by decide +kernel
theorem dX0_lengthOfKey_38 : decode cX0_lengthOfKey 38 = .ok (.isub, 1) := by decide +kernel
theorem dX0_lengthOfKey_39 : decode cX0_lengthOfKey 39 = .ok (.iadd, 1) := by decide +kernel
theorem dX0_lengthOfKey_40 : decode cX0_lengthOfKey 40 = .ok (.istore_n 2, 1) := by decide +kernel
theorem dX0_lengthOfKey_41 : decode cX0_lengthOfKey 41 = .ok (.iinc 3 1, 3) := by decide +kernel
theorem dX0_lengthOfKey_44 : decode cX0_lengthOfKey 44 = .ok (.goto (-40), 3) := by decide +kernel
theorem dX0_lengthOfKey_47 : decode cX0_lengthOfKey 47 = .ok (.iload_n 2, 1) := by decide +kernel
theorem dX0_lengthOfKey_48 : decode cX0_lengthOfKey 48 = .ok (.ireturn, 1) := by decide +kernel
set_option maxRecDepth 20000 in
theorem ggX0_atPlace_X0_standsOfKey : GoodIn wsX0_atPlace wsX0_standsOfKey := goodIn_ca (goodIn_r _ [6, 7, 8, 9, 10, 5, 11, 1, 12, 13, 14, 15, 16, 17, 18, 28, 29, 30, 31, 32, 33, 34, 35, 36, 37, 38] (by decide +kernel) (by decide +kernel)) (goodIn_sub (fun _ h => List.mem_cons_of_mem _ (List.mem_append_right _ h)) (by decide +kernel))
set_option maxRecDepth 20000 in
theorem gX0_atPlace_X0_standsOfKey : GoodIn wsX0_atPlace (wsV RX0 64 RX0 yX0_standsOfKey wsX0_standsOfKey) := goodIn_app (goodIn_of _ (by decide +kernel)) ggX0_atPlace_X0_standsOfKey
set_option maxRecDepth 20000 in
theorem ggX0_atPlace_X0_countBefore : GoodIn wsX0_atPlace wsX0_countBefore := goodIn_ca (goodIn_r _ [22, 1, 7, 13, 14, 15, 16, 17, 18, 2, 3, 4, 5, 6, 8, 9, 10, 11, 12, 23, 24, 25, 26, 27, 28, 29, 30, 31, 32, 33, 34, 35, 36, 37, 38] (by decide +kernel) (by decide +kernel)) (goodIn_sub (fun _ h => List.mem_cons_of_mem _ (List.mem_append_right _ h)) (by decide +kernel))
set_option maxRecDepth 20000 in
theorem gX0_atPlace_X0_countBefore : GoodIn wsX0_atPlace (wsV RX0 68 RX0 yX0_countBefore wsX0_countBefore) := goodIn_app (goodIn_of _ (by decide +kernel)) ggX0_atPlace_X0_countBefore
theorem dX0_atPlace_0 : decode cX0_atPlace 0 = .ok (.iconst 0, 1) := by decide +kernel
theorem dX0_atPlace_1 : decode cX0_atPlace 1 = .ok (.istore_n 3, 1) := by decide +kernel
theorem dX0_atPlace_2 : decode cX0_atPlace 2 = .ok (.iload_n 3, 1) := by decide +kernel
theorem dX0_atPlace_3 : decode cX0_atPlace 3 = .ok (.aload_n 0, 1) := by decide +kernel
theorem dX0_atPlace_4 : decode cX0_atPlace 4 = .ok (.getfield 44, 3) := by decide +kernel
theorem dX0_atPlace_7 : decode cX0_atPlace 7 = .ok (.if_icmp .ge 29, 3) := by decide +kernel
theorem dX0_atPlace_10 : decode cX0_atPlace 10 = .ok (.aload_n 0, 1) := by decide +kernel
theorem dX0_atPlace_11 : decode cX0_atPlace 11 = .ok (.iload_n 3, 1) := by decide +kernel
theorem dX0_atPlace_12 : decode cX0_atPlace 12 = .ok (.iload_n 1, 1) := by decide +kernel
theorem dX0_atPlace_13 : decode cX0_atPlace 13 = .ok (.invokevirtual 64, 3) := by decide +kernel
theorem dX0_atPlace_16 : decode cX0_atPlace 16 = .ok (.ifCond .eq 14, 3) := by decide +kernel
theorem dX0_atPlace_19 : decode cX0_atPlace 19 = .ok (.aload_n 0, 1) := by decide +kernel
theorem dX0_atPlace_20 : decode cX0_atPlace 20 = .ok (.iload_n 3, 1) := by decide +kernel
theorem dX0_atPlace_21 : decode cX0_atPlace 21 = .ok (.invokevirtual 68, 3) := by decide +kernel
theorem dX0_atPlace_24 : decode cX0_atPlace 24 = .ok (.iload_n 2, 1) := by decide +kernel
theorem dX0_atPlace_25 : decode cX0_atPlace 25 = .ok (.if_icmp .ne 5, 3) := by decide +kernel
theorem dX0_atPlace_28 : decode cX0_atPlace 28 = .ok (.iload_n 3, 1) := by decide +kernel
theorem dX0_atPlace_29 : decode cX0_atPlace 29 = .ok (.ireturn, 1) := by decide +kernel
theorem dX0_atPlace_30 : decode cX0_atPlace 30 = .ok (.iinc 3 1, 3) := by decide +kernel
theorem dX0_atPlace_33 : decode cX0_atPlace 33 = .ok (.goto (-31), 3) := by decide +kernel
theorem dX0_atPlace_36 : decode cX0_atPlace 36 = .ok (.iconst (-1), 1) := by decide +kernel
theorem dX0_atPlace_37 : decode cX0_atPlace 37 = .ok (.ireturn, 1) := by decide +kernel
set_option maxRecDepth 20000 in
theorem ggX0_countBefore_X4_at : GoodIn wsX0_countBefore wsX4_at := goodIn_ca (goodIn_r _ [7, 8, 34] (by decide +kernel) (by decide +kernel)) (goodIn_sub (fun _ h => List.mem_cons_of_mem _ (List.mem_append_right _ h)) (by decide +kernel))
set_option maxRecDepth 20000 in
theorem gX0_countBefore_X4_at : GoodIn wsX0_countBefore (wsV RX0 56 RX4 yX4_at wsX4_at) := goodIn_app (goodIn_of _ (by decide +kernel)) ggX0_countBefore_X4_at
set_option maxRecDepth 20000 in
theorem ggX0_countBefore_X0_standsOfKey : GoodIn wsX0_countBefore wsX0_standsOfKey := goodIn_ca (goodIn_r _ [13, 2, 14, 15, 16, 12, 17, 1, 18, 3, 4, 5, 6, 7, 8, 24, 25, 26, 27, 28, 29, 30, 31, 32, 33, 34] (by decide +kernel) (by decide +kernel)) (goodIn_sub (fun _ h => List.mem_cons_of_mem _ (List.mem_append_right _ h)) (by decide +kernel))
set_option maxRecDepth 20000 in
theorem gX0_countBefore_X0_standsOfKey : GoodIn wsX0_countBefore (wsV RX0 64 RX0 yX0_standsOfKey wsX0_standsOfKey) := goodIn_app (goodIn_of _ (by decide +kernel)) ggX0_countBefore_X0_standsOfKey
set_option maxRecDepth 20000 in
theorem ggX0_countBefore_X0_liesBefore : GoodIn wsX0_countBefore wsX0_liesBefore := goodIn_ca (goodIn_r _ [22, 23, 3, 4, 5, 6, 7, 8, 24, 25, 26, 27, 28, 29, 30, 31, 32, 33, 34] (by decide +kernel) (by decide +kernel)) (goodIn_sub (fun _ h => List.mem_cons_of_mem _ (List.mem_append_right _ h)) (by decide +kernel))
set_option maxRecDepth 20000 in
theorem gX0_countBefore_X0_liesBefore : GoodIn wsX0_countBefore (wsV RX0 71 RX0 yX0_liesBefore wsX0_liesBefore) := goodIn_app (goodIn_of _ (by decide +kernel)) ggX0_countBefore_X0_liesBefore
theorem dX0_countBefore_0 : decode cX0_countBefore 0 = .ok (.iconst 0, 1) := by decide +kernel
theorem dX0_countBefore_1 : decode cX0_countBefore 1 = .ok (.istore_n 2, 1) := by decide +kernel
theorem dX0_countBefore_2 : decode cX0_countBefore 2 = .ok (.iconst 0, 1) := by decide +kernel
theorem dX0_countBefore_3 : decode cX0_countBefore 3 = .ok (.istore_n 3, 1) := by decide +kernel
theorem dX0_countBefore_4 : decode cX0_countBefore 4 = .ok (.iload_n 3, 1) := by decide +kernel
theorem dX0_countBefore_5 : decode cX0_countBefore 5 = .ok (.aload_n 0, 1) := by decide +kernel
theorem dX0_countBefore_6 : decode cX0_countBefore 6 = .ok (.getfield 44, 3) := by decide +kernel
theorem dX0_countBefore_9 : decode cX0_countBefore 9 = .ok (.if_icmp .ge 37, 3) := by decide +kernel
theorem dX0_countBefore_12 : decode cX0_countBefore 12 = .ok (.aload_n 0, 1) := by decide +kernel
theorem dX0_countBefore_13 : decode cX0_countBefore 13 = .ok (.iload_n 3, 1) := by decide +kernel
theorem dX0_countBefore_14 : decode cX0_countBefore 14 = .ok (.aload_n 0, 1) := by decide +kernel
theorem dX0_countBefore_15 : decode cX0_countBefore 15 = .ok (.getfield 14, 3) := by decide +kernel
theorem dX0_countBefore_18 : decode cX0_countBefore 18 = .ok (.iload_n 1, 1) := by decide +kernel
theorem dX0_countBefore_19 : decode cX0_countBefore 19 = .ok (.invokevirtual 56, 3) := by decide +kernel
theorem dX0_countBefore_22 : decode cX0_countBefore 22 = .ok (.invokevirtual 64, 3) := by decide +kernel
theorem dX0_countBefore_25 : decode cX0_countBefore 25 = .ok (.ifCond .eq 15, 3) := by decide +kernel
theorem dX0_countBefore_28 : decode cX0_countBefore 28 = .ok (.aload_n 0, 1) := by decide +kernel
theorem dX0_countBefore_29 : decode cX0_countBefore 29 = .ok (.iload_n 3, 1) := by decide +kernel
theorem dX0_countBefore_30 : decode cX0_countBefore 30 = .ok (.iload_n 1, 1) := by decide +kernel
theorem dX0_countBefore_31 : decode cX0_countBefore 31 = .ok (.invokevirtual 71, 3) := by decide +kernel
theorem dX0_countBefore_34 : decode cX0_countBefore 34 = .ok (.ifCond .eq 6, 3) := by decide +kernel
theorem dX0_countBefore_37 : decode cX0_countBefore 37 = .ok (.iinc 2 1, 3) := by decide +kernel
theorem dX0_countBefore_40 : decode cX0_countBefore 40 = .ok (.iinc 3 1, 3) := by decide +kernel
theorem dX0_countBefore_43 : decode cX0_countBefore 43 = .ok (.goto (-39), 3) := by decide +kernel
theorem dX0_countBefore_46 : decode cX0_countBefore 46 = .ok (.iload_n 2, 1) := by decide +kernel
theorem dX0_countBefore_47 : decode cX0_countBefore 47 = .ok (.ireturn, 1) := by decide +kernel
set_option maxRecDepth 20000 in
theorem ggX0_liesBefore_X4_at : GoodIn wsX0_liesBefore wsX4_at := goodIn_ca (goodIn_r _ [6, 7, 18] (by decide +kernel) (by decide +kernel)) (goodIn_sub (fun _ h => List.mem_cons_of_mem _ (List.mem_append_right _ h)) (by decide +kernel))
set_option maxRecDepth 20000 in
theorem gX0_liesBefore_X4_at : GoodIn wsX0_liesBefore (wsV RX0 56 RX4 yX4_at wsX4_at) := goodIn_app (goodIn_of _ (by decide +kernel)) ggX0_liesBefore_X4_at
theorem dX0_liesBefore_0 : decode cX0_liesBefore 0 = .ok (.aload_n 0, 1) := by decide +kernel
theorem dX0_liesBefore_1 : decode cX0_liesBefore 1 = .ok (.getfield 20, 3) := by decide +kernel
theorem dX0_liesBefore_4 : decode cX0_liesBefore 4 = .ok (.iload_n 1, 1) := by decide +kernel
theorem dX0_liesBefore_5 : decode cX0_liesBefore 5 = .ok (.invokevirtual 56, 3) := by decide +kernel
theorem dX0_liesBefore_8 : decode cX0_liesBefore 8 = .ok (.aload_n 0, 1) := by decide +kernel
theorem dX0_liesBefore_9 : decode cX0_liesBefore 9 = .ok (.getfield 20, 3) := by decide +kernel
theorem dX0_liesBefore_12 : decode cX0_liesBefore 12 = .ok (.iload_n 2, 1) := by decide +kernel
theorem dX0_liesBefore_13 : decode cX0_liesBefore 13 = .ok (.invokevirtual 56, 3) := by decide +kernel
theorem dX0_liesBefore_16 : decode cX0_liesBefore 16 = .ok (.if_icmp .lt 27, 3) := by decide +kernel
theorem dX0_liesBefore_19 : decode cX0_liesBefore 19 = .ok (.aload_n 0, 1) := by decide +kernel
theorem dX0_liesBefore_20 : decode cX0_liesBefore 20 = .ok (.getfield 20, 3) := by decide +kernel
theorem dX0_liesBefore_23 : decode cX0_liesBefore 23 = .ok (.iload_n 1, 1) := by decide +kernel
theorem dX0_liesBefore_24 : decode cX0_liesBefore 24 = .ok (.invokevirtual 56, 3) := by decide +kernel
theorem dX0_liesBefore_27 : decode cX0_liesBefore 27 = .ok (.aload_n 0, 1) := by decide +kernel
theorem dX0_liesBefore_28 : decode cX0_liesBefore 28 = .ok (.getfield 20, 3) := by decide +kernel
theorem dX0_liesBefore_31 : decode cX0_liesBefore 31 = .ok (.iload_n 2, 1) := by decide +kernel
theorem dX0_liesBefore_32 : decode cX0_liesBefore 32 = .ok (.invokevirtual 56, 3) := by decide +kernel
theorem dX0_liesBefore_35 : decode cX0_liesBefore 35 = .ok (.if_icmp .ne 12, 3) := by decide +kernel
theorem dX0_liesBefore_38 : decode cX0_liesBefore 38 = .ok (.iload_n 1, 1) := by decide +kernel
theorem dX0_liesBefore_39 : decode cX0_liesBefore 39 = .ok (.iload_n 2, 1) := by decide +kernel
theorem dX0_liesBefore_40 : decode cX0_liesBefore 40 = .ok (.if_icmp .ge 7, 3) := by decide +kernel
theorem dX0_liesBefore_43 : decode cX0_liesBefore 43 = .ok (.iconst 1, 1) := by decide +kernel
theorem dX0_liesBefore_44 : decode cX0_liesBefore 44 = .ok (.goto 4, 3) := by decide +kernel
theorem dX0_liesBefore_47 : decode cX0_liesBefore 47 = .ok (.iconst 0, 1) := by decide +kernel
theorem dX0_liesBefore_48 : decode cX0_liesBefore 48 = .ok (.ireturn, 1) := by decide +kernel
set_option maxRecDepth 20000 in
theorem ggX0_inReach_X0_isOpenOfKey : GoodIn wsX0_inReach wsX0_isOpenOfKey := goodIn_ca (goodIn_r _ [8, 1, 9, 10, 11, 12, 13, 14, 15, 16, 17, 18, 19, 20, 21, 22, 23, 24, 25, 26, 27] (by decide +kernel) (by decide +kernel)) (goodIn_sub (fun _ h => List.mem_cons_of_mem _ (List.mem_append_right _ h)) (by decide +kernel))
set_option maxRecDepth 20000 in
theorem gX0_inReach_X0_isOpenOfKey : GoodIn wsX0_inReach (wsV RX0 74 RX0 yX0_isOpenOfKey wsX0_isOpenOfKey) := goodIn_app (goodIn_of _ (by decide +kernel)) ggX0_inReach_X0_isOpenOfKey
set_option maxRecDepth 20000 in
theorem ggX0_inReach_X4_at : GoodIn wsX0_inReach wsX4_at := goodIn_ca (goodIn_r _ [15, 16, 27] (by decide +kernel) (by decide +kernel)) (goodIn_sub (fun _ h => List.mem_cons_of_mem _ (List.mem_append_right _ h)) (by decide +kernel))
set_option maxRecDepth 20000 in
theorem gX0_inReach_X4_at : GoodIn wsX0_inReach (wsV RX0 56 RX4 yX4_at wsX4_at) := goodIn_app (goodIn_of _ (by decide +kernel)) ggX0_inReach_X4_at
theorem dX0_inReach_0 : decode cX0_inReach 0 = .ok (.iconst 0, 1) := by decide +kernel
theorem dX0_inReach_1 : decode cX0_inReach 1 = .ok (.istore 4, 2) := by decide +kernel
theorem dX0_inReach_3 : decode cX0_inReach 3 = .ok (.iload 4, 2) := by decide +kernel
theorem dX0_inReach_5 : decode cX0_inReach 5 = .ok (.aload_n 0, 1) := by decide +kernel
theorem dX0_inReach_6 : decode cX0_inReach 6 = .ok (.getfield 44, 3) := by decide +kernel
theorem dX0_inReach_9 : decode cX0_inReach 9 = .ok (.if_icmp .ge 52, 3) := by decide +kernel
theorem dX0_inReach_12 : decode cX0_inReach 12 = .ok (.aload_n 0, 1) := by decide +kernel
theorem dX0_inReach_13 : decode cX0_inReach 13 = .ok (.iload 4, 2) := by decide +kernel
theorem dX0_inReach_15 : decode cX0_inReach 15 = .ok (.iload_n 1, 1) := by decide +kernel
theorem dX0_inReach_16 : decode cX0_inReach 16 = .ok (.invokevirtual 74, 3) := by decide +kernel
theorem dX0_inReach_19 : decode cX0_inReach 19 = .ok (.ifCond .eq 36, 3) := by decide +kernel
theorem dX0_inReach_22 : decode cX0_inReach 22 = .ok (.aload_n 0, 1) := by decide +kernel
theorem dX0_inReach_23 : decode cX0_inReach 23 = .ok (.getfield 20, 3) := by decide +kernel
theorem dX0_inReach_26 : decode cX0_inReach 26 = .ok (.iload 4, 2) := by decide +kernel
theorem dX0_inReach_28 : decode cX0_inReach 28 = .ok (.invokevirtual 56, 3) := by decide +kernel
theorem dX0_inReach_31 : decode cX0_inReach 31 = .ok (.iload_n 2, 1) := by decide +kernel
theorem dX0_inReach_32 : decode cX0_inReach 32 = .ok (.iload_n 3, 1) := by decide +kernel
theorem dX0_inReach_33 : decode cX0_inReach 33 = .ok (.iadd, 1) := by decide +kernel
theorem dX0_inReach_34 : decode cX0_inReach 34 = .ok (.if_icmp .gt 21, 3) := by decide +kernel
theorem dX0_inReach_37 : decode cX0_inReach 37 = .ok (.aload_n 0, 1) := by decide +kernel
theorem dX0_inReach_38 : decode cX0_inReach 38 = .ok (.getfield 23, 3) := by decide +kernel
theorem dX0_inReach_41 : decode cX0_inReach 41 = .ok (.iload 4, 2) := by decide +kernel
theorem dX0_inReach_43 : decode cX0_inReach 43 = .ok (.invokevirtual 56, 3) := by decide +kernel
theorem dX0_inReach_46 : decode cX0_inReach 46 = .ok (.iload_n 3, 1) := by decide +kernel
theorem dX0_inReach_47 : decode cX0_inReach 47 = .ok (.iadd, 1) := by decide +kernel
theorem dX0_inReach_48 : decode cX0_inReach 48 = .ok (.iload_n 2, 1) := by decide +kernel
theorem dX0_inReach_49 : decode cX0_inReach 49 = .ok (.if_icmp .lt 6, 3) := by decide +kernel
theorem dX0_inReach_52 : decode cX0_inReach 52 = .ok (.iload 4, 2) := by decide +kernel
theorem dX0_inReach_54 : decode cX0_inReach 54 = .ok (.ireturn, 1) := by decide +kernel
theorem dX0_inReach_55 : decode cX0_inReach 55 = .ok (.iinc 4 1, 3) := by decide +kernel
theorem dX0_inReach_58 : decode cX0_inReach 58 = .ok (.goto (-55), 3) := by decide +kernel
theorem dX0_inReach_61 : decode cX0_inReach 61 = .ok (.iconst (-1), 1) := by decide +kernel
theorem dX0_inReach_62 : decode cX0_inReach 62 = .ok (.ireturn, 1) := by decide +kernel
set_option maxRecDepth 20000 in
theorem ggX0_partnerOf_X4_at : GoodIn wsX0_partnerOf wsX4_at := goodIn_ca (goodIn_r _ [7, 8, 31] (by decide +kernel) (by decide +kernel)) (goodIn_sub (fun _ h => List.mem_cons_of_mem _ (List.mem_append_right _ h)) (by decide +kernel))
set_option maxRecDepth 20000 in
theorem gX0_partnerOf_X4_at : GoodIn wsX0_partnerOf (wsV RX0 56 RX4 yX4_at wsX4_at) := goodIn_app (goodIn_of _ (by decide +kernel)) ggX0_partnerOf_X4_at
set_option maxRecDepth 20000 in
theorem ggX0_partnerOf_X0_isOpenOfKey : GoodIn wsX0_partnerOf wsX0_isOpenOfKey := goodIn_ca (goodIn_r _ [13, 1, 14, 2, 3, 4, 5, 6, 7, 8, 21, 22, 23, 24, 25, 26, 27, 28, 29, 30, 31] (by decide +kernel) (by decide +kernel)) (goodIn_sub (fun _ h => List.mem_cons_of_mem _ (List.mem_append_right _ h)) (by decide +kernel))
set_option maxRecDepth 20000 in
theorem gX0_partnerOf_X0_isOpenOfKey : GoodIn wsX0_partnerOf (wsV RX0 74 RX0 yX0_isOpenOfKey wsX0_isOpenOfKey) := goodIn_app (goodIn_of _ (by decide +kernel)) ggX0_partnerOf_X0_isOpenOfKey
set_option maxRecDepth 20000 in
theorem ggX0_partnerOf_X0_startsIn : GoodIn wsX0_partnerOf wsX0_startsIn := goodIn_ca (goodIn_r _ [18, 19, 20, 3, 4, 5, 6, 7, 8, 21, 22, 23, 24, 25, 26, 27, 28, 29, 30, 31] (by decide +kernel) (by decide +kernel)) (goodIn_sub (fun _ h => List.mem_cons_of_mem _ (List.mem_append_right _ h)) (by decide +kernel))
set_option maxRecDepth 20000 in
theorem gX0_partnerOf_X0_startsIn : GoodIn wsX0_partnerOf (wsV RX0 77 RX0 yX0_startsIn wsX0_startsIn) := goodIn_app (goodIn_of _ (by decide +kernel)) ggX0_partnerOf_X0_startsIn
theorem dX0_partnerOf_0 : decode cX0_partnerOf 0 = .ok (.iload_n 1, 1) := by decide +kernel
theorem dX0_partnerOf_1 : decode cX0_partnerOf 1 = .ok (.iconst 1, 1) := by decide +kernel
theorem dX0_partnerOf_2 : decode cX0_partnerOf 2 = .ok (.iadd, 1) := by decide +kernel
theorem dX0_partnerOf_3 : decode cX0_partnerOf 3 = .ok (.istore_n 3, 1) := by decide +kernel
theorem dX0_partnerOf_4 : decode cX0_partnerOf 4 = .ok (.iload_n 3, 1) := by decide +kernel
theorem dX0_partnerOf_5 : decode cX0_partnerOf 5 = .ok (.aload_n 0, 1) := by decide +kernel
theorem dX0_partnerOf_6 : decode cX0_partnerOf 6 = .ok (.getfield 44, 3) := by decide +kernel
theorem dX0_partnerOf_9 : decode cX0_partnerOf 9 = .ok (.if_icmp .ge 47, 3) := by decide +kernel
theorem dX0_partnerOf_12 : decode cX0_partnerOf 12 = .ok (.aload_n 0, 1) := by decide +kernel
theorem dX0_partnerOf_13 : decode cX0_partnerOf 13 = .ok (.iload_n 3, 1) := by decide +kernel
theorem dX0_partnerOf_14 : decode cX0_partnerOf 14 = .ok (.aload_n 0, 1) := by decide +kernel
theorem dX0_partnerOf_15 : decode cX0_partnerOf 15 = .ok (.getfield 14, 3) := by decide +kernel
theorem dX0_partnerOf_18 : decode cX0_partnerOf 18 = .ok (.iload_n 1, 1) := by decide +kernel
theorem dX0_partnerOf_19 : decode cX0_partnerOf 19 = .ok (.invokevirtual 56, 3) := by decide +kernel
theorem dX0_partnerOf_22 : decode cX0_partnerOf 22 = .ok (.invokevirtual 74, 3) := by decide +kernel
theorem dX0_partnerOf_25 : decode cX0_partnerOf 25 = .ok (.ifCond .eq 25, 3) := by decide +kernel
theorem dX0_partnerOf_28 : decode cX0_partnerOf 28 = .ok (.aload_n 0, 1) := by decide +kernel
theorem dX0_partnerOf_29 : decode cX0_partnerOf 29 = .ok (.iload_n 3, 1) := by decide +kernel
theorem dX0_partnerOf_30 : decode cX0_partnerOf 30 = .ok (.iload_n 1, 1) := by decide +kernel
theorem dX0_partnerOf_31 : decode cX0_partnerOf 31 = .ok (.iload_n 2, 1) := by decide +kernel
theorem dX0_partnerOf_32 : decode cX0_partnerOf 32 = .ok (.invokevirtual 77, 3) := by decide +kernel
theorem dX0_partnerOf_35 : decode cX0_partnerOf 35 = .ok (.ifCond .ne 13, 3) := by decide +kernel
theorem dX0_partnerOf_38 : decode cX0_partnerOf 38 = .ok (.aload_n 0, 1) := by decide +kernel
theorem dX0_partnerOf_39 : decode cX0_partnerOf 39 = .ok (.iload_n 1, 1) := by decide +kernel
theorem dX0_partnerOf_40 : decode cX0_partnerOf 40 = .ok (.iload_n 3, 1) := by decide +kernel
theorem dX0_partnerOf_41 : decode cX0_partnerOf 41 = .ok (.iload_n 2, 1) := by decide +kernel
theorem dX0_partnerOf_42 : decode cX0_partnerOf 42 = .ok (.invokevirtual 77, 3) := by decide +kernel
theorem dX0_partnerOf_45 : decode cX0_partnerOf 45 = .ok (.ifCond .eq 5, 3) := by decide +kernel
theorem dX0_partnerOf_48 : decode cX0_partnerOf 48 = .ok (.iload_n 3, 1) := by decide +kernel
theorem dX0_partnerOf_49 : decode cX0_partnerOf 49 = .ok (.ireturn, 1) := by decide +kernel
theorem dX0_partnerOf_50 : decode cX0_partnerOf 50 = .ok (.iinc 3 1, 3) := by decide +kernel
theorem dX0_partnerOf_53 : decode cX0_partnerOf 53 = .ok (.goto (-49), 3) := by decide +kernel
theorem dX0_partnerOf_56 : decode cX0_partnerOf 56 = .ok (.iconst (-1), 1) := by decide +kernel
theorem dX0_partnerOf_57 : decode cX0_partnerOf 57 = .ok (.ireturn, 1) := by decide +kernel
set_option maxRecDepth 20000 in
theorem ggX0_startsIn_X4_at : GoodIn wsX0_startsIn wsX4_at := goodIn_ca (goodIn_r _ [7, 8, 19] (by decide +kernel) (by decide +kernel)) (goodIn_sub (fun _ h => List.mem_cons_of_mem _ (List.mem_append_right _ h)) (by decide +kernel))
set_option maxRecDepth 20000 in
theorem gX0_startsIn_X4_at : GoodIn wsX0_startsIn (wsV RX0 56 RX4 yX4_at wsX4_at) := goodIn_app (goodIn_of _ (by decide +kernel)) ggX0_startsIn_X4_at
theorem dX0_startsIn_0 : decode cX0_startsIn 0 = .ok (.aload_n 0, 1) := by decide +kernel
theorem dX0_startsIn_1 : decode cX0_startsIn 1 = .ok (.getfield 20, 3) := by decide +kernel
theorem dX0_startsIn_4 : decode cX0_startsIn 4 = .ok (.iload_n 1, 1) := by decide +kernel
theorem dX0_startsIn_5 : decode cX0_startsIn 5 = .ok (.invokevirtual 56, 3) := by decide +kernel
theorem dX0_startsIn_8 : decode cX0_startsIn 8 = .ok (.aload_n 0, 1) := by decide +kernel
theorem dX0_startsIn_9 : decode cX0_startsIn 9 = .ok (.getfield 20, 3) := by decide +kernel
theorem dX0_startsIn_12 : decode cX0_startsIn 12 = .ok (.iload_n 2, 1) := by decide +kernel
theorem dX0_startsIn_13 : decode cX0_startsIn 13 = .ok (.invokevirtual 56, 3) := by decide +kernel
theorem dX0_startsIn_16 : decode cX0_startsIn 16 = .ok (.if_icmp .lt 28, 3) := by decide +kernel
theorem dX0_startsIn_19 : decode cX0_startsIn 19 = .ok (.aload_n 0, 1) := by decide +kernel
theorem dX0_startsIn_20 : decode cX0_startsIn 20 = .ok (.getfield 20, 3) := by decide +kernel
theorem dX0_startsIn_23 : decode cX0_startsIn 23 = .ok (.iload_n 1, 1) := by decide +kernel
theorem dX0_startsIn_24 : decode cX0_startsIn 24 = .ok (.invokevirtual 56, 3) := by decide +kernel
theorem dX0_startsIn_27 : decode cX0_startsIn 27 = .ok (.aload_n 0, 1) := by decide +kernel
theorem dX0_startsIn_28 : decode cX0_startsIn 28 = .ok (.getfield 23, 3) := by decide +kernel
theorem dX0_startsIn_31 : decode cX0_startsIn 31 = .ok (.iload_n 2, 1) := by decide +kernel
theorem dX0_startsIn_32 : decode cX0_startsIn 32 = .ok (.invokevirtual 56, 3) := by decide +kernel
theorem dX0_startsIn_35 : decode cX0_startsIn 35 = .ok (.iload_n 3, 1) := by decide +kernel
theorem dX0_startsIn_36 : decode cX0_startsIn 36 = .ok (.iadd, 1) := by decide +kernel
theorem dX0_startsIn_37 : decode cX0_startsIn 37 = .ok (.if_icmp .gt 7, 3) := by decide +kernel
theorem dX0_startsIn_40 : decode cX0_startsIn 40 = .ok (.iconst 1, 1) := by decide +kernel
theorem dX0_startsIn_41 : decode cX0_startsIn 41 = .ok (.goto 4, 3) := by decide +kernel
theorem dX0_startsIn_44 : decode cX0_startsIn 44 = .ok (.iconst 0, 1) := by decide +kernel
theorem dX0_startsIn_45 : decode cX0_startsIn 45 = .ok (.ireturn, 1) := by decide +kernel
set_option maxRecDepth 20000 in
theorem ggX0_swallow_X4_at : GoodIn wsX0_swallow wsX4_at := goodIn_ca (goodIn_r _ [15, 16, 31] (by decide +kernel) (by decide +kernel)) (goodIn_sub (fun _ h => List.mem_cons_of_mem _ (List.mem_append_right _ h)) (by decide +kernel))
set_option maxRecDepth 20000 in
theorem gX0_swallow_X4_at : GoodIn wsX0_swallow (wsV RX0 56 RX4 yX4_at wsX4_at) := goodIn_app (goodIn_of _ (by decide +kernel)) ggX0_swallow_X4_at
set_option maxRecDepth 20000 in
theorem ggX0_swallow_X4_put : GoodIn wsX0_swallow wsX4_put := goodIn_ca (goodIn_r _ [20, 16, 31] (by decide +kernel) (by decide +kernel)) (goodIn_sub (fun _ h => List.mem_cons_of_mem _ (List.mem_append_right _ h)) (by decide +kernel))
set_option maxRecDepth 20000 in
theorem gX0_swallow_X4_put : GoodIn wsX0_swallow (wsV RX0 52 RX4 yX4_put wsX4_put) := goodIn_app (goodIn_of _ (by decide +kernel)) ggX0_swallow_X4_put
theorem dX0_swallow_0 : decode cX0_swallow 0 = .ok (.aload_n 0, 1) := by decide +kernel
theorem dX0_swallow_1 : decode cX0_swallow 1 = .ok (.getfield 20, 3) := by decide +kernel
theorem dX0_swallow_4 : decode cX0_swallow 4 = .ok (.iload_n 1, 1) := by decide +kernel
theorem dX0_swallow_5 : decode cX0_swallow 5 = .ok (.aload_n 0, 1) := by decide +kernel
theorem dX0_swallow_6 : decode cX0_swallow 6 = .ok (.getfield 20, 3) := by decide +kernel
theorem dX0_swallow_9 : decode cX0_swallow 9 = .ok (.iload_n 1, 1) := by decide +kernel
theorem dX0_swallow_10 : decode cX0_swallow 10 = .ok (.invokevirtual 56, 3) := by decide +kernel
theorem dX0_swallow_13 : decode cX0_swallow 13 = .ok (.aload_n 0, 1) := by decide +kernel
theorem dX0_swallow_14 : decode cX0_swallow 14 = .ok (.getfield 20, 3) := by decide +kernel
theorem dX0_swallow_17 : decode cX0_swallow 17 = .ok (.iload_n 2, 1) := by decide +kernel
theorem dX0_swallow_18 : decode cX0_swallow 18 = .ok (.invokevirtual 56, 3) := by decide +kernel
theorem dX0_swallow_21 : decode cX0_swallow 21 = .ok (.invokestatic 81, 3) := by decide +kernel
theorem dX0_swallow_24 : decode cX0_swallow 24 = .ok (.invokevirtual 52, 3) := by decide +kernel
theorem dX0_swallow_27 : decode cX0_swallow 27 = .ok (.aload_n 0, 1) := by decide +kernel
theorem dX0_swallow_28 : decode cX0_swallow 28 = .ok (.getfield 23, 3) := by decide +kernel
theorem dX0_swallow_31 : decode cX0_swallow 31 = .ok (.iload_n 1, 1) := by decide +kernel
theorem dX0_swallow_32 : decode cX0_swallow 32 = .ok (.aload_n 0, 1) := by decide +kernel
theorem dX0_swallow_33 : decode cX0_swallow 33 = .ok (.getfield 23, 3) := by decide +kernel
theorem dX0_swallow_36 : decode cX0_swallow 36 = .ok (.iload_n 1, 1) := by decide +kernel
theorem dX0_swallow_37 : decode cX0_swallow 37 = .ok (.invokevirtual 56, 3) := by decide +kernel
theorem dX0_swallow_40 : decode cX0_swallow 40 = .ok (.aload_n 0, 1) := by decide +kernel
theorem dX0_swallow_41 : decode cX0_swallow 41 = .ok (.getfield 23, 3) := by decide +kernel
theorem dX0_swallow_44 : decode cX0_swallow 44 = .ok (.iload_n 2, 1) := by decide +kernel
theorem dX0_swallow_45 : decode cX0_swallow 45 = .ok (.invokevirtual 56, 3) := by decide +kernel
theorem dX0_swallow_48 : decode cX0_swallow 48 = .ok (.invokestatic 87, 3) := by decide +kernel
theorem dX0_swallow_51 : decode cX0_swallow 51 = .ok (.invokevirtual 52, 3) := by decide +kernel
theorem dX0_swallow_54 : decode cX0_swallow 54 = .ok (.aload_n 0, 1) := by decide +kernel
theorem dX0_swallow_55 : decode cX0_swallow 55 = .ok (.getfield 26, 3) := by decide +kernel
theorem dX0_swallow_58 : decode cX0_swallow 58 = .ok (.iload_n 2, 1) := by decide +kernel
theorem dX0_swallow_59 : decode cX0_swallow 59 = .ok (.iconst 2, 1) := by decide +kernel
theorem dX0_swallow_60 : decode cX0_swallow 60 = .ok (.invokevirtual 52, 3) := by decide +kernel
theorem dX0_swallow_63 : decode cX0_swallow 63 = .ok (.return_, 1) := by decide +kernel
set_option maxRecDepth 20000 in
theorem ggX0_differsFromFired_X4_at : GoodIn wsX0_differsFromFired wsX4_at := goodIn_ca (goodIn_r _ [10, 11, 22] (by decide +kernel) (by decide +kernel)) (goodIn_sub (fun _ h => List.mem_cons_of_mem _ (List.mem_append_right _ h)) (by decide +kernel))
set_option maxRecDepth 20000 in
theorem gX0_differsFromFired_X4_at : GoodIn wsX0_differsFromFired (wsV RX0 56 RX4 yX4_at wsX4_at) := goodIn_app (goodIn_of _ (by decide +kernel)) ggX0_differsFromFired_X4_at
theorem dX0_differsFromFired_0 : decode cX0_differsFromFired 0 = .ok (.iload_n 2, 1) := by decide +kernel
theorem dX0_differsFromFired_1 : decode cX0_differsFromFired 1 = .ok (.aload_n 0, 1) := by decide +kernel
theorem dX0_differsFromFired_2 : decode cX0_differsFromFired 2 = .ok (.getfield 35, 3) := by decide +kernel
theorem dX0_differsFromFired_5 : decode cX0_differsFromFired 5 = .ok (.iload_n 1, 1) := by decide +kernel
theorem dX0_differsFromFired_6 : decode cX0_differsFromFired 6 = .ok (.invokevirtual 56, 3) := by decide +kernel
theorem dX0_differsFromFired_9 : decode cX0_differsFromFired 9 = .ok (.if_icmp .ne 41, 3) := by decide +kernel
theorem dX0_differsFromFired_12 : decode cX0_differsFromFired 12 = .ok (.aload_n 0, 1) := by decide +kernel
theorem dX0_differsFromFired_13 : decode cX0_differsFromFired 13 = .ok (.getfield 20, 3) := by decide +kernel
theorem dX0_differsFromFired_16 : decode cX0_differsFromFired 16 = .ok (.iload_n 1, 1) := by decide +kernel
theorem dX0_differsFromFired_17 : decode cX0_differsFromFired 17 = .ok (.invokevirtual 56, 3) := by decide +kernel
theorem dX0_differsFromFired_20 : decode cX0_differsFromFired 20 = .ok (.aload_n 0, 1) := by decide +kernel
theorem dX0_differsFromFired_21 : decode cX0_differsFromFired 21 = .ok (.getfield 38, 3) := by decide +kernel
theorem dX0_differsFromFired_24 : decode cX0_differsFromFired 24 = .ok (.iload_n 1, 1) := by decide +kernel
theorem dX0_differsFromFired_25 : decode cX0_differsFromFired 25 = .ok (.invokevirtual 56, 3) := by decide +kernel
theorem dX0_differsFromFired_28 : decode cX0_differsFromFired 28 = .ok (.if_icmp .ne 22, 3) := by decide +kernel
theorem dX0_differsFromFired_31 : decode cX0_differsFromFired 31 = .ok (.aload_n 0, 1) := by decide +kernel
theorem dX0_differsFromFired_32 : decode cX0_differsFromFired 32 = .ok (.getfield 23, 3) := by decide +kernel
theorem dX0_differsFromFired_35 : decode cX0_differsFromFired 35 = .ok (.iload_n 1, 1) := by decide +kernel
theorem dX0_differsFromFired_36 : decode cX0_differsFromFired 36 = .ok (.invokevirtual 56, 3) := by decide +kernel
theorem dX0_differsFromFired_39 : decode cX0_differsFromFired 39 = .ok (.aload_n 0, 1) := by decide +kernel
theorem dX0_differsFromFired_40 : decode cX0_differsFromFired 40 = .ok (.getfield 41, 3) := by decide +kernel
theorem dX0_differsFromFired_43 : decode cX0_differsFromFired 43 = .ok (.iload_n 1, 1) := by decide +kernel
theorem dX0_differsFromFired_44 : decode cX0_differsFromFired 44 = .ok (.invokevirtual 56, 3) := by decide +kernel
theorem dX0_differsFromFired_47 : decode cX0_differsFromFired 47 = .ok (.if_icmp .eq 7, 3) := by decide +kernel
theorem dX0_differsFromFired_50 : decode cX0_differsFromFired 50 = .ok (.iconst 1, 1) := by decide +kernel
theorem dX0_differsFromFired_51 : decode cX0_differsFromFired 51 = .ok (.goto 4, 3) := by decide +kernel
theorem dX0_differsFromFired_54 : decode cX0_differsFromFired 54 = .ok (.iconst 0, 1) := by decide +kernel
theorem dX0_differsFromFired_55 : decode cX0_differsFromFired 55 = .ok (.ireturn, 1) := by decide +kernel
set_option maxRecDepth 20000 in
theorem ggX0_noteFired_X4_put : GoodIn wsX0_noteFired wsX4_put := goodIn_ca (goodIn_r _ [12, 13, 28] (by decide +kernel) (by decide +kernel)) (goodIn_sub (fun _ h => List.mem_cons_of_mem _ (List.mem_append_right _ h)) (by decide +kernel))
set_option maxRecDepth 20000 in
theorem gX0_noteFired_X4_put : GoodIn wsX0_noteFired (wsV RX0 52 RX4 yX4_put wsX4_put) := goodIn_app (goodIn_of _ (by decide +kernel)) ggX0_noteFired_X4_put
set_option maxRecDepth 20000 in
theorem ggX0_noteFired_X4_at : GoodIn wsX0_noteFired wsX4_at := goodIn_ca (goodIn_r _ [17, 13, 28] (by decide +kernel) (by decide +kernel)) (goodIn_sub (fun _ h => List.mem_cons_of_mem _ (List.mem_append_right _ h)) (by decide +kernel))
set_option maxRecDepth 20000 in
theorem gX0_noteFired_X4_at : GoodIn wsX0_noteFired (wsV RX0 56 RX4 yX4_at wsX4_at) := goodIn_app (goodIn_of _ (by decide +kernel)) ggX0_noteFired_X4_at
theorem dX0_noteFired_0 : decode cX0_noteFired 0 = .ok (.aload_n 0, 1) := by decide +kernel
theorem dX0_noteFired_1 : decode cX0_noteFired 1 = .ok (.getfield 32, 3) := by decide +kernel
theorem dX0_noteFired_4 : decode cX0_noteFired 4 = .ok (.iload_n 1, 1) := by decide +kernel
theorem dX0_noteFired_5 : decode cX0_noteFired 5 = .ok (.iconst 1, 1) := by decide +kernel
theorem dX0_noteFired_6 : decode cX0_noteFired 6 = .ok (.invokevirtual 52, 3) := by decide +kernel
theorem dX0_noteFired_9 : decode cX0_noteFired 9 = .ok (.aload_n 0, 1) := by decide +kernel
theorem dX0_noteFired_10 : decode cX0_noteFired 10 = .ok (.getfield 35, 3) := by decide +kernel
theorem dX0_noteFired_13 : decode cX0_noteFired 13 = .ok (.iload_n 1, 1) := by decide +kernel
theorem dX0_noteFired_14 : decode cX0_noteFired 14 = .ok (.iload_n 2, 1) := by decide +kernel
theorem dX0_noteFired_15 : decode cX0_noteFired 15 = .ok (.invokevirtual 52, 3) := by decide +kernel
theorem dX0_noteFired_18 : decode cX0_noteFired 18 = .ok (.aload_n 0, 1) := by decide +kernel
theorem dX0_noteFired_19 : decode cX0_noteFired 19 = .ok (.getfield 38, 3) := by decide +kernel
theorem dX0_noteFired_22 : decode cX0_noteFired 22 = .ok (.iload_n 1, 1) := by decide +kernel
theorem dX0_noteFired_23 : decode cX0_noteFired 23 = .ok (.aload_n 0, 1) := by decide +kernel
theorem dX0_noteFired_24 : decode cX0_noteFired 24 = .ok (.getfield 20, 3) := by decide +kernel
theorem dX0_noteFired_27 : decode cX0_noteFired 27 = .ok (.iload_n 1, 1) := by decide +kernel
theorem dX0_noteFired_28 : decode cX0_noteFired 28 = .ok (.invokevirtual 56, 3) := by decide +kernel
theorem dX0_noteFired_31 : decode cX0_noteFired 31 = .ok (.invokevirtual 52, 3) := by decide +kernel
theorem dX0_noteFired_34 : decode cX0_noteFired 34 = .ok (.aload_n 0, 1) := by decide +kernel
theorem dX0_noteFired_35 : decode cX0_noteFired 35 = .ok (.getfield 41, 3) := by decide +kernel
theorem dX0_noteFired_38 : decode cX0_noteFired 38 = .ok (.iload_n 1, 1) := by decide +kernel
theorem dX0_noteFired_39 : decode cX0_noteFired 39 = .ok (.aload_n 0, 1) := by decide +kernel
theorem dX0_noteFired_40 : decode cX0_noteFired 40 = .ok (.getfield 23, 3) := by decide +kernel
theorem dX0_noteFired_43 : decode cX0_noteFired 43 = .ok (.iload_n 1, 1) := by decide +kernel
theorem dX0_noteFired_44 : decode cX0_noteFired 44 = .ok (.invokevirtual 56, 3) := by decide +kernel
theorem dX0_noteFired_47 : decode cX0_noteFired 47 = .ok (.invokevirtual 52, 3) := by decide +kernel
theorem dX0_noteFired_50 : decode cX0_noteFired 50 = .ok (.aload_n 0, 1) := by decide +kernel
theorem dX0_noteFired_51 : decode cX0_noteFired 51 = .ok (.getfield 29, 3) := by decide +kernel
theorem dX0_noteFired_54 : decode cX0_noteFired 54 = .ok (.iload_n 1, 1) := by decide +kernel
theorem dX0_noteFired_55 : decode cX0_noteFired 55 = .ok (.aload_n 0, 1) := by decide +kernel
theorem dX0_noteFired_56 : decode cX0_noteFired 56 = .ok (.getfield 29, 3) := by decide +kernel
theorem dX0_noteFired_59 : decode cX0_noteFired 59 = .ok (.iload_n 1, 1) := by decide +kernel
theorem dX0_noteFired_60 : decode cX0_noteFired 60 = .ok (.invokevirtual 56, 3) := by decide +kernel
theorem dX0_noteFired_63 : decode cX0_noteFired 63 = .ok (.iconst 1, 1) := by decide +kernel
theorem dX0_noteFired_64 : decode cX0_noteFired 64 = .ok (.iadd, 1) := by decide +kernel
theorem dX0_noteFired_65 : decode cX0_noteFired 65 = .ok (.invokevirtual 52, 3) := by decide +kernel
theorem dX0_noteFired_68 : decode cX0_noteFired 68 = .ok (.return_, 1) := by decide +kernel
set_option maxRecDepth 20000 in
theorem ggX0_sumOfFired_X0_hasFired : GoodIn wsX0_sumOfFired wsX0_hasFired := goodIn_ca (goodIn_r _ [7, 8, 9, 10, 11, 12, 13, 14, 15, 16, 17, 18, 19, 20, 21, 22, 23, 24, 25] (by decide +kernel) (by decide +kernel)) (goodIn_sub (fun _ h => List.mem_cons_of_mem _ (List.mem_append_right _ h)) (by decide +kernel))
set_option maxRecDepth 20000 in
theorem gX0_sumOfFired_X0_hasFired : GoodIn wsX0_sumOfFired (wsV RX0 90 RX0 yX0_hasFired wsX0_hasFired) := goodIn_app (goodIn_of _ (by decide +kernel)) ggX0_sumOfFired_X0_hasFired
set_option maxRecDepth 20000 in
theorem ggX0_sumOfFired_X4_at : GoodIn wsX0_sumOfFired wsX4_at := goodIn_ca (goodIn_r _ [13, 14, 25] (by decide +kernel) (by decide +kernel)) (goodIn_sub (fun _ h => List.mem_cons_of_mem _ (List.mem_append_right _ h)) (by decide +kernel))
set_option maxRecDepth 20000 in
theorem gX0_sumOfFired_X4_at : GoodIn wsX0_sumOfFired (wsV RX0 56 RX4 yX4_at wsX4_at) := goodIn_app (goodIn_of _ (by decide +kernel)) ggX0_sumOfFired_X4_at
theorem dX0_sumOfFired_0 : decode cX0_sumOfFired 0 = .ok (.lconst 0, 1) := by decide +kernel
theorem dX0_sumOfFired_1 : decode cX0_sumOfFired 1 = .ok (.lstore_n 1, 1) := by decide +kernel
theorem dX0_sumOfFired_2 : decode cX0_sumOfFired 2 = .ok (.iconst 0, 1) := by decide +kernel
theorem dX0_sumOfFired_3 : decode cX0_sumOfFired 3 = .ok (.istore_n 3, 1) := by decide +kernel
theorem dX0_sumOfFired_4 : decode cX0_sumOfFired 4 = .ok (.iload_n 3, 1) := by decide +kernel
theorem dX0_sumOfFired_5 : decode cX0_sumOfFired 5 = .ok (.aload_n 0, 1) := by decide +kernel
theorem dX0_sumOfFired_6 : decode cX0_sumOfFired 6 = .ok (.getfield 44, 3) := by decide +kernel
theorem dX0_sumOfFired_9 : decode cX0_sumOfFired 9 = .ok (.if_icmp .ge 29, 3) := by decide +kernel
theorem dX0_sumOfFired_12 : decode cX0_sumOfFired 12 = .ok (.aload_n 0, 1) := by decide +kernel
theorem dX0_sumOfFired_13 : decode cX0_sumOfFired 13 = .ok (.iload_n 3, 1) := by decide +kernel
theorem dX0_sumOfFired_14 : decode cX0_sumOfFired 14 = .ok (.invokevirtual 90, 3) := by decide +kernel
theorem dX0_sumOfFired_17 : decode cX0_sumOfFired 17 = .ok (.ifCond .eq 15, 3) := by decide +kernel
theorem dX0_sumOfFired_20 : decode cX0_sumOfFired 20 = .ok (.lload_n 1, 1) := by decide +kernel
theorem dX0_sumOfFired_21 : decode cX0_sumOfFired 21 = .ok (.aload_n 0, 1) := by decide +kernel
theorem dX0_sumOfFired_22 : decode cX0_sumOfFired 22 = .ok (.getfield 35, 3) := by decide +kernel
theorem dX0_sumOfFired_25 : decode cX0_sumOfFired 25 = .ok (.iload_n 3, 1) := by decide +kernel
theorem dX0_sumOfFired_26 : decode cX0_sumOfFired 26 = .ok (.invokevirtual 56, 3) := by decide +kernel
theorem dX0_sumOfFired_29 : decode cX0_sumOfFired 29 = .ok (.i2l, 1) := by decide +kernel
theorem dX0_sumOfFired_30 : decode cX0_sumOfFired 30 = .ok (.ladd, 1) := by decide +kernel
theorem dX0_sumOfFired_31 : decode cX0_sumOfFired 31 = .ok (.lstore_n 1, 1) := by decide +kernel
theorem dX0_sumOfFired_32 : decode cX0_sumOfFired 32 = .ok (.iinc 3 1, 3) := by decide +kernel
theorem dX0_sumOfFired_35 : decode cX0_sumOfFired 35 = .ok (.goto (-31), 3) := by decide +kernel
theorem dX0_sumOfFired_38 : decode cX0_sumOfFired 38 = .ok (.lload_n 1, 1) := by decide +kernel
theorem dX0_sumOfFired_39 : decode cX0_sumOfFired 39 = .ok (.lreturn, 1) := by decide +kernel
set_option maxRecDepth 20000 in
theorem ggX1_init_X4_init : GoodIn wsX1_init wsX4_init := goodIn_r _ [23, 24, 2, 3, 25, 26, 27, 28, 29, 30, 91] (by decide +kernel) (by decide +kernel)
set_option maxRecDepth 20000 in
theorem gX1_init_X4_init : GoodIn wsX1_init (wsX4_init) := ggX1_init_X4_init
set_option maxRecDepth 20000 in
theorem ggX1_init_X3_init : GoodIn wsX1_init wsX3_init := goodIn_r _ [32, 33, 2, 3, 34, 5, 6, 35, 36, 37, 38, 39, 22, 23, 24, 25, 26, 27, 28, 29, 30, 91, 102, 103, 104, 105] (by decide +kernel) (by decide +kernel)
set_option maxRecDepth 20000 in
theorem gX1_init_X3_init_n25 : GoodIn wsX1_init (wsX3_init) := ggX1_init_X3_init
set_option maxRecDepth 20000 in
theorem ggX1_init_X0_init : GoodIn wsX1_init wsX0_init := goodIn_r _ [41, 42, 2, 3, 43, 5, 6, 44, 45, 46, 47, 48, 49, 50, 51, 52, 53, 54, 22, 23, 24, 25, 26, 27, 28, 29, 30, 91, 106, 107, 108, 109, 110, 111, 112, 113, 114, 115] (by decide +kernel) (by decide +kernel)
set_option maxRecDepth 20000 in
theorem gX1_init_X0_init_n32 : GoodIn wsX1_init (wsX0_init) := ggX1_init_X0_init
set_option maxRecDepth 20000 in
theorem ggX1_init_X2_init : GoodIn wsX1_init wsX2_init := goodIn_r _ [56, 57, 2, 3, 58, 5, 6, 59, 60, 61, 62, 63, 64, 65, 66, 67, 68, 69, 22, 23, 24, 25, 26, 27, 28, 29, 30, 91, 116, 117, 118, 119, 120, 121, 122, 123, 124, 125] (by decide +kernel) (by decide +kernel)
set_option maxRecDepth 20000 in
theorem gX1_init_X2_init_n39 : GoodIn wsX1_init (wsX2_init) := ggX1_init_X2_init
set_option maxRecDepth 20000 in
theorem ggX1_init_X1_clear : GoodIn wsX1_init wsX1_clear := goodIn_ca (goodIn_r _ [74, 7, 8, 12, 75, 16, 76, 20, 77, 78, 79, 80, 81, 82, 83, 84, 6, 85, 30, 86, 87, 88, 19, 89, 66, 65, 67, 68, 90, 92, 93, 94, 95, 96, 97, 98, 99, 100, 101, 102, 103, 104, 105, 106, 107, 108, 109, 110, 111, 112, 113, 114, 115, 91, 116, 117, 118, 119, 120, 121, 122, 123, 124, 125] (by decide +kernel) (by decide +kernel)) (goodIn_sub (fun _ h => List.mem_cons_of_mem _ (List.mem_append_right _ h)) (by decide +kernel))
set_option maxRecDepth 20000 in
theorem gX1_init_X1_clear : GoodIn wsX1_init (wsV RX1 44 RX1 yX1_clear wsX1_clear) := goodIn_app (goodIn_of _ (by decide +kernel)) ggX1_init_X1_clear
theorem dX1_init_0 : decode cX1_init 0 = .ok (.aload_n 0, 1) := by decide +kernel
theorem dX1_init_1 : decode cX1_init 1 = .ok (.invokespecial 3, 3) := by decide +kernel
theorem dX1_init_4 : decode cX1_init 4 = .ok (.aload_n 0, 1) := by decide +kernel
theorem dX1_init_5 : decode cX1_init 5 = .ok (.new 9, 3) := by decide +kernel
theorem dX1_init_8 : decode cX1_init 8 = .ok (.dup, 1) := by decide +kernel
theorem dX1_init_9 : decode cX1_init 9 = .ok (.bipush 8, 2) := by decide +kernel
theorem dX1_init_11 : decode cX1_init 11 = .ok (.invokespecial 11, 3) := by decide +kernel
theorem dX1_init_14 : decode cX1_init 14 = .ok (.putfield 14, 3) := by decide +kernel
theorem dX1_init_17 : decode cX1_init 17 = .ok (.aload_n 0, 1) := by decide +kernel
theorem dX1_init_18 : decode cX1_init 18 = .ok (.new 9, 3) := by decide +kernel
theorem dX1_init_21 : decode cX1_init 21 = .ok (.dup, 1) := by decide +kernel
theorem dX1_init_22 : decode cX1_init 22 = .ok (.bipush 8, 2) := by decide +kernel
theorem dX1_init_24 : decode cX1_init 24 = .ok (.invokespecial 11, 3) := by decide +kernel
theorem dX1_init_27 : decode cX1_init 27 = .ok (.putfield 20, 3) := by decide +kernel
theorem dX1_init_30 : decode cX1_init 30 = .ok (.aload_n 0, 1) := by decide +kernel
theorem dX1_init_31 : decode cX1_init 31 = .ok (.new 23, 3) := by decide +kernel
theorem dX1_init_34 : decode cX1_init 34 = .ok (.dup, 1) := by decide +kernel
theorem dX1_init_35 : decode cX1_init 35 = .ok (.invokespecial 25, 3) := by decide +kernel
theorem dX1_init_38 : decode cX1_init 38 = .ok (.putfield 26, 3) := by decide +kernel
theorem dX1_init_41 : decode cX1_init 41 = .ok (.aload_n 0, 1) := by decide +kernel
theorem dX1_init_42 : decode cX1_init 42 = .ok (.new 30, 3) := by decide +kernel
theorem dX1_init_45 : decode cX1_init 45 = .ok (.dup, 1) := by decide +kernel
theorem dX1_init_46 : decode cX1_init 46 = .ok (.invokespecial 32, 3) := by decide +kernel
theorem dX1_init_49 : decode cX1_init 49 = .ok (.putfield 33, 3) := by decide +kernel
theorem dX1_init_52 : decode cX1_init 52 = .ok (.aload_n 0, 1) := by decide +kernel
theorem dX1_init_53 : decode cX1_init 53 = .ok (.new 37, 3) := by decide +kernel
theorem dX1_init_56 : decode cX1_init 56 = .ok (.dup, 1) := by decide +kernel
theorem dX1_init_57 : decode cX1_init 57 = .ok (.invokespecial 39, 3) := by decide +kernel
theorem dX1_init_60 : decode cX1_init 60 = .ok (.putfield 40, 3) := by decide +kernel
theorem dX1_init_63 : decode cX1_init 63 = .ok (.aload_n 0, 1) := by decide +kernel
theorem dX1_init_64 : decode cX1_init 64 = .ok (.invokevirtual 44, 3) := by decide +kernel
theorem dX1_init_67 : decode cX1_init 67 = .ok (.return_, 1) := by decide +kernel
set_option maxRecDepth 20000 in
theorem ggX1_clear_X4_fillWith : GoodIn wsX1_clear wsX4_fillWith := goodIn_ca (goodIn_r _ [17, 18, 53] (by decide +kernel) (by decide +kernel)) (goodIn_sub (fun _ h => List.mem_cons_of_mem _ (List.mem_append_right _ h)) (by decide +kernel))
set_option maxRecDepth 20000 in
theorem gX1_clear_X4_fillWith : GoodIn wsX1_clear (wsV RX1 47 RX4 yX4_fillWith wsX4_fillWith) := goodIn_app (goodIn_of _ (by decide +kernel)) ggX1_clear_X4_fillWith
set_option maxRecDepth 20000 in
theorem ggX1_clear_X2_clear : GoodIn wsX1_clear wsX2_clear := goodIn_ca (goodIn_r _ [23, 24, 25, 26, 27, 28, 14, 15, 16, 17, 18, 54, 55, 56, 57, 58, 59, 60, 61, 62, 63, 53] (by decide +kernel) (by decide +kernel)) (goodIn_sub (fun _ h => List.mem_cons_of_mem _ (List.mem_append_right _ h)) (by decide +kernel))
set_option maxRecDepth 20000 in
theorem gX1_clear_X2_clear : GoodIn wsX1_clear (wsV RX1 57 RX2 yX2_clear wsX2_clear) := goodIn_app (goodIn_of _ (by decide +kernel)) ggX1_clear_X2_clear
theorem dX1_clear_0 : decode cX1_clear 0 = .ok (.aload_n 0, 1) := by decide +kernel
theorem dX1_clear_1 : decode cX1_clear 1 = .ok (.getfield 14, 3) := by decide +kernel
theorem dX1_clear_4 : decode cX1_clear 4 = .ok (.bipush 10, 2) := by decide +kernel
theorem dX1_clear_6 : decode cX1_clear 6 = .ok (.invokevirtual 47, 3) := by decide +kernel
theorem dX1_clear_9 : decode cX1_clear 9 = .ok (.aload_n 0, 1) := by decide +kernel
theorem dX1_clear_10 : decode cX1_clear 10 = .ok (.getfield 20, 3) := by decide +kernel
theorem dX1_clear_13 : decode cX1_clear 13 = .ok (.iconst 0, 1) := by decide +kernel
theorem dX1_clear_14 : decode cX1_clear 14 = .ok (.invokevirtual 47, 3) := by decide +kernel
theorem dX1_clear_17 : decode cX1_clear 17 = .ok (.aload_n 0, 1) := by decide +kernel
theorem dX1_clear_18 : decode cX1_clear 18 = .ok (.getfield 26, 3) := by decide +kernel
theorem dX1_clear_21 : decode cX1_clear 21 = .ok (.iconst 0, 1) := by decide +kernel
theorem dX1_clear_22 : decode cX1_clear 22 = .ok (.putfield 50, 3) := by decide +kernel
theorem dX1_clear_25 : decode cX1_clear 25 = .ok (.aload_n 0, 1) := by decide +kernel
theorem dX1_clear_26 : decode cX1_clear 26 = .ok (.getfield 33, 3) := by decide +kernel
theorem dX1_clear_29 : decode cX1_clear 29 = .ok (.iconst 0, 1) := by decide +kernel
theorem dX1_clear_30 : decode cX1_clear 30 = .ok (.putfield 54, 3) := by decide +kernel
theorem dX1_clear_33 : decode cX1_clear 33 = .ok (.aload_n 0, 1) := by decide +kernel
theorem dX1_clear_34 : decode cX1_clear 34 = .ok (.getfield 40, 3) := by decide +kernel
theorem dX1_clear_37 : decode cX1_clear 37 = .ok (.invokevirtual 57, 3) := by decide +kernel
theorem dX1_clear_40 : decode cX1_clear 40 = .ok (.aload_n 0, 1) := by decide +kernel
theorem dX1_clear_41 : decode cX1_clear 41 = .ok (.iconst 0, 1) := by decide +kernel
theorem dX1_clear_42 : decode cX1_clear 42 = .ok (.putfield 58, 3) := by decide +kernel
theorem dX1_clear_45 : decode cX1_clear 45 = .ok (.aload_n 0, 1) := by decide +kernel
theorem dX1_clear_46 : decode cX1_clear 46 = .ok (.iconst 0, 1) := by decide +kernel
theorem dX1_clear_47 : decode cX1_clear 47 = .ok (.putfield 61, 3) := by decide +kernel
theorem dX1_clear_50 : decode cX1_clear 50 = .ok (.aload_n 0, 1) := by decide +kernel
theorem dX1_clear_51 : decode cX1_clear 51 = .ok (.iconst 0, 1) := by decide +kernel
theorem dX1_clear_52 : decode cX1_clear 52 = .ok (.putfield 64, 3) := by decide +kernel
theorem dX1_clear_55 : decode cX1_clear 55 = .ok (.aload_n 0, 1) := by decide +kernel
theorem dX1_clear_56 : decode cX1_clear 56 = .ok (.iconst 0, 1) := by decide +kernel
theorem dX1_clear_57 : decode cX1_clear 57 = .ok (.putfield 67, 3) := by decide +kernel
theorem dX1_clear_60 : decode cX1_clear 60 = .ok (.aload_n 0, 1) := by decide +kernel
theorem dX1_clear_61 : decode cX1_clear 61 = .ok (.iconst 0, 1) := by decide +kernel
theorem dX1_clear_62 : decode cX1_clear 62 = .ok (.putfield 70, 3) := by decide +kernel
theorem dX1_clear_65 : decode cX1_clear 65 = .ok (.return_, 1) := by decide +kernel
set_option maxRecDepth 20000 in
theorem ggX1_copyFrom_X4_copyFrom : GoodIn wsX1_copyFrom wsX4_copyFrom := goodIn_ca (goodIn_r _ [15, 16, 17, 18, 19, 14, 20, 73] (by decide +kernel) (by decide +kernel)) (goodIn_sub (fun _ h => List.mem_cons_of_mem _ (List.mem_append_right _ h)) (by decide +kernel))
set_option maxRecDepth 20000 in
theorem gX1_copyFrom_X4_copyFrom : GoodIn wsX1_copyFrom (wsV RX1 73 RX4 yX4_copyFrom wsX4_copyFrom) := goodIn_app (goodIn_of _ (by decide +kernel)) ggX1_copyFrom_X4_copyFrom
set_option maxRecDepth 20000 in
theorem ggX1_copyFrom_X3_copyFrom : GoodIn wsX1_copyFrom wsX3_copyFrom := goodIn_ca (goodIn_r _ [25, 26, 27, 28, 29, 30, 12, 13, 14, 15, 16, 17, 18, 19, 20, 74, 75, 76, 77, 73] (by decide +kernel) (by decide +kernel)) (goodIn_sub (fun _ h => List.mem_cons_of_mem _ (List.mem_append_right _ h)) (by decide +kernel))
set_option maxRecDepth 20000 in
theorem gX1_copyFrom_X3_copyFrom : GoodIn wsX1_copyFrom (wsV RX1 77 RX3 yX3_copyFrom wsX3_copyFrom) := goodIn_app (goodIn_of _ (by decide +kernel)) ggX1_copyFrom_X3_copyFrom
set_option maxRecDepth 20000 in
theorem ggX1_copyFrom_X0_copyFrom : GoodIn wsX1_copyFrom wsX0_copyFrom := goodIn_ca (goodIn_r _ [35, 36, 37, 38, 39, 40, 41, 42, 43, 44, 45, 46, 12, 13, 14, 15, 16, 17, 18, 19, 20, 78, 79, 80, 81, 82, 83, 84, 85, 86, 87, 73] (by decide +kernel) (by decide +kernel)) (goodIn_sub (fun _ h => List.mem_cons_of_mem _ (List.mem_append_right _ h)) (by decide +kernel))
set_option maxRecDepth 20000 in
theorem gX1_copyFrom_X0_copyFrom : GoodIn wsX1_copyFrom (wsV RX1 80 RX0 yX0_copyFrom wsX0_copyFrom) := goodIn_app (goodIn_of _ (by decide +kernel)) ggX1_copyFrom_X0_copyFrom
set_option maxRecDepth 20000 in
theorem ggX1_copyFrom_X2_copyFrom : GoodIn wsX1_copyFrom wsX2_copyFrom := goodIn_ca (goodIn_r _ [51, 52, 53, 54, 55, 56, 57, 58, 59, 60, 61, 62, 12, 13, 14, 15, 16, 17, 18, 19, 20, 88, 89, 90, 91, 92, 93, 94, 95, 96, 97, 73] (by decide +kernel) (by decide +kernel)) (goodIn_sub (fun _ h => List.mem_cons_of_mem _ (List.mem_append_right _ h)) (by decide +kernel))
set_option maxRecDepth 20000 in
theorem gX1_copyFrom_X2_copyFrom : GoodIn wsX1_copyFrom (wsV RX1 83 RX2 yX2_copyFrom wsX2_copyFrom) := goodIn_app (goodIn_of _ (by decide +kernel)) ggX1_copyFrom_X2_copyFrom
theorem dX1_copyFrom_0 : decode cX1_copyFrom 0 = .ok (.aload_n 1, 1) := by decide +kernel
theorem dX1_copyFrom_1 : decode cX1_copyFrom 1 = .ok (.ifnonnull 4, 3) := by decide +kernel
theorem dX1_copyFrom_4 : decode cX1_copyFrom 4 = .ok (.return_, 1) := by decide +kernel
theorem dX1_copyFrom_5 : decode cX1_copyFrom 5 = .ok (.aload_n 0, 1) := by decide +kernel
theorem dX1_copyFrom_6 : decode cX1_copyFrom 6 = .ok (.getfield 14, 3) := by decide +kernel
theorem dX1_copyFrom_9 : decode cX1_copyFrom 9 = .ok (.aload_n 1, 1) := by decide +kernel
theorem dX1_copyFrom_10 : decode cX1_copyFrom 10 = .ok (.getfield 14, 3) := by decide +kernel
theorem dX1_copyFrom_13 : decode cX1_copyFrom 13 = .ok (.invokevirtual 73, 3) := by decide +kernel
theorem dX1_copyFrom_16 : decode cX1_copyFrom 16 = .ok (.aload_n 0, 1) := by decide +kernel
theorem dX1_copyFrom_17 : decode cX1_copyFrom 17 = .ok (.getfield 20, 3) := by decide +kernel
theorem dX1_copyFrom_20 : decode cX1_copyFrom 20 = .ok (.aload_n 1, 1) := by decide +kernel
theorem dX1_copyFrom_21 : decode cX1_copyFrom 21 = .ok (.getfield 20, 3) := by decide +kernel
theorem dX1_copyFrom_24 : decode cX1_copyFrom 24 = .ok (.invokevirtual 73, 3) := by decide +kernel
theorem dX1_copyFrom_27 : decode cX1_copyFrom 27 = .ok (.aload_n 0, 1) := by decide +kernel
theorem dX1_copyFrom_28 : decode cX1_copyFrom 28 = .ok (.getfield 26, 3) := by decide +kernel
theorem dX1_copyFrom_31 : decode cX1_copyFrom 31 = .ok (.aload_n 1, 1) := by decide +kernel
theorem dX1_copyFrom_32 : decode cX1_copyFrom 32 = .ok (.getfield 26, 3) := by decide +kernel
theorem dX1_copyFrom_35 : decode cX1_copyFrom 35 = .ok (.invokevirtual 77, 3) := by decide +kernel
theorem dX1_copyFrom_38 : decode cX1_copyFrom 38 = .ok (.aload_n 0, 1) := by decide +kernel
theorem dX1_copyFrom_39 : decode cX1_copyFrom 39 = .ok (.getfield 33, 3) := by decide +kernel
theorem dX1_copyFrom_42 : decode cX1_copyFrom 42 = .ok (.aload_n 1, 1) := by decide +kernel
theorem dX1_copyFrom_43 : decode cX1_copyFrom 43 = .ok (.getfield 33, 3) := by decide +kernel
theorem dX1_copyFrom_46 : decode cX1_copyFrom 46 = .ok (.invokevirtual 80, 3) := by decide +kernel
theorem dX1_copyFrom_49 : decode cX1_copyFrom 49 = .ok (.aload_n 0, 1) := by decide +kernel
theorem dX1_copyFrom_50 : decode cX1_copyFrom 50 = .ok (.getfield 40, 3) := by decide +kernel
theorem dX1_copyFrom_53 : decode cX1_copyFrom 53 = .ok (.aload_n 1, 1) := by decide +kernel
theorem dX1_copyFrom_54 : decode cX1_copyFrom 54 = .ok (.getfield 40, 3) := by decide +kernel
theorem dX1_copyFrom_57 : decode cX1_copyFrom 57 = .ok (.invokevirtual 83, 3) := by decide +kernel
theorem dX1_copyFrom_60 : decode cX1_copyFrom 60 = .ok (.aload_n 0, 1) := by decide +kernel
theorem dX1_copyFrom_61 : decode cX1_copyFrom 61 = .ok (.aload_n 1, 1) := by decide +kernel
theorem dX1_copyFrom_62 : decode cX1_copyFrom 62 = .ok (.getfield 58, 3) := by decide +kernel
theorem dX1_copyFrom_65 : decode cX1_copyFrom 65 = .ok (.putfield 58, 3) := by decide +kernel
theorem dX1_copyFrom_68 : decode cX1_copyFrom 68 = .ok (.aload_n 0, 1) := by decide +kernel
theorem dX1_copyFrom_69 : decode cX1_copyFrom 69 = .ok (.aload_n 1, 1) := by decide +kernel
theorem dX1_copyFrom_70 : decode cX1_copyFrom 70 = .ok (.getfield 61, 3) := by decide +kernel
theorem dX1_copyFrom_73 : decode cX1_copyFrom 73 = .ok (.putfield 61, 3) := by decide +kernel
theorem dX1_copyFrom_76 : decode cX1_copyFrom 76 = .ok (.aload_n 0, 1) := by decide +kernel
theorem dX1_copyFrom_77 : decode cX1_copyFrom 77 = .ok (.aload_n 1, 1) := by decide +kernel
theorem dX1_copyFrom_78 : decode cX1_copyFrom 78 = .ok (.getfield 64, 3) := by decide +kernel
theorem dX1_copyFrom_81 : decode cX1_copyFrom 81 = .ok (.putfield 64, 3) := by decide +kernel
theorem dX1_copyFrom_84 : decode cX1_copyFrom 84 = .ok (.aload_n 0, 1) := by decide +kernel
theorem dX1_copyFrom_85 : decode cX1_copyFrom 85 = .ok (.aload_n 1, 1) := by decide +kernel
theorem dX1_copyFrom_86 : decode cX1_copyFrom 86 = .ok (.getfield 67, 3) := by decide +kernel
theorem dX1_copyFrom_89 : decode cX1_copyFrom 89 = .ok (.putfield 67, 3) := by decide +kernel
theorem dX1_copyFrom_92 : decode cX1_copyFrom 92 = .ok (.aload_n 0, 1) := by decide +kernel
theorem dX1_copyFrom_93 : decode cX1_copyFrom 93 = .ok (.aload_n 1, 1) := by decide +kernel
theorem dX1_copyFrom_94 : decode cX1_copyFrom 94 = .ok (.getfield 70, 3) := by decide +kernel
theorem dX1_copyFrom_97 : decode cX1_copyFrom 97 = .ok (.putfield 70, 3) := by decide +kernel
theorem dX1_copyFrom_100 : decode cX1_copyFrom 100 = .ok (.return_, 1) := by decide +kernel
theorem dX1_comesLate_0 : decode cX1_comesLate 0 = .ok (.iload_n 1, 1) := by decide +kernel
theorem dX1_comesLate_1 : decode cX1_comesLate 1 = .ok (.i2l, 1) := by decide +kernel
theorem dX1_comesLate_2 : decode cX1_comesLate 2 = .ok (.aload_n 0, 1) := by decide +kernel
theorem dX1_comesLate_3 : decode cX1_comesLate 3 = .ok (.getfield 58, 3) := by decide +kernel
theorem dX1_comesLate_6 : decode cX1_comesLate 6 = .ok (.i2l, 1) := by decide +kernel
theorem dX1_comesLate_7 : decode cX1_comesLate 7 = .ok (.ladd, 1) := by decide +kernel
theorem dX1_comesLate_8 : decode cX1_comesLate 8 = .ok (.iload_n 2, 1) := by decide +kernel
theorem dX1_comesLate_9 : decode cX1_comesLate 9 = .ok (.i2l, 1) := by decide +kernel
theorem dX1_comesLate_10 : decode cX1_comesLate 10 = .ok (.lcmp, 1) := by decide +kernel
theorem dX1_comesLate_11 : decode cX1_comesLate 11 = .ok (.ifCond .ge 7, 3) := by decide +kernel
theorem dX1_comesLate_14 : decode cX1_comesLate 14 = .ok (.iconst 1, 1) := by decide +kernel
theorem dX1_comesLate_15 : decode cX1_comesLate 15 = .ok (.goto 4, 3) := by decide +kernel
theorem dX1_comesLate_18 : decode cX1_comesLate 18 = .ok (.iconst 0, 1) := by decide +kernel
theorem dX1_comesLate_19 : decode cX1_comesLate 19 = .ok (.ireturn, 1) := by decide +kernel
set_option maxRecDepth 20000 in
theorem ggX1_take_X1_comesLate : GoodIn wsX1_take wsX1_comesLate := goodIn_r _ [10, 11, 172, 173, 174, 175, 176, 177, 178, 179, 180, 181] (by decide +kernel) (by decide +kernel)
set_option maxRecDepth 20000 in
theorem gX1_take_X1_comesLate : GoodIn wsX1_take (wsV RX1 86 RX1 yX1_comesLate wsX1_comesLate) := goodIn_app (goodIn_of _ (by decide +kernel)) ggX1_take_X1_comesLate
set_option maxRecDepth 20000 in
theorem ggX1_take_X0_form : GoodIn wsX1_take wsX0_form := goodIn_ca (goodIn_r _ [16, 17, 18, 19, 20, 21, 22, 23, 24, 25, 26, 27, 28, 29, 182, 183, 184, 185, 186, 187, 188, 189, 190, 191, 192] (by decide +kernel) (by decide +kernel)) (goodIn_sub (fun _ h => List.mem_cons_of_mem _ (List.mem_append_right _ h)) (by decide +kernel))
set_option maxRecDepth 20000 in
theorem gX1_take_X0_form : GoodIn wsX1_take (wsV RX1 90 RX0 yX0_form wsX0_form) := goodIn_app (goodIn_of _ (by decide +kernel)) ggX1_take_X0_form
set_option maxRecDepth 20000 in
theorem ggX1_take_X3_keep : GoodIn wsX1_take wsX3_keep := goodIn_ca (goodIn_r _ [34, 35, 36, 37, 38, 39, 40, 41, 27, 42, 29, 43, 44, 45, 46, 47, 48, 49, 50, 51, 52, 25, 26, 28, 193, 194, 195, 196, 192] (by decide +kernel) (by decide +kernel)) (goodIn_sub (fun _ h => List.mem_cons_of_mem _ (List.mem_append_right _ h)) (by decide +kernel))
set_option maxRecDepth 20000 in
theorem gX1_take_X3_keep : GoodIn wsX1_take (wsV RX1 94 RX3 yX3_keep wsX3_keep) := goodIn_app (goodIn_of _ (by decide +kernel)) ggX1_take_X3_keep
set_option maxRecDepth 20000 in
theorem ggX1_take_X1_mergeAll : GoodIn wsX1_take wsX1_mergeAll := goodIn_ca (goodIn_r _ [56, 57, 3, 58, 40, 41, 27, 42, 29, 59, 60, 61, 9, 62, 63, 64, 65, 66, 15, 67, 17, 21, 18, 68, 69, 70, 71, 72, 73, 74, 75, 76, 77, 19, 20, 78, 79, 80, 81, 4, 82, 83, 84, 85, 86, 23, 87, 88, 89, 90, 91, 92, 93, 94, 95, 96, 97, 98, 99, 100, 101, 102, 103, 104, 105, 106, 107, 108, 109, 110, 111, 112, 113, 114, 115, 116, 25, 26, 28, 117, 118, 119, 120, 121, 33, 122, 35, 38, 39, 123, 124, 125, 126, 127, 128, 48, 49, 50, 129, 130, 131, 24, 172, 173, 174, 175, 176, 177, 178, 179, 180, 181, 192, 182, 183, 184, 185, 186, 187, 188, 189, 190, 191, 197, 198, 199, 200, 201, 202, 203, 204, 205, 206, 193, 194, 195, 196] (by decide +kernel) (by decide +kernel)) (goodIn_sub (fun _ h => List.mem_cons_of_mem _ (List.mem_append_right _ h)) (by decide +kernel))
set_option maxRecDepth 20000 in
theorem gX1_take_X1_mergeAll : GoodIn wsX1_take (wsV RX1 98 RX1 yX1_mergeAll wsX1_mergeAll) := goodIn_app (goodIn_of _ (by decide +kernel)) ggX1_take_X1_mergeAll
set_option maxRecDepth 20000 in
theorem ggX1_take_X3_countOf : GoodIn wsX1_take wsX3_countOf := goodIn_ca (goodIn_r _ [135, 35, 38, 39, 40, 41, 27, 42, 29, 193, 194, 195, 196, 192] (by decide +kernel) (by decide +kernel)) (goodIn_sub (fun _ h => List.mem_cons_of_mem _ (List.mem_append_right _ h)) (by decide +kernel))
set_option maxRecDepth 20000 in
theorem gX1_take_X3_countOf : GoodIn wsX1_take (wsV RX1 101 RX3 yX3_countOf wsX3_countOf) := goodIn_app (goodIn_of _ (by decide +kernel)) ggX1_take_X3_countOf
set_option maxRecDepth 20000 in
theorem ggX1_take_X1_letFire : GoodIn wsX1_take wsX1_letFire := goodIn_ca (goodIn_r _ [139, 3, 91, 140, 141, 95, 142, 143, 144, 9, 145, 4, 146, 58, 40, 41, 27, 42, 29, 147, 148, 149, 33, 150, 35, 38, 37, 151, 152, 153, 154, 155, 39, 156, 157, 158, 159, 130, 49, 131, 160, 48, 50, 83, 84, 85, 15, 86, 23, 68, 161, 162, 163, 164, 165, 19, 166, 20, 167, 87, 88, 89, 90, 92, 93, 94, 96, 97, 98, 99, 100, 101, 102, 103, 104, 105, 106, 107, 108, 109, 110, 111, 112, 113, 114, 115, 116, 25, 26, 28, 117, 118, 168, 169, 170, 171, 22, 24, 172, 173, 174, 175, 176, 177, 178, 179, 180, 181, 182, 183, 184, 185, 186, 187, 188, 189, 190, 191, 192, 193, 194, 195, 196, 197, 198, 199, 200, 201, 202, 203, 204, 205, 206] (by decide +kernel) (by decide +kernel)) (goodIn_sub (fun _ h => List.mem_cons_of_mem _ (List.mem_append_right _ h)) (by decide +kernel))
set_option maxRecDepth 20000 in
theorem gX1_take_X1_letFire : GoodIn wsX1_take (wsV RX1 105 RX1 yX1_letFire wsX1_letFire) := goodIn_app (goodIn_of _ (by decide +kernel)) ggX1_take_X1_letFire
theorem dX1_take_0 : decode cX1_take 0 = .ok (.aload_n 0, 1) := by decide +kernel
theorem dX1_take_1 : decode cX1_take 1 = .ok (.iload_n 2, 1) := by decide +kernel
theorem dX1_take_2 : decode cX1_take 2 = .ok (.aload_n 0, 1) := by decide +kernel
theorem dX1_take_3 : decode cX1_take 3 = .ok (.getfield 64, 3) := by decide +kernel
theorem dX1_take_6 : decode cX1_take 6 = .ok (.invokevirtual 86, 3) := by decide +kernel
theorem dX1_take_9 : decode cX1_take 9 = .ok (.ifCond .eq 15, 3) := by decide +kernel
theorem dX1_take_12 : decode cX1_take 12 = .ok (.aload_n 0, 1) := by decide +kernel
theorem dX1_take_13 : decode cX1_take 13 = .ok (.dup, 1) := by decide +kernel
theorem dX1_take_14 : decode cX1_take 14 = .ok (.getfield 67, 3) := by decide +kernel
theorem dX1_take_17 : decode cX1_take 17 = .ok (.iconst 1, 1) := by decide +kernel
theorem dX1_take_18 : decode cX1_take 18 = .ok (.iadd, 1) := by decide +kernel
theorem dX1_take_19 : decode cX1_take 19 = .ok (.putfield 67, 3) := by decide +kernel
theorem dX1_take_22 : decode cX1_take 22 = .ok (.iconst (-1), 1) := by decide +kernel
theorem dX1_take_23 : decode cX1_take 23 = .ok (.ireturn, 1) := by decide +kernel
theorem dX1_take_24 : decode cX1_take 24 = .ok (.aload_n 0, 1) := by decide +kernel
theorem dX1_take_25 : decode cX1_take 25 = .ok (.getfield 33, 3) := by decide +kernel
theorem dX1_take_28 : decode cX1_take 28 = .ok (.iload_n 1, 1) := by decide +kernel
theorem dX1_take_29 : decode cX1_take 29 = .ok (.iload_n 2, 1) := by decide +kernel
theorem dX1_take_30 : decode cX1_take 30 = .ok (.invokevirtual 90, 3) := by decide +kernel
theorem dX1_take_33 : decode cX1_take 33 = .ok (.istore 4, 2) := by decide +kernel
theorem dX1_take_35 : decode cX1_take 35 = .ok (.aload_n 0, 1) := by decide +kernel
theorem dX1_take_36 : decode cX1_take 36 = .ok (.getfield 26, 3) := by decide +kernel
theorem dX1_take_39 : decode cX1_take 39 = .ok (.iload_n 2, 1) := by decide +kernel
theorem dX1_take_40 : decode cX1_take 40 = .ok (.iload_n 3, 1) := by decide +kernel
theorem dX1_take_41 : decode cX1_take 41 = .ok (.iload 4, 2) := by decide +kernel
theorem dX1_take_43 : decode cX1_take 43 = .ok (.invokevirtual 94, 3) := by decide +kernel
theorem dX1_take_46 : decode cX1_take 46 = .ok (.aload_n 0, 1) := by decide +kernel
theorem dX1_take_47 : decode cX1_take 47 = .ok (.iload_n 1, 1) := by decide +kernel
theorem dX1_take_48 : decode cX1_take 48 = .ok (.iload 4, 2) := by decide +kernel
theorem dX1_take_50 : decode cX1_take 50 = .ok (.invokevirtual 98, 3) := by decide +kernel
theorem dX1_take_53 : decode cX1_take 53 = .ok (.istore 5, 2) := by decide +kernel
theorem dX1_take_55 : decode cX1_take 55 = .ok (.aload_n 0, 1) := by decide +kernel
theorem dX1_take_56 : decode cX1_take 56 = .ok (.getfield 61, 3) := by decide +kernel
theorem dX1_take_59 : decode cX1_take 59 = .ok (.ifCond .le 28, 3) := by decide +kernel
theorem dX1_take_62 : decode cX1_take 62 = .ok (.aload_n 0, 1) := by decide +kernel
theorem dX1_take_63 : decode cX1_take 63 = .ok (.getfield 26, 3) := by decide +kernel
theorem dX1_take_66 : decode cX1_take 66 = .ok (.iload 5, 2) := by decide +kernel
theorem dX1_take_68 : decode cX1_take 68 = .ok (.invokevirtual 101, 3) := by decide +kernel
theorem dX1_take_71 : decode cX1_take 71 = .ok (.aload_n 0, 1) := by decide +kernel
theorem dX1_take_72 : decode cX1_take 72 = .ok (.getfield 61, 3) := by decide +kernel
theorem dX1_take_75 : decode cX1_take 75 = .ok (.irem, 1) := by decide +kernel
theorem dX1_take_76 : decode cX1_take 76 = .ok (.ifCond .ne 11, 3) := by decide +kernel
theorem dX1_take_79 : decode cX1_take 79 = .ok (.aload_n 0, 1) := by decide +kernel
theorem dX1_take_80 : decode cX1_take 80 = .ok (.iload 5, 2) := by decide +kernel
theorem dX1_take_82 : decode cX1_take 82 = .ok (.iconst 0, 1) := by decide +kernel
theorem dX1_take_83 : decode cX1_take 83 = .ok (.invokevirtual 105, 3) := by decide +kernel
theorem dX1_take_86 : decode cX1_take 86 = .ok (.pop, 1) := by decide +kernel
theorem dX1_take_87 : decode cX1_take 87 = .ok (.iload 5, 2) := by decide +kernel
theorem dX1_take_89 : decode cX1_take 89 = .ok (.ireturn, 1) := by decide +kernel
set_option maxRecDepth 20000 in
theorem ggX1_mergeAll_X4_at : GoodIn wsX1_mergeAll wsX4_at := goodIn_ca (goodIn_r _ [7, 8, 112] (by decide +kernel) (by decide +kernel)) (goodIn_sub (fun _ h => List.mem_cons_of_mem _ (List.mem_append_right _ h)) (by decide +kernel))
set_option maxRecDepth 20000 in
theorem gX1_mergeAll_X4_at : GoodIn wsX1_mergeAll (wsV RX1 108 RX4 yX4_at wsX4_at) := goodIn_app (goodIn_of _ (by decide +kernel)) ggX1_mergeAll_X4_at
set_option maxRecDepth 20000 in
theorem ggX1_mergeAll_X1_lowerOfNextPair : GoodIn wsX1_mergeAll wsX1_lowerOfNextPair := goodIn_ca (goodIn_r _ [13, 2, 14, 15, 16, 17, 18, 19, 20, 21, 22, 23, 4, 5, 6, 7, 8, 24, 25, 26, 27, 28, 29, 30, 31, 32, 33, 34, 102, 103, 104, 105, 106, 107, 108, 109, 110, 111, 113, 114, 115, 116, 117, 118, 119, 120, 121, 122, 112] (by decide +kernel) (by decide +kernel)) (goodIn_sub (fun _ h => List.mem_cons_of_mem _ (List.mem_append_right _ h)) (by decide +kernel))
set_option maxRecDepth 20000 in
theorem gX1_mergeAll_X1_lowerOfNextPair : GoodIn wsX1_mergeAll (wsV RX1 111 RX1 yX1_lowerOfNextPair wsX1_lowerOfNextPair) := goodIn_app (goodIn_of _ (by decide +kernel)) ggX1_mergeAll_X1_lowerOfNextPair
set_option maxRecDepth 20000 in
theorem ggX1_mergeAll_X0_partnerOf : GoodIn wsX1_mergeAll wsX0_partnerOf := goodIn_ca (goodIn_r _ [27, 20, 22, 23, 4, 5, 6, 7, 8, 28, 16, 17, 18, 19, 21, 29, 30, 31, 32, 33, 34, 113, 114, 115, 116, 117, 118, 119, 120, 121, 122, 112] (by decide +kernel) (by decide +kernel)) (goodIn_sub (fun _ h => List.mem_cons_of_mem _ (List.mem_append_right _ h)) (by decide +kernel))
set_option maxRecDepth 20000 in
theorem gX1_mergeAll_X0_partnerOf : GoodIn wsX1_mergeAll (wsV RX1 114 RX0 yX0_partnerOf wsX0_partnerOf) := goodIn_app (goodIn_of _ (by decide +kernel)) ggX1_mergeAll_X0_partnerOf
set_option maxRecDepth 20000 in
theorem ggX1_mergeAll_X1_merge : GoodIn wsX1_mergeAll wsX1_merge := goodIn_ca (goodIn_r _ [38, 2, 39, 40, 41, 42, 43, 18, 44, 45, 23, 4, 5, 6, 7, 8, 46, 47, 48, 12, 49, 50, 51, 52, 53, 54, 55, 3, 56, 57, 58, 59, 60, 61, 62, 63, 64, 65, 66, 67, 68, 69, 70, 71, 72, 73, 74, 75, 76, 77, 78, 79, 80, 81, 82, 83, 84, 85, 86, 87, 88, 89, 90, 91, 92, 93, 33, 94, 95, 96, 97, 34, 98, 99, 100, 21, 101, 102, 103, 104, 105, 106, 107, 108, 109, 110, 111, 113, 114, 115, 116, 117, 118, 119, 120, 121, 122, 112, 123, 124, 125, 126, 127, 128, 129, 130, 131, 132, 133, 134, 135, 136] (by decide +kernel) (by decide +kernel)) (goodIn_sub (fun _ h => List.mem_cons_of_mem _ (List.mem_append_right _ h)) (by decide +kernel))
set_option maxRecDepth 20000 in
theorem gX1_mergeAll_X1_merge : GoodIn wsX1_mergeAll (wsV RX1 117 RX1 yX1_merge wsX1_merge) := goodIn_app (goodIn_of _ (by decide +kernel)) ggX1_mergeAll_X1_merge
theorem dX1_mergeAll_0 : decode cX1_mergeAll 0 = .ok (.iload_n 2, 1) := by decide +kernel
theorem dX1_mergeAll_1 : decode cX1_mergeAll 1 = .ok (.istore_n 3, 1) := by decide +kernel
theorem dX1_mergeAll_2 : decode cX1_mergeAll 2 = .ok (.aload_n 0, 1) := by decide +kernel
theorem dX1_mergeAll_3 : decode cX1_mergeAll 3 = .ok (.getfield 14, 3) := by decide +kernel
theorem dX1_mergeAll_6 : decode cX1_mergeAll 6 = .ok (.iload_n 1, 1) := by decide +kernel
theorem dX1_mergeAll_7 : decode cX1_mergeAll 7 = .ok (.invokevirtual 108, 3) := by decide +kernel
theorem dX1_mergeAll_10 : decode cX1_mergeAll 10 = .ok (.istore 4, 2) := by decide +kernel
theorem dX1_mergeAll_12 : decode cX1_mergeAll 12 = .ok (.iconst 0, 1) := by decide +kernel
theorem dX1_mergeAll_13 : decode cX1_mergeAll 13 = .ok (.istore 5, 2) := by decide +kernel
theorem dX1_mergeAll_15 : decode cX1_mergeAll 15 = .ok (.iload 5, 2) := by decide +kernel
theorem dX1_mergeAll_17 : decode cX1_mergeAll 17 = .ok (.bipush 100, 2) := by decide +kernel
theorem dX1_mergeAll_19 : decode cX1_mergeAll 19 = .ok (.if_icmp .ge 60, 3) := by decide +kernel
theorem dX1_mergeAll_22 : decode cX1_mergeAll 22 = .ok (.aload_n 0, 1) := by decide +kernel
theorem dX1_mergeAll_23 : decode cX1_mergeAll 23 = .ok (.iload_n 1, 1) := by decide +kernel
theorem dX1_mergeAll_24 : decode cX1_mergeAll 24 = .ok (.iload 4, 2) := by decide +kernel
theorem dX1_mergeAll_26 : decode cX1_mergeAll 26 = .ok (.invokevirtual 111, 3) := by decide +kernel
theorem dX1_mergeAll_29 : decode cX1_mergeAll 29 = .ok (.istore 6, 2) := by decide +kernel
theorem dX1_mergeAll_31 : decode cX1_mergeAll 31 = .ok (.iload 6, 2) := by decide +kernel
theorem dX1_mergeAll_33 : decode cX1_mergeAll 33 = .ok (.iconst (-1), 1) := by decide +kernel
theorem dX1_mergeAll_34 : decode cX1_mergeAll 34 = .ok (.if_icmp .ne 5, 3) := by decide +kernel
theorem dX1_mergeAll_37 : decode cX1_mergeAll 37 = .ok (.iload_n 3, 1) := by decide +kernel
theorem dX1_mergeAll_38 : decode cX1_mergeAll 38 = .ok (.ireturn, 1) := by decide +kernel
theorem dX1_mergeAll_39 : decode cX1_mergeAll 39 = .ok (.aload_n 0, 1) := by decide +kernel
theorem dX1_mergeAll_40 : decode cX1_mergeAll 40 = .ok (.getfield 33, 3) := by decide +kernel
theorem dX1_mergeAll_43 : decode cX1_mergeAll 43 = .ok (.iload 6, 2) := by decide +kernel
theorem dX1_mergeAll_45 : decode cX1_mergeAll 45 = .ok (.iload 4, 2) := by decide +kernel
theorem dX1_mergeAll_47 : decode cX1_mergeAll 47 = .ok (.invokevirtual 114, 3) := by decide +kernel
theorem dX1_mergeAll_50 : decode cX1_mergeAll 50 = .ok (.istore 7, 2) := by decide +kernel
theorem dX1_mergeAll_52 : decode cX1_mergeAll 52 = .ok (.aload_n 0, 1) := by decide +kernel
theorem dX1_mergeAll_53 : decode cX1_mergeAll 53 = .ok (.iload 6, 2) := by decide +kernel
theorem dX1_mergeAll_55 : decode cX1_mergeAll 55 = .ok (.iload 7, 2) := by decide +kernel
theorem dX1_mergeAll_57 : decode cX1_mergeAll 57 = .ok (.invokevirtual 117, 3) := by decide +kernel
theorem dX1_mergeAll_60 : decode cX1_mergeAll 60 = .ok (.iload_n 3, 1) := by decide +kernel
theorem dX1_mergeAll_61 : decode cX1_mergeAll 61 = .ok (.iload 7, 2) := by decide +kernel
theorem dX1_mergeAll_63 : decode cX1_mergeAll 63 = .ok (.if_icmp .ne 8, 3) := by decide +kernel
theorem dX1_mergeAll_66 : decode cX1_mergeAll 66 = .ok (.iload 6, 2) := by decide +kernel
theorem dX1_mergeAll_68 : decode cX1_mergeAll 68 = .ok (.goto 4, 3) := by decide +kernel
theorem dX1_mergeAll_71 : decode cX1_mergeAll 71 = .ok (.iload_n 3, 1) := by decide +kernel
theorem dX1_mergeAll_72 : decode cX1_mergeAll 72 = .ok (.istore_n 3, 1) := by decide +kernel
theorem dX1_mergeAll_73 : decode cX1_mergeAll 73 = .ok (.iinc 5 1, 3) := by decide +kernel
theorem dX1_mergeAll_76 : decode cX1_mergeAll 76 = .ok (.goto (-61), 3) := by decide +kernel
theorem dX1_mergeAll_79 : decode cX1_mergeAll 79 = .ok (.iload_n 3, 1) := by decide +kernel
theorem dX1_mergeAll_80 : decode cX1_mergeAll 80 = .ok (.ireturn, 1) := by decide +kernel
set_option maxRecDepth 20000 in
theorem ggX1_lowerOfNextPair_X0_isOpenOfKey : GoodIn wsX1_lowerOfNextPair wsX0_isOpenOfKey := goodIn_ca (goodIn_r _ [7, 8, 9, 10, 11, 12, 13, 14, 15, 16, 38, 39, 40, 41, 42, 43, 44, 45, 46, 47, 48] (by decide +kernel) (by decide +kernel)) (goodIn_sub (fun _ h => List.mem_cons_of_mem _ (List.mem_append_right _ h)) (by decide +kernel))
set_option maxRecDepth 20000 in
theorem gX1_lowerOfNextPair_X0_isOpenOfKey : GoodIn wsX1_lowerOfNextPair (wsV RX1 121 RX0 yX0_isOpenOfKey wsX0_isOpenOfKey) := goodIn_app (goodIn_of _ (by decide +kernel)) ggX1_lowerOfNextPair_X0_isOpenOfKey
set_option maxRecDepth 20000 in
theorem ggX1_lowerOfNextPair_X0_partnerOf : GoodIn wsX1_lowerOfNextPair wsX0_partnerOf := goodIn_ca (goodIn_r _ [20, 8, 10, 11, 12, 13, 14, 15, 16, 21, 4, 5, 6, 7, 9, 22, 23, 24, 25, 26, 27, 38, 39, 40, 41, 42, 43, 44, 45, 46, 47, 48] (by decide +kernel) (by decide +kernel)) (goodIn_sub (fun _ h => List.mem_cons_of_mem _ (List.mem_append_right _ h)) (by decide +kernel))
set_option maxRecDepth 20000 in
theorem gX1_lowerOfNextPair_X0_partnerOf : GoodIn wsX1_lowerOfNextPair (wsV RX1 114 RX0 yX0_partnerOf wsX0_partnerOf) := goodIn_app (goodIn_of _ (by decide +kernel)) ggX1_lowerOfNextPair_X0_partnerOf
theorem dX1_lowerOfNextPair_0 : decode cX1_lowerOfNextPair 0 = .ok (.iconst 0, 1) := by decide +kernel
theorem dX1_lowerOfNextPair_1 : decode cX1_lowerOfNextPair 1 = .ok (.istore_n 3, 1) := by decide +kernel
theorem dX1_lowerOfNextPair_2 : decode cX1_lowerOfNextPair 2 = .ok (.iload_n 3, 1) := by decide +kernel
theorem dX1_lowerOfNextPair_3 : decode cX1_lowerOfNextPair 3 = .ok (.aload_n 0, 1) := by decide +kernel
theorem dX1_lowerOfNextPair_4 : decode cX1_lowerOfNextPair 4 = .ok (.getfield 33, 3) := by decide +kernel
theorem dX1_lowerOfNextPair_7 : decode cX1_lowerOfNextPair 7 = .ok (.getfield 54, 3) := by decide +kernel
theorem dX1_lowerOfNextPair_10 : decode cX1_lowerOfNextPair 10 = .ok (.if_icmp .ge 36, 3) := by decide +kernel
theorem dX1_lowerOfNextPair_13 : decode cX1_lowerOfNextPair 13 = .ok (.aload_n 0, 1) := by decide +kernel
theorem dX1_lowerOfNextPair_14 : decode cX1_lowerOfNextPair 14 = .ok (.getfield 33, 3) := by decide +kernel
theorem dX1_lowerOfNextPair_17 : decode cX1_lowerOfNextPair 17 = .ok (.iload_n 3, 1) := by decide +kernel
theorem dX1_lowerOfNextPair_18 : decode cX1_lowerOfNextPair 18 = .ok (.iload_n 1, 1) := by decide +kernel
theorem dX1_lowerOfNextPair_19 : decode cX1_lowerOfNextPair 19 = .ok (.invokevirtual 121, 3) := by decide +kernel
theorem dX1_lowerOfNextPair_22 : decode cX1_lowerOfNextPair 22 = .ok (.ifCond .eq 18, 3) := by decide +kernel
theorem dX1_lowerOfNextPair_25 : decode cX1_lowerOfNextPair 25 = .ok (.aload_n 0, 1) := by decide +kernel
theorem dX1_lowerOfNextPair_26 : decode cX1_lowerOfNextPair 26 = .ok (.getfield 33, 3) := by decide +kernel
theorem dX1_lowerOfNextPair_29 : decode cX1_lowerOfNextPair 29 = .ok (.iload_n 3, 1) := by decide +kernel
theorem dX1_lowerOfNextPair_30 : decode cX1_lowerOfNextPair 30 = .ok (.iload_n 2, 1) := by decide +kernel
theorem dX1_lowerOfNextPair_31 : decode cX1_lowerOfNextPair 31 = .ok (.invokevirtual 114, 3) := by decide +kernel
theorem dX1_lowerOfNextPair_34 : decode cX1_lowerOfNextPair 34 = .ok (.iconst (-1), 1) := by decide +kernel
theorem dX1_lowerOfNextPair_35 : decode cX1_lowerOfNextPair 35 = .ok (.if_icmp .eq 5, 3) := by decide +kernel
theorem dX1_lowerOfNextPair_38 : decode cX1_lowerOfNextPair 38 = .ok (.iload_n 3, 1) := by decide +kernel
theorem dX1_lowerOfNextPair_39 : decode cX1_lowerOfNextPair 39 = .ok (.ireturn, 1) := by decide +kernel
theorem dX1_lowerOfNextPair_40 : decode cX1_lowerOfNextPair 40 = .ok (.iinc 3 1, 3) := by decide +kernel
theorem dX1_lowerOfNextPair_43 : decode cX1_lowerOfNextPair 43 = .ok (.goto (-41), 3) := by decide +kernel
theorem dX1_lowerOfNextPair_46 : decode cX1_lowerOfNextPair 46 = .ok (.iconst (-1), 1) := by decide +kernel
theorem dX1_lowerOfNextPair_47 : decode cX1_lowerOfNextPair 47 = .ok (.ireturn, 1) := by decide +kernel
set_option maxRecDepth 20000 in
theorem ggX1_merge_X0_hasFired : GoodIn wsX1_merge wsX0_hasFired := goodIn_ca (goodIn_r _ [8, 9, 10, 11, 12, 13, 14, 15, 87, 88, 89, 90, 91, 92, 93, 94, 95, 96, 97] (by decide +kernel) (by decide +kernel)) (goodIn_sub (fun _ h => List.mem_cons_of_mem _ (List.mem_append_right _ h)) (by decide +kernel))
set_option maxRecDepth 20000 in
theorem gX1_merge_X0_hasFired : GoodIn wsX1_merge (wsV RX1 124 RX0 yX0_hasFired wsX0_hasFired) := goodIn_app (goodIn_of _ (by decide +kernel)) ggX1_merge_X0_hasFired
set_option maxRecDepth 20000 in
theorem ggX1_merge_X1_retract : GoodIn wsX1_merge wsX1_retract := goodIn_ca (goodIn_r _ [20, 21, 1, 22, 23, 24, 25, 26, 27, 11, 12, 13, 14, 15, 28, 29, 30, 31, 32, 33, 34, 35, 36, 37, 38, 39, 40, 41, 42, 43, 44, 45, 46, 47, 48, 49, 50, 51, 52, 77, 78, 79, 80, 81, 82, 83, 84, 85, 86, 87, 88, 89, 90, 91, 92, 93, 94, 95, 96, 97, 98, 99, 100, 101, 102, 103, 104, 105, 106, 107] (by decide +kernel) (by decide +kernel)) (goodIn_sub (fun _ h => List.mem_cons_of_mem _ (List.mem_append_right _ h)) (by decide +kernel))
set_option maxRecDepth 20000 in
theorem gX1_merge_X1_retract : GoodIn wsX1_merge (wsV RX1 128 RX1 yX1_retract wsX1_retract) := goodIn_app (goodIn_of _ (by decide +kernel)) ggX1_merge_X1_retract
set_option maxRecDepth 20000 in
theorem ggX1_merge_X3_moveAll : GoodIn wsX1_merge wsX3_moveAll := goodIn_ca (goodIn_r _ [57, 58, 59, 60, 11, 12, 13, 14, 15, 61, 48, 49, 50, 108, 109, 110, 111, 97] (by decide +kernel) (by decide +kernel)) (goodIn_sub (fun _ h => List.mem_cons_of_mem _ (List.mem_append_right _ h)) (by decide +kernel))
set_option maxRecDepth 20000 in
theorem gX1_merge_X3_moveAll : GoodIn wsX1_merge (wsV RX1 131 RX3 yX3_moveAll wsX3_moveAll) := goodIn_app (goodIn_of _ (by decide +kernel)) ggX1_merge_X3_moveAll
set_option maxRecDepth 20000 in
theorem ggX1_merge_X0_swallow : GoodIn wsX1_merge wsX0_swallow := goodIn_ca (goodIn_r _ [65, 66, 67, 68, 69, 70, 71, 72, 73, 74, 75, 10, 11, 12, 13, 14, 15, 76, 48, 49, 50, 87, 88, 89, 90, 91, 92, 93, 94, 95, 96, 97] (by decide +kernel) (by decide +kernel)) (goodIn_sub (fun _ h => List.mem_cons_of_mem _ (List.mem_append_right _ h)) (by decide +kernel))
set_option maxRecDepth 20000 in
theorem gX1_merge_X0_swallow : GoodIn wsX1_merge (wsV RX1 134 RX0 yX0_swallow wsX0_swallow) := goodIn_app (goodIn_of _ (by decide +kernel)) ggX1_merge_X0_swallow
theorem dX1_merge_0 : decode cX1_merge 0 = .ok (.aload_n 0, 1) := by decide +kernel
theorem dX1_merge_1 : decode cX1_merge 1 = .ok (.getfield 33, 3) := by decide +kernel
theorem dX1_merge_4 : decode cX1_merge 4 = .ok (.iload_n 2, 1) := by decide +kernel
theorem dX1_merge_5 : decode cX1_merge 5 = .ok (.invokevirtual 124, 3) := by decide +kernel
theorem dX1_merge_8 : decode cX1_merge 8 = .ok (.ifCond .eq 8, 3) := by decide +kernel
theorem dX1_merge_11 : decode cX1_merge 11 = .ok (.aload_n 0, 1) := by decide +kernel
theorem dX1_merge_12 : decode cX1_merge 12 = .ok (.iload_n 2, 1) := by decide +kernel
theorem dX1_merge_13 : decode cX1_merge 13 = .ok (.invokevirtual 128, 3) := by decide +kernel
theorem dX1_merge_16 : decode cX1_merge 16 = .ok (.aload_n 0, 1) := by decide +kernel
theorem dX1_merge_17 : decode cX1_merge 17 = .ok (.getfield 26, 3) := by decide +kernel
theorem dX1_merge_20 : decode cX1_merge 20 = .ok (.iload_n 2, 1) := by decide +kernel
theorem dX1_merge_21 : decode cX1_merge 21 = .ok (.iload_n 1, 1) := by decide +kernel
theorem dX1_merge_22 : decode cX1_merge 22 = .ok (.invokevirtual 131, 3) := by decide +kernel
theorem dX1_merge_25 : decode cX1_merge 25 = .ok (.aload_n 0, 1) := by decide +kernel
theorem dX1_merge_26 : decode cX1_merge 26 = .ok (.getfield 33, 3) := by decide +kernel
theorem dX1_merge_29 : decode cX1_merge 29 = .ok (.iload_n 1, 1) := by decide +kernel
theorem dX1_merge_30 : decode cX1_merge 30 = .ok (.iload_n 2, 1) := by decide +kernel
theorem dX1_merge_31 : decode cX1_merge 31 = .ok (.invokevirtual 134, 3) := by decide +kernel
theorem dX1_merge_34 : decode cX1_merge 34 = .ok (.aload_n 0, 1) := by decide +kernel
theorem dX1_merge_35 : decode cX1_merge 35 = .ok (.dup, 1) := by decide +kernel
theorem dX1_merge_36 : decode cX1_merge 36 = .ok (.getfield 70, 3) := by decide +kernel
theorem dX1_merge_39 : decode cX1_merge 39 = .ok (.iconst 1, 1) := by decide +kernel
theorem dX1_merge_40 : decode cX1_merge 40 = .ok (.iadd, 1) := by decide +kernel
theorem dX1_merge_41 : decode cX1_merge 41 = .ok (.putfield 70, 3) := by decide +kernel
theorem dX1_merge_44 : decode cX1_merge 44 = .ok (.return_, 1) := by decide +kernel
set_option maxRecDepth 20000 in
theorem ggX1_resultOf_X4_at : GoodIn wsX1_resultOf wsX4_at := goodIn_ca (goodIn_r _ [9, 10, 55] (by decide +kernel) (by decide +kernel)) (goodIn_sub (fun _ h => List.mem_cons_of_mem _ (List.mem_append_right _ h)) (by decide +kernel))
set_option maxRecDepth 20000 in
theorem gX1_resultOf_X4_at : GoodIn wsX1_resultOf (wsV RX1 108 RX4 yX4_at wsX4_at) := goodIn_app (goodIn_of _ (by decide +kernel)) ggX1_resultOf_X4_at
set_option maxRecDepth 20000 in
theorem ggX1_resultOf_X3_fold : GoodIn wsX1_resultOf wsX3_fold := goodIn_ca (goodIn_r _ [15, 16, 17, 18, 19, 20, 14, 21, 22, 23, 24, 6, 7, 8, 9, 10, 25, 26, 27, 28, 29, 30, 31, 32, 33, 34, 56, 57, 58, 59, 55] (by decide +kernel) (by decide +kernel)) (goodIn_sub (fun _ h => List.mem_cons_of_mem _ (List.mem_append_right _ h)) (by decide +kernel))
set_option maxRecDepth 20000 in
theorem gX1_resultOf_X3_fold : GoodIn wsX1_resultOf (wsV RX1 140 RX3 yX3_fold wsX3_fold) := goodIn_app (goodIn_of _ (by decide +kernel)) ggX1_resultOf_X3_fold
theorem dX1_resultOf_0 : decode cX1_resultOf 0 = .ok (.aload_n 0, 1) := by decide +kernel
theorem dX1_resultOf_1 : decode cX1_resultOf 1 = .ok (.getfield 26, 3) := by decide +kernel
theorem dX1_resultOf_4 : decode cX1_resultOf 4 = .ok (.iload_n 1, 1) := by decide +kernel
theorem dX1_resultOf_5 : decode cX1_resultOf 5 = .ok (.aload_n 0, 1) := by decide +kernel
theorem dX1_resultOf_6 : decode cX1_resultOf 6 = .ok (.getfield 20, 3) := by decide +kernel
theorem dX1_resultOf_9 : decode cX1_resultOf 9 = .ok (.aload_n 0, 1) := by decide +kernel
theorem dX1_resultOf_10 : decode cX1_resultOf 10 = .ok (.getfield 33, 3) := by decide +kernel
theorem dX1_resultOf_13 : decode cX1_resultOf 13 = .ok (.getfield 137, 3) := by decide +kernel
theorem dX1_resultOf_16 : decode cX1_resultOf 16 = .ok (.iload_n 1, 1) := by decide +kernel
theorem dX1_resultOf_17 : decode cX1_resultOf 17 = .ok (.invokevirtual 108, 3) := by decide +kernel
theorem dX1_resultOf_20 : decode cX1_resultOf 20 = .ok (.invokevirtual 108, 3) := by decide +kernel
theorem dX1_resultOf_23 : decode cX1_resultOf 23 = .ok (.invokevirtual 140, 3) := by decide +kernel
theorem dX1_resultOf_26 : decode cX1_resultOf 26 = .ok (.ireturn, 1) := by decide +kernel
set_option maxRecDepth 20000 in
theorem ggX1_letFire_X1_resultOf : GoodIn wsX1_letFire wsX1_resultOf := goodIn_ca (goodIn_r _ [10, 11, 12, 1, 5, 13, 14, 15, 16, 17, 18, 19, 20, 21, 22, 23, 24, 25, 26, 27, 28, 29, 30, 31, 32, 33, 34, 35, 36, 37, 38, 39, 40, 41, 42, 98, 99, 100, 101, 102, 103, 104, 105, 106, 107, 108, 109, 110, 111, 112, 113, 114, 115, 116, 117, 118, 119, 120, 121, 122] (by decide +kernel) (by decide +kernel)) (goodIn_sub (fun _ h => List.mem_cons_of_mem _ (List.mem_append_right _ h)) (by decide +kernel))
set_option maxRecDepth 20000 in
theorem gX1_letFire_X1_resultOf : GoodIn wsX1_letFire (wsV RX1 143 RX1 yX1_resultOf wsX1_resultOf) := goodIn_app (goodIn_of _ (by decide +kernel)) ggX1_letFire_X1_resultOf
set_option maxRecDepth 20000 in
theorem ggX1_letFire_X0_hasFired : GoodIn wsX1_letFire wsX0_hasFired := goodIn_ca (goodIn_r _ [47, 48, 49, 14, 15, 16, 17, 18, 108, 109, 110, 111, 112, 113, 114, 115, 116, 117, 118] (by decide +kernel) (by decide +kernel)) (goodIn_sub (fun _ h => List.mem_cons_of_mem _ (List.mem_append_right _ h)) (by decide +kernel))
set_option maxRecDepth 20000 in
theorem gX1_letFire_X0_hasFired : GoodIn wsX1_letFire (wsV RX1 124 RX0 yX0_hasFired wsX0_hasFired) := goodIn_app (goodIn_of _ (by decide +kernel)) ggX1_letFire_X0_hasFired
set_option maxRecDepth 20000 in
theorem ggX1_letFire_X0_differsFromFired : GoodIn wsX1_letFire wsX0_differsFromFired := goodIn_ca (goodIn_r _ [53, 54, 55, 56, 57, 58, 49, 14, 15, 16, 17, 18, 108, 109, 110, 111, 112, 113, 114, 115, 116, 117, 118] (by decide +kernel) (by decide +kernel)) (goodIn_sub (fun _ h => List.mem_cons_of_mem _ (List.mem_append_right _ h)) (by decide +kernel))
set_option maxRecDepth 20000 in
theorem gX1_letFire_X0_differsFromFired : GoodIn wsX1_letFire (wsV RX1 146 RX0 yX0_differsFromFired wsX0_differsFromFired) := goodIn_app (goodIn_of _ (by decide +kernel)) ggX1_letFire_X0_differsFromFired
set_option maxRecDepth 20000 in
theorem ggX1_letFire_X1_retract : GoodIn wsX1_letFire wsX1_retract := goodIn_ca (goodIn_r _ [62, 2, 1, 63, 64, 65, 5, 66, 13, 14, 15, 16, 17, 18, 67, 68, 69, 70, 71, 72, 73, 74, 75, 76, 77, 78, 79, 80, 81, 82, 83, 84, 85, 86, 87, 88, 89, 90, 91, 98, 99, 100, 101, 102, 103, 104, 105, 106, 107, 108, 109, 110, 111, 112, 113, 114, 115, 116, 117, 118, 123, 124, 125, 126, 127, 128, 129, 130, 131, 132] (by decide +kernel) (by decide +kernel)) (goodIn_sub (fun _ h => List.mem_cons_of_mem _ (List.mem_append_right _ h)) (by decide +kernel))
set_option maxRecDepth 20000 in
theorem gX1_letFire_X1_retract : GoodIn wsX1_letFire (wsV RX1 128 RX1 yX1_retract wsX1_retract) := goodIn_app (goodIn_of _ (by decide +kernel)) ggX1_letFire_X1_retract
set_option maxRecDepth 20000 in
theorem ggX1_letFire_X4_at : GoodIn wsX1_letFire wsX4_at := goodIn_ca (goodIn_r _ [17, 18, 118] (by decide +kernel) (by decide +kernel)) (goodIn_sub (fun _ h => List.mem_cons_of_mem _ (List.mem_append_right _ h)) (by decide +kernel))
set_option maxRecDepth 20000 in
theorem gX1_letFire_X4_at : GoodIn wsX1_letFire (wsV RX1 108 RX4 yX4_at wsX4_at) := goodIn_app (goodIn_of _ (by decide +kernel)) ggX1_letFire_X4_at
set_option maxRecDepth 20000 in
theorem ggX1_letFire_X2_enter : GoodIn wsX1_letFire wsX2_enter := goodIn_ca (goodIn_r _ [71, 72, 73, 74, 75, 76, 77, 78, 79, 80, 81, 82, 83, 84, 70, 85, 86, 87, 88, 16, 89, 18, 90, 14, 15, 17, 123, 124, 125, 126, 127, 128, 129, 130, 131, 132, 118] (by decide +kernel) (by decide +kernel)) (goodIn_sub (fun _ h => List.mem_cons_of_mem _ (List.mem_append_right _ h)) (by decide +kernel))
set_option maxRecDepth 20000 in
theorem gX1_letFire_X2_enter : GoodIn wsX1_letFire (wsV RX1 155 RX2 yX2_enter wsX2_enter) := goodIn_app (goodIn_of _ (by decide +kernel)) ggX1_letFire_X2_enter
set_option maxRecDepth 20000 in
theorem ggX1_letFire_X0_noteFired : GoodIn wsX1_letFire wsX0_noteFired := goodIn_ca (goodIn_r _ [95, 48, 54, 56, 55, 58, 57, 96, 97, 87, 88, 16, 89, 18, 49, 14, 15, 17, 108, 109, 110, 111, 112, 113, 114, 115, 116, 117, 118] (by decide +kernel) (by decide +kernel)) (goodIn_sub (fun _ h => List.mem_cons_of_mem _ (List.mem_append_right _ h)) (by decide +kernel))
set_option maxRecDepth 20000 in
theorem gX1_letFire_X0_noteFired : GoodIn wsX1_letFire (wsV RX1 159 RX0 yX0_noteFired wsX0_noteFired) := goodIn_app (goodIn_of _ (by decide +kernel)) ggX1_letFire_X0_noteFired
theorem dX1_letFire_0 : decode cX1_letFire 0 = .ok (.aload_n 0, 1) := by decide +kernel
theorem dX1_letFire_1 : decode cX1_letFire 1 = .ok (.iload_n 1, 1) := by decide +kernel
theorem dX1_letFire_2 : decode cX1_letFire 2 = .ok (.invokevirtual 143, 3) := by decide +kernel
theorem dX1_letFire_5 : decode cX1_letFire 5 = .ok (.istore_n 3, 1) := by decide +kernel
theorem dX1_letFire_6 : decode cX1_letFire 6 = .ok (.iconst 1, 1) := by decide +kernel
theorem dX1_letFire_7 : decode cX1_letFire 7 = .ok (.istore 4, 2) := by decide +kernel
theorem dX1_letFire_9 : decode cX1_letFire 9 = .ok (.aload_n 0, 1) := by decide +kernel
theorem dX1_letFire_10 : decode cX1_letFire 10 = .ok (.getfield 33, 3) := by decide +kernel
theorem dX1_letFire_13 : decode cX1_letFire 13 = .ok (.iload_n 1, 1) := by decide +kernel
theorem dX1_letFire_14 : decode cX1_letFire 14 = .ok (.invokevirtual 124, 3) := by decide +kernel
theorem dX1_letFire_17 : decode cX1_letFire 17 = .ok (.ifCond .eq 32, 3) := by decide +kernel
theorem dX1_letFire_20 : decode cX1_letFire 20 = .ok (.aload_n 0, 1) := by decide +kernel
theorem dX1_letFire_21 : decode cX1_letFire 21 = .ok (.getfield 33, 3) := by decide +kernel
theorem dX1_letFire_24 : decode cX1_letFire 24 = .ok (.iload_n 1, 1) := by decide +kernel
theorem dX1_letFire_25 : decode cX1_letFire 25 = .ok (.iload_n 3, 1) := by decide +kernel
theorem dX1_letFire_26 : decode cX1_letFire 26 = .ok (.invokevirtual 146, 3) := by decide +kernel
theorem dX1_letFire_29 : decode cX1_letFire 29 = .ok (.ifCond .eq 14, 3) := by decide +kernel
theorem dX1_letFire_32 : decode cX1_letFire 32 = .ok (.aload_n 0, 1) := by decide +kernel
theorem dX1_letFire_33 : decode cX1_letFire 33 = .ok (.iload_n 1, 1) := by decide +kernel
theorem dX1_letFire_34 : decode cX1_letFire 34 = .ok (.invokevirtual 128, 3) := by decide +kernel
theorem dX1_letFire_37 : decode cX1_letFire 37 = .ok (.iconst 2, 1) := by decide +kernel
theorem dX1_letFire_38 : decode cX1_letFire 38 = .ok (.istore 4, 2) := by decide +kernel
theorem dX1_letFire_40 : decode cX1_letFire 40 = .ok (.goto 9, 3) := by decide +kernel
theorem dX1_letFire_43 : decode cX1_letFire 43 = .ok (.iload_n 2, 1) := by decide +kernel
theorem dX1_letFire_44 : decode cX1_letFire 44 = .ok (.ifCond .ne 5, 3) := by decide +kernel
theorem dX1_letFire_47 : decode cX1_letFire 47 = .ok (.iconst 0, 1) := by decide +kernel
theorem dX1_letFire_48 : decode cX1_letFire 48 = .ok (.ireturn, 1) := by decide +kernel
theorem dX1_letFire_49 : decode cX1_letFire 49 = .ok (.aload_n 0, 1) := by decide +kernel
theorem dX1_letFire_50 : decode cX1_letFire 50 = .ok (.getfield 40, 3) := by decide +kernel
theorem dX1_letFire_53 : decode cX1_letFire 53 = .ok (.iload_n 2, 1) := by decide +kernel
theorem dX1_letFire_54 : decode cX1_letFire 54 = .ok (.iload_n 1, 1) := by decide +kernel
theorem dX1_letFire_55 : decode cX1_letFire 55 = .ok (.iload_n 3, 1) := by decide +kernel
theorem dX1_letFire_56 : decode cX1_letFire 56 = .ok (.aload_n 0, 1) := by decide +kernel
theorem dX1_letFire_57 : decode cX1_letFire 57 = .ok (.getfield 33, 3) := by decide +kernel
theorem dX1_letFire_60 : decode cX1_letFire 60 = .ok (.getfield 149, 3) := by decide +kernel
theorem dX1_letFire_63 : decode cX1_letFire 63 = .ok (.iload_n 1, 1) := by decide +kernel
theorem dX1_letFire_64 : decode cX1_letFire 64 = .ok (.invokevirtual 108, 3) := by decide +kernel
theorem dX1_letFire_67 : decode cX1_letFire 67 = .ok (.aload_n 0, 1) := by decide +kernel
theorem dX1_letFire_68 : decode cX1_letFire 68 = .ok (.getfield 33, 3) := by decide +kernel
theorem dX1_letFire_71 : decode cX1_letFire 71 = .ok (.getfield 152, 3) := by decide +kernel
theorem dX1_letFire_74 : decode cX1_letFire 74 = .ok (.iload_n 1, 1) := by decide +kernel
theorem dX1_letFire_75 : decode cX1_letFire 75 = .ok (.invokevirtual 108, 3) := by decide +kernel
theorem dX1_letFire_78 : decode cX1_letFire 78 = .ok (.aload_n 0, 1) := by decide +kernel
theorem dX1_letFire_79 : decode cX1_letFire 79 = .ok (.getfield 33, 3) := by decide +kernel
theorem dX1_letFire_82 : decode cX1_letFire 82 = .ok (.getfield 137, 3) := by decide +kernel
theorem dX1_letFire_85 : decode cX1_letFire 85 = .ok (.iload_n 1, 1) := by decide +kernel
theorem dX1_letFire_86 : decode cX1_letFire 86 = .ok (.invokevirtual 108, 3) := by decide +kernel
theorem dX1_letFire_89 : decode cX1_letFire 89 = .ok (.invokevirtual 155, 3) := by decide +kernel
theorem dX1_letFire_92 : decode cX1_letFire 92 = .ok (.aload_n 0, 1) := by decide +kernel
theorem dX1_letFire_93 : decode cX1_letFire 93 = .ok (.getfield 33, 3) := by decide +kernel
theorem dX1_letFire_96 : decode cX1_letFire 96 = .ok (.iload_n 1, 1) := by decide +kernel
theorem dX1_letFire_97 : decode cX1_letFire 97 = .ok (.iload_n 3, 1) := by decide +kernel
theorem dX1_letFire_98 : decode cX1_letFire 98 = .ok (.invokevirtual 159, 3) := by decide +kernel
theorem dX1_letFire_101 : decode cX1_letFire 101 = .ok (.iload 4, 2) := by decide +kernel
theorem dX1_letFire_103 : decode cX1_letFire 103 = .ok (.ireturn, 1) := by decide +kernel
set_option maxRecDepth 20000 in
theorem ggX1_retract_X4_at : GoodIn wsX1_retract wsX4_at := goodIn_ca (goodIn_r _ [12, 13, 59] (by decide +kernel) (by decide +kernel)) (goodIn_sub (fun _ h => List.mem_cons_of_mem _ (List.mem_append_right _ h)) (by decide +kernel))
set_option maxRecDepth 20000 in
theorem gX1_retract_X4_at : GoodIn wsX1_retract (wsV RX1 108 RX4 yX4_at wsX4_at) := goodIn_app (goodIn_of _ (by decide +kernel)) ggX1_retract_X4_at
set_option maxRecDepth 20000 in
theorem ggX1_retract_X2_enter : GoodIn wsX1_retract wsX2_enter := goodIn_ca (goodIn_r _ [18, 19, 20, 21, 22, 23, 24, 25, 26, 27, 28, 29, 30, 31, 17, 32, 33, 34, 35, 11, 36, 13, 37, 9, 10, 12, 60, 61, 62, 63, 64, 65, 66, 67, 68, 69, 59] (by decide +kernel) (by decide +kernel)) (goodIn_sub (fun _ h => List.mem_cons_of_mem _ (List.mem_append_right _ h)) (by decide +kernel))
set_option maxRecDepth 20000 in
theorem gX1_retract_X2_enter : GoodIn wsX1_retract (wsV RX1 155 RX2 yX2_enter wsX2_enter) := goodIn_app (goodIn_of _ (by decide +kernel)) ggX1_retract_X2_enter
set_option maxRecDepth 20000 in
theorem ggX1_retract_X4_put : GoodIn wsX1_retract wsX4_put := goodIn_ca (goodIn_r _ [36, 13, 59] (by decide +kernel) (by decide +kernel)) (goodIn_sub (fun _ h => List.mem_cons_of_mem _ (List.mem_append_right _ h)) (by decide +kernel))
set_option maxRecDepth 20000 in
theorem gX1_retract_X4_put : GoodIn wsX1_retract (wsV RX1 174 RX4 yX4_put wsX4_put) := goodIn_app (goodIn_of _ (by decide +kernel)) ggX1_retract_X4_put
theorem dX1_retract_0 : decode cX1_retract 0 = .ok (.aload_n 0, 1) := by decide +kernel
theorem dX1_retract_1 : decode cX1_retract 1 = .ok (.getfield 40, 3) := by decide +kernel
theorem dX1_retract_4 : decode cX1_retract 4 = .ok (.iconst 2, 1) := by decide +kernel
theorem dX1_retract_5 : decode cX1_retract 5 = .ok (.iload_n 1, 1) := by decide +kernel
theorem dX1_retract_6 : decode cX1_retract 6 = .ok (.aload_n 0, 1) := by decide +kernel
theorem dX1_retract_7 : decode cX1_retract 7 = .ok (.getfield 33, 3) := by decide +kernel
theorem dX1_retract_10 : decode cX1_retract 10 = .ok (.getfield 162, 3) := by decide +kernel
theorem dX1_retract_13 : decode cX1_retract 13 = .ok (.iload_n 1, 1) := by decide +kernel
theorem dX1_retract_14 : decode cX1_retract 14 = .ok (.invokevirtual 108, 3) := by decide +kernel
theorem dX1_retract_17 : decode cX1_retract 17 = .ok (.aload_n 0, 1) := by decide +kernel
theorem dX1_retract_18 : decode cX1_retract 18 = .ok (.getfield 33, 3) := by decide +kernel
theorem dX1_retract_21 : decode cX1_retract 21 = .ok (.getfield 165, 3) := by decide +kernel
theorem dX1_retract_24 : decode cX1_retract 24 = .ok (.iload_n 1, 1) := by decide +kernel
theorem dX1_retract_25 : decode cX1_retract 25 = .ok (.invokevirtual 108, 3) := by decide +kernel
theorem dX1_retract_28 : decode cX1_retract 28 = .ok (.aload_n 0, 1) := by decide +kernel
theorem dX1_retract_29 : decode cX1_retract 29 = .ok (.getfield 33, 3) := by decide +kernel
theorem dX1_retract_32 : decode cX1_retract 32 = .ok (.getfield 168, 3) := by decide +kernel
theorem dX1_retract_35 : decode cX1_retract 35 = .ok (.iload_n 1, 1) := by decide +kernel
theorem dX1_retract_36 : decode cX1_retract 36 = .ok (.invokevirtual 108, 3) := by decide +kernel
theorem dX1_retract_39 : decode cX1_retract 39 = .ok (.aload_n 0, 1) := by decide +kernel
theorem dX1_retract_40 : decode cX1_retract 40 = .ok (.getfield 33, 3) := by decide +kernel
theorem dX1_retract_43 : decode cX1_retract 43 = .ok (.getfield 137, 3) := by decide +kernel
theorem dX1_retract_46 : decode cX1_retract 46 = .ok (.iload_n 1, 1) := by decide +kernel
theorem dX1_retract_47 : decode cX1_retract 47 = .ok (.invokevirtual 108, 3) := by decide +kernel
theorem dX1_retract_50 : decode cX1_retract 50 = .ok (.invokevirtual 155, 3) := by decide +kernel
theorem dX1_retract_53 : decode cX1_retract 53 = .ok (.aload_n 0, 1) := by decide +kernel
theorem dX1_retract_54 : decode cX1_retract 54 = .ok (.getfield 33, 3) := by decide +kernel
theorem dX1_retract_57 : decode cX1_retract 57 = .ok (.getfield 171, 3) := by decide +kernel
theorem dX1_retract_60 : decode cX1_retract 60 = .ok (.iload_n 1, 1) := by decide +kernel
theorem dX1_retract_61 : decode cX1_retract 61 = .ok (.iconst 0, 1) := by decide +kernel
theorem dX1_retract_62 : decode cX1_retract 62 = .ok (.invokevirtual 174, 3) := by decide +kernel
theorem dX1_retract_65 : decode cX1_retract 65 = .ok (.return_, 1) := by decide +kernel
set_option maxRecDepth 20000 in
theorem ggX1_moveMark_X1_firstToClose : GoodIn wsX1_moveMark wsX1_firstToClose := goodIn_ca (goodIn_r _ [8, 2, 9, 10, 11, 12, 13, 14, 15, 16, 17, 18, 19, 20, 21, 22, 23, 24, 25, 26, 7, 27, 28, 29, 30, 31, 121, 122, 123, 124, 125, 126, 127, 128, 129, 130, 131, 132, 133, 134, 135, 136, 137, 138, 139, 140, 141] (by decide +kernel) (by decide +kernel)) (goodIn_sub (fun _ h => List.mem_cons_of_mem _ (List.mem_append_right _ h)) (by decide +kernel))
set_option maxRecDepth 20000 in
theorem gX1_moveMark_X1_firstToClose : GoodIn wsX1_moveMark (wsV RX1 177 RX1 yX1_firstToClose wsX1_firstToClose) := goodIn_app (goodIn_of _ (by decide +kernel)) ggX1_moveMark_X1_firstToClose
set_option maxRecDepth 20000 in
theorem ggX1_moveMark_X1_letFire : GoodIn wsX1_moveMark wsX1_letFire := goodIn_ca (goodIn_r _ [35, 2, 36, 37, 10, 29, 38, 39, 40, 7, 41, 42, 43, 31, 19, 20, 21, 22, 23, 44, 45, 46, 47, 48, 49, 50, 51, 52, 53, 54, 55, 56, 57, 58, 59, 60, 61, 62, 63, 64, 65, 66, 67, 68, 69, 70, 14, 71, 72, 18, 73, 74, 75, 76, 77, 78, 79, 80, 81, 82, 83, 84, 85, 86, 87, 88, 89, 90, 91, 92, 93, 94, 95, 96, 97, 98, 99, 100, 101, 102, 103, 104, 105, 106, 107, 108, 109, 110, 111, 112, 113, 114, 115, 116, 117, 118, 119, 120, 121, 122, 123, 124, 125, 126, 127, 128, 129, 130, 131, 132, 133, 134, 135, 136, 137, 138, 139, 140, 141, 142, 143, 144, 145, 146, 147, 148, 149, 150, 151, 152, 153, 154, 155] (by decide +kernel) (by decide +kernel)) (goodIn_sub (fun _ h => List.mem_cons_of_mem _ (List.mem_append_right _ h)) (by decide +kernel))
set_option maxRecDepth 20000 in
theorem gX1_moveMark_X1_letFire : GoodIn wsX1_moveMark (wsV RX1 105 RX1 yX1_letFire wsX1_letFire) := goodIn_app (goodIn_of _ (by decide +kernel)) ggX1_moveMark_X1_letFire
set_option maxRecDepth 20000 in
theorem ggX1_moveMark_X4_put : GoodIn wsX1_moveMark wsX4_put := goodIn_ca (goodIn_r _ [112, 23, 141] (by decide +kernel) (by decide +kernel)) (goodIn_sub (fun _ h => List.mem_cons_of_mem _ (List.mem_append_right _ h)) (by decide +kernel))
set_option maxRecDepth 20000 in
theorem gX1_moveMark_X4_put : GoodIn wsX1_moveMark (wsV RX1 174 RX4 yX4_put wsX4_put) := goodIn_app (goodIn_of _ (by decide +kernel)) ggX1_moveMark_X4_put
theorem dX1_moveMark_0 : decode cX1_moveMark 0 = .ok (.aload_n 0, 1) := by decide +kernel
theorem dX1_moveMark_1 : decode cX1_moveMark 1 = .ok (.iload_n 1, 1) := by decide +kernel
theorem dX1_moveMark_2 : decode cX1_moveMark 2 = .ok (.putfield 64, 3) := by decide +kernel
theorem dX1_moveMark_5 : decode cX1_moveMark 5 = .ok (.iconst 0, 1) := by decide +kernel
theorem dX1_moveMark_6 : decode cX1_moveMark 6 = .ok (.istore_n 2, 1) := by decide +kernel
theorem dX1_moveMark_7 : decode cX1_moveMark 7 = .ok (.iconst 0, 1) := by decide +kernel
theorem dX1_moveMark_8 : decode cX1_moveMark 8 = .ok (.istore_n 3, 1) := by decide +kernel
theorem dX1_moveMark_9 : decode cX1_moveMark 9 = .ok (.iload_n 3, 1) := by decide +kernel
theorem dX1_moveMark_10 : decode cX1_moveMark 10 = .ok (.bipush 100, 2) := by decide +kernel
theorem dX1_moveMark_12 : decode cX1_moveMark 12 = .ok (.if_icmp .ge 51, 3) := by decide +kernel
theorem dX1_moveMark_15 : decode cX1_moveMark 15 = .ok (.aload_n 0, 1) := by decide +kernel
theorem dX1_moveMark_16 : decode cX1_moveMark 16 = .ok (.aload_n 0, 1) := by decide +kernel
theorem dX1_moveMark_17 : decode cX1_moveMark 17 = .ok (.getfield 64, 3) := by decide +kernel
theorem dX1_moveMark_20 : decode cX1_moveMark 20 = .ok (.invokevirtual 177, 3) := by decide +kernel
theorem dX1_moveMark_23 : decode cX1_moveMark 23 = .ok (.istore 4, 2) := by decide +kernel
theorem dX1_moveMark_25 : decode cX1_moveMark 25 = .ok (.iload 4, 2) := by decide +kernel
theorem dX1_moveMark_27 : decode cX1_moveMark 27 = .ok (.iconst (-1), 1) := by decide +kernel
theorem dX1_moveMark_28 : decode cX1_moveMark 28 = .ok (.if_icmp .ne 5, 3) := by decide +kernel
theorem dX1_moveMark_31 : decode cX1_moveMark 31 = .ok (.iload_n 2, 1) := by decide +kernel
theorem dX1_moveMark_32 : decode cX1_moveMark 32 = .ok (.ireturn, 1) := by decide +kernel
theorem dX1_moveMark_33 : decode cX1_moveMark 33 = .ok (.aload_n 0, 1) := by decide +kernel
theorem dX1_moveMark_34 : decode cX1_moveMark 34 = .ok (.iload 4, 2) := by decide +kernel
theorem dX1_moveMark_36 : decode cX1_moveMark 36 = .ok (.iconst 1, 1) := by decide +kernel
theorem dX1_moveMark_37 : decode cX1_moveMark 37 = .ok (.invokevirtual 105, 3) := by decide +kernel
theorem dX1_moveMark_40 : decode cX1_moveMark 40 = .ok (.pop, 1) := by decide +kernel
theorem dX1_moveMark_41 : decode cX1_moveMark 41 = .ok (.aload_n 0, 1) := by decide +kernel
theorem dX1_moveMark_42 : decode cX1_moveMark 42 = .ok (.getfield 33, 3) := by decide +kernel
theorem dX1_moveMark_45 : decode cX1_moveMark 45 = .ok (.getfield 180, 3) := by decide +kernel
theorem dX1_moveMark_48 : decode cX1_moveMark 48 = .ok (.iload 4, 2) := by decide +kernel
theorem dX1_moveMark_50 : decode cX1_moveMark 50 = .ok (.iconst 1, 1) := by decide +kernel
theorem dX1_moveMark_51 : decode cX1_moveMark 51 = .ok (.invokevirtual 174, 3) := by decide +kernel
theorem dX1_moveMark_54 : decode cX1_moveMark 54 = .ok (.iinc 2 1, 3) := by decide +kernel
theorem dX1_moveMark_57 : decode cX1_moveMark 57 = .ok (.iinc 3 1, 3) := by decide +kernel
theorem dX1_moveMark_60 : decode cX1_moveMark 60 = .ok (.goto (-51), 3) := by decide +kernel
theorem dX1_moveMark_63 : decode cX1_moveMark 63 = .ok (.iload_n 2, 1) := by decide +kernel
theorem dX1_moveMark_64 : decode cX1_moveMark 64 = .ok (.ireturn, 1) := by decide +kernel
set_option maxRecDepth 20000 in
theorem ggX1_closingMark_X4_at : GoodIn wsX1_closingMark wsX4_at := goodIn_ca (goodIn_r _ [10, 11, 32] (by decide +kernel) (by decide +kernel)) (goodIn_sub (fun _ h => List.mem_cons_of_mem _ (List.mem_append_right _ h)) (by decide +kernel))
set_option maxRecDepth 20000 in
theorem gX1_closingMark_X4_at : GoodIn wsX1_closingMark (wsV RX1 108 RX4 yX4_at wsX4_at) := goodIn_app (goodIn_of _ (by decide +kernel)) ggX1_closingMark_X4_at
theorem dX1_closingMark_0 : decode cX1_closingMark 0 = .ok (.aload_n 0, 1) := by decide +kernel
theorem dX1_closingMark_1 : decode cX1_closingMark 1 = .ok (.getfield 33, 3) := by decide +kernel
theorem dX1_closingMark_4 : decode cX1_closingMark 4 = .ok (.getfield 152, 3) := by decide +kernel
theorem dX1_closingMark_7 : decode cX1_closingMark 7 = .ok (.iload_n 1, 1) := by decide +kernel
theorem dX1_closingMark_8 : decode cX1_closingMark 8 = .ok (.invokevirtual 108, 3) := by decide +kernel
theorem dX1_closingMark_11 : decode cX1_closingMark 11 = .ok (.aload_n 0, 1) := by decide +kernel
theorem dX1_closingMark_12 : decode cX1_closingMark 12 = .ok (.getfield 14, 3) := by decide +kernel
theorem dX1_closingMark_15 : decode cX1_closingMark 15 = .ok (.aload_n 0, 1) := by decide +kernel
theorem dX1_closingMark_16 : decode cX1_closingMark 16 = .ok (.getfield 33, 3) := by decide +kernel
theorem dX1_closingMark_19 : decode cX1_closingMark 19 = .ok (.getfield 137, 3) := by decide +kernel
theorem dX1_closingMark_22 : decode cX1_closingMark 22 = .ok (.iload_n 1, 1) := by decide +kernel
theorem dX1_closingMark_23 : decode cX1_closingMark 23 = .ok (.invokevirtual 108, 3) := by decide +kernel
theorem dX1_closingMark_26 : decode cX1_closingMark 26 = .ok (.invokevirtual 108, 3) := by decide +kernel
theorem dX1_closingMark_29 : decode cX1_closingMark 29 = .ok (.iadd, 1) := by decide +kernel
theorem dX1_closingMark_30 : decode cX1_closingMark 30 = .ok (.aload_n 0, 1) := by decide +kernel
theorem dX1_closingMark_31 : decode cX1_closingMark 31 = .ok (.getfield 58, 3) := by decide +kernel
theorem dX1_closingMark_34 : decode cX1_closingMark 34 = .ok (.iadd, 1) := by decide +kernel
theorem dX1_closingMark_35 : decode cX1_closingMark 35 = .ok (.iconst 1, 1) := by decide +kernel
theorem dX1_closingMark_36 : decode cX1_closingMark 36 = .ok (.iadd, 1) := by decide +kernel
theorem dX1_closingMark_37 : decode cX1_closingMark 37 = .ok (.ireturn, 1) := by decide +kernel
set_option maxRecDepth 20000 in
theorem ggX1_leastClosingMark_X0_isOpen : GoodIn wsX1_leastClosingMark wsX0_isOpen := goodIn_ca (goodIn_r _ [12, 13, 14, 15, 16, 17, 18, 19, 20, 41, 42, 43, 44, 45, 46, 47, 48, 49, 50, 51] (by decide +kernel) (by decide +kernel)) (goodIn_sub (fun _ h => List.mem_cons_of_mem _ (List.mem_append_right _ h)) (by decide +kernel))
set_option maxRecDepth 20000 in
theorem gX1_leastClosingMark_X0_isOpen : GoodIn wsX1_leastClosingMark (wsV RX1 186 RX0 yX0_isOpen wsX0_isOpen) := goodIn_app (goodIn_of _ (by decide +kernel)) ggX1_leastClosingMark_X0_isOpen
set_option maxRecDepth 20000 in
theorem ggX1_leastClosingMark_X1_closingMark : GoodIn wsX1_leastClosingMark wsX1_closingMark := goodIn_ca (goodIn_r _ [25, 2, 26, 27, 28, 29, 30, 16, 17, 18, 19, 20, 31, 32, 33, 34, 35, 36, 37, 38, 39, 40, 41, 42, 43, 44, 45, 46, 47, 48, 49, 50, 51] (by decide +kernel) (by decide +kernel)) (goodIn_sub (fun _ h => List.mem_cons_of_mem _ (List.mem_append_right _ h)) (by decide +kernel))
set_option maxRecDepth 20000 in
theorem gX1_leastClosingMark_X1_closingMark : GoodIn wsX1_leastClosingMark (wsV RX1 189 RX1 yX1_closingMark wsX1_closingMark) := goodIn_app (goodIn_of _ (by decide +kernel)) ggX1_leastClosingMark_X1_closingMark
theorem dX1_leastClosingMark_0 : decode cX1_leastClosingMark 0 = .ok (.ldc 185, 2) := by decide +kernel
theorem dX1_leastClosingMark_2 : decode cX1_leastClosingMark 2 = .ok (.istore_n 1, 1) := by decide +kernel
theorem dX1_leastClosingMark_3 : decode cX1_leastClosingMark 3 = .ok (.iconst 0, 1) := by decide +kernel
theorem dX1_leastClosingMark_4 : decode cX1_leastClosingMark 4 = .ok (.istore_n 2, 1) := by decide +kernel
theorem dX1_leastClosingMark_5 : decode cX1_leastClosingMark 5 = .ok (.iload_n 2, 1) := by decide +kernel
theorem dX1_leastClosingMark_6 : decode cX1_leastClosingMark 6 = .ok (.aload_n 0, 1) := by decide +kernel
theorem dX1_leastClosingMark_7 : decode cX1_leastClosingMark 7 = .ok (.getfield 33, 3) := by decide +kernel
theorem dX1_leastClosingMark_10 : decode cX1_leastClosingMark 10 = .ok (.getfield 54, 3) := by decide +kernel
theorem dX1_leastClosingMark_13 : decode cX1_leastClosingMark 13 = .ok (.if_icmp .ge 30, 3) := by decide +kernel
theorem dX1_leastClosingMark_16 : decode cX1_leastClosingMark 16 = .ok (.aload_n 0, 1) := by decide +kernel
theorem dX1_leastClosingMark_17 : decode cX1_leastClosingMark 17 = .ok (.getfield 33, 3) := by decide +kernel
theorem dX1_leastClosingMark_20 : decode cX1_leastClosingMark 20 = .ok (.iload_n 2, 1) := by decide +kernel
theorem dX1_leastClosingMark_21 : decode cX1_leastClosingMark 21 = .ok (.invokevirtual 186, 3) := by decide +kernel
theorem dX1_leastClosingMark_24 : decode cX1_leastClosingMark 24 = .ok (.ifCond .eq 13, 3) := by decide +kernel
theorem dX1_leastClosingMark_27 : decode cX1_leastClosingMark 27 = .ok (.iload_n 1, 1) := by decide +kernel
theorem dX1_leastClosingMark_28 : decode cX1_leastClosingMark 28 = .ok (.aload_n 0, 1) := by decide +kernel
theorem dX1_leastClosingMark_29 : decode cX1_leastClosingMark 29 = .ok (.iload_n 2, 1) := by decide +kernel
theorem dX1_leastClosingMark_30 : decode cX1_leastClosingMark 30 = .ok (.invokevirtual 189, 3) := by decide +kernel
theorem dX1_leastClosingMark_33 : decode cX1_leastClosingMark 33 = .ok (.invokestatic 192, 3) := by decide +kernel
theorem dX1_leastClosingMark_36 : decode cX1_leastClosingMark 36 = .ok (.istore_n 1, 1) := by decide +kernel
theorem dX1_leastClosingMark_37 : decode cX1_leastClosingMark 37 = .ok (.iinc 2 1, 3) := by decide +kernel
theorem dX1_leastClosingMark_40 : decode cX1_leastClosingMark 40 = .ok (.goto (-35), 3) := by decide +kernel
theorem dX1_leastClosingMark_43 : decode cX1_leastClosingMark 43 = .ok (.iload_n 1, 1) := by decide +kernel
theorem dX1_leastClosingMark_44 : decode cX1_leastClosingMark 44 = .ok (.ireturn, 1) := by decide +kernel
set_option maxRecDepth 20000 in
theorem ggX1_firstToClose_X0_isOpen : GoodIn wsX1_firstToClose wsX0_isOpen := goodIn_ca (goodIn_r _ [8, 9, 10, 11, 12, 13, 14, 15, 16, 36, 37, 38, 39, 40, 41, 42, 43, 44, 45, 46] (by decide +kernel) (by decide +kernel)) (goodIn_sub (fun _ h => List.mem_cons_of_mem _ (List.mem_append_right _ h)) (by decide +kernel))
set_option maxRecDepth 20000 in
theorem gX1_firstToClose_X0_isOpen : GoodIn wsX1_firstToClose (wsV RX1 186 RX0 yX0_isOpen wsX0_isOpen) := goodIn_app (goodIn_of _ (by decide +kernel)) ggX1_firstToClose_X0_isOpen
set_option maxRecDepth 20000 in
theorem ggX1_firstToClose_X1_closingMark : GoodIn wsX1_firstToClose wsX1_closingMark := goodIn_ca (goodIn_r _ [21, 1, 3, 22, 23, 24, 25, 12, 13, 14, 15, 16, 26, 27, 28, 29, 30, 31, 32, 33, 34, 35, 36, 37, 38, 39, 40, 41, 42, 43, 44, 45, 46] (by decide +kernel) (by decide +kernel)) (goodIn_sub (fun _ h => List.mem_cons_of_mem _ (List.mem_append_right _ h)) (by decide +kernel))
set_option maxRecDepth 20000 in
theorem gX1_firstToClose_X1_closingMark : GoodIn wsX1_firstToClose (wsV RX1 189 RX1 yX1_closingMark wsX1_closingMark) := goodIn_app (goodIn_of _ (by decide +kernel)) ggX1_firstToClose_X1_closingMark
set_option maxRecDepth 20000 in
theorem ggX1_firstToClose_X4_at : GoodIn wsX1_firstToClose wsX4_at := goodIn_ca (goodIn_r _ [15, 16, 46] (by decide +kernel) (by decide +kernel)) (goodIn_sub (fun _ h => List.mem_cons_of_mem _ (List.mem_append_right _ h)) (by decide +kernel))
set_option maxRecDepth 20000 in
theorem gX1_firstToClose_X4_at : GoodIn wsX1_firstToClose (wsV RX1 108 RX4 yX4_at wsX4_at) := goodIn_app (goodIn_of _ (by decide +kernel)) ggX1_firstToClose_X4_at
theorem dX1_firstToClose_0 : decode cX1_firstToClose 0 = .ok (.iconst (-1), 1) := by decide +kernel
theorem dX1_firstToClose_1 : decode cX1_firstToClose 1 = .ok (.istore_n 2, 1) := by decide +kernel
theorem dX1_firstToClose_2 : decode cX1_firstToClose 2 = .ok (.iconst 0, 1) := by decide +kernel
theorem dX1_firstToClose_3 : decode cX1_firstToClose 3 = .ok (.istore_n 3, 1) := by decide +kernel
theorem dX1_firstToClose_4 : decode cX1_firstToClose 4 = .ok (.iload_n 3, 1) := by decide +kernel
theorem dX1_firstToClose_5 : decode cX1_firstToClose 5 = .ok (.aload_n 0, 1) := by decide +kernel
theorem dX1_firstToClose_6 : decode cX1_firstToClose 6 = .ok (.getfield 33, 3) := by decide +kernel
theorem dX1_firstToClose_9 : decode cX1_firstToClose 9 = .ok (.getfield 54, 3) := by decide +kernel
theorem dX1_firstToClose_12 : decode cX1_firstToClose 12 = .ok (.if_icmp .ge 61, 3) := by decide +kernel
theorem dX1_firstToClose_15 : decode cX1_firstToClose 15 = .ok (.aload_n 0, 1) := by decide +kernel
theorem dX1_firstToClose_16 : decode cX1_firstToClose 16 = .ok (.getfield 33, 3) := by decide +kernel
theorem dX1_firstToClose_19 : decode cX1_firstToClose 19 = .ok (.iload_n 3, 1) := by decide +kernel
theorem dX1_firstToClose_20 : decode cX1_firstToClose 20 = .ok (.invokevirtual 186, 3) := by decide +kernel
theorem dX1_firstToClose_23 : decode cX1_firstToClose 23 = .ok (.ifCond .eq 44, 3) := by decide +kernel
theorem dX1_firstToClose_26 : decode cX1_firstToClose 26 = .ok (.aload_n 0, 1) := by decide +kernel
theorem dX1_firstToClose_27 : decode cX1_firstToClose 27 = .ok (.iload_n 3, 1) := by decide +kernel
theorem dX1_firstToClose_28 : decode cX1_firstToClose 28 = .ok (.invokevirtual 189, 3) := by decide +kernel
theorem dX1_firstToClose_31 : decode cX1_firstToClose 31 = .ok (.iload_n 1, 1) := by decide +kernel
theorem dX1_firstToClose_32 : decode cX1_firstToClose 32 = .ok (.if_icmp .gt 35, 3) := by decide +kernel
theorem dX1_firstToClose_35 : decode cX1_firstToClose 35 = .ok (.iload_n 2, 1) := by decide +kernel
theorem dX1_firstToClose_36 : decode cX1_firstToClose 36 = .ok (.iconst (-1), 1) := by decide +kernel
theorem dX1_firstToClose_37 : decode cX1_firstToClose 37 = .ok (.if_icmp .eq 28, 3) := by decide +kernel
theorem dX1_firstToClose_40 : decode cX1_firstToClose 40 = .ok (.aload_n 0, 1) := by decide +kernel
theorem dX1_firstToClose_41 : decode cX1_firstToClose 41 = .ok (.getfield 33, 3) := by decide +kernel
theorem dX1_firstToClose_44 : decode cX1_firstToClose 44 = .ok (.getfield 152, 3) := by decide +kernel
theorem dX1_firstToClose_47 : decode cX1_firstToClose 47 = .ok (.iload_n 3, 1) := by decide +kernel
theorem dX1_firstToClose_48 : decode cX1_firstToClose 48 = .ok (.invokevirtual 108, 3) := by decide +kernel
theorem dX1_firstToClose_51 : decode cX1_firstToClose 51 = .ok (.aload_n 0, 1) := by decide +kernel
theorem dX1_firstToClose_52 : decode cX1_firstToClose 52 = .ok (.getfield 33, 3) := by decide +kernel
theorem dX1_firstToClose_55 : decode cX1_firstToClose 55 = .ok (.getfield 152, 3) := by decide +kernel
theorem dX1_firstToClose_58 : decode cX1_firstToClose 58 = .ok (.iload_n 2, 1) := by decide +kernel
theorem dX1_firstToClose_59 : decode cX1_firstToClose 59 = .ok (.invokevirtual 108, 3) := by decide +kernel
theorem dX1_firstToClose_62 : decode cX1_firstToClose 62 = .ok (.if_icmp .ge 5, 3) := by decide +kernel
theorem dX1_firstToClose_65 : decode cX1_firstToClose 65 = .ok (.iload_n 3, 1) := by decide +kernel
theorem dX1_firstToClose_66 : decode cX1_firstToClose 66 = .ok (.istore_n 2, 1) := by decide +kernel
theorem dX1_firstToClose_67 : decode cX1_firstToClose 67 = .ok (.iinc 3 1, 3) := by decide +kernel
theorem dX1_firstToClose_70 : decode cX1_firstToClose 70 = .ok (.goto (-66), 3) := by decide +kernel
theorem dX1_firstToClose_73 : decode cX1_firstToClose 73 = .ok (.iload_n 2, 1) := by decide +kernel
theorem dX1_firstToClose_74 : decode cX1_firstToClose 74 = .ok (.ireturn, 1) := by decide +kernel
set_option maxRecDepth 20000 in
theorem ggX1_groupAnew_X4_at : GoodIn wsX1_groupAnew wsX4_at := goodIn_ca (goodIn_r _ [12, 13, 38] (by decide +kernel) (by decide +kernel)) (goodIn_sub (fun _ h => List.mem_cons_of_mem _ (List.mem_append_right _ h)) (by decide +kernel))
set_option maxRecDepth 20000 in
theorem gX1_groupAnew_X4_at : GoodIn wsX1_groupAnew (wsV RX1 108 RX4 yX4_at wsX4_at) := goodIn_app (goodIn_of _ (by decide +kernel)) ggX1_groupAnew_X4_at
theorem dX1_groupAnew_0 : decode cX1_groupAnew 0 = .ok (.iconst 0, 1) := by decide +kernel
theorem dX1_groupAnew_1 : decode cX1_groupAnew 1 = .ok (.istore_n 2, 1) := by decide +kernel
theorem dX1_groupAnew_2 : decode cX1_groupAnew 2 = .ok (.iconst 0, 1) := by decide +kernel
theorem dX1_groupAnew_3 : decode cX1_groupAnew 3 = .ok (.istore_n 3, 1) := by decide +kernel
theorem dX1_groupAnew_4 : decode cX1_groupAnew 4 = .ok (.iconst 0, 1) := by decide +kernel
theorem dX1_groupAnew_5 : decode cX1_groupAnew 5 = .ok (.istore 4, 2) := by decide +kernel
theorem dX1_groupAnew_7 : decode cX1_groupAnew 7 = .ok (.iload 4, 2) := by decide +kernel
theorem dX1_groupAnew_9 : decode cX1_groupAnew 9 = .ok (.aload_n 0, 1) := by decide +kernel
theorem dX1_groupAnew_10 : decode cX1_groupAnew 10 = .ok (.getfield 26, 3) := by decide +kernel
theorem dX1_groupAnew_13 : decode cX1_groupAnew 13 = .ok (.getfield 50, 3) := by decide +kernel
theorem dX1_groupAnew_16 : decode cX1_groupAnew 16 = .ok (.if_icmp .ge 74, 3) := by decide +kernel
theorem dX1_groupAnew_19 : decode cX1_groupAnew 19 = .ok (.aload_n 0, 1) := by decide +kernel
theorem dX1_groupAnew_20 : decode cX1_groupAnew 20 = .ok (.getfield 33, 3) := by decide +kernel
theorem dX1_groupAnew_23 : decode cX1_groupAnew 23 = .ok (.getfield 137, 3) := by decide +kernel
theorem dX1_groupAnew_26 : decode cX1_groupAnew 26 = .ok (.aload_n 0, 1) := by decide +kernel
theorem dX1_groupAnew_27 : decode cX1_groupAnew 27 = .ok (.getfield 26, 3) := by decide +kernel
theorem dX1_groupAnew_30 : decode cX1_groupAnew 30 = .ok (.getfield 197, 3) := by decide +kernel
theorem dX1_groupAnew_33 : decode cX1_groupAnew 33 = .ok (.iload 4, 2) := by decide +kernel
theorem dX1_groupAnew_35 : decode cX1_groupAnew 35 = .ok (.invokevirtual 108, 3) := by decide +kernel
theorem dX1_groupAnew_38 : decode cX1_groupAnew 38 = .ok (.invokevirtual 108, 3) := by decide +kernel
theorem dX1_groupAnew_41 : decode cX1_groupAnew 41 = .ok (.iload_n 1, 1) := by decide +kernel
theorem dX1_groupAnew_42 : decode cX1_groupAnew 42 = .ok (.if_icmp .ne 42, 3) := by decide +kernel
theorem dX1_groupAnew_45 : decode cX1_groupAnew 45 = .ok (.aload_n 0, 1) := by decide +kernel
theorem dX1_groupAnew_46 : decode cX1_groupAnew 46 = .ok (.getfield 26, 3) := by decide +kernel
theorem dX1_groupAnew_49 : decode cX1_groupAnew 49 = .ok (.getfield 200, 3) := by decide +kernel
theorem dX1_groupAnew_52 : decode cX1_groupAnew 52 = .ok (.iload 4, 2) := by decide +kernel
theorem dX1_groupAnew_54 : decode cX1_groupAnew 54 = .ok (.invokevirtual 108, 3) := by decide +kernel
theorem dX1_groupAnew_57 : decode cX1_groupAnew 57 = .ok (.istore 5, 2) := by decide +kernel
theorem dX1_groupAnew_59 : decode cX1_groupAnew 59 = .ok (.iload_n 2, 1) := by decide +kernel
theorem dX1_groupAnew_60 : decode cX1_groupAnew 60 = .ok (.ifCond .eq 18, 3) := by decide +kernel
theorem dX1_groupAnew_63 : decode cX1_groupAnew 63 = .ok (.iload 5, 2) := by decide +kernel
theorem dX1_groupAnew_65 : decode cX1_groupAnew 65 = .ok (.iload_n 3, 1) := by decide +kernel
theorem dX1_groupAnew_66 : decode cX1_groupAnew 66 = .ok (.aload_n 0, 1) := by decide +kernel
theorem dX1_groupAnew_67 : decode cX1_groupAnew 67 = .ok (.getfield 14, 3) := by decide +kernel
theorem dX1_groupAnew_70 : decode cX1_groupAnew 70 = .ok (.iload_n 1, 1) := by decide +kernel
theorem dX1_groupAnew_71 : decode cX1_groupAnew 71 = .ok (.invokevirtual 108, 3) := by decide +kernel
theorem dX1_groupAnew_74 : decode cX1_groupAnew 74 = .ok (.iadd, 1) := by decide +kernel
theorem dX1_groupAnew_75 : decode cX1_groupAnew 75 = .ok (.if_icmp .le 6, 3) := by decide +kernel
theorem dX1_groupAnew_78 : decode cX1_groupAnew 78 = .ok (.iinc 2 1, 3) := by decide +kernel
theorem dX1_groupAnew_81 : decode cX1_groupAnew 81 = .ok (.iload 5, 2) := by decide +kernel
theorem dX1_groupAnew_83 : decode cX1_groupAnew 83 = .ok (.istore_n 3, 1) := by decide +kernel
theorem dX1_groupAnew_84 : decode cX1_groupAnew 84 = .ok (.iinc 4 1, 3) := by decide +kernel
theorem dX1_groupAnew_87 : decode cX1_groupAnew 87 = .ok (.goto (-80), 3) := by decide +kernel
theorem dX1_groupAnew_90 : decode cX1_groupAnew 90 = .ok (.iload_n 2, 1) := by decide +kernel
theorem dX1_groupAnew_91 : decode cX1_groupAnew 91 = .ok (.ireturn, 1) := by decide +kernel
set_option maxRecDepth 20000 in
theorem ggX1_canCarryOut_X4_at : GoodIn wsX1_canCarryOut wsX4_at := goodIn_ca (goodIn_r _ [11, 12, 40] (by decide +kernel) (by decide +kernel)) (goodIn_sub (fun _ h => List.mem_cons_of_mem _ (List.mem_append_right _ h)) (by decide +kernel))
set_option maxRecDepth 20000 in
theorem gX1_canCarryOut_X4_at : GoodIn wsX1_canCarryOut (wsV RX1 108 RX4 yX4_at wsX4_at) := goodIn_app (goodIn_of _ (by decide +kernel)) ggX1_canCarryOut_X4_at
set_option maxRecDepth 20000 in
theorem ggX1_canCarryOut_X1_comesLate : GoodIn wsX1_canCarryOut wsX1_comesLate := goodIn_r _ [17, 18, 19, 20, 21, 22, 23, 24, 25, 26, 27, 28] (by decide +kernel) (by decide +kernel)
set_option maxRecDepth 20000 in
theorem gX1_canCarryOut_X1_comesLate : GoodIn wsX1_canCarryOut (wsV RX1 86 RX1 yX1_comesLate wsX1_comesLate) := goodIn_app (goodIn_of _ (by decide +kernel)) ggX1_canCarryOut_X1_comesLate
theorem dX1_canCarryOut_0 : decode cX1_canCarryOut 0 = .ok (.aload_n 1, 1) := by decide +kernel
theorem dX1_canCarryOut_1 : decode cX1_canCarryOut 1 = .ok (.ifnonnull 5, 3) := by decide +kernel
theorem dX1_canCarryOut_4 : decode cX1_canCarryOut 4 = .ok (.iconst 0, 1) := by decide +kernel
theorem dX1_canCarryOut_5 : decode cX1_canCarryOut 5 = .ok (.ireturn, 1) := by decide +kernel
theorem dX1_canCarryOut_6 : decode cX1_canCarryOut 6 = .ok (.aload_n 0, 1) := by decide +kernel
theorem dX1_canCarryOut_7 : decode cX1_canCarryOut 7 = .ok (.getfield 64, 3) := by decide +kernel
theorem dX1_canCarryOut_10 : decode cX1_canCarryOut 10 = .ok (.istore_n 2, 1) := by decide +kernel
theorem dX1_canCarryOut_11 : decode cX1_canCarryOut 11 = .ok (.aload_n 0, 1) := by decide +kernel
theorem dX1_canCarryOut_12 : decode cX1_canCarryOut 12 = .ok (.getfield 26, 3) := by decide +kernel
theorem dX1_canCarryOut_15 : decode cX1_canCarryOut 15 = .ok (.getfield 50, 3) := by decide +kernel
theorem dX1_canCarryOut_18 : decode cX1_canCarryOut 18 = .ok (.istore_n 3, 1) := by decide +kernel
theorem dX1_canCarryOut_19 : decode cX1_canCarryOut 19 = .ok (.iconst 0, 1) := by decide +kernel
theorem dX1_canCarryOut_20 : decode cX1_canCarryOut 20 = .ok (.istore 4, 2) := by decide +kernel
theorem dX1_canCarryOut_22 : decode cX1_canCarryOut 22 = .ok (.iload 4, 2) := by decide +kernel
theorem dX1_canCarryOut_24 : decode cX1_canCarryOut 24 = .ok (.aload_n 1, 1) := by decide +kernel
theorem dX1_canCarryOut_25 : decode cX1_canCarryOut 25 = .ok (.getfield 203, 3) := by decide +kernel
theorem dX1_canCarryOut_28 : decode cX1_canCarryOut 28 = .ok (.if_icmp .ge 68, 3) := by decide +kernel
theorem dX1_canCarryOut_31 : decode cX1_canCarryOut 31 = .ok (.aload_n 1, 1) := by decide +kernel
theorem dX1_canCarryOut_32 : decode cX1_canCarryOut 32 = .ok (.getfield 208, 3) := by decide +kernel
theorem dX1_canCarryOut_35 : decode cX1_canCarryOut 35 = .ok (.iload 4, 2) := by decide +kernel
theorem dX1_canCarryOut_37 : decode cX1_canCarryOut 37 = .ok (.invokevirtual 108, 3) := by decide +kernel
theorem dX1_canCarryOut_40 : decode cX1_canCarryOut 40 = .ok (.istore 5, 2) := by decide +kernel
theorem dX1_canCarryOut_42 : decode cX1_canCarryOut 42 = .ok (.aload_n 1, 1) := by decide +kernel
theorem dX1_canCarryOut_43 : decode cX1_canCarryOut 43 = .ok (.getfield 209, 3) := by decide +kernel
theorem dX1_canCarryOut_46 : decode cX1_canCarryOut 46 = .ok (.iload 4, 2) := by decide +kernel
theorem dX1_canCarryOut_48 : decode cX1_canCarryOut 48 = .ok (.invokevirtual 108, 3) := by decide +kernel
theorem dX1_canCarryOut_51 : decode cX1_canCarryOut 51 = .ok (.iconst (-1), 1) := by decide +kernel
theorem dX1_canCarryOut_52 : decode cX1_canCarryOut 52 = .ok (.if_icmp .ne 17, 3) := by decide +kernel
theorem dX1_canCarryOut_55 : decode cX1_canCarryOut 55 = .ok (.iload 5, 2) := by decide +kernel
theorem dX1_canCarryOut_57 : decode cX1_canCarryOut 57 = .ok (.iload_n 2, 1) := by decide +kernel
theorem dX1_canCarryOut_58 : decode cX1_canCarryOut 58 = .ok (.if_icmp .ge 5, 3) := by decide +kernel
theorem dX1_canCarryOut_61 : decode cX1_canCarryOut 61 = .ok (.iconst 0, 1) := by decide +kernel
theorem dX1_canCarryOut_62 : decode cX1_canCarryOut 62 = .ok (.ireturn, 1) := by decide +kernel
theorem dX1_canCarryOut_63 : decode cX1_canCarryOut 63 = .ok (.iload 5, 2) := by decide +kernel
theorem dX1_canCarryOut_65 : decode cX1_canCarryOut 65 = .ok (.istore_n 2, 1) := by decide +kernel
theorem dX1_canCarryOut_66 : decode cX1_canCarryOut 66 = .ok (.goto 24, 3) := by decide +kernel
theorem dX1_canCarryOut_69 : decode cX1_canCarryOut 69 = .ok (.aload_n 0, 1) := by decide +kernel
theorem dX1_canCarryOut_70 : decode cX1_canCarryOut 70 = .ok (.iload 5, 2) := by decide +kernel
theorem dX1_canCarryOut_72 : decode cX1_canCarryOut 72 = .ok (.iload_n 2, 1) := by decide +kernel
theorem dX1_canCarryOut_73 : decode cX1_canCarryOut 73 = .ok (.invokevirtual 86, 3) := by decide +kernel
theorem dX1_canCarryOut_76 : decode cX1_canCarryOut 76 = .ok (.ifCond .ne 14, 3) := by decide +kernel
theorem dX1_canCarryOut_79 : decode cX1_canCarryOut 79 = .ok (.iload_n 3, 1) := by decide +kernel
theorem dX1_canCarryOut_80 : decode cX1_canCarryOut 80 = .ok (.bipush 100, 2) := by decide +kernel
theorem dX1_canCarryOut_82 : decode cX1_canCarryOut 82 = .ok (.if_icmp .lt 5, 3) := by decide +kernel
theorem dX1_canCarryOut_85 : decode cX1_canCarryOut 85 = .ok (.iconst 0, 1) := by decide +kernel
theorem dX1_canCarryOut_86 : decode cX1_canCarryOut 86 = .ok (.ireturn, 1) := by decide +kernel
theorem dX1_canCarryOut_87 : decode cX1_canCarryOut 87 = .ok (.iinc 3 1, 3) := by decide +kernel
theorem dX1_canCarryOut_90 : decode cX1_canCarryOut 90 = .ok (.iinc 4 1, 3) := by decide +kernel
theorem dX1_canCarryOut_93 : decode cX1_canCarryOut 93 = .ok (.goto (-71), 3) := by decide +kernel
theorem dX1_canCarryOut_96 : decode cX1_canCarryOut 96 = .ok (.iconst 1, 1) := by decide +kernel
theorem dX1_canCarryOut_97 : decode cX1_canCarryOut 97 = .ok (.ireturn, 1) := by decide +kernel
set_option maxRecDepth 20000 in
theorem ggX2_init_X4_init : GoodIn wsX2_init wsX4_init := goodIn_r _ [19, 20, 2, 3, 21, 22, 23, 24, 25, 26, 27] (by decide +kernel) (by decide +kernel)
set_option maxRecDepth 20000 in
theorem gX2_init_X4_init : GoodIn wsX2_init (wsX4_init) := ggX2_init_X4_init
theorem dX2_init_0 : decode cX2_init 0 = .ok (.aload_n 0, 1) := by decide +kernel
theorem dX2_init_1 : decode cX2_init 1 = .ok (.invokespecial 3, 3) := by decide +kernel
theorem dX2_init_4 : decode cX2_init 4 = .ok (.aload_n 0, 1) := by decide +kernel
theorem dX2_init_5 : decode cX2_init 5 = .ok (.new 9, 3) := by decide +kernel
theorem dX2_init_8 : decode cX2_init 8 = .ok (.dup, 1) := by decide +kernel
theorem dX2_init_9 : decode cX2_init 9 = .ok (.bipush 60, 2) := by decide +kernel
theorem dX2_init_11 : decode cX2_init 11 = .ok (.invokespecial 11, 3) := by decide +kernel
theorem dX2_init_14 : decode cX2_init 14 = .ok (.putfield 14, 3) := by decide +kernel
theorem dX2_init_17 : decode cX2_init 17 = .ok (.aload_n 0, 1) := by decide +kernel
theorem dX2_init_18 : decode cX2_init 18 = .ok (.new 9, 3) := by decide +kernel
theorem dX2_init_21 : decode cX2_init 21 = .ok (.dup, 1) := by decide +kernel
theorem dX2_init_22 : decode cX2_init 22 = .ok (.bipush 60, 2) := by decide +kernel
theorem dX2_init_24 : decode cX2_init 24 = .ok (.invokespecial 11, 3) := by decide +kernel
theorem dX2_init_27 : decode cX2_init 27 = .ok (.putfield 20, 3) := by decide +kernel
theorem dX2_init_30 : decode cX2_init 30 = .ok (.aload_n 0, 1) := by decide +kernel
theorem dX2_init_31 : decode cX2_init 31 = .ok (.new 9, 3) := by decide +kernel
theorem dX2_init_34 : decode cX2_init 34 = .ok (.dup, 1) := by decide +kernel
theorem dX2_init_35 : decode cX2_init 35 = .ok (.bipush 60, 2) := by decide +kernel
theorem dX2_init_37 : decode cX2_init 37 = .ok (.invokespecial 11, 3) := by decide +kernel
theorem dX2_init_40 : decode cX2_init 40 = .ok (.putfield 23, 3) := by decide +kernel
theorem dX2_init_43 : decode cX2_init 43 = .ok (.aload_n 0, 1) := by decide +kernel
theorem dX2_init_44 : decode cX2_init 44 = .ok (.new 9, 3) := by decide +kernel
theorem dX2_init_47 : decode cX2_init 47 = .ok (.dup, 1) := by decide +kernel
theorem dX2_init_48 : decode cX2_init 48 = .ok (.bipush 60, 2) := by decide +kernel
theorem dX2_init_50 : decode cX2_init 50 = .ok (.invokespecial 11, 3) := by decide +kernel
theorem dX2_init_53 : decode cX2_init 53 = .ok (.putfield 26, 3) := by decide +kernel
theorem dX2_init_56 : decode cX2_init 56 = .ok (.aload_n 0, 1) := by decide +kernel
theorem dX2_init_57 : decode cX2_init 57 = .ok (.new 9, 3) := by decide +kernel
theorem dX2_init_60 : decode cX2_init 60 = .ok (.dup, 1) := by decide +kernel
theorem dX2_init_61 : decode cX2_init 61 = .ok (.bipush 60, 2) := by decide +kernel
theorem dX2_init_63 : decode cX2_init 63 = .ok (.invokespecial 11, 3) := by decide +kernel
theorem dX2_init_66 : decode cX2_init 66 = .ok (.putfield 29, 3) := by decide +kernel
theorem dX2_init_69 : decode cX2_init 69 = .ok (.aload_n 0, 1) := by decide +kernel
theorem dX2_init_70 : decode cX2_init 70 = .ok (.new 9, 3) := by decide +kernel
theorem dX2_init_73 : decode cX2_init 73 = .ok (.dup, 1) := by decide +kernel
theorem dX2_init_74 : decode cX2_init 74 = .ok (.bipush 60, 2) := by decide +kernel
theorem dX2_init_76 : decode cX2_init 76 = .ok (.invokespecial 11, 3) := by decide +kernel
theorem dX2_init_79 : decode cX2_init 79 = .ok (.putfield 32, 3) := by decide +kernel
theorem dX2_init_82 : decode cX2_init 82 = .ok (.aload_n 0, 1) := by decide +kernel
theorem dX2_init_83 : decode cX2_init 83 = .ok (.iconst 0, 1) := by decide +kernel
theorem dX2_init_84 : decode cX2_init 84 = .ok (.putfield 35, 3) := by decide +kernel
theorem dX2_init_87 : decode cX2_init 87 = .ok (.aload_n 0, 1) := by decide +kernel
theorem dX2_init_88 : decode cX2_init 88 = .ok (.new 9, 3) := by decide +kernel
theorem dX2_init_91 : decode cX2_init 91 = .ok (.dup, 1) := by decide +kernel
theorem dX2_init_92 : decode cX2_init 92 = .ok (.iconst 3, 1) := by decide +kernel
theorem dX2_init_93 : decode cX2_init 93 = .ok (.invokespecial 11, 3) := by decide +kernel
theorem dX2_init_96 : decode cX2_init 96 = .ok (.putfield 39, 3) := by decide +kernel
theorem dX2_init_99 : decode cX2_init 99 = .ok (.aload_n 0, 1) := by decide +kernel
theorem dX2_init_100 : decode cX2_init 100 = .ok (.iconst 0, 1) := by decide +kernel
theorem dX2_init_101 : decode cX2_init 101 = .ok (.putfield 42, 3) := by decide +kernel
theorem dX2_init_104 : decode cX2_init 104 = .ok (.aload_n 0, 1) := by decide +kernel
theorem dX2_init_105 : decode cX2_init 105 = .ok (.lconst 0, 1) := by decide +kernel
theorem dX2_init_106 : decode cX2_init 106 = .ok (.putfield 45, 3) := by decide +kernel
theorem dX2_init_109 : decode cX2_init 109 = .ok (.return_, 1) := by decide +kernel
set_option maxRecDepth 20000 in
theorem ggX2_clear_X4_fillWith : GoodIn wsX2_clear wsX4_fillWith := goodIn_ca (goodIn_r _ [9, 10, 21] (by decide +kernel) (by decide +kernel)) (goodIn_sub (fun _ h => List.mem_cons_of_mem _ (List.mem_append_right _ h)) (by decide +kernel))
set_option maxRecDepth 20000 in
theorem gX2_clear_X4_fillWith : GoodIn wsX2_clear (wsV RX2 49 RX4 yX4_fillWith wsX4_fillWith) := goodIn_app (goodIn_of _ (by decide +kernel)) ggX2_clear_X4_fillWith
theorem dX2_clear_0 : decode cX2_clear 0 = .ok (.aload_n 0, 1) := by decide +kernel
theorem dX2_clear_1 : decode cX2_clear 1 = .ok (.getfield 39, 3) := by decide +kernel
theorem dX2_clear_4 : decode cX2_clear 4 = .ok (.iconst 0, 1) := by decide +kernel
theorem dX2_clear_5 : decode cX2_clear 5 = .ok (.invokevirtual 49, 3) := by decide +kernel
theorem dX2_clear_8 : decode cX2_clear 8 = .ok (.aload_n 0, 1) := by decide +kernel
theorem dX2_clear_9 : decode cX2_clear 9 = .ok (.iconst 0, 1) := by decide +kernel
theorem dX2_clear_10 : decode cX2_clear 10 = .ok (.putfield 35, 3) := by decide +kernel
theorem dX2_clear_13 : decode cX2_clear 13 = .ok (.aload_n 0, 1) := by decide +kernel
theorem dX2_clear_14 : decode cX2_clear 14 = .ok (.iconst 0, 1) := by decide +kernel
theorem dX2_clear_15 : decode cX2_clear 15 = .ok (.putfield 42, 3) := by decide +kernel
theorem dX2_clear_18 : decode cX2_clear 18 = .ok (.aload_n 0, 1) := by decide +kernel
theorem dX2_clear_19 : decode cX2_clear 19 = .ok (.lconst 0, 1) := by decide +kernel
theorem dX2_clear_20 : decode cX2_clear 20 = .ok (.putfield 45, 3) := by decide +kernel
theorem dX2_clear_23 : decode cX2_clear 23 = .ok (.return_, 1) := by decide +kernel
set_option maxRecDepth 20000 in
theorem ggX2_copyFrom_X4_copyFrom : GoodIn wsX2_copyFrom wsX4_copyFrom := goodIn_ca (goodIn_r _ [15, 16, 17, 18, 19, 14, 20, 31] (by decide +kernel) (by decide +kernel)) (goodIn_sub (fun _ h => List.mem_cons_of_mem _ (List.mem_append_right _ h)) (by decide +kernel))
set_option maxRecDepth 20000 in
theorem gX2_copyFrom_X4_copyFrom : GoodIn wsX2_copyFrom (wsV RX2 52 RX4 yX4_copyFrom wsX4_copyFrom) := goodIn_app (goodIn_of _ (by decide +kernel)) ggX2_copyFrom_X4_copyFrom
theorem dX2_copyFrom_0 : decode cX2_copyFrom 0 = .ok (.aload_n 1, 1) := by decide +kernel
theorem dX2_copyFrom_1 : decode cX2_copyFrom 1 = .ok (.ifnonnull 4, 3) := by decide +kernel
theorem dX2_copyFrom_4 : decode cX2_copyFrom 4 = .ok (.return_, 1) := by decide +kernel
theorem dX2_copyFrom_5 : decode cX2_copyFrom 5 = .ok (.aload_n 0, 1) := by decide +kernel
theorem dX2_copyFrom_6 : decode cX2_copyFrom 6 = .ok (.getfield 14, 3) := by decide +kernel
theorem dX2_copyFrom_9 : decode cX2_copyFrom 9 = .ok (.aload_n 1, 1) := by decide +kernel
theorem dX2_copyFrom_10 : decode cX2_copyFrom 10 = .ok (.getfield 14, 3) := by decide +kernel
theorem dX2_copyFrom_13 : decode cX2_copyFrom 13 = .ok (.invokevirtual 52, 3) := by decide +kernel
theorem dX2_copyFrom_16 : decode cX2_copyFrom 16 = .ok (.aload_n 0, 1) := by decide +kernel
theorem dX2_copyFrom_17 : decode cX2_copyFrom 17 = .ok (.getfield 20, 3) := by decide +kernel
theorem dX2_copyFrom_20 : decode cX2_copyFrom 20 = .ok (.aload_n 1, 1) := by decide +kernel
theorem dX2_copyFrom_21 : decode cX2_copyFrom 21 = .ok (.getfield 20, 3) := by decide +kernel
theorem dX2_copyFrom_24 : decode cX2_copyFrom 24 = .ok (.invokevirtual 52, 3) := by decide +kernel
theorem dX2_copyFrom_27 : decode cX2_copyFrom 27 = .ok (.aload_n 0, 1) := by decide +kernel
theorem dX2_copyFrom_28 : decode cX2_copyFrom 28 = .ok (.getfield 23, 3) := by decide +kernel
theorem dX2_copyFrom_31 : decode cX2_copyFrom 31 = .ok (.aload_n 1, 1) := by decide +kernel
theorem dX2_copyFrom_32 : decode cX2_copyFrom 32 = .ok (.getfield 23, 3) := by decide +kernel
theorem dX2_copyFrom_35 : decode cX2_copyFrom 35 = .ok (.invokevirtual 52, 3) := by decide +kernel
theorem dX2_copyFrom_38 : decode cX2_copyFrom 38 = .ok (.aload_n 0, 1) := by decide +kernel
theorem dX2_copyFrom_39 : decode cX2_copyFrom 39 = .ok (.getfield 26, 3) := by decide +kernel
theorem dX2_copyFrom_42 : decode cX2_copyFrom 42 = .ok (.aload_n 1, 1) := by decide +kernel
theorem dX2_copyFrom_43 : decode cX2_copyFrom 43 = .ok (.getfield 26, 3) := by decide +kernel
theorem dX2_copyFrom_46 : decode cX2_copyFrom 46 = .ok (.invokevirtual 52, 3) := by decide +kernel
theorem dX2_copyFrom_49 : decode cX2_copyFrom 49 = .ok (.aload_n 0, 1) := by decide +kernel
theorem dX2_copyFrom_50 : decode cX2_copyFrom 50 = .ok (.getfield 29, 3) := by decide +kernel
theorem dX2_copyFrom_53 : decode cX2_copyFrom 53 = .ok (.aload_n 1, 1) := by decide +kernel
theorem dX2_copyFrom_54 : decode cX2_copyFrom 54 = .ok (.getfield 29, 3) := by decide +kernel
theorem dX2_copyFrom_57 : decode cX2_copyFrom 57 = .ok (.invokevirtual 52, 3) := by decide +kernel
theorem dX2_copyFrom_60 : decode cX2_copyFrom 60 = .ok (.aload_n 0, 1) := by decide +kernel
theorem dX2_copyFrom_61 : decode cX2_copyFrom 61 = .ok (.getfield 32, 3) := by decide +kernel
theorem dX2_copyFrom_64 : decode cX2_copyFrom 64 = .ok (.aload_n 1, 1) := by decide +kernel
theorem dX2_copyFrom_65 : decode cX2_copyFrom 65 = .ok (.getfield 32, 3) := by decide +kernel
theorem dX2_copyFrom_68 : decode cX2_copyFrom 68 = .ok (.invokevirtual 52, 3) := by decide +kernel
theorem dX2_copyFrom_71 : decode cX2_copyFrom 71 = .ok (.aload_n 0, 1) := by decide +kernel
theorem dX2_copyFrom_72 : decode cX2_copyFrom 72 = .ok (.getfield 39, 3) := by decide +kernel
theorem dX2_copyFrom_75 : decode cX2_copyFrom 75 = .ok (.aload_n 1, 1) := by decide +kernel
theorem dX2_copyFrom_76 : decode cX2_copyFrom 76 = .ok (.getfield 39, 3) := by decide +kernel
theorem dX2_copyFrom_79 : decode cX2_copyFrom 79 = .ok (.invokevirtual 52, 3) := by decide +kernel
theorem dX2_copyFrom_82 : decode cX2_copyFrom 82 = .ok (.aload_n 0, 1) := by decide +kernel
theorem dX2_copyFrom_83 : decode cX2_copyFrom 83 = .ok (.aload_n 1, 1) := by decide +kernel
theorem dX2_copyFrom_84 : decode cX2_copyFrom 84 = .ok (.getfield 35, 3) := by decide +kernel
theorem dX2_copyFrom_87 : decode cX2_copyFrom 87 = .ok (.putfield 35, 3) := by decide +kernel
theorem dX2_copyFrom_90 : decode cX2_copyFrom 90 = .ok (.aload_n 0, 1) := by decide +kernel
theorem dX2_copyFrom_91 : decode cX2_copyFrom 91 = .ok (.aload_n 1, 1) := by decide +kernel
theorem dX2_copyFrom_92 : decode cX2_copyFrom 92 = .ok (.getfield 42, 3) := by decide +kernel
theorem dX2_copyFrom_95 : decode cX2_copyFrom 95 = .ok (.putfield 42, 3) := by decide +kernel
theorem dX2_copyFrom_98 : decode cX2_copyFrom 98 = .ok (.aload_n 0, 1) := by decide +kernel
theorem dX2_copyFrom_99 : decode cX2_copyFrom 99 = .ok (.aload_n 1, 1) := by decide +kernel
theorem dX2_copyFrom_100 : decode cX2_copyFrom 100 = .ok (.getfield 45, 3) := by decide +kernel
theorem dX2_copyFrom_103 : decode cX2_copyFrom 103 = .ok (.putfield 45, 3) := by decide +kernel
theorem dX2_copyFrom_106 : decode cX2_copyFrom 106 = .ok (.return_, 1) := by decide +kernel
set_option maxRecDepth 20000 in
theorem ggX2_enter_X2_placeOf : GoodIn wsX2_enter wsX2_placeOf := goodIn_r _ [15, 8, 26, 27, 28, 29, 30, 31, 32, 33, 34, 35] (by decide +kernel) (by decide +kernel)
set_option maxRecDepth 20000 in
theorem gX2_enter_X2_placeOf : GoodIn wsX2_enter (wsV RX2 56 RX2 yX2_placeOf wsX2_placeOf) := goodIn_app (goodIn_of _ (by decide +kernel)) ggX2_enter_X2_placeOf
set_option maxRecDepth 20000 in
theorem ggX2_enter_X4_put : GoodIn wsX2_enter wsX4_put := goodIn_ca (goodIn_r _ [20, 21, 36] (by decide +kernel) (by decide +kernel)) (goodIn_sub (fun _ h => List.mem_cons_of_mem _ (List.mem_append_right _ h)) (by decide +kernel))
set_option maxRecDepth 20000 in
theorem gX2_enter_X4_put : GoodIn wsX2_enter (wsV RX2 60 RX4 yX4_put wsX4_put) := goodIn_app (goodIn_of _ (by decide +kernel)) ggX2_enter_X4_put
set_option maxRecDepth 20000 in
theorem ggX2_enter_X4_at : GoodIn wsX2_enter wsX4_at := goodIn_ca (goodIn_r _ [25, 21, 36] (by decide +kernel) (by decide +kernel)) (goodIn_sub (fun _ h => List.mem_cons_of_mem _ (List.mem_append_right _ h)) (by decide +kernel))
set_option maxRecDepth 20000 in
theorem gX2_enter_X4_at : GoodIn wsX2_enter (wsV RX2 64 RX4 yX4_at wsX4_at) := goodIn_app (goodIn_of _ (by decide +kernel)) ggX2_enter_X4_at
theorem dX2_enter_0 : decode cX2_enter 0 = .ok (.aload_n 0, 1) := by decide +kernel
theorem dX2_enter_1 : decode cX2_enter 1 = .ok (.aload_n 0, 1) := by decide +kernel
theorem dX2_enter_2 : decode cX2_enter 2 = .ok (.getfield 42, 3) := by decide +kernel
theorem dX2_enter_5 : decode cX2_enter 5 = .ok (.invokevirtual 56, 3) := by decide +kernel
theorem dX2_enter_8 : decode cX2_enter 8 = .ok (.istore 7, 2) := by decide +kernel
theorem dX2_enter_10 : decode cX2_enter 10 = .ok (.aload_n 0, 1) := by decide +kernel
theorem dX2_enter_11 : decode cX2_enter 11 = .ok (.getfield 14, 3) := by decide +kernel
theorem dX2_enter_14 : decode cX2_enter 14 = .ok (.iload 7, 2) := by decide +kernel
theorem dX2_enter_16 : decode cX2_enter 16 = .ok (.iload_n 1, 1) := by decide +kernel
theorem dX2_enter_17 : decode cX2_enter 17 = .ok (.invokevirtual 60, 3) := by decide +kernel
theorem dX2_enter_20 : decode cX2_enter 20 = .ok (.aload_n 0, 1) := by decide +kernel
theorem dX2_enter_21 : decode cX2_enter 21 = .ok (.getfield 20, 3) := by decide +kernel
theorem dX2_enter_24 : decode cX2_enter 24 = .ok (.iload 7, 2) := by decide +kernel
theorem dX2_enter_26 : decode cX2_enter 26 = .ok (.iload_n 2, 1) := by decide +kernel
theorem dX2_enter_27 : decode cX2_enter 27 = .ok (.invokevirtual 60, 3) := by decide +kernel
theorem dX2_enter_30 : decode cX2_enter 30 = .ok (.aload_n 0, 1) := by decide +kernel
theorem dX2_enter_31 : decode cX2_enter 31 = .ok (.getfield 23, 3) := by decide +kernel
theorem dX2_enter_34 : decode cX2_enter 34 = .ok (.iload 7, 2) := by decide +kernel
theorem dX2_enter_36 : decode cX2_enter 36 = .ok (.iload_n 3, 1) := by decide +kernel
theorem dX2_enter_37 : decode cX2_enter 37 = .ok (.invokevirtual 60, 3) := by decide +kernel
theorem dX2_enter_40 : decode cX2_enter 40 = .ok (.aload_n 0, 1) := by decide +kernel
theorem dX2_enter_41 : decode cX2_enter 41 = .ok (.getfield 26, 3) := by decide +kernel
theorem dX2_enter_44 : decode cX2_enter 44 = .ok (.iload 7, 2) := by decide +kernel
theorem dX2_enter_46 : decode cX2_enter 46 = .ok (.iload 4, 2) := by decide +kernel
theorem dX2_enter_48 : decode cX2_enter 48 = .ok (.invokevirtual 60, 3) := by decide +kernel
theorem dX2_enter_51 : decode cX2_enter 51 = .ok (.aload_n 0, 1) := by decide +kernel
theorem dX2_enter_52 : decode cX2_enter 52 = .ok (.getfield 29, 3) := by decide +kernel
theorem dX2_enter_55 : decode cX2_enter 55 = .ok (.iload 7, 2) := by decide +kernel
theorem dX2_enter_57 : decode cX2_enter 57 = .ok (.iload 5, 2) := by decide +kernel
theorem dX2_enter_59 : decode cX2_enter 59 = .ok (.invokevirtual 60, 3) := by decide +kernel
theorem dX2_enter_62 : decode cX2_enter 62 = .ok (.aload_n 0, 1) := by decide +kernel
theorem dX2_enter_63 : decode cX2_enter 63 = .ok (.getfield 32, 3) := by decide +kernel
theorem dX2_enter_66 : decode cX2_enter 66 = .ok (.iload 7, 2) := by decide +kernel
theorem dX2_enter_68 : decode cX2_enter 68 = .ok (.iload 6, 2) := by decide +kernel
theorem dX2_enter_70 : decode cX2_enter 70 = .ok (.invokevirtual 60, 3) := by decide +kernel
theorem dX2_enter_73 : decode cX2_enter 73 = .ok (.aload_n 0, 1) := by decide +kernel
theorem dX2_enter_74 : decode cX2_enter 74 = .ok (.getfield 42, 3) := by decide +kernel
theorem dX2_enter_77 : decode cX2_enter 77 = .ok (.bipush 60, 2) := by decide +kernel
theorem dX2_enter_79 : decode cX2_enter 79 = .ok (.if_icmp .ge 16, 3) := by decide +kernel
theorem dX2_enter_82 : decode cX2_enter 82 = .ok (.aload_n 0, 1) := by decide +kernel
theorem dX2_enter_83 : decode cX2_enter 83 = .ok (.dup, 1) := by decide +kernel
theorem dX2_enter_84 : decode cX2_enter 84 = .ok (.getfield 42, 3) := by decide +kernel
theorem dX2_enter_87 : decode cX2_enter 87 = .ok (.iconst 1, 1) := by decide +kernel
theorem dX2_enter_88 : decode cX2_enter 88 = .ok (.iadd, 1) := by decide +kernel
theorem dX2_enter_89 : decode cX2_enter 89 = .ok (.putfield 42, 3) := by decide +kernel
theorem dX2_enter_92 : decode cX2_enter 92 = .ok (.goto 12, 3) := by decide +kernel
theorem dX2_enter_95 : decode cX2_enter 95 = .ok (.aload_n 0, 1) := by decide +kernel
theorem dX2_enter_96 : decode cX2_enter 96 = .ok (.aload_n 0, 1) := by decide +kernel
theorem dX2_enter_97 : decode cX2_enter 97 = .ok (.iconst 1, 1) := by decide +kernel
theorem dX2_enter_98 : decode cX2_enter 98 = .ok (.invokevirtual 56, 3) := by decide +kernel
theorem dX2_enter_101 : decode cX2_enter 101 = .ok (.putfield 35, 3) := by decide +kernel
theorem dX2_enter_104 : decode cX2_enter 104 = .ok (.aload_n 0, 1) := by decide +kernel
theorem dX2_enter_105 : decode cX2_enter 105 = .ok (.getfield 39, 3) := by decide +kernel
theorem dX2_enter_108 : decode cX2_enter 108 = .ok (.iload_n 1, 1) := by decide +kernel
theorem dX2_enter_109 : decode cX2_enter 109 = .ok (.aload_n 0, 1) := by decide +kernel
theorem dX2_enter_110 : decode cX2_enter 110 = .ok (.getfield 39, 3) := by decide +kernel
theorem dX2_enter_113 : decode cX2_enter 113 = .ok (.iload_n 1, 1) := by decide +kernel
theorem dX2_enter_114 : decode cX2_enter 114 = .ok (.invokevirtual 64, 3) := by decide +kernel
theorem dX2_enter_117 : decode cX2_enter 117 = .ok (.iconst 1, 1) := by decide +kernel
theorem dX2_enter_118 : decode cX2_enter 118 = .ok (.iadd, 1) := by decide +kernel
theorem dX2_enter_119 : decode cX2_enter 119 = .ok (.invokevirtual 60, 3) := by decide +kernel
theorem dX2_enter_122 : decode cX2_enter 122 = .ok (.aload_n 0, 1) := by decide +kernel
theorem dX2_enter_123 : decode cX2_enter 123 = .ok (.dup, 1) := by decide +kernel
theorem dX2_enter_124 : decode cX2_enter 124 = .ok (.getfield 45, 3) := by decide +kernel
theorem dX2_enter_127 : decode cX2_enter 127 = .ok (.iload_n 1, 1) := by decide +kernel
theorem dX2_enter_128 : decode cX2_enter 128 = .ok (.iconst 2, 1) := by decide +kernel
theorem dX2_enter_129 : decode cX2_enter 129 = .ok (.if_icmp .ne 9, 3) := by decide +kernel
theorem dX2_enter_132 : decode cX2_enter 132 = .ok (.iload_n 3, 1) := by decide +kernel
theorem dX2_enter_133 : decode cX2_enter 133 = .ok (.i2l, 1) := by decide +kernel
theorem dX2_enter_134 : decode cX2_enter 134 = .ok (.lneg, 1) := by decide +kernel
theorem dX2_enter_135 : decode cX2_enter 135 = .ok (.goto 5, 3) := by decide +kernel
theorem dX2_enter_138 : decode cX2_enter 138 = .ok (.iload_n 3, 1) := by decide +kernel
theorem dX2_enter_139 : decode cX2_enter 139 = .ok (.i2l, 1) := by decide +kernel
theorem dX2_enter_140 : decode cX2_enter 140 = .ok (.ladd, 1) := by decide +kernel
theorem dX2_enter_141 : decode cX2_enter 141 = .ok (.putfield 45, 3) := by decide +kernel
theorem dX2_enter_144 : decode cX2_enter 144 = .ok (.return_, 1) := by decide +kernel
set_option maxRecDepth 20000 in
theorem ggX2_entry_X2_placeOf : GoodIn wsX2_entry wsX2_placeOf := goodIn_r _ [11, 12, 19, 20, 21, 22, 23, 24, 25, 26, 27, 28] (by decide +kernel) (by decide +kernel)
set_option maxRecDepth 20000 in
theorem gX2_entry_X2_placeOf : GoodIn wsX2_entry (wsV RX2 56 RX2 yX2_placeOf wsX2_placeOf) := goodIn_app (goodIn_of _ (by decide +kernel)) ggX2_entry_X2_placeOf
set_option maxRecDepth 20000 in
theorem ggX2_entry_X4_at : GoodIn wsX2_entry wsX4_at := goodIn_ca (goodIn_r _ [17, 18, 29] (by decide +kernel) (by decide +kernel)) (goodIn_sub (fun _ h => List.mem_cons_of_mem _ (List.mem_append_right _ h)) (by decide +kernel))
set_option maxRecDepth 20000 in
theorem gX2_entry_X4_at : GoodIn wsX2_entry (wsV RX2 64 RX4 yX4_at wsX4_at) := goodIn_app (goodIn_of _ (by decide +kernel)) ggX2_entry_X4_at
theorem dX2_entry_0 : decode cX2_entry 0 = .ok (.aload_n 0, 1) := by decide +kernel
theorem dX2_entry_1 : decode cX2_entry 1 = .ok (.iload_n 1, 1) := by decide +kernel
theorem dX2_entry_2 : decode cX2_entry 2 = .ok (.invokevirtual 56, 3) := by decide +kernel
theorem dX2_entry_5 : decode cX2_entry 5 = .ok (.istore_n 3, 1) := by decide +kernel
theorem dX2_entry_6 : decode cX2_entry 6 = .ok (.iload_n 2, 1) := by decide +kernel
theorem dX2_entry_7 : decode cX2_entry 7 = .ok (.tableswitch 78 0 4 #[33, 42, 51, 60, 69], 33) := by decide +kernel
theorem dX2_entry_40 : decode cX2_entry 40 = .ok (.aload_n 0, 1) := by decide +kernel
theorem dX2_entry_41 : decode cX2_entry 41 = .ok (.getfield 14, 3) := by decide +kernel
theorem dX2_entry_44 : decode cX2_entry 44 = .ok (.iload_n 3, 1) := by decide +kernel
theorem dX2_entry_45 : decode cX2_entry 45 = .ok (.invokevirtual 64, 3) := by decide +kernel
theorem dX2_entry_48 : decode cX2_entry 48 = .ok (.ireturn, 1) := by decide +kernel
theorem dX2_entry_49 : decode cX2_entry 49 = .ok (.aload_n 0, 1) := by decide +kernel
theorem dX2_entry_50 : decode cX2_entry 50 = .ok (.getfield 20, 3) := by decide +kernel
theorem dX2_entry_53 : decode cX2_entry 53 = .ok (.iload_n 3, 1) := by decide +kernel
theorem dX2_entry_54 : decode cX2_entry 54 = .ok (.invokevirtual 64, 3) := by decide +kernel
theorem dX2_entry_57 : decode cX2_entry 57 = .ok (.ireturn, 1) := by decide +kernel
theorem dX2_entry_58 : decode cX2_entry 58 = .ok (.aload_n 0, 1) := by decide +kernel
theorem dX2_entry_59 : decode cX2_entry 59 = .ok (.getfield 23, 3) := by decide +kernel
theorem dX2_entry_62 : decode cX2_entry 62 = .ok (.iload_n 3, 1) := by decide +kernel
theorem dX2_entry_63 : decode cX2_entry 63 = .ok (.invokevirtual 64, 3) := by decide +kernel
theorem dX2_entry_66 : decode cX2_entry 66 = .ok (.ireturn, 1) := by decide +kernel
theorem dX2_entry_67 : decode cX2_entry 67 = .ok (.aload_n 0, 1) := by decide +kernel
theorem dX2_entry_68 : decode cX2_entry 68 = .ok (.getfield 26, 3) := by decide +kernel
theorem dX2_entry_71 : decode cX2_entry 71 = .ok (.iload_n 3, 1) := by decide +kernel
theorem dX2_entry_72 : decode cX2_entry 72 = .ok (.invokevirtual 64, 3) := by decide +kernel
theorem dX2_entry_75 : decode cX2_entry 75 = .ok (.ireturn, 1) := by decide +kernel
theorem dX2_entry_76 : decode cX2_entry 76 = .ok (.aload_n 0, 1) := by decide +kernel
theorem dX2_entry_77 : decode cX2_entry 77 = .ok (.getfield 29, 3) := by decide +kernel
theorem dX2_entry_80 : decode cX2_entry 80 = .ok (.iload_n 3, 1) := by decide +kernel
theorem dX2_entry_81 : decode cX2_entry 81 = .ok (.invokevirtual 64, 3) := by decide +kernel
theorem dX2_entry_84 : decode cX2_entry 84 = .ok (.ireturn, 1) := by decide +kernel
theorem dX2_entry_85 : decode cX2_entry 85 = .ok (.aload_n 0, 1) := by decide +kernel
theorem dX2_entry_86 : decode cX2_entry 86 = .ok (.getfield 32, 3) := by decide +kernel
theorem dX2_entry_89 : decode cX2_entry 89 = .ok (.iload_n 3, 1) := by decide +kernel
theorem dX2_entry_90 : decode cX2_entry 90 = .ok (.invokevirtual 64, 3) := by decide +kernel
theorem dX2_entry_93 : decode cX2_entry 93 = .ok (.ireturn, 1) := by decide +kernel
theorem dX2_placeOf_0 : decode cX2_placeOf 0 = .ok (.aload_n 0, 1) := by decide +kernel
theorem dX2_placeOf_1 : decode cX2_placeOf 1 = .ok (.getfield 35, 3) := by decide +kernel
theorem dX2_placeOf_4 : decode cX2_placeOf 4 = .ok (.iload_n 1, 1) := by decide +kernel
theorem dX2_placeOf_5 : decode cX2_placeOf 5 = .ok (.iadd, 1) := by decide +kernel
theorem dX2_placeOf_6 : decode cX2_placeOf 6 = .ok (.istore_n 2, 1) := by decide +kernel
theorem dX2_placeOf_7 : decode cX2_placeOf 7 = .ok (.iload_n 2, 1) := by decide +kernel
theorem dX2_placeOf_8 : decode cX2_placeOf 8 = .ok (.bipush 60, 2) := by decide +kernel
theorem dX2_placeOf_10 : decode cX2_placeOf 10 = .ok (.if_icmp .ge 7, 3) := by decide +kernel
theorem dX2_placeOf_13 : decode cX2_placeOf 13 = .ok (.iload_n 2, 1) := by decide +kernel
theorem dX2_placeOf_14 : decode cX2_placeOf 14 = .ok (.goto 7, 3) := by decide +kernel
theorem dX2_placeOf_17 : decode cX2_placeOf 17 = .ok (.iload_n 2, 1) := by decide +kernel
theorem dX2_placeOf_18 : decode cX2_placeOf 18 = .ok (.bipush 60, 2) := by decide +kernel
theorem dX2_placeOf_20 : decode cX2_placeOf 20 = .ok (.isub, 1) := by decide +kernel
theorem dX2_placeOf_21 : decode cX2_placeOf 21 = .ok (.ireturn, 1) := by decide +kernel
set_option maxRecDepth 20000 in
theorem ggX3_init_X4_init : GoodIn wsX3_init wsX4_init := goodIn_r _ [13, 14, 2, 3, 15, 16, 17, 18, 19, 20, 21] (by decide +kernel) (by decide +kernel)
set_option maxRecDepth 20000 in
theorem gX3_init_X4_init : GoodIn wsX3_init (wsX4_init) := ggX3_init_X4_init
theorem dX3_init_0 : decode cX3_init 0 = .ok (.aload_n 0, 1) := by decide +kernel
theorem dX3_init_1 : decode cX3_init 1 = .ok (.invokespecial 3, 3) := by decide +kernel
theorem dX3_init_4 : decode cX3_init 4 = .ok (.aload_n 0, 1) := by decide +kernel
theorem dX3_init_5 : decode cX3_init 5 = .ok (.new 9, 3) := by decide +kernel
theorem dX3_init_8 : decode cX3_init 8 = .ok (.dup, 1) := by decide +kernel
theorem dX3_init_9 : decode cX3_init 9 = .ok (.bipush 100, 2) := by decide +kernel
theorem dX3_init_11 : decode cX3_init 11 = .ok (.invokespecial 11, 3) := by decide +kernel
theorem dX3_init_14 : decode cX3_init 14 = .ok (.putfield 14, 3) := by decide +kernel
theorem dX3_init_17 : decode cX3_init 17 = .ok (.aload_n 0, 1) := by decide +kernel
theorem dX3_init_18 : decode cX3_init 18 = .ok (.new 9, 3) := by decide +kernel
theorem dX3_init_21 : decode cX3_init 21 = .ok (.dup, 1) := by decide +kernel
theorem dX3_init_22 : decode cX3_init 22 = .ok (.bipush 100, 2) := by decide +kernel
theorem dX3_init_24 : decode cX3_init 24 = .ok (.invokespecial 11, 3) := by decide +kernel
theorem dX3_init_27 : decode cX3_init 27 = .ok (.putfield 20, 3) := by decide +kernel
theorem dX3_init_30 : decode cX3_init 30 = .ok (.aload_n 0, 1) := by decide +kernel
theorem dX3_init_31 : decode cX3_init 31 = .ok (.new 9, 3) := by decide +kernel
theorem dX3_init_34 : decode cX3_init 34 = .ok (.dup, 1) := by decide +kernel
theorem dX3_init_35 : decode cX3_init 35 = .ok (.bipush 100, 2) := by decide +kernel
theorem dX3_init_37 : decode cX3_init 37 = .ok (.invokespecial 11, 3) := by decide +kernel
theorem dX3_init_40 : decode cX3_init 40 = .ok (.putfield 23, 3) := by decide +kernel
theorem dX3_init_43 : decode cX3_init 43 = .ok (.aload_n 0, 1) := by decide +kernel
theorem dX3_init_44 : decode cX3_init 44 = .ok (.iconst 0, 1) := by decide +kernel
theorem dX3_init_45 : decode cX3_init 45 = .ok (.putfield 26, 3) := by decide +kernel
theorem dX3_init_48 : decode cX3_init 48 = .ok (.return_, 1) := by decide +kernel
set_option maxRecDepth 20000 in
theorem ggX3_copyFrom_X4_copyFrom : GoodIn wsX3_copyFrom wsX4_copyFrom := goodIn_ca (goodIn_r _ [9, 10, 11, 12, 13, 8, 14, 19] (by decide +kernel) (by decide +kernel)) (goodIn_sub (fun _ h => List.mem_cons_of_mem _ (List.mem_append_right _ h)) (by decide +kernel))
set_option maxRecDepth 20000 in
theorem gX3_copyFrom_X4_copyFrom : GoodIn wsX3_copyFrom (wsV RX3 30 RX4 yX4_copyFrom wsX4_copyFrom) := goodIn_app (goodIn_of _ (by decide +kernel)) ggX3_copyFrom_X4_copyFrom
theorem dX3_copyFrom_0 : decode cX3_copyFrom 0 = .ok (.aload_n 1, 1) := by decide +kernel
theorem dX3_copyFrom_1 : decode cX3_copyFrom 1 = .ok (.ifnonnull 4, 3) := by decide +kernel
theorem dX3_copyFrom_4 : decode cX3_copyFrom 4 = .ok (.return_, 1) := by decide +kernel
theorem dX3_copyFrom_5 : decode cX3_copyFrom 5 = .ok (.aload_n 0, 1) := by decide +kernel
theorem dX3_copyFrom_6 : decode cX3_copyFrom 6 = .ok (.getfield 14, 3) := by decide +kernel
theorem dX3_copyFrom_9 : decode cX3_copyFrom 9 = .ok (.aload_n 1, 1) := by decide +kernel
theorem dX3_copyFrom_10 : decode cX3_copyFrom 10 = .ok (.getfield 14, 3) := by decide +kernel
theorem dX3_copyFrom_13 : decode cX3_copyFrom 13 = .ok (.invokevirtual 30, 3) := by decide +kernel
theorem dX3_copyFrom_16 : decode cX3_copyFrom 16 = .ok (.aload_n 0, 1) := by decide +kernel
theorem dX3_copyFrom_17 : decode cX3_copyFrom 17 = .ok (.getfield 20, 3) := by decide +kernel
theorem dX3_copyFrom_20 : decode cX3_copyFrom 20 = .ok (.aload_n 1, 1) := by decide +kernel
theorem dX3_copyFrom_21 : decode cX3_copyFrom 21 = .ok (.getfield 20, 3) := by decide +kernel
theorem dX3_copyFrom_24 : decode cX3_copyFrom 24 = .ok (.invokevirtual 30, 3) := by decide +kernel
theorem dX3_copyFrom_27 : decode cX3_copyFrom 27 = .ok (.aload_n 0, 1) := by decide +kernel
theorem dX3_copyFrom_28 : decode cX3_copyFrom 28 = .ok (.getfield 23, 3) := by decide +kernel
theorem dX3_copyFrom_31 : decode cX3_copyFrom 31 = .ok (.aload_n 1, 1) := by decide +kernel
theorem dX3_copyFrom_32 : decode cX3_copyFrom 32 = .ok (.getfield 23, 3) := by decide +kernel
theorem dX3_copyFrom_35 : decode cX3_copyFrom 35 = .ok (.invokevirtual 30, 3) := by decide +kernel
theorem dX3_copyFrom_38 : decode cX3_copyFrom 38 = .ok (.aload_n 0, 1) := by decide +kernel
theorem dX3_copyFrom_39 : decode cX3_copyFrom 39 = .ok (.aload_n 1, 1) := by decide +kernel
theorem dX3_copyFrom_40 : decode cX3_copyFrom 40 = .ok (.getfield 26, 3) := by decide +kernel
theorem dX3_copyFrom_43 : decode cX3_copyFrom 43 = .ok (.putfield 26, 3) := by decide +kernel
theorem dX3_copyFrom_46 : decode cX3_copyFrom 46 = .ok (.return_, 1) := by decide +kernel
set_option maxRecDepth 20000 in
theorem ggX3_keep_X4_at : GoodIn wsX3_keep wsX4_at := goodIn_ca (goodIn_r _ [9, 10, 28] (by decide +kernel) (by decide +kernel)) (goodIn_sub (fun _ h => List.mem_cons_of_mem _ (List.mem_append_right _ h)) (by decide +kernel))
set_option maxRecDepth 20000 in
theorem gX3_keep_X4_at : GoodIn wsX3_keep (wsV RX3 34 RX4 yX4_at wsX4_at) := goodIn_app (goodIn_of _ (by decide +kernel)) ggX3_keep_X4_at
set_option maxRecDepth 20000 in
theorem ggX3_keep_X4_insert : GoodIn wsX3_keep wsX4_insert := goodIn_ca (goodIn_r _ [14, 10, 15, 16, 17, 18, 19, 6, 7, 8, 9, 20, 21, 22, 23, 28] (by decide +kernel) (by decide +kernel)) (goodIn_sub (fun _ h => List.mem_cons_of_mem _ (List.mem_append_right _ h)) (by decide +kernel))
set_option maxRecDepth 20000 in
theorem gX3_keep_X4_insert : GoodIn wsX3_keep (wsV RX3 38 RX4 yX4_insert wsX4_insert) := goodIn_app (goodIn_of _ (by decide +kernel)) ggX3_keep_X4_insert
theorem dX3_keep_0 : decode cX3_keep 0 = .ok (.iconst 0, 1) := by decide +kernel
theorem dX3_keep_1 : decode cX3_keep 1 = .ok (.istore 4, 2) := by decide +kernel
theorem dX3_keep_3 : decode cX3_keep 3 = .ok (.iload 4, 2) := by decide +kernel
theorem dX3_keep_5 : decode cX3_keep 5 = .ok (.aload_n 0, 1) := by decide +kernel
theorem dX3_keep_6 : decode cX3_keep 6 = .ok (.getfield 26, 3) := by decide +kernel
theorem dX3_keep_9 : decode cX3_keep 9 = .ok (.if_icmp .ge 22, 3) := by decide +kernel
theorem dX3_keep_12 : decode cX3_keep 12 = .ok (.aload_n 0, 1) := by decide +kernel
theorem dX3_keep_13 : decode cX3_keep 13 = .ok (.getfield 14, 3) := by decide +kernel
theorem dX3_keep_16 : decode cX3_keep 16 = .ok (.iload 4, 2) := by decide +kernel
theorem dX3_keep_18 : decode cX3_keep 18 = .ok (.invokevirtual 34, 3) := by decide +kernel
theorem dX3_keep_21 : decode cX3_keep 21 = .ok (.iload_n 1, 1) := by decide +kernel
theorem dX3_keep_22 : decode cX3_keep 22 = .ok (.if_icmp .gt 9, 3) := by decide +kernel
theorem dX3_keep_25 : decode cX3_keep 25 = .ok (.iinc 4 1, 3) := by decide +kernel
theorem dX3_keep_28 : decode cX3_keep 28 = .ok (.goto (-25), 3) := by decide +kernel
theorem dX3_keep_31 : decode cX3_keep 31 = .ok (.aload_n 0, 1) := by decide +kernel
theorem dX3_keep_32 : decode cX3_keep 32 = .ok (.getfield 14, 3) := by decide +kernel
theorem dX3_keep_35 : decode cX3_keep 35 = .ok (.iload 4, 2) := by decide +kernel
theorem dX3_keep_37 : decode cX3_keep 37 = .ok (.iload_n 1, 1) := by decide +kernel
theorem dX3_keep_38 : decode cX3_keep 38 = .ok (.aload_n 0, 1) := by decide +kernel
theorem dX3_keep_39 : decode cX3_keep 39 = .ok (.getfield 26, 3) := by decide +kernel
theorem dX3_keep_42 : decode cX3_keep 42 = .ok (.invokevirtual 38, 3) := by decide +kernel
theorem dX3_keep_45 : decode cX3_keep 45 = .ok (.aload_n 0, 1) := by decide +kernel
theorem dX3_keep_46 : decode cX3_keep 46 = .ok (.getfield 20, 3) := by decide +kernel
theorem dX3_keep_49 : decode cX3_keep 49 = .ok (.iload 4, 2) := by decide +kernel
theorem dX3_keep_51 : decode cX3_keep 51 = .ok (.iload_n 2, 1) := by decide +kernel
theorem dX3_keep_52 : decode cX3_keep 52 = .ok (.aload_n 0, 1) := by decide +kernel
theorem dX3_keep_53 : decode cX3_keep 53 = .ok (.getfield 26, 3) := by decide +kernel
theorem dX3_keep_56 : decode cX3_keep 56 = .ok (.invokevirtual 38, 3) := by decide +kernel
theorem dX3_keep_59 : decode cX3_keep 59 = .ok (.aload_n 0, 1) := by decide +kernel
theorem dX3_keep_60 : decode cX3_keep 60 = .ok (.getfield 23, 3) := by decide +kernel
theorem dX3_keep_63 : decode cX3_keep 63 = .ok (.iload 4, 2) := by decide +kernel
theorem dX3_keep_65 : decode cX3_keep 65 = .ok (.iload_n 3, 1) := by decide +kernel
theorem dX3_keep_66 : decode cX3_keep 66 = .ok (.aload_n 0, 1) := by decide +kernel
theorem dX3_keep_67 : decode cX3_keep 67 = .ok (.getfield 26, 3) := by decide +kernel
theorem dX3_keep_70 : decode cX3_keep 70 = .ok (.invokevirtual 38, 3) := by decide +kernel
theorem dX3_keep_73 : decode cX3_keep 73 = .ok (.aload_n 0, 1) := by decide +kernel
theorem dX3_keep_74 : decode cX3_keep 74 = .ok (.dup, 1) := by decide +kernel
theorem dX3_keep_75 : decode cX3_keep 75 = .ok (.getfield 26, 3) := by decide +kernel
theorem dX3_keep_78 : decode cX3_keep 78 = .ok (.iconst 1, 1) := by decide +kernel
theorem dX3_keep_79 : decode cX3_keep 79 = .ok (.iadd, 1) := by decide +kernel
theorem dX3_keep_80 : decode cX3_keep 80 = .ok (.putfield 26, 3) := by decide +kernel
theorem dX3_keep_83 : decode cX3_keep 83 = .ok (.return_, 1) := by decide +kernel
set_option maxRecDepth 20000 in
theorem ggX3_moveAll_X4_at : GoodIn wsX3_moveAll wsX4_at := goodIn_ca (goodIn_r _ [7, 8, 17] (by decide +kernel) (by decide +kernel)) (goodIn_sub (fun _ h => List.mem_cons_of_mem _ (List.mem_append_right _ h)) (by decide +kernel))
set_option maxRecDepth 20000 in
theorem gX3_moveAll_X4_at : GoodIn wsX3_moveAll (wsV RX3 34 RX4 yX4_at wsX4_at) := goodIn_app (goodIn_of _ (by decide +kernel)) ggX3_moveAll_X4_at
set_option maxRecDepth 20000 in
theorem ggX3_moveAll_X4_put : GoodIn wsX3_moveAll wsX4_put := goodIn_ca (goodIn_r _ [12, 8, 17] (by decide +kernel) (by decide +kernel)) (goodIn_sub (fun _ h => List.mem_cons_of_mem _ (List.mem_append_right _ h)) (by decide +kernel))
set_option maxRecDepth 20000 in
theorem gX3_moveAll_X4_put : GoodIn wsX3_moveAll (wsV RX3 42 RX4 yX4_put wsX4_put) := goodIn_app (goodIn_of _ (by decide +kernel)) ggX3_moveAll_X4_put
theorem dX3_moveAll_0 : decode cX3_moveAll 0 = .ok (.iconst 0, 1) := by decide +kernel
theorem dX3_moveAll_1 : decode cX3_moveAll 1 = .ok (.istore_n 3, 1) := by decide +kernel
theorem dX3_moveAll_2 : decode cX3_moveAll 2 = .ok (.iload_n 3, 1) := by decide +kernel
theorem dX3_moveAll_3 : decode cX3_moveAll 3 = .ok (.aload_n 0, 1) := by decide +kernel
theorem dX3_moveAll_4 : decode cX3_moveAll 4 = .ok (.getfield 26, 3) := by decide +kernel
theorem dX3_moveAll_7 : decode cX3_moveAll 7 = .ok (.if_icmp .ge 30, 3) := by decide +kernel
theorem dX3_moveAll_10 : decode cX3_moveAll 10 = .ok (.aload_n 0, 1) := by decide +kernel
theorem dX3_moveAll_11 : decode cX3_moveAll 11 = .ok (.getfield 23, 3) := by decide +kernel
theorem dX3_moveAll_14 : decode cX3_moveAll 14 = .ok (.iload_n 3, 1) := by decide +kernel
theorem dX3_moveAll_15 : decode cX3_moveAll 15 = .ok (.invokevirtual 34, 3) := by decide +kernel
theorem dX3_moveAll_18 : decode cX3_moveAll 18 = .ok (.iload_n 1, 1) := by decide +kernel
theorem dX3_moveAll_19 : decode cX3_moveAll 19 = .ok (.if_icmp .ne 12, 3) := by decide +kernel
theorem dX3_moveAll_22 : decode cX3_moveAll 22 = .ok (.aload_n 0, 1) := by decide +kernel
theorem dX3_moveAll_23 : decode cX3_moveAll 23 = .ok (.getfield 23, 3) := by decide +kernel
theorem dX3_moveAll_26 : decode cX3_moveAll 26 = .ok (.iload_n 3, 1) := by decide +kernel
theorem dX3_moveAll_27 : decode cX3_moveAll 27 = .ok (.iload_n 2, 1) := by decide +kernel
theorem dX3_moveAll_28 : decode cX3_moveAll 28 = .ok (.invokevirtual 42, 3) := by decide +kernel
theorem dX3_moveAll_31 : decode cX3_moveAll 31 = .ok (.iinc 3 1, 3) := by decide +kernel
theorem dX3_moveAll_34 : decode cX3_moveAll 34 = .ok (.goto (-32), 3) := by decide +kernel
theorem dX3_moveAll_37 : decode cX3_moveAll 37 = .ok (.return_, 1) := by decide +kernel
set_option maxRecDepth 20000 in
theorem ggX3_countOf_X4_at : GoodIn wsX3_countOf wsX4_at := goodIn_ca (goodIn_r _ [7, 8, 13] (by decide +kernel) (by decide +kernel)) (goodIn_sub (fun _ h => List.mem_cons_of_mem _ (List.mem_append_right _ h)) (by decide +kernel))
set_option maxRecDepth 20000 in
theorem gX3_countOf_X4_at : GoodIn wsX3_countOf (wsV RX3 34 RX4 yX4_at wsX4_at) := goodIn_app (goodIn_of _ (by decide +kernel)) ggX3_countOf_X4_at
theorem dX3_countOf_0 : decode cX3_countOf 0 = .ok (.iconst 0, 1) := by decide +kernel
theorem dX3_countOf_1 : decode cX3_countOf 1 = .ok (.istore_n 2, 1) := by decide +kernel
theorem dX3_countOf_2 : decode cX3_countOf 2 = .ok (.iconst 0, 1) := by decide +kernel
theorem dX3_countOf_3 : decode cX3_countOf 3 = .ok (.istore_n 3, 1) := by decide +kernel
theorem dX3_countOf_4 : decode cX3_countOf 4 = .ok (.iload_n 3, 1) := by decide +kernel
theorem dX3_countOf_5 : decode cX3_countOf 5 = .ok (.aload_n 0, 1) := by decide +kernel
theorem dX3_countOf_6 : decode cX3_countOf 6 = .ok (.getfield 26, 3) := by decide +kernel
theorem dX3_countOf_9 : decode cX3_countOf 9 = .ok (.if_icmp .ge 24, 3) := by decide +kernel
theorem dX3_countOf_12 : decode cX3_countOf 12 = .ok (.aload_n 0, 1) := by decide +kernel
theorem dX3_countOf_13 : decode cX3_countOf 13 = .ok (.getfield 23, 3) := by decide +kernel
theorem dX3_countOf_16 : decode cX3_countOf 16 = .ok (.iload_n 3, 1) := by decide +kernel
theorem dX3_countOf_17 : decode cX3_countOf 17 = .ok (.invokevirtual 34, 3) := by decide +kernel
theorem dX3_countOf_20 : decode cX3_countOf 20 = .ok (.iload_n 1, 1) := by decide +kernel
theorem dX3_countOf_21 : decode cX3_countOf 21 = .ok (.if_icmp .ne 6, 3) := by decide +kernel
theorem dX3_countOf_24 : decode cX3_countOf 24 = .ok (.iinc 2 1, 3) := by decide +kernel
theorem dX3_countOf_27 : decode cX3_countOf 27 = .ok (.iinc 3 1, 3) := by decide +kernel
theorem dX3_countOf_30 : decode cX3_countOf 30 = .ok (.goto (-26), 3) := by decide +kernel
theorem dX3_countOf_33 : decode cX3_countOf 33 = .ok (.iload_n 2, 1) := by decide +kernel
theorem dX3_countOf_34 : decode cX3_countOf 34 = .ok (.ireturn, 1) := by decide +kernel
set_option maxRecDepth 20000 in
theorem ggX3_placeOf_X4_at : GoodIn wsX3_placeOf wsX4_at := goodIn_ca (goodIn_r _ [7, 8, 13] (by decide +kernel) (by decide +kernel)) (goodIn_sub (fun _ h => List.mem_cons_of_mem _ (List.mem_append_right _ h)) (by decide +kernel))
set_option maxRecDepth 20000 in
theorem gX3_placeOf_X4_at : GoodIn wsX3_placeOf (wsV RX3 34 RX4 yX4_at wsX4_at) := goodIn_app (goodIn_of _ (by decide +kernel)) ggX3_placeOf_X4_at
theorem dX3_placeOf_0 : decode cX3_placeOf 0 = .ok (.iconst 0, 1) := by decide +kernel
theorem dX3_placeOf_1 : decode cX3_placeOf 1 = .ok (.istore_n 3, 1) := by decide +kernel
theorem dX3_placeOf_2 : decode cX3_placeOf 2 = .ok (.iconst 0, 1) := by decide +kernel
theorem dX3_placeOf_3 : decode cX3_placeOf 3 = .ok (.istore 4, 2) := by decide +kernel
theorem dX3_placeOf_5 : decode cX3_placeOf 5 = .ok (.iload 4, 2) := by decide +kernel
theorem dX3_placeOf_7 : decode cX3_placeOf 7 = .ok (.aload_n 0, 1) := by decide +kernel
theorem dX3_placeOf_8 : decode cX3_placeOf 8 = .ok (.getfield 26, 3) := by decide +kernel
theorem dX3_placeOf_11 : decode cX3_placeOf 11 = .ok (.if_icmp .ge 33, 3) := by decide +kernel
theorem dX3_placeOf_14 : decode cX3_placeOf 14 = .ok (.aload_n 0, 1) := by decide +kernel
theorem dX3_placeOf_15 : decode cX3_placeOf 15 = .ok (.getfield 23, 3) := by decide +kernel
theorem dX3_placeOf_18 : decode cX3_placeOf 18 = .ok (.iload 4, 2) := by decide +kernel
theorem dX3_placeOf_20 : decode cX3_placeOf 20 = .ok (.invokevirtual 34, 3) := by decide +kernel
theorem dX3_placeOf_23 : decode cX3_placeOf 23 = .ok (.iload_n 1, 1) := by decide +kernel
theorem dX3_placeOf_24 : decode cX3_placeOf 24 = .ok (.if_icmp .ne 14, 3) := by decide +kernel
theorem dX3_placeOf_27 : decode cX3_placeOf 27 = .ok (.iload_n 3, 1) := by decide +kernel
theorem dX3_placeOf_28 : decode cX3_placeOf 28 = .ok (.iload_n 2, 1) := by decide +kernel
theorem dX3_placeOf_29 : decode cX3_placeOf 29 = .ok (.if_icmp .ne 6, 3) := by decide +kernel
theorem dX3_placeOf_32 : decode cX3_placeOf 32 = .ok (.iload 4, 2) := by decide +kernel
theorem dX3_placeOf_34 : decode cX3_placeOf 34 = .ok (.ireturn, 1) := by decide +kernel
theorem dX3_placeOf_35 : decode cX3_placeOf 35 = .ok (.iinc 3 1, 3) := by decide +kernel
theorem dX3_placeOf_38 : decode cX3_placeOf 38 = .ok (.iinc 4 1, 3) := by decide +kernel
theorem dX3_placeOf_41 : decode cX3_placeOf 41 = .ok (.goto (-36), 3) := by decide +kernel
theorem dX3_placeOf_44 : decode cX3_placeOf 44 = .ok (.iconst (-1), 1) := by decide +kernel
theorem dX3_placeOf_45 : decode cX3_placeOf 45 = .ok (.ireturn, 1) := by decide +kernel
set_option maxRecDepth 20000 in
theorem ggX3_fold_X3_startOf : GoodIn wsX3_fold wsX3_startOf := goodIn_r _ [7, 8, 9] (by decide +kernel) (by decide +kernel)
set_option maxRecDepth 20000 in
theorem gX3_fold_X3_startOf : GoodIn wsX3_fold (va_wsS RX3 46 yX3_startOf wsX3_startOf) := goodIn_app (goodIn_of _ (by decide +kernel)) ggX3_fold_X3_startOf
set_option maxRecDepth 20000 in
theorem ggX3_fold_X4_at : GoodIn wsX3_fold wsX4_at := goodIn_ca (goodIn_r _ [14, 15, 30] (by decide +kernel) (by decide +kernel)) (goodIn_sub (fun _ h => List.mem_cons_of_mem _ (List.mem_append_right _ h)) (by decide +kernel))
set_option maxRecDepth 20000 in
theorem gX3_fold_X4_at : GoodIn wsX3_fold (wsV RX3 34 RX4 yX4_at wsX4_at) := goodIn_app (goodIn_of _ (by decide +kernel)) ggX3_fold_X4_at
set_option maxRecDepth 20000 in
theorem ggX3_fold_X3_foldOne : GoodIn wsX3_fold wsX3_foldOne := goodIn_r _ [18, 19, 20, 21, 22, 23, 24, 25] (by decide +kernel) (by decide +kernel)
set_option maxRecDepth 20000 in
theorem gX3_fold_X3_foldOne : GoodIn wsX3_fold (va_wsS RX3 49 yX3_foldOne wsX3_foldOne) := goodIn_app (goodIn_of _ (by decide +kernel)) ggX3_fold_X3_foldOne
theorem dX3_fold_0 : decode cX3_fold 0 = .ok (.iload_n 2, 1) := by decide +kernel
theorem dX3_fold_1 : decode cX3_fold 1 = .ok (.invokestatic 46, 3) := by decide +kernel
theorem dX3_fold_4 : decode cX3_fold 4 = .ok (.istore_n 3, 1) := by decide +kernel
theorem dX3_fold_5 : decode cX3_fold 5 = .ok (.iconst 0, 1) := by decide +kernel
theorem dX3_fold_6 : decode cX3_fold 6 = .ok (.istore 4, 2) := by decide +kernel
theorem dX3_fold_8 : decode cX3_fold 8 = .ok (.iload 4, 2) := by decide +kernel
theorem dX3_fold_10 : decode cX3_fold 10 = .ok (.aload_n 0, 1) := by decide +kernel
theorem dX3_fold_11 : decode cX3_fold 11 = .ok (.getfield 26, 3) := by decide +kernel
theorem dX3_fold_14 : decode cX3_fold 14 = .ok (.if_icmp .ge 37, 3) := by decide +kernel
theorem dX3_fold_17 : decode cX3_fold 17 = .ok (.aload_n 0, 1) := by decide +kernel
theorem dX3_fold_18 : decode cX3_fold 18 = .ok (.getfield 23, 3) := by decide +kernel
theorem dX3_fold_21 : decode cX3_fold 21 = .ok (.iload 4, 2) := by decide +kernel
theorem dX3_fold_23 : decode cX3_fold 23 = .ok (.invokevirtual 34, 3) := by decide +kernel
theorem dX3_fold_26 : decode cX3_fold 26 = .ok (.iload_n 1, 1) := by decide +kernel
theorem dX3_fold_27 : decode cX3_fold 27 = .ok (.if_icmp .ne 18, 3) := by decide +kernel
theorem dX3_fold_30 : decode cX3_fold 30 = .ok (.iload_n 2, 1) := by decide +kernel
theorem dX3_fold_31 : decode cX3_fold 31 = .ok (.iload_n 3, 1) := by decide +kernel
theorem dX3_fold_32 : decode cX3_fold 32 = .ok (.aload_n 0, 1) := by decide +kernel
theorem dX3_fold_33 : decode cX3_fold 33 = .ok (.getfield 20, 3) := by decide +kernel
theorem dX3_fold_36 : decode cX3_fold 36 = .ok (.iload 4, 2) := by decide +kernel
theorem dX3_fold_38 : decode cX3_fold 38 = .ok (.invokevirtual 34, 3) := by decide +kernel
theorem dX3_fold_41 : decode cX3_fold 41 = .ok (.invokestatic 49, 3) := by decide +kernel
theorem dX3_fold_44 : decode cX3_fold 44 = .ok (.istore_n 3, 1) := by decide +kernel
theorem dX3_fold_45 : decode cX3_fold 45 = .ok (.iinc 4 1, 3) := by decide +kernel
theorem dX3_fold_48 : decode cX3_fold 48 = .ok (.goto (-40), 3) := by decide +kernel
theorem dX3_fold_51 : decode cX3_fold 51 = .ok (.iload_n 3, 1) := by decide +kernel
theorem dX3_fold_52 : decode cX3_fold 52 = .ok (.ireturn, 1) := by decide +kernel
theorem dX3_startOf_0 : decode cX3_startOf 0 = .ok (.iload_n 0, 1) := by decide +kernel
theorem dX3_startOf_1 : decode cX3_startOf 1 = .ok (.lookupswitch 33 #[(1, 27), (2, 30)], 27) := by decide +kernel
theorem dX3_startOf_28 : decode cX3_startOf 28 = .ok (.ldc 55, 2) := by decide +kernel
theorem dX3_startOf_30 : decode cX3_startOf 30 = .ok (.ireturn, 1) := by decide +kernel
theorem dX3_startOf_31 : decode cX3_startOf 31 = .ok (.ldc 56, 2) := by decide +kernel
theorem dX3_startOf_33 : decode cX3_startOf 33 = .ok (.ireturn, 1) := by decide +kernel
theorem dX3_startOf_34 : decode cX3_startOf 34 = .ok (.iconst 0, 1) := by decide +kernel
theorem dX3_startOf_35 : decode cX3_startOf 35 = .ok (.ireturn, 1) := by decide +kernel
theorem dX3_foldOne_0 : decode cX3_foldOne 0 = .ok (.iload_n 0, 1) := by decide +kernel
theorem dX3_foldOne_1 : decode cX3_foldOne 1 = .ok (.tableswitch 43 0 2 #[27, 31, 37], 27) := by decide +kernel
theorem dX3_foldOne_28 : decode cX3_foldOne 28 = .ok (.iload_n 1, 1) := by decide +kernel
theorem dX3_foldOne_29 : decode cX3_foldOne 29 = .ok (.iload_n 2, 1) := by decide +kernel
theorem dX3_foldOne_30 : decode cX3_foldOne 30 = .ok (.iadd, 1) := by decide +kernel
theorem dX3_foldOne_31 : decode cX3_foldOne 31 = .ok (.ireturn, 1) := by decide +kernel
theorem dX3_foldOne_32 : decode cX3_foldOne 32 = .ok (.iload_n 1, 1) := by decide +kernel
theorem dX3_foldOne_33 : decode cX3_foldOne 33 = .ok (.iload_n 2, 1) := by decide +kernel
theorem dX3_foldOne_34 : decode cX3_foldOne 34 = .ok (.invokestatic 57, 3) := by decide +kernel
theorem dX3_foldOne_37 : decode cX3_foldOne 37 = .ok (.ireturn, 1) := by decide +kernel
theorem dX3_foldOne_38 : decode cX3_foldOne 38 = .ok (.iload_n 1, 1) := by decide +kernel
theorem dX3_foldOne_39 : decode cX3_foldOne 39 = .ok (.iload_n 2, 1) := by decide +kernel
theorem dX3_foldOne_40 : decode cX3_foldOne 40 = .ok (.invokestatic 63, 3) := by decide +kernel
theorem dX3_foldOne_43 : decode cX3_foldOne 43 = .ok (.ireturn, 1) := by decide +kernel
theorem dX3_foldOne_44 : decode cX3_foldOne 44 = .ok (.iload_n 1, 1) := by decide +kernel
theorem dX3_foldOne_45 : decode cX3_foldOne 45 = .ok (.iconst 1, 1) := by decide +kernel
theorem dX3_foldOne_46 : decode cX3_foldOne 46 = .ok (.iadd, 1) := by decide +kernel
theorem dX3_foldOne_47 : decode cX3_foldOne 47 = .ok (.ireturn, 1) := by decide +kernel
theorem dX4_init_0 : decode cX4_init 0 = .ok (.aload_n 0, 1) := by decide +kernel
theorem dX4_init_1 : decode cX4_init 1 = .ok (.invokespecial 1, 3) := by decide +kernel
theorem dX4_init_4 : decode cX4_init 4 = .ok (.aload_n 0, 1) := by decide +kernel
theorem dX4_init_5 : decode cX4_init 5 = .ok (.iconst 0, 1) := by decide +kernel
theorem dX4_init_6 : decode cX4_init 6 = .ok (.iload_n 1, 1) := by decide +kernel
theorem dX4_init_7 : decode cX4_init 7 = .ok (.invokestatic 7, 3) := by decide +kernel
theorem dX4_init_10 : decode cX4_init 10 = .ok (.newarray .int, 2) := by decide +kernel
theorem dX4_init_12 : decode cX4_init 12 = .ok (.putfield 13, 3) := by decide +kernel
theorem dX4_init_15 : decode cX4_init 15 = .ok (.return_, 1) := by decide +kernel
theorem dX4_at_0 : decode cX4_at 0 = .ok (.iload_n 1, 1) := by decide +kernel
theorem dX4_at_1 : decode cX4_at 1 = .ok (.ifCond .lt 21, 3) := by decide +kernel
theorem dX4_at_4 : decode cX4_at 4 = .ok (.iload_n 1, 1) := by decide +kernel
theorem dX4_at_5 : decode cX4_at 5 = .ok (.aload_n 0, 1) := by decide +kernel
theorem dX4_at_6 : decode cX4_at 6 = .ok (.getfield 13, 3) := by decide +kernel
theorem dX4_at_9 : decode cX4_at 9 = .ok (.arraylength, 1) := by decide +kernel
theorem dX4_at_10 : decode cX4_at 10 = .ok (.if_icmp .ge 12, 3) := by decide +kernel
theorem dX4_at_13 : decode cX4_at 13 = .ok (.aload_n 0, 1) := by decide +kernel
theorem dX4_at_14 : decode cX4_at 14 = .ok (.getfield 13, 3) := by decide +kernel
theorem dX4_at_17 : decode cX4_at 17 = .ok (.iload_n 1, 1) := by decide +kernel
theorem dX4_at_18 : decode cX4_at 18 = .ok (.iaload, 1) := by decide +kernel
theorem dX4_at_19 : decode cX4_at 19 = .ok (.goto 4, 3) := by decide +kernel
theorem dX4_at_22 : decode cX4_at 22 = .ok (.iconst 0, 1) := by decide +kernel
theorem dX4_at_23 : decode cX4_at 23 = .ok (.ireturn, 1) := by decide +kernel
theorem dX4_put_0 : decode cX4_put 0 = .ok (.iload_n 1, 1) := by decide +kernel
theorem dX4_put_1 : decode cX4_put 1 = .ok (.ifCond .lt 19, 3) := by decide +kernel
theorem dX4_put_4 : decode cX4_put 4 = .ok (.iload_n 1, 1) := by decide +kernel
theorem dX4_put_5 : decode cX4_put 5 = .ok (.aload_n 0, 1) := by decide +kernel
theorem dX4_put_6 : decode cX4_put 6 = .ok (.getfield 13, 3) := by decide +kernel
theorem dX4_put_9 : decode cX4_put 9 = .ok (.arraylength, 1) := by decide +kernel
theorem dX4_put_10 : decode cX4_put 10 = .ok (.if_icmp .ge 10, 3) := by decide +kernel
theorem dX4_put_13 : decode cX4_put 13 = .ok (.aload_n 0, 1) := by decide +kernel
theorem dX4_put_14 : decode cX4_put 14 = .ok (.getfield 13, 3) := by decide +kernel
theorem dX4_put_17 : decode cX4_put 17 = .ok (.iload_n 1, 1) := by decide +kernel
theorem dX4_put_18 : decode cX4_put 18 = .ok (.iload_n 2, 1) := by decide +kernel
theorem dX4_put_19 : decode cX4_put 19 = .ok (.iastore, 1) := by decide +kernel
theorem dX4_put_20 : decode cX4_put 20 = .ok (.return_, 1) := by decide +kernel
theorem dX4_fillWith_0 : decode cX4_fillWith 0 = .ok (.iconst 0, 1) := by decide +kernel
theorem dX4_fillWith_1 : decode cX4_fillWith 1 = .ok (.istore_n 2, 1) := by decide +kernel
theorem dX4_fillWith_2 : decode cX4_fillWith 2 = .ok (.iload_n 2, 1) := by decide +kernel
theorem dX4_fillWith_3 : decode cX4_fillWith 3 = .ok (.aload_n 0, 1) := by decide +kernel
theorem dX4_fillWith_4 : decode cX4_fillWith 4 = .ok (.getfield 13, 3) := by decide +kernel
theorem dX4_fillWith_7 : decode cX4_fillWith 7 = .ok (.arraylength, 1) := by decide +kernel
theorem dX4_fillWith_8 : decode cX4_fillWith 8 = .ok (.if_icmp .ge 16, 3) := by decide +kernel
theorem dX4_fillWith_11 : decode cX4_fillWith 11 = .ok (.aload_n 0, 1) := by decide +kernel
theorem dX4_fillWith_12 : decode cX4_fillWith 12 = .ok (.getfield 13, 3) := by decide +kernel
theorem dX4_fillWith_15 : decode cX4_fillWith 15 = .ok (.iload_n 2, 1) := by decide +kernel
theorem dX4_fillWith_16 : decode cX4_fillWith 16 = .ok (.iload_n 1, 1) := by decide +kernel
theorem dX4_fillWith_17 : decode cX4_fillWith 17 = .ok (.iastore, 1) := by decide +kernel
theorem dX4_fillWith_18 : decode cX4_fillWith 18 = .ok (.iinc 2 1, 3) := by decide +kernel
theorem dX4_fillWith_21 : decode cX4_fillWith 21 = .ok (.goto (-19), 3) := by decide +kernel
theorem dX4_fillWith_24 : decode cX4_fillWith 24 = .ok (.return_, 1) := by decide +kernel
set_option maxRecDepth 20000 in
theorem ggX4_insert_X4_at : GoodIn wsX4_insert wsX4_at := goodIn_ca (goodIn_r _ [10, 1, 15] (by decide +kernel) (by decide +kernel)) (goodIn_sub (fun _ h => List.mem_cons_of_mem _ (List.mem_append_right _ h)) (by decide +kernel))
set_option maxRecDepth 20000 in
theorem gX4_insert_X4_at : GoodIn wsX4_insert (wsV RX4 22 RX4 yX4_at wsX4_at) := goodIn_app (goodIn_of _ (by decide +kernel)) ggX4_insert_X4_at
set_option maxRecDepth 20000 in
theorem ggX4_insert_X4_put : GoodIn wsX4_insert wsX4_put := goodIn_ca (goodIn_r _ [14, 1, 15] (by decide +kernel) (by decide +kernel)) (goodIn_sub (fun _ h => List.mem_cons_of_mem _ (List.mem_append_right _ h)) (by decide +kernel))
set_option maxRecDepth 20000 in
theorem gX4_insert_X4_put : GoodIn wsX4_insert (wsV RX4 26 RX4 yX4_put wsX4_put) := goodIn_app (goodIn_of _ (by decide +kernel)) ggX4_insert_X4_put
theorem dX4_insert_0 : decode cX4_insert 0 = .ok (.iload_n 3, 1) := by decide +kernel
theorem dX4_insert_1 : decode cX4_insert 1 = .ok (.aload_n 0, 1) := by decide +kernel
theorem dX4_insert_2 : decode cX4_insert 2 = .ok (.getfield 13, 3) := by decide +kernel
theorem dX4_insert_5 : decode cX4_insert 5 = .ok (.arraylength, 1) := by decide +kernel
theorem dX4_insert_6 : decode cX4_insert 6 = .ok (.iconst 1, 1) := by decide +kernel
theorem dX4_insert_7 : decode cX4_insert 7 = .ok (.isub, 1) := by decide +kernel
theorem dX4_insert_8 : decode cX4_insert 8 = .ok (.invokestatic 19, 3) := by decide +kernel
theorem dX4_insert_11 : decode cX4_insert 11 = .ok (.istore 4, 2) := by decide +kernel
theorem dX4_insert_13 : decode cX4_insert 13 = .ok (.iload 4, 2) := by decide +kernel
theorem dX4_insert_15 : decode cX4_insert 15 = .ok (.iload_n 1, 1) := by decide +kernel
theorem dX4_insert_16 : decode cX4_insert 16 = .ok (.if_icmp .le 23, 3) := by decide +kernel
theorem dX4_insert_19 : decode cX4_insert 19 = .ok (.aload_n 0, 1) := by decide +kernel
theorem dX4_insert_20 : decode cX4_insert 20 = .ok (.iload 4, 2) := by decide +kernel
theorem dX4_insert_22 : decode cX4_insert 22 = .ok (.aload_n 0, 1) := by decide +kernel
theorem dX4_insert_23 : decode cX4_insert 23 = .ok (.iload 4, 2) := by decide +kernel
theorem dX4_insert_25 : decode cX4_insert 25 = .ok (.iconst 1, 1) := by decide +kernel
theorem dX4_insert_26 : decode cX4_insert 26 = .ok (.isub, 1) := by decide +kernel
theorem dX4_insert_27 : decode cX4_insert 27 = .ok (.invokevirtual 22, 3) := by decide +kernel
theorem dX4_insert_30 : decode cX4_insert 30 = .ok (.invokevirtual 26, 3) := by decide +kernel
theorem dX4_insert_33 : decode cX4_insert 33 = .ok (.iinc 4 (-1), 3) := by decide +kernel
theorem dX4_insert_36 : decode cX4_insert 36 = .ok (.goto (-23), 3) := by decide +kernel
theorem dX4_insert_39 : decode cX4_insert 39 = .ok (.aload_n 0, 1) := by decide +kernel
theorem dX4_insert_40 : decode cX4_insert 40 = .ok (.iload_n 1, 1) := by decide +kernel
theorem dX4_insert_41 : decode cX4_insert 41 = .ok (.iload_n 2, 1) := by decide +kernel
theorem dX4_insert_42 : decode cX4_insert 42 = .ok (.invokevirtual 26, 3) := by decide +kernel
theorem dX4_insert_45 : decode cX4_insert 45 = .ok (.return_, 1) := by decide +kernel
set_option maxRecDepth 20000 in
theorem ggX4_copyFrom_X4_at : GoodIn wsX4_copyFrom wsX4_at := goodIn_ca (goodIn_r _ [6, 1, 7] (by decide +kernel) (by decide +kernel)) (goodIn_sub (fun _ h => List.mem_cons_of_mem _ (List.mem_append_right _ h)) (by decide +kernel))
set_option maxRecDepth 20000 in
theorem gX4_copyFrom_X4_at : GoodIn wsX4_copyFrom (wsV RX4 22 RX4 yX4_at wsX4_at) := goodIn_app (goodIn_of _ (by decide +kernel)) ggX4_copyFrom_X4_at
theorem dX4_copyFrom_0 : decode cX4_copyFrom 0 = .ok (.iconst 0, 1) := by decide +kernel
theorem dX4_copyFrom_1 : decode cX4_copyFrom 1 = .ok (.istore_n 2, 1) := by decide +kernel
theorem dX4_copyFrom_2 : decode cX4_copyFrom 2 = .ok (.iload_n 2, 1) := by decide +kernel
theorem dX4_copyFrom_3 : decode cX4_copyFrom 3 = .ok (.aload_n 0, 1) := by decide +kernel
theorem dX4_copyFrom_4 : decode cX4_copyFrom 4 = .ok (.getfield 13, 3) := by decide +kernel
theorem dX4_copyFrom_7 : decode cX4_copyFrom 7 = .ok (.arraylength, 1) := by decide +kernel
theorem dX4_copyFrom_8 : decode cX4_copyFrom 8 = .ok (.if_icmp .ge 28, 3) := by decide +kernel
theorem dX4_copyFrom_11 : decode cX4_copyFrom 11 = .ok (.aload_n 0, 1) := by decide +kernel
theorem dX4_copyFrom_12 : decode cX4_copyFrom 12 = .ok (.getfield 13, 3) := by decide +kernel
theorem dX4_copyFrom_15 : decode cX4_copyFrom 15 = .ok (.iload_n 2, 1) := by decide +kernel
theorem dX4_copyFrom_16 : decode cX4_copyFrom 16 = .ok (.aload_n 1, 1) := by decide +kernel
theorem dX4_copyFrom_17 : decode cX4_copyFrom 17 = .ok (.ifnonnull 7, 3) := by decide +kernel
theorem dX4_copyFrom_20 : decode cX4_copyFrom 20 = .ok (.iconst 0, 1) := by decide +kernel
theorem dX4_copyFrom_21 : decode cX4_copyFrom 21 = .ok (.goto 8, 3) := by decide +kernel
theorem dX4_copyFrom_24 : decode cX4_copyFrom 24 = .ok (.aload_n 1, 1) := by decide +kernel
theorem dX4_copyFrom_25 : decode cX4_copyFrom 25 = .ok (.iload_n 2, 1) := by decide +kernel
theorem dX4_copyFrom_26 : decode cX4_copyFrom 26 = .ok (.invokevirtual 22, 3) := by decide +kernel
theorem dX4_copyFrom_29 : decode cX4_copyFrom 29 = .ok (.iastore, 1) := by decide +kernel
theorem dX4_copyFrom_30 : decode cX4_copyFrom 30 = .ok (.iinc 2 1, 3) := by decide +kernel
theorem dX4_copyFrom_33 : decode cX4_copyFrom 33 = .ok (.goto (-31), 3) := by decide +kernel
theorem dX4_copyFrom_36 : decode cX4_copyFrom 36 = .ok (.return_, 1) := by decide +kernel
set_option maxRecDepth 20000 in
theorem ggX5_init_X4_init : GoodIn wsX5_init wsX4_init := goodIn_r _ [16, 17, 2, 3, 18, 19, 20, 21, 22, 23, 24] (by decide +kernel) (by decide +kernel)
set_option maxRecDepth 20000 in
theorem gX5_init_X4_init : GoodIn wsX5_init (wsX4_init) := ggX5_init_X4_init
theorem dX5_init_0 : decode cX5_init 0 = .ok (.aload_n 0, 1) := by decide +kernel
theorem dX5_init_1 : decode cX5_init 1 = .ok (.invokespecial 3, 3) := by decide +kernel
theorem dX5_init_4 : decode cX5_init 4 = .ok (.aload_n 0, 1) := by decide +kernel
theorem dX5_init_5 : decode cX5_init 5 = .ok (.new 9, 3) := by decide +kernel
theorem dX5_init_8 : decode cX5_init 8 = .ok (.dup, 1) := by decide +kernel
theorem dX5_init_9 : decode cX5_init 9 = .ok (.bipush 40, 2) := by decide +kernel
theorem dX5_init_11 : decode cX5_init 11 = .ok (.invokespecial 11, 3) := by decide +kernel
theorem dX5_init_14 : decode cX5_init 14 = .ok (.putfield 14, 3) := by decide +kernel
theorem dX5_init_17 : decode cX5_init 17 = .ok (.aload_n 0, 1) := by decide +kernel
theorem dX5_init_18 : decode cX5_init 18 = .ok (.iconst 0, 1) := by decide +kernel
theorem dX5_init_19 : decode cX5_init 19 = .ok (.putfield 20, 3) := by decide +kernel
theorem dX5_init_22 : decode cX5_init 22 = .ok (.aload_n 0, 1) := by decide +kernel
theorem dX5_init_23 : decode cX5_init 23 = .ok (.iconst 0, 1) := by decide +kernel
theorem dX5_init_24 : decode cX5_init 24 = .ok (.putfield 24, 3) := by decide +kernel
theorem dX5_init_27 : decode cX5_init 27 = .ok (.aload_n 0, 1) := by decide +kernel
theorem dX5_init_28 : decode cX5_init 28 = .ok (.new 9, 3) := by decide +kernel
theorem dX5_init_31 : decode cX5_init 31 = .ok (.dup, 1) := by decide +kernel
theorem dX5_init_32 : decode cX5_init 32 = .ok (.bipush 14, 2) := by decide +kernel
theorem dX5_init_34 : decode cX5_init 34 = .ok (.invokespecial 11, 3) := by decide +kernel
theorem dX5_init_37 : decode cX5_init 37 = .ok (.putfield 27, 3) := by decide +kernel
theorem dX5_init_40 : decode cX5_init 40 = .ok (.aload_n 0, 1) := by decide +kernel
theorem dX5_init_41 : decode cX5_init 41 = .ok (.new 9, 3) := by decide +kernel
theorem dX5_init_44 : decode cX5_init 44 = .ok (.dup, 1) := by decide +kernel
theorem dX5_init_45 : decode cX5_init 45 = .ok (.bipush 14, 2) := by decide +kernel
theorem dX5_init_47 : decode cX5_init 47 = .ok (.invokespecial 11, 3) := by decide +kernel
theorem dX5_init_50 : decode cX5_init 50 = .ok (.putfield 30, 3) := by decide +kernel
theorem dX5_init_53 : decode cX5_init 53 = .ok (.aload_n 0, 1) := by decide +kernel
theorem dX5_init_54 : decode cX5_init 54 = .ok (.new 9, 3) := by decide +kernel
theorem dX5_init_57 : decode cX5_init 57 = .ok (.dup, 1) := by decide +kernel
theorem dX5_init_58 : decode cX5_init 58 = .ok (.bipush 14, 2) := by decide +kernel
theorem dX5_init_60 : decode cX5_init 60 = .ok (.invokespecial 11, 3) := by decide +kernel
theorem dX5_init_63 : decode cX5_init 63 = .ok (.putfield 33, 3) := by decide +kernel
theorem dX5_init_66 : decode cX5_init 66 = .ok (.aload_n 0, 1) := by decide +kernel
theorem dX5_init_67 : decode cX5_init 67 = .ok (.iconst 0, 1) := by decide +kernel
theorem dX5_init_68 : decode cX5_init 68 = .ok (.putfield 36, 3) := by decide +kernel
theorem dX5_init_71 : decode cX5_init 71 = .ok (.return_, 1) := by decide +kernel
set_option maxRecDepth 20000 in
theorem ggX5_lengthen_X4_put : GoodIn wsX5_lengthen wsX4_put := goodIn_ca (goodIn_r _ [7, 8, 16] (by decide +kernel) (by decide +kernel)) (goodIn_sub (fun _ h => List.mem_cons_of_mem _ (List.mem_append_right _ h)) (by decide +kernel))
set_option maxRecDepth 20000 in
theorem gX5_lengthen_X4_put : GoodIn wsX5_lengthen (wsV RX5 39 RX4 yX4_put wsX4_put) := goodIn_app (goodIn_of _ (by decide +kernel)) ggX5_lengthen_X4_put
theorem dX5_lengthen_0 : decode cX5_lengthen 0 = .ok (.aload_n 0, 1) := by decide +kernel
theorem dX5_lengthen_1 : decode cX5_lengthen 1 = .ok (.getfield 14, 3) := by decide +kernel
theorem dX5_lengthen_4 : decode cX5_lengthen 4 = .ok (.aload_n 0, 1) := by decide +kernel
theorem dX5_lengthen_5 : decode cX5_lengthen 5 = .ok (.getfield 20, 3) := by decide +kernel
theorem dX5_lengthen_8 : decode cX5_lengthen 8 = .ok (.iload_n 1, 1) := by decide +kernel
theorem dX5_lengthen_9 : decode cX5_lengthen 9 = .ok (.invokevirtual 39, 3) := by decide +kernel
theorem dX5_lengthen_12 : decode cX5_lengthen 12 = .ok (.aload_n 0, 1) := by decide +kernel
theorem dX5_lengthen_13 : decode cX5_lengthen 13 = .ok (.dup, 1) := by decide +kernel
theorem dX5_lengthen_14 : decode cX5_lengthen 14 = .ok (.getfield 20, 3) := by decide +kernel
theorem dX5_lengthen_17 : decode cX5_lengthen 17 = .ok (.iconst 1, 1) := by decide +kernel
theorem dX5_lengthen_18 : decode cX5_lengthen 18 = .ok (.iadd, 1) := by decide +kernel
theorem dX5_lengthen_19 : decode cX5_lengthen 19 = .ok (.putfield 20, 3) := by decide +kernel
theorem dX5_lengthen_22 : decode cX5_lengthen 22 = .ok (.aload_n 0, 1) := by decide +kernel
theorem dX5_lengthen_23 : decode cX5_lengthen 23 = .ok (.getfield 20, 3) := by decide +kernel
theorem dX5_lengthen_26 : decode cX5_lengthen 26 = .ok (.ireturn, 1) := by decide +kernel
set_option maxRecDepth 20000 in
theorem ggX5_parse_X5_parseEntry : GoodIn wsX5_parse wsX5_parseEntry := goodIn_ca (goodIn_r _ [8, 9, 10, 11, 7, 12, 1, 3, 13, 14, 15, 16, 17, 18, 19, 20, 21, 22, 23, 24, 25, 26, 27, 28, 29, 30, 31, 32, 33, 34, 35, 36, 2, 37, 38, 39, 40, 41, 42, 43, 44, 45, 46, 47, 48, 49, 50, 51, 52, 53, 54] (by decide +kernel) (by decide +kernel)) (goodIn_sub (fun _ h => List.mem_cons_of_mem _ (List.mem_append_right _ h)) (by decide +kernel))
set_option maxRecDepth 20000 in
theorem gX5_parse_X5_parseEntry : GoodIn wsX5_parse (wsV RX5 43 RX5 yX5_parseEntry wsX5_parseEntry) := goodIn_app (goodIn_of _ (by decide +kernel)) ggX5_parse_X5_parseEntry
theorem dX5_parse_0 : decode cX5_parse 0 = .ok (.aload_n 0, 1) := by decide +kernel
theorem dX5_parse_1 : decode cX5_parse 1 = .ok (.iconst 0, 1) := by decide +kernel
theorem dX5_parse_2 : decode cX5_parse 2 = .ok (.putfield 24, 3) := by decide +kernel
theorem dX5_parse_5 : decode cX5_parse 5 = .ok (.aload_n 0, 1) := by decide +kernel
theorem dX5_parse_6 : decode cX5_parse 6 = .ok (.iconst 0, 1) := by decide +kernel
theorem dX5_parse_7 : decode cX5_parse 7 = .ok (.putfield 36, 3) := by decide +kernel
theorem dX5_parse_10 : decode cX5_parse 10 = .ok (.iconst 0, 1) := by decide +kernel
theorem dX5_parse_11 : decode cX5_parse 11 = .ok (.istore_n 1, 1) := by decide +kernel
theorem dX5_parse_12 : decode cX5_parse 12 = .ok (.iload_n 1, 1) := by decide +kernel
theorem dX5_parse_13 : decode cX5_parse 13 = .ok (.bipush 14, 2) := by decide +kernel
theorem dX5_parse_15 : decode cX5_parse 15 = .ok (.if_icmp .ge 31, 3) := by decide +kernel
theorem dX5_parse_18 : decode cX5_parse 18 = .ok (.aload_n 0, 1) := by decide +kernel
theorem dX5_parse_19 : decode cX5_parse 19 = .ok (.invokevirtual 43, 3) := by decide +kernel
theorem dX5_parse_22 : decode cX5_parse 22 = .ok (.ifCond .ne 5, 3) := by decide +kernel
theorem dX5_parse_25 : decode cX5_parse 25 = .ok (.iconst 0, 1) := by decide +kernel
theorem dX5_parse_26 : decode cX5_parse 26 = .ok (.ireturn, 1) := by decide +kernel
theorem dX5_parse_27 : decode cX5_parse 27 = .ok (.aload_n 0, 1) := by decide +kernel
theorem dX5_parse_28 : decode cX5_parse 28 = .ok (.getfield 24, 3) := by decide +kernel
theorem dX5_parse_31 : decode cX5_parse 31 = .ok (.aload_n 0, 1) := by decide +kernel
theorem dX5_parse_32 : decode cX5_parse 32 = .ok (.getfield 20, 3) := by decide +kernel
theorem dX5_parse_35 : decode cX5_parse 35 = .ok (.if_icmp .lt 5, 3) := by decide +kernel
theorem dX5_parse_38 : decode cX5_parse 38 = .ok (.iconst 1, 1) := by decide +kernel
theorem dX5_parse_39 : decode cX5_parse 39 = .ok (.ireturn, 1) := by decide +kernel
theorem dX5_parse_40 : decode cX5_parse 40 = .ok (.iinc 1 1, 3) := by decide +kernel
theorem dX5_parse_43 : decode cX5_parse 43 = .ok (.goto (-31), 3) := by decide +kernel
theorem dX5_parse_46 : decode cX5_parse 46 = .ok (.iconst 0, 1) := by decide +kernel
theorem dX5_parse_47 : decode cX5_parse 47 = .ok (.ireturn, 1) := by decide +kernel
set_option maxRecDepth 20000 in
theorem ggX5_parseEntry_X5_takeSign : GoodIn wsX5_parseEntry wsX5_takeSign := goodIn_ca (goodIn_r _ [5, 6, 7, 8, 9, 10, 11, 12, 13, 14, 43, 44, 45, 46, 47, 48, 49, 50] (by decide +kernel) (by decide +kernel)) (goodIn_sub (fun _ h => List.mem_cons_of_mem _ (List.mem_append_right _ h)) (by decide +kernel))
set_option maxRecDepth 20000 in
theorem gX5_parseEntry_X5_takeSign : GoodIn wsX5_parseEntry (wsV RX5 47 RX5 yX5_takeSign wsX5_takeSign) := goodIn_app (goodIn_of _ (by decide +kernel)) ggX5_parseEntry_X5_takeSign
set_option maxRecDepth 20000 in
theorem ggX5_parseEntry_X5_parseRecord : GoodIn wsX5_parseEntry wsX5_parseRecord := goodIn_ca (goodIn_r _ [18, 19, 20, 21, 4, 22, 6, 7, 8, 9, 10, 11, 12, 13, 14, 1, 2, 3, 5, 23, 24, 25, 26, 27, 28, 29, 30, 31, 32, 33, 34, 35, 36, 37, 38, 43, 44, 45, 46, 47, 48, 49, 50] (by decide +kernel) (by decide +kernel)) (goodIn_sub (fun _ h => List.mem_cons_of_mem _ (List.mem_append_right _ h)) (by decide +kernel))
set_option maxRecDepth 20000 in
theorem gX5_parseEntry_X5_parseRecord : GoodIn wsX5_parseEntry (wsV RX5 51 RX5 yX5_parseRecord wsX5_parseRecord) := goodIn_app (goodIn_of _ (by decide +kernel)) ggX5_parseEntry_X5_parseRecord
set_option maxRecDepth 20000 in
theorem ggX5_parseEntry_X5_parseWatermark : GoodIn wsX5_parseEntry wsX5_parseWatermark := goodIn_ca (goodIn_r _ [42, 23, 24, 25, 4, 26, 19, 20, 21, 22, 6, 7, 8, 9, 10, 11, 12, 13, 14, 1, 2, 3, 5, 27, 28, 29, 30, 31, 32, 33, 34, 35, 36, 37, 38, 43, 44, 45, 46, 47, 48, 49, 50] (by decide +kernel) (by decide +kernel)) (goodIn_sub (fun _ h => List.mem_cons_of_mem _ (List.mem_append_right _ h)) (by decide +kernel))
set_option maxRecDepth 20000 in
theorem gX5_parseEntry_X5_parseWatermark : GoodIn wsX5_parseEntry (wsV RX5 54 RX5 yX5_parseWatermark wsX5_parseWatermark) := goodIn_app (goodIn_of _ (by decide +kernel)) ggX5_parseEntry_X5_parseWatermark
theorem dX5_parseEntry_0 : decode cX5_parseEntry 0 = .ok (.aload_n 0, 1) := by decide +kernel
theorem dX5_parseEntry_1 : decode cX5_parseEntry 1 = .ok (.bipush 114, 2) := by decide +kernel
theorem dX5_parseEntry_3 : decode cX5_parseEntry 3 = .ok (.invokevirtual 47, 3) := by decide +kernel
theorem dX5_parseEntry_6 : decode cX5_parseEntry 6 = .ok (.ifCond .eq 8, 3) := by decide +kernel
theorem dX5_parseEntry_9 : decode cX5_parseEntry 9 = .ok (.aload_n 0, 1) := by decide +kernel
theorem dX5_parseEntry_10 : decode cX5_parseEntry 10 = .ok (.invokevirtual 51, 3) := by decide +kernel
theorem dX5_parseEntry_13 : decode cX5_parseEntry 13 = .ok (.ireturn, 1) := by decide +kernel
theorem dX5_parseEntry_14 : decode cX5_parseEntry 14 = .ok (.aload_n 0, 1) := by decide +kernel
theorem dX5_parseEntry_15 : decode cX5_parseEntry 15 = .ok (.bipush 119, 2) := by decide +kernel
theorem dX5_parseEntry_17 : decode cX5_parseEntry 17 = .ok (.invokevirtual 47, 3) := by decide +kernel
theorem dX5_parseEntry_20 : decode cX5_parseEntry 20 = .ok (.ifCond .eq 14, 3) := by decide +kernel
theorem dX5_parseEntry_23 : decode cX5_parseEntry 23 = .ok (.aload_n 0, 1) := by decide +kernel
theorem dX5_parseEntry_24 : decode cX5_parseEntry 24 = .ok (.invokevirtual 54, 3) := by decide +kernel
theorem dX5_parseEntry_27 : decode cX5_parseEntry 27 = .ok (.ifCond .eq 7, 3) := by decide +kernel
theorem dX5_parseEntry_30 : decode cX5_parseEntry 30 = .ok (.iconst 1, 1) := by decide +kernel
theorem dX5_parseEntry_31 : decode cX5_parseEntry 31 = .ok (.goto 4, 3) := by decide +kernel
theorem dX5_parseEntry_34 : decode cX5_parseEntry 34 = .ok (.iconst 0, 1) := by decide +kernel
theorem dX5_parseEntry_35 : decode cX5_parseEntry 35 = .ok (.ireturn, 1) := by decide +kernel
set_option maxRecDepth 20000 in
theorem ggX5_parseRecord_X5_takeDigit : GoodIn wsX5_parseRecord wsX5_takeDigit := goodIn_ca (goodIn_r _ [5, 6, 7, 8, 9, 10, 11, 12, 13, 14, 35, 36, 37, 38, 39, 40, 41, 42] (by decide +kernel) (by decide +kernel)) (goodIn_sub (fun _ h => List.mem_cons_of_mem _ (List.mem_append_right _ h)) (by decide +kernel))
set_option maxRecDepth 20000 in
theorem gX5_parseRecord_X5_takeDigit : GoodIn wsX5_parseRecord (wsV RX5 57 RX5 yX5_takeDigit wsX5_takeDigit) := goodIn_app (goodIn_of _ (by decide +kernel)) ggX5_parseRecord_X5_takeDigit
set_option maxRecDepth 20000 in
theorem ggX5_parseRecord_X5_takeSign : GoodIn wsX5_parseRecord wsX5_takeSign := goodIn_ca (goodIn_r _ [18, 6, 7, 8, 9, 10, 11, 12, 13, 14, 35, 36, 37, 38, 39, 40, 41, 42] (by decide +kernel) (by decide +kernel)) (goodIn_sub (fun _ h => List.mem_cons_of_mem _ (List.mem_append_right _ h)) (by decide +kernel))
set_option maxRecDepth 20000 in
theorem gX5_parseRecord_X5_takeSign : GoodIn wsX5_parseRecord (wsV RX5 47 RX5 yX5_takeSign wsX5_takeSign) := goodIn_app (goodIn_of _ (by decide +kernel)) ggX5_parseRecord_X5_takeSign
set_option maxRecDepth 20000 in
theorem ggX5_parseRecord_X5_takeNumber : GoodIn wsX5_parseRecord wsX5_takeNumber := goodIn_ca (goodIn_r _ [22, 1, 2, 3, 4, 5, 6, 7, 8, 9, 10, 11, 12, 13, 14, 35, 36, 37, 38, 39, 40, 41, 42] (by decide +kernel) (by decide +kernel)) (goodIn_sub (fun _ h => List.mem_cons_of_mem _ (List.mem_append_right _ h)) (by decide +kernel))
set_option maxRecDepth 20000 in
theorem gX5_parseRecord_X5_takeNumber : GoodIn wsX5_parseRecord (wsV RX5 61 RX5 yX5_takeNumber wsX5_takeNumber) := goodIn_app (goodIn_of _ (by decide +kernel)) ggX5_parseRecord_X5_takeNumber
set_option maxRecDepth 20000 in
theorem ggX5_parseRecord_X5_noteEntry : GoodIn wsX5_parseRecord wsX5_noteEntry := goodIn_ca (goodIn_r _ [26, 27, 28, 29, 30, 31, 32, 33, 12, 34, 14, 35, 36, 37, 38, 39, 40, 41, 42] (by decide +kernel) (by decide +kernel)) (goodIn_sub (fun _ h => List.mem_cons_of_mem _ (List.mem_append_right _ h)) (by decide +kernel))
set_option maxRecDepth 20000 in
theorem gX5_parseRecord_X5_noteEntry : GoodIn wsX5_parseRecord (wsV RX5 64 RX5 yX5_noteEntry wsX5_noteEntry) := goodIn_app (goodIn_of _ (by decide +kernel)) ggX5_parseRecord_X5_noteEntry
theorem dX5_parseRecord_0 : decode cX5_parseRecord 0 = .ok (.aload_n 0, 1) := by decide +kernel
theorem dX5_parseRecord_1 : decode cX5_parseRecord 1 = .ok (.bipush 7, 2) := by decide +kernel
theorem dX5_parseRecord_3 : decode cX5_parseRecord 3 = .ok (.invokevirtual 57, 3) := by decide +kernel
theorem dX5_parseRecord_6 : decode cX5_parseRecord 6 = .ok (.istore_n 1, 1) := by decide +kernel
theorem dX5_parseRecord_7 : decode cX5_parseRecord 7 = .ok (.iload_n 1, 1) := by decide +kernel
theorem dX5_parseRecord_8 : decode cX5_parseRecord 8 = .ok (.iconst (-1), 1) := by decide +kernel
theorem dX5_parseRecord_9 : decode cX5_parseRecord 9 = .ok (.if_icmp .eq 12, 3) := by decide +kernel
theorem dX5_parseRecord_12 : decode cX5_parseRecord 12 = .ok (.aload_n 0, 1) := by decide +kernel
theorem dX5_parseRecord_13 : decode cX5_parseRecord 13 = .ok (.bipush 58, 2) := by decide +kernel
theorem dX5_parseRecord_15 : decode cX5_parseRecord 15 = .ok (.invokevirtual 47, 3) := by decide +kernel
theorem dX5_parseRecord_18 : decode cX5_parseRecord 18 = .ok (.ifCond .ne 5, 3) := by decide +kernel
theorem dX5_parseRecord_21 : decode cX5_parseRecord 21 = .ok (.iconst 0, 1) := by decide +kernel
theorem dX5_parseRecord_22 : decode cX5_parseRecord 22 = .ok (.ireturn, 1) := by decide +kernel
theorem dX5_parseRecord_23 : decode cX5_parseRecord 23 = .ok (.aload_n 0, 1) := by decide +kernel
theorem dX5_parseRecord_24 : decode cX5_parseRecord 24 = .ok (.iconst 4, 1) := by decide +kernel
theorem dX5_parseRecord_25 : decode cX5_parseRecord 25 = .ok (.invokevirtual 61, 3) := by decide +kernel
theorem dX5_parseRecord_28 : decode cX5_parseRecord 28 = .ok (.istore_n 2, 1) := by decide +kernel
theorem dX5_parseRecord_29 : decode cX5_parseRecord 29 = .ok (.iload_n 2, 1) := by decide +kernel
theorem dX5_parseRecord_30 : decode cX5_parseRecord 30 = .ok (.iconst (-1), 1) := by decide +kernel
theorem dX5_parseRecord_31 : decode cX5_parseRecord 31 = .ok (.if_icmp .eq 12, 3) := by decide +kernel
theorem dX5_parseRecord_34 : decode cX5_parseRecord 34 = .ok (.aload_n 0, 1) := by decide +kernel
theorem dX5_parseRecord_35 : decode cX5_parseRecord 35 = .ok (.bipush 61, 2) := by decide +kernel
theorem dX5_parseRecord_37 : decode cX5_parseRecord 37 = .ok (.invokevirtual 47, 3) := by decide +kernel
theorem dX5_parseRecord_40 : decode cX5_parseRecord 40 = .ok (.ifCond .ne 5, 3) := by decide +kernel
theorem dX5_parseRecord_43 : decode cX5_parseRecord 43 = .ok (.iconst 0, 1) := by decide +kernel
theorem dX5_parseRecord_44 : decode cX5_parseRecord 44 = .ok (.ireturn, 1) := by decide +kernel
theorem dX5_parseRecord_45 : decode cX5_parseRecord 45 = .ok (.aload_n 0, 1) := by decide +kernel
theorem dX5_parseRecord_46 : decode cX5_parseRecord 46 = .ok (.bipush 45, 2) := by decide +kernel
theorem dX5_parseRecord_48 : decode cX5_parseRecord 48 = .ok (.invokevirtual 47, 3) := by decide +kernel
theorem dX5_parseRecord_51 : decode cX5_parseRecord 51 = .ok (.istore_n 3, 1) := by decide +kernel
theorem dX5_parseRecord_52 : decode cX5_parseRecord 52 = .ok (.aload_n 0, 1) := by decide +kernel
theorem dX5_parseRecord_53 : decode cX5_parseRecord 53 = .ok (.iconst 3, 1) := by decide +kernel
theorem dX5_parseRecord_54 : decode cX5_parseRecord 54 = .ok (.invokevirtual 61, 3) := by decide +kernel
theorem dX5_parseRecord_57 : decode cX5_parseRecord 57 = .ok (.istore 4, 2) := by decide +kernel
theorem dX5_parseRecord_59 : decode cX5_parseRecord 59 = .ok (.iload 4, 2) := by decide +kernel
theorem dX5_parseRecord_61 : decode cX5_parseRecord 61 = .ok (.iconst (-1), 1) := by decide +kernel
theorem dX5_parseRecord_62 : decode cX5_parseRecord 62 = .ok (.if_icmp .eq 12, 3) := by decide +kernel
theorem dX5_parseRecord_65 : decode cX5_parseRecord 65 = .ok (.aload_n 0, 1) := by decide +kernel
theorem dX5_parseRecord_66 : decode cX5_parseRecord 66 = .ok (.bipush 59, 2) := by decide +kernel
theorem dX5_parseRecord_68 : decode cX5_parseRecord 68 = .ok (.invokevirtual 47, 3) := by decide +kernel
theorem dX5_parseRecord_71 : decode cX5_parseRecord 71 = .ok (.ifCond .ne 5, 3) := by decide +kernel
theorem dX5_parseRecord_74 : decode cX5_parseRecord 74 = .ok (.iconst 0, 1) := by decide +kernel
theorem dX5_parseRecord_75 : decode cX5_parseRecord 75 = .ok (.ireturn, 1) := by decide +kernel
theorem dX5_parseRecord_76 : decode cX5_parseRecord 76 = .ok (.aload_n 0, 1) := by decide +kernel
theorem dX5_parseRecord_77 : decode cX5_parseRecord 77 = .ok (.iload_n 1, 1) := by decide +kernel
theorem dX5_parseRecord_78 : decode cX5_parseRecord 78 = .ok (.iload_n 2, 1) := by decide +kernel
theorem dX5_parseRecord_79 : decode cX5_parseRecord 79 = .ok (.iload_n 3, 1) := by decide +kernel
theorem dX5_parseRecord_80 : decode cX5_parseRecord 80 = .ok (.ifCond .eq 9, 3) := by decide +kernel
theorem dX5_parseRecord_83 : decode cX5_parseRecord 83 = .ok (.iload 4, 2) := by decide +kernel
theorem dX5_parseRecord_85 : decode cX5_parseRecord 85 = .ok (.ineg, 1) := by decide +kernel
theorem dX5_parseRecord_86 : decode cX5_parseRecord 86 = .ok (.goto 5, 3) := by decide +kernel
theorem dX5_parseRecord_89 : decode cX5_parseRecord 89 = .ok (.iload 4, 2) := by decide +kernel
theorem dX5_parseRecord_91 : decode cX5_parseRecord 91 = .ok (.invokevirtual 64, 3) := by decide +kernel
theorem dX5_parseRecord_94 : decode cX5_parseRecord 94 = .ok (.iconst 1, 1) := by decide +kernel
theorem dX5_parseRecord_95 : decode cX5_parseRecord 95 = .ok (.ireturn, 1) := by decide +kernel
set_option maxRecDepth 20000 in
theorem ggX5_parseWatermark_X5_takeNumber : GoodIn wsX5_parseWatermark wsX5_takeNumber := goodIn_ca (goodIn_r _ [5, 6, 7, 8, 4, 9, 10, 11, 12, 13, 14, 15, 16, 17, 18, 35, 36, 37, 38, 39, 40, 41, 42] (by decide +kernel) (by decide +kernel)) (goodIn_sub (fun _ h => List.mem_cons_of_mem _ (List.mem_append_right _ h)) (by decide +kernel))
set_option maxRecDepth 20000 in
theorem gX5_parseWatermark_X5_takeNumber : GoodIn wsX5_parseWatermark (wsV RX5 61 RX5 yX5_takeNumber wsX5_takeNumber) := goodIn_app (goodIn_of _ (by decide +kernel)) ggX5_parseWatermark_X5_takeNumber
set_option maxRecDepth 20000 in
theorem ggX5_parseWatermark_X5_takeSign : GoodIn wsX5_parseWatermark wsX5_takeSign := goodIn_ca (goodIn_r _ [22, 10, 11, 12, 13, 14, 15, 16, 17, 18, 35, 36, 37, 38, 39, 40, 41, 42] (by decide +kernel) (by decide +kernel)) (goodIn_sub (fun _ h => List.mem_cons_of_mem _ (List.mem_append_right _ h)) (by decide +kernel))
set_option maxRecDepth 20000 in
theorem gX5_parseWatermark_X5_takeSign : GoodIn wsX5_parseWatermark (wsV RX5 47 RX5 yX5_takeSign wsX5_takeSign) := goodIn_app (goodIn_of _ (by decide +kernel)) ggX5_parseWatermark_X5_takeSign
set_option maxRecDepth 20000 in
theorem ggX5_parseWatermark_X5_noteEntry : GoodIn wsX5_parseWatermark wsX5_noteEntry := goodIn_ca (goodIn_r _ [26, 27, 28, 29, 30, 31, 32, 33, 16, 34, 18, 35, 36, 37, 38, 39, 40, 41, 42] (by decide +kernel) (by decide +kernel)) (goodIn_sub (fun _ h => List.mem_cons_of_mem _ (List.mem_append_right _ h)) (by decide +kernel))
set_option maxRecDepth 20000 in
theorem gX5_parseWatermark_X5_noteEntry : GoodIn wsX5_parseWatermark (wsV RX5 64 RX5 yX5_noteEntry wsX5_noteEntry) := goodIn_app (goodIn_of _ (by decide +kernel)) ggX5_parseWatermark_X5_noteEntry
theorem dX5_parseWatermark_0 : decode cX5_parseWatermark 0 = .ok (.aload_n 0, 1) := by decide +kernel
theorem dX5_parseWatermark_1 : decode cX5_parseWatermark 1 = .ok (.iconst 4, 1) := by decide +kernel
theorem dX5_parseWatermark_2 : decode cX5_parseWatermark 2 = .ok (.invokevirtual 61, 3) := by decide +kernel
theorem dX5_parseWatermark_5 : decode cX5_parseWatermark 5 = .ok (.istore_n 1, 1) := by decide +kernel
theorem dX5_parseWatermark_6 : decode cX5_parseWatermark 6 = .ok (.iload_n 1, 1) := by decide +kernel
theorem dX5_parseWatermark_7 : decode cX5_parseWatermark 7 = .ok (.iconst (-1), 1) := by decide +kernel
theorem dX5_parseWatermark_8 : decode cX5_parseWatermark 8 = .ok (.if_icmp .eq 12, 3) := by decide +kernel
theorem dX5_parseWatermark_11 : decode cX5_parseWatermark 11 = .ok (.aload_n 0, 1) := by decide +kernel
theorem dX5_parseWatermark_12 : decode cX5_parseWatermark 12 = .ok (.bipush 59, 2) := by decide +kernel
theorem dX5_parseWatermark_14 : decode cX5_parseWatermark 14 = .ok (.invokevirtual 47, 3) := by decide +kernel
theorem dX5_parseWatermark_17 : decode cX5_parseWatermark 17 = .ok (.ifCond .ne 5, 3) := by decide +kernel
theorem dX5_parseWatermark_20 : decode cX5_parseWatermark 20 = .ok (.iconst 0, 1) := by decide +kernel
theorem dX5_parseWatermark_21 : decode cX5_parseWatermark 21 = .ok (.ireturn, 1) := by decide +kernel
theorem dX5_parseWatermark_22 : decode cX5_parseWatermark 22 = .ok (.aload_n 0, 1) := by decide +kernel
theorem dX5_parseWatermark_23 : decode cX5_parseWatermark 23 = .ok (.iconst (-1), 1) := by decide +kernel
theorem dX5_parseWatermark_24 : decode cX5_parseWatermark 24 = .ok (.iload_n 1, 1) := by decide +kernel
theorem dX5_parseWatermark_25 : decode cX5_parseWatermark 25 = .ok (.iconst 0, 1) := by decide +kernel
theorem dX5_parseWatermark_26 : decode cX5_parseWatermark 26 = .ok (.invokevirtual 64, 3) := by decide +kernel
theorem dX5_parseWatermark_29 : decode cX5_parseWatermark 29 = .ok (.iconst 1, 1) := by decide +kernel
theorem dX5_parseWatermark_30 : decode cX5_parseWatermark 30 = .ok (.ireturn, 1) := by decide +kernel
set_option maxRecDepth 20000 in
theorem ggX5_noteEntry_X4_put : GoodIn wsX5_noteEntry wsX4_put := goodIn_ca (goodIn_r _ [9, 10, 18] (by decide +kernel) (by decide +kernel)) (goodIn_sub (fun _ h => List.mem_cons_of_mem _ (List.mem_append_right _ h)) (by decide +kernel))
set_option maxRecDepth 20000 in
theorem gX5_noteEntry_X4_put : GoodIn wsX5_noteEntry (wsV RX5 39 RX4 yX4_put wsX4_put) := goodIn_app (goodIn_of _ (by decide +kernel)) ggX5_noteEntry_X4_put
theorem dX5_noteEntry_0 : decode cX5_noteEntry 0 = .ok (.aload_n 0, 1) := by decide +kernel
theorem dX5_noteEntry_1 : decode cX5_noteEntry 1 = .ok (.getfield 27, 3) := by decide +kernel
theorem dX5_noteEntry_4 : decode cX5_noteEntry 4 = .ok (.aload_n 0, 1) := by decide +kernel
theorem dX5_noteEntry_5 : decode cX5_noteEntry 5 = .ok (.getfield 36, 3) := by decide +kernel
theorem dX5_noteEntry_8 : decode cX5_noteEntry 8 = .ok (.iload_n 1, 1) := by decide +kernel
theorem dX5_noteEntry_9 : decode cX5_noteEntry 9 = .ok (.invokevirtual 39, 3) := by decide +kernel
theorem dX5_noteEntry_12 : decode cX5_noteEntry 12 = .ok (.aload_n 0, 1) := by decide +kernel
theorem dX5_noteEntry_13 : decode cX5_noteEntry 13 = .ok (.getfield 30, 3) := by decide +kernel
theorem dX5_noteEntry_16 : decode cX5_noteEntry 16 = .ok (.aload_n 0, 1) := by decide +kernel
theorem dX5_noteEntry_17 : decode cX5_noteEntry 17 = .ok (.getfield 36, 3) := by decide +kernel
theorem dX5_noteEntry_20 : decode cX5_noteEntry 20 = .ok (.iload_n 2, 1) := by decide +kernel
theorem dX5_noteEntry_21 : decode cX5_noteEntry 21 = .ok (.invokevirtual 39, 3) := by decide +kernel
theorem dX5_noteEntry_24 : decode cX5_noteEntry 24 = .ok (.aload_n 0, 1) := by decide +kernel
theorem dX5_noteEntry_25 : decode cX5_noteEntry 25 = .ok (.getfield 33, 3) := by decide +kernel
theorem dX5_noteEntry_28 : decode cX5_noteEntry 28 = .ok (.aload_n 0, 1) := by decide +kernel
theorem dX5_noteEntry_29 : decode cX5_noteEntry 29 = .ok (.getfield 36, 3) := by decide +kernel
theorem dX5_noteEntry_32 : decode cX5_noteEntry 32 = .ok (.iload_n 3, 1) := by decide +kernel
theorem dX5_noteEntry_33 : decode cX5_noteEntry 33 = .ok (.invokevirtual 39, 3) := by decide +kernel
theorem dX5_noteEntry_36 : decode cX5_noteEntry 36 = .ok (.aload_n 0, 1) := by decide +kernel
theorem dX5_noteEntry_37 : decode cX5_noteEntry 37 = .ok (.dup, 1) := by decide +kernel
theorem dX5_noteEntry_38 : decode cX5_noteEntry 38 = .ok (.getfield 36, 3) := by decide +kernel
theorem dX5_noteEntry_41 : decode cX5_noteEntry 41 = .ok (.iconst 1, 1) := by decide +kernel
theorem dX5_noteEntry_42 : decode cX5_noteEntry 42 = .ok (.iadd, 1) := by decide +kernel
theorem dX5_noteEntry_43 : decode cX5_noteEntry 43 = .ok (.putfield 36, 3) := by decide +kernel
theorem dX5_noteEntry_46 : decode cX5_noteEntry 46 = .ok (.return_, 1) := by decide +kernel
set_option maxRecDepth 20000 in
theorem ggX5_takeSign_X4_at : GoodIn wsX5_takeSign wsX4_at := goodIn_ca (goodIn_r _ [8, 9, 17] (by decide +kernel) (by decide +kernel)) (goodIn_sub (fun _ h => List.mem_cons_of_mem _ (List.mem_append_right _ h)) (by decide +kernel))
set_option maxRecDepth 20000 in
theorem gX5_takeSign_X4_at : GoodIn wsX5_takeSign (wsV RX5 68 RX4 yX4_at wsX4_at) := goodIn_app (goodIn_of _ (by decide +kernel)) ggX5_takeSign_X4_at
theorem dX5_takeSign_0 : decode cX5_takeSign 0 = .ok (.aload_n 0, 1) := by decide +kernel
theorem dX5_takeSign_1 : decode cX5_takeSign 1 = .ok (.getfield 24, 3) := by decide +kernel
theorem dX5_takeSign_4 : decode cX5_takeSign 4 = .ok (.aload_n 0, 1) := by decide +kernel
theorem dX5_takeSign_5 : decode cX5_takeSign 5 = .ok (.getfield 20, 3) := by decide +kernel
theorem dX5_takeSign_8 : decode cX5_takeSign 8 = .ok (.if_icmp .ge 18, 3) := by decide +kernel
theorem dX5_takeSign_11 : decode cX5_takeSign 11 = .ok (.aload_n 0, 1) := by decide +kernel
theorem dX5_takeSign_12 : decode cX5_takeSign 12 = .ok (.getfield 14, 3) := by decide +kernel
theorem dX5_takeSign_15 : decode cX5_takeSign 15 = .ok (.aload_n 0, 1) := by decide +kernel
theorem dX5_takeSign_16 : decode cX5_takeSign 16 = .ok (.getfield 24, 3) := by decide +kernel
theorem dX5_takeSign_19 : decode cX5_takeSign 19 = .ok (.invokevirtual 68, 3) := by decide +kernel
theorem dX5_takeSign_22 : decode cX5_takeSign 22 = .ok (.iload_n 1, 1) := by decide +kernel
theorem dX5_takeSign_23 : decode cX5_takeSign 23 = .ok (.if_icmp .eq 5, 3) := by decide +kernel
theorem dX5_takeSign_26 : decode cX5_takeSign 26 = .ok (.iconst 0, 1) := by decide +kernel
theorem dX5_takeSign_27 : decode cX5_takeSign 27 = .ok (.ireturn, 1) := by decide +kernel
theorem dX5_takeSign_28 : decode cX5_takeSign 28 = .ok (.aload_n 0, 1) := by decide +kernel
theorem dX5_takeSign_29 : decode cX5_takeSign 29 = .ok (.dup, 1) := by decide +kernel
theorem dX5_takeSign_30 : decode cX5_takeSign 30 = .ok (.getfield 24, 3) := by decide +kernel
theorem dX5_takeSign_33 : decode cX5_takeSign 33 = .ok (.iconst 1, 1) := by decide +kernel
theorem dX5_takeSign_34 : decode cX5_takeSign 34 = .ok (.iadd, 1) := by decide +kernel
theorem dX5_takeSign_35 : decode cX5_takeSign 35 = .ok (.putfield 24, 3) := by decide +kernel
theorem dX5_takeSign_38 : decode cX5_takeSign 38 = .ok (.iconst 1, 1) := by decide +kernel
theorem dX5_takeSign_39 : decode cX5_takeSign 39 = .ok (.ireturn, 1) := by decide +kernel
set_option maxRecDepth 20000 in
theorem ggX5_takeDigit_X4_at : GoodIn wsX5_takeDigit wsX4_at := goodIn_ca (goodIn_r _ [8, 9, 17] (by decide +kernel) (by decide +kernel)) (goodIn_sub (fun _ h => List.mem_cons_of_mem _ (List.mem_append_right _ h)) (by decide +kernel))
set_option maxRecDepth 20000 in
theorem gX5_takeDigit_X4_at : GoodIn wsX5_takeDigit (wsV RX5 68 RX4 yX4_at wsX4_at) := goodIn_app (goodIn_of _ (by decide +kernel)) ggX5_takeDigit_X4_at
theorem dX5_takeDigit_0 : decode cX5_takeDigit 0 = .ok (.aload_n 0, 1) := by decide +kernel
theorem dX5_takeDigit_1 : decode cX5_takeDigit 1 = .ok (.getfield 24, 3) := by decide +kernel
theorem dX5_takeDigit_4 : decode cX5_takeDigit 4 = .ok (.aload_n 0, 1) := by decide +kernel
theorem dX5_takeDigit_5 : decode cX5_takeDigit 5 = .ok (.getfield 20, 3) := by decide +kernel
theorem dX5_takeDigit_8 : decode cX5_takeDigit 8 = .ok (.if_icmp .lt 5, 3) := by decide +kernel
theorem dX5_takeDigit_11 : decode cX5_takeDigit 11 = .ok (.iconst (-1), 1) := by decide +kernel
theorem dX5_takeDigit_12 : decode cX5_takeDigit 12 = .ok (.ireturn, 1) := by decide +kernel
theorem dX5_takeDigit_13 : decode cX5_takeDigit 13 = .ok (.aload_n 0, 1) := by decide +kernel
theorem dX5_takeDigit_14 : decode cX5_takeDigit 14 = .ok (.getfield 14, 3) := by decide +kernel
theorem dX5_takeDigit_17 : decode cX5_takeDigit 17 = .ok (.aload_n 0, 1) := by decide +kernel
theorem dX5_takeDigit_18 : decode cX5_takeDigit 18 = .ok (.getfield 24, 3) := by decide +kernel
theorem dX5_takeDigit_21 : decode cX5_takeDigit 21 = .ok (.invokevirtual 68, 3) := by decide +kernel
theorem dX5_takeDigit_24 : decode cX5_takeDigit 24 = .ok (.bipush 48, 2) := by decide +kernel
theorem dX5_takeDigit_26 : decode cX5_takeDigit 26 = .ok (.isub, 1) := by decide +kernel
theorem dX5_takeDigit_27 : decode cX5_takeDigit 27 = .ok (.istore_n 2, 1) := by decide +kernel
theorem dX5_takeDigit_28 : decode cX5_takeDigit 28 = .ok (.iload_n 2, 1) := by decide +kernel
theorem dX5_takeDigit_29 : decode cX5_takeDigit 29 = .ok (.ifCond .lt 8, 3) := by decide +kernel
theorem dX5_takeDigit_32 : decode cX5_takeDigit 32 = .ok (.iload_n 2, 1) := by decide +kernel
theorem dX5_takeDigit_33 : decode cX5_takeDigit 33 = .ok (.iload_n 1, 1) := by decide +kernel
theorem dX5_takeDigit_34 : decode cX5_takeDigit 34 = .ok (.if_icmp .le 5, 3) := by decide +kernel
theorem dX5_takeDigit_37 : decode cX5_takeDigit 37 = .ok (.iconst (-1), 1) := by decide +kernel
theorem dX5_takeDigit_38 : decode cX5_takeDigit 38 = .ok (.ireturn, 1) := by decide +kernel
theorem dX5_takeDigit_39 : decode cX5_takeDigit 39 = .ok (.aload_n 0, 1) := by decide +kernel
theorem dX5_takeDigit_40 : decode cX5_takeDigit 40 = .ok (.dup, 1) := by decide +kernel
theorem dX5_takeDigit_41 : decode cX5_takeDigit 41 = .ok (.getfield 24, 3) := by decide +kernel
theorem dX5_takeDigit_44 : decode cX5_takeDigit 44 = .ok (.iconst 1, 1) := by decide +kernel
theorem dX5_takeDigit_45 : decode cX5_takeDigit 45 = .ok (.iadd, 1) := by decide +kernel
theorem dX5_takeDigit_46 : decode cX5_takeDigit 46 = .ok (.putfield 24, 3) := by decide +kernel
theorem dX5_takeDigit_49 : decode cX5_takeDigit 49 = .ok (.iload_n 2, 1) := by decide +kernel
theorem dX5_takeDigit_50 : decode cX5_takeDigit 50 = .ok (.ireturn, 1) := by decide +kernel
set_option maxRecDepth 20000 in
theorem ggX5_takeNumber_X5_takeDigit : GoodIn wsX5_takeNumber wsX5_takeDigit := goodIn_ca (goodIn_r _ [5, 6, 7, 8, 9, 10, 11, 12, 13, 14, 15, 16, 17, 18, 19, 20, 21, 22] (by decide +kernel) (by decide +kernel)) (goodIn_sub (fun _ h => List.mem_cons_of_mem _ (List.mem_append_right _ h)) (by decide +kernel))
set_option maxRecDepth 20000 in
theorem gX5_takeNumber_X5_takeDigit : GoodIn wsX5_takeNumber (wsV RX5 57 RX5 yX5_takeDigit wsX5_takeDigit) := goodIn_app (goodIn_of _ (by decide +kernel)) ggX5_takeNumber_X5_takeDigit
theorem dX5_takeNumber_0 : decode cX5_takeNumber 0 = .ok (.iconst (-1), 1) := by decide +kernel
theorem dX5_takeNumber_1 : decode cX5_takeNumber 1 = .ok (.istore_n 2, 1) := by decide +kernel
theorem dX5_takeNumber_2 : decode cX5_takeNumber 2 = .ok (.iconst 0, 1) := by decide +kernel
theorem dX5_takeNumber_3 : decode cX5_takeNumber 3 = .ok (.istore_n 3, 1) := by decide +kernel
theorem dX5_takeNumber_4 : decode cX5_takeNumber 4 = .ok (.iload_n 3, 1) := by decide +kernel
theorem dX5_takeNumber_5 : decode cX5_takeNumber 5 = .ok (.iload_n 1, 1) := by decide +kernel
theorem dX5_takeNumber_6 : decode cX5_takeNumber 6 = .ok (.if_icmp .ge 43, 3) := by decide +kernel
theorem dX5_takeNumber_9 : decode cX5_takeNumber 9 = .ok (.aload_n 0, 1) := by decide +kernel
theorem dX5_takeNumber_10 : decode cX5_takeNumber 10 = .ok (.bipush 9, 2) := by decide +kernel
theorem dX5_takeNumber_12 : decode cX5_takeNumber 12 = .ok (.invokevirtual 57, 3) := by decide +kernel
theorem dX5_takeNumber_15 : decode cX5_takeNumber 15 = .ok (.istore 4, 2) := by decide +kernel
theorem dX5_takeNumber_17 : decode cX5_takeNumber 17 = .ok (.iload 4, 2) := by decide +kernel
theorem dX5_takeNumber_19 : decode cX5_takeNumber 19 = .ok (.iconst (-1), 1) := by decide +kernel
theorem dX5_takeNumber_20 : decode cX5_takeNumber 20 = .ok (.if_icmp .ne 5, 3) := by decide +kernel
theorem dX5_takeNumber_23 : decode cX5_takeNumber 23 = .ok (.iload_n 2, 1) := by decide +kernel
theorem dX5_takeNumber_24 : decode cX5_takeNumber 24 = .ok (.ireturn, 1) := by decide +kernel
theorem dX5_takeNumber_25 : decode cX5_takeNumber 25 = .ok (.iload_n 2, 1) := by decide +kernel
theorem dX5_takeNumber_26 : decode cX5_takeNumber 26 = .ok (.iconst (-1), 1) := by decide +kernel
theorem dX5_takeNumber_27 : decode cX5_takeNumber 27 = .ok (.if_icmp .ne 8, 3) := by decide +kernel
theorem dX5_takeNumber_30 : decode cX5_takeNumber 30 = .ok (.iload 4, 2) := by decide +kernel
theorem dX5_takeNumber_32 : decode cX5_takeNumber 32 = .ok (.goto 10, 3) := by decide +kernel
theorem dX5_takeNumber_35 : decode cX5_takeNumber 35 = .ok (.iload_n 2, 1) := by decide +kernel
theorem dX5_takeNumber_36 : decode cX5_takeNumber 36 = .ok (.bipush 10, 2) := by decide +kernel
theorem dX5_takeNumber_38 : decode cX5_takeNumber 38 = .ok (.imul, 1) := by decide +kernel
theorem dX5_takeNumber_39 : decode cX5_takeNumber 39 = .ok (.iload 4, 2) := by decide +kernel
theorem dX5_takeNumber_41 : decode cX5_takeNumber 41 = .ok (.iadd, 1) := by decide +kernel
theorem dX5_takeNumber_42 : decode cX5_takeNumber 42 = .ok (.istore_n 2, 1) := by decide +kernel
theorem dX5_takeNumber_43 : decode cX5_takeNumber 43 = .ok (.iinc 3 1, 3) := by decide +kernel
theorem dX5_takeNumber_46 : decode cX5_takeNumber 46 = .ok (.goto (-42), 3) := by decide +kernel
theorem dX5_takeNumber_49 : decode cX5_takeNumber 49 = .ok (.iload_n 2, 1) := by decide +kernel
theorem dX5_takeNumber_50 : decode cX5_takeNumber 50 = .ok (.ireturn, 1) := by decide +kernel
