theorem dX0_letterOf_0 : decode cX0_letterOf 0 = .ok (.iload_n 1, 1) := by decide +kernel
theorem dX0_letterOf_1 : decode cX0_letterOf 1 = .ok (.bipush 26, 2) := by decide +kernel
theorem dX0_letterOf_3 : decode cX0_letterOf 3 = .ok (.if_icmp .ge 8, 3) := by decide +kernel
theorem dX0_letterOf_6 : decode cX0_letterOf 6 = .ok (.bipush 65, 2) := by decide +kernel
theorem dX0_letterOf_8 : decode cX0_letterOf 8 = .ok (.iload_n 1, 1) := by decide +kernel
theorem dX0_letterOf_9 : decode cX0_letterOf 9 = .ok (.iadd, 1) := by decide +kernel
theorem dX0_letterOf_10 : decode cX0_letterOf 10 = .ok (.ireturn, 1) := by decide +kernel
theorem dX0_letterOf_11 : decode cX0_letterOf 11 = .ok (.iload_n 1, 1) := by decide +kernel
theorem dX0_letterOf_12 : decode cX0_letterOf 12 = .ok (.bipush 52, 2) := by decide +kernel
theorem dX0_letterOf_14 : decode cX0_letterOf 14 = .ok (.if_icmp .ge 11, 3) := by decide +kernel
theorem dX0_letterOf_17 : decode cX0_letterOf 17 = .ok (.bipush 97, 2) := by decide +kernel
theorem dX0_letterOf_19 : decode cX0_letterOf 19 = .ok (.iload_n 1, 1) := by decide +kernel
theorem dX0_letterOf_20 : decode cX0_letterOf 20 = .ok (.iadd, 1) := by decide +kernel
theorem dX0_letterOf_21 : decode cX0_letterOf 21 = .ok (.bipush 26, 2) := by decide +kernel
theorem dX0_letterOf_23 : decode cX0_letterOf 23 = .ok (.isub, 1) := by decide +kernel
theorem dX0_letterOf_24 : decode cX0_letterOf 24 = .ok (.ireturn, 1) := by decide +kernel
theorem dX0_letterOf_25 : decode cX0_letterOf 25 = .ok (.iload_n 1, 1) := by decide +kernel
theorem dX0_letterOf_26 : decode cX0_letterOf 26 = .ok (.bipush 62, 2) := by decide +kernel
theorem dX0_letterOf_28 : decode cX0_letterOf 28 = .ok (.if_icmp .ge 11, 3) := by decide +kernel
theorem dX0_letterOf_31 : decode cX0_letterOf 31 = .ok (.bipush 48, 2) := by decide +kernel
theorem dX0_letterOf_33 : decode cX0_letterOf 33 = .ok (.iload_n 1, 1) := by decide +kernel
theorem dX0_letterOf_34 : decode cX0_letterOf 34 = .ok (.iadd, 1) := by decide +kernel
theorem dX0_letterOf_35 : decode cX0_letterOf 35 = .ok (.bipush 52, 2) := by decide +kernel
theorem dX0_letterOf_37 : decode cX0_letterOf 37 = .ok (.isub, 1) := by decide +kernel
theorem dX0_letterOf_38 : decode cX0_letterOf 38 = .ok (.ireturn, 1) := by decide +kernel
theorem dX0_letterOf_39 : decode cX0_letterOf 39 = .ok (.iload_n 1, 1) := by decide +kernel
theorem dX0_letterOf_40 : decode cX0_letterOf 40 = .ok (.bipush 62, 2) := by decide +kernel
theorem dX0_letterOf_42 : decode cX0_letterOf 42 = .ok (.if_icmp .ne 10, 3) := by decide +kernel
theorem dX0_letterOf_45 : decode cX0_letterOf 45 = .ok (.aload_n 0, 1) := by decide +kernel
theorem dX0_letterOf_46 : decode cX0_letterOf 46 = .ok (.getfield 32, 3) := by decide +kernel
theorem dX0_letterOf_49 : decode cX0_letterOf 49 = .ok (.goto 7, 3) := by decide +kernel
theorem dX0_letterOf_52 : decode cX0_letterOf 52 = .ok (.aload_n 0, 1) := by decide +kernel
theorem dX0_letterOf_53 : decode cX0_letterOf 53 = .ok (.getfield 36, 3) := by decide +kernel
theorem dX0_letterOf_56 : decode cX0_letterOf 56 = .ok (.ireturn, 1) := by decide +kernel
theorem dX0_worthOf_0 : decode cX0_worthOf 0 = .ok (.iload_n 1, 1) := by decide +kernel
theorem dX0_worthOf_1 : decode cX0_worthOf 1 = .ok (.bipush 65, 2) := by decide +kernel
theorem dX0_worthOf_3 : decode cX0_worthOf 3 = .ok (.if_icmp .lt 14, 3) := by decide +kernel
theorem dX0_worthOf_6 : decode cX0_worthOf 6 = .ok (.iload_n 1, 1) := by decide +kernel
theorem dX0_worthOf_7 : decode cX0_worthOf 7 = .ok (.bipush 90, 2) := by decide +kernel
theorem dX0_worthOf_9 : decode cX0_worthOf 9 = .ok (.if_icmp .gt 8, 3) := by decide +kernel
theorem dX0_worthOf_12 : decode cX0_worthOf 12 = .ok (.iload_n 1, 1) := by decide +kernel
theorem dX0_worthOf_13 : decode cX0_worthOf 13 = .ok (.bipush 65, 2) := by decide +kernel
theorem dX0_worthOf_15 : decode cX0_worthOf 15 = .ok (.isub, 1) := by decide +kernel
theorem dX0_worthOf_16 : decode cX0_worthOf 16 = .ok (.ireturn, 1) := by decide +kernel
theorem dX0_worthOf_17 : decode cX0_worthOf 17 = .ok (.iload_n 1, 1) := by decide +kernel
theorem dX0_worthOf_18 : decode cX0_worthOf 18 = .ok (.bipush 97, 2) := by decide +kernel
theorem dX0_worthOf_20 : decode cX0_worthOf 20 = .ok (.if_icmp .lt 17, 3) := by decide +kernel
theorem dX0_worthOf_23 : decode cX0_worthOf 23 = .ok (.iload_n 1, 1) := by decide +kernel
theorem dX0_worthOf_24 : decode cX0_worthOf 24 = .ok (.bipush 122, 2) := by decide +kernel
theorem dX0_worthOf_26 : decode cX0_worthOf 26 = .ok (.if_icmp .gt 11, 3) := by decide +kernel
theorem dX0_worthOf_29 : decode cX0_worthOf 29 = .ok (.iload_n 1, 1) := by decide +kernel
theorem dX0_worthOf_30 : decode cX0_worthOf 30 = .ok (.bipush 97, 2) := by decide +kernel
theorem dX0_worthOf_32 : decode cX0_worthOf 32 = .ok (.isub, 1) := by decide +kernel
theorem dX0_worthOf_33 : decode cX0_worthOf 33 = .ok (.bipush 26, 2) := by decide +kernel
theorem dX0_worthOf_35 : decode cX0_worthOf 35 = .ok (.iadd, 1) := by decide +kernel
theorem dX0_worthOf_36 : decode cX0_worthOf 36 = .ok (.ireturn, 1) := by decide +kernel
theorem dX0_worthOf_37 : decode cX0_worthOf 37 = .ok (.iload_n 1, 1) := by decide +kernel
theorem dX0_worthOf_38 : decode cX0_worthOf 38 = .ok (.bipush 48, 2) := by decide +kernel
theorem dX0_worthOf_40 : decode cX0_worthOf 40 = .ok (.if_icmp .lt 17, 3) := by decide +kernel
theorem dX0_worthOf_43 : decode cX0_worthOf 43 = .ok (.iload_n 1, 1) := by decide +kernel
theorem dX0_worthOf_44 : decode cX0_worthOf 44 = .ok (.bipush 57, 2) := by decide +kernel
theorem dX0_worthOf_46 : decode cX0_worthOf 46 = .ok (.if_icmp .gt 11, 3) := by decide +kernel
theorem dX0_worthOf_49 : decode cX0_worthOf 49 = .ok (.iload_n 1, 1) := by decide +kernel
theorem dX0_worthOf_50 : decode cX0_worthOf 50 = .ok (.bipush 48, 2) := by decide +kernel
theorem dX0_worthOf_52 : decode cX0_worthOf 52 = .ok (.isub, 1) := by decide +kernel
theorem dX0_worthOf_53 : decode cX0_worthOf 53 = .ok (.bipush 52, 2) := by decide +kernel
theorem dX0_worthOf_55 : decode cX0_worthOf 55 = .ok (.iadd, 1) := by decide +kernel
theorem dX0_worthOf_56 : decode cX0_worthOf 56 = .ok (.ireturn, 1) := by decide +kernel
theorem dX0_worthOf_57 : decode cX0_worthOf 57 = .ok (.iload_n 1, 1) := by decide +kernel
theorem dX0_worthOf_58 : decode cX0_worthOf 58 = .ok (.aload_n 0, 1) := by decide +kernel
theorem dX0_worthOf_59 : decode cX0_worthOf 59 = .ok (.getfield 32, 3) := by decide +kernel
theorem dX0_worthOf_62 : decode cX0_worthOf 62 = .ok (.if_icmp .ne 6, 3) := by decide +kernel
theorem dX0_worthOf_65 : decode cX0_worthOf 65 = .ok (.bipush 62, 2) := by decide +kernel
theorem dX0_worthOf_67 : decode cX0_worthOf 67 = .ok (.ireturn, 1) := by decide +kernel
theorem dX0_worthOf_68 : decode cX0_worthOf 68 = .ok (.iload_n 1, 1) := by decide +kernel
theorem dX0_worthOf_69 : decode cX0_worthOf 69 = .ok (.aload_n 0, 1) := by decide +kernel
theorem dX0_worthOf_70 : decode cX0_worthOf 70 = .ok (.getfield 36, 3) := by decide +kernel
theorem dX0_worthOf_73 : decode cX0_worthOf 73 = .ok (.if_icmp .ne 8, 3) := by decide +kernel
theorem dX0_worthOf_76 : decode cX0_worthOf 76 = .ok (.bipush 63, 2) := by decide +kernel
theorem dX0_worthOf_78 : decode cX0_worthOf 78 = .ok (.goto 4, 3) := by decide +kernel
theorem dX0_worthOf_81 : decode cX0_worthOf 81 = .ok (.iconst (-1), 1) := by decide +kernel
theorem dX0_worthOf_82 : decode cX0_worthOf 82 = .ok (.ireturn, 1) := by decide +kernel
set_option maxRecDepth 20000 in
theorem ggX0_isLetter_X0_worthOf : GoodIn wsX0_isLetter wsX0_worthOf := goodIn_r _ [5, 6, 7] (by decide +kernel) (by decide +kernel)
set_option maxRecDepth 20000 in
theorem gX0_isLetter_X0_worthOf : GoodIn wsX0_isLetter (wsV RX0 43 RX0 yX0_worthOf wsX0_worthOf) := goodIn_app (goodIn_of _ (by decide +kernel)) ggX0_isLetter_X0_worthOf
theorem dX0_isLetter_0 : decode cX0_isLetter 0 = .ok (.aload_n 0, 1) := by decide +kernel
theorem dX0_isLetter_1 : decode cX0_isLetter 1 = .ok (.iload_n 1, 1) := by decide +kernel
theorem dX0_isLetter_2 : decode cX0_isLetter 2 = .ok (.invokevirtual 43, 3) := by decide +kernel
theorem dX0_isLetter_5 : decode cX0_isLetter 5 = .ok (.ifCond .lt 7, 3) := by decide +kernel
theorem dX0_isLetter_8 : decode cX0_isLetter 8 = .ok (.iconst 1, 1) := by decide +kernel
theorem dX0_isLetter_9 : decode cX0_isLetter 9 = .ok (.goto 4, 3) := by decide +kernel
theorem dX0_isLetter_12 : decode cX0_isLetter 12 = .ok (.iconst 0, 1) := by decide +kernel
theorem dX0_isLetter_13 : decode cX0_isLetter 13 = .ok (.ireturn, 1) := by decide +kernel
set_option maxRecDepth 20000 in
theorem ggX1_init_X2_init : GoodIn wsX1_init wsX2_init := goodIn_r _ [11, 12, 2, 3, 13, 14, 15, 16, 17] (by decide +kernel) (by decide +kernel)
set_option maxRecDepth 20000 in
theorem gX1_init_X2_init_n11 : GoodIn wsX1_init (wsX2_init) := ggX1_init_X2_init
theorem dX1_init_0 : decode cX1_init 0 = .ok (.aload_n 0, 1) := by decide +kernel
theorem dX1_init_1 : decode cX1_init 1 = .ok (.invokespecial 3, 3) := by decide +kernel
theorem dX1_init_4 : decode cX1_init 4 = .ok (.aload_n 0, 1) := by decide +kernel
theorem dX1_init_5 : decode cX1_init 5 = .ok (.new 9, 3) := by decide +kernel
theorem dX1_init_8 : decode cX1_init 8 = .ok (.dup, 1) := by decide +kernel
theorem dX1_init_9 : decode cX1_init 9 = .ok (.invokespecial 11, 3) := by decide +kernel
theorem dX1_init_12 : decode cX1_init 12 = .ok (.putfield 12, 3) := by decide +kernel
theorem dX1_init_15 : decode cX1_init 15 = .ok (.aload_n 0, 1) := by decide +kernel
theorem dX1_init_16 : decode cX1_init 16 = .ok (.iconst 0, 1) := by decide +kernel
theorem dX1_init_17 : decode cX1_init 17 = .ok (.putfield 18, 3) := by decide +kernel
theorem dX1_init_20 : decode cX1_init 20 = .ok (.aload_n 0, 1) := by decide +kernel
theorem dX1_init_21 : decode cX1_init 21 = .ok (.iconst 0, 1) := by decide +kernel
theorem dX1_init_22 : decode cX1_init 22 = .ok (.putfield 22, 3) := by decide +kernel
theorem dX1_init_25 : decode cX1_init 25 = .ok (.return_, 1) := by decide +kernel
set_option maxRecDepth 20000 in
theorem ggX1_accepts_X2_clear : GoodIn wsX1_accepts wsX2_clear := goodIn_r _ [8, 9, 47, 48] (by decide +kernel) (by decide +kernel)
set_option maxRecDepth 20000 in
theorem gX1_accepts_X2_clear : GoodIn wsX1_accepts (wsV RX1 25 RX2 yX2_clear wsX2_clear) := goodIn_app (goodIn_of _ (by decide +kernel)) ggX1_accepts_X2_clear
set_option maxRecDepth 20000 in
theorem ggX1_accepts_X2_at : GoodIn wsX1_accepts wsX2_at := goodIn_ca (goodIn_r _ [13, 9, 14, 47, 48] (by decide +kernel) (by decide +kernel)) (goodIn_sub (fun _ h => List.mem_cons_of_mem _ (List.mem_append_right _ h)) (by decide +kernel))
set_option maxRecDepth 20000 in
theorem gX1_accepts_X2_at : GoodIn wsX1_accepts (wsV RX1 31 RX2 yX2_at wsX2_at) := goodIn_app (goodIn_of _ (by decide +kernel)) ggX1_accepts_X2_at
set_option maxRecDepth 20000 in
theorem ggX1_accepts_X0_worthOf : GoodIn wsX1_accepts wsX0_worthOf := goodIn_r _ [19, 20, 21] (by decide +kernel) (by decide +kernel)
set_option maxRecDepth 20000 in
theorem gX1_accepts_X0_worthOf : GoodIn wsX1_accepts (wsV RX1 35 RX0 yX0_worthOf wsX0_worthOf) := goodIn_app (goodIn_of _ (by decide +kernel)) ggX1_accepts_X0_worthOf
set_option maxRecDepth 20000 in
theorem ggX1_accepts_X1_take : GoodIn wsX1_accepts wsX1_take := goodIn_ca (goodIn_r _ [26, 2, 3, 27, 28, 29, 25, 30, 1, 31, 32, 33, 7, 34, 9, 14, 44, 45, 46, 47, 48] (by decide +kernel) (by decide +kernel)) (goodIn_sub (fun _ h => List.mem_cons_of_mem _ (List.mem_append_right _ h)) (by decide +kernel))
set_option maxRecDepth 20000 in
theorem gX1_accepts_X1_take : GoodIn wsX1_accepts (wsV RX1 40 RX1 yX1_take wsX1_take) := goodIn_app (goodIn_of _ (by decide +kernel)) ggX1_accepts_X1_take
set_option maxRecDepth 20000 in
theorem ggX1_accepts_X1_isEndedWell : GoodIn wsX1_accepts wsX1_isEndedWell := goodIn_ca (goodIn_r _ [38, 3, 10, 11, 12, 7, 13, 9, 14, 39, 40, 41, 18, 42, 43, 16, 17, 19, 20, 21, 47, 48, 44, 45, 46] (by decide +kernel) (by decide +kernel)) (goodIn_sub (fun _ h => List.mem_cons_of_mem _ (List.mem_append_right _ h)) (by decide +kernel))
set_option maxRecDepth 20000 in
theorem gX1_accepts_X1_isEndedWell : GoodIn wsX1_accepts (wsV RX1 48 RX1 yX1_isEndedWell wsX1_isEndedWell) := goodIn_app (goodIn_of _ (by decide +kernel)) ggX1_accepts_X1_isEndedWell
set_option maxRecDepth 20000 in
theorem ggX1_accepts_X1_release : GoodIn wsX1_accepts wsX1_release := goodIn_ca (goodIn_r _ [30, 3, 1, 2, 31, 32, 33, 7, 34, 9, 14, 44, 45, 46, 47, 48] (by decide +kernel) (by decide +kernel)) (goodIn_sub (fun _ h => List.mem_cons_of_mem _ (List.mem_append_right _ h)) (by decide +kernel))
set_option maxRecDepth 20000 in
theorem gX1_accepts_X1_release : GoodIn wsX1_accepts (wsV RX1 52 RX1 yX1_release wsX1_release) := goodIn_app (goodIn_of _ (by decide +kernel)) ggX1_accepts_X1_release
theorem dX1_accepts_0 : decode cX1_accepts 0 = .ok (.aload_n 0, 1) := by decide +kernel
theorem dX1_accepts_1 : decode cX1_accepts 1 = .ok (.getfield 12, 3) := by decide +kernel
theorem dX1_accepts_4 : decode cX1_accepts 4 = .ok (.invokevirtual 25, 3) := by decide +kernel
theorem dX1_accepts_7 : decode cX1_accepts 7 = .ok (.aload_n 0, 1) := by decide +kernel
theorem dX1_accepts_8 : decode cX1_accepts 8 = .ok (.iconst 0, 1) := by decide +kernel
theorem dX1_accepts_9 : decode cX1_accepts 9 = .ok (.putfield 18, 3) := by decide +kernel
theorem dX1_accepts_12 : decode cX1_accepts 12 = .ok (.aload_n 0, 1) := by decide +kernel
theorem dX1_accepts_13 : decode cX1_accepts 13 = .ok (.iconst 0, 1) := by decide +kernel
theorem dX1_accepts_14 : decode cX1_accepts 14 = .ok (.putfield 22, 3) := by decide +kernel
theorem dX1_accepts_17 : decode cX1_accepts 17 = .ok (.iconst 0, 1) := by decide +kernel
theorem dX1_accepts_18 : decode cX1_accepts 18 = .ok (.istore_n 3, 1) := by decide +kernel
theorem dX1_accepts_19 : decode cX1_accepts 19 = .ok (.iload_n 3, 1) := by decide +kernel
theorem dX1_accepts_20 : decode cX1_accepts 20 = .ok (.aload_n 1, 1) := by decide +kernel
theorem dX1_accepts_21 : decode cX1_accepts 21 = .ok (.getfield 28, 3) := by decide +kernel
theorem dX1_accepts_24 : decode cX1_accepts 24 = .ok (.if_icmp .ge 53, 3) := by decide +kernel
theorem dX1_accepts_27 : decode cX1_accepts 27 = .ok (.aload_n 1, 1) := by decide +kernel
theorem dX1_accepts_28 : decode cX1_accepts 28 = .ok (.iload_n 3, 1) := by decide +kernel
theorem dX1_accepts_29 : decode cX1_accepts 29 = .ok (.invokevirtual 31, 3) := by decide +kernel
theorem dX1_accepts_32 : decode cX1_accepts 32 = .ok (.bipush 61, 2) := by decide +kernel
theorem dX1_accepts_34 : decode cX1_accepts 34 = .ok (.if_icmp .eq 43, 3) := by decide +kernel
theorem dX1_accepts_37 : decode cX1_accepts 37 = .ok (.aload_n 2, 1) := by decide +kernel
theorem dX1_accepts_38 : decode cX1_accepts 38 = .ok (.aload_n 1, 1) := by decide +kernel
theorem dX1_accepts_39 : decode cX1_accepts 39 = .ok (.iload_n 3, 1) := by decide +kernel
theorem dX1_accepts_40 : decode cX1_accepts 40 = .ok (.invokevirtual 31, 3) := by decide +kernel
theorem dX1_accepts_43 : decode cX1_accepts 43 = .ok (.invokevirtual 35, 3) := by decide +kernel
theorem dX1_accepts_46 : decode cX1_accepts 46 = .ok (.istore 4, 2) := by decide +kernel
theorem dX1_accepts_48 : decode cX1_accepts 48 = .ok (.iload 4, 2) := by decide +kernel
theorem dX1_accepts_50 : decode cX1_accepts 50 = .ok (.ifCond .lt 12, 3) := by decide +kernel
theorem dX1_accepts_53 : decode cX1_accepts 53 = .ok (.aload_n 0, 1) := by decide +kernel
theorem dX1_accepts_54 : decode cX1_accepts 54 = .ok (.iload 4, 2) := by decide +kernel
theorem dX1_accepts_56 : decode cX1_accepts 56 = .ok (.invokevirtual 40, 3) := by decide +kernel
theorem dX1_accepts_59 : decode cX1_accepts 59 = .ok (.goto 12, 3) := by decide +kernel
theorem dX1_accepts_62 : decode cX1_accepts 62 = .ok (.aload_n 2, 1) := by decide +kernel
theorem dX1_accepts_63 : decode cX1_accepts 63 = .ok (.getfield 44, 3) := by decide +kernel
theorem dX1_accepts_66 : decode cX1_accepts 66 = .ok (.ifCond .ne 5, 3) := by decide +kernel
theorem dX1_accepts_69 : decode cX1_accepts 69 = .ok (.iconst 0, 1) := by decide +kernel
theorem dX1_accepts_70 : decode cX1_accepts 70 = .ok (.ireturn, 1) := by decide +kernel
theorem dX1_accepts_71 : decode cX1_accepts 71 = .ok (.iinc 3 1, 3) := by decide +kernel
theorem dX1_accepts_74 : decode cX1_accepts 74 = .ok (.goto (-55), 3) := by decide +kernel
theorem dX1_accepts_77 : decode cX1_accepts 77 = .ok (.aload_n 0, 1) := by decide +kernel
theorem dX1_accepts_78 : decode cX1_accepts 78 = .ok (.getfield 22, 3) := by decide +kernel
theorem dX1_accepts_81 : decode cX1_accepts 81 = .ok (.iconst 1, 1) := by decide +kernel
theorem dX1_accepts_82 : decode cX1_accepts 82 = .ok (.if_icmp .eq 13, 3) := by decide +kernel
theorem dX1_accepts_85 : decode cX1_accepts 85 = .ok (.aload_n 0, 1) := by decide +kernel
theorem dX1_accepts_86 : decode cX1_accepts 86 = .ok (.aload_n 1, 1) := by decide +kernel
theorem dX1_accepts_87 : decode cX1_accepts 87 = .ok (.aload_n 2, 1) := by decide +kernel
theorem dX1_accepts_88 : decode cX1_accepts 88 = .ok (.iload_n 3, 1) := by decide +kernel
theorem dX1_accepts_89 : decode cX1_accepts 89 = .ok (.invokevirtual 48, 3) := by decide +kernel
theorem dX1_accepts_92 : decode cX1_accepts 92 = .ok (.ifCond .ne 5, 3) := by decide +kernel
theorem dX1_accepts_95 : decode cX1_accepts 95 = .ok (.iconst 0, 1) := by decide +kernel
theorem dX1_accepts_96 : decode cX1_accepts 96 = .ok (.ireturn, 1) := by decide +kernel
theorem dX1_accepts_97 : decode cX1_accepts 97 = .ok (.aload_n 0, 1) := by decide +kernel
theorem dX1_accepts_98 : decode cX1_accepts 98 = .ok (.invokevirtual 52, 3) := by decide +kernel
theorem dX1_accepts_101 : decode cX1_accepts 101 = .ok (.iconst 1, 1) := by decide +kernel
theorem dX1_accepts_102 : decode cX1_accepts 102 = .ok (.ireturn, 1) := by decide +kernel
set_option maxRecDepth 20000 in
theorem ggX1_take_X1_release : GoodIn wsX1_take wsX1_release := goodIn_ca (goodIn_r _ [7, 2, 8, 1, 9, 10, 11, 12, 13, 14, 15, 16, 17, 18, 19, 20] (by decide +kernel) (by decide +kernel)) (goodIn_sub (fun _ h => List.mem_cons_of_mem _ (List.mem_append_right _ h)) (by decide +kernel))
set_option maxRecDepth 20000 in
theorem gX1_take_X1_release : GoodIn wsX1_take (wsV RX1 52 RX1 yX1_release wsX1_release) := goodIn_app (goodIn_of _ (by decide +kernel)) ggX1_take_X1_release
theorem dX1_take_0 : decode cX1_take 0 = .ok (.aload_n 0, 1) := by decide +kernel
theorem dX1_take_1 : decode cX1_take 1 = .ok (.aload_n 0, 1) := by decide +kernel
theorem dX1_take_2 : decode cX1_take 2 = .ok (.getfield 18, 3) := by decide +kernel
theorem dX1_take_5 : decode cX1_take 5 = .ok (.bipush 6, 2) := by decide +kernel
theorem dX1_take_7 : decode cX1_take 7 = .ok (.ishl, 1) := by decide +kernel
theorem dX1_take_8 : decode cX1_take 8 = .ok (.iload_n 1, 1) := by decide +kernel
theorem dX1_take_9 : decode cX1_take 9 = .ok (.ior, 1) := by decide +kernel
theorem dX1_take_10 : decode cX1_take 10 = .ok (.putfield 18, 3) := by decide +kernel
theorem dX1_take_13 : decode cX1_take 13 = .ok (.aload_n 0, 1) := by decide +kernel
theorem dX1_take_14 : decode cX1_take 14 = .ok (.dup, 1) := by decide +kernel
theorem dX1_take_15 : decode cX1_take 15 = .ok (.getfield 22, 3) := by decide +kernel
theorem dX1_take_18 : decode cX1_take 18 = .ok (.iconst 1, 1) := by decide +kernel
theorem dX1_take_19 : decode cX1_take 19 = .ok (.iadd, 1) := by decide +kernel
theorem dX1_take_20 : decode cX1_take 20 = .ok (.putfield 22, 3) := by decide +kernel
theorem dX1_take_23 : decode cX1_take 23 = .ok (.aload_n 0, 1) := by decide +kernel
theorem dX1_take_24 : decode cX1_take 24 = .ok (.getfield 22, 3) := by decide +kernel
theorem dX1_take_27 : decode cX1_take 27 = .ok (.iconst 4, 1) := by decide +kernel
theorem dX1_take_28 : decode cX1_take 28 = .ok (.if_icmp .ne 7, 3) := by decide +kernel
theorem dX1_take_31 : decode cX1_take 31 = .ok (.aload_n 0, 1) := by decide +kernel
theorem dX1_take_32 : decode cX1_take 32 = .ok (.invokevirtual 52, 3) := by decide +kernel
theorem dX1_take_35 : decode cX1_take 35 = .ok (.return_, 1) := by decide +kernel
set_option maxRecDepth 20000 in
theorem ggX1_release_X2_append : GoodIn wsX1_release wsX2_append := goodIn_ca (goodIn_r _ [8, 9, 10, 14, 15] (by decide +kernel) (by decide +kernel)) (goodIn_sub (fun _ h => List.mem_cons_of_mem _ (List.mem_append_right _ h)) (by decide +kernel))
set_option maxRecDepth 20000 in
theorem gX1_release_X2_append : GoodIn wsX1_release (wsV RX1 55 RX2 yX2_append wsX2_append) := goodIn_app (goodIn_of _ (by decide +kernel)) ggX1_release_X2_append
theorem dX1_release_0 : decode cX1_release 0 = .ok (.aload_n 0, 1) := by decide +kernel
theorem dX1_release_1 : decode cX1_release 1 = .ok (.getfield 22, 3) := by decide +kernel
theorem dX1_release_4 : decode cX1_release 4 = .ok (.bipush 6, 2) := by decide +kernel
theorem dX1_release_6 : decode cX1_release 6 = .ok (.imul, 1) := by decide +kernel
theorem dX1_release_7 : decode cX1_release 7 = .ok (.istore_n 1, 1) := by decide +kernel
theorem dX1_release_8 : decode cX1_release 8 = .ok (.iload_n 1, 1) := by decide +kernel
theorem dX1_release_9 : decode cX1_release 9 = .ok (.bipush 8, 2) := by decide +kernel
theorem dX1_release_11 : decode cX1_release 11 = .ok (.if_icmp .lt 26, 3) := by decide +kernel
theorem dX1_release_14 : decode cX1_release 14 = .ok (.iinc 1 (-8), 3) := by decide +kernel
theorem dX1_release_17 : decode cX1_release 17 = .ok (.aload_n 0, 1) := by decide +kernel
theorem dX1_release_18 : decode cX1_release 18 = .ok (.getfield 12, 3) := by decide +kernel
theorem dX1_release_21 : decode cX1_release 21 = .ok (.aload_n 0, 1) := by decide +kernel
theorem dX1_release_22 : decode cX1_release 22 = .ok (.getfield 18, 3) := by decide +kernel
theorem dX1_release_25 : decode cX1_release 25 = .ok (.iload_n 1, 1) := by decide +kernel
theorem dX1_release_26 : decode cX1_release 26 = .ok (.ishr, 1) := by decide +kernel
theorem dX1_release_27 : decode cX1_release 27 = .ok (.sipush 255, 3) := by decide +kernel
theorem dX1_release_30 : decode cX1_release 30 = .ok (.iand, 1) := by decide +kernel
theorem dX1_release_31 : decode cX1_release 31 = .ok (.invokevirtual 55, 3) := by decide +kernel
theorem dX1_release_34 : decode cX1_release 34 = .ok (.goto (-26), 3) := by decide +kernel
theorem dX1_release_37 : decode cX1_release 37 = .ok (.aload_n 0, 1) := by decide +kernel
theorem dX1_release_38 : decode cX1_release 38 = .ok (.iconst 0, 1) := by decide +kernel
theorem dX1_release_39 : decode cX1_release 39 = .ok (.putfield 18, 3) := by decide +kernel
theorem dX1_release_42 : decode cX1_release 42 = .ok (.aload_n 0, 1) := by decide +kernel
theorem dX1_release_43 : decode cX1_release 43 = .ok (.iconst 0, 1) := by decide +kernel
theorem dX1_release_44 : decode cX1_release 44 = .ok (.putfield 22, 3) := by decide +kernel
theorem dX1_release_47 : decode cX1_release 47 = .ok (.return_, 1) := by decide +kernel
set_option maxRecDepth 20000 in
theorem ggX1_isEndedWell_X2_at : GoodIn wsX1_isEndedWell wsX2_at := goodIn_ca (goodIn_r _ [6, 7, 8, 20, 21] (by decide +kernel) (by decide +kernel)) (goodIn_sub (fun _ h => List.mem_cons_of_mem _ (List.mem_append_right _ h)) (by decide +kernel))
set_option maxRecDepth 20000 in
theorem gX1_isEndedWell_X2_at : GoodIn wsX1_isEndedWell (wsV RX1 31 RX2 yX2_at wsX2_at) := goodIn_app (goodIn_of _ (by decide +kernel)) ggX1_isEndedWell_X2_at
set_option maxRecDepth 20000 in
theorem ggX1_isEndedWell_X0_isLetter : GoodIn wsX1_isEndedWell wsX0_isLetter := goodIn_r _ [13, 14, 15, 16, 12, 17, 18, 19] (by decide +kernel) (by decide +kernel)
set_option maxRecDepth 20000 in
theorem gX1_isEndedWell_X0_isLetter : GoodIn wsX1_isEndedWell (wsV RX1 58 RX0 yX0_isLetter wsX0_isLetter) := goodIn_app (goodIn_of _ (by decide +kernel)) ggX1_isEndedWell_X0_isLetter
theorem dX1_isEndedWell_0 : decode cX1_isEndedWell 0 = .ok (.iload_n 3, 1) := by decide +kernel
theorem dX1_isEndedWell_1 : decode cX1_isEndedWell 1 = .ok (.aload_n 1, 1) := by decide +kernel
theorem dX1_isEndedWell_2 : decode cX1_isEndedWell 2 = .ok (.getfield 28, 3) := by decide +kernel
theorem dX1_isEndedWell_5 : decode cX1_isEndedWell 5 = .ok (.if_icmp .lt 5, 3) := by decide +kernel
theorem dX1_isEndedWell_8 : decode cX1_isEndedWell 8 = .ok (.iconst 1, 1) := by decide +kernel
theorem dX1_isEndedWell_9 : decode cX1_isEndedWell 9 = .ok (.ireturn, 1) := by decide +kernel
theorem dX1_isEndedWell_10 : decode cX1_isEndedWell 10 = .ok (.aload_n 0, 1) := by decide +kernel
theorem dX1_isEndedWell_11 : decode cX1_isEndedWell 11 = .ok (.getfield 22, 3) := by decide +kernel
theorem dX1_isEndedWell_14 : decode cX1_isEndedWell 14 = .ok (.ifCond .ne 5, 3) := by decide +kernel
theorem dX1_isEndedWell_17 : decode cX1_isEndedWell 17 = .ok (.iconst 0, 1) := by decide +kernel
theorem dX1_isEndedWell_18 : decode cX1_isEndedWell 18 = .ok (.ireturn, 1) := by decide +kernel
theorem dX1_isEndedWell_19 : decode cX1_isEndedWell 19 = .ok (.iload_n 3, 1) := by decide +kernel
theorem dX1_isEndedWell_20 : decode cX1_isEndedWell 20 = .ok (.iconst 4, 1) := by decide +kernel
theorem dX1_isEndedWell_21 : decode cX1_isEndedWell 21 = .ok (.iadd, 1) := by decide +kernel
theorem dX1_isEndedWell_22 : decode cX1_isEndedWell 22 = .ok (.aload_n 0, 1) := by decide +kernel
theorem dX1_isEndedWell_23 : decode cX1_isEndedWell 23 = .ok (.getfield 22, 3) := by decide +kernel
theorem dX1_isEndedWell_26 : decode cX1_isEndedWell 26 = .ok (.isub, 1) := by decide +kernel
theorem dX1_isEndedWell_27 : decode cX1_isEndedWell 27 = .ok (.istore 4, 2) := by decide +kernel
theorem dX1_isEndedWell_29 : decode cX1_isEndedWell 29 = .ok (.iload_n 3, 1) := by decide +kernel
theorem dX1_isEndedWell_30 : decode cX1_isEndedWell 30 = .ok (.istore 5, 2) := by decide +kernel
theorem dX1_isEndedWell_32 : decode cX1_isEndedWell 32 = .ok (.iload 5, 2) := by decide +kernel
theorem dX1_isEndedWell_34 : decode cX1_isEndedWell 34 = .ok (.iload 4, 2) := by decide +kernel
theorem dX1_isEndedWell_36 : decode cX1_isEndedWell 36 = .ok (.if_icmp .ge 22, 3) := by decide +kernel
theorem dX1_isEndedWell_39 : decode cX1_isEndedWell 39 = .ok (.aload_n 1, 1) := by decide +kernel
theorem dX1_isEndedWell_40 : decode cX1_isEndedWell 40 = .ok (.iload 5, 2) := by decide +kernel
theorem dX1_isEndedWell_42 : decode cX1_isEndedWell 42 = .ok (.invokevirtual 31, 3) := by decide +kernel
theorem dX1_isEndedWell_45 : decode cX1_isEndedWell 45 = .ok (.bipush 61, 2) := by decide +kernel
theorem dX1_isEndedWell_47 : decode cX1_isEndedWell 47 = .ok (.if_icmp .eq 5, 3) := by decide +kernel
theorem dX1_isEndedWell_50 : decode cX1_isEndedWell 50 = .ok (.iconst 0, 1) := by decide +kernel
theorem dX1_isEndedWell_51 : decode cX1_isEndedWell 51 = .ok (.ireturn, 1) := by decide +kernel
theorem dX1_isEndedWell_52 : decode cX1_isEndedWell 52 = .ok (.iinc 5 1, 3) := by decide +kernel
theorem dX1_isEndedWell_55 : decode cX1_isEndedWell 55 = .ok (.goto (-23), 3) := by decide +kernel
theorem dX1_isEndedWell_58 : decode cX1_isEndedWell 58 = .ok (.iload 4, 2) := by decide +kernel
theorem dX1_isEndedWell_60 : decode cX1_isEndedWell 60 = .ok (.istore 5, 2) := by decide +kernel
theorem dX1_isEndedWell_62 : decode cX1_isEndedWell 62 = .ok (.iload 5, 2) := by decide +kernel
theorem dX1_isEndedWell_64 : decode cX1_isEndedWell 64 = .ok (.aload_n 1, 1) := by decide +kernel
theorem dX1_isEndedWell_65 : decode cX1_isEndedWell 65 = .ok (.getfield 28, 3) := by decide +kernel
theorem dX1_isEndedWell_68 : decode cX1_isEndedWell 68 = .ok (.if_icmp .ge 31, 3) := by decide +kernel
theorem dX1_isEndedWell_71 : decode cX1_isEndedWell 71 = .ok (.aload_n 2, 1) := by decide +kernel
theorem dX1_isEndedWell_72 : decode cX1_isEndedWell 72 = .ok (.getfield 44, 3) := by decide +kernel
theorem dX1_isEndedWell_75 : decode cX1_isEndedWell 75 = .ok (.ifCond .eq 16, 3) := by decide +kernel
theorem dX1_isEndedWell_78 : decode cX1_isEndedWell 78 = .ok (.aload_n 2, 1) := by decide +kernel
theorem dX1_isEndedWell_79 : decode cX1_isEndedWell 79 = .ok (.aload_n 1, 1) := by decide +kernel
theorem dX1_isEndedWell_80 : decode cX1_isEndedWell 80 = .ok (.iload 5, 2) := by decide +kernel
theorem dX1_isEndedWell_82 : decode cX1_isEndedWell 82 = .ok (.invokevirtual 31, 3) := by decide +kernel
theorem dX1_isEndedWell_85 : decode cX1_isEndedWell 85 = .ok (.invokevirtual 58, 3) := by decide +kernel
theorem dX1_isEndedWell_88 : decode cX1_isEndedWell 88 = .ok (.ifCond .eq 5, 3) := by decide +kernel
theorem dX1_isEndedWell_91 : decode cX1_isEndedWell 91 = .ok (.iconst 0, 1) := by decide +kernel
theorem dX1_isEndedWell_92 : decode cX1_isEndedWell 92 = .ok (.ireturn, 1) := by decide +kernel
theorem dX1_isEndedWell_93 : decode cX1_isEndedWell 93 = .ok (.iinc 5 1, 3) := by decide +kernel
theorem dX1_isEndedWell_96 : decode cX1_isEndedWell 96 = .ok (.goto (-34), 3) := by decide +kernel
theorem dX1_isEndedWell_99 : decode cX1_isEndedWell 99 = .ok (.iconst 1, 1) := by decide +kernel
theorem dX1_isEndedWell_100 : decode cX1_isEndedWell 100 = .ok (.ireturn, 1) := by decide +kernel
theorem dX2_init_0 : decode cX2_init 0 = .ok (.aload_n 0, 1) := by decide +kernel
theorem dX2_init_1 : decode cX2_init 1 = .ok (.invokespecial 3, 3) := by decide +kernel
theorem dX2_init_4 : decode cX2_init 4 = .ok (.aload_n 0, 1) := by decide +kernel
theorem dX2_init_5 : decode cX2_init 5 = .ok (.sipush 440, 3) := by decide +kernel
theorem dX2_init_8 : decode cX2_init 8 = .ok (.newarray .int, 2) := by decide +kernel
theorem dX2_init_10 : decode cX2_init 10 = .ok (.putfield 9, 3) := by decide +kernel
theorem dX2_init_13 : decode cX2_init 13 = .ok (.aload_n 0, 1) := by decide +kernel
theorem dX2_init_14 : decode cX2_init 14 = .ok (.iconst 0, 1) := by decide +kernel
theorem dX2_init_15 : decode cX2_init 15 = .ok (.putfield 15, 3) := by decide +kernel
theorem dX2_init_18 : decode cX2_init 18 = .ok (.return_, 1) := by decide +kernel
theorem dX2_clear_0 : decode cX2_clear 0 = .ok (.aload_n 0, 1) := by decide +kernel
theorem dX2_clear_1 : decode cX2_clear 1 = .ok (.iconst 0, 1) := by decide +kernel
theorem dX2_clear_2 : decode cX2_clear 2 = .ok (.putfield 15, 3) := by decide +kernel
theorem dX2_clear_5 : decode cX2_clear 5 = .ok (.return_, 1) := by decide +kernel
theorem dX2_at_0 : decode cX2_at 0 = .ok (.iload_n 1, 1) := by decide +kernel
theorem dX2_at_1 : decode cX2_at 1 = .ok (.ifCond .lt 29, 3) := by decide +kernel
theorem dX2_at_4 : decode cX2_at 4 = .ok (.iload_n 1, 1) := by decide +kernel
theorem dX2_at_5 : decode cX2_at 5 = .ok (.aload_n 0, 1) := by decide +kernel
theorem dX2_at_6 : decode cX2_at 6 = .ok (.getfield 15, 3) := by decide +kernel
theorem dX2_at_9 : decode cX2_at 9 = .ok (.if_icmp .ge 21, 3) := by decide +kernel
theorem dX2_at_12 : decode cX2_at 12 = .ok (.iload_n 1, 1) := by decide +kernel
theorem dX2_at_13 : decode cX2_at 13 = .ok (.aload_n 0, 1) := by decide +kernel
theorem dX2_at_14 : decode cX2_at 14 = .ok (.getfield 9, 3) := by decide +kernel
theorem dX2_at_17 : decode cX2_at 17 = .ok (.arraylength, 1) := by decide +kernel
theorem dX2_at_18 : decode cX2_at 18 = .ok (.if_icmp .ge 12, 3) := by decide +kernel
theorem dX2_at_21 : decode cX2_at 21 = .ok (.aload_n 0, 1) := by decide +kernel
theorem dX2_at_22 : decode cX2_at 22 = .ok (.getfield 9, 3) := by decide +kernel
theorem dX2_at_25 : decode cX2_at 25 = .ok (.iload_n 1, 1) := by decide +kernel
theorem dX2_at_26 : decode cX2_at 26 = .ok (.iaload, 1) := by decide +kernel
theorem dX2_at_27 : decode cX2_at 27 = .ok (.goto 4, 3) := by decide +kernel
theorem dX2_at_30 : decode cX2_at 30 = .ok (.iconst 0, 1) := by decide +kernel
theorem dX2_at_31 : decode cX2_at 31 = .ok (.ireturn, 1) := by decide +kernel
theorem dX2_append_0 : decode cX2_append 0 = .ok (.aload_n 0, 1) := by decide +kernel
theorem dX2_append_1 : decode cX2_append 1 = .ok (.getfield 15, 3) := by decide +kernel
theorem dX2_append_4 : decode cX2_append 4 = .ok (.ifCond .lt 35, 3) := by decide +kernel
theorem dX2_append_7 : decode cX2_append 7 = .ok (.aload_n 0, 1) := by decide +kernel
theorem dX2_append_8 : decode cX2_append 8 = .ok (.getfield 15, 3) := by decide +kernel
theorem dX2_append_11 : decode cX2_append 11 = .ok (.aload_n 0, 1) := by decide +kernel
theorem dX2_append_12 : decode cX2_append 12 = .ok (.getfield 9, 3) := by decide +kernel
theorem dX2_append_15 : decode cX2_append 15 = .ok (.arraylength, 1) := by decide +kernel
theorem dX2_append_16 : decode cX2_append 16 = .ok (.if_icmp .ge 23, 3) := by decide +kernel
theorem dX2_append_19 : decode cX2_append 19 = .ok (.aload_n 0, 1) := by decide +kernel
theorem dX2_append_20 : decode cX2_append 20 = .ok (.getfield 9, 3) := by decide +kernel
theorem dX2_append_23 : decode cX2_append 23 = .ok (.aload_n 0, 1) := by decide +kernel
theorem dX2_append_24 : decode cX2_append 24 = .ok (.getfield 15, 3) := by decide +kernel
theorem dX2_append_27 : decode cX2_append 27 = .ok (.iload_n 1, 1) := by decide +kernel
theorem dX2_append_28 : decode cX2_append 28 = .ok (.iastore, 1) := by decide +kernel
theorem dX2_append_29 : decode cX2_append 29 = .ok (.aload_n 0, 1) := by decide +kernel
theorem dX2_append_30 : decode cX2_append 30 = .ok (.dup, 1) := by decide +kernel
theorem dX2_append_31 : decode cX2_append 31 = .ok (.getfield 15, 3) := by decide +kernel
theorem dX2_append_34 : decode cX2_append 34 = .ok (.iconst 1, 1) := by decide +kernel
theorem dX2_append_35 : decode cX2_append 35 = .ok (.iadd, 1) := by decide +kernel
theorem dX2_append_36 : decode cX2_append 36 = .ok (.putfield 15, 3) := by decide +kernel
theorem dX2_append_39 : decode cX2_append 39 = .ok (.return_, 1) := by decide +kernel
theorem dX2_replace_0 : decode cX2_replace 0 = .ok (.iload_n 1, 1) := by decide +kernel
theorem dX2_replace_1 : decode cX2_replace 1 = .ok (.ifCond .lt 27, 3) := by decide +kernel
theorem dX2_replace_4 : decode cX2_replace 4 = .ok (.iload_n 1, 1) := by decide +kernel
theorem dX2_replace_5 : decode cX2_replace 5 = .ok (.aload_n 0, 1) := by decide +kernel
theorem dX2_replace_6 : decode cX2_replace 6 = .ok (.getfield 15, 3) := by decide +kernel
theorem dX2_replace_9 : decode cX2_replace 9 = .ok (.if_icmp .ge 19, 3) := by decide +kernel
theorem dX2_replace_12 : decode cX2_replace 12 = .ok (.iload_n 1, 1) := by decide +kernel
theorem dX2_replace_13 : decode cX2_replace 13 = .ok (.aload_n 0, 1) := by decide +kernel
theorem dX2_replace_14 : decode cX2_replace 14 = .ok (.getfield 9, 3) := by decide +kernel
theorem dX2_replace_17 : decode cX2_replace 17 = .ok (.arraylength, 1) := by decide +kernel
theorem dX2_replace_18 : decode cX2_replace 18 = .ok (.if_icmp .ge 10, 3) := by decide +kernel
theorem dX2_replace_21 : decode cX2_replace 21 = .ok (.aload_n 0, 1) := by decide +kernel
theorem dX2_replace_22 : decode cX2_replace 22 = .ok (.getfield 9, 3) := by decide +kernel
theorem dX2_replace_25 : decode cX2_replace 25 = .ok (.iload_n 1, 1) := by decide +kernel
theorem dX2_replace_26 : decode cX2_replace 26 = .ok (.iload_n 2, 1) := by decide +kernel
theorem dX2_replace_27 : decode cX2_replace 27 = .ok (.iastore, 1) := by decide +kernel
theorem dX2_replace_28 : decode cX2_replace 28 = .ok (.return_, 1) := by decide +kernel
set_option maxRecDepth 20000 in
theorem ggX2_squeezeIn_X2_append : GoodIn wsX2_squeezeIn wsX2_append := goodIn_ca (goodIn_r _ [6, 1, 7, 16, 17] (by decide +kernel) (by decide +kernel)) (goodIn_sub (fun _ h => List.mem_cons_of_mem _ (List.mem_append_right _ h)) (by decide +kernel))
set_option maxRecDepth 20000 in
theorem gX2_squeezeIn_X2_append : GoodIn wsX2_squeezeIn (wsV RX2 19 RX2 yX2_append wsX2_append) := goodIn_app (goodIn_of _ (by decide +kernel)) ggX2_squeezeIn_X2_append
set_option maxRecDepth 20000 in
theorem ggX2_squeezeIn_X2_at : GoodIn wsX2_squeezeIn wsX2_at := goodIn_ca (goodIn_r _ [11, 1, 7, 16, 17] (by decide +kernel) (by decide +kernel)) (goodIn_sub (fun _ h => List.mem_cons_of_mem _ (List.mem_append_right _ h)) (by decide +kernel))
set_option maxRecDepth 20000 in
theorem gX2_squeezeIn_X2_at : GoodIn wsX2_squeezeIn (wsV RX2 23 RX2 yX2_at wsX2_at) := goodIn_app (goodIn_of _ (by decide +kernel)) ggX2_squeezeIn_X2_at
set_option maxRecDepth 20000 in
theorem ggX2_squeezeIn_X2_replace : GoodIn wsX2_squeezeIn wsX2_replace := goodIn_ca (goodIn_r _ [15, 1, 7, 16, 17] (by decide +kernel) (by decide +kernel)) (goodIn_sub (fun _ h => List.mem_cons_of_mem _ (List.mem_append_right _ h)) (by decide +kernel))
set_option maxRecDepth 20000 in
theorem gX2_squeezeIn_X2_replace : GoodIn wsX2_squeezeIn (wsV RX2 27 RX2 yX2_replace wsX2_replace) := goodIn_app (goodIn_of _ (by decide +kernel)) ggX2_squeezeIn_X2_replace
theorem dX2_squeezeIn_0 : decode cX2_squeezeIn 0 = .ok (.aload_n 0, 1) := by decide +kernel
theorem dX2_squeezeIn_1 : decode cX2_squeezeIn 1 = .ok (.iload_n 2, 1) := by decide +kernel
theorem dX2_squeezeIn_2 : decode cX2_squeezeIn 2 = .ok (.invokevirtual 19, 3) := by decide +kernel
theorem dX2_squeezeIn_5 : decode cX2_squeezeIn 5 = .ok (.aload_n 0, 1) := by decide +kernel
theorem dX2_squeezeIn_6 : decode cX2_squeezeIn 6 = .ok (.getfield 15, 3) := by decide +kernel
theorem dX2_squeezeIn_9 : decode cX2_squeezeIn 9 = .ok (.iconst 1, 1) := by decide +kernel
theorem dX2_squeezeIn_10 : decode cX2_squeezeIn 10 = .ok (.isub, 1) := by decide +kernel
theorem dX2_squeezeIn_11 : decode cX2_squeezeIn 11 = .ok (.istore_n 3, 1) := by decide +kernel
theorem dX2_squeezeIn_12 : decode cX2_squeezeIn 12 = .ok (.iload_n 3, 1) := by decide +kernel
theorem dX2_squeezeIn_13 : decode cX2_squeezeIn 13 = .ok (.iload_n 1, 1) := by decide +kernel
theorem dX2_squeezeIn_14 : decode cX2_squeezeIn 14 = .ok (.if_icmp .le 21, 3) := by decide +kernel
theorem dX2_squeezeIn_17 : decode cX2_squeezeIn 17 = .ok (.aload_n 0, 1) := by decide +kernel
theorem dX2_squeezeIn_18 : decode cX2_squeezeIn 18 = .ok (.iload_n 3, 1) := by decide +kernel
theorem dX2_squeezeIn_19 : decode cX2_squeezeIn 19 = .ok (.aload_n 0, 1) := by decide +kernel
theorem dX2_squeezeIn_20 : decode cX2_squeezeIn 20 = .ok (.iload_n 3, 1) := by decide +kernel
theorem dX2_squeezeIn_21 : decode cX2_squeezeIn 21 = .ok (.iconst 1, 1) := by decide +kernel
theorem dX2_squeezeIn_22 : decode cX2_squeezeIn 22 = .ok (.isub, 1) := by decide +kernel
theorem dX2_squeezeIn_23 : decode cX2_squeezeIn 23 = .ok (.invokevirtual 23, 3) := by decide +kernel
theorem dX2_squeezeIn_26 : decode cX2_squeezeIn 26 = .ok (.invokevirtual 27, 3) := by decide +kernel
theorem dX2_squeezeIn_29 : decode cX2_squeezeIn 29 = .ok (.iinc 3 (-1), 3) := by decide +kernel
theorem dX2_squeezeIn_32 : decode cX2_squeezeIn 32 = .ok (.goto (-20), 3) := by decide +kernel
theorem dX2_squeezeIn_35 : decode cX2_squeezeIn 35 = .ok (.aload_n 0, 1) := by decide +kernel
theorem dX2_squeezeIn_36 : decode cX2_squeezeIn 36 = .ok (.iload_n 1, 1) := by decide +kernel
theorem dX2_squeezeIn_37 : decode cX2_squeezeIn 37 = .ok (.iload_n 2, 1) := by decide +kernel
theorem dX2_squeezeIn_38 : decode cX2_squeezeIn 38 = .ok (.invokevirtual 27, 3) := by decide +kernel
theorem dX2_squeezeIn_41 : decode cX2_squeezeIn 41 = .ok (.return_, 1) := by decide +kernel
set_option maxRecDepth 20000 in
theorem ggX2_takeOut_X2_at : GoodIn wsX2_takeOut wsX2_at := goodIn_ca (goodIn_r _ [6, 1, 7, 16, 17] (by decide +kernel) (by decide +kernel)) (goodIn_sub (fun _ h => List.mem_cons_of_mem _ (List.mem_append_right _ h)) (by decide +kernel))
set_option maxRecDepth 20000 in
theorem gX2_takeOut_X2_at : GoodIn wsX2_takeOut (wsV RX2 23 RX2 yX2_at wsX2_at) := goodIn_app (goodIn_of _ (by decide +kernel)) ggX2_takeOut_X2_at
set_option maxRecDepth 20000 in
theorem ggX2_takeOut_X2_replace : GoodIn wsX2_takeOut wsX2_replace := goodIn_ca (goodIn_r _ [11, 1, 7, 16, 17] (by decide +kernel) (by decide +kernel)) (goodIn_sub (fun _ h => List.mem_cons_of_mem _ (List.mem_append_right _ h)) (by decide +kernel))
set_option maxRecDepth 20000 in
theorem gX2_takeOut_X2_replace : GoodIn wsX2_takeOut (wsV RX2 27 RX2 yX2_replace wsX2_replace) := goodIn_app (goodIn_of _ (by decide +kernel)) ggX2_takeOut_X2_replace
set_option maxRecDepth 20000 in
theorem ggX2_takeOut_X2_cutTo : GoodIn wsX2_takeOut wsX2_cutTo := goodIn_r _ [15, 1, 16, 17] (by decide +kernel) (by decide +kernel)
set_option maxRecDepth 20000 in
theorem gX2_takeOut_X2_cutTo : GoodIn wsX2_takeOut (wsV RX2 31 RX2 yX2_cutTo wsX2_cutTo) := goodIn_app (goodIn_of _ (by decide +kernel)) ggX2_takeOut_X2_cutTo
theorem dX2_takeOut_0 : decode cX2_takeOut 0 = .ok (.iload_n 1, 1) := by decide +kernel
theorem dX2_takeOut_1 : decode cX2_takeOut 1 = .ok (.istore_n 3, 1) := by decide +kernel
theorem dX2_takeOut_2 : decode cX2_takeOut 2 = .ok (.iload_n 3, 1) := by decide +kernel
theorem dX2_takeOut_3 : decode cX2_takeOut 3 = .ok (.aload_n 0, 1) := by decide +kernel
theorem dX2_takeOut_4 : decode cX2_takeOut 4 = .ok (.getfield 15, 3) := by decide +kernel
theorem dX2_takeOut_7 : decode cX2_takeOut 7 = .ok (.iload_n 2, 1) := by decide +kernel
theorem dX2_takeOut_8 : decode cX2_takeOut 8 = .ok (.isub, 1) := by decide +kernel
theorem dX2_takeOut_9 : decode cX2_takeOut 9 = .ok (.if_icmp .ge 21, 3) := by decide +kernel
theorem dX2_takeOut_12 : decode cX2_takeOut 12 = .ok (.aload_n 0, 1) := by decide +kernel
theorem dX2_takeOut_13 : decode cX2_takeOut 13 = .ok (.iload_n 3, 1) := by decide +kernel
theorem dX2_takeOut_14 : decode cX2_takeOut 14 = .ok (.aload_n 0, 1) := by decide +kernel
theorem dX2_takeOut_15 : decode cX2_takeOut 15 = .ok (.iload_n 3, 1) := by decide +kernel
theorem dX2_takeOut_16 : decode cX2_takeOut 16 = .ok (.iload_n 2, 1) := by decide +kernel
theorem dX2_takeOut_17 : decode cX2_takeOut 17 = .ok (.iadd, 1) := by decide +kernel
theorem dX2_takeOut_18 : decode cX2_takeOut 18 = .ok (.invokevirtual 23, 3) := by decide +kernel
theorem dX2_takeOut_21 : decode cX2_takeOut 21 = .ok (.invokevirtual 27, 3) := by decide +kernel
theorem dX2_takeOut_24 : decode cX2_takeOut 24 = .ok (.iinc 3 1, 3) := by decide +kernel
theorem dX2_takeOut_27 : decode cX2_takeOut 27 = .ok (.goto (-25), 3) := by decide +kernel
theorem dX2_takeOut_30 : decode cX2_takeOut 30 = .ok (.aload_n 0, 1) := by decide +kernel
theorem dX2_takeOut_31 : decode cX2_takeOut 31 = .ok (.aload_n 0, 1) := by decide +kernel
theorem dX2_takeOut_32 : decode cX2_takeOut 32 = .ok (.getfield 15, 3) := by decide +kernel
theorem dX2_takeOut_35 : decode cX2_takeOut 35 = .ok (.iload_n 2, 1) := by decide +kernel
theorem dX2_takeOut_36 : decode cX2_takeOut 36 = .ok (.isub, 1) := by decide +kernel
theorem dX2_takeOut_37 : decode cX2_takeOut 37 = .ok (.invokevirtual 31, 3) := by decide +kernel
theorem dX2_takeOut_40 : decode cX2_takeOut 40 = .ok (.return_, 1) := by decide +kernel
theorem dX2_cutTo_0 : decode cX2_cutTo 0 = .ok (.iload_n 1, 1) := by decide +kernel
theorem dX2_cutTo_1 : decode cX2_cutTo 1 = .ok (.ifCond .lt 16, 3) := by decide +kernel
theorem dX2_cutTo_4 : decode cX2_cutTo 4 = .ok (.iload_n 1, 1) := by decide +kernel
theorem dX2_cutTo_5 : decode cX2_cutTo 5 = .ok (.aload_n 0, 1) := by decide +kernel
theorem dX2_cutTo_6 : decode cX2_cutTo 6 = .ok (.getfield 15, 3) := by decide +kernel
theorem dX2_cutTo_9 : decode cX2_cutTo 9 = .ok (.if_icmp .ge 8, 3) := by decide +kernel
theorem dX2_cutTo_12 : decode cX2_cutTo 12 = .ok (.aload_n 0, 1) := by decide +kernel
theorem dX2_cutTo_13 : decode cX2_cutTo 13 = .ok (.iload_n 1, 1) := by decide +kernel
theorem dX2_cutTo_14 : decode cX2_cutTo 14 = .ok (.putfield 15, 3) := by decide +kernel
theorem dX2_cutTo_17 : decode cX2_cutTo 17 = .ok (.return_, 1) := by decide +kernel
set_option maxRecDepth 20000 in
theorem ggX2_become_X2_clear : GoodIn wsX2_become wsX2_clear := goodIn_r _ [6, 1, 16, 17] (by decide +kernel) (by decide +kernel)
set_option maxRecDepth 20000 in
theorem gX2_become_X2_clear : GoodIn wsX2_become (wsV RX2 34 RX2 yX2_clear wsX2_clear) := goodIn_app (goodIn_of _ (by decide +kernel)) ggX2_become_X2_clear
set_option maxRecDepth 20000 in
theorem ggX2_become_X2_at : GoodIn wsX2_become wsX2_at := goodIn_ca (goodIn_r _ [10, 1, 11, 16, 17] (by decide +kernel) (by decide +kernel)) (goodIn_sub (fun _ h => List.mem_cons_of_mem _ (List.mem_append_right _ h)) (by decide +kernel))
set_option maxRecDepth 20000 in
theorem gX2_become_X2_at : GoodIn wsX2_become (wsV RX2 23 RX2 yX2_at wsX2_at) := goodIn_app (goodIn_of _ (by decide +kernel)) ggX2_become_X2_at
set_option maxRecDepth 20000 in
theorem ggX2_become_X2_append : GoodIn wsX2_become wsX2_append := goodIn_ca (goodIn_r _ [15, 1, 11, 16, 17] (by decide +kernel) (by decide +kernel)) (goodIn_sub (fun _ h => List.mem_cons_of_mem _ (List.mem_append_right _ h)) (by decide +kernel))
set_option maxRecDepth 20000 in
theorem gX2_become_X2_append : GoodIn wsX2_become (wsV RX2 19 RX2 yX2_append wsX2_append) := goodIn_app (goodIn_of _ (by decide +kernel)) ggX2_become_X2_append
theorem dX2_become_0 : decode cX2_become 0 = .ok (.aload_n 1, 1) := by decide +kernel
theorem dX2_become_1 : decode cX2_become 1 = .ok (.aload_n 0, 1) := by decide +kernel
theorem dX2_become_2 : decode cX2_become 2 = .ok (.if_acmp .ne 4, 3) := by decide +kernel
theorem dX2_become_5 : decode cX2_become 5 = .ok (.return_, 1) := by decide +kernel
theorem dX2_become_6 : decode cX2_become 6 = .ok (.aload_n 0, 1) := by decide +kernel
theorem dX2_become_7 : decode cX2_become 7 = .ok (.invokevirtual 34, 3) := by decide +kernel
theorem dX2_become_10 : decode cX2_become 10 = .ok (.iconst 0, 1) := by decide +kernel
theorem dX2_become_11 : decode cX2_become 11 = .ok (.istore_n 2, 1) := by decide +kernel
theorem dX2_become_12 : decode cX2_become 12 = .ok (.iload_n 2, 1) := by decide +kernel
theorem dX2_become_13 : decode cX2_become 13 = .ok (.aload_n 1, 1) := by decide +kernel
theorem dX2_become_14 : decode cX2_become 14 = .ok (.getfield 15, 3) := by decide +kernel
theorem dX2_become_17 : decode cX2_become 17 = .ok (.if_icmp .ge 18, 3) := by decide +kernel
theorem dX2_become_20 : decode cX2_become 20 = .ok (.aload_n 0, 1) := by decide +kernel
theorem dX2_become_21 : decode cX2_become 21 = .ok (.aload_n 1, 1) := by decide +kernel
theorem dX2_become_22 : decode cX2_become 22 = .ok (.iload_n 2, 1) := by decide +kernel
theorem dX2_become_23 : decode cX2_become 23 = .ok (.invokevirtual 23, 3) := by decide +kernel
theorem dX2_become_26 : decode cX2_become 26 = .ok (.invokevirtual 19, 3) := by decide +kernel
theorem dX2_become_29 : decode cX2_become 29 = .ok (.iinc 2 1, 3) := by decide +kernel
theorem dX2_become_32 : decode cX2_become 32 = .ok (.goto (-20), 3) := by decide +kernel
theorem dX2_become_35 : decode cX2_become 35 = .ok (.return_, 1) := by decide +kernel
set_option maxRecDepth 20000 in
theorem ggX2_becomeCodes_X2_clear : GoodIn wsX2_becomeCodes wsX2_clear := goodIn_r _ [5, 6, 57, 58] (by decide +kernel) (by decide +kernel)
set_option maxRecDepth 20000 in
theorem gX2_becomeCodes_X2_clear : GoodIn wsX2_becomeCodes (wsV RX2 34 RX2 yX2_clear wsX2_clear) := goodIn_app (goodIn_of _ (by decide +kernel)) ggX2_becomeCodes_X2_clear
set_option maxRecDepth 20000 in
theorem ggX2_becomeCodes_J4_length_8abf5 : GoodIn wsX2_becomeCodes wsJ4_length_8abf5 := goodIn_r _ [11, 12, 13, 14, 15, 16, 17, 18, 59, 60, 61, 62] (by decide +kernel) (by decide +kernel)
set_option maxRecDepth 20000 in
theorem gX2_becomeCodes_J4_length_8abf5 : GoodIn wsX2_becomeCodes (wsV RX2 37 RJ4 yJ4_length_8abf5 wsJ4_length_8abf5) := goodIn_app (goodIn_of _ (by decide +kernel)) ggX2_becomeCodes_J4_length_8abf5
set_option maxRecDepth 20000 in
theorem ggX2_becomeCodes_J4_charAt_5068e : GoodIn wsX2_becomeCodes wsJ4_charAt_5068e := goodIn_r _ [22, 23, 24, 14, 25, 16, 26, 27, 28, 18, 29, 30, 31, 32, 33, 34, 35, 36, 37, 38, 39, 40, 41, 42, 43, 44, 45, 46, 47, 48, 49, 50, 51, 59, 60, 61, 62] (by decide +kernel) (by decide +kernel)
set_option maxRecDepth 20000 in
theorem gX2_becomeCodes_J4_charAt_5068e : GoodIn wsX2_becomeCodes (wsV RX2 43 RJ4 yJ4_charAt_5068e wsJ4_charAt_5068e) := goodIn_app (goodIn_of _ (by decide +kernel)) ggX2_becomeCodes_J4_charAt_5068e
set_option maxRecDepth 20000 in
theorem ggX2_becomeCodes_X2_append : GoodIn wsX2_becomeCodes wsX2_append := goodIn_ca (goodIn_r _ [55, 6, 56, 57, 58] (by decide +kernel) (by decide +kernel)) (goodIn_sub (fun _ h => List.mem_cons_of_mem _ (List.mem_append_right _ h)) (by decide +kernel))
set_option maxRecDepth 20000 in
theorem gX2_becomeCodes_X2_append : GoodIn wsX2_becomeCodes (wsV RX2 19 RX2 yX2_append wsX2_append) := goodIn_app (goodIn_of _ (by decide +kernel)) ggX2_becomeCodes_X2_append
theorem dX2_becomeCodes_0 : decode cX2_becomeCodes 0 = .ok (.aload_n 0, 1) := by decide +kernel
theorem dX2_becomeCodes_1 : decode cX2_becomeCodes 1 = .ok (.invokevirtual 34, 3) := by decide +kernel
theorem dX2_becomeCodes_4 : decode cX2_becomeCodes 4 = .ok (.iconst 0, 1) := by decide +kernel
theorem dX2_becomeCodes_5 : decode cX2_becomeCodes 5 = .ok (.istore_n 2, 1) := by decide +kernel
theorem dX2_becomeCodes_6 : decode cX2_becomeCodes 6 = .ok (.iload_n 2, 1) := by decide +kernel
theorem dX2_becomeCodes_7 : decode cX2_becomeCodes 7 = .ok (.aload_n 1, 1) := by decide +kernel
theorem dX2_becomeCodes_8 : decode cX2_becomeCodes 8 = .ok (.invokevirtual 37, 3) := by decide +kernel
theorem dX2_becomeCodes_11 : decode cX2_becomeCodes 11 = .ok (.if_icmp .ge 18, 3) := by decide +kernel
theorem dX2_becomeCodes_14 : decode cX2_becomeCodes 14 = .ok (.aload_n 0, 1) := by decide +kernel
theorem dX2_becomeCodes_15 : decode cX2_becomeCodes 15 = .ok (.aload_n 1, 1) := by decide +kernel
theorem dX2_becomeCodes_16 : decode cX2_becomeCodes 16 = .ok (.iload_n 2, 1) := by decide +kernel
theorem dX2_becomeCodes_17 : decode cX2_becomeCodes 17 = .ok (.invokevirtual 43, 3) := by decide +kernel
theorem dX2_becomeCodes_20 : decode cX2_becomeCodes 20 = .ok (.invokevirtual 19, 3) := by decide +kernel
theorem dX2_becomeCodes_23 : decode cX2_becomeCodes 23 = .ok (.iinc 2 1, 3) := by decide +kernel
theorem dX2_becomeCodes_26 : decode cX2_becomeCodes 26 = .ok (.goto (-20), 3) := by decide +kernel
theorem dX2_becomeCodes_29 : decode cX2_becomeCodes 29 = .ok (.return_, 1) := by decide +kernel
set_option maxRecDepth 20000 in
theorem ggX2_sameAs_X2_beginsWith : GoodIn wsX2_sameAs wsX2_beginsWith := goodIn_ca (goodIn_r _ [6, 1, 7, 8, 9, 5, 10, 11, 12, 13] (by decide +kernel) (by decide +kernel)) (goodIn_sub (fun _ h => List.mem_cons_of_mem _ (List.mem_append_right _ h)) (by decide +kernel))
set_option maxRecDepth 20000 in
theorem gX2_sameAs_X2_beginsWith : GoodIn wsX2_sameAs (wsV RX2 47 RX2 yX2_beginsWith wsX2_beginsWith) := goodIn_app (goodIn_of _ (by decide +kernel)) ggX2_sameAs_X2_beginsWith
theorem dX2_sameAs_0 : decode cX2_sameAs 0 = .ok (.aload_n 0, 1) := by decide +kernel
theorem dX2_sameAs_1 : decode cX2_sameAs 1 = .ok (.getfield 15, 3) := by decide +kernel
theorem dX2_sameAs_4 : decode cX2_sameAs 4 = .ok (.aload_n 1, 1) := by decide +kernel
theorem dX2_sameAs_5 : decode cX2_sameAs 5 = .ok (.getfield 15, 3) := by decide +kernel
theorem dX2_sameAs_8 : decode cX2_sameAs 8 = .ok (.if_icmp .ne 15, 3) := by decide +kernel
theorem dX2_sameAs_11 : decode cX2_sameAs 11 = .ok (.aload_n 0, 1) := by decide +kernel
theorem dX2_sameAs_12 : decode cX2_sameAs 12 = .ok (.aload_n 1, 1) := by decide +kernel
theorem dX2_sameAs_13 : decode cX2_sameAs 13 = .ok (.invokevirtual 47, 3) := by decide +kernel
theorem dX2_sameAs_16 : decode cX2_sameAs 16 = .ok (.ifCond .eq 7, 3) := by decide +kernel
theorem dX2_sameAs_19 : decode cX2_sameAs 19 = .ok (.iconst 1, 1) := by decide +kernel
theorem dX2_sameAs_20 : decode cX2_sameAs 20 = .ok (.goto 4, 3) := by decide +kernel
theorem dX2_sameAs_23 : decode cX2_sameAs 23 = .ok (.iconst 0, 1) := by decide +kernel
theorem dX2_sameAs_24 : decode cX2_sameAs 24 = .ok (.ireturn, 1) := by decide +kernel
set_option maxRecDepth 20000 in
theorem ggX2_beginsWith_X2_at : GoodIn wsX2_beginsWith wsX2_at := goodIn_ca (goodIn_r _ [6, 1, 7, 8, 9] (by decide +kernel) (by decide +kernel)) (goodIn_sub (fun _ h => List.mem_cons_of_mem _ (List.mem_append_right _ h)) (by decide +kernel))
set_option maxRecDepth 20000 in
theorem gX2_beginsWith_X2_at : GoodIn wsX2_beginsWith (wsV RX2 23 RX2 yX2_at wsX2_at) := goodIn_app (goodIn_of _ (by decide +kernel)) ggX2_beginsWith_X2_at
theorem dX2_beginsWith_0 : decode cX2_beginsWith 0 = .ok (.aload_n 0, 1) := by decide +kernel
theorem dX2_beginsWith_1 : decode cX2_beginsWith 1 = .ok (.getfield 15, 3) := by decide +kernel
theorem dX2_beginsWith_4 : decode cX2_beginsWith 4 = .ok (.aload_n 1, 1) := by decide +kernel
theorem dX2_beginsWith_5 : decode cX2_beginsWith 5 = .ok (.getfield 15, 3) := by decide +kernel
theorem dX2_beginsWith_8 : decode cX2_beginsWith 8 = .ok (.if_icmp .ge 5, 3) := by decide +kernel
theorem dX2_beginsWith_11 : decode cX2_beginsWith 11 = .ok (.iconst 0, 1) := by decide +kernel
theorem dX2_beginsWith_12 : decode cX2_beginsWith 12 = .ok (.ireturn, 1) := by decide +kernel
theorem dX2_beginsWith_13 : decode cX2_beginsWith 13 = .ok (.iconst 0, 1) := by decide +kernel
theorem dX2_beginsWith_14 : decode cX2_beginsWith 14 = .ok (.istore_n 2, 1) := by decide +kernel
theorem dX2_beginsWith_15 : decode cX2_beginsWith 15 = .ok (.iload_n 2, 1) := by decide +kernel
theorem dX2_beginsWith_16 : decode cX2_beginsWith 16 = .ok (.aload_n 1, 1) := by decide +kernel
theorem dX2_beginsWith_17 : decode cX2_beginsWith 17 = .ok (.getfield 15, 3) := by decide +kernel
theorem dX2_beginsWith_20 : decode cX2_beginsWith 20 = .ok (.if_icmp .ge 24, 3) := by decide +kernel
theorem dX2_beginsWith_23 : decode cX2_beginsWith 23 = .ok (.aload_n 0, 1) := by decide +kernel
theorem dX2_beginsWith_24 : decode cX2_beginsWith 24 = .ok (.iload_n 2, 1) := by decide +kernel
theorem dX2_beginsWith_25 : decode cX2_beginsWith 25 = .ok (.invokevirtual 23, 3) := by decide +kernel
theorem dX2_beginsWith_28 : decode cX2_beginsWith 28 = .ok (.aload_n 1, 1) := by decide +kernel
theorem dX2_beginsWith_29 : decode cX2_beginsWith 29 = .ok (.iload_n 2, 1) := by decide +kernel
theorem dX2_beginsWith_30 : decode cX2_beginsWith 30 = .ok (.invokevirtual 23, 3) := by decide +kernel
theorem dX2_beginsWith_33 : decode cX2_beginsWith 33 = .ok (.if_icmp .eq 5, 3) := by decide +kernel
theorem dX2_beginsWith_36 : decode cX2_beginsWith 36 = .ok (.iconst 0, 1) := by decide +kernel
theorem dX2_beginsWith_37 : decode cX2_beginsWith 37 = .ok (.ireturn, 1) := by decide +kernel
theorem dX2_beginsWith_38 : decode cX2_beginsWith 38 = .ok (.iinc 2 1, 3) := by decide +kernel
theorem dX2_beginsWith_41 : decode cX2_beginsWith 41 = .ok (.goto (-26), 3) := by decide +kernel
theorem dX2_beginsWith_44 : decode cX2_beginsWith 44 = .ok (.iconst 1, 1) := by decide +kernel
theorem dX2_beginsWith_45 : decode cX2_beginsWith 45 = .ok (.ireturn, 1) := by decide +kernel
set_option maxRecDepth 20000 in
theorem ggX2_hasCodes_J4_length_8abf5 : GoodIn wsX2_hasCodes wsJ4_length_8abf5 := goodIn_r _ [6, 7, 8, 9, 10, 11, 12, 13, 55, 56, 57, 58] (by decide +kernel) (by decide +kernel)
set_option maxRecDepth 20000 in
theorem gX2_hasCodes_J4_length_8abf5 : GoodIn wsX2_hasCodes (wsV RX2 37 RJ4 yJ4_length_8abf5 wsJ4_length_8abf5) := goodIn_app (goodIn_of _ (by decide +kernel)) ggX2_hasCodes_J4_length_8abf5
set_option maxRecDepth 20000 in
theorem ggX2_hasCodes_X2_at : GoodIn wsX2_hasCodes wsX2_at := goodIn_ca (goodIn_r _ [18, 1, 19, 53, 54] (by decide +kernel) (by decide +kernel)) (goodIn_sub (fun _ h => List.mem_cons_of_mem _ (List.mem_append_right _ h)) (by decide +kernel))
set_option maxRecDepth 20000 in
theorem gX2_hasCodes_X2_at : GoodIn wsX2_hasCodes (wsV RX2 23 RX2 yX2_at wsX2_at) := goodIn_app (goodIn_of _ (by decide +kernel)) ggX2_hasCodes_X2_at
set_option maxRecDepth 20000 in
theorem ggX2_hasCodes_J4_charAt_5068e : GoodIn wsX2_hasCodes wsJ4_charAt_5068e := goodIn_r _ [23, 24, 25, 9, 26, 11, 27, 28, 29, 13, 30, 31, 32, 33, 34, 35, 36, 37, 38, 39, 40, 41, 42, 43, 44, 45, 46, 47, 48, 49, 50, 51, 52, 55, 56, 57, 58] (by decide +kernel) (by decide +kernel)
set_option maxRecDepth 20000 in
theorem gX2_hasCodes_J4_charAt_5068e : GoodIn wsX2_hasCodes (wsV RX2 43 RJ4 yJ4_charAt_5068e wsJ4_charAt_5068e) := goodIn_app (goodIn_of _ (by decide +kernel)) ggX2_hasCodes_J4_charAt_5068e
theorem dX2_hasCodes_0 : decode cX2_hasCodes 0 = .ok (.aload_n 0, 1) := by decide +kernel
theorem dX2_hasCodes_1 : decode cX2_hasCodes 1 = .ok (.getfield 15, 3) := by decide +kernel
theorem dX2_hasCodes_4 : decode cX2_hasCodes 4 = .ok (.aload_n 1, 1) := by decide +kernel
theorem dX2_hasCodes_5 : decode cX2_hasCodes 5 = .ok (.invokevirtual 37, 3) := by decide +kernel
theorem dX2_hasCodes_8 : decode cX2_hasCodes 8 = .ok (.if_icmp .eq 5, 3) := by decide +kernel
theorem dX2_hasCodes_13 : decode cX2_hasCodes 13 = .ok (.iconst 0, 1) := by decide +kernel
theorem dX2_hasCodes_14 : decode cX2_hasCodes 14 = .ok (.istore_n 2, 1) := by decide +kernel
theorem dX2_hasCodes_15 : decode cX2_hasCodes 15 = .ok (.iload_n 2, 1) := by decide +kernel
theorem dX2_hasCodes_16 : decode cX2_hasCodes 16 = .ok (.aload_n 1, 1) := by decide +kernel
theorem dX2_hasCodes_17 : decode cX2_hasCodes 17 = .ok (.invokevirtual 37, 3) := by decide +kernel
theorem dX2_hasCodes_20 : decode cX2_hasCodes 20 = .ok (.if_icmp .ge 24, 3) := by decide +kernel
theorem dX2_hasCodes_23 : decode cX2_hasCodes 23 = .ok (.aload_n 0, 1) := by decide +kernel
theorem dX2_hasCodes_24 : decode cX2_hasCodes 24 = .ok (.iload_n 2, 1) := by decide +kernel
theorem dX2_hasCodes_25 : decode cX2_hasCodes 25 = .ok (.invokevirtual 23, 3) := by decide +kernel
theorem dX2_hasCodes_28 : decode cX2_hasCodes 28 = .ok (.aload_n 1, 1) := by decide +kernel
theorem dX2_hasCodes_29 : decode cX2_hasCodes 29 = .ok (.iload_n 2, 1) := by decide +kernel
theorem dX2_hasCodes_30 : decode cX2_hasCodes 30 = .ok (.invokevirtual 43, 3) := by decide +kernel
theorem dX2_hasCodes_33 : decode cX2_hasCodes 33 = .ok (.if_icmp .eq 5, 3) := by decide +kernel
theorem dX2_hasCodes_38 : decode cX2_hasCodes 38 = .ok (.iinc 2 1, 3) := by decide +kernel
theorem dX2_hasCodes_41 : decode cX2_hasCodes 41 = .ok (.goto (-26), 3) := by decide +kernel
theorem dX2_hasCodes_44 : decode cX2_hasCodes 44 = .ok (.iconst 1, 1) := by decide +kernel
theorem dX2_hasCodes_45 : decode cX2_hasCodes 45 = .ok (.ireturn, 1) := by decide +kernel
set_option maxRecDepth 20000 in
theorem ggX2_isBeginningAndFilling_X2_beginsWith : GoodIn wsX2_isBeginningAndFilling wsX2_beginsWith := goodIn_ca (goodIn_r _ [6, 1, 7, 8, 9, 5, 10, 11, 16, 17] (by decide +kernel) (by decide +kernel)) (goodIn_sub (fun _ h => List.mem_cons_of_mem _ (List.mem_append_right _ h)) (by decide +kernel))
set_option maxRecDepth 20000 in
theorem gX2_isBeginningAndFilling_X2_beginsWith : GoodIn wsX2_isBeginningAndFilling (wsV RX2 47 RX2 yX2_beginsWith wsX2_beginsWith) := goodIn_app (goodIn_of _ (by decide +kernel)) ggX2_isBeginningAndFilling_X2_beginsWith
set_option maxRecDepth 20000 in
theorem ggX2_isBeginningAndFilling_X2_countFilling : GoodIn wsX2_isBeginningAndFilling wsX2_countFilling := goodIn_ca (goodIn_r _ [15, 1, 7, 8, 9, 5, 10, 11, 16, 17] (by decide +kernel) (by decide +kernel)) (goodIn_sub (fun _ h => List.mem_cons_of_mem _ (List.mem_append_right _ h)) (by decide +kernel))
set_option maxRecDepth 20000 in
theorem gX2_isBeginningAndFilling_X2_countFilling : GoodIn wsX2_isBeginningAndFilling (wsV RX2 51 RX2 yX2_countFilling wsX2_countFilling) := goodIn_app (goodIn_of _ (by decide +kernel)) ggX2_isBeginningAndFilling_X2_countFilling
theorem dX2_isBeginningAndFilling_0 : decode cX2_isBeginningAndFilling 0 = .ok (.aload_n 0, 1) := by decide +kernel
theorem dX2_isBeginningAndFilling_1 : decode cX2_isBeginningAndFilling 1 = .ok (.aload_n 1, 1) := by decide +kernel
theorem dX2_isBeginningAndFilling_2 : decode cX2_isBeginningAndFilling 2 = .ok (.invokevirtual 47, 3) := by decide +kernel
theorem dX2_isBeginningAndFilling_5 : decode cX2_isBeginningAndFilling 5 = .ok (.ifCond .eq 27, 3) := by decide +kernel
theorem dX2_isBeginningAndFilling_8 : decode cX2_isBeginningAndFilling 8 = .ok (.aload_n 0, 1) := by decide +kernel
theorem dX2_isBeginningAndFilling_9 : decode cX2_isBeginningAndFilling 9 = .ok (.aload_n 1, 1) := by decide +kernel
theorem dX2_isBeginningAndFilling_10 : decode cX2_isBeginningAndFilling 10 = .ok (.getfield 15, 3) := by decide +kernel
theorem dX2_isBeginningAndFilling_13 : decode cX2_isBeginningAndFilling 13 = .ok (.invokevirtual 51, 3) := by decide +kernel
theorem dX2_isBeginningAndFilling_16 : decode cX2_isBeginningAndFilling 16 = .ok (.aload_n 0, 1) := by decide +kernel
theorem dX2_isBeginningAndFilling_17 : decode cX2_isBeginningAndFilling 17 = .ok (.getfield 15, 3) := by decide +kernel
theorem dX2_isBeginningAndFilling_20 : decode cX2_isBeginningAndFilling 20 = .ok (.aload_n 1, 1) := by decide +kernel
theorem dX2_isBeginningAndFilling_21 : decode cX2_isBeginningAndFilling 21 = .ok (.getfield 15, 3) := by decide +kernel
theorem dX2_isBeginningAndFilling_24 : decode cX2_isBeginningAndFilling 24 = .ok (.isub, 1) := by decide +kernel
theorem dX2_isBeginningAndFilling_25 : decode cX2_isBeginningAndFilling 25 = .ok (.if_icmp .ne 7, 3) := by decide +kernel
theorem dX2_isBeginningAndFilling_28 : decode cX2_isBeginningAndFilling 28 = .ok (.iconst 1, 1) := by decide +kernel
theorem dX2_isBeginningAndFilling_29 : decode cX2_isBeginningAndFilling 29 = .ok (.goto 4, 3) := by decide +kernel
theorem dX2_isBeginningAndFilling_33 : decode cX2_isBeginningAndFilling 33 = .ok (.ireturn, 1) := by decide +kernel
set_option maxRecDepth 20000 in
theorem ggX2_isInOtherLetters_X2_at : GoodIn wsX2_isInOtherLetters wsX2_at := goodIn_ca (goodIn_r _ [8, 1, 9, 21, 22] (by decide +kernel) (by decide +kernel)) (goodIn_sub (fun _ h => List.mem_cons_of_mem _ (List.mem_append_right _ h)) (by decide +kernel))
set_option maxRecDepth 20000 in
theorem gX2_isInOtherLetters_X2_at : GoodIn wsX2_isInOtherLetters (wsV RX2 23 RX2 yX2_at wsX2_at) := goodIn_app (goodIn_of _ (by decide +kernel)) ggX2_isInOtherLetters_X2_at
set_option maxRecDepth 20000 in
theorem ggX2_isInOtherLetters_X0_worthOf : GoodIn wsX2_isInOtherLetters wsX0_worthOf := goodIn_r _ [14, 15, 16] (by decide +kernel) (by decide +kernel)
set_option maxRecDepth 20000 in
theorem gX2_isInOtherLetters_X0_worthOf : GoodIn wsX2_isInOtherLetters (wsV RX2 60 RX0 yX0_worthOf wsX0_worthOf) := goodIn_app (goodIn_of _ (by decide +kernel)) ggX2_isInOtherLetters_X0_worthOf
set_option maxRecDepth 20000 in
theorem ggX2_isInOtherLetters_X0_letterOf : GoodIn wsX2_isInOtherLetters wsX0_letterOf := goodIn_r _ [20, 15, 16] (by decide +kernel) (by decide +kernel)
set_option maxRecDepth 20000 in
theorem gX2_isInOtherLetters_X0_letterOf : GoodIn wsX2_isInOtherLetters (wsV RX2 66 RX0 yX0_letterOf wsX0_letterOf) := goodIn_app (goodIn_of _ (by decide +kernel)) ggX2_isInOtherLetters_X0_letterOf
theorem dX2_isInOtherLetters_0 : decode cX2_isInOtherLetters 0 = .ok (.aload_n 0, 1) := by decide +kernel
theorem dX2_isInOtherLetters_1 : decode cX2_isInOtherLetters 1 = .ok (.getfield 15, 3) := by decide +kernel
theorem dX2_isInOtherLetters_4 : decode cX2_isInOtherLetters 4 = .ok (.aload_n 1, 1) := by decide +kernel
theorem dX2_isInOtherLetters_5 : decode cX2_isInOtherLetters 5 = .ok (.getfield 15, 3) := by decide +kernel
theorem dX2_isInOtherLetters_8 : decode cX2_isInOtherLetters 8 = .ok (.if_icmp .eq 5, 3) := by decide +kernel
theorem dX2_isInOtherLetters_13 : decode cX2_isInOtherLetters 13 = .ok (.iconst 0, 1) := by decide +kernel
theorem dX2_isInOtherLetters_14 : decode cX2_isInOtherLetters 14 = .ok (.istore_n 2, 1) := by decide +kernel
theorem dX2_isInOtherLetters_15 : decode cX2_isInOtherLetters 15 = .ok (.iload_n 2, 1) := by decide +kernel
theorem dX2_isInOtherLetters_16 : decode cX2_isInOtherLetters 16 = .ok (.aload_n 0, 1) := by decide +kernel
theorem dX2_isInOtherLetters_17 : decode cX2_isInOtherLetters 17 = .ok (.getfield 15, 3) := by decide +kernel
theorem dX2_isInOtherLetters_20 : decode cX2_isInOtherLetters 20 = .ok (.if_icmp .ge 56, 3) := by decide +kernel
theorem dX2_isInOtherLetters_23 : decode cX2_isInOtherLetters 23 = .ok (.getstatic 54, 3) := by decide +kernel
theorem dX2_isInOtherLetters_26 : decode cX2_isInOtherLetters 26 = .ok (.aload_n 0, 1) := by decide +kernel
theorem dX2_isInOtherLetters_27 : decode cX2_isInOtherLetters 27 = .ok (.iload_n 2, 1) := by decide +kernel
theorem dX2_isInOtherLetters_28 : decode cX2_isInOtherLetters 28 = .ok (.invokevirtual 23, 3) := by decide +kernel
theorem dX2_isInOtherLetters_31 : decode cX2_isInOtherLetters 31 = .ok (.invokevirtual 60, 3) := by decide +kernel
theorem dX2_isInOtherLetters_34 : decode cX2_isInOtherLetters 34 = .ok (.istore_n 3, 1) := by decide +kernel
theorem dX2_isInOtherLetters_35 : decode cX2_isInOtherLetters 35 = .ok (.iload_n 3, 1) := by decide +kernel
theorem dX2_isInOtherLetters_36 : decode cX2_isInOtherLetters 36 = .ok (.bipush 62, 2) := by decide +kernel
theorem dX2_isInOtherLetters_38 : decode cX2_isInOtherLetters 38 = .ok (.if_icmp .ge 11, 3) := by decide +kernel
theorem dX2_isInOtherLetters_41 : decode cX2_isInOtherLetters 41 = .ok (.aload_n 0, 1) := by decide +kernel
theorem dX2_isInOtherLetters_42 : decode cX2_isInOtherLetters 42 = .ok (.iload_n 2, 1) := by decide +kernel
theorem dX2_isInOtherLetters_43 : decode cX2_isInOtherLetters 43 = .ok (.invokevirtual 23, 3) := by decide +kernel
theorem dX2_isInOtherLetters_46 : decode cX2_isInOtherLetters 46 = .ok (.goto 10, 3) := by decide +kernel
theorem dX2_isInOtherLetters_49 : decode cX2_isInOtherLetters 49 = .ok (.getstatic 63, 3) := by decide +kernel
theorem dX2_isInOtherLetters_52 : decode cX2_isInOtherLetters 52 = .ok (.iload_n 3, 1) := by decide +kernel
theorem dX2_isInOtherLetters_53 : decode cX2_isInOtherLetters 53 = .ok (.invokevirtual 66, 3) := by decide +kernel
theorem dX2_isInOtherLetters_56 : decode cX2_isInOtherLetters 56 = .ok (.istore 4, 2) := by decide +kernel
theorem dX2_isInOtherLetters_58 : decode cX2_isInOtherLetters 58 = .ok (.aload_n 1, 1) := by decide +kernel
theorem dX2_isInOtherLetters_59 : decode cX2_isInOtherLetters 59 = .ok (.iload_n 2, 1) := by decide +kernel
theorem dX2_isInOtherLetters_60 : decode cX2_isInOtherLetters 60 = .ok (.invokevirtual 23, 3) := by decide +kernel
theorem dX2_isInOtherLetters_63 : decode cX2_isInOtherLetters 63 = .ok (.iload 4, 2) := by decide +kernel
theorem dX2_isInOtherLetters_65 : decode cX2_isInOtherLetters 65 = .ok (.if_icmp .eq 5, 3) := by decide +kernel
theorem dX2_isInOtherLetters_70 : decode cX2_isInOtherLetters 70 = .ok (.iinc 2 1, 3) := by decide +kernel
theorem dX2_isInOtherLetters_73 : decode cX2_isInOtherLetters 73 = .ok (.goto (-58), 3) := by decide +kernel
theorem dX2_isInOtherLetters_76 : decode cX2_isInOtherLetters 76 = .ok (.iconst 1, 1) := by decide +kernel
theorem dX2_isInOtherLetters_77 : decode cX2_isInOtherLetters 77 = .ok (.ireturn, 1) := by decide +kernel
set_option maxRecDepth 20000 in
theorem ggX2_isWithoutLineEnds_X2_at : GoodIn wsX2_isWithoutLineEnds wsX2_at := goodIn_ca (goodIn_r _ [6, 1, 7, 8, 9] (by decide +kernel) (by decide +kernel)) (goodIn_sub (fun _ h => List.mem_cons_of_mem _ (List.mem_append_right _ h)) (by decide +kernel))
set_option maxRecDepth 20000 in
theorem gX2_isWithoutLineEnds_X2_at : GoodIn wsX2_isWithoutLineEnds (wsV RX2 23 RX2 yX2_at wsX2_at) := goodIn_app (goodIn_of _ (by decide +kernel)) ggX2_isWithoutLineEnds_X2_at
theorem dX2_isWithoutLineEnds_0 : decode cX2_isWithoutLineEnds 0 = .ok (.iconst 0, 1) := by decide +kernel
theorem dX2_isWithoutLineEnds_1 : decode cX2_isWithoutLineEnds 1 = .ok (.istore_n 2, 1) := by decide +kernel
theorem dX2_isWithoutLineEnds_2 : decode cX2_isWithoutLineEnds 2 = .ok (.iconst 0, 1) := by decide +kernel
theorem dX2_isWithoutLineEnds_3 : decode cX2_isWithoutLineEnds 3 = .ok (.istore_n 3, 1) := by decide +kernel
theorem dX2_isWithoutLineEnds_4 : decode cX2_isWithoutLineEnds 4 = .ok (.iload_n 3, 1) := by decide +kernel
theorem dX2_isWithoutLineEnds_5 : decode cX2_isWithoutLineEnds 5 = .ok (.aload_n 1, 1) := by decide +kernel
theorem dX2_isWithoutLineEnds_6 : decode cX2_isWithoutLineEnds 6 = .ok (.getfield 15, 3) := by decide +kernel
theorem dX2_isWithoutLineEnds_9 : decode cX2_isWithoutLineEnds 9 = .ok (.if_icmp .ge 56, 3) := by decide +kernel
theorem dX2_isWithoutLineEnds_12 : decode cX2_isWithoutLineEnds 12 = .ok (.aload_n 1, 1) := by decide +kernel
theorem dX2_isWithoutLineEnds_13 : decode cX2_isWithoutLineEnds 13 = .ok (.iload_n 3, 1) := by decide +kernel
theorem dX2_isWithoutLineEnds_14 : decode cX2_isWithoutLineEnds 14 = .ok (.invokevirtual 23, 3) := by decide +kernel
theorem dX2_isWithoutLineEnds_17 : decode cX2_isWithoutLineEnds 17 = .ok (.istore 4, 2) := by decide +kernel
theorem dX2_isWithoutLineEnds_19 : decode cX2_isWithoutLineEnds 19 = .ok (.iload 4, 2) := by decide +kernel
theorem dX2_isWithoutLineEnds_21 : decode cX2_isWithoutLineEnds 21 = .ok (.bipush 13, 2) := by decide +kernel
theorem dX2_isWithoutLineEnds_23 : decode cX2_isWithoutLineEnds 23 = .ok (.if_icmp .eq 36, 3) := by decide +kernel
theorem dX2_isWithoutLineEnds_26 : decode cX2_isWithoutLineEnds 26 = .ok (.iload 4, 2) := by decide +kernel
theorem dX2_isWithoutLineEnds_28 : decode cX2_isWithoutLineEnds 28 = .ok (.bipush 10, 2) := by decide +kernel
theorem dX2_isWithoutLineEnds_30 : decode cX2_isWithoutLineEnds 30 = .ok (.if_icmp .ne 6, 3) := by decide +kernel
theorem dX2_isWithoutLineEnds_33 : decode cX2_isWithoutLineEnds 33 = .ok (.goto 26, 3) := by decide +kernel
theorem dX2_isWithoutLineEnds_36 : decode cX2_isWithoutLineEnds 36 = .ok (.iload_n 2, 1) := by decide +kernel
theorem dX2_isWithoutLineEnds_37 : decode cX2_isWithoutLineEnds 37 = .ok (.aload_n 0, 1) := by decide +kernel
theorem dX2_isWithoutLineEnds_38 : decode cX2_isWithoutLineEnds 38 = .ok (.getfield 15, 3) := by decide +kernel
theorem dX2_isWithoutLineEnds_41 : decode cX2_isWithoutLineEnds 41 = .ok (.if_icmp .ge 13, 3) := by decide +kernel
theorem dX2_isWithoutLineEnds_44 : decode cX2_isWithoutLineEnds 44 = .ok (.aload_n 0, 1) := by decide +kernel
theorem dX2_isWithoutLineEnds_45 : decode cX2_isWithoutLineEnds 45 = .ok (.iload_n 2, 1) := by decide +kernel
theorem dX2_isWithoutLineEnds_46 : decode cX2_isWithoutLineEnds 46 = .ok (.invokevirtual 23, 3) := by decide +kernel
theorem dX2_isWithoutLineEnds_49 : decode cX2_isWithoutLineEnds 49 = .ok (.iload 4, 2) := by decide +kernel
theorem dX2_isWithoutLineEnds_51 : decode cX2_isWithoutLineEnds 51 = .ok (.if_icmp .eq 5, 3) := by decide +kernel
theorem dX2_isWithoutLineEnds_56 : decode cX2_isWithoutLineEnds 56 = .ok (.iinc 2 1, 3) := by decide +kernel
theorem dX2_isWithoutLineEnds_59 : decode cX2_isWithoutLineEnds 59 = .ok (.iinc 3 1, 3) := by decide +kernel
theorem dX2_isWithoutLineEnds_62 : decode cX2_isWithoutLineEnds 62 = .ok (.goto (-58), 3) := by decide +kernel
theorem dX2_isWithoutLineEnds_65 : decode cX2_isWithoutLineEnds 65 = .ok (.iload_n 2, 1) := by decide +kernel
theorem dX2_isWithoutLineEnds_66 : decode cX2_isWithoutLineEnds 66 = .ok (.aload_n 0, 1) := by decide +kernel
theorem dX2_isWithoutLineEnds_67 : decode cX2_isWithoutLineEnds 67 = .ok (.getfield 15, 3) := by decide +kernel
theorem dX2_isWithoutLineEnds_70 : decode cX2_isWithoutLineEnds 70 = .ok (.if_icmp .ne 7, 3) := by decide +kernel
theorem dX2_isWithoutLineEnds_73 : decode cX2_isWithoutLineEnds 73 = .ok (.iconst 1, 1) := by decide +kernel
theorem dX2_isWithoutLineEnds_74 : decode cX2_isWithoutLineEnds 74 = .ok (.goto 4, 3) := by decide +kernel
theorem dX2_isWithoutLineEnds_78 : decode cX2_isWithoutLineEnds 78 = .ok (.ireturn, 1) := by decide +kernel
set_option maxRecDepth 20000 in
theorem ggX2_firstFilling_X2_at : GoodIn wsX2_firstFilling wsX2_at := goodIn_ca (goodIn_r _ [6, 1, 7, 8, 9] (by decide +kernel) (by decide +kernel)) (goodIn_sub (fun _ h => List.mem_cons_of_mem _ (List.mem_append_right _ h)) (by decide +kernel))
set_option maxRecDepth 20000 in
theorem gX2_firstFilling_X2_at : GoodIn wsX2_firstFilling (wsV RX2 23 RX2 yX2_at wsX2_at) := goodIn_app (goodIn_of _ (by decide +kernel)) ggX2_firstFilling_X2_at
theorem dX2_firstFilling_0 : decode cX2_firstFilling 0 = .ok (.iconst 0, 1) := by decide +kernel
theorem dX2_firstFilling_1 : decode cX2_firstFilling 1 = .ok (.istore_n 1, 1) := by decide +kernel
theorem dX2_firstFilling_2 : decode cX2_firstFilling 2 = .ok (.iload_n 1, 1) := by decide +kernel
theorem dX2_firstFilling_3 : decode cX2_firstFilling 3 = .ok (.aload_n 0, 1) := by decide +kernel
theorem dX2_firstFilling_4 : decode cX2_firstFilling 4 = .ok (.getfield 15, 3) := by decide +kernel
theorem dX2_firstFilling_7 : decode cX2_firstFilling 7 = .ok (.if_icmp .ge 21, 3) := by decide +kernel
theorem dX2_firstFilling_10 : decode cX2_firstFilling 10 = .ok (.aload_n 0, 1) := by decide +kernel
theorem dX2_firstFilling_11 : decode cX2_firstFilling 11 = .ok (.iload_n 1, 1) := by decide +kernel
theorem dX2_firstFilling_12 : decode cX2_firstFilling 12 = .ok (.invokevirtual 23, 3) := by decide +kernel
theorem dX2_firstFilling_15 : decode cX2_firstFilling 15 = .ok (.bipush 61, 2) := by decide +kernel
theorem dX2_firstFilling_17 : decode cX2_firstFilling 17 = .ok (.if_icmp .ne 5, 3) := by decide +kernel
theorem dX2_firstFilling_20 : decode cX2_firstFilling 20 = .ok (.iload_n 1, 1) := by decide +kernel
theorem dX2_firstFilling_21 : decode cX2_firstFilling 21 = .ok (.ireturn, 1) := by decide +kernel
theorem dX2_firstFilling_22 : decode cX2_firstFilling 22 = .ok (.iinc 1 1, 3) := by decide +kernel
theorem dX2_firstFilling_25 : decode cX2_firstFilling 25 = .ok (.goto (-23), 3) := by decide +kernel
theorem dX2_firstFilling_28 : decode cX2_firstFilling 28 = .ok (.aload_n 0, 1) := by decide +kernel
theorem dX2_firstFilling_29 : decode cX2_firstFilling 29 = .ok (.getfield 15, 3) := by decide +kernel
theorem dX2_firstFilling_32 : decode cX2_firstFilling 32 = .ok (.ireturn, 1) := by decide +kernel
set_option maxRecDepth 20000 in
theorem ggX2_countFilling_X2_at : GoodIn wsX2_countFilling wsX2_at := goodIn_ca (goodIn_r _ [6, 1, 7, 8, 9] (by decide +kernel) (by decide +kernel)) (goodIn_sub (fun _ h => List.mem_cons_of_mem _ (List.mem_append_right _ h)) (by decide +kernel))
set_option maxRecDepth 20000 in
theorem gX2_countFilling_X2_at : GoodIn wsX2_countFilling (wsV RX2 23 RX2 yX2_at wsX2_at) := goodIn_app (goodIn_of _ (by decide +kernel)) ggX2_countFilling_X2_at
theorem dX2_countFilling_0 : decode cX2_countFilling 0 = .ok (.iconst 0, 1) := by decide +kernel
theorem dX2_countFilling_1 : decode cX2_countFilling 1 = .ok (.istore_n 2, 1) := by decide +kernel
theorem dX2_countFilling_2 : decode cX2_countFilling 2 = .ok (.iload_n 1, 1) := by decide +kernel
theorem dX2_countFilling_3 : decode cX2_countFilling 3 = .ok (.istore_n 3, 1) := by decide +kernel
theorem dX2_countFilling_4 : decode cX2_countFilling 4 = .ok (.iload_n 3, 1) := by decide +kernel
theorem dX2_countFilling_5 : decode cX2_countFilling 5 = .ok (.aload_n 0, 1) := by decide +kernel
theorem dX2_countFilling_6 : decode cX2_countFilling 6 = .ok (.getfield 15, 3) := by decide +kernel
theorem dX2_countFilling_9 : decode cX2_countFilling 9 = .ok (.if_icmp .ge 22, 3) := by decide +kernel
theorem dX2_countFilling_12 : decode cX2_countFilling 12 = .ok (.aload_n 0, 1) := by decide +kernel
theorem dX2_countFilling_13 : decode cX2_countFilling 13 = .ok (.iload_n 3, 1) := by decide +kernel
theorem dX2_countFilling_14 : decode cX2_countFilling 14 = .ok (.invokevirtual 23, 3) := by decide +kernel
theorem dX2_countFilling_17 : decode cX2_countFilling 17 = .ok (.bipush 61, 2) := by decide +kernel
theorem dX2_countFilling_19 : decode cX2_countFilling 19 = .ok (.if_icmp .ne 6, 3) := by decide +kernel
theorem dX2_countFilling_22 : decode cX2_countFilling 22 = .ok (.iinc 2 1, 3) := by decide +kernel
theorem dX2_countFilling_25 : decode cX2_countFilling 25 = .ok (.iinc 3 1, 3) := by decide +kernel
theorem dX2_countFilling_28 : decode cX2_countFilling 28 = .ok (.goto (-24), 3) := by decide +kernel
theorem dX2_countFilling_31 : decode cX2_countFilling 31 = .ok (.iload_n 2, 1) := by decide +kernel
theorem dX2_countFilling_32 : decode cX2_countFilling 32 = .ok (.ireturn, 1) := by decide +kernel
set_option maxRecDepth 20000 in
theorem ggX2_countLetters_X2_at : GoodIn wsX2_countLetters wsX2_at := goodIn_ca (goodIn_r _ [5, 6, 7, 19, 20] (by decide +kernel) (by decide +kernel)) (goodIn_sub (fun _ h => List.mem_cons_of_mem _ (List.mem_append_right _ h)) (by decide +kernel))
set_option maxRecDepth 20000 in
theorem gX2_countLetters_X2_at : GoodIn wsX2_countLetters (wsV RX2 23 RX2 yX2_at wsX2_at) := goodIn_app (goodIn_of _ (by decide +kernel)) ggX2_countLetters_X2_at
set_option maxRecDepth 20000 in
theorem ggX2_countLetters_X0_isLetter : GoodIn wsX2_countLetters wsX0_isLetter := goodIn_r _ [12, 13, 14, 15, 11, 16, 17, 18] (by decide +kernel) (by decide +kernel)
set_option maxRecDepth 20000 in
theorem gX2_countLetters_X0_isLetter : GoodIn wsX2_countLetters (wsV RX2 69 RX0 yX0_isLetter wsX0_isLetter) := goodIn_app (goodIn_of _ (by decide +kernel)) ggX2_countLetters_X0_isLetter
theorem dX2_countLetters_0 : decode cX2_countLetters 0 = .ok (.iconst 0, 1) := by decide +kernel
theorem dX2_countLetters_1 : decode cX2_countLetters 1 = .ok (.istore_n 3, 1) := by decide +kernel
theorem dX2_countLetters_2 : decode cX2_countLetters 2 = .ok (.iconst 0, 1) := by decide +kernel
theorem dX2_countLetters_3 : decode cX2_countLetters 3 = .ok (.istore 4, 2) := by decide +kernel
theorem dX2_countLetters_5 : decode cX2_countLetters 5 = .ok (.iload 4, 2) := by decide +kernel
theorem dX2_countLetters_7 : decode cX2_countLetters 7 = .ok (.iload_n 2, 1) := by decide +kernel
theorem dX2_countLetters_8 : decode cX2_countLetters 8 = .ok (.if_icmp .ge 25, 3) := by decide +kernel
theorem dX2_countLetters_11 : decode cX2_countLetters 11 = .ok (.aload_n 1, 1) := by decide +kernel
theorem dX2_countLetters_12 : decode cX2_countLetters 12 = .ok (.aload_n 0, 1) := by decide +kernel
theorem dX2_countLetters_13 : decode cX2_countLetters 13 = .ok (.iload 4, 2) := by decide +kernel
theorem dX2_countLetters_15 : decode cX2_countLetters 15 = .ok (.invokevirtual 23, 3) := by decide +kernel
theorem dX2_countLetters_18 : decode cX2_countLetters 18 = .ok (.invokevirtual 69, 3) := by decide +kernel
theorem dX2_countLetters_21 : decode cX2_countLetters 21 = .ok (.ifCond .eq 6, 3) := by decide +kernel
theorem dX2_countLetters_24 : decode cX2_countLetters 24 = .ok (.iinc 3 1, 3) := by decide +kernel
theorem dX2_countLetters_27 : decode cX2_countLetters 27 = .ok (.iinc 4 1, 3) := by decide +kernel
theorem dX2_countLetters_30 : decode cX2_countLetters 30 = .ok (.goto (-25), 3) := by decide +kernel
theorem dX2_countLetters_33 : decode cX2_countLetters 33 = .ok (.iload_n 3, 1) := by decide +kernel
theorem dX2_countLetters_34 : decode cX2_countLetters 34 = .ok (.ireturn, 1) := by decide +kernel
set_option maxRecDepth 20000 in
theorem ggX2_addTo_X2_at : GoodIn wsX2_addTo wsX2_at := goodIn_ca (goodIn_r _ [7, 2, 8, 9, 10] (by decide +kernel) (by decide +kernel)) (goodIn_sub (fun _ h => List.mem_cons_of_mem _ (List.mem_append_right _ h)) (by decide +kernel))
set_option maxRecDepth 20000 in
theorem gX2_addTo_X2_at : GoodIn wsX2_addTo (wsV RX2 23 RX2 yX2_at wsX2_at) := goodIn_app (goodIn_of _ (by decide +kernel)) ggX2_addTo_X2_at
theorem dX2_addTo_0 : decode cX2_addTo 0 = .ok (.ldc2_w 73, 3) := by decide +kernel
theorem dX2_addTo_3 : decode cX2_addTo 3 = .ok (.lload_n 1, 1) := by decide +kernel
theorem dX2_addTo_4 : decode cX2_addTo 4 = .ok (.lmul, 1) := by decide +kernel
theorem dX2_addTo_5 : decode cX2_addTo 5 = .ok (.aload_n 0, 1) := by decide +kernel
theorem dX2_addTo_6 : decode cX2_addTo 6 = .ok (.getfield 15, 3) := by decide +kernel
theorem dX2_addTo_9 : decode cX2_addTo 9 = .ok (.i2l, 1) := by decide +kernel
theorem dX2_addTo_10 : decode cX2_addTo 10 = .ok (.ladd, 1) := by decide +kernel
theorem dX2_addTo_11 : decode cX2_addTo 11 = .ok (.lstore_n 3, 1) := by decide +kernel
theorem dX2_addTo_12 : decode cX2_addTo 12 = .ok (.iconst 0, 1) := by decide +kernel
theorem dX2_addTo_13 : decode cX2_addTo 13 = .ok (.istore 5, 2) := by decide +kernel
theorem dX2_addTo_15 : decode cX2_addTo 15 = .ok (.iload 5, 2) := by decide +kernel
theorem dX2_addTo_17 : decode cX2_addTo 17 = .ok (.aload_n 0, 1) := by decide +kernel
theorem dX2_addTo_18 : decode cX2_addTo 18 = .ok (.getfield 15, 3) := by decide +kernel
theorem dX2_addTo_21 : decode cX2_addTo 21 = .ok (.if_icmp .ge 23, 3) := by decide +kernel
theorem dX2_addTo_24 : decode cX2_addTo 24 = .ok (.ldc2_w 73, 3) := by decide +kernel
theorem dX2_addTo_27 : decode cX2_addTo 27 = .ok (.lload_n 3, 1) := by decide +kernel
theorem dX2_addTo_28 : decode cX2_addTo 28 = .ok (.lmul, 1) := by decide +kernel
theorem dX2_addTo_29 : decode cX2_addTo 29 = .ok (.aload_n 0, 1) := by decide +kernel
theorem dX2_addTo_30 : decode cX2_addTo 30 = .ok (.iload 5, 2) := by decide +kernel
theorem dX2_addTo_32 : decode cX2_addTo 32 = .ok (.invokevirtual 23, 3) := by decide +kernel
theorem dX2_addTo_35 : decode cX2_addTo 35 = .ok (.i2l, 1) := by decide +kernel
theorem dX2_addTo_36 : decode cX2_addTo 36 = .ok (.ladd, 1) := by decide +kernel
theorem dX2_addTo_37 : decode cX2_addTo 37 = .ok (.lstore_n 3, 1) := by decide +kernel
theorem dX2_addTo_38 : decode cX2_addTo 38 = .ok (.iinc 5 1, 3) := by decide +kernel
theorem dX2_addTo_41 : decode cX2_addTo 41 = .ok (.goto (-26), 3) := by decide +kernel
theorem dX2_addTo_44 : decode cX2_addTo 44 = .ok (.lload_n 3, 1) := by decide +kernel
theorem dX2_addTo_45 : decode cX2_addTo 45 = .ok (.lreturn, 1) := by decide +kernel
set_option maxRecDepth 20000 in
theorem ggX3_tell_X2_firstFilling : GoodIn wsX3_tell wsX2_firstFilling := goodIn_ca (goodIn_r _ [5, 6, 7, 8, 9, 4, 10, 11, 50, 51] (by decide +kernel) (by decide +kernel)) (goodIn_sub (fun _ h => List.mem_cons_of_mem _ (List.mem_append_right _ h)) (by decide +kernel))
set_option maxRecDepth 20000 in
theorem gX3_tell_X2_firstFilling : GoodIn wsX3_tell (wsV RX3 9 RX2 yX2_firstFilling wsX2_firstFilling) := goodIn_app (goodIn_of _ (by decide +kernel)) ggX3_tell_X2_firstFilling
set_option maxRecDepth 20000 in
theorem ggX3_tell_X2_countLetters : GoodIn wsX3_tell wsX2_countLetters := goodIn_ca (goodIn_r _ [15, 7, 8, 9, 4, 10, 6, 11, 16, 17, 18, 19, 20, 21, 22, 23, 24, 25, 26, 50, 51] (by decide +kernel) (by decide +kernel)) (goodIn_sub (fun _ h => List.mem_cons_of_mem _ (List.mem_append_right _ h)) (by decide +kernel))
set_option maxRecDepth 20000 in
theorem gX3_tell_X2_countLetters : GoodIn wsX3_tell (wsV RX3 15 RX2 yX2_countLetters wsX2_countLetters) := goodIn_app (goodIn_of _ (by decide +kernel)) ggX3_tell_X2_countLetters
set_option maxRecDepth 20000 in
theorem ggX3_tell_X2_countFilling : GoodIn wsX3_tell wsX2_countFilling := goodIn_ca (goodIn_r _ [30, 6, 7, 8, 9, 4, 10, 11, 50, 51] (by decide +kernel) (by decide +kernel)) (goodIn_sub (fun _ h => List.mem_cons_of_mem _ (List.mem_append_right _ h)) (by decide +kernel))
set_option maxRecDepth 20000 in
theorem gX3_tell_X2_countFilling : GoodIn wsX3_tell (wsV RX3 19 RX2 yX2_countFilling wsX2_countFilling) := goodIn_app (goodIn_of _ (by decide +kernel)) ggX3_tell_X2_countFilling
set_option maxRecDepth 20000 in
theorem ggX3_tell_X3_isWrong : GoodIn wsX3_tell wsX3_isWrong := goodIn_r _ [34, 35, 36, 33, 37] (by decide +kernel) (by decide +kernel)
set_option maxRecDepth 20000 in
theorem gX3_tell_X3_isWrong : GoodIn wsX3_tell (va_wsS RX3 29 yX3_isWrong wsX3_isWrong) := goodIn_app (goodIn_of _ (by decide +kernel)) ggX3_tell_X3_isWrong
set_option maxRecDepth 20000 in
theorem ggX3_tell_X3_isUntoldBehind : GoodIn wsX3_tell wsX3_isUntoldBehind := goodIn_ca (goodIn_r _ [40, 41, 8, 9, 4, 10, 6, 11, 42, 17, 18, 19, 20, 21, 22, 23, 24, 25, 26, 50, 51] (by decide +kernel) (by decide +kernel)) (goodIn_sub (fun _ h => List.mem_cons_of_mem _ (List.mem_append_right _ h)) (by decide +kernel))
set_option maxRecDepth 20000 in
theorem gX3_tell_X3_isUntoldBehind : GoodIn wsX3_tell (va_wsS RX3 35 yX3_isUntoldBehind wsX3_isUntoldBehind) := goodIn_app (goodIn_of _ (by decide +kernel)) ggX3_tell_X3_isUntoldBehind
set_option maxRecDepth 20000 in
theorem ggX3_tell_X3_dueFilling : GoodIn wsX3_tell wsX3_dueFilling := goodIn_r _ [37] (by decide +kernel) (by decide +kernel)
set_option maxRecDepth 20000 in
theorem gX3_tell_X3_dueFilling : GoodIn wsX3_tell (va_wsS RX3 39 yX3_dueFilling wsX3_dueFilling) := goodIn_app (goodIn_of _ (by decide +kernel)) ggX3_tell_X3_dueFilling
set_option maxRecDepth 20000 in
theorem ggX3_tell_X3_hasBitsLeft : GoodIn wsX3_tell wsX3_hasBitsLeft := goodIn_ca (goodIn_r _ [45, 35, 36, 33, 37, 46, 47, 48, 41, 8, 9, 4, 10, 6, 11, 49, 22, 23, 19, 24, 25, 26, 50, 51] (by decide +kernel) (by decide +kernel)) (goodIn_sub (fun _ h => List.mem_cons_of_mem _ (List.mem_append_right _ h)) (by decide +kernel))
set_option maxRecDepth 20000 in
theorem gX3_tell_X3_hasBitsLeft : GoodIn wsX3_tell (va_wsS RX3 42 yX3_hasBitsLeft wsX3_hasBitsLeft) := goodIn_app (goodIn_of _ (by decide +kernel)) ggX3_tell_X3_hasBitsLeft
theorem dX3_tell_0 : decode cX3_tell 0 = .ok (.aload_n 0, 1) := by decide +kernel
theorem dX3_tell_1 : decode cX3_tell 1 = .ok (.invokevirtual 9, 3) := by decide +kernel
theorem dX3_tell_4 : decode cX3_tell 4 = .ok (.istore_n 2, 1) := by decide +kernel
theorem dX3_tell_5 : decode cX3_tell 5 = .ok (.aload_n 0, 1) := by decide +kernel
theorem dX3_tell_6 : decode cX3_tell 6 = .ok (.aload_n 1, 1) := by decide +kernel
theorem dX3_tell_7 : decode cX3_tell 7 = .ok (.iload_n 2, 1) := by decide +kernel
theorem dX3_tell_8 : decode cX3_tell 8 = .ok (.invokevirtual 15, 3) := by decide +kernel
theorem dX3_tell_11 : decode cX3_tell 11 = .ok (.istore_n 3, 1) := by decide +kernel
theorem dX3_tell_12 : decode cX3_tell 12 = .ok (.aload_n 0, 1) := by decide +kernel
theorem dX3_tell_13 : decode cX3_tell 13 = .ok (.iload_n 2, 1) := by decide +kernel
theorem dX3_tell_14 : decode cX3_tell 14 = .ok (.invokevirtual 19, 3) := by decide +kernel
theorem dX3_tell_17 : decode cX3_tell 17 = .ok (.istore 4, 2) := by decide +kernel
theorem dX3_tell_19 : decode cX3_tell 19 = .ok (.aload_n 1, 1) := by decide +kernel
theorem dX3_tell_20 : decode cX3_tell 20 = .ok (.getfield 23, 3) := by decide +kernel
theorem dX3_tell_23 : decode cX3_tell 23 = .ok (.ifCond .ne 10, 3) := by decide +kernel
theorem dX3_tell_26 : decode cX3_tell 26 = .ok (.iload_n 3, 1) := by decide +kernel
theorem dX3_tell_27 : decode cX3_tell 27 = .ok (.iload_n 2, 1) := by decide +kernel
theorem dX3_tell_28 : decode cX3_tell 28 = .ok (.if_icmp .eq 5, 3) := by decide +kernel
theorem dX3_tell_31 : decode cX3_tell 31 = .ok (.iconst (-1), 1) := by decide +kernel
theorem dX3_tell_32 : decode cX3_tell 32 = .ok (.ireturn, 1) := by decide +kernel
theorem dX3_tell_33 : decode cX3_tell 33 = .ok (.iload_n 3, 1) := by decide +kernel
theorem dX3_tell_34 : decode cX3_tell 34 = .ok (.iload 4, 2) := by decide +kernel
theorem dX3_tell_36 : decode cX3_tell 36 = .ok (.aload_n 1, 1) := by decide +kernel
theorem dX3_tell_37 : decode cX3_tell 37 = .ok (.invokestatic 29, 3) := by decide +kernel
theorem dX3_tell_40 : decode cX3_tell 40 = .ok (.ifCond .eq 5, 3) := by decide +kernel
theorem dX3_tell_43 : decode cX3_tell 43 = .ok (.iconst (-1), 1) := by decide +kernel
theorem dX3_tell_44 : decode cX3_tell 44 = .ok (.ireturn, 1) := by decide +kernel
theorem dX3_tell_45 : decode cX3_tell 45 = .ok (.aload_n 0, 1) := by decide +kernel
theorem dX3_tell_46 : decode cX3_tell 46 = .ok (.aload_n 1, 1) := by decide +kernel
theorem dX3_tell_47 : decode cX3_tell 47 = .ok (.iload_n 2, 1) := by decide +kernel
theorem dX3_tell_48 : decode cX3_tell 48 = .ok (.invokestatic 35, 3) := by decide +kernel
theorem dX3_tell_51 : decode cX3_tell 51 = .ok (.ifCond .ne 29, 3) := by decide +kernel
theorem dX3_tell_54 : decode cX3_tell 54 = .ok (.aload_n 1, 1) := by decide +kernel
theorem dX3_tell_55 : decode cX3_tell 55 = .ok (.getfield 23, 3) := by decide +kernel
theorem dX3_tell_58 : decode cX3_tell 58 = .ok (.ifCond .eq 12, 3) := by decide +kernel
theorem dX3_tell_61 : decode cX3_tell 61 = .ok (.iload 4, 2) := by decide +kernel
theorem dX3_tell_63 : decode cX3_tell 63 = .ok (.iload_n 3, 1) := by decide +kernel
theorem dX3_tell_64 : decode cX3_tell 64 = .ok (.invokestatic 39, 3) := by decide +kernel
theorem dX3_tell_67 : decode cX3_tell 67 = .ok (.if_icmp .gt 13, 3) := by decide +kernel
theorem dX3_tell_70 : decode cX3_tell 70 = .ok (.aload_n 0, 1) := by decide +kernel
theorem dX3_tell_71 : decode cX3_tell 71 = .ok (.aload_n 1, 1) := by decide +kernel
theorem dX3_tell_72 : decode cX3_tell 72 = .ok (.iload_n 2, 1) := by decide +kernel
theorem dX3_tell_73 : decode cX3_tell 73 = .ok (.iload_n 3, 1) := by decide +kernel
theorem dX3_tell_74 : decode cX3_tell 74 = .ok (.invokestatic 42, 3) := by decide +kernel
theorem dX3_tell_77 : decode cX3_tell 77 = .ok (.ifCond .eq 6, 3) := by decide +kernel
theorem dX3_tell_80 : decode cX3_tell 80 = .ok (.bipush (-2), 2) := by decide +kernel
theorem dX3_tell_82 : decode cX3_tell 82 = .ok (.ireturn, 1) := by decide +kernel
theorem dX3_tell_83 : decode cX3_tell 83 = .ok (.iload_n 3, 1) := by decide +kernel
theorem dX3_tell_84 : decode cX3_tell 84 = .ok (.bipush 6, 2) := by decide +kernel
theorem dX3_tell_86 : decode cX3_tell 86 = .ok (.imul, 1) := by decide +kernel
theorem dX3_tell_87 : decode cX3_tell 87 = .ok (.bipush 8, 2) := by decide +kernel
theorem dX3_tell_89 : decode cX3_tell 89 = .ok (.idiv, 1) := by decide +kernel
theorem dX3_tell_90 : decode cX3_tell 90 = .ok (.ireturn, 1) := by decide +kernel
theorem dX3_dueFilling_0 : decode cX3_dueFilling 0 = .ok (.iload_n 0, 1) := by decide +kernel
theorem dX3_dueFilling_1 : decode cX3_dueFilling 1 = .ok (.iconst 4, 1) := by decide +kernel
theorem dX3_dueFilling_2 : decode cX3_dueFilling 2 = .ok (.irem, 1) := by decide +kernel
theorem dX3_dueFilling_3 : decode cX3_dueFilling 3 = .ok (.istore_n 1, 1) := by decide +kernel
theorem dX3_dueFilling_4 : decode cX3_dueFilling 4 = .ok (.iload_n 1, 1) := by decide +kernel
theorem dX3_dueFilling_5 : decode cX3_dueFilling 5 = .ok (.iconst 2, 1) := by decide +kernel
theorem dX3_dueFilling_6 : decode cX3_dueFilling 6 = .ok (.if_icmp .ne 7, 3) := by decide +kernel
theorem dX3_dueFilling_9 : decode cX3_dueFilling 9 = .ok (.iconst 2, 1) := by decide +kernel
theorem dX3_dueFilling_10 : decode cX3_dueFilling 10 = .ok (.goto 13, 3) := by decide +kernel
theorem dX3_dueFilling_13 : decode cX3_dueFilling 13 = .ok (.iload_n 1, 1) := by decide +kernel
theorem dX3_dueFilling_14 : decode cX3_dueFilling 14 = .ok (.iconst 3, 1) := by decide +kernel
theorem dX3_dueFilling_15 : decode cX3_dueFilling 15 = .ok (.if_icmp .ne 7, 3) := by decide +kernel
theorem dX3_dueFilling_18 : decode cX3_dueFilling 18 = .ok (.iconst 1, 1) := by decide +kernel
theorem dX3_dueFilling_19 : decode cX3_dueFilling 19 = .ok (.goto 4, 3) := by decide +kernel
theorem dX3_dueFilling_22 : decode cX3_dueFilling 22 = .ok (.iconst 0, 1) := by decide +kernel
theorem dX3_dueFilling_23 : decode cX3_dueFilling 23 = .ok (.ireturn, 1) := by decide +kernel
set_option maxRecDepth 20000 in
theorem ggX3_isWrong_X3_dueFilling : GoodIn wsX3_isWrong wsX3_dueFilling := goodIn_r _ [4] (by decide +kernel) (by decide +kernel)
set_option maxRecDepth 20000 in
theorem gX3_isWrong_X3_dueFilling : GoodIn wsX3_isWrong (va_wsS RX3 39 yX3_dueFilling wsX3_dueFilling) := goodIn_app (goodIn_of _ (by decide +kernel)) ggX3_isWrong_X3_dueFilling
theorem dX3_isWrong_0 : decode cX3_isWrong 0 = .ok (.iload_n 0, 1) := by decide +kernel
theorem dX3_isWrong_1 : decode cX3_isWrong 1 = .ok (.invokestatic 39, 3) := by decide +kernel
theorem dX3_isWrong_4 : decode cX3_isWrong 4 = .ok (.istore_n 3, 1) := by decide +kernel
theorem dX3_isWrong_5 : decode cX3_isWrong 5 = .ok (.iload_n 0, 1) := by decide +kernel
theorem dX3_isWrong_6 : decode cX3_isWrong 6 = .ok (.iconst 4, 1) := by decide +kernel
theorem dX3_isWrong_7 : decode cX3_isWrong 7 = .ok (.irem, 1) := by decide +kernel
theorem dX3_isWrong_8 : decode cX3_isWrong 8 = .ok (.iconst 1, 1) := by decide +kernel
theorem dX3_isWrong_9 : decode cX3_isWrong 9 = .ok (.if_icmp .eq 35, 3) := by decide +kernel
theorem dX3_isWrong_12 : decode cX3_isWrong 12 = .ok (.iload_n 1, 1) := by decide +kernel
theorem dX3_isWrong_13 : decode cX3_isWrong 13 = .ok (.ifCond .eq 9, 3) := by decide +kernel
theorem dX3_isWrong_16 : decode cX3_isWrong 16 = .ok (.iload_n 0, 1) := by decide +kernel
theorem dX3_isWrong_17 : decode cX3_isWrong 17 = .ok (.iconst 4, 1) := by decide +kernel
theorem dX3_isWrong_18 : decode cX3_isWrong 18 = .ok (.irem, 1) := by decide +kernel
theorem dX3_isWrong_19 : decode cX3_isWrong 19 = .ok (.ifCond .eq 25, 3) := by decide +kernel
theorem dX3_isWrong_22 : decode cX3_isWrong 22 = .ok (.iload_n 1, 1) := by decide +kernel
theorem dX3_isWrong_23 : decode cX3_isWrong 23 = .ok (.iconst 1, 1) := by decide +kernel
theorem dX3_isWrong_24 : decode cX3_isWrong 24 = .ok (.if_icmp .ne 8, 3) := by decide +kernel
theorem dX3_isWrong_27 : decode cX3_isWrong 27 = .ok (.iload_n 3, 1) := by decide +kernel
theorem dX3_isWrong_28 : decode cX3_isWrong 28 = .ok (.iconst 2, 1) := by decide +kernel
theorem dX3_isWrong_29 : decode cX3_isWrong 29 = .ok (.if_icmp .eq 15, 3) := by decide +kernel
theorem dX3_isWrong_32 : decode cX3_isWrong 32 = .ok (.aload_n 2, 1) := by decide +kernel
theorem dX3_isWrong_33 : decode cX3_isWrong 33 = .ok (.getfield 23, 3) := by decide +kernel
theorem dX3_isWrong_36 : decode cX3_isWrong 36 = .ok (.ifCond .ne 12, 3) := by decide +kernel
theorem dX3_isWrong_39 : decode cX3_isWrong 39 = .ok (.iload_n 1, 1) := by decide +kernel
theorem dX3_isWrong_40 : decode cX3_isWrong 40 = .ok (.iload_n 3, 1) := by decide +kernel
theorem dX3_isWrong_41 : decode cX3_isWrong 41 = .ok (.if_icmp .le 7, 3) := by decide +kernel
theorem dX3_isWrong_44 : decode cX3_isWrong 44 = .ok (.iconst 1, 1) := by decide +kernel
theorem dX3_isWrong_45 : decode cX3_isWrong 45 = .ok (.goto 4, 3) := by decide +kernel
theorem dX3_isWrong_48 : decode cX3_isWrong 48 = .ok (.iconst 0, 1) := by decide +kernel
theorem dX3_isWrong_49 : decode cX3_isWrong 49 = .ok (.ireturn, 1) := by decide +kernel
set_option maxRecDepth 20000 in
theorem ggX3_isUntoldBehind_X2_at : GoodIn wsX3_isUntoldBehind wsX2_at := goodIn_ca (goodIn_r _ [5, 6, 7, 19, 20] (by decide +kernel) (by decide +kernel)) (goodIn_sub (fun _ h => List.mem_cons_of_mem _ (List.mem_append_right _ h)) (by decide +kernel))
set_option maxRecDepth 20000 in
theorem gX3_isUntoldBehind_X2_at : GoodIn wsX3_isUntoldBehind (wsV RX3 50 RX2 yX2_at wsX2_at) := goodIn_app (goodIn_of _ (by decide +kernel)) ggX3_isUntoldBehind_X2_at
set_option maxRecDepth 20000 in
theorem ggX3_isUntoldBehind_X0_isLetter : GoodIn wsX3_isUntoldBehind wsX0_isLetter := goodIn_r _ [12, 13, 14, 15, 11, 16, 17, 18] (by decide +kernel) (by decide +kernel)
set_option maxRecDepth 20000 in
theorem gX3_isUntoldBehind_X0_isLetter : GoodIn wsX3_isUntoldBehind (wsV RX3 53 RX0 yX0_isLetter wsX0_isLetter) := goodIn_app (goodIn_of _ (by decide +kernel)) ggX3_isUntoldBehind_X0_isLetter
theorem dX3_isUntoldBehind_0 : decode cX3_isUntoldBehind 0 = .ok (.iconst 0, 1) := by decide +kernel
theorem dX3_isUntoldBehind_1 : decode cX3_isUntoldBehind 1 = .ok (.istore_n 3, 1) := by decide +kernel
theorem dX3_isUntoldBehind_2 : decode cX3_isUntoldBehind 2 = .ok (.iload_n 2, 1) := by decide +kernel
theorem dX3_isUntoldBehind_3 : decode cX3_isUntoldBehind 3 = .ok (.iconst 1, 1) := by decide +kernel
theorem dX3_isUntoldBehind_4 : decode cX3_isUntoldBehind 4 = .ok (.iadd, 1) := by decide +kernel
theorem dX3_isUntoldBehind_5 : decode cX3_isUntoldBehind 5 = .ok (.istore 4, 2) := by decide +kernel
theorem dX3_isUntoldBehind_7 : decode cX3_isUntoldBehind 7 = .ok (.iload 4, 2) := by decide +kernel
theorem dX3_isUntoldBehind_9 : decode cX3_isUntoldBehind 9 = .ok (.aload_n 0, 1) := by decide +kernel
theorem dX3_isUntoldBehind_10 : decode cX3_isUntoldBehind 10 = .ok (.getfield 46, 3) := by decide +kernel
theorem dX3_isUntoldBehind_13 : decode cX3_isUntoldBehind 13 = .ok (.if_icmp .ge 50, 3) := by decide +kernel
theorem dX3_isUntoldBehind_16 : decode cX3_isUntoldBehind 16 = .ok (.aload_n 0, 1) := by decide +kernel
theorem dX3_isUntoldBehind_17 : decode cX3_isUntoldBehind 17 = .ok (.iload 4, 2) := by decide +kernel
theorem dX3_isUntoldBehind_19 : decode cX3_isUntoldBehind 19 = .ok (.invokevirtual 50, 3) := by decide +kernel
theorem dX3_isUntoldBehind_22 : decode cX3_isUntoldBehind 22 = .ok (.bipush 61, 2) := by decide +kernel
theorem dX3_isUntoldBehind_24 : decode cX3_isUntoldBehind 24 = .ok (.if_icmp .ne 9, 3) := by decide +kernel
theorem dX3_isUntoldBehind_27 : decode cX3_isUntoldBehind 27 = .ok (.iload_n 3, 1) := by decide +kernel
theorem dX3_isUntoldBehind_28 : decode cX3_isUntoldBehind 28 = .ok (.ifCond .eq 29, 3) := by decide +kernel
theorem dX3_isUntoldBehind_31 : decode cX3_isUntoldBehind 31 = .ok (.iconst 1, 1) := by decide +kernel
theorem dX3_isUntoldBehind_32 : decode cX3_isUntoldBehind 32 = .ok (.ireturn, 1) := by decide +kernel
theorem dX3_isUntoldBehind_33 : decode cX3_isUntoldBehind 33 = .ok (.aload_n 1, 1) := by decide +kernel
theorem dX3_isUntoldBehind_34 : decode cX3_isUntoldBehind 34 = .ok (.getfield 23, 3) := by decide +kernel
theorem dX3_isUntoldBehind_37 : decode cX3_isUntoldBehind 37 = .ok (.ifCond .eq 16, 3) := by decide +kernel
theorem dX3_isUntoldBehind_40 : decode cX3_isUntoldBehind 40 = .ok (.aload_n 1, 1) := by decide +kernel
theorem dX3_isUntoldBehind_41 : decode cX3_isUntoldBehind 41 = .ok (.aload_n 0, 1) := by decide +kernel
theorem dX3_isUntoldBehind_42 : decode cX3_isUntoldBehind 42 = .ok (.iload 4, 2) := by decide +kernel
theorem dX3_isUntoldBehind_44 : decode cX3_isUntoldBehind 44 = .ok (.invokevirtual 50, 3) := by decide +kernel
theorem dX3_isUntoldBehind_47 : decode cX3_isUntoldBehind 47 = .ok (.invokevirtual 53, 3) := by decide +kernel
theorem dX3_isUntoldBehind_50 : decode cX3_isUntoldBehind 50 = .ok (.ifCond .eq 5, 3) := by decide +kernel
theorem dX3_isUntoldBehind_53 : decode cX3_isUntoldBehind 53 = .ok (.iconst 1, 1) := by decide +kernel
theorem dX3_isUntoldBehind_54 : decode cX3_isUntoldBehind 54 = .ok (.ireturn, 1) := by decide +kernel
theorem dX3_isUntoldBehind_55 : decode cX3_isUntoldBehind 55 = .ok (.iconst 1, 1) := by decide +kernel
theorem dX3_isUntoldBehind_56 : decode cX3_isUntoldBehind 56 = .ok (.istore_n 3, 1) := by decide +kernel
theorem dX3_isUntoldBehind_57 : decode cX3_isUntoldBehind 57 = .ok (.iinc 4 1, 3) := by decide +kernel
theorem dX3_isUntoldBehind_60 : decode cX3_isUntoldBehind 60 = .ok (.goto (-53), 3) := by decide +kernel
theorem dX3_isUntoldBehind_63 : decode cX3_isUntoldBehind 63 = .ok (.iconst 0, 1) := by decide +kernel
theorem dX3_isUntoldBehind_64 : decode cX3_isUntoldBehind 64 = .ok (.ireturn, 1) := by decide +kernel
set_option maxRecDepth 20000 in
theorem ggX3_hasBitsLeft_X3_dueFilling : GoodIn wsX3_hasBitsLeft wsX3_dueFilling := goodIn_r _ [4] (by decide +kernel) (by decide +kernel)
set_option maxRecDepth 20000 in
theorem gX3_hasBitsLeft_X3_dueFilling : GoodIn wsX3_hasBitsLeft (va_wsS RX3 39 yX3_dueFilling wsX3_dueFilling) := goodIn_app (goodIn_of _ (by decide +kernel)) ggX3_hasBitsLeft_X3_dueFilling
set_option maxRecDepth 20000 in
theorem ggX3_hasBitsLeft_X3_lastWorth : GoodIn wsX3_hasBitsLeft wsX3_lastWorth := goodIn_ca (goodIn_r _ [7, 8, 9, 10, 11, 12, 13, 14, 15, 16, 17, 18, 19, 20, 21, 22, 23] (by decide +kernel) (by decide +kernel)) (goodIn_sub (fun _ h => List.mem_cons_of_mem _ (List.mem_append_right _ h)) (by decide +kernel))
set_option maxRecDepth 20000 in
theorem gX3_hasBitsLeft_X3_lastWorth : GoodIn wsX3_hasBitsLeft (va_wsS RX3 57 yX3_lastWorth wsX3_lastWorth) := goodIn_app (goodIn_of _ (by decide +kernel)) ggX3_hasBitsLeft_X3_lastWorth
theorem dX3_hasBitsLeft_0 : decode cX3_hasBitsLeft 0 = .ok (.iload_n 3, 1) := by decide +kernel
theorem dX3_hasBitsLeft_1 : decode cX3_hasBitsLeft 1 = .ok (.invokestatic 39, 3) := by decide +kernel
theorem dX3_hasBitsLeft_4 : decode cX3_hasBitsLeft 4 = .ok (.istore 4, 2) := by decide +kernel
theorem dX3_hasBitsLeft_6 : decode cX3_hasBitsLeft 6 = .ok (.iload 4, 2) := by decide +kernel
theorem dX3_hasBitsLeft_8 : decode cX3_hasBitsLeft 8 = .ok (.iconst 2, 1) := by decide +kernel
theorem dX3_hasBitsLeft_9 : decode cX3_hasBitsLeft 9 = .ok (.if_icmp .ne 8, 3) := by decide +kernel
theorem dX3_hasBitsLeft_12 : decode cX3_hasBitsLeft 12 = .ok (.bipush 15, 2) := by decide +kernel
theorem dX3_hasBitsLeft_14 : decode cX3_hasBitsLeft 14 = .ok (.goto 14, 3) := by decide +kernel
theorem dX3_hasBitsLeft_17 : decode cX3_hasBitsLeft 17 = .ok (.iload 4, 2) := by decide +kernel
theorem dX3_hasBitsLeft_19 : decode cX3_hasBitsLeft 19 = .ok (.iconst 1, 1) := by decide +kernel
theorem dX3_hasBitsLeft_20 : decode cX3_hasBitsLeft 20 = .ok (.if_icmp .ne 7, 3) := by decide +kernel
theorem dX3_hasBitsLeft_23 : decode cX3_hasBitsLeft 23 = .ok (.iconst 3, 1) := by decide +kernel
theorem dX3_hasBitsLeft_24 : decode cX3_hasBitsLeft 24 = .ok (.goto 4, 3) := by decide +kernel
theorem dX3_hasBitsLeft_27 : decode cX3_hasBitsLeft 27 = .ok (.iconst 0, 1) := by decide +kernel
theorem dX3_hasBitsLeft_28 : decode cX3_hasBitsLeft 28 = .ok (.istore 5, 2) := by decide +kernel
theorem dX3_hasBitsLeft_30 : decode cX3_hasBitsLeft 30 = .ok (.aload_n 0, 1) := by decide +kernel
theorem dX3_hasBitsLeft_31 : decode cX3_hasBitsLeft 31 = .ok (.aload_n 1, 1) := by decide +kernel
theorem dX3_hasBitsLeft_32 : decode cX3_hasBitsLeft 32 = .ok (.iload_n 2, 1) := by decide +kernel
theorem dX3_hasBitsLeft_33 : decode cX3_hasBitsLeft 33 = .ok (.invokestatic 57, 3) := by decide +kernel
theorem dX3_hasBitsLeft_36 : decode cX3_hasBitsLeft 36 = .ok (.iload 5, 2) := by decide +kernel
theorem dX3_hasBitsLeft_38 : decode cX3_hasBitsLeft 38 = .ok (.iand, 1) := by decide +kernel
theorem dX3_hasBitsLeft_39 : decode cX3_hasBitsLeft 39 = .ok (.ifCond .eq 7, 3) := by decide +kernel
theorem dX3_hasBitsLeft_42 : decode cX3_hasBitsLeft 42 = .ok (.iconst 1, 1) := by decide +kernel
theorem dX3_hasBitsLeft_43 : decode cX3_hasBitsLeft 43 = .ok (.goto 4, 3) := by decide +kernel
theorem dX3_hasBitsLeft_46 : decode cX3_hasBitsLeft 46 = .ok (.iconst 0, 1) := by decide +kernel
theorem dX3_hasBitsLeft_47 : decode cX3_hasBitsLeft 47 = .ok (.ireturn, 1) := by decide +kernel
set_option maxRecDepth 20000 in
theorem ggX3_lastWorth_X2_at : GoodIn wsX3_lastWorth wsX2_at := goodIn_ca (goodIn_r _ [5, 6, 7, 15, 16] (by decide +kernel) (by decide +kernel)) (goodIn_sub (fun _ h => List.mem_cons_of_mem _ (List.mem_append_right _ h)) (by decide +kernel))
set_option maxRecDepth 20000 in
theorem gX3_lastWorth_X2_at : GoodIn wsX3_lastWorth (wsV RX3 50 RX2 yX2_at wsX2_at) := goodIn_app (goodIn_of _ (by decide +kernel)) ggX3_lastWorth_X2_at
set_option maxRecDepth 20000 in
theorem ggX3_lastWorth_X0_worthOf : GoodIn wsX3_lastWorth wsX0_worthOf := goodIn_r _ [12, 13, 14] (by decide +kernel) (by decide +kernel)
set_option maxRecDepth 20000 in
theorem gX3_lastWorth_X0_worthOf : GoodIn wsX3_lastWorth (wsV RX3 61 RX0 yX0_worthOf wsX0_worthOf) := goodIn_app (goodIn_of _ (by decide +kernel)) ggX3_lastWorth_X0_worthOf
theorem dX3_lastWorth_0 : decode cX3_lastWorth 0 = .ok (.iload_n 2, 1) := by decide +kernel
theorem dX3_lastWorth_1 : decode cX3_lastWorth 1 = .ok (.iconst 1, 1) := by decide +kernel
theorem dX3_lastWorth_2 : decode cX3_lastWorth 2 = .ok (.isub, 1) := by decide +kernel
theorem dX3_lastWorth_3 : decode cX3_lastWorth 3 = .ok (.istore_n 3, 1) := by decide +kernel
theorem dX3_lastWorth_4 : decode cX3_lastWorth 4 = .ok (.iload_n 3, 1) := by decide +kernel
theorem dX3_lastWorth_5 : decode cX3_lastWorth 5 = .ok (.ifCond .lt 28, 3) := by decide +kernel
theorem dX3_lastWorth_8 : decode cX3_lastWorth 8 = .ok (.aload_n 1, 1) := by decide +kernel
theorem dX3_lastWorth_9 : decode cX3_lastWorth 9 = .ok (.aload_n 0, 1) := by decide +kernel
theorem dX3_lastWorth_10 : decode cX3_lastWorth 10 = .ok (.iload_n 3, 1) := by decide +kernel
theorem dX3_lastWorth_11 : decode cX3_lastWorth 11 = .ok (.invokevirtual 50, 3) := by decide +kernel
theorem dX3_lastWorth_14 : decode cX3_lastWorth 14 = .ok (.invokevirtual 61, 3) := by decide +kernel
theorem dX3_lastWorth_17 : decode cX3_lastWorth 17 = .ok (.istore 4, 2) := by decide +kernel
theorem dX3_lastWorth_19 : decode cX3_lastWorth 19 = .ok (.iload 4, 2) := by decide +kernel
theorem dX3_lastWorth_21 : decode cX3_lastWorth 21 = .ok (.ifCond .lt 6, 3) := by decide +kernel
theorem dX3_lastWorth_24 : decode cX3_lastWorth 24 = .ok (.iload 4, 2) := by decide +kernel
theorem dX3_lastWorth_26 : decode cX3_lastWorth 26 = .ok (.ireturn, 1) := by decide +kernel
theorem dX3_lastWorth_27 : decode cX3_lastWorth 27 = .ok (.iinc 3 (-1), 3) := by decide +kernel
theorem dX3_lastWorth_30 : decode cX3_lastWorth 30 = .ok (.goto (-26), 3) := by decide +kernel
theorem dX3_lastWorth_33 : decode cX3_lastWorth 33 = .ok (.iconst 0, 1) := by decide +kernel
theorem dX3_lastWorth_34 : decode cX3_lastWorth 34 = .ok (.ireturn, 1) := by decide +kernel
set_option maxRecDepth 20000 in
theorem ggX4_lengthOf_X4_countSigns : GoodIn wsX4_lengthOf wsX4_countSigns := goodIn_r _ [4] (by decide +kernel) (by decide +kernel)
set_option maxRecDepth 20000 in
theorem gX4_lengthOf_X4_countSigns : GoodIn wsX4_lengthOf (va_wsS RX4 9 yX4_countSigns wsX4_countSigns) := goodIn_app (goodIn_of _ (by decide +kernel)) ggX4_lengthOf_X4_countSigns
theorem dX4_lengthOf_0 : decode cX4_lengthOf 0 = .ok (.iload_n 0, 1) := by decide +kernel
theorem dX4_lengthOf_1 : decode cX4_lengthOf 1 = .ok (.iload_n 2, 1) := by decide +kernel
theorem dX4_lengthOf_2 : decode cX4_lengthOf 2 = .ok (.invokestatic 9, 3) := by decide +kernel
theorem dX4_lengthOf_5 : decode cX4_lengthOf 5 = .ok (.istore_n 3, 1) := by decide +kernel
theorem dX4_lengthOf_6 : decode cX4_lengthOf 6 = .ok (.aload_n 1, 1) := by decide +kernel
theorem dX4_lengthOf_7 : decode cX4_lengthOf 7 = .ok (.getfield 15, 3) := by decide +kernel
theorem dX4_lengthOf_10 : decode cX4_lengthOf 10 = .ok (.ifCond .eq 7, 3) := by decide +kernel
theorem dX4_lengthOf_13 : decode cX4_lengthOf 13 = .ok (.iload_n 3, 1) := by decide +kernel
theorem dX4_lengthOf_14 : decode cX4_lengthOf 14 = .ok (.ifCond .ne 5, 3) := by decide +kernel
theorem dX4_lengthOf_17 : decode cX4_lengthOf 17 = .ok (.iload_n 3, 1) := by decide +kernel
theorem dX4_lengthOf_18 : decode cX4_lengthOf 18 = .ok (.ireturn, 1) := by decide +kernel
theorem dX4_lengthOf_19 : decode cX4_lengthOf 19 = .ok (.iload_n 3, 1) := by decide +kernel
theorem dX4_lengthOf_20 : decode cX4_lengthOf 20 = .ok (.iload_n 3, 1) := by decide +kernel
theorem dX4_lengthOf_21 : decode cX4_lengthOf 21 = .ok (.iconst 1, 1) := by decide +kernel
theorem dX4_lengthOf_22 : decode cX4_lengthOf 22 = .ok (.isub, 1) := by decide +kernel
theorem dX4_lengthOf_23 : decode cX4_lengthOf 23 = .ok (.bipush 76, 2) := by decide +kernel
theorem dX4_lengthOf_25 : decode cX4_lengthOf 25 = .ok (.idiv, 1) := by decide +kernel
theorem dX4_lengthOf_26 : decode cX4_lengthOf 26 = .ok (.iconst 2, 1) := by decide +kernel
theorem dX4_lengthOf_27 : decode cX4_lengthOf 27 = .ok (.imul, 1) := by decide +kernel
theorem dX4_lengthOf_28 : decode cX4_lengthOf 28 = .ok (.iadd, 1) := by decide +kernel
theorem dX4_lengthOf_29 : decode cX4_lengthOf 29 = .ok (.ireturn, 1) := by decide +kernel
theorem dX4_countSigns_0 : decode cX4_countSigns 0 = .ok (.iload_n 0, 1) := by decide +kernel
theorem dX4_countSigns_1 : decode cX4_countSigns 1 = .ok (.iconst 3, 1) := by decide +kernel
theorem dX4_countSigns_2 : decode cX4_countSigns 2 = .ok (.irem, 1) := by decide +kernel
theorem dX4_countSigns_3 : decode cX4_countSigns 3 = .ok (.istore_n 2, 1) := by decide +kernel
theorem dX4_countSigns_4 : decode cX4_countSigns 4 = .ok (.iload_n 0, 1) := by decide +kernel
theorem dX4_countSigns_5 : decode cX4_countSigns 5 = .ok (.iconst 3, 1) := by decide +kernel
theorem dX4_countSigns_6 : decode cX4_countSigns 6 = .ok (.idiv, 1) := by decide +kernel
theorem dX4_countSigns_7 : decode cX4_countSigns 7 = .ok (.iconst 4, 1) := by decide +kernel
theorem dX4_countSigns_8 : decode cX4_countSigns 8 = .ok (.imul, 1) := by decide +kernel
theorem dX4_countSigns_9 : decode cX4_countSigns 9 = .ok (.istore_n 3, 1) := by decide +kernel
theorem dX4_countSigns_10 : decode cX4_countSigns 10 = .ok (.iload_n 2, 1) := by decide +kernel
theorem dX4_countSigns_11 : decode cX4_countSigns 11 = .ok (.ifCond .ne 5, 3) := by decide +kernel
theorem dX4_countSigns_14 : decode cX4_countSigns 14 = .ok (.iload_n 3, 1) := by decide +kernel
theorem dX4_countSigns_15 : decode cX4_countSigns 15 = .ok (.ireturn, 1) := by decide +kernel
theorem dX4_countSigns_16 : decode cX4_countSigns 16 = .ok (.iload_n 1, 1) := by decide +kernel
theorem dX4_countSigns_17 : decode cX4_countSigns 17 = .ok (.ifCond .eq 9, 3) := by decide +kernel
theorem dX4_countSigns_20 : decode cX4_countSigns 20 = .ok (.iload_n 3, 1) := by decide +kernel
theorem dX4_countSigns_21 : decode cX4_countSigns 21 = .ok (.iconst 4, 1) := by decide +kernel
theorem dX4_countSigns_22 : decode cX4_countSigns 22 = .ok (.iadd, 1) := by decide +kernel
theorem dX4_countSigns_23 : decode cX4_countSigns 23 = .ok (.goto 8, 3) := by decide +kernel
theorem dX4_countSigns_26 : decode cX4_countSigns 26 = .ok (.iload_n 3, 1) := by decide +kernel
theorem dX4_countSigns_27 : decode cX4_countSigns 27 = .ok (.iload_n 2, 1) := by decide +kernel
theorem dX4_countSigns_28 : decode cX4_countSigns 28 = .ok (.iadd, 1) := by decide +kernel
theorem dX4_countSigns_29 : decode cX4_countSigns 29 = .ok (.iconst 1, 1) := by decide +kernel
theorem dX4_countSigns_30 : decode cX4_countSigns 30 = .ok (.iadd, 1) := by decide +kernel
theorem dX4_countSigns_31 : decode cX4_countSigns 31 = .ok (.ireturn, 1) := by decide +kernel
set_option maxRecDepth 20000 in
theorem ggX4_writeBytes_X4_lengthOf : GoodIn wsX4_writeBytes wsX4_lengthOf := goodIn_r _ [4, 5, 6, 3, 7] (by decide +kernel) (by decide +kernel)
set_option maxRecDepth 20000 in
theorem gX4_writeBytes_X4_lengthOf : GoodIn wsX4_writeBytes (va_wsS RX4 27 yX4_lengthOf wsX4_lengthOf) := goodIn_app (goodIn_of _ (by decide +kernel)) ggX4_writeBytes_X4_lengthOf
set_option maxRecDepth 20000 in
theorem ggX4_writeBytes_X2_clear : GoodIn wsX4_writeBytes wsX2_clear := goodIn_r _ [12, 13, 36, 37] (by decide +kernel) (by decide +kernel)
set_option maxRecDepth 20000 in
theorem gX4_writeBytes_X2_clear : GoodIn wsX4_writeBytes (wsV RX4 31 RX2 yX2_clear wsX2_clear) := goodIn_app (goodIn_of _ (by decide +kernel)) ggX4_writeBytes_X2_clear
set_option maxRecDepth 20000 in
theorem ggX4_writeBytes_X4_writtenAt : GoodIn wsX4_writeBytes wsX4_writtenAt := goodIn_ca (goodIn_r _ [16, 17, 18, 3, 19, 20, 21, 22, 11, 23, 13, 24, 25, 26, 27, 28, 29, 30, 31, 36, 37] (by decide +kernel) (by decide +kernel)) (goodIn_sub (fun _ h => List.mem_cons_of_mem _ (List.mem_append_right _ h)) (by decide +kernel))
set_option maxRecDepth 20000 in
theorem gX4_writeBytes_X4_writtenAt : GoodIn wsX4_writeBytes (va_wsS RX4 34 yX4_writtenAt wsX4_writtenAt) := goodIn_app (goodIn_of _ (by decide +kernel)) ggX4_writeBytes_X4_writtenAt
set_option maxRecDepth 20000 in
theorem ggX4_writeBytes_X2_append : GoodIn wsX4_writeBytes wsX2_append := goodIn_ca (goodIn_r _ [35, 13, 24, 36, 37] (by decide +kernel) (by decide +kernel)) (goodIn_sub (fun _ h => List.mem_cons_of_mem _ (List.mem_append_right _ h)) (by decide +kernel))
set_option maxRecDepth 20000 in
theorem gX4_writeBytes_X2_append : GoodIn wsX4_writeBytes (wsV RX4 38 RX2 yX2_append wsX2_append) := goodIn_app (goodIn_of _ (by decide +kernel)) ggX4_writeBytes_X2_append
theorem dX4_writeBytes_0 : decode cX4_writeBytes 0 = .ok (.aload_n 0, 1) := by decide +kernel
theorem dX4_writeBytes_1 : decode cX4_writeBytes 1 = .ok (.getfield 21, 3) := by decide +kernel
theorem dX4_writeBytes_4 : decode cX4_writeBytes 4 = .ok (.aload_n 1, 1) := by decide +kernel
theorem dX4_writeBytes_5 : decode cX4_writeBytes 5 = .ok (.iload_n 2, 1) := by decide +kernel
theorem dX4_writeBytes_6 : decode cX4_writeBytes 6 = .ok (.invokestatic 27, 3) := by decide +kernel
theorem dX4_writeBytes_9 : decode cX4_writeBytes 9 = .ok (.istore 4, 2) := by decide +kernel
theorem dX4_writeBytes_11 : decode cX4_writeBytes 11 = .ok (.aload_n 3, 1) := by decide +kernel
theorem dX4_writeBytes_12 : decode cX4_writeBytes 12 = .ok (.invokevirtual 31, 3) := by decide +kernel
theorem dX4_writeBytes_15 : decode cX4_writeBytes 15 = .ok (.iconst 0, 1) := by decide +kernel
theorem dX4_writeBytes_16 : decode cX4_writeBytes 16 = .ok (.istore 5, 2) := by decide +kernel
theorem dX4_writeBytes_18 : decode cX4_writeBytes 18 = .ok (.iload 5, 2) := by decide +kernel
theorem dX4_writeBytes_20 : decode cX4_writeBytes 20 = .ok (.iload 4, 2) := by decide +kernel
theorem dX4_writeBytes_22 : decode cX4_writeBytes 22 = .ok (.if_icmp .ge 20, 3) := by decide +kernel
theorem dX4_writeBytes_25 : decode cX4_writeBytes 25 = .ok (.aload_n 3, 1) := by decide +kernel
theorem dX4_writeBytes_26 : decode cX4_writeBytes 26 = .ok (.aload_n 0, 1) := by decide +kernel
theorem dX4_writeBytes_27 : decode cX4_writeBytes 27 = .ok (.aload_n 1, 1) := by decide +kernel
theorem dX4_writeBytes_28 : decode cX4_writeBytes 28 = .ok (.iload 5, 2) := by decide +kernel
theorem dX4_writeBytes_30 : decode cX4_writeBytes 30 = .ok (.invokestatic 34, 3) := by decide +kernel
theorem dX4_writeBytes_33 : decode cX4_writeBytes 33 = .ok (.invokevirtual 38, 3) := by decide +kernel
theorem dX4_writeBytes_36 : decode cX4_writeBytes 36 = .ok (.iinc 5 1, 3) := by decide +kernel
theorem dX4_writeBytes_39 : decode cX4_writeBytes 39 = .ok (.goto (-21), 3) := by decide +kernel
theorem dX4_writeBytes_42 : decode cX4_writeBytes 42 = .ok (.return_, 1) := by decide +kernel
set_option maxRecDepth 20000 in
theorem ggX4_writeSigns_X4_lengthOf : GoodIn wsX4_writeSigns wsX4_lengthOf := goodIn_r _ [4, 5, 6, 3, 7] (by decide +kernel) (by decide +kernel)
set_option maxRecDepth 20000 in
theorem gX4_writeSigns_X4_lengthOf : GoodIn wsX4_writeSigns (va_wsS RX4 27 yX4_lengthOf wsX4_lengthOf) := goodIn_app (goodIn_of _ (by decide +kernel)) ggX4_writeSigns_X4_lengthOf
set_option maxRecDepth 20000 in
theorem ggX4_writeSigns_J4_setLength_d00df : GoodIn wsX4_writeSigns wsJ4_setLength_d00df := goodIn_r _ [12, 13, 14, 15, 16, 17, 18, 19, 20, 21, 22, 23, 24, 25, 26, 27, 28, 29, 30, 31, 32, 33, 34, 35, 36, 37, 38, 39, 40, 41, 42, 43, 44, 45, 46, 47, 48, 49, 50, 51, 52, 53, 54, 55, 56, 57, 58, 59, 60, 61, 62, 63, 64, 65, 66, 67, 68, 69, 70, 71, 72, 73, 74, 75, 76, 77, 78, 79, 80, 81, 82, 83, 84, 11, 85, 86, 87, 88, 89, 90, 91, 92, 177, 178, 179, 180, 181, 182, 183, 184, 185, 186, 187, 188, 189, 190, 191, 192] (by decide +kernel) (by decide +kernel)
set_option maxRecDepth 20000 in
theorem gX4_writeSigns_J4_setLength_d00df : GoodIn wsX4_writeSigns (wsV RX4 42 RJ4 yJ4_setLength_d00df wsJ4_setLength_d00df) := goodIn_app (goodIn_of _ (by decide +kernel)) ggX4_writeSigns_J4_setLength_d00df
set_option maxRecDepth 20000 in
theorem ggX4_writeSigns_X4_writtenAt : GoodIn wsX4_writeSigns wsX4_writtenAt := goodIn_ca (goodIn_r _ [95, 96, 97, 3, 98, 99, 100, 101, 102, 103, 104, 105, 106, 107, 108, 109, 110, 111, 112, 175, 176] (by decide +kernel) (by decide +kernel)) (goodIn_sub (fun _ h => List.mem_cons_of_mem _ (List.mem_append_right _ h)) (by decide +kernel))
set_option maxRecDepth 20000 in
theorem gX4_writeSigns_X4_writtenAt : GoodIn wsX4_writeSigns (va_wsS RX4 34 yX4_writtenAt wsX4_writtenAt) := goodIn_app (goodIn_of _ (by decide +kernel)) ggX4_writeSigns_X4_writtenAt
set_option maxRecDepth 20000 in
theorem ggX4_writeSigns_J4_append_cf468 : GoodIn wsX4_writeSigns wsJ4_append_cf468 := goodIn_r _ [116, 117, 118, 15, 119, 17, 120, 22, 23, 25, 26, 27, 28, 29, 30, 31, 32, 33, 34, 35, 36, 37, 38, 39, 40, 41, 42, 43, 44, 45, 46, 47, 48, 49, 50, 51, 52, 53, 54, 55, 56, 57, 58, 59, 60, 61, 62, 63, 64, 65, 66, 67, 68, 69, 70, 71, 72, 121, 122, 75, 123, 124, 125, 126, 127, 128, 129, 130, 90, 131, 132, 133, 134, 135, 136, 137, 138, 139, 140, 141, 142, 143, 144, 145, 146, 147, 148, 149, 150, 151, 152, 153, 154, 155, 156, 157, 158, 159, 160, 161, 162, 163, 164, 165, 166, 167, 168, 169, 170, 171, 172, 173, 174, 183, 184, 185, 186] (by decide +kernel) (by decide +kernel)
set_option maxRecDepth 20000 in
theorem gX4_writeSigns_J4_append_cf468 : GoodIn wsX4_writeSigns (wsV RX4 47 RJ4 yJ4_append_cf468 wsJ4_append_cf468) := goodIn_app (goodIn_of _ (by decide +kernel)) ggX4_writeSigns_J4_append_cf468
theorem dX4_writeSigns_0 : decode cX4_writeSigns 0 = .ok (.aload_n 0, 1) := by decide +kernel
theorem dX4_writeSigns_1 : decode cX4_writeSigns 1 = .ok (.getfield 21, 3) := by decide +kernel
theorem dX4_writeSigns_4 : decode cX4_writeSigns 4 = .ok (.aload_n 1, 1) := by decide +kernel
theorem dX4_writeSigns_5 : decode cX4_writeSigns 5 = .ok (.iload_n 2, 1) := by decide +kernel
theorem dX4_writeSigns_6 : decode cX4_writeSigns 6 = .ok (.invokestatic 27, 3) := by decide +kernel
theorem dX4_writeSigns_9 : decode cX4_writeSigns 9 = .ok (.istore 4, 2) := by decide +kernel
theorem dX4_writeSigns_11 : decode cX4_writeSigns 11 = .ok (.aload_n 3, 1) := by decide +kernel
theorem dX4_writeSigns_12 : decode cX4_writeSigns 12 = .ok (.iconst 0, 1) := by decide +kernel
theorem dX4_writeSigns_13 : decode cX4_writeSigns 13 = .ok (.invokevirtual 42, 3) := by decide +kernel
theorem dX4_writeSigns_16 : decode cX4_writeSigns 16 = .ok (.iconst 0, 1) := by decide +kernel
theorem dX4_writeSigns_17 : decode cX4_writeSigns 17 = .ok (.istore 5, 2) := by decide +kernel
theorem dX4_writeSigns_19 : decode cX4_writeSigns 19 = .ok (.iload 5, 2) := by decide +kernel
theorem dX4_writeSigns_21 : decode cX4_writeSigns 21 = .ok (.iload 4, 2) := by decide +kernel
theorem dX4_writeSigns_23 : decode cX4_writeSigns 23 = .ok (.if_icmp .ge 22, 3) := by decide +kernel
theorem dX4_writeSigns_26 : decode cX4_writeSigns 26 = .ok (.aload_n 3, 1) := by decide +kernel
theorem dX4_writeSigns_27 : decode cX4_writeSigns 27 = .ok (.aload_n 0, 1) := by decide +kernel
theorem dX4_writeSigns_28 : decode cX4_writeSigns 28 = .ok (.aload_n 1, 1) := by decide +kernel
theorem dX4_writeSigns_29 : decode cX4_writeSigns 29 = .ok (.iload 5, 2) := by decide +kernel
theorem dX4_writeSigns_31 : decode cX4_writeSigns 31 = .ok (.invokestatic 34, 3) := by decide +kernel
theorem dX4_writeSigns_34 : decode cX4_writeSigns 34 = .ok (.i2c, 1) := by decide +kernel
theorem dX4_writeSigns_35 : decode cX4_writeSigns 35 = .ok (.invokevirtual 47, 3) := by decide +kernel
theorem dX4_writeSigns_38 : decode cX4_writeSigns 38 = .ok (.pop, 1) := by decide +kernel
theorem dX4_writeSigns_39 : decode cX4_writeSigns 39 = .ok (.iinc 5 1, 3) := by decide +kernel
theorem dX4_writeSigns_42 : decode cX4_writeSigns 42 = .ok (.goto (-23), 3) := by decide +kernel
theorem dX4_writeSigns_45 : decode cX4_writeSigns 45 = .ok (.return_, 1) := by decide +kernel
set_option maxRecDepth 20000 in
theorem ggX4_writtenAt_X4_signAt : GoodIn wsX4_writtenAt wsX4_signAt := goodIn_ca (goodIn_r _ [4, 5, 6, 7, 8, 9, 10, 11, 12, 13, 14, 15, 16, 17, 18, 19, 20] (by decide +kernel) (by decide +kernel)) (goodIn_sub (fun _ h => List.mem_cons_of_mem _ (List.mem_append_right _ h)) (by decide +kernel))
set_option maxRecDepth 20000 in
theorem gX4_writtenAt_X4_signAt : GoodIn wsX4_writtenAt (va_wsS RX4 50 yX4_signAt wsX4_signAt) := goodIn_app (goodIn_of _ (by decide +kernel)) ggX4_writtenAt_X4_signAt
theorem dX4_writtenAt_0 : decode cX4_writtenAt 0 = .ok (.aload_n 1, 1) := by decide +kernel
theorem dX4_writtenAt_1 : decode cX4_writtenAt 1 = .ok (.getfield 15, 3) := by decide +kernel
theorem dX4_writtenAt_4 : decode cX4_writtenAt 4 = .ok (.ifCond .ne 10, 3) := by decide +kernel
theorem dX4_writtenAt_7 : decode cX4_writtenAt 7 = .ok (.aload_n 0, 1) := by decide +kernel
theorem dX4_writtenAt_8 : decode cX4_writtenAt 8 = .ok (.aload_n 1, 1) := by decide +kernel
theorem dX4_writtenAt_9 : decode cX4_writtenAt 9 = .ok (.iload_n 2, 1) := by decide +kernel
theorem dX4_writtenAt_10 : decode cX4_writtenAt 10 = .ok (.invokestatic 50, 3) := by decide +kernel
theorem dX4_writtenAt_13 : decode cX4_writtenAt 13 = .ok (.ireturn, 1) := by decide +kernel
theorem dX4_writtenAt_14 : decode cX4_writtenAt 14 = .ok (.iload_n 2, 1) := by decide +kernel
theorem dX4_writtenAt_15 : decode cX4_writtenAt 15 = .ok (.bipush 78, 2) := by decide +kernel
theorem dX4_writtenAt_17 : decode cX4_writtenAt 17 = .ok (.idiv, 1) := by decide +kernel
theorem dX4_writtenAt_18 : decode cX4_writtenAt 18 = .ok (.istore_n 3, 1) := by decide +kernel
theorem dX4_writtenAt_19 : decode cX4_writtenAt 19 = .ok (.iload_n 2, 1) := by decide +kernel
theorem dX4_writtenAt_20 : decode cX4_writtenAt 20 = .ok (.bipush 78, 2) := by decide +kernel
theorem dX4_writtenAt_22 : decode cX4_writtenAt 22 = .ok (.irem, 1) := by decide +kernel
theorem dX4_writtenAt_23 : decode cX4_writtenAt 23 = .ok (.istore 4, 2) := by decide +kernel
theorem dX4_writtenAt_25 : decode cX4_writtenAt 25 = .ok (.iload 4, 2) := by decide +kernel
theorem dX4_writtenAt_27 : decode cX4_writtenAt 27 = .ok (.bipush 76, 2) := by decide +kernel
theorem dX4_writtenAt_29 : decode cX4_writtenAt 29 = .ok (.if_icmp .ge 16, 3) := by decide +kernel
theorem dX4_writtenAt_32 : decode cX4_writtenAt 32 = .ok (.aload_n 0, 1) := by decide +kernel
theorem dX4_writtenAt_33 : decode cX4_writtenAt 33 = .ok (.aload_n 1, 1) := by decide +kernel
theorem dX4_writtenAt_34 : decode cX4_writtenAt 34 = .ok (.iload_n 3, 1) := by decide +kernel
theorem dX4_writtenAt_35 : decode cX4_writtenAt 35 = .ok (.bipush 76, 2) := by decide +kernel
theorem dX4_writtenAt_37 : decode cX4_writtenAt 37 = .ok (.imul, 1) := by decide +kernel
theorem dX4_writtenAt_38 : decode cX4_writtenAt 38 = .ok (.iload 4, 2) := by decide +kernel
theorem dX4_writtenAt_40 : decode cX4_writtenAt 40 = .ok (.iadd, 1) := by decide +kernel
theorem dX4_writtenAt_41 : decode cX4_writtenAt 41 = .ok (.invokestatic 50, 3) := by decide +kernel
theorem dX4_writtenAt_44 : decode cX4_writtenAt 44 = .ok (.ireturn, 1) := by decide +kernel
theorem dX4_writtenAt_45 : decode cX4_writtenAt 45 = .ok (.iload 4, 2) := by decide +kernel
theorem dX4_writtenAt_47 : decode cX4_writtenAt 47 = .ok (.bipush 76, 2) := by decide +kernel
theorem dX4_writtenAt_49 : decode cX4_writtenAt 49 = .ok (.if_icmp .ne 8, 3) := by decide +kernel
theorem dX4_writtenAt_52 : decode cX4_writtenAt 52 = .ok (.bipush 13, 2) := by decide +kernel
theorem dX4_writtenAt_54 : decode cX4_writtenAt 54 = .ok (.goto 5, 3) := by decide +kernel
theorem dX4_writtenAt_57 : decode cX4_writtenAt 57 = .ok (.bipush 10, 2) := by decide +kernel
theorem dX4_writtenAt_59 : decode cX4_writtenAt 59 = .ok (.ireturn, 1) := by decide +kernel
set_option maxRecDepth 20000 in
theorem ggX4_signAt_X2_at : GoodIn wsX4_signAt wsX2_at := goodIn_ca (goodIn_r _ [5, 6, 7, 15, 16] (by decide +kernel) (by decide +kernel)) (goodIn_sub (fun _ h => List.mem_cons_of_mem _ (List.mem_append_right _ h)) (by decide +kernel))
set_option maxRecDepth 20000 in
theorem gX4_signAt_X2_at : GoodIn wsX4_signAt (wsV RX4 53 RX2 yX2_at wsX2_at) := goodIn_app (goodIn_of _ (by decide +kernel)) ggX4_signAt_X2_at
set_option maxRecDepth 20000 in
theorem ggX4_signAt_X0_letterOf : GoodIn wsX4_signAt wsX0_letterOf := goodIn_r _ [12, 13, 14] (by decide +kernel) (by decide +kernel)
set_option maxRecDepth 20000 in
theorem gX4_signAt_X0_letterOf : GoodIn wsX4_signAt (wsV RX4 57 RX0 yX0_letterOf wsX0_letterOf) := goodIn_app (goodIn_of _ (by decide +kernel)) ggX4_signAt_X0_letterOf
theorem dX4_signAt_0 : decode cX4_signAt 0 = .ok (.iload_n 2, 1) := by decide +kernel
theorem dX4_signAt_1 : decode cX4_signAt 1 = .ok (.bipush 6, 2) := by decide +kernel
theorem dX4_signAt_3 : decode cX4_signAt 3 = .ok (.imul, 1) := by decide +kernel
theorem dX4_signAt_4 : decode cX4_signAt 4 = .ok (.istore_n 3, 1) := by decide +kernel
theorem dX4_signAt_5 : decode cX4_signAt 5 = .ok (.iload_n 3, 1) := by decide +kernel
theorem dX4_signAt_6 : decode cX4_signAt 6 = .ok (.bipush 8, 2) := by decide +kernel
theorem dX4_signAt_8 : decode cX4_signAt 8 = .ok (.idiv, 1) := by decide +kernel
theorem dX4_signAt_9 : decode cX4_signAt 9 = .ok (.istore 4, 2) := by decide +kernel
theorem dX4_signAt_11 : decode cX4_signAt 11 = .ok (.iload 4, 2) := by decide +kernel
theorem dX4_signAt_13 : decode cX4_signAt 13 = .ok (.aload_n 0, 1) := by decide +kernel
theorem dX4_signAt_14 : decode cX4_signAt 14 = .ok (.getfield 21, 3) := by decide +kernel
theorem dX4_signAt_17 : decode cX4_signAt 17 = .ok (.if_icmp .lt 6, 3) := by decide +kernel
theorem dX4_signAt_20 : decode cX4_signAt 20 = .ok (.bipush 61, 2) := by decide +kernel
theorem dX4_signAt_22 : decode cX4_signAt 22 = .ok (.ireturn, 1) := by decide +kernel
theorem dX4_signAt_23 : decode cX4_signAt 23 = .ok (.aload_n 0, 1) := by decide +kernel
theorem dX4_signAt_24 : decode cX4_signAt 24 = .ok (.iload 4, 2) := by decide +kernel
theorem dX4_signAt_26 : decode cX4_signAt 26 = .ok (.invokevirtual 53, 3) := by decide +kernel
theorem dX4_signAt_29 : decode cX4_signAt 29 = .ok (.bipush 8, 2) := by decide +kernel
theorem dX4_signAt_31 : decode cX4_signAt 31 = .ok (.ishl, 1) := by decide +kernel
theorem dX4_signAt_32 : decode cX4_signAt 32 = .ok (.aload_n 0, 1) := by decide +kernel
theorem dX4_signAt_33 : decode cX4_signAt 33 = .ok (.iload 4, 2) := by decide +kernel
theorem dX4_signAt_35 : decode cX4_signAt 35 = .ok (.iconst 1, 1) := by decide +kernel
theorem dX4_signAt_36 : decode cX4_signAt 36 = .ok (.iadd, 1) := by decide +kernel
theorem dX4_signAt_37 : decode cX4_signAt 37 = .ok (.invokevirtual 53, 3) := by decide +kernel
theorem dX4_signAt_40 : decode cX4_signAt 40 = .ok (.ior, 1) := by decide +kernel
theorem dX4_signAt_41 : decode cX4_signAt 41 = .ok (.istore 5, 2) := by decide +kernel
theorem dX4_signAt_43 : decode cX4_signAt 43 = .ok (.aload_n 1, 1) := by decide +kernel
theorem dX4_signAt_44 : decode cX4_signAt 44 = .ok (.iload 5, 2) := by decide +kernel
theorem dX4_signAt_46 : decode cX4_signAt 46 = .ok (.bipush 10, 2) := by decide +kernel
theorem dX4_signAt_48 : decode cX4_signAt 48 = .ok (.iload_n 3, 1) := by decide +kernel
theorem dX4_signAt_49 : decode cX4_signAt 49 = .ok (.bipush 8, 2) := by decide +kernel
theorem dX4_signAt_51 : decode cX4_signAt 51 = .ok (.irem, 1) := by decide +kernel
theorem dX4_signAt_52 : decode cX4_signAt 52 = .ok (.isub, 1) := by decide +kernel
theorem dX4_signAt_53 : decode cX4_signAt 53 = .ok (.ishr, 1) := by decide +kernel
theorem dX4_signAt_54 : decode cX4_signAt 54 = .ok (.bipush 63, 2) := by decide +kernel
theorem dX4_signAt_56 : decode cX4_signAt 56 = .ok (.iand, 1) := by decide +kernel
theorem dX4_signAt_57 : decode cX4_signAt 57 = .ok (.invokevirtual 57, 3) := by decide +kernel
theorem dX4_signAt_60 : decode cX4_signAt 60 = .ok (.ireturn, 1) := by decide +kernel
set_option maxRecDepth 20000 in
theorem ggX5_init_X2_init : GoodIn wsX5_init wsX2_init := goodIn_r _ [19, 20, 2, 3, 21, 22, 23, 56, 57] (by decide +kernel) (by decide +kernel)
set_option maxRecDepth 20000 in
theorem gX5_init_X2_init_n15 : GoodIn wsX5_init (wsX2_init) := ggX5_init_X2_init
set_option maxRecDepth 20000 in
theorem ggX5_init_J4_init_da8c8 : GoodIn wsX5_init wsJ4_init_da8c8 := goodIn_r _ [26, 27, 28, 29, 30, 31, 2, 3, 32, 33, 34, 35, 36, 37, 38, 39, 40, 41, 42, 43, 58, 59, 60, 61] (by decide +kernel) (by decide +kernel)
set_option maxRecDepth 20000 in
theorem gX5_init_J4_init_da8c8 : GoodIn wsX5_init (wsJ4_init_da8c8) := ggX5_init_J4_init_da8c8
set_option maxRecDepth 20000 in
theorem ggX5_init_X1_init : GoodIn wsX5_init wsX1_init := goodIn_r _ [45, 46, 2, 3, 47, 6, 7, 48, 49, 50, 18, 19, 20, 21, 22, 23, 56, 57, 62, 63, 64] (by decide +kernel) (by decide +kernel)
set_option maxRecDepth 20000 in
theorem gX5_init_X1_init_n32 : GoodIn wsX5_init (wsX1_init) := ggX5_init_X1_init
theorem dX5_init_0 : decode cX5_init 0 = .ok (.aload_n 0, 1) := by decide +kernel
theorem dX5_init_1 : decode cX5_init 1 = .ok (.invokespecial 1, 3) := by decide +kernel
theorem dX5_init_4 : decode cX5_init 4 = .ok (.aload_n 0, 1) := by decide +kernel
theorem dX5_init_5 : decode cX5_init 5 = .ok (.bipush 6, 2) := by decide +kernel
theorem dX5_init_7 : decode cX5_init 7 = .ok (.anewarray 9, 3) := by decide +kernel
theorem dX5_init_10 : decode cX5_init 10 = .ok (.putfield 11, 3) := by decide +kernel
theorem dX5_init_13 : decode cX5_init 13 = .ok (.iconst 0, 1) := by decide +kernel
theorem dX5_init_14 : decode cX5_init 14 = .ok (.istore_n 1, 1) := by decide +kernel
theorem dX5_init_15 : decode cX5_init 15 = .ok (.iload_n 1, 1) := by decide +kernel
theorem dX5_init_16 : decode cX5_init 16 = .ok (.aload_n 0, 1) := by decide +kernel
theorem dX5_init_17 : decode cX5_init 17 = .ok (.getfield 11, 3) := by decide +kernel
theorem dX5_init_20 : decode cX5_init 20 = .ok (.arraylength, 1) := by decide +kernel
theorem dX5_init_21 : decode cX5_init 21 = .ok (.if_icmp .ge 22, 3) := by decide +kernel
theorem dX5_init_24 : decode cX5_init 24 = .ok (.aload_n 0, 1) := by decide +kernel
theorem dX5_init_25 : decode cX5_init 25 = .ok (.getfield 11, 3) := by decide +kernel
theorem dX5_init_28 : decode cX5_init 28 = .ok (.iload_n 1, 1) := by decide +kernel
theorem dX5_init_29 : decode cX5_init 29 = .ok (.new 9, 3) := by decide +kernel
theorem dX5_init_32 : decode cX5_init 32 = .ok (.dup, 1) := by decide +kernel
theorem dX5_init_33 : decode cX5_init 33 = .ok (.invokespecial 15, 3) := by decide +kernel
theorem dX5_init_36 : decode cX5_init 36 = .ok (.aastore, 1) := by decide +kernel
theorem dX5_init_37 : decode cX5_init 37 = .ok (.iinc 1 1, 3) := by decide +kernel
theorem dX5_init_40 : decode cX5_init 40 = .ok (.goto (-25), 3) := by decide +kernel
theorem dX5_init_43 : decode cX5_init 43 = .ok (.aload_n 0, 1) := by decide +kernel
theorem dX5_init_44 : decode cX5_init 44 = .ok (.new 9, 3) := by decide +kernel
theorem dX5_init_47 : decode cX5_init 47 = .ok (.dup, 1) := by decide +kernel
theorem dX5_init_48 : decode cX5_init 48 = .ok (.invokespecial 15, 3) := by decide +kernel
theorem dX5_init_51 : decode cX5_init 51 = .ok (.putfield 16, 3) := by decide +kernel
theorem dX5_init_54 : decode cX5_init 54 = .ok (.aload_n 0, 1) := by decide +kernel
theorem dX5_init_55 : decode cX5_init 55 = .ok (.new 9, 3) := by decide +kernel
theorem dX5_init_58 : decode cX5_init 58 = .ok (.dup, 1) := by decide +kernel
theorem dX5_init_59 : decode cX5_init 59 = .ok (.invokespecial 15, 3) := by decide +kernel
theorem dX5_init_62 : decode cX5_init 62 = .ok (.putfield 20, 3) := by decide +kernel
theorem dX5_init_65 : decode cX5_init 65 = .ok (.aload_n 0, 1) := by decide +kernel
theorem dX5_init_66 : decode cX5_init 66 = .ok (.new 23, 3) := by decide +kernel
theorem dX5_init_69 : decode cX5_init 69 = .ok (.dup, 1) := by decide +kernel
theorem dX5_init_70 : decode cX5_init 70 = .ok (.invokespecial 25, 3) := by decide +kernel
theorem dX5_init_73 : decode cX5_init 73 = .ok (.putfield 26, 3) := by decide +kernel
theorem dX5_init_76 : decode cX5_init 76 = .ok (.aload_n 0, 1) := by decide +kernel
theorem dX5_init_77 : decode cX5_init 77 = .ok (.new 30, 3) := by decide +kernel
theorem dX5_init_80 : decode cX5_init 80 = .ok (.dup, 1) := by decide +kernel
theorem dX5_init_81 : decode cX5_init 81 = .ok (.invokespecial 32, 3) := by decide +kernel
theorem dX5_init_84 : decode cX5_init 84 = .ok (.putfield 33, 3) := by decide +kernel
theorem dX5_init_87 : decode cX5_init 87 = .ok (.return_, 1) := by decide +kernel
set_option maxRecDepth 20000 in
theorem ggX5_add_X5_rowAt : GoodIn wsX5_add wsX5_rowAt := goodIn_ca (goodIn_r _ [5, 6, 7, 8, 28, 29, 30, 31, 32] (by decide +kernel) (by decide +kernel)) (goodIn_sub (fun _ h => List.mem_cons_of_mem _ (List.mem_append_left _ (List.mem_append_left _ (List.mem_append_left _ (List.mem_append_right _ h))))) (by decide +kernel))
set_option maxRecDepth 20000 in
theorem gX5_add_X5_rowAt : GoodIn wsX5_add (wsV RX5 37 RX5 yX5_rowAt wsX5_rowAt) := goodIn_app (goodIn_of _ (by decide +kernel)) ggX5_add_X5_rowAt
set_option maxRecDepth 20000 in
theorem ggX5_add_X5_checkByte : GoodIn wsX5_add wsX5_checkByte := goodIn_ca (goodIn_r _ [11, 12, 13] (by decide +kernel) (by decide +kernel)) (goodIn_sub (fun _ h => List.mem_cons_of_mem _ (List.mem_append_left _ (List.mem_append_left _ (List.mem_append_right _ h)))) (by decide +kernel))
set_option maxRecDepth 20000 in
theorem gX5_add_X5_checkByte : GoodIn wsX5_add (va_wsS RX5 41 yX5_checkByte wsX5_checkByte) := goodIn_app (goodIn_of _ (by decide +kernel)) ggX5_add_X5_checkByte
set_option maxRecDepth 20000 in
theorem ggX5_add_X5_checkRoom : GoodIn wsX5_add wsX5_checkRoom := goodIn_ca (goodIn_r _ [16, 17, 18] (by decide +kernel) (by decide +kernel)) (goodIn_sub (fun _ h => List.mem_cons_of_mem _ (List.mem_append_left _ (List.mem_append_right _ h))) (by decide +kernel))
set_option maxRecDepth 20000 in
theorem gX5_add_X5_checkRoom : GoodIn wsX5_add (va_wsS RX5 49 yX5_checkRoom wsX5_checkRoom) := goodIn_app (goodIn_of _ (by decide +kernel)) ggX5_add_X5_checkRoom
set_option maxRecDepth 20000 in
theorem ggX5_add_X2_append : GoodIn wsX5_add wsX2_append := goodIn_ca (goodIn_r _ [23, 24, 25, 26, 27] (by decide +kernel) (by decide +kernel)) (goodIn_sub (fun _ h => List.mem_cons_of_mem _ (List.mem_append_right _ h)) (by decide +kernel))
set_option maxRecDepth 20000 in
theorem gX5_add_X2_append : GoodIn wsX5_add (wsV RX5 52 RX2 yX2_append wsX2_append) := goodIn_app (goodIn_of _ (by decide +kernel)) ggX5_add_X2_append
theorem dX5_add_0 : decode cX5_add 0 = .ok (.aload_n 0, 1) := by decide +kernel
theorem dX5_add_1 : decode cX5_add 1 = .ok (.iload_n 1, 1) := by decide +kernel
theorem dX5_add_2 : decode cX5_add 2 = .ok (.invokevirtual 37, 3) := by decide +kernel
theorem dX5_add_5 : decode cX5_add 5 = .ok (.astore_n 3, 1) := by decide +kernel
theorem dX5_add_6 : decode cX5_add 6 = .ok (.iload_n 2, 1) := by decide +kernel
theorem dX5_add_7 : decode cX5_add 7 = .ok (.invokestatic 41, 3) := by decide +kernel
theorem dX5_add_10 : decode cX5_add 10 = .ok (.aload_n 3, 1) := by decide +kernel
theorem dX5_add_11 : decode cX5_add 11 = .ok (.getfield 45, 3) := by decide +kernel
theorem dX5_add_14 : decode cX5_add 14 = .ok (.iconst 1, 1) := by decide +kernel
theorem dX5_add_15 : decode cX5_add 15 = .ok (.iadd, 1) := by decide +kernel
theorem dX5_add_16 : decode cX5_add 16 = .ok (.invokestatic 49, 3) := by decide +kernel
theorem dX5_add_19 : decode cX5_add 19 = .ok (.aload_n 3, 1) := by decide +kernel
theorem dX5_add_20 : decode cX5_add 20 = .ok (.iload_n 2, 1) := by decide +kernel
theorem dX5_add_21 : decode cX5_add 21 = .ok (.invokevirtual 52, 3) := by decide +kernel
theorem dX5_add_24 : decode cX5_add 24 = .ok (.aload_n 3, 1) := by decide +kernel
theorem dX5_add_25 : decode cX5_add 25 = .ok (.getfield 45, 3) := by decide +kernel
theorem dX5_add_28 : decode cX5_add 28 = .ok (.ireturn, 1) := by decide +kernel
set_option maxRecDepth 20000 in
theorem ggX5_addMore_X5_rowAt : GoodIn wsX5_addMore wsX5_rowAt := goodIn_ca (goodIn_r _ [8, 9, 10, 11, 39, 40, 41, 42, 43] (by decide +kernel) (by decide +kernel)) (goodIn_sub (fun _ h => List.mem_cons_of_mem _ (List.mem_append_left _ (List.mem_append_left _ (List.mem_append_right _ h)))) (by decide +kernel))
set_option maxRecDepth 20000 in
theorem gX5_addMore_X5_rowAt : GoodIn wsX5_addMore (wsV RX5 37 RX5 yX5_rowAt wsX5_rowAt) := goodIn_app (goodIn_of _ (by decide +kernel)) ggX5_addMore_X5_rowAt
set_option maxRecDepth 20000 in
theorem ggX5_addMore_X2_clear : GoodIn wsX5_addMore wsX2_clear := goodIn_r _ [16, 17, 44, 45] (by decide +kernel) (by decide +kernel)
set_option maxRecDepth 20000 in
theorem gX5_addMore_X2_clear : GoodIn wsX5_addMore (wsV RX5 62 RX2 yX2_clear wsX2_clear) := goodIn_app (goodIn_of _ (by decide +kernel)) ggX5_addMore_X2_clear
set_option maxRecDepth 20000 in
theorem ggX5_addMore_X2_append : GoodIn wsX5_addMore wsX2_append := goodIn_ca (goodIn_r _ [21, 17, 22, 44, 45] (by decide +kernel) (by decide +kernel)) (goodIn_sub (fun _ h => List.mem_cons_of_mem _ (List.mem_append_left _ (List.mem_append_right _ h))) (by decide +kernel))
set_option maxRecDepth 20000 in
theorem gX5_addMore_X2_append : GoodIn wsX5_addMore (wsV RX5 52 RX2 yX2_append wsX2_append) := goodIn_app (goodIn_of _ (by decide +kernel)) ggX5_addMore_X2_append
set_option maxRecDepth 20000 in
theorem ggX5_addMore_X2_cutTo : GoodIn wsX5_addMore wsX2_cutTo := goodIn_r _ [26, 17, 44, 45] (by decide +kernel) (by decide +kernel)
set_option maxRecDepth 20000 in
theorem gX5_addMore_X2_cutTo : GoodIn wsX5_addMore (wsV RX5 65 RX2 yX2_cutTo wsX2_cutTo) := goodIn_app (goodIn_of _ (by decide +kernel)) ggX5_addMore_X2_cutTo
set_option maxRecDepth 20000 in
theorem ggX5_addMore_X2_at : GoodIn wsX5_addMore wsX2_at := goodIn_ca (goodIn_r _ [30, 17, 22, 44, 45] (by decide +kernel) (by decide +kernel)) (goodIn_sub (fun _ h => List.mem_cons_of_mem _ (List.mem_append_left _ (List.mem_append_right _ h))) (by decide +kernel))
set_option maxRecDepth 20000 in
theorem gX5_addMore_X2_at : GoodIn wsX5_addMore (wsV RX5 68 RX2 yX2_at wsX2_at) := goodIn_app (goodIn_of _ (by decide +kernel)) ggX5_addMore_X2_at
set_option maxRecDepth 20000 in
theorem ggX5_addMore_X5_checkByte : GoodIn wsX5_addMore wsX5_checkByte := goodIn_ca (goodIn_r _ [33, 1, 2] (by decide +kernel) (by decide +kernel)) (goodIn_sub (fun _ h => List.mem_cons_of_mem _ (List.mem_append_left _ (List.mem_append_left _ (List.mem_append_left _ (List.mem_append_right _ h))))) (by decide +kernel))
set_option maxRecDepth 20000 in
theorem gX5_addMore_X5_checkByte : GoodIn wsX5_addMore (va_wsS RX5 41 yX5_checkByte wsX5_checkByte) := goodIn_app (goodIn_of _ (by decide +kernel)) ggX5_addMore_X5_checkByte
set_option maxRecDepth 20000 in
theorem ggX5_addMore_X5_checkRoom : GoodIn wsX5_addMore wsX5_checkRoom := goodIn_ca (goodIn_r _ [36, 37, 38] (by decide +kernel) (by decide +kernel)) (goodIn_sub (fun _ h => List.mem_cons_of_mem _ (List.mem_append_right _ h)) (by decide +kernel))
set_option maxRecDepth 20000 in
theorem gX5_addMore_X5_checkRoom : GoodIn wsX5_addMore (va_wsS RX5 49 yX5_checkRoom wsX5_checkRoom) := goodIn_app (goodIn_of _ (by decide +kernel)) ggX5_addMore_X5_checkRoom
theorem dX5_addMore_0 : decode cX5_addMore 0 = .ok (.aload_n 0, 1) := by decide +kernel
theorem dX5_addMore_1 : decode cX5_addMore 1 = .ok (.iload_n 1, 1) := by decide +kernel
theorem dX5_addMore_2 : decode cX5_addMore 2 = .ok (.invokevirtual 37, 3) := by decide +kernel
theorem dX5_addMore_5 : decode cX5_addMore 5 = .ok (.astore 11, 2) := by decide +kernel
theorem dX5_addMore_7 : decode cX5_addMore 7 = .ok (.iload_n 2, 1) := by decide +kernel
theorem dX5_addMore_8 : decode cX5_addMore 8 = .ok (.iconst 1, 1) := by decide +kernel
theorem dX5_addMore_9 : decode cX5_addMore 9 = .ok (.if_icmp .lt 9, 3) := by decide +kernel
theorem dX5_addMore_12 : decode cX5_addMore 12 = .ok (.iload_n 2, 1) := by decide +kernel
theorem dX5_addMore_13 : decode cX5_addMore 13 = .ok (.bipush 8, 2) := by decide +kernel
theorem dX5_addMore_15 : decode cX5_addMore 15 = .ok (.if_icmp .le 13, 3) := by decide +kernel
theorem dX5_addMore_18 : decode cX5_addMore 18 = .ok (.new 55, 3) := by decide +kernel
theorem dX5_addMore_21 : decode cX5_addMore 21 = .ok (.dup, 1) := by decide +kernel
theorem dX5_addMore_22 : decode cX5_addMore 22 = .ok (.ldc 57, 2) := by decide +kernel
theorem dX5_addMore_24 : decode cX5_addMore 24 = .ok (.invokespecial 59, 3) := by decide +kernel
theorem dX5_addMore_27 : decode cX5_addMore 27 = .ok (.athrow, 1) := by decide +kernel
theorem dX5_addMore_28 : decode cX5_addMore 28 = .ok (.aload_n 0, 1) := by decide +kernel
theorem dX5_addMore_29 : decode cX5_addMore 29 = .ok (.getfield 16, 3) := by decide +kernel
theorem dX5_addMore_32 : decode cX5_addMore 32 = .ok (.invokevirtual 62, 3) := by decide +kernel
theorem dX5_addMore_35 : decode cX5_addMore 35 = .ok (.aload_n 0, 1) := by decide +kernel
theorem dX5_addMore_36 : decode cX5_addMore 36 = .ok (.getfield 16, 3) := by decide +kernel
theorem dX5_addMore_39 : decode cX5_addMore 39 = .ok (.iload_n 3, 1) := by decide +kernel
theorem dX5_addMore_40 : decode cX5_addMore 40 = .ok (.invokevirtual 52, 3) := by decide +kernel
theorem dX5_addMore_43 : decode cX5_addMore 43 = .ok (.aload_n 0, 1) := by decide +kernel
theorem dX5_addMore_44 : decode cX5_addMore 44 = .ok (.getfield 16, 3) := by decide +kernel
theorem dX5_addMore_47 : decode cX5_addMore 47 = .ok (.iload 4, 2) := by decide +kernel
theorem dX5_addMore_49 : decode cX5_addMore 49 = .ok (.invokevirtual 52, 3) := by decide +kernel
theorem dX5_addMore_52 : decode cX5_addMore 52 = .ok (.aload_n 0, 1) := by decide +kernel
theorem dX5_addMore_53 : decode cX5_addMore 53 = .ok (.getfield 16, 3) := by decide +kernel
theorem dX5_addMore_56 : decode cX5_addMore 56 = .ok (.iload 5, 2) := by decide +kernel
theorem dX5_addMore_58 : decode cX5_addMore 58 = .ok (.invokevirtual 52, 3) := by decide +kernel
theorem dX5_addMore_61 : decode cX5_addMore 61 = .ok (.aload_n 0, 1) := by decide +kernel
theorem dX5_addMore_62 : decode cX5_addMore 62 = .ok (.getfield 16, 3) := by decide +kernel
theorem dX5_addMore_65 : decode cX5_addMore 65 = .ok (.iload 6, 2) := by decide +kernel
theorem dX5_addMore_67 : decode cX5_addMore 67 = .ok (.invokevirtual 52, 3) := by decide +kernel
theorem dX5_addMore_70 : decode cX5_addMore 70 = .ok (.aload_n 0, 1) := by decide +kernel
theorem dX5_addMore_71 : decode cX5_addMore 71 = .ok (.getfield 16, 3) := by decide +kernel
theorem dX5_addMore_74 : decode cX5_addMore 74 = .ok (.iload 7, 2) := by decide +kernel
theorem dX5_addMore_76 : decode cX5_addMore 76 = .ok (.invokevirtual 52, 3) := by decide +kernel
theorem dX5_addMore_79 : decode cX5_addMore 79 = .ok (.aload_n 0, 1) := by decide +kernel
theorem dX5_addMore_80 : decode cX5_addMore 80 = .ok (.getfield 16, 3) := by decide +kernel
theorem dX5_addMore_83 : decode cX5_addMore 83 = .ok (.iload 8, 2) := by decide +kernel
theorem dX5_addMore_85 : decode cX5_addMore 85 = .ok (.invokevirtual 52, 3) := by decide +kernel
theorem dX5_addMore_88 : decode cX5_addMore 88 = .ok (.aload_n 0, 1) := by decide +kernel
theorem dX5_addMore_89 : decode cX5_addMore 89 = .ok (.getfield 16, 3) := by decide +kernel
theorem dX5_addMore_92 : decode cX5_addMore 92 = .ok (.iload 9, 2) := by decide +kernel
theorem dX5_addMore_94 : decode cX5_addMore 94 = .ok (.invokevirtual 52, 3) := by decide +kernel
theorem dX5_addMore_97 : decode cX5_addMore 97 = .ok (.aload_n 0, 1) := by decide +kernel
theorem dX5_addMore_98 : decode cX5_addMore 98 = .ok (.getfield 16, 3) := by decide +kernel
theorem dX5_addMore_101 : decode cX5_addMore 101 = .ok (.iload 10, 2) := by decide +kernel
theorem dX5_addMore_103 : decode cX5_addMore 103 = .ok (.invokevirtual 52, 3) := by decide +kernel
theorem dX5_addMore_106 : decode cX5_addMore 106 = .ok (.aload_n 0, 1) := by decide +kernel
theorem dX5_addMore_107 : decode cX5_addMore 107 = .ok (.getfield 16, 3) := by decide +kernel
theorem dX5_addMore_110 : decode cX5_addMore 110 = .ok (.iload_n 2, 1) := by decide +kernel
theorem dX5_addMore_111 : decode cX5_addMore 111 = .ok (.invokevirtual 65, 3) := by decide +kernel
theorem dX5_addMore_114 : decode cX5_addMore 114 = .ok (.iconst 0, 1) := by decide +kernel
theorem dX5_addMore_115 : decode cX5_addMore 115 = .ok (.istore 12, 2) := by decide +kernel
theorem dX5_addMore_117 : decode cX5_addMore 117 = .ok (.iload 12, 2) := by decide +kernel
theorem dX5_addMore_119 : decode cX5_addMore 119 = .ok (.aload_n 0, 1) := by decide +kernel
theorem dX5_addMore_120 : decode cX5_addMore 120 = .ok (.getfield 16, 3) := by decide +kernel
theorem dX5_addMore_123 : decode cX5_addMore 123 = .ok (.getfield 45, 3) := by decide +kernel
theorem dX5_addMore_126 : decode cX5_addMore 126 = .ok (.if_icmp .ge 21, 3) := by decide +kernel
theorem dX5_addMore_129 : decode cX5_addMore 129 = .ok (.aload_n 0, 1) := by decide +kernel
theorem dX5_addMore_130 : decode cX5_addMore 130 = .ok (.getfield 16, 3) := by decide +kernel
theorem dX5_addMore_133 : decode cX5_addMore 133 = .ok (.iload 12, 2) := by decide +kernel
theorem dX5_addMore_135 : decode cX5_addMore 135 = .ok (.invokevirtual 68, 3) := by decide +kernel
theorem dX5_addMore_138 : decode cX5_addMore 138 = .ok (.invokestatic 41, 3) := by decide +kernel
theorem dX5_addMore_141 : decode cX5_addMore 141 = .ok (.iinc 12 1, 3) := by decide +kernel
theorem dX5_addMore_144 : decode cX5_addMore 144 = .ok (.goto (-27), 3) := by decide +kernel
theorem dX5_addMore_147 : decode cX5_addMore 147 = .ok (.aload 11, 2) := by decide +kernel
theorem dX5_addMore_149 : decode cX5_addMore 149 = .ok (.getfield 45, 3) := by decide +kernel
theorem dX5_addMore_152 : decode cX5_addMore 152 = .ok (.iload_n 2, 1) := by decide +kernel
theorem dX5_addMore_153 : decode cX5_addMore 153 = .ok (.iadd, 1) := by decide +kernel
theorem dX5_addMore_154 : decode cX5_addMore 154 = .ok (.invokestatic 49, 3) := by decide +kernel
theorem dX5_addMore_157 : decode cX5_addMore 157 = .ok (.iconst 0, 1) := by decide +kernel
theorem dX5_addMore_158 : decode cX5_addMore 158 = .ok (.istore 12, 2) := by decide +kernel
theorem dX5_addMore_160 : decode cX5_addMore 160 = .ok (.iload 12, 2) := by decide +kernel
theorem dX5_addMore_162 : decode cX5_addMore 162 = .ok (.aload_n 0, 1) := by decide +kernel
theorem dX5_addMore_163 : decode cX5_addMore 163 = .ok (.getfield 16, 3) := by decide +kernel
theorem dX5_addMore_166 : decode cX5_addMore 166 = .ok (.getfield 45, 3) := by decide +kernel
theorem dX5_addMore_169 : decode cX5_addMore 169 = .ok (.if_icmp .ge 23, 3) := by decide +kernel
theorem dX5_addMore_172 : decode cX5_addMore 172 = .ok (.aload 11, 2) := by decide +kernel
theorem dX5_addMore_174 : decode cX5_addMore 174 = .ok (.aload_n 0, 1) := by decide +kernel
theorem dX5_addMore_175 : decode cX5_addMore 175 = .ok (.getfield 16, 3) := by decide +kernel
theorem dX5_addMore_178 : decode cX5_addMore 178 = .ok (.iload 12, 2) := by decide +kernel
theorem dX5_addMore_180 : decode cX5_addMore 180 = .ok (.invokevirtual 68, 3) := by decide +kernel
theorem dX5_addMore_183 : decode cX5_addMore 183 = .ok (.invokevirtual 52, 3) := by decide +kernel
theorem dX5_addMore_186 : decode cX5_addMore 186 = .ok (.iinc 12 1, 3) := by decide +kernel
theorem dX5_addMore_189 : decode cX5_addMore 189 = .ok (.goto (-29), 3) := by decide +kernel
theorem dX5_addMore_192 : decode cX5_addMore 192 = .ok (.aload 11, 2) := by decide +kernel
theorem dX5_addMore_194 : decode cX5_addMore 194 = .ok (.getfield 45, 3) := by decide +kernel
theorem dX5_addMore_197 : decode cX5_addMore 197 = .ok (.ireturn, 1) := by decide +kernel
set_option maxRecDepth 20000 in
theorem ggX5_put_X5_rowAt : GoodIn wsX5_put wsX5_rowAt := goodIn_ca (goodIn_r _ [5, 6, 7, 8, 30, 31, 32, 33, 34] (by decide +kernel) (by decide +kernel)) (goodIn_sub (fun _ h => List.mem_cons_of_mem _ (List.mem_append_left _ (List.mem_append_left _ (List.mem_append_right _ h)))) (by decide +kernel))
set_option maxRecDepth 20000 in
theorem gX5_put_X5_rowAt : GoodIn wsX5_put (wsV RX5 37 RX5 yX5_rowAt wsX5_rowAt) := goodIn_app (goodIn_of _ (by decide +kernel)) ggX5_put_X5_rowAt
set_option maxRecDepth 20000 in
theorem ggX5_put_X5_checkPlace : GoodIn wsX5_put wsX5_checkPlace := goodIn_ca (goodIn_r _ [11, 6, 7] (by decide +kernel) (by decide +kernel)) (goodIn_sub (fun _ h => List.mem_cons_of_mem _ (List.mem_append_left _ (List.mem_append_left _ (List.mem_append_right _ h)))) (by decide +kernel))
set_option maxRecDepth 20000 in
theorem gX5_put_X5_checkPlace : GoodIn wsX5_put (va_wsS RX5 72 yX5_checkPlace wsX5_checkPlace) := goodIn_app (goodIn_of _ (by decide +kernel)) ggX5_put_X5_checkPlace
set_option maxRecDepth 20000 in
theorem ggX5_put_X5_checkByte : GoodIn wsX5_put wsX5_checkByte := goodIn_ca (goodIn_r _ [14, 15, 16] (by decide +kernel) (by decide +kernel)) (goodIn_sub (fun _ h => List.mem_cons_of_mem _ (List.mem_append_left _ (List.mem_append_right _ h))) (by decide +kernel))
set_option maxRecDepth 20000 in
theorem gX5_put_X5_checkByte : GoodIn wsX5_put (va_wsS RX5 41 yX5_checkByte wsX5_checkByte) := goodIn_app (goodIn_of _ (by decide +kernel)) ggX5_put_X5_checkByte
set_option maxRecDepth 20000 in
theorem ggX5_put_X2_at : GoodIn wsX5_put wsX2_at := goodIn_ca (goodIn_r _ [21, 22, 23, 28, 29] (by decide +kernel) (by decide +kernel)) (goodIn_sub (fun _ h => List.mem_cons_of_mem _ (List.mem_append_right _ h)) (by decide +kernel))
set_option maxRecDepth 20000 in
theorem gX5_put_X2_at : GoodIn wsX5_put (wsV RX5 68 RX2 yX2_at wsX2_at) := goodIn_app (goodIn_of _ (by decide +kernel)) ggX5_put_X2_at
set_option maxRecDepth 20000 in
theorem ggX5_put_X2_replace : GoodIn wsX5_put wsX2_replace := goodIn_ca (goodIn_r _ [27, 22, 23, 28, 29] (by decide +kernel) (by decide +kernel)) (goodIn_sub (fun _ h => List.mem_cons_of_mem _ (List.mem_append_right _ h)) (by decide +kernel))
set_option maxRecDepth 20000 in
theorem gX5_put_X2_replace : GoodIn wsX5_put (wsV RX5 76 RX2 yX2_replace wsX2_replace) := goodIn_app (goodIn_of _ (by decide +kernel)) ggX5_put_X2_replace
theorem dX5_put_0 : decode cX5_put 0 = .ok (.aload_n 0, 1) := by decide +kernel
theorem dX5_put_1 : decode cX5_put 1 = .ok (.iload_n 1, 1) := by decide +kernel
theorem dX5_put_2 : decode cX5_put 2 = .ok (.invokevirtual 37, 3) := by decide +kernel
theorem dX5_put_5 : decode cX5_put 5 = .ok (.astore 4, 2) := by decide +kernel
theorem dX5_put_7 : decode cX5_put 7 = .ok (.iload_n 2, 1) := by decide +kernel
theorem dX5_put_8 : decode cX5_put 8 = .ok (.aload 4, 2) := by decide +kernel
theorem dX5_put_10 : decode cX5_put 10 = .ok (.getfield 45, 3) := by decide +kernel
theorem dX5_put_13 : decode cX5_put 13 = .ok (.invokestatic 72, 3) := by decide +kernel
theorem dX5_put_16 : decode cX5_put 16 = .ok (.iload_n 3, 1) := by decide +kernel
theorem dX5_put_17 : decode cX5_put 17 = .ok (.invokestatic 41, 3) := by decide +kernel
theorem dX5_put_20 : decode cX5_put 20 = .ok (.aload 4, 2) := by decide +kernel
theorem dX5_put_22 : decode cX5_put 22 = .ok (.iload_n 2, 1) := by decide +kernel
theorem dX5_put_23 : decode cX5_put 23 = .ok (.invokevirtual 68, 3) := by decide +kernel
theorem dX5_put_26 : decode cX5_put 26 = .ok (.istore 5, 2) := by decide +kernel
theorem dX5_put_28 : decode cX5_put 28 = .ok (.aload 4, 2) := by decide +kernel
theorem dX5_put_30 : decode cX5_put 30 = .ok (.iload_n 2, 1) := by decide +kernel
theorem dX5_put_31 : decode cX5_put 31 = .ok (.iload_n 3, 1) := by decide +kernel
theorem dX5_put_32 : decode cX5_put 32 = .ok (.invokevirtual 76, 3) := by decide +kernel
theorem dX5_put_35 : decode cX5_put 35 = .ok (.iload 5, 2) := by decide +kernel
theorem dX5_put_37 : decode cX5_put 37 = .ok (.ireturn, 1) := by decide +kernel
set_option maxRecDepth 20000 in
theorem ggX5_insert_X5_rowAt : GoodIn wsX5_insert wsX5_rowAt := goodIn_ca (goodIn_r _ [5, 6, 7, 8, 43, 44, 45, 46, 47] (by decide +kernel) (by decide +kernel)) (goodIn_sub (fun _ h => List.mem_cons_of_mem _ (List.mem_append_left _ (List.mem_append_left _ (List.mem_append_left _ (List.mem_append_right _ h))))) (by decide +kernel))
set_option maxRecDepth 20000 in
theorem gX5_insert_X5_rowAt : GoodIn wsX5_insert (wsV RX5 37 RX5 yX5_rowAt wsX5_rowAt) := goodIn_app (goodIn_of _ (by decide +kernel)) ggX5_insert_X5_rowAt
set_option maxRecDepth 20000 in
theorem ggX5_insert_X5_checkPlace : GoodIn wsX5_insert wsX5_checkPlace := goodIn_ca (goodIn_r _ [11, 6, 7] (by decide +kernel) (by decide +kernel)) (goodIn_sub (fun _ h => List.mem_cons_of_mem _ (List.mem_append_left _ (List.mem_append_left _ (List.mem_append_left _ (List.mem_append_right _ h))))) (by decide +kernel))
set_option maxRecDepth 20000 in
theorem gX5_insert_X5_checkPlace : GoodIn wsX5_insert (va_wsS RX5 72 yX5_checkPlace wsX5_checkPlace) := goodIn_app (goodIn_of _ (by decide +kernel)) ggX5_insert_X5_checkPlace
set_option maxRecDepth 20000 in
theorem ggX5_insert_X5_checkByte : GoodIn wsX5_insert wsX5_checkByte := goodIn_ca (goodIn_r _ [14, 15, 16] (by decide +kernel) (by decide +kernel)) (goodIn_sub (fun _ h => List.mem_cons_of_mem _ (List.mem_append_left _ (List.mem_append_left _ (List.mem_append_right _ h)))) (by decide +kernel))
set_option maxRecDepth 20000 in
theorem gX5_insert_X5_checkByte : GoodIn wsX5_insert (va_wsS RX5 41 yX5_checkByte wsX5_checkByte) := goodIn_app (goodIn_of _ (by decide +kernel)) ggX5_insert_X5_checkByte
set_option maxRecDepth 20000 in
theorem ggX5_insert_X5_checkRoom : GoodIn wsX5_insert wsX5_checkRoom := goodIn_ca (goodIn_r _ [19, 20, 21] (by decide +kernel) (by decide +kernel)) (goodIn_sub (fun _ h => List.mem_cons_of_mem _ (List.mem_append_left _ (List.mem_append_right _ h))) (by decide +kernel))
set_option maxRecDepth 20000 in
theorem gX5_insert_X5_checkRoom : GoodIn wsX5_insert (va_wsS RX5 49 yX5_checkRoom wsX5_checkRoom) := goodIn_app (goodIn_of _ (by decide +kernel)) ggX5_insert_X5_checkRoom
set_option maxRecDepth 20000 in
theorem ggX5_insert_X2_squeezeIn : GoodIn wsX5_insert wsX2_squeezeIn := goodIn_ca (goodIn_r _ [26, 27, 28, 29, 30, 25, 31, 32, 33, 34, 35, 36, 37, 38, 39, 40, 41, 42] (by decide +kernel) (by decide +kernel)) (goodIn_sub (fun _ h => List.mem_cons_of_mem _ (List.mem_append_right _ h)) (by decide +kernel))
set_option maxRecDepth 20000 in
theorem gX5_insert_X2_squeezeIn : GoodIn wsX5_insert (wsV RX5 79 RX2 yX2_squeezeIn wsX2_squeezeIn) := goodIn_app (goodIn_of _ (by decide +kernel)) ggX5_insert_X2_squeezeIn
theorem dX5_insert_0 : decode cX5_insert 0 = .ok (.aload_n 0, 1) := by decide +kernel
theorem dX5_insert_1 : decode cX5_insert 1 = .ok (.iload_n 1, 1) := by decide +kernel
theorem dX5_insert_2 : decode cX5_insert 2 = .ok (.invokevirtual 37, 3) := by decide +kernel
theorem dX5_insert_5 : decode cX5_insert 5 = .ok (.astore 4, 2) := by decide +kernel
theorem dX5_insert_7 : decode cX5_insert 7 = .ok (.iload_n 2, 1) := by decide +kernel
theorem dX5_insert_8 : decode cX5_insert 8 = .ok (.aload 4, 2) := by decide +kernel
theorem dX5_insert_10 : decode cX5_insert 10 = .ok (.getfield 45, 3) := by decide +kernel
theorem dX5_insert_13 : decode cX5_insert 13 = .ok (.iconst 1, 1) := by decide +kernel
theorem dX5_insert_14 : decode cX5_insert 14 = .ok (.iadd, 1) := by decide +kernel
theorem dX5_insert_15 : decode cX5_insert 15 = .ok (.invokestatic 72, 3) := by decide +kernel
theorem dX5_insert_18 : decode cX5_insert 18 = .ok (.iload_n 3, 1) := by decide +kernel
theorem dX5_insert_19 : decode cX5_insert 19 = .ok (.invokestatic 41, 3) := by decide +kernel
theorem dX5_insert_22 : decode cX5_insert 22 = .ok (.aload 4, 2) := by decide +kernel
theorem dX5_insert_24 : decode cX5_insert 24 = .ok (.getfield 45, 3) := by decide +kernel
theorem dX5_insert_27 : decode cX5_insert 27 = .ok (.iconst 1, 1) := by decide +kernel
theorem dX5_insert_28 : decode cX5_insert 28 = .ok (.iadd, 1) := by decide +kernel
theorem dX5_insert_29 : decode cX5_insert 29 = .ok (.invokestatic 49, 3) := by decide +kernel
theorem dX5_insert_32 : decode cX5_insert 32 = .ok (.aload 4, 2) := by decide +kernel
theorem dX5_insert_34 : decode cX5_insert 34 = .ok (.iload_n 2, 1) := by decide +kernel
theorem dX5_insert_35 : decode cX5_insert 35 = .ok (.iload_n 3, 1) := by decide +kernel
theorem dX5_insert_36 : decode cX5_insert 36 = .ok (.invokevirtual 79, 3) := by decide +kernel
theorem dX5_insert_39 : decode cX5_insert 39 = .ok (.aload 4, 2) := by decide +kernel
theorem dX5_insert_41 : decode cX5_insert 41 = .ok (.getfield 45, 3) := by decide +kernel
theorem dX5_insert_44 : decode cX5_insert 44 = .ok (.ireturn, 1) := by decide +kernel
set_option maxRecDepth 20000 in
theorem ggX5_remove_X5_rowAt : GoodIn wsX5_remove wsX5_rowAt := goodIn_ca (goodIn_r _ [7, 1, 2, 8, 30, 31, 32, 33, 34] (by decide +kernel) (by decide +kernel)) (goodIn_sub (fun _ h => List.mem_cons_of_mem _ (List.mem_append_left _ (List.mem_append_right _ h))) (by decide +kernel))
set_option maxRecDepth 20000 in
theorem gX5_remove_X5_rowAt : GoodIn wsX5_remove (wsV RX5 37 RX5 yX5_rowAt wsX5_rowAt) := goodIn_app (goodIn_of _ (by decide +kernel)) ggX5_remove_X5_rowAt
set_option maxRecDepth 20000 in
theorem ggX5_remove_X2_takeOut : GoodIn wsX5_remove wsX2_takeOut := goodIn_ca (goodIn_r _ [13, 14, 15, 16, 17, 12, 18, 19, 20, 21, 22, 23, 24, 25, 26, 27, 28, 29] (by decide +kernel) (by decide +kernel)) (goodIn_sub (fun _ h => List.mem_cons_of_mem _ (List.mem_append_right _ h)) (by decide +kernel))
set_option maxRecDepth 20000 in
theorem gX5_remove_X2_takeOut : GoodIn wsX5_remove (wsV RX5 87 RX2 yX2_takeOut wsX2_takeOut) := goodIn_app (goodIn_of _ (by decide +kernel)) ggX5_remove_X2_takeOut
theorem dX5_remove_0 : decode cX5_remove 0 = .ok (.aload_n 0, 1) := by decide +kernel
theorem dX5_remove_1 : decode cX5_remove 1 = .ok (.iload_n 1, 1) := by decide +kernel
theorem dX5_remove_2 : decode cX5_remove 2 = .ok (.invokevirtual 37, 3) := by decide +kernel
theorem dX5_remove_5 : decode cX5_remove 5 = .ok (.astore 4, 2) := by decide +kernel
theorem dX5_remove_7 : decode cX5_remove 7 = .ok (.iload_n 2, 1) := by decide +kernel
theorem dX5_remove_8 : decode cX5_remove 8 = .ok (.ifCond .lt 18, 3) := by decide +kernel
theorem dX5_remove_11 : decode cX5_remove 11 = .ok (.iload_n 3, 1) := by decide +kernel
theorem dX5_remove_12 : decode cX5_remove 12 = .ok (.ifCond .lt 14, 3) := by decide +kernel
theorem dX5_remove_15 : decode cX5_remove 15 = .ok (.iload_n 3, 1) := by decide +kernel
theorem dX5_remove_16 : decode cX5_remove 16 = .ok (.aload 4, 2) := by decide +kernel
theorem dX5_remove_18 : decode cX5_remove 18 = .ok (.getfield 45, 3) := by decide +kernel
theorem dX5_remove_21 : decode cX5_remove 21 = .ok (.iload_n 2, 1) := by decide +kernel
theorem dX5_remove_22 : decode cX5_remove 22 = .ok (.isub, 1) := by decide +kernel
theorem dX5_remove_23 : decode cX5_remove 23 = .ok (.if_icmp .le 13, 3) := by decide +kernel
theorem dX5_remove_26 : decode cX5_remove 26 = .ok (.new 82, 3) := by decide +kernel
theorem dX5_remove_29 : decode cX5_remove 29 = .ok (.dup, 1) := by decide +kernel
theorem dX5_remove_30 : decode cX5_remove 30 = .ok (.ldc 84, 2) := by decide +kernel
theorem dX5_remove_32 : decode cX5_remove 32 = .ok (.invokespecial 86, 3) := by decide +kernel
theorem dX5_remove_35 : decode cX5_remove 35 = .ok (.athrow, 1) := by decide +kernel
theorem dX5_remove_36 : decode cX5_remove 36 = .ok (.aload 4, 2) := by decide +kernel
theorem dX5_remove_38 : decode cX5_remove 38 = .ok (.iload_n 2, 1) := by decide +kernel
theorem dX5_remove_39 : decode cX5_remove 39 = .ok (.iload_n 3, 1) := by decide +kernel
theorem dX5_remove_40 : decode cX5_remove 40 = .ok (.invokevirtual 87, 3) := by decide +kernel
theorem dX5_remove_43 : decode cX5_remove 43 = .ok (.aload 4, 2) := by decide +kernel
theorem dX5_remove_45 : decode cX5_remove 45 = .ok (.getfield 45, 3) := by decide +kernel
theorem dX5_remove_48 : decode cX5_remove 48 = .ok (.ireturn, 1) := by decide +kernel
set_option maxRecDepth 20000 in
theorem ggX5_length_X5_rowAt : GoodIn wsX5_length wsX5_rowAt := goodIn_ca (goodIn_r _ [5, 6, 7, 8, 11, 12, 13, 14, 15] (by decide +kernel) (by decide +kernel)) (goodIn_sub (fun _ h => List.mem_cons_of_mem _ (List.mem_append_right _ h)) (by decide +kernel))
set_option maxRecDepth 20000 in
theorem gX5_length_X5_rowAt : GoodIn wsX5_length (wsV RX5 37 RX5 yX5_rowAt wsX5_rowAt) := goodIn_app (goodIn_of _ (by decide +kernel)) ggX5_length_X5_rowAt
theorem dX5_length_0 : decode cX5_length 0 = .ok (.aload_n 0, 1) := by decide +kernel
theorem dX5_length_1 : decode cX5_length 1 = .ok (.iload_n 1, 1) := by decide +kernel
theorem dX5_length_2 : decode cX5_length 2 = .ok (.invokevirtual 37, 3) := by decide +kernel
theorem dX5_length_5 : decode cX5_length 5 = .ok (.getfield 45, 3) := by decide +kernel
theorem dX5_length_8 : decode cX5_length 8 = .ok (.ireturn, 1) := by decide +kernel
set_option maxRecDepth 20000 in
theorem ggX5_get_X5_rowAt : GoodIn wsX5_get wsX5_rowAt := goodIn_ca (goodIn_r _ [5, 6, 7, 8, 21, 22, 23, 24, 25] (by decide +kernel) (by decide +kernel)) (goodIn_sub (fun _ h => List.mem_cons_of_mem _ (List.mem_append_left _ (List.mem_append_right _ h))) (by decide +kernel))
set_option maxRecDepth 20000 in
theorem gX5_get_X5_rowAt : GoodIn wsX5_get (wsV RX5 37 RX5 yX5_rowAt wsX5_rowAt) := goodIn_app (goodIn_of _ (by decide +kernel)) ggX5_get_X5_rowAt
set_option maxRecDepth 20000 in
theorem ggX5_get_X5_checkPlace : GoodIn wsX5_get wsX5_checkPlace := goodIn_ca (goodIn_r _ [11, 6, 7] (by decide +kernel) (by decide +kernel)) (goodIn_sub (fun _ h => List.mem_cons_of_mem _ (List.mem_append_left _ (List.mem_append_right _ h))) (by decide +kernel))
set_option maxRecDepth 20000 in
theorem gX5_get_X5_checkPlace : GoodIn wsX5_get (va_wsS RX5 72 yX5_checkPlace wsX5_checkPlace) := goodIn_app (goodIn_of _ (by decide +kernel)) ggX5_get_X5_checkPlace
set_option maxRecDepth 20000 in
theorem ggX5_get_X2_at : GoodIn wsX5_get wsX2_at := goodIn_ca (goodIn_r _ [16, 17, 18, 19, 20] (by decide +kernel) (by decide +kernel)) (goodIn_sub (fun _ h => List.mem_cons_of_mem _ (List.mem_append_right _ h)) (by decide +kernel))
set_option maxRecDepth 20000 in
theorem gX5_get_X2_at : GoodIn wsX5_get (wsV RX5 68 RX2 yX2_at wsX2_at) := goodIn_app (goodIn_of _ (by decide +kernel)) ggX5_get_X2_at
theorem dX5_get_0 : decode cX5_get 0 = .ok (.aload_n 0, 1) := by decide +kernel
theorem dX5_get_1 : decode cX5_get 1 = .ok (.iload_n 1, 1) := by decide +kernel
theorem dX5_get_2 : decode cX5_get 2 = .ok (.invokevirtual 37, 3) := by decide +kernel
theorem dX5_get_5 : decode cX5_get 5 = .ok (.astore_n 3, 1) := by decide +kernel
theorem dX5_get_6 : decode cX5_get 6 = .ok (.iload_n 2, 1) := by decide +kernel
theorem dX5_get_7 : decode cX5_get 7 = .ok (.aload_n 3, 1) := by decide +kernel
theorem dX5_get_8 : decode cX5_get 8 = .ok (.getfield 45, 3) := by decide +kernel
theorem dX5_get_11 : decode cX5_get 11 = .ok (.invokestatic 72, 3) := by decide +kernel
theorem dX5_get_14 : decode cX5_get 14 = .ok (.aload_n 3, 1) := by decide +kernel
theorem dX5_get_15 : decode cX5_get 15 = .ok (.iload_n 2, 1) := by decide +kernel
theorem dX5_get_16 : decode cX5_get 16 = .ok (.invokevirtual 68, 3) := by decide +kernel
theorem dX5_get_19 : decode cX5_get 19 = .ok (.ireturn, 1) := by decide +kernel
set_option maxRecDepth 20000 in
theorem ggX5_copy_X5_rowAt : GoodIn wsX5_copy wsX5_rowAt := goodIn_ca (goodIn_r _ [5, 6, 7, 8, 30, 31, 32, 33, 34] (by decide +kernel) (by decide +kernel)) (goodIn_sub (fun _ h => List.mem_cons_of_mem _ (List.mem_append_left _ (List.mem_append_right _ h))) (by decide +kernel))
set_option maxRecDepth 20000 in
theorem gX5_copy_X5_rowAt : GoodIn wsX5_copy (wsV RX5 37 RX5 yX5_rowAt wsX5_rowAt) := goodIn_app (goodIn_of _ (by decide +kernel)) ggX5_copy_X5_rowAt
set_option maxRecDepth 20000 in
theorem ggX5_copy_X2_become : GoodIn wsX5_copy wsX2_become := goodIn_ca (goodIn_r _ [13, 14, 15, 16, 17, 12, 18, 19, 20, 21, 22, 23, 24, 25, 26, 27, 28, 29] (by decide +kernel) (by decide +kernel)) (goodIn_sub (fun _ h => List.mem_cons_of_mem _ (List.mem_append_right _ h)) (by decide +kernel))
set_option maxRecDepth 20000 in
theorem gX5_copy_X2_become : GoodIn wsX5_copy (wsV RX5 90 RX2 yX2_become wsX2_become) := goodIn_app (goodIn_of _ (by decide +kernel)) ggX5_copy_X2_become
theorem dX5_copy_0 : decode cX5_copy 0 = .ok (.aload_n 0, 1) := by decide +kernel
theorem dX5_copy_1 : decode cX5_copy 1 = .ok (.iload_n 1, 1) := by decide +kernel
theorem dX5_copy_2 : decode cX5_copy 2 = .ok (.invokevirtual 37, 3) := by decide +kernel
theorem dX5_copy_5 : decode cX5_copy 5 = .ok (.astore_n 3, 1) := by decide +kernel
theorem dX5_copy_6 : decode cX5_copy 6 = .ok (.aload_n 0, 1) := by decide +kernel
theorem dX5_copy_7 : decode cX5_copy 7 = .ok (.iload_n 2, 1) := by decide +kernel
theorem dX5_copy_8 : decode cX5_copy 8 = .ok (.invokevirtual 37, 3) := by decide +kernel
theorem dX5_copy_11 : decode cX5_copy 11 = .ok (.astore 4, 2) := by decide +kernel
theorem dX5_copy_13 : decode cX5_copy 13 = .ok (.aload 4, 2) := by decide +kernel
theorem dX5_copy_15 : decode cX5_copy 15 = .ok (.aload_n 3, 1) := by decide +kernel
theorem dX5_copy_16 : decode cX5_copy 16 = .ok (.invokevirtual 90, 3) := by decide +kernel
theorem dX5_copy_19 : decode cX5_copy 19 = .ok (.aload 4, 2) := by decide +kernel
theorem dX5_copy_21 : decode cX5_copy 21 = .ok (.getfield 45, 3) := by decide +kernel
theorem dX5_copy_24 : decode cX5_copy 24 = .ok (.ireturn, 1) := by decide +kernel
set_option maxRecDepth 20000 in
theorem ggX5_isLike_X5_rowAt : GoodIn wsX5_isLike wsX5_rowAt := goodIn_ca (goodIn_r _ [5, 6, 7, 8, 24, 25, 26, 27, 28] (by decide +kernel) (by decide +kernel)) (goodIn_sub (fun _ h => List.mem_cons_of_mem _ (List.mem_append_left _ (List.mem_append_right _ h))) (by decide +kernel))
set_option maxRecDepth 20000 in
theorem gX5_isLike_X5_rowAt : GoodIn wsX5_isLike (wsV RX5 37 RX5 yX5_rowAt wsX5_rowAt) := goodIn_app (goodIn_of _ (by decide +kernel)) ggX5_isLike_X5_rowAt
set_option maxRecDepth 20000 in
theorem ggX5_isLike_X2_sameAs : GoodIn wsX5_isLike wsX2_sameAs := goodIn_ca (goodIn_r _ [13, 14, 15, 16, 17, 12, 18, 19, 20, 21, 22, 23, 29, 30] (by decide +kernel) (by decide +kernel)) (goodIn_sub (fun _ h => List.mem_cons_of_mem _ (List.mem_append_right _ h)) (by decide +kernel))
set_option maxRecDepth 20000 in
theorem gX5_isLike_X2_sameAs : GoodIn wsX5_isLike (wsV RX5 94 RX2 yX2_sameAs wsX2_sameAs) := goodIn_app (goodIn_of _ (by decide +kernel)) ggX5_isLike_X2_sameAs
theorem dX5_isLike_0 : decode cX5_isLike 0 = .ok (.aload_n 0, 1) := by decide +kernel
theorem dX5_isLike_1 : decode cX5_isLike 1 = .ok (.iload_n 1, 1) := by decide +kernel
theorem dX5_isLike_2 : decode cX5_isLike 2 = .ok (.invokevirtual 37, 3) := by decide +kernel
theorem dX5_isLike_5 : decode cX5_isLike 5 = .ok (.astore_n 3, 1) := by decide +kernel
theorem dX5_isLike_6 : decode cX5_isLike 6 = .ok (.aload_n 3, 1) := by decide +kernel
theorem dX5_isLike_7 : decode cX5_isLike 7 = .ok (.aload_n 0, 1) := by decide +kernel
theorem dX5_isLike_8 : decode cX5_isLike 8 = .ok (.iload_n 2, 1) := by decide +kernel
theorem dX5_isLike_9 : decode cX5_isLike 9 = .ok (.invokevirtual 37, 3) := by decide +kernel
theorem dX5_isLike_12 : decode cX5_isLike 12 = .ok (.invokevirtual 94, 3) := by decide +kernel
theorem dX5_isLike_15 : decode cX5_isLike 15 = .ok (.ireturn, 1) := by decide +kernel
set_option maxRecDepth 20000 in
theorem ggX5_write_X5_rowAt : GoodIn wsX5_write wsX5_rowAt := goodIn_ca (goodIn_r _ [6, 7, 8, 9, 69, 70, 71, 72, 73] (by decide +kernel) (by decide +kernel)) (goodIn_sub (fun _ h => List.mem_cons_of_mem _ (List.mem_append_left _ (List.mem_append_left _ (List.mem_append_left _ (List.mem_append_right _ h))))) (by decide +kernel))
set_option maxRecDepth 20000 in
theorem gX5_write_X5_rowAt : GoodIn wsX5_write (wsV RX5 37 RX5 yX5_rowAt wsX5_rowAt) := goodIn_app (goodIn_of _ (by decide +kernel)) ggX5_write_X5_rowAt
set_option maxRecDepth 20000 in
theorem ggX5_write_X5_kindAt : GoodIn wsX5_write wsX5_kindAt := goodIn_ca (goodIn_r _ [12, 13, 14, 15] (by decide +kernel) (by decide +kernel)) (goodIn_sub (fun _ h => List.mem_cons_of_mem _ (List.mem_append_left _ (List.mem_append_left _ (List.mem_append_right _ h)))) (by decide +kernel))
set_option maxRecDepth 20000 in
theorem gX5_write_X5_kindAt : GoodIn wsX5_write (va_wsS RX5 98 yX5_kindAt wsX5_kindAt) := goodIn_app (goodIn_of _ (by decide +kernel)) ggX5_write_X5_kindAt
set_option maxRecDepth 20000 in
theorem ggX5_write_X4_lengthOf : GoodIn wsX5_write wsX4_lengthOf := goodIn_r _ [19, 20, 21, 18, 22] (by decide +kernel) (by decide +kernel)
set_option maxRecDepth 20000 in
theorem gX5_write_X4_lengthOf : GoodIn wsX5_write (va_wsS RX5 102 yX4_lengthOf wsX4_lengthOf) := goodIn_app (goodIn_of _ (by decide +kernel)) ggX5_write_X4_lengthOf
set_option maxRecDepth 20000 in
theorem ggX5_write_X5_checkRoom : GoodIn wsX5_write wsX5_checkRoom := goodIn_ca (goodIn_r _ [25, 26, 27] (by decide +kernel) (by decide +kernel)) (goodIn_sub (fun _ h => List.mem_cons_of_mem _ (List.mem_append_left _ (List.mem_append_right _ h))) (by decide +kernel))
set_option maxRecDepth 20000 in
theorem gX5_write_X5_checkRoom : GoodIn wsX5_write (va_wsS RX5 49 yX5_checkRoom wsX5_checkRoom) := goodIn_app (goodIn_of _ (by decide +kernel)) ggX5_write_X5_checkRoom
set_option maxRecDepth 20000 in
theorem ggX5_write_X4_writeBytes : GoodIn wsX5_write wsX4_writeBytes := goodIn_ca (goodIn_r _ [30, 31, 17, 18, 19, 20, 21, 22, 32, 33, 34, 35, 36, 37, 38, 39, 40, 41, 42, 43, 44, 45, 46, 47, 48, 49, 50, 51, 52, 53, 54, 55, 56, 57, 58, 59, 67, 68] (by decide +kernel) (by decide +kernel)) (goodIn_sub (fun _ h => List.mem_cons_of_mem _ (List.mem_append_right _ h)) (by decide +kernel))
set_option maxRecDepth 20000 in
theorem gX5_write_X4_writeBytes : GoodIn wsX5_write (va_wsS RX5 108 yX4_writeBytes wsX4_writeBytes) := goodIn_app (goodIn_of _ (by decide +kernel)) ggX5_write_X4_writeBytes
set_option maxRecDepth 20000 in
theorem ggX5_write_X2_become : GoodIn wsX5_write wsX2_become := goodIn_ca (goodIn_r _ [63, 37, 64, 33, 34, 35, 36, 65, 45, 46, 47, 48, 66, 57, 58, 59, 67, 68] (by decide +kernel) (by decide +kernel)) (goodIn_sub (fun _ h => List.mem_cons_of_mem _ (List.mem_append_right _ h)) (by decide +kernel))
set_option maxRecDepth 20000 in
theorem gX5_write_X2_become : GoodIn wsX5_write (wsV RX5 90 RX2 yX2_become wsX2_become) := goodIn_app (goodIn_of _ (by decide +kernel)) ggX5_write_X2_become
theorem dX5_write_0 : decode cX5_write 0 = .ok (.aload_n 0, 1) := by decide +kernel
theorem dX5_write_1 : decode cX5_write 1 = .ok (.iload_n 1, 1) := by decide +kernel
theorem dX5_write_2 : decode cX5_write 2 = .ok (.invokevirtual 37, 3) := by decide +kernel
theorem dX5_write_5 : decode cX5_write 5 = .ok (.astore 5, 2) := by decide +kernel
theorem dX5_write_7 : decode cX5_write 7 = .ok (.aload_n 0, 1) := by decide +kernel
theorem dX5_write_8 : decode cX5_write 8 = .ok (.iload_n 2, 1) := by decide +kernel
theorem dX5_write_9 : decode cX5_write 9 = .ok (.invokevirtual 37, 3) := by decide +kernel
theorem dX5_write_12 : decode cX5_write 12 = .ok (.astore 6, 2) := by decide +kernel
theorem dX5_write_14 : decode cX5_write 14 = .ok (.iload_n 3, 1) := by decide +kernel
theorem dX5_write_15 : decode cX5_write 15 = .ok (.invokestatic 98, 3) := by decide +kernel
theorem dX5_write_18 : decode cX5_write 18 = .ok (.astore 7, 2) := by decide +kernel
theorem dX5_write_20 : decode cX5_write 20 = .ok (.aload 5, 2) := by decide +kernel
theorem dX5_write_22 : decode cX5_write 22 = .ok (.getfield 45, 3) := by decide +kernel
theorem dX5_write_25 : decode cX5_write 25 = .ok (.aload 7, 2) := by decide +kernel
theorem dX5_write_27 : decode cX5_write 27 = .ok (.iload 4, 2) := by decide +kernel
theorem dX5_write_29 : decode cX5_write 29 = .ok (.invokestatic 102, 3) := by decide +kernel
theorem dX5_write_32 : decode cX5_write 32 = .ok (.invokestatic 49, 3) := by decide +kernel
theorem dX5_write_35 : decode cX5_write 35 = .ok (.aload 5, 2) := by decide +kernel
theorem dX5_write_37 : decode cX5_write 37 = .ok (.aload 7, 2) := by decide +kernel
theorem dX5_write_39 : decode cX5_write 39 = .ok (.iload 4, 2) := by decide +kernel
theorem dX5_write_41 : decode cX5_write 41 = .ok (.aload_n 0, 1) := by decide +kernel
theorem dX5_write_42 : decode cX5_write 42 = .ok (.getfield 16, 3) := by decide +kernel
theorem dX5_write_45 : decode cX5_write 45 = .ok (.invokestatic 108, 3) := by decide +kernel
theorem dX5_write_48 : decode cX5_write 48 = .ok (.aload 6, 2) := by decide +kernel
theorem dX5_write_50 : decode cX5_write 50 = .ok (.aload_n 0, 1) := by decide +kernel
theorem dX5_write_51 : decode cX5_write 51 = .ok (.getfield 16, 3) := by decide +kernel
theorem dX5_write_54 : decode cX5_write 54 = .ok (.invokevirtual 90, 3) := by decide +kernel
theorem dX5_write_57 : decode cX5_write 57 = .ok (.aload 6, 2) := by decide +kernel
theorem dX5_write_59 : decode cX5_write 59 = .ok (.getfield 45, 3) := by decide +kernel
theorem dX5_write_62 : decode cX5_write 62 = .ok (.ireturn, 1) := by decide +kernel
set_option maxRecDepth 20000 in
theorem ggX5_writeText_X5_rowAt : GoodIn wsX5_writeText wsX5_rowAt := goodIn_ca (goodIn_r _ [6, 7, 8, 9, 234, 235, 236, 237, 238] (by decide +kernel) (by decide +kernel)) (goodIn_sub (fun _ h => List.mem_cons_of_mem _ (List.mem_append_left _ (List.mem_append_left _ (List.mem_append_left _ (List.mem_append_right _ h))))) (by decide +kernel))
set_option maxRecDepth 20000 in
theorem gX5_writeText_X5_rowAt : GoodIn wsX5_writeText (wsV RX5 37 RX5 yX5_rowAt wsX5_rowAt) := goodIn_app (goodIn_of _ (by decide +kernel)) ggX5_writeText_X5_rowAt
set_option maxRecDepth 20000 in
theorem ggX5_writeText_X5_kindAt : GoodIn wsX5_writeText wsX5_kindAt := goodIn_ca (goodIn_r _ [12, 13, 14, 15] (by decide +kernel) (by decide +kernel)) (goodIn_sub (fun _ h => List.mem_cons_of_mem _ (List.mem_append_left _ (List.mem_append_left _ (List.mem_append_right _ h)))) (by decide +kernel))
set_option maxRecDepth 20000 in
theorem gX5_writeText_X5_kindAt : GoodIn wsX5_writeText (va_wsS RX5 98 yX5_kindAt wsX5_kindAt) := goodIn_app (goodIn_of _ (by decide +kernel)) ggX5_writeText_X5_kindAt
set_option maxRecDepth 20000 in
theorem ggX5_writeText_X4_lengthOf : GoodIn wsX5_writeText wsX4_lengthOf := goodIn_r _ [19, 20, 21, 18, 22] (by decide +kernel) (by decide +kernel)
set_option maxRecDepth 20000 in
theorem gX5_writeText_X4_lengthOf : GoodIn wsX5_writeText (va_wsS RX5 102 yX4_lengthOf wsX4_lengthOf) := goodIn_app (goodIn_of _ (by decide +kernel)) ggX5_writeText_X4_lengthOf
set_option maxRecDepth 20000 in
theorem ggX5_writeText_X5_checkRoom : GoodIn wsX5_writeText wsX5_checkRoom := goodIn_ca (goodIn_r _ [25, 26, 27] (by decide +kernel) (by decide +kernel)) (goodIn_sub (fun _ h => List.mem_cons_of_mem _ (List.mem_append_left _ (List.mem_append_right _ h))) (by decide +kernel))
set_option maxRecDepth 20000 in
theorem gX5_writeText_X5_checkRoom : GoodIn wsX5_writeText (va_wsS RX5 49 yX5_checkRoom wsX5_checkRoom) := goodIn_app (goodIn_of _ (by decide +kernel)) ggX5_writeText_X5_checkRoom
set_option maxRecDepth 20000 in
theorem ggX5_writeText_X4_writeSigns : GoodIn wsX5_writeText wsX4_writeSigns := goodIn_ca (goodIn_r _ [30, 31, 17, 18, 19, 20, 21, 22, 32, 33, 34, 35, 36, 37, 38, 39, 40, 41, 42, 43, 44, 45, 46, 47, 48, 49, 50, 51, 52, 53, 54, 55, 56, 57, 58, 59, 60, 61, 62, 63, 64, 65, 66, 67, 68, 69, 70, 71, 72, 73, 74, 75, 76, 77, 78, 79, 80, 81, 82, 83, 84, 85, 86, 87, 88, 89, 90, 91, 92, 93, 94, 95, 96, 97, 98, 99, 100, 101, 102, 103, 104, 105, 106, 107, 108, 109, 110, 111, 112, 113, 114, 115, 116, 117, 118, 119, 120, 121, 122, 123, 124, 125, 126, 127, 128, 129, 130, 131, 132, 133, 134, 135, 136, 137, 138, 139, 140, 141, 142, 143, 144, 145, 146, 147, 148, 149, 150, 151, 152, 153, 154, 155, 156, 157, 158, 159, 160, 161, 162, 163, 164, 165, 166, 167, 168, 169, 170, 171, 172, 173, 174, 175, 176, 177, 178, 179, 180, 181, 182, 183, 184, 185, 186, 187, 188, 189, 190, 191, 192, 193, 194, 195, 196, 197, 198, 232, 233, 239, 240, 241, 242, 243, 244, 245, 246, 247, 248, 249, 250, 251, 252, 253, 254] (by decide +kernel) (by decide +kernel)) (goodIn_sub (fun _ h => List.mem_cons_of_mem _ (List.mem_append_right _ h)) (by decide +kernel))
set_option maxRecDepth 20000 in
theorem gX5_writeText_X4_writeSigns : GoodIn wsX5_writeText (va_wsS RX5 112 yX4_writeSigns wsX4_writeSigns) := goodIn_app (goodIn_of _ (by decide +kernel)) ggX5_writeText_X4_writeSigns
set_option maxRecDepth 20000 in
theorem ggX5_writeText_X2_becomeCodes : GoodIn wsX5_writeText wsX2_becomeCodes := goodIn_ca (goodIn_r _ [202, 203, 204, 205, 126, 206, 128, 207, 208, 209, 35, 210, 211, 212, 39, 213, 41, 214, 46, 215, 216, 217, 218, 219, 220, 221, 222, 54, 47, 223, 85, 67, 86, 224, 194, 174, 195, 176, 196, 197, 179, 198, 225, 226, 114, 227, 184, 185, 186, 169, 170, 171, 228, 229, 230, 231, 129, 232, 233, 245, 246, 247, 248] (by decide +kernel) (by decide +kernel)) (goodIn_sub (fun _ h => List.mem_cons_of_mem _ (List.mem_append_right _ h)) (by decide +kernel))
set_option maxRecDepth 20000 in
theorem gX5_writeText_X2_becomeCodes : GoodIn wsX5_writeText (wsV RX5 116 RX2 yX2_becomeCodes wsX2_becomeCodes) := goodIn_app (goodIn_of _ (by decide +kernel)) ggX5_writeText_X2_becomeCodes
theorem dX5_writeText_0 : decode cX5_writeText 0 = .ok (.aload_n 0, 1) := by decide +kernel
theorem dX5_writeText_1 : decode cX5_writeText 1 = .ok (.iload_n 1, 1) := by decide +kernel
theorem dX5_writeText_2 : decode cX5_writeText 2 = .ok (.invokevirtual 37, 3) := by decide +kernel
theorem dX5_writeText_5 : decode cX5_writeText 5 = .ok (.astore 5, 2) := by decide +kernel
theorem dX5_writeText_7 : decode cX5_writeText 7 = .ok (.aload_n 0, 1) := by decide +kernel
theorem dX5_writeText_8 : decode cX5_writeText 8 = .ok (.iload_n 2, 1) := by decide +kernel
theorem dX5_writeText_9 : decode cX5_writeText 9 = .ok (.invokevirtual 37, 3) := by decide +kernel
theorem dX5_writeText_12 : decode cX5_writeText 12 = .ok (.astore 6, 2) := by decide +kernel
theorem dX5_writeText_14 : decode cX5_writeText 14 = .ok (.iload_n 3, 1) := by decide +kernel
theorem dX5_writeText_15 : decode cX5_writeText 15 = .ok (.invokestatic 98, 3) := by decide +kernel
theorem dX5_writeText_18 : decode cX5_writeText 18 = .ok (.astore 7, 2) := by decide +kernel
theorem dX5_writeText_20 : decode cX5_writeText 20 = .ok (.aload 5, 2) := by decide +kernel
theorem dX5_writeText_22 : decode cX5_writeText 22 = .ok (.getfield 45, 3) := by decide +kernel
theorem dX5_writeText_25 : decode cX5_writeText 25 = .ok (.aload 7, 2) := by decide +kernel
theorem dX5_writeText_27 : decode cX5_writeText 27 = .ok (.iload 4, 2) := by decide +kernel
theorem dX5_writeText_29 : decode cX5_writeText 29 = .ok (.invokestatic 102, 3) := by decide +kernel
theorem dX5_writeText_32 : decode cX5_writeText 32 = .ok (.invokestatic 49, 3) := by decide +kernel
theorem dX5_writeText_35 : decode cX5_writeText 35 = .ok (.aload 5, 2) := by decide +kernel
theorem dX5_writeText_37 : decode cX5_writeText 37 = .ok (.aload 7, 2) := by decide +kernel
theorem dX5_writeText_39 : decode cX5_writeText 39 = .ok (.iload 4, 2) := by decide +kernel
theorem dX5_writeText_41 : decode cX5_writeText 41 = .ok (.aload_n 0, 1) := by decide +kernel
theorem dX5_writeText_42 : decode cX5_writeText 42 = .ok (.getfield 26, 3) := by decide +kernel
theorem dX5_writeText_45 : decode cX5_writeText 45 = .ok (.invokestatic 112, 3) := by decide +kernel
theorem dX5_writeText_48 : decode cX5_writeText 48 = .ok (.aload 6, 2) := by decide +kernel
theorem dX5_writeText_50 : decode cX5_writeText 50 = .ok (.aload_n 0, 1) := by decide +kernel
theorem dX5_writeText_51 : decode cX5_writeText 51 = .ok (.getfield 26, 3) := by decide +kernel
theorem dX5_writeText_54 : decode cX5_writeText 54 = .ok (.invokevirtual 116, 3) := by decide +kernel
theorem dX5_writeText_57 : decode cX5_writeText 57 = .ok (.aload 6, 2) := by decide +kernel
theorem dX5_writeText_59 : decode cX5_writeText 59 = .ok (.getfield 45, 3) := by decide +kernel
theorem dX5_writeText_62 : decode cX5_writeText 62 = .ok (.ireturn, 1) := by decide +kernel
set_option maxRecDepth 20000 in
theorem ggX5_read_X5_rowAt : GoodIn wsX5_read wsX5_rowAt := goodIn_ca (goodIn_r _ [6, 7, 8, 9, 111, 112, 113, 114, 115] (by decide +kernel) (by decide +kernel)) (goodIn_sub (fun _ h => List.mem_cons_of_mem _ (List.mem_append_left _ (List.mem_append_left _ (List.mem_append_left _ (List.mem_append_right _ h))))) (by decide +kernel))
set_option maxRecDepth 20000 in
theorem gX5_read_X5_rowAt : GoodIn wsX5_read (wsV RX5 37 RX5 yX5_rowAt wsX5_rowAt) := goodIn_app (goodIn_of _ (by decide +kernel)) ggX5_read_X5_rowAt
set_option maxRecDepth 20000 in
theorem ggX5_read_X5_kindAt : GoodIn wsX5_read wsX5_kindAt := goodIn_ca (goodIn_r _ [12, 13, 14, 15] (by decide +kernel) (by decide +kernel)) (goodIn_sub (fun _ h => List.mem_cons_of_mem _ (List.mem_append_left _ (List.mem_append_left _ (List.mem_append_right _ h)))) (by decide +kernel))
set_option maxRecDepth 20000 in
theorem gX5_read_X5_kindAt : GoodIn wsX5_read (va_wsS RX5 98 yX5_kindAt wsX5_kindAt) := goodIn_app (goodIn_of _ (by decide +kernel)) ggX5_read_X5_kindAt
set_option maxRecDepth 20000 in
theorem ggX5_read_X5_readOrRefuse : GoodIn wsX5_read wsX5_readOrRefuse := goodIn_ca (goodIn_ca (goodIn_ca (goodIn_r _ [19, 20, 21, 13, 14, 1, 22, 23, 24, 25, 26, 27, 28, 29, 30, 31, 32, 33, 34, 35, 36, 37, 38, 39, 40, 41, 42, 43, 44, 45, 46, 47, 48, 49, 50, 51, 52, 53, 54, 55, 56, 57, 58, 59, 60, 61, 62, 63, 64, 65, 66, 67, 68, 69, 70, 71, 72, 73, 74, 75, 76, 77, 78, 79, 80, 81, 82, 83, 84, 85, 86, 87, 88, 89, 90, 91, 92, 93, 94, 95, 96, 97, 98, 99, 100, 101, 102, 103, 104, 111, 112, 113, 114, 115, 119, 120, 116, 117, 118] (by decide +kernel) (by decide +kernel)) (goodIn_sub (fun _ h => List.mem_cons_of_mem _ (List.mem_append_left _ (List.mem_append_right _ h))) (by decide +kernel))) (goodIn_sub (fun _ h => List.mem_cons_of_mem _ (List.mem_append_left _ (List.mem_append_left _ (List.mem_append_right _ h)))) (by decide +kernel))) (goodIn_sub (fun _ h => List.mem_cons_of_mem _ (List.mem_append_right _ h)) (by decide +kernel))
set_option maxRecDepth 20000 in
theorem gX5_read_X5_readOrRefuse : GoodIn wsX5_read (wsV RX5 120 RX5 yX5_readOrRefuse wsX5_readOrRefuse) := goodIn_app (goodIn_of _ (by decide +kernel)) ggX5_read_X5_readOrRefuse
set_option maxRecDepth 20000 in
theorem ggX5_read_X2_become : GoodIn wsX5_read wsX2_become := goodIn_ca (goodIn_r _ [108, 31, 109, 83, 84, 29, 85, 32, 33, 34, 35, 36, 110, 97, 98, 99, 119, 120] (by decide +kernel) (by decide +kernel)) (goodIn_sub (fun _ h => List.mem_cons_of_mem _ (List.mem_append_right _ h)) (by decide +kernel))
set_option maxRecDepth 20000 in
theorem gX5_read_X2_become : GoodIn wsX5_read (wsV RX5 90 RX2 yX2_become wsX2_become) := goodIn_app (goodIn_of _ (by decide +kernel)) ggX5_read_X2_become
theorem dX5_read_0 : decode cX5_read 0 = .ok (.aload_n 0, 1) := by decide +kernel
theorem dX5_read_1 : decode cX5_read 1 = .ok (.iload_n 1, 1) := by decide +kernel
theorem dX5_read_2 : decode cX5_read 2 = .ok (.invokevirtual 37, 3) := by decide +kernel
theorem dX5_read_5 : decode cX5_read 5 = .ok (.astore 4, 2) := by decide +kernel
theorem dX5_read_7 : decode cX5_read 7 = .ok (.aload_n 0, 1) := by decide +kernel
theorem dX5_read_8 : decode cX5_read 8 = .ok (.iload_n 2, 1) := by decide +kernel
theorem dX5_read_9 : decode cX5_read 9 = .ok (.invokevirtual 37, 3) := by decide +kernel
theorem dX5_read_12 : decode cX5_read 12 = .ok (.astore 5, 2) := by decide +kernel
theorem dX5_read_14 : decode cX5_read 14 = .ok (.aload_n 0, 1) := by decide +kernel
theorem dX5_read_15 : decode cX5_read 15 = .ok (.aload 4, 2) := by decide +kernel
theorem dX5_read_17 : decode cX5_read 17 = .ok (.iload_n 3, 1) := by decide +kernel
theorem dX5_read_18 : decode cX5_read 18 = .ok (.invokestatic 98, 3) := by decide +kernel
theorem dX5_read_21 : decode cX5_read 21 = .ok (.invokevirtual 120, 3) := by decide +kernel
theorem dX5_read_24 : decode cX5_read 24 = .ok (.aload 5, 2) := by decide +kernel
theorem dX5_read_26 : decode cX5_read 26 = .ok (.aload_n 0, 1) := by decide +kernel
theorem dX5_read_27 : decode cX5_read 27 = .ok (.getfield 33, 3) := by decide +kernel
theorem dX5_read_30 : decode cX5_read 30 = .ok (.getfield 124, 3) := by decide +kernel
theorem dX5_read_33 : decode cX5_read 33 = .ok (.invokevirtual 90, 3) := by decide +kernel
theorem dX5_read_36 : decode cX5_read 36 = .ok (.aload 5, 2) := by decide +kernel
theorem dX5_read_38 : decode cX5_read 38 = .ok (.getfield 45, 3) := by decide +kernel
theorem dX5_read_41 : decode cX5_read 41 = .ok (.ireturn, 1) := by decide +kernel
set_option maxRecDepth 20000 in
theorem ggX5_look_X5_rowAt : GoodIn wsX5_look wsX5_rowAt := goodIn_ca (goodIn_r _ [5, 6, 7, 8, 67, 68, 69, 70, 71] (by decide +kernel) (by decide +kernel)) (goodIn_sub (fun _ h => List.mem_cons_of_mem _ (List.mem_append_left _ (List.mem_append_left _ (List.mem_append_right _ h)))) (by decide +kernel))
set_option maxRecDepth 20000 in
theorem gX5_look_X5_rowAt : GoodIn wsX5_look (wsV RX5 37 RX5 yX5_rowAt wsX5_rowAt) := goodIn_app (goodIn_of _ (by decide +kernel)) ggX5_look_X5_rowAt
set_option maxRecDepth 20000 in
theorem ggX5_look_X5_kindAt : GoodIn wsX5_look wsX5_kindAt := goodIn_ca (goodIn_r _ [11, 12, 13, 14] (by decide +kernel) (by decide +kernel)) (goodIn_sub (fun _ h => List.mem_cons_of_mem _ (List.mem_append_left _ (List.mem_append_right _ h))) (by decide +kernel))
set_option maxRecDepth 20000 in
theorem gX5_look_X5_kindAt : GoodIn wsX5_look (va_wsS RX5 98 yX5_kindAt wsX5_kindAt) := goodIn_app (goodIn_of _ (by decide +kernel)) ggX5_look_X5_kindAt
set_option maxRecDepth 20000 in
theorem ggX5_look_X3_tell : GoodIn wsX5_look wsX3_tell := goodIn_ca (goodIn_r _ [18, 19, 20, 21, 22, 23, 24, 25, 26, 27, 28, 29, 30, 31, 32, 33, 34, 35, 36, 37, 38, 39, 40, 41, 42, 43, 44, 45, 46, 47, 48, 49, 50, 17, 51, 52, 53, 54, 55, 56, 57, 58, 59, 60, 61, 62, 63, 64, 65, 66, 72, 73] (by decide +kernel) (by decide +kernel)) (goodIn_sub (fun _ h => List.mem_cons_of_mem _ (List.mem_append_right _ h)) (by decide +kernel))
set_option maxRecDepth 20000 in
theorem gX5_look_X3_tell : GoodIn wsX5_look (va_wsS RX5 127 yX3_tell wsX3_tell) := goodIn_app (goodIn_of _ (by decide +kernel)) ggX5_look_X3_tell
theorem dX5_look_0 : decode cX5_look 0 = .ok (.aload_n 0, 1) := by decide +kernel
theorem dX5_look_1 : decode cX5_look 1 = .ok (.iload_n 1, 1) := by decide +kernel
theorem dX5_look_2 : decode cX5_look 2 = .ok (.invokevirtual 37, 3) := by decide +kernel
theorem dX5_look_5 : decode cX5_look 5 = .ok (.astore_n 3, 1) := by decide +kernel
theorem dX5_look_6 : decode cX5_look 6 = .ok (.aload_n 3, 1) := by decide +kernel
theorem dX5_look_7 : decode cX5_look 7 = .ok (.iload_n 2, 1) := by decide +kernel
theorem dX5_look_8 : decode cX5_look 8 = .ok (.invokestatic 98, 3) := by decide +kernel
theorem dX5_look_11 : decode cX5_look 11 = .ok (.invokestatic 127, 3) := by decide +kernel
theorem dX5_look_14 : decode cX5_look 14 = .ok (.ireturn, 1) := by decide +kernel
set_option maxRecDepth 20000 in
theorem ggX5_letters_X5_rowAt : GoodIn wsX5_letters wsX5_rowAt := goodIn_ca (goodIn_r _ [5, 6, 7, 8, 39, 40, 41, 42, 43] (by decide +kernel) (by decide +kernel)) (goodIn_sub (fun _ h => List.mem_cons_of_mem _ (List.mem_append_left _ (List.mem_append_left _ (List.mem_append_right _ h)))) (by decide +kernel))
set_option maxRecDepth 20000 in
theorem gX5_letters_X5_rowAt : GoodIn wsX5_letters (wsV RX5 37 RX5 yX5_rowAt wsX5_rowAt) := goodIn_app (goodIn_of _ (by decide +kernel)) ggX5_letters_X5_rowAt
set_option maxRecDepth 20000 in
theorem ggX5_letters_X5_kindAt : GoodIn wsX5_letters wsX5_kindAt := goodIn_ca (goodIn_r _ [11, 12, 13, 14] (by decide +kernel) (by decide +kernel)) (goodIn_sub (fun _ h => List.mem_cons_of_mem _ (List.mem_append_left _ (List.mem_append_right _ h))) (by decide +kernel))
set_option maxRecDepth 20000 in
theorem gX5_letters_X5_kindAt : GoodIn wsX5_letters (va_wsS RX5 98 yX5_kindAt wsX5_kindAt) := goodIn_app (goodIn_of _ (by decide +kernel)) ggX5_letters_X5_kindAt
set_option maxRecDepth 20000 in
theorem ggX5_letters_X2_countLetters : GoodIn wsX5_letters wsX2_countLetters := goodIn_ca (goodIn_r _ [19, 20, 21, 22, 18, 23, 24, 25, 26, 27, 28, 29, 30, 31, 32, 33, 34, 35, 36, 37, 38] (by decide +kernel) (by decide +kernel)) (goodIn_sub (fun _ h => List.mem_cons_of_mem _ (List.mem_append_right _ h)) (by decide +kernel))
set_option maxRecDepth 20000 in
theorem gX5_letters_X2_countLetters : GoodIn wsX5_letters (wsV RX5 133 RX2 yX2_countLetters wsX2_countLetters) := goodIn_app (goodIn_of _ (by decide +kernel)) ggX5_letters_X2_countLetters
theorem dX5_letters_0 : decode cX5_letters 0 = .ok (.aload_n 0, 1) := by decide +kernel
theorem dX5_letters_1 : decode cX5_letters 1 = .ok (.iload_n 1, 1) := by decide +kernel
theorem dX5_letters_2 : decode cX5_letters 2 = .ok (.invokevirtual 37, 3) := by decide +kernel
theorem dX5_letters_5 : decode cX5_letters 5 = .ok (.astore_n 3, 1) := by decide +kernel
theorem dX5_letters_6 : decode cX5_letters 6 = .ok (.aload_n 3, 1) := by decide +kernel
theorem dX5_letters_7 : decode cX5_letters 7 = .ok (.iload_n 2, 1) := by decide +kernel
theorem dX5_letters_8 : decode cX5_letters 8 = .ok (.invokestatic 98, 3) := by decide +kernel
theorem dX5_letters_11 : decode cX5_letters 11 = .ok (.aload_n 3, 1) := by decide +kernel
theorem dX5_letters_12 : decode cX5_letters 12 = .ok (.getfield 45, 3) := by decide +kernel
theorem dX5_letters_15 : decode cX5_letters 15 = .ok (.invokevirtual 133, 3) := by decide +kernel
theorem dX5_letters_18 : decode cX5_letters 18 = .ok (.ireturn, 1) := by decide +kernel
set_option maxRecDepth 20000 in
theorem ggX5_isWritten_X5_rowAt : GoodIn wsX5_isWritten wsX5_rowAt := goodIn_ca (goodIn_r _ [8, 9, 10, 11, 132, 133, 134, 135, 136] (by decide +kernel) (by decide +kernel)) (goodIn_sub (fun _ h => List.mem_cons_of_mem _ (List.mem_append_left _ (List.mem_append_left _ (List.mem_append_right _ h)))) (by decide +kernel))
set_option maxRecDepth 20000 in
theorem gX5_isWritten_X5_rowAt : GoodIn wsX5_isWritten (wsV RX5 37 RX5 yX5_rowAt wsX5_rowAt) := goodIn_app (goodIn_of _ (by decide +kernel)) ggX5_isWritten_X5_rowAt
set_option maxRecDepth 20000 in
theorem ggX5_isWritten_X5_kindAt : GoodIn wsX5_isWritten wsX5_kindAt := goodIn_ca (goodIn_r _ [14, 15, 16, 17] (by decide +kernel) (by decide +kernel)) (goodIn_sub (fun _ h => List.mem_cons_of_mem _ (List.mem_append_left _ (List.mem_append_right _ h))) (by decide +kernel))
set_option maxRecDepth 20000 in
theorem gX5_isWritten_X5_kindAt : GoodIn wsX5_isWritten (va_wsS RX5 98 yX5_kindAt wsX5_kindAt) := goodIn_app (goodIn_of _ (by decide +kernel)) ggX5_isWritten_X5_kindAt
set_option maxRecDepth 20000 in
theorem ggX5_isWritten_X3_tell : GoodIn wsX5_isWritten wsX3_tell := goodIn_ca (goodIn_r _ [21, 22, 23, 24, 25, 26, 27, 28, 29, 30, 31, 32, 33, 34, 35, 36, 37, 38, 39, 40, 41, 42, 43, 44, 45, 46, 47, 48, 49, 50, 51, 52, 53, 20, 54, 55, 56, 57, 58, 59, 60, 61, 62, 63, 64, 65, 66, 67, 68, 69, 140, 141] (by decide +kernel) (by decide +kernel)) (goodIn_sub (fun _ h => List.mem_cons_of_mem _ (List.mem_append_right _ h)) (by decide +kernel))
set_option maxRecDepth 20000 in
theorem gX5_isWritten_X3_tell : GoodIn wsX5_isWritten (va_wsS RX5 127 yX3_tell wsX3_tell) := goodIn_app (goodIn_of _ (by decide +kernel)) ggX5_isWritten_X3_tell
set_option maxRecDepth 20000 in
theorem ggX5_isWritten_X1_accepts : GoodIn wsX5_isWritten wsX1_accepts := goodIn_ca (goodIn_r _ [74, 75, 76, 77, 78, 79, 80, 25, 81, 27, 82, 29, 30, 31, 32, 83, 43, 44, 40, 45, 46, 47, 84, 85, 86, 73, 87, 88, 89, 90, 91, 92, 93, 94, 95, 96, 97, 98, 99, 100, 38, 39, 41, 42, 137, 138, 139, 140, 141] (by decide +kernel) (by decide +kernel)) (goodIn_sub (fun _ h => List.mem_cons_of_mem _ (List.mem_append_right _ h)) (by decide +kernel))
set_option maxRecDepth 20000 in
theorem gX5_isWritten_X1_accepts : GoodIn wsX5_isWritten (wsV RX5 137 RX1 yX1_accepts wsX1_accepts) := goodIn_app (goodIn_of _ (by decide +kernel)) ggX5_isWritten_X1_accepts
set_option maxRecDepth 20000 in
theorem ggX5_isWritten_X4_writeBytes : GoodIn wsX5_isWritten wsX4_writeBytes := goodIn_ca (goodIn_r _ [104, 105, 106, 103, 107, 108, 109, 110, 111, 79, 80, 25, 81, 27, 112, 113, 114, 115, 116, 117, 118, 29, 30, 31, 32, 119, 120, 121, 40, 122, 46, 47, 123, 93, 94, 95, 140, 141] (by decide +kernel) (by decide +kernel)) (goodIn_sub (fun _ h => List.mem_cons_of_mem _ (List.mem_append_right _ h)) (by decide +kernel))
set_option maxRecDepth 20000 in
theorem gX5_isWritten_X4_writeBytes : GoodIn wsX5_isWritten (va_wsS RX5 108 yX4_writeBytes wsX4_writeBytes) := goodIn_app (goodIn_of _ (by decide +kernel)) ggX5_isWritten_X4_writeBytes
set_option maxRecDepth 20000 in
theorem ggX5_isWritten_X2_sameAs : GoodIn wsX5_isWritten wsX2_sameAs := goodIn_ca (goodIn_r _ [127, 27, 128, 129, 130, 25, 131, 28, 29, 30, 31, 32, 140, 141] (by decide +kernel) (by decide +kernel)) (goodIn_sub (fun _ h => List.mem_cons_of_mem _ (List.mem_append_right _ h)) (by decide +kernel))
set_option maxRecDepth 20000 in
theorem gX5_isWritten_X2_sameAs : GoodIn wsX5_isWritten (wsV RX5 94 RX2 yX2_sameAs wsX2_sameAs) := goodIn_app (goodIn_of _ (by decide +kernel)) ggX5_isWritten_X2_sameAs
theorem dX5_isWritten_0 : decode cX5_isWritten 0 = .ok (.aload_n 0, 1) := by decide +kernel
theorem dX5_isWritten_1 : decode cX5_isWritten 1 = .ok (.iload_n 1, 1) := by decide +kernel
theorem dX5_isWritten_2 : decode cX5_isWritten 2 = .ok (.invokevirtual 37, 3) := by decide +kernel
theorem dX5_isWritten_5 : decode cX5_isWritten 5 = .ok (.astore_n 3, 1) := by decide +kernel
theorem dX5_isWritten_6 : decode cX5_isWritten 6 = .ok (.iload_n 2, 1) := by decide +kernel
theorem dX5_isWritten_7 : decode cX5_isWritten 7 = .ok (.invokestatic 98, 3) := by decide +kernel
theorem dX5_isWritten_10 : decode cX5_isWritten 10 = .ok (.astore 4, 2) := by decide +kernel
theorem dX5_isWritten_12 : decode cX5_isWritten 12 = .ok (.aload_n 3, 1) := by decide +kernel
theorem dX5_isWritten_13 : decode cX5_isWritten 13 = .ok (.aload 4, 2) := by decide +kernel
theorem dX5_isWritten_15 : decode cX5_isWritten 15 = .ok (.invokestatic 127, 3) := by decide +kernel
theorem dX5_isWritten_18 : decode cX5_isWritten 18 = .ok (.ifCond .lt 16, 3) := by decide +kernel
theorem dX5_isWritten_21 : decode cX5_isWritten 21 = .ok (.aload_n 0, 1) := by decide +kernel
theorem dX5_isWritten_22 : decode cX5_isWritten 22 = .ok (.getfield 33, 3) := by decide +kernel
theorem dX5_isWritten_25 : decode cX5_isWritten 25 = .ok (.aload_n 3, 1) := by decide +kernel
theorem dX5_isWritten_26 : decode cX5_isWritten 26 = .ok (.aload 4, 2) := by decide +kernel
theorem dX5_isWritten_28 : decode cX5_isWritten 28 = .ok (.invokevirtual 137, 3) := by decide +kernel
theorem dX5_isWritten_31 : decode cX5_isWritten 31 = .ok (.ifCond .ne 5, 3) := by decide +kernel
theorem dX5_isWritten_34 : decode cX5_isWritten 34 = .ok (.iconst 0, 1) := by decide +kernel
theorem dX5_isWritten_35 : decode cX5_isWritten 35 = .ok (.ireturn, 1) := by decide +kernel
theorem dX5_isWritten_36 : decode cX5_isWritten 36 = .ok (.aload_n 0, 1) := by decide +kernel
theorem dX5_isWritten_37 : decode cX5_isWritten 37 = .ok (.getfield 33, 3) := by decide +kernel
theorem dX5_isWritten_40 : decode cX5_isWritten 40 = .ok (.getfield 124, 3) := by decide +kernel
theorem dX5_isWritten_43 : decode cX5_isWritten 43 = .ok (.aload 4, 2) := by decide +kernel
theorem dX5_isWritten_45 : decode cX5_isWritten 45 = .ok (.iconst 1, 1) := by decide +kernel
theorem dX5_isWritten_46 : decode cX5_isWritten 46 = .ok (.aload_n 0, 1) := by decide +kernel
theorem dX5_isWritten_47 : decode cX5_isWritten 47 = .ok (.getfield 16, 3) := by decide +kernel
theorem dX5_isWritten_50 : decode cX5_isWritten 50 = .ok (.invokestatic 108, 3) := by decide +kernel
theorem dX5_isWritten_53 : decode cX5_isWritten 53 = .ok (.aload_n 0, 1) := by decide +kernel
theorem dX5_isWritten_54 : decode cX5_isWritten 54 = .ok (.getfield 33, 3) := by decide +kernel
theorem dX5_isWritten_57 : decode cX5_isWritten 57 = .ok (.getfield 124, 3) := by decide +kernel
theorem dX5_isWritten_60 : decode cX5_isWritten 60 = .ok (.aload 4, 2) := by decide +kernel
theorem dX5_isWritten_62 : decode cX5_isWritten 62 = .ok (.iconst 0, 1) := by decide +kernel
