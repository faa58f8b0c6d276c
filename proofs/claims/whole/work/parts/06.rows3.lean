theorem dX6_lettersOf_0 : decode cX6_lettersOf 0 = .ok (.iconst 0, 1) := by decide +kernel
theorem dX6_lettersOf_1 : decode cX6_lettersOf 1 = .ok (.istore_n 3, 1) := by decide +kernel
theorem dX6_lettersOf_2 : decode cX6_lettersOf 2 = .ok (.iconst 0, 1) := by decide +kernel
theorem dX6_lettersOf_3 : decode cX6_lettersOf 3 = .ok (.istore 4, 2) := by decide +kernel
theorem dX6_lettersOf_5 : decode cX6_lettersOf 5 = .ok (.iload 4, 2) := by decide +kernel
theorem dX6_lettersOf_7 : decode cX6_lettersOf 7 = .ok (.aload_n 0, 1) := by decide +kernel
theorem dX6_lettersOf_8 : decode cX6_lettersOf 8 = .ok (.getfield 13, 3) := by decide +kernel
theorem dX6_lettersOf_11 : decode cX6_lettersOf 11 = .ok (.iload_n 1, 1) := by decide +kernel
theorem dX6_lettersOf_12 : decode cX6_lettersOf 12 = .ok (.iaload, 1) := by decide +kernel
theorem dX6_lettersOf_13 : decode cX6_lettersOf 13 = .ok (.if_icmp .ge 32, 3) := by decide +kernel
theorem dX6_lettersOf_16 : decode cX6_lettersOf 16 = .ok (.iload_n 3, 1) := by decide +kernel
theorem dX6_lettersOf_17 : decode cX6_lettersOf 17 = .ok (.aload_n 0, 1) := by decide +kernel
theorem dX6_lettersOf_18 : decode cX6_lettersOf 18 = .ok (.aload_n 0, 1) := by decide +kernel
theorem dX6_lettersOf_19 : decode cX6_lettersOf 19 = .ok (.iload_n 1, 1) := by decide +kernel
theorem dX6_lettersOf_20 : decode cX6_lettersOf 20 = .ok (.iload 4, 2) := by decide +kernel
theorem dX6_lettersOf_22 : decode cX6_lettersOf 22 = .ok (.invokevirtual 33, 3) := by decide +kernel
theorem dX6_lettersOf_25 : decode cX6_lettersOf 25 = .ok (.iload_n 2, 1) := by decide +kernel
theorem dX6_lettersOf_26 : decode cX6_lettersOf 26 = .ok (.invokevirtual 40, 3) := by decide +kernel
theorem dX6_lettersOf_29 : decode cX6_lettersOf 29 = .ok (.ifCond .lt 7, 3) := by decide +kernel
theorem dX6_lettersOf_32 : decode cX6_lettersOf 32 = .ok (.iconst 1, 1) := by decide +kernel
theorem dX6_lettersOf_33 : decode cX6_lettersOf 33 = .ok (.goto 4, 3) := by decide +kernel
theorem dX6_lettersOf_36 : decode cX6_lettersOf 36 = .ok (.iconst 0, 1) := by decide +kernel
theorem dX6_lettersOf_37 : decode cX6_lettersOf 37 = .ok (.iadd, 1) := by decide +kernel
theorem dX6_lettersOf_38 : decode cX6_lettersOf 38 = .ok (.istore_n 3, 1) := by decide +kernel
theorem dX6_lettersOf_39 : decode cX6_lettersOf 39 = .ok (.iinc 4 1, 3) := by decide +kernel
theorem dX6_lettersOf_42 : decode cX6_lettersOf 42 = .ok (.goto (-37), 3) := by decide +kernel
theorem dX6_lettersOf_45 : decode cX6_lettersOf 45 = .ok (.iload_n 3, 1) := by decide +kernel
theorem dX6_lettersOf_46 : decode cX6_lettersOf 46 = .ok (.ireturn, 1) := by decide +kernel
set_option maxRecDepth 20000 in
theorem ggX6_letters_X6_isRow : GoodIn wsX6_letters wsX6_isRow := goodIn_r _ [5] (by decide +kernel) (by decide +kernel)
set_option maxRecDepth 20000 in
theorem gX6_letters_X6_isRow : GoodIn wsX6_letters (wsV RX6 43 RX6 yX6_isRow wsX6_isRow) := goodIn_app (goodIn_of _ (by decide +kernel)) ggX6_letters_X6_isRow
set_option maxRecDepth 20000 in
theorem ggX6_letters_X6_isKind : GoodIn wsX6_letters wsX6_isKind := goodIn_r _ [9] (by decide +kernel) (by decide +kernel)
set_option maxRecDepth 20000 in
theorem gX6_letters_X6_isKind : GoodIn wsX6_letters (wsV RX6 64 RX6 yX6_isKind wsX6_isKind) := goodIn_app (goodIn_of _ (by decide +kernel)) ggX6_letters_X6_isKind
set_option maxRecDepth 20000 in
theorem ggX6_letters_X6_isWrong : GoodIn wsX6_letters wsX6_isWrong := goodIn_r _ [13, 14, 33, 34, 35, 36, 37, 38] (by decide +kernel) (by decide +kernel)
set_option maxRecDepth 20000 in
theorem gX6_letters_X6_isWrong : GoodIn wsX6_letters (wsV RX6 50 RX6 yX6_isWrong wsX6_isWrong) := goodIn_app (goodIn_of _ (by decide +kernel)) ggX6_letters_X6_isWrong
set_option maxRecDepth 20000 in
theorem ggX6_letters_X6_lettersOf : GoodIn wsX6_letters wsX6_lettersOf := goodIn_ca (goodIn_r _ [18, 19, 20, 21, 22, 4, 23, 24, 25, 26, 27, 28, 29, 30, 31, 32, 33, 34, 35, 36, 37, 38] (by decide +kernel) (by decide +kernel)) (goodIn_sub (fun _ h => List.mem_cons_of_mem _ (List.mem_append_right _ h)) (by decide +kernel))
set_option maxRecDepth 20000 in
theorem gX6_letters_X6_lettersOf : GoodIn wsX6_letters (wsV RX6 82 RX6 yX6_lettersOf wsX6_lettersOf) := goodIn_app (goodIn_of _ (by decide +kernel)) ggX6_letters_X6_lettersOf
theorem dX6_letters_0 : decode cX6_letters 0 = .ok (.aload_n 0, 1) := by decide +kernel
theorem dX6_letters_1 : decode cX6_letters 1 = .ok (.aload_n 0, 1) := by decide +kernel
theorem dX6_letters_2 : decode cX6_letters 2 = .ok (.iload_n 1, 1) := by decide +kernel
theorem dX6_letters_3 : decode cX6_letters 3 = .ok (.invokevirtual 43, 3) := by decide +kernel
theorem dX6_letters_6 : decode cX6_letters 6 = .ok (.ifCond .ne 7, 3) := by decide +kernel
theorem dX6_letters_9 : decode cX6_letters 9 = .ok (.iconst 1, 1) := by decide +kernel
theorem dX6_letters_10 : decode cX6_letters 10 = .ok (.goto 16, 3) := by decide +kernel
theorem dX6_letters_13 : decode cX6_letters 13 = .ok (.aload_n 0, 1) := by decide +kernel
theorem dX6_letters_14 : decode cX6_letters 14 = .ok (.iload_n 2, 1) := by decide +kernel
theorem dX6_letters_15 : decode cX6_letters 15 = .ok (.invokevirtual 64, 3) := by decide +kernel
theorem dX6_letters_18 : decode cX6_letters 18 = .ok (.ifCond .ne 7, 3) := by decide +kernel
theorem dX6_letters_21 : decode cX6_letters 21 = .ok (.iconst 2, 1) := by decide +kernel
theorem dX6_letters_22 : decode cX6_letters 22 = .ok (.goto 4, 3) := by decide +kernel
theorem dX6_letters_25 : decode cX6_letters 25 = .ok (.iconst 0, 1) := by decide +kernel
theorem dX6_letters_26 : decode cX6_letters 26 = .ok (.invokevirtual 50, 3) := by decide +kernel
theorem dX6_letters_29 : decode cX6_letters 29 = .ok (.ifCond .eq 7, 3) := by decide +kernel
theorem dX6_letters_32 : decode cX6_letters 32 = .ok (.iconst 0, 1) := by decide +kernel
theorem dX6_letters_33 : decode cX6_letters 33 = .ok (.goto 9, 3) := by decide +kernel
theorem dX6_letters_36 : decode cX6_letters 36 = .ok (.aload_n 0, 1) := by decide +kernel
theorem dX6_letters_37 : decode cX6_letters 37 = .ok (.iload_n 1, 1) := by decide +kernel
theorem dX6_letters_38 : decode cX6_letters 38 = .ok (.iload_n 2, 1) := by decide +kernel
theorem dX6_letters_39 : decode cX6_letters 39 = .ok (.invokevirtual 82, 3) := by decide +kernel
theorem dX6_letters_42 : decode cX6_letters 42 = .ok (.ireturn, 1) := by decide +kernel
set_option maxRecDepth 20000 in
theorem ggX6_isMade_X6_at : GoodIn wsX6_isMade wsX6_at := goodIn_ca (goodIn_r _ [8, 9, 10, 11, 12, 13, 14, 15] (by decide +kernel) (by decide +kernel)) (goodIn_sub (fun _ h => List.mem_cons_of_mem _ (List.mem_append_right _ h)) (by decide +kernel))
set_option maxRecDepth 20000 in
theorem gX6_isMade_X6_at : GoodIn wsX6_isMade (wsV RX6 33 RX6 yX6_at wsX6_at) := goodIn_app (goodIn_of _ (by decide +kernel)) ggX6_isMade_X6_at
theorem dX6_isMade_0 : decode cX6_isMade 0 = .ok (.aload_n 0, 1) := by decide +kernel
theorem dX6_isMade_1 : decode cX6_isMade 1 = .ok (.getfield 26, 3) := by decide +kernel
theorem dX6_isMade_4 : decode cX6_isMade 4 = .ok (.aload_n 0, 1) := by decide +kernel
theorem dX6_isMade_5 : decode cX6_isMade 5 = .ok (.getfield 13, 3) := by decide +kernel
theorem dX6_isMade_8 : decode cX6_isMade 8 = .ok (.iload_n 1, 1) := by decide +kernel
theorem dX6_isMade_9 : decode cX6_isMade 9 = .ok (.iaload, 1) := by decide +kernel
theorem dX6_isMade_10 : decode cX6_isMade 10 = .ok (.if_icmp .ne 7, 3) := by decide +kernel
theorem dX6_isMade_13 : decode cX6_isMade 13 = .ok (.iconst 1, 1) := by decide +kernel
theorem dX6_isMade_14 : decode cX6_isMade 14 = .ok (.goto 4, 3) := by decide +kernel
theorem dX6_isMade_17 : decode cX6_isMade 17 = .ok (.iconst 0, 1) := by decide +kernel
theorem dX6_isMade_18 : decode cX6_isMade 18 = .ok (.istore_n 2, 1) := by decide +kernel
theorem dX6_isMade_19 : decode cX6_isMade 19 = .ok (.iconst 0, 1) := by decide +kernel
theorem dX6_isMade_20 : decode cX6_isMade 20 = .ok (.istore_n 3, 1) := by decide +kernel
theorem dX6_isMade_21 : decode cX6_isMade 21 = .ok (.iload_n 2, 1) := by decide +kernel
theorem dX6_isMade_22 : decode cX6_isMade 22 = .ok (.ifCond .eq 38, 3) := by decide +kernel
theorem dX6_isMade_25 : decode cX6_isMade 25 = .ok (.iload_n 3, 1) := by decide +kernel
theorem dX6_isMade_26 : decode cX6_isMade 26 = .ok (.aload_n 0, 1) := by decide +kernel
theorem dX6_isMade_27 : decode cX6_isMade 27 = .ok (.getfield 26, 3) := by decide +kernel
theorem dX6_isMade_30 : decode cX6_isMade 30 = .ok (.if_icmp .ge 30, 3) := by decide +kernel
theorem dX6_isMade_33 : decode cX6_isMade 33 = .ok (.aload_n 0, 1) := by decide +kernel
theorem dX6_isMade_34 : decode cX6_isMade 34 = .ok (.getfield 16, 3) := by decide +kernel
theorem dX6_isMade_37 : decode cX6_isMade 37 = .ok (.iload_n 3, 1) := by decide +kernel
theorem dX6_isMade_38 : decode cX6_isMade 38 = .ok (.iaload, 1) := by decide +kernel
theorem dX6_isMade_39 : decode cX6_isMade 39 = .ok (.aload_n 0, 1) := by decide +kernel
theorem dX6_isMade_40 : decode cX6_isMade 40 = .ok (.iload_n 1, 1) := by decide +kernel
theorem dX6_isMade_41 : decode cX6_isMade 41 = .ok (.iload_n 3, 1) := by decide +kernel
theorem dX6_isMade_42 : decode cX6_isMade 42 = .ok (.invokevirtual 33, 3) := by decide +kernel
theorem dX6_isMade_45 : decode cX6_isMade 45 = .ok (.if_icmp .ne 7, 3) := by decide +kernel
theorem dX6_isMade_48 : decode cX6_isMade 48 = .ok (.iconst 1, 1) := by decide +kernel
theorem dX6_isMade_49 : decode cX6_isMade 49 = .ok (.goto 4, 3) := by decide +kernel
theorem dX6_isMade_52 : decode cX6_isMade 52 = .ok (.iconst 0, 1) := by decide +kernel
theorem dX6_isMade_53 : decode cX6_isMade 53 = .ok (.istore_n 2, 1) := by decide +kernel
theorem dX6_isMade_54 : decode cX6_isMade 54 = .ok (.iinc 3 1, 3) := by decide +kernel
theorem dX6_isMade_57 : decode cX6_isMade 57 = .ok (.goto (-36), 3) := by decide +kernel
theorem dX6_isMade_60 : decode cX6_isMade 60 = .ok (.iload_n 2, 1) := by decide +kernel
theorem dX6_isMade_61 : decode cX6_isMade 61 = .ok (.ireturn, 1) := by decide +kernel
set_option maxRecDepth 20000 in
theorem ggX6_again_X6_at : GoodIn wsX6_again wsX6_at := goodIn_ca (goodIn_r _ [8, 3, 35, 36, 37, 38, 39, 40] (by decide +kernel) (by decide +kernel)) (goodIn_sub (fun _ h => List.mem_cons_of_mem _ (List.mem_append_right _ h)) (by decide +kernel))
set_option maxRecDepth 20000 in
theorem gX6_again_X6_at : GoodIn wsX6_again (wsV RX6 33 RX6 yX6_at wsX6_at) := goodIn_app (goodIn_of _ (by decide +kernel)) ggX6_again_X6_at
set_option maxRecDepth 20000 in
theorem ggX6_again_X6_reads : GoodIn wsX6_again wsX6_reads := goodIn_ca (goodIn_r _ [12, 13, 1, 4, 5, 6, 7, 8, 3, 14, 15, 16, 17, 18, 19, 20, 21, 22, 23, 24, 25, 26, 35, 36, 37, 38, 39, 40] (by decide +kernel) (by decide +kernel)) (goodIn_sub (fun _ h => List.mem_cons_of_mem _ (List.mem_append_right _ h)) (by decide +kernel))
set_option maxRecDepth 20000 in
theorem gX6_again_X6_reads : GoodIn wsX6_again (wsV RX6 78 RX6 yX6_reads wsX6_reads) := goodIn_app (goodIn_of _ (by decide +kernel)) ggX6_again_X6_reads
set_option maxRecDepth 20000 in
theorem ggX6_again_X6_becomes : GoodIn wsX6_again wsX6_becomes := goodIn_ca (goodIn_r _ [30, 13, 3, 26, 1, 35, 36, 37, 38, 39, 40] (by decide +kernel) (by decide +kernel)) (goodIn_sub (fun _ h => List.mem_cons_of_mem _ (List.mem_append_right _ h)) (by decide +kernel))
set_option maxRecDepth 20000 in
theorem gX6_again_X6_becomes : GoodIn wsX6_again (wsV RX6 60 RX6 yX6_becomes wsX6_becomes) := goodIn_app (goodIn_of _ (by decide +kernel)) ggX6_again_X6_becomes
set_option maxRecDepth 20000 in
theorem ggX6_again_X6_writes : GoodIn wsX6_again wsX6_writes := goodIn_ca (goodIn_r _ [34, 13, 1, 4, 5, 6, 7, 8, 3, 22, 23, 24, 25, 26, 18, 19, 20, 21, 35, 36, 37, 38, 39, 40] (by decide +kernel) (by decide +kernel)) (goodIn_sub (fun _ h => List.mem_cons_of_mem _ (List.mem_append_right _ h)) (by decide +kernel))
set_option maxRecDepth 20000 in
theorem gX6_again_X6_writes : GoodIn wsX6_again (wsV RX6 67 RX6 yX6_writes wsX6_writes) := goodIn_app (goodIn_of _ (by decide +kernel)) ggX6_again_X6_writes
theorem dX6_again_0 : decode cX6_again 0 = .ok (.aload_n 0, 1) := by decide +kernel
theorem dX6_again_1 : decode cX6_again 1 = .ok (.getfield 13, 3) := by decide +kernel
theorem dX6_again_4 : decode cX6_again 4 = .ok (.iload_n 1, 1) := by decide +kernel
theorem dX6_again_5 : decode cX6_again 5 = .ok (.iaload, 1) := by decide +kernel
theorem dX6_again_6 : decode cX6_again 6 = .ok (.istore 5, 2) := by decide +kernel
theorem dX6_again_8 : decode cX6_again 8 = .ok (.iconst 0, 1) := by decide +kernel
theorem dX6_again_9 : decode cX6_again 9 = .ok (.istore 6, 2) := by decide +kernel
theorem dX6_again_11 : decode cX6_again 11 = .ok (.iload 6, 2) := by decide +kernel
theorem dX6_again_13 : decode cX6_again 13 = .ok (.iload 5, 2) := by decide +kernel
theorem dX6_again_15 : decode cX6_again 15 = .ok (.if_icmp .ge 23, 3) := by decide +kernel
theorem dX6_again_18 : decode cX6_again 18 = .ok (.aload_n 0, 1) := by decide +kernel
theorem dX6_again_19 : decode cX6_again 19 = .ok (.getfield 19, 3) := by decide +kernel
theorem dX6_again_22 : decode cX6_again 22 = .ok (.iload 6, 2) := by decide +kernel
theorem dX6_again_24 : decode cX6_again 24 = .ok (.aload_n 0, 1) := by decide +kernel
theorem dX6_again_25 : decode cX6_again 25 = .ok (.iload_n 1, 1) := by decide +kernel
theorem dX6_again_26 : decode cX6_again 26 = .ok (.iload 6, 2) := by decide +kernel
theorem dX6_again_28 : decode cX6_again 28 = .ok (.invokevirtual 33, 3) := by decide +kernel
theorem dX6_again_31 : decode cX6_again 31 = .ok (.iastore, 1) := by decide +kernel
theorem dX6_again_32 : decode cX6_again 32 = .ok (.iinc 6 1, 3) := by decide +kernel
theorem dX6_again_35 : decode cX6_again 35 = .ok (.goto (-24), 3) := by decide +kernel
theorem dX6_again_38 : decode cX6_again 38 = .ok (.aload_n 0, 1) := by decide +kernel
theorem dX6_again_39 : decode cX6_again 39 = .ok (.iload_n 1, 1) := by decide +kernel
theorem dX6_again_40 : decode cX6_again 40 = .ok (.iload_n 2, 1) := by decide +kernel
theorem dX6_again_41 : decode cX6_again 41 = .ok (.iload_n 3, 1) := by decide +kernel
theorem dX6_again_42 : decode cX6_again 42 = .ok (.invokevirtual 78, 3) := by decide +kernel
theorem dX6_again_45 : decode cX6_again 45 = .ok (.aload_n 0, 1) := by decide +kernel
theorem dX6_again_46 : decode cX6_again 46 = .ok (.iload_n 1, 1) := by decide +kernel
theorem dX6_again_47 : decode cX6_again 47 = .ok (.invokevirtual 60, 3) := by decide +kernel
theorem dX6_again_50 : decode cX6_again 50 = .ok (.pop, 1) := by decide +kernel
theorem dX6_again_51 : decode cX6_again 51 = .ok (.aload_n 0, 1) := by decide +kernel
theorem dX6_again_52 : decode cX6_again 52 = .ok (.iload_n 1, 1) := by decide +kernel
theorem dX6_again_53 : decode cX6_again 53 = .ok (.iload_n 2, 1) := by decide +kernel
theorem dX6_again_54 : decode cX6_again 54 = .ok (.iload 4, 2) := by decide +kernel
theorem dX6_again_56 : decode cX6_again 56 = .ok (.invokevirtual 67, 3) := by decide +kernel
theorem dX6_again_59 : decode cX6_again 59 = .ok (.iconst 0, 1) := by decide +kernel
theorem dX6_again_60 : decode cX6_again 60 = .ok (.istore 6, 2) := by decide +kernel
theorem dX6_again_62 : decode cX6_again 62 = .ok (.iload 6, 2) := by decide +kernel
theorem dX6_again_64 : decode cX6_again 64 = .ok (.iload 5, 2) := by decide +kernel
theorem dX6_again_66 : decode cX6_again 66 = .ok (.if_icmp .ge 29, 3) := by decide +kernel
theorem dX6_again_69 : decode cX6_again 69 = .ok (.aload_n 0, 1) := by decide +kernel
theorem dX6_again_70 : decode cX6_again 70 = .ok (.getfield 7, 3) := by decide +kernel
theorem dX6_again_73 : decode cX6_again 73 = .ok (.sipush 320, 3) := by decide +kernel
theorem dX6_again_76 : decode cX6_again 76 = .ok (.iload_n 1, 1) := by decide +kernel
theorem dX6_again_77 : decode cX6_again 77 = .ok (.imul, 1) := by decide +kernel
theorem dX6_again_78 : decode cX6_again 78 = .ok (.iload 6, 2) := by decide +kernel
theorem dX6_again_80 : decode cX6_again 80 = .ok (.iadd, 1) := by decide +kernel
theorem dX6_again_81 : decode cX6_again 81 = .ok (.aload_n 0, 1) := by decide +kernel
theorem dX6_again_82 : decode cX6_again 82 = .ok (.getfield 19, 3) := by decide +kernel
theorem dX6_again_85 : decode cX6_again 85 = .ok (.iload 6, 2) := by decide +kernel
theorem dX6_again_87 : decode cX6_again 87 = .ok (.iaload, 1) := by decide +kernel
theorem dX6_again_88 : decode cX6_again 88 = .ok (.iastore, 1) := by decide +kernel
theorem dX6_again_89 : decode cX6_again 89 = .ok (.iinc 6 1, 3) := by decide +kernel
theorem dX6_again_92 : decode cX6_again 92 = .ok (.goto (-30), 3) := by decide +kernel
theorem dX6_again_95 : decode cX6_again 95 = .ok (.aload_n 0, 1) := by decide +kernel
theorem dX6_again_96 : decode cX6_again 96 = .ok (.getfield 13, 3) := by decide +kernel
theorem dX6_again_99 : decode cX6_again 99 = .ok (.iload_n 1, 1) := by decide +kernel
theorem dX6_again_100 : decode cX6_again 100 = .ok (.iload 5, 2) := by decide +kernel
theorem dX6_again_102 : decode cX6_again 102 = .ok (.iastore, 1) := by decide +kernel
theorem dX6_again_103 : decode cX6_again 103 = .ok (.return_, 1) := by decide +kernel
set_option maxRecDepth 20000 in
theorem ggX6_isWritten_X6_isRow : GoodIn wsX6_isWritten wsX6_isRow := goodIn_r _ [5] (by decide +kernel) (by decide +kernel)
set_option maxRecDepth 20000 in
theorem gX6_isWritten_X6_isRow : GoodIn wsX6_isWritten (wsV RX6 43 RX6 yX6_isRow wsX6_isRow) := goodIn_app (goodIn_of _ (by decide +kernel)) ggX6_isWritten_X6_isRow
set_option maxRecDepth 20000 in
theorem ggX6_isWritten_X6_isKind : GoodIn wsX6_isWritten wsX6_isKind := goodIn_r _ [9] (by decide +kernel) (by decide +kernel)
set_option maxRecDepth 20000 in
theorem gX6_isWritten_X6_isKind : GoodIn wsX6_isWritten (wsV RX6 64 RX6 yX6_isKind wsX6_isKind) := goodIn_app (goodIn_of _ (by decide +kernel)) ggX6_isWritten_X6_isKind
set_option maxRecDepth 20000 in
theorem ggX6_isWritten_X6_isWrong : GoodIn wsX6_isWritten wsX6_isWrong := goodIn_r _ [13, 14, 60, 61, 62, 63, 64, 65] (by decide +kernel) (by decide +kernel)
set_option maxRecDepth 20000 in
theorem gX6_isWritten_X6_isWrong : GoodIn wsX6_isWritten (wsV RX6 50 RX6 yX6_isWrong wsX6_isWrong) := goodIn_app (goodIn_of _ (by decide +kernel)) ggX6_isWritten_X6_isWrong
set_option maxRecDepth 20000 in
theorem ggX6_isWritten_X6_looks : GoodIn wsX6_isWritten wsX6_looks := goodIn_ca (goodIn_r _ [18, 19, 20, 21, 22, 4, 23, 24, 25, 26, 27, 28, 29, 30, 31, 32, 60, 61, 62, 63, 64, 65] (by decide +kernel) (by decide +kernel)) (goodIn_sub (fun _ h => List.mem_cons_of_mem _ (List.mem_append_right _ h)) (by decide +kernel))
set_option maxRecDepth 20000 in
theorem gX6_isWritten_X6_looks : GoodIn wsX6_isWritten (wsV RX6 75 RX6 yX6_looks wsX6_looks) := goodIn_app (goodIn_of _ (by decide +kernel)) ggX6_isWritten_X6_looks
set_option maxRecDepth 20000 in
theorem ggX6_isWritten_X6_again : GoodIn wsX6_isWritten wsX6_again := goodIn_ca (goodIn_r _ [36, 19, 37, 24, 20, 21, 22, 4, 23, 38, 39, 40, 41, 42, 25, 26, 27, 28, 29, 30, 31, 32, 43, 44, 45, 46, 47, 48, 49, 50, 51, 52, 53, 54, 55, 60, 61, 62, 63, 64, 65] (by decide +kernel) (by decide +kernel)) (goodIn_sub (fun _ h => List.mem_cons_of_mem _ (List.mem_append_right _ h)) (by decide +kernel))
set_option maxRecDepth 20000 in
theorem gX6_isWritten_X6_again : GoodIn wsX6_isWritten (wsV RX6 85 RX6 yX6_again wsX6_again) := goodIn_app (goodIn_of _ (by decide +kernel)) ggX6_isWritten_X6_again
set_option maxRecDepth 20000 in
theorem ggX6_isWritten_X6_isMade : GoodIn wsX6_isWritten wsX6_isMade := goodIn_ca (goodIn_r _ [59, 42, 19, 47, 20, 21, 22, 4, 23, 24, 60, 61, 62, 63, 64, 65] (by decide +kernel) (by decide +kernel)) (goodIn_sub (fun _ h => List.mem_cons_of_mem _ (List.mem_append_right _ h)) (by decide +kernel))
set_option maxRecDepth 20000 in
theorem gX6_isWritten_X6_isMade : GoodIn wsX6_isWritten (wsV RX6 89 RX6 yX6_isMade wsX6_isMade) := goodIn_app (goodIn_of _ (by decide +kernel)) ggX6_isWritten_X6_isMade
theorem dX6_isWritten_0 : decode cX6_isWritten 0 = .ok (.aload_n 0, 1) := by decide +kernel
theorem dX6_isWritten_1 : decode cX6_isWritten 1 = .ok (.aload_n 0, 1) := by decide +kernel
theorem dX6_isWritten_2 : decode cX6_isWritten 2 = .ok (.iload_n 1, 1) := by decide +kernel
theorem dX6_isWritten_3 : decode cX6_isWritten 3 = .ok (.invokevirtual 43, 3) := by decide +kernel
theorem dX6_isWritten_6 : decode cX6_isWritten 6 = .ok (.ifCond .ne 7, 3) := by decide +kernel
theorem dX6_isWritten_9 : decode cX6_isWritten 9 = .ok (.iconst 1, 1) := by decide +kernel
theorem dX6_isWritten_10 : decode cX6_isWritten 10 = .ok (.goto 16, 3) := by decide +kernel
theorem dX6_isWritten_13 : decode cX6_isWritten 13 = .ok (.aload_n 0, 1) := by decide +kernel
theorem dX6_isWritten_14 : decode cX6_isWritten 14 = .ok (.iload_n 2, 1) := by decide +kernel
theorem dX6_isWritten_15 : decode cX6_isWritten 15 = .ok (.invokevirtual 64, 3) := by decide +kernel
theorem dX6_isWritten_18 : decode cX6_isWritten 18 = .ok (.ifCond .ne 7, 3) := by decide +kernel
theorem dX6_isWritten_21 : decode cX6_isWritten 21 = .ok (.iconst 2, 1) := by decide +kernel
theorem dX6_isWritten_22 : decode cX6_isWritten 22 = .ok (.goto 4, 3) := by decide +kernel
theorem dX6_isWritten_25 : decode cX6_isWritten 25 = .ok (.iconst 0, 1) := by decide +kernel
theorem dX6_isWritten_26 : decode cX6_isWritten 26 = .ok (.invokevirtual 50, 3) := by decide +kernel
theorem dX6_isWritten_29 : decode cX6_isWritten 29 = .ok (.ifCond .eq 5, 3) := by decide +kernel
theorem dX6_isWritten_32 : decode cX6_isWritten 32 = .ok (.iconst 0, 1) := by decide +kernel
theorem dX6_isWritten_33 : decode cX6_isWritten 33 = .ok (.ireturn, 1) := by decide +kernel
theorem dX6_isWritten_34 : decode cX6_isWritten 34 = .ok (.aload_n 0, 1) := by decide +kernel
theorem dX6_isWritten_35 : decode cX6_isWritten 35 = .ok (.iload_n 1, 1) := by decide +kernel
theorem dX6_isWritten_36 : decode cX6_isWritten 36 = .ok (.iload_n 2, 1) := by decide +kernel
theorem dX6_isWritten_37 : decode cX6_isWritten 37 = .ok (.invokevirtual 75, 3) := by decide +kernel
theorem dX6_isWritten_40 : decode cX6_isWritten 40 = .ok (.istore_n 3, 1) := by decide +kernel
theorem dX6_isWritten_41 : decode cX6_isWritten 41 = .ok (.iload_n 3, 1) := by decide +kernel
theorem dX6_isWritten_42 : decode cX6_isWritten 42 = .ok (.ifCond .ge 5, 3) := by decide +kernel
theorem dX6_isWritten_45 : decode cX6_isWritten 45 = .ok (.iconst 0, 1) := by decide +kernel
theorem dX6_isWritten_46 : decode cX6_isWritten 46 = .ok (.ireturn, 1) := by decide +kernel
theorem dX6_isWritten_47 : decode cX6_isWritten 47 = .ok (.aload_n 0, 1) := by decide +kernel
theorem dX6_isWritten_48 : decode cX6_isWritten 48 = .ok (.iload_n 1, 1) := by decide +kernel
theorem dX6_isWritten_49 : decode cX6_isWritten 49 = .ok (.iload_n 2, 1) := by decide +kernel
theorem dX6_isWritten_50 : decode cX6_isWritten 50 = .ok (.iload_n 3, 1) := by decide +kernel
theorem dX6_isWritten_51 : decode cX6_isWritten 51 = .ok (.iconst 1, 1) := by decide +kernel
theorem dX6_isWritten_52 : decode cX6_isWritten 52 = .ok (.invokevirtual 85, 3) := by decide +kernel
theorem dX6_isWritten_55 : decode cX6_isWritten 55 = .ok (.aload_n 0, 1) := by decide +kernel
theorem dX6_isWritten_56 : decode cX6_isWritten 56 = .ok (.iload_n 1, 1) := by decide +kernel
theorem dX6_isWritten_57 : decode cX6_isWritten 57 = .ok (.invokevirtual 89, 3) := by decide +kernel
theorem dX6_isWritten_60 : decode cX6_isWritten 60 = .ok (.istore 4, 2) := by decide +kernel
theorem dX6_isWritten_62 : decode cX6_isWritten 62 = .ok (.aload_n 0, 1) := by decide +kernel
theorem dX6_isWritten_63 : decode cX6_isWritten 63 = .ok (.iload_n 1, 1) := by decide +kernel
theorem dX6_isWritten_64 : decode cX6_isWritten 64 = .ok (.iload_n 2, 1) := by decide +kernel
theorem dX6_isWritten_65 : decode cX6_isWritten 65 = .ok (.iload_n 3, 1) := by decide +kernel
theorem dX6_isWritten_66 : decode cX6_isWritten 66 = .ok (.iconst 0, 1) := by decide +kernel
theorem dX6_isWritten_67 : decode cX6_isWritten 67 = .ok (.invokevirtual 85, 3) := by decide +kernel
theorem dX6_isWritten_70 : decode cX6_isWritten 70 = .ok (.iload 4, 2) := by decide +kernel
theorem dX6_isWritten_72 : decode cX6_isWritten 72 = .ok (.ifCond .ne 11, 3) := by decide +kernel
theorem dX6_isWritten_75 : decode cX6_isWritten 75 = .ok (.aload_n 0, 1) := by decide +kernel
theorem dX6_isWritten_76 : decode cX6_isWritten 76 = .ok (.iload_n 1, 1) := by decide +kernel
theorem dX6_isWritten_77 : decode cX6_isWritten 77 = .ok (.invokevirtual 89, 3) := by decide +kernel
theorem dX6_isWritten_80 : decode cX6_isWritten 80 = .ok (.ifCond .eq 7, 3) := by decide +kernel
theorem dX6_isWritten_83 : decode cX6_isWritten 83 = .ok (.iconst 1, 1) := by decide +kernel
theorem dX6_isWritten_84 : decode cX6_isWritten 84 = .ok (.goto 4, 3) := by decide +kernel
theorem dX6_isWritten_87 : decode cX6_isWritten 87 = .ok (.iconst 0, 1) := by decide +kernel
theorem dX6_isWritten_88 : decode cX6_isWritten 88 = .ok (.ireturn, 1) := by decide +kernel
set_option maxRecDepth 20000 in
theorem ggX6_plain_X6_isRow : GoodIn wsX6_plain wsX6_isRow := goodIn_r _ [6] (by decide +kernel) (by decide +kernel)
set_option maxRecDepth 20000 in
theorem gX6_plain_X6_isRow : GoodIn wsX6_plain (wsV RX6 43 RX6 yX6_isRow wsX6_isRow) := goodIn_app (goodIn_of _ (by decide +kernel)) ggX6_plain_X6_isRow
set_option maxRecDepth 20000 in
theorem ggX6_plain_X6_isKind : GoodIn wsX6_plain wsX6_isKind := goodIn_r _ [10] (by decide +kernel) (by decide +kernel)
set_option maxRecDepth 20000 in
theorem gX6_plain_X6_isKind : GoodIn wsX6_plain (wsV RX6 64 RX6 yX6_isKind wsX6_isKind) := goodIn_app (goodIn_of _ (by decide +kernel)) ggX6_plain_X6_isKind
set_option maxRecDepth 20000 in
theorem ggX6_plain_X6_isWrong : GoodIn wsX6_plain wsX6_isWrong := goodIn_r _ [14, 15, 56, 57, 58, 59, 60, 61] (by decide +kernel) (by decide +kernel)
set_option maxRecDepth 20000 in
theorem gX6_plain_X6_isWrong : GoodIn wsX6_plain (wsV RX6 50 RX6 yX6_isWrong wsX6_isWrong) := goodIn_app (goodIn_of _ (by decide +kernel)) ggX6_plain_X6_isWrong
set_option maxRecDepth 20000 in
theorem ggX6_plain_X6_looks : GoodIn wsX6_plain wsX6_looks := goodIn_ca (goodIn_r _ [19, 20, 21, 22, 23, 5, 24, 25, 26, 27, 28, 29, 30, 31, 32, 33, 56, 57, 58, 59, 60, 61] (by decide +kernel) (by decide +kernel)) (goodIn_sub (fun _ h => List.mem_cons_of_mem _ (List.mem_append_right _ h)) (by decide +kernel))
set_option maxRecDepth 20000 in
theorem gX6_plain_X6_looks : GoodIn wsX6_plain (wsV RX6 75 RX6 yX6_looks wsX6_looks) := goodIn_app (goodIn_of _ (by decide +kernel)) ggX6_plain_X6_looks
set_option maxRecDepth 20000 in
theorem ggX6_plain_X6_again : GoodIn wsX6_plain wsX6_again := goodIn_ca (goodIn_r _ [37, 20, 38, 25, 21, 22, 23, 5, 24, 39, 40, 41, 42, 1, 26, 27, 28, 29, 30, 31, 32, 33, 43, 44, 45, 46, 47, 48, 49, 50, 51, 52, 53, 54, 55, 56, 57, 58, 59, 60, 61] (by decide +kernel) (by decide +kernel)) (goodIn_sub (fun _ h => List.mem_cons_of_mem _ (List.mem_append_right _ h)) (by decide +kernel))
set_option maxRecDepth 20000 in
theorem gX6_plain_X6_again : GoodIn wsX6_plain (wsV RX6 85 RX6 yX6_again wsX6_again) := goodIn_app (goodIn_of _ (by decide +kernel)) ggX6_plain_X6_again
set_option maxRecDepth 20000 in
theorem ggX6_plain_X6_becomes : GoodIn wsX6_plain wsX6_becomes := goodIn_ca (goodIn_r _ [51, 1, 25, 47, 20, 56, 57, 58, 59, 60, 61] (by decide +kernel) (by decide +kernel)) (goodIn_sub (fun _ h => List.mem_cons_of_mem _ (List.mem_append_right _ h)) (by decide +kernel))
set_option maxRecDepth 20000 in
theorem gX6_plain_X6_becomes : GoodIn wsX6_plain (wsV RX6 60 RX6 yX6_becomes wsX6_becomes) := goodIn_app (goodIn_of _ (by decide +kernel)) ggX6_plain_X6_becomes
theorem dX6_plain_0 : decode cX6_plain 0 = .ok (.aload_n 0, 1) := by decide +kernel
theorem dX6_plain_1 : decode cX6_plain 1 = .ok (.aload_n 0, 1) := by decide +kernel
theorem dX6_plain_2 : decode cX6_plain 2 = .ok (.iload_n 1, 1) := by decide +kernel
theorem dX6_plain_3 : decode cX6_plain 3 = .ok (.invokevirtual 43, 3) := by decide +kernel
theorem dX6_plain_6 : decode cX6_plain 6 = .ok (.ifCond .ne 7, 3) := by decide +kernel
theorem dX6_plain_9 : decode cX6_plain 9 = .ok (.iconst 1, 1) := by decide +kernel
theorem dX6_plain_10 : decode cX6_plain 10 = .ok (.goto 16, 3) := by decide +kernel
theorem dX6_plain_13 : decode cX6_plain 13 = .ok (.aload_n 0, 1) := by decide +kernel
theorem dX6_plain_14 : decode cX6_plain 14 = .ok (.iload_n 2, 1) := by decide +kernel
theorem dX6_plain_15 : decode cX6_plain 15 = .ok (.invokevirtual 64, 3) := by decide +kernel
theorem dX6_plain_18 : decode cX6_plain 18 = .ok (.ifCond .ne 7, 3) := by decide +kernel
theorem dX6_plain_21 : decode cX6_plain 21 = .ok (.iconst 2, 1) := by decide +kernel
theorem dX6_plain_22 : decode cX6_plain 22 = .ok (.goto 4, 3) := by decide +kernel
theorem dX6_plain_25 : decode cX6_plain 25 = .ok (.iconst 0, 1) := by decide +kernel
theorem dX6_plain_26 : decode cX6_plain 26 = .ok (.invokevirtual 50, 3) := by decide +kernel
theorem dX6_plain_29 : decode cX6_plain 29 = .ok (.ifCond .eq 5, 3) := by decide +kernel
theorem dX6_plain_32 : decode cX6_plain 32 = .ok (.iconst 0, 1) := by decide +kernel
theorem dX6_plain_33 : decode cX6_plain 33 = .ok (.ireturn, 1) := by decide +kernel
theorem dX6_plain_34 : decode cX6_plain 34 = .ok (.aload_n 0, 1) := by decide +kernel
theorem dX6_plain_35 : decode cX6_plain 35 = .ok (.iload_n 1, 1) := by decide +kernel
theorem dX6_plain_36 : decode cX6_plain 36 = .ok (.iload_n 2, 1) := by decide +kernel
theorem dX6_plain_37 : decode cX6_plain 37 = .ok (.invokevirtual 75, 3) := by decide +kernel
theorem dX6_plain_40 : decode cX6_plain 40 = .ok (.istore_n 3, 1) := by decide +kernel
theorem dX6_plain_41 : decode cX6_plain 41 = .ok (.aload_n 0, 1) := by decide +kernel
theorem dX6_plain_42 : decode cX6_plain 42 = .ok (.iload_n 3, 1) := by decide +kernel
theorem dX6_plain_43 : decode cX6_plain 43 = .ok (.iconst (-1), 1) := by decide +kernel
theorem dX6_plain_44 : decode cX6_plain 44 = .ok (.if_icmp .ne 7, 3) := by decide +kernel
theorem dX6_plain_47 : decode cX6_plain 47 = .ok (.iconst 2, 1) := by decide +kernel
theorem dX6_plain_48 : decode cX6_plain 48 = .ok (.goto 14, 3) := by decide +kernel
theorem dX6_plain_51 : decode cX6_plain 51 = .ok (.iload_n 3, 1) := by decide +kernel
theorem dX6_plain_52 : decode cX6_plain 52 = .ok (.bipush (-2), 2) := by decide +kernel
theorem dX6_plain_54 : decode cX6_plain 54 = .ok (.if_icmp .ne 7, 3) := by decide +kernel
theorem dX6_plain_57 : decode cX6_plain 57 = .ok (.iconst 3, 1) := by decide +kernel
theorem dX6_plain_58 : decode cX6_plain 58 = .ok (.goto 4, 3) := by decide +kernel
theorem dX6_plain_61 : decode cX6_plain 61 = .ok (.iconst 0, 1) := by decide +kernel
theorem dX6_plain_62 : decode cX6_plain 62 = .ok (.invokevirtual 50, 3) := by decide +kernel
theorem dX6_plain_65 : decode cX6_plain 65 = .ok (.ifCond .eq 5, 3) := by decide +kernel
theorem dX6_plain_68 : decode cX6_plain 68 = .ok (.iconst 0, 1) := by decide +kernel
theorem dX6_plain_69 : decode cX6_plain 69 = .ok (.ireturn, 1) := by decide +kernel
theorem dX6_plain_70 : decode cX6_plain 70 = .ok (.aload_n 0, 1) := by decide +kernel
theorem dX6_plain_71 : decode cX6_plain 71 = .ok (.iload_n 1, 1) := by decide +kernel
theorem dX6_plain_72 : decode cX6_plain 72 = .ok (.iload_n 2, 1) := by decide +kernel
theorem dX6_plain_73 : decode cX6_plain 73 = .ok (.iload_n 3, 1) := by decide +kernel
theorem dX6_plain_74 : decode cX6_plain 74 = .ok (.iconst 1, 1) := by decide +kernel
theorem dX6_plain_75 : decode cX6_plain 75 = .ok (.invokevirtual 85, 3) := by decide +kernel
theorem dX6_plain_78 : decode cX6_plain 78 = .ok (.aload_n 0, 1) := by decide +kernel
theorem dX6_plain_79 : decode cX6_plain 79 = .ok (.aload_n 0, 1) := by decide +kernel
theorem dX6_plain_80 : decode cX6_plain 80 = .ok (.getfield 26, 3) := by decide +kernel
theorem dX6_plain_83 : decode cX6_plain 83 = .ok (.sipush 320, 3) := by decide +kernel
theorem dX6_plain_86 : decode cX6_plain 86 = .ok (.if_icmp .le 7, 3) := by decide +kernel
theorem dX6_plain_89 : decode cX6_plain 89 = .ok (.iconst 4, 1) := by decide +kernel
theorem dX6_plain_90 : decode cX6_plain 90 = .ok (.goto 4, 3) := by decide +kernel
theorem dX6_plain_93 : decode cX6_plain 93 = .ok (.iconst 0, 1) := by decide +kernel
theorem dX6_plain_94 : decode cX6_plain 94 = .ok (.invokevirtual 50, 3) := by decide +kernel
theorem dX6_plain_97 : decode cX6_plain 97 = .ok (.ifCond .eq 7, 3) := by decide +kernel
theorem dX6_plain_100 : decode cX6_plain 100 = .ok (.iconst 0, 1) := by decide +kernel
theorem dX6_plain_101 : decode cX6_plain 101 = .ok (.goto 8, 3) := by decide +kernel
theorem dX6_plain_104 : decode cX6_plain 104 = .ok (.aload_n 0, 1) := by decide +kernel
theorem dX6_plain_105 : decode cX6_plain 105 = .ok (.iload_n 1, 1) := by decide +kernel
theorem dX6_plain_106 : decode cX6_plain 106 = .ok (.invokevirtual 60, 3) := by decide +kernel
theorem dX6_plain_109 : decode cX6_plain 109 = .ok (.ireturn, 1) := by decide +kernel
set_option maxRecDepth 20000 in
theorem ggX6_letterShare_X6_isRow : GoodIn wsX6_letterShare wsX6_isRow := goodIn_r _ [6] (by decide +kernel) (by decide +kernel)
set_option maxRecDepth 20000 in
theorem gX6_letterShare_X6_isRow : GoodIn wsX6_letterShare (wsV RX6 43 RX6 yX6_isRow wsX6_isRow) := goodIn_app (goodIn_of _ (by decide +kernel)) ggX6_letterShare_X6_isRow
set_option maxRecDepth 20000 in
theorem ggX6_letterShare_X6_isKind : GoodIn wsX6_letterShare wsX6_isKind := goodIn_r _ [10] (by decide +kernel) (by decide +kernel)
set_option maxRecDepth 20000 in
theorem gX6_letterShare_X6_isKind : GoodIn wsX6_letterShare (wsV RX6 64 RX6 yX6_isKind wsX6_isKind) := goodIn_app (goodIn_of _ (by decide +kernel)) ggX6_letterShare_X6_isKind
set_option maxRecDepth 20000 in
theorem ggX6_letterShare_X6_isWrong : GoodIn wsX6_letterShare wsX6_isWrong := goodIn_r _ [14, 15, 33, 34, 35, 36, 37, 38] (by decide +kernel) (by decide +kernel)
set_option maxRecDepth 20000 in
theorem gX6_letterShare_X6_isWrong : GoodIn wsX6_letterShare (wsV RX6 50 RX6 yX6_isWrong wsX6_isWrong) := goodIn_app (goodIn_of _ (by decide +kernel)) ggX6_letterShare_X6_isWrong
set_option maxRecDepth 20000 in
theorem ggX6_letterShare_X6_lettersOf : GoodIn wsX6_letterShare wsX6_lettersOf := goodIn_ca (goodIn_r _ [19, 1, 20, 21, 22, 5, 23, 24, 25, 26, 27, 28, 29, 30, 31, 32, 33, 34, 35, 36, 37, 38] (by decide +kernel) (by decide +kernel)) (goodIn_sub (fun _ h => List.mem_cons_of_mem _ (List.mem_append_right _ h)) (by decide +kernel))
set_option maxRecDepth 20000 in
theorem gX6_letterShare_X6_lettersOf : GoodIn wsX6_letterShare (wsV RX6 82 RX6 yX6_lettersOf wsX6_lettersOf) := goodIn_app (goodIn_of _ (by decide +kernel)) ggX6_letterShare_X6_lettersOf
theorem dX6_letterShare_0 : decode cX6_letterShare 0 = .ok (.aload_n 0, 1) := by decide +kernel
theorem dX6_letterShare_1 : decode cX6_letterShare 1 = .ok (.aload_n 0, 1) := by decide +kernel
theorem dX6_letterShare_2 : decode cX6_letterShare 2 = .ok (.iload_n 1, 1) := by decide +kernel
theorem dX6_letterShare_3 : decode cX6_letterShare 3 = .ok (.invokevirtual 43, 3) := by decide +kernel
theorem dX6_letterShare_6 : decode cX6_letterShare 6 = .ok (.ifCond .ne 7, 3) := by decide +kernel
theorem dX6_letterShare_9 : decode cX6_letterShare 9 = .ok (.iconst 1, 1) := by decide +kernel
theorem dX6_letterShare_10 : decode cX6_letterShare 10 = .ok (.goto 29, 3) := by decide +kernel
theorem dX6_letterShare_13 : decode cX6_letterShare 13 = .ok (.aload_n 0, 1) := by decide +kernel
theorem dX6_letterShare_14 : decode cX6_letterShare 14 = .ok (.iload_n 2, 1) := by decide +kernel
theorem dX6_letterShare_15 : decode cX6_letterShare 15 = .ok (.invokevirtual 64, 3) := by decide +kernel
theorem dX6_letterShare_18 : decode cX6_letterShare 18 = .ok (.ifCond .ne 7, 3) := by decide +kernel
theorem dX6_letterShare_21 : decode cX6_letterShare 21 = .ok (.iconst 2, 1) := by decide +kernel
theorem dX6_letterShare_22 : decode cX6_letterShare 22 = .ok (.goto 17, 3) := by decide +kernel
theorem dX6_letterShare_25 : decode cX6_letterShare 25 = .ok (.aload_n 0, 1) := by decide +kernel
theorem dX6_letterShare_26 : decode cX6_letterShare 26 = .ok (.getfield 13, 3) := by decide +kernel
theorem dX6_letterShare_29 : decode cX6_letterShare 29 = .ok (.iload_n 1, 1) := by decide +kernel
theorem dX6_letterShare_30 : decode cX6_letterShare 30 = .ok (.iaload, 1) := by decide +kernel
theorem dX6_letterShare_31 : decode cX6_letterShare 31 = .ok (.ifCond .ne 7, 3) := by decide +kernel
theorem dX6_letterShare_34 : decode cX6_letterShare 34 = .ok (.iconst 3, 1) := by decide +kernel
theorem dX6_letterShare_35 : decode cX6_letterShare 35 = .ok (.goto 4, 3) := by decide +kernel
theorem dX6_letterShare_38 : decode cX6_letterShare 38 = .ok (.iconst 0, 1) := by decide +kernel
theorem dX6_letterShare_39 : decode cX6_letterShare 39 = .ok (.invokevirtual 50, 3) := by decide +kernel
theorem dX6_letterShare_42 : decode cX6_letterShare 42 = .ok (.ifCond .eq 5, 3) := by decide +kernel
theorem dX6_letterShare_45 : decode cX6_letterShare 45 = .ok (.fconst 0, 1) := by decide +kernel
theorem dX6_letterShare_46 : decode cX6_letterShare 46 = .ok (.freturn, 1) := by decide +kernel
theorem dX6_letterShare_47 : decode cX6_letterShare 47 = .ok (.aload_n 0, 1) := by decide +kernel
theorem dX6_letterShare_48 : decode cX6_letterShare 48 = .ok (.iload_n 1, 1) := by decide +kernel
theorem dX6_letterShare_49 : decode cX6_letterShare 49 = .ok (.iload_n 2, 1) := by decide +kernel
theorem dX6_letterShare_50 : decode cX6_letterShare 50 = .ok (.invokevirtual 82, 3) := by decide +kernel
theorem dX6_letterShare_53 : decode cX6_letterShare 53 = .ok (.i2f, 1) := by decide +kernel
theorem dX6_letterShare_54 : decode cX6_letterShare 54 = .ok (.aload_n 0, 1) := by decide +kernel
theorem dX6_letterShare_55 : decode cX6_letterShare 55 = .ok (.getfield 13, 3) := by decide +kernel
theorem dX6_letterShare_58 : decode cX6_letterShare 58 = .ok (.iload_n 1, 1) := by decide +kernel
theorem dX6_letterShare_59 : decode cX6_letterShare 59 = .ok (.iaload, 1) := by decide +kernel
theorem dX6_letterShare_60 : decode cX6_letterShare 60 = .ok (.i2f, 1) := by decide +kernel
theorem dX6_letterShare_61 : decode cX6_letterShare 61 = .ok (.fdiv, 1) := by decide +kernel
theorem dX6_letterShare_62 : decode cX6_letterShare 62 = .ok (.freturn, 1) := by decide +kernel
set_option maxRecDepth 20000 in
theorem ggX6_growth_X6_isRow : GoodIn wsX6_growth wsX6_isRow := goodIn_r _ [7] (by decide +kernel) (by decide +kernel)
set_option maxRecDepth 20000 in
theorem gX6_growth_X6_isRow : GoodIn wsX6_growth (wsV RX6 43 RX6 yX6_isRow wsX6_isRow) := goodIn_app (goodIn_of _ (by decide +kernel)) ggX6_growth_X6_isRow
set_option maxRecDepth 20000 in
theorem ggX6_growth_X6_isKind : GoodIn wsX6_growth wsX6_isKind := goodIn_r _ [11] (by decide +kernel) (by decide +kernel)
set_option maxRecDepth 20000 in
theorem gX6_growth_X6_isKind : GoodIn wsX6_growth (wsV RX6 64 RX6 yX6_isKind wsX6_isKind) := goodIn_app (goodIn_of _ (by decide +kernel)) ggX6_growth_X6_isKind
set_option maxRecDepth 20000 in
theorem ggX6_growth_X6_isWrong : GoodIn wsX6_growth wsX6_isWrong := goodIn_r _ [15, 16, 35, 36, 37, 38, 39, 40] (by decide +kernel) (by decide +kernel)
set_option maxRecDepth 20000 in
theorem gX6_growth_X6_isWrong : GoodIn wsX6_growth (wsV RX6 50 RX6 yX6_isWrong wsX6_isWrong) := goodIn_app (goodIn_of _ (by decide +kernel)) ggX6_growth_X6_isWrong
set_option maxRecDepth 20000 in
theorem ggX6_growth_X6_writes : GoodIn wsX6_growth wsX6_writes := goodIn_ca (goodIn_r _ [20, 2, 1, 21, 22, 23, 6, 24, 25, 26, 27, 28, 29, 30, 31, 32, 33, 34, 35, 36, 37, 38, 39, 40] (by decide +kernel) (by decide +kernel)) (goodIn_sub (fun _ h => List.mem_cons_of_mem _ (List.mem_append_right _ h)) (by decide +kernel))
set_option maxRecDepth 20000 in
theorem gX6_growth_X6_writes : GoodIn wsX6_growth (wsV RX6 67 RX6 yX6_writes wsX6_writes) := goodIn_app (goodIn_of _ (by decide +kernel)) ggX6_growth_X6_writes
theorem dX6_growth_0 : decode cX6_growth 0 = .ok (.aload_n 0, 1) := by decide +kernel
theorem dX6_growth_1 : decode cX6_growth 1 = .ok (.aload_n 0, 1) := by decide +kernel
theorem dX6_growth_2 : decode cX6_growth 2 = .ok (.iload_n 1, 1) := by decide +kernel
theorem dX6_growth_3 : decode cX6_growth 3 = .ok (.invokevirtual 43, 3) := by decide +kernel
theorem dX6_growth_6 : decode cX6_growth 6 = .ok (.ifCond .ne 7, 3) := by decide +kernel
theorem dX6_growth_9 : decode cX6_growth 9 = .ok (.iconst 1, 1) := by decide +kernel
theorem dX6_growth_10 : decode cX6_growth 10 = .ok (.goto 29, 3) := by decide +kernel
theorem dX6_growth_13 : decode cX6_growth 13 = .ok (.aload_n 0, 1) := by decide +kernel
theorem dX6_growth_14 : decode cX6_growth 14 = .ok (.iload_n 2, 1) := by decide +kernel
theorem dX6_growth_15 : decode cX6_growth 15 = .ok (.invokevirtual 64, 3) := by decide +kernel
theorem dX6_growth_18 : decode cX6_growth 18 = .ok (.ifCond .ne 7, 3) := by decide +kernel
theorem dX6_growth_21 : decode cX6_growth 21 = .ok (.iconst 2, 1) := by decide +kernel
theorem dX6_growth_22 : decode cX6_growth 22 = .ok (.goto 17, 3) := by decide +kernel
theorem dX6_growth_25 : decode cX6_growth 25 = .ok (.aload_n 0, 1) := by decide +kernel
theorem dX6_growth_26 : decode cX6_growth 26 = .ok (.getfield 13, 3) := by decide +kernel
theorem dX6_growth_29 : decode cX6_growth 29 = .ok (.iload_n 1, 1) := by decide +kernel
theorem dX6_growth_30 : decode cX6_growth 30 = .ok (.iaload, 1) := by decide +kernel
theorem dX6_growth_31 : decode cX6_growth 31 = .ok (.ifCond .ne 7, 3) := by decide +kernel
theorem dX6_growth_34 : decode cX6_growth 34 = .ok (.iconst 3, 1) := by decide +kernel
theorem dX6_growth_35 : decode cX6_growth 35 = .ok (.goto 4, 3) := by decide +kernel
theorem dX6_growth_38 : decode cX6_growth 38 = .ok (.iconst 0, 1) := by decide +kernel
theorem dX6_growth_39 : decode cX6_growth 39 = .ok (.invokevirtual 50, 3) := by decide +kernel
theorem dX6_growth_42 : decode cX6_growth 42 = .ok (.ifCond .eq 5, 3) := by decide +kernel
theorem dX6_growth_45 : decode cX6_growth 45 = .ok (.dconst 0, 1) := by decide +kernel
theorem dX6_growth_46 : decode cX6_growth 46 = .ok (.dreturn, 1) := by decide +kernel
theorem dX6_growth_47 : decode cX6_growth 47 = .ok (.aload_n 0, 1) := by decide +kernel
theorem dX6_growth_48 : decode cX6_growth 48 = .ok (.iload_n 1, 1) := by decide +kernel
theorem dX6_growth_49 : decode cX6_growth 49 = .ok (.iload_n 2, 1) := by decide +kernel
theorem dX6_growth_50 : decode cX6_growth 50 = .ok (.iconst 1, 1) := by decide +kernel
theorem dX6_growth_51 : decode cX6_growth 51 = .ok (.invokevirtual 67, 3) := by decide +kernel
theorem dX6_growth_54 : decode cX6_growth 54 = .ok (.aload_n 0, 1) := by decide +kernel
theorem dX6_growth_55 : decode cX6_growth 55 = .ok (.getfield 26, 3) := by decide +kernel
theorem dX6_growth_58 : decode cX6_growth 58 = .ok (.i2d, 1) := by decide +kernel
theorem dX6_growth_59 : decode cX6_growth 59 = .ok (.aload_n 0, 1) := by decide +kernel
theorem dX6_growth_60 : decode cX6_growth 60 = .ok (.getfield 13, 3) := by decide +kernel
theorem dX6_growth_63 : decode cX6_growth 63 = .ok (.iload_n 1, 1) := by decide +kernel
theorem dX6_growth_64 : decode cX6_growth 64 = .ok (.iaload, 1) := by decide +kernel
theorem dX6_growth_65 : decode cX6_growth 65 = .ok (.i2d, 1) := by decide +kernel
theorem dX6_growth_66 : decode cX6_growth 66 = .ok (.ddiv, 1) := by decide +kernel
theorem dX6_growth_67 : decode cX6_growth 67 = .ok (.dreturn, 1) := by decide +kernel
set_option maxRecDepth 20000 in
theorem ggX6_checksum_X6_at : GoodIn wsX6_checksum wsX6_at := goodIn_ca (goodIn_r _ [9, 10, 11, 12, 13, 14, 15, 16] (by decide +kernel) (by decide +kernel)) (goodIn_sub (fun _ h => List.mem_cons_of_mem _ (List.mem_append_right _ h)) (by decide +kernel))
set_option maxRecDepth 20000 in
theorem gX6_checksum_X6_at : GoodIn wsX6_checksum (wsV RX6 33 RX6 yX6_at wsX6_at) := goodIn_app (goodIn_of _ (by decide +kernel)) ggX6_checksum_X6_at
theorem dX6_checksum_0 : decode cX6_checksum 0 = .ok (.aload_n 0, 1) := by decide +kernel
theorem dX6_checksum_1 : decode cX6_checksum 1 = .ok (.iconst 0, 1) := by decide +kernel
theorem dX6_checksum_2 : decode cX6_checksum 2 = .ok (.putfield 22, 3) := by decide +kernel
theorem dX6_checksum_5 : decode cX6_checksum 5 = .ok (.ldc2_w 92, 3) := by decide +kernel
theorem dX6_checksum_8 : decode cX6_checksum 8 = .ok (.lstore_n 1, 1) := by decide +kernel
theorem dX6_checksum_9 : decode cX6_checksum 9 = .ok (.iconst 0, 1) := by decide +kernel
theorem dX6_checksum_10 : decode cX6_checksum 10 = .ok (.istore_n 3, 1) := by decide +kernel
theorem dX6_checksum_11 : decode cX6_checksum 11 = .ok (.iload_n 3, 1) := by decide +kernel
theorem dX6_checksum_12 : decode cX6_checksum 12 = .ok (.bipush 6, 2) := by decide +kernel
theorem dX6_checksum_14 : decode cX6_checksum 14 = .ok (.if_icmp .ge 58, 3) := by decide +kernel
theorem dX6_checksum_17 : decode cX6_checksum 17 = .ok (.ldc2_w 94, 3) := by decide +kernel
theorem dX6_checksum_20 : decode cX6_checksum 20 = .ok (.lload_n 1, 1) := by decide +kernel
theorem dX6_checksum_21 : decode cX6_checksum 21 = .ok (.lmul, 1) := by decide +kernel
theorem dX6_checksum_22 : decode cX6_checksum 22 = .ok (.aload_n 0, 1) := by decide +kernel
theorem dX6_checksum_23 : decode cX6_checksum 23 = .ok (.getfield 13, 3) := by decide +kernel
theorem dX6_checksum_26 : decode cX6_checksum 26 = .ok (.iload_n 3, 1) := by decide +kernel
theorem dX6_checksum_27 : decode cX6_checksum 27 = .ok (.iaload, 1) := by decide +kernel
theorem dX6_checksum_28 : decode cX6_checksum 28 = .ok (.i2l, 1) := by decide +kernel
theorem dX6_checksum_29 : decode cX6_checksum 29 = .ok (.ladd, 1) := by decide +kernel
theorem dX6_checksum_30 : decode cX6_checksum 30 = .ok (.lstore_n 1, 1) := by decide +kernel
theorem dX6_checksum_31 : decode cX6_checksum 31 = .ok (.iconst 0, 1) := by decide +kernel
theorem dX6_checksum_32 : decode cX6_checksum 32 = .ok (.istore 4, 2) := by decide +kernel
theorem dX6_checksum_34 : decode cX6_checksum 34 = .ok (.iload 4, 2) := by decide +kernel
theorem dX6_checksum_36 : decode cX6_checksum 36 = .ok (.aload_n 0, 1) := by decide +kernel
theorem dX6_checksum_37 : decode cX6_checksum 37 = .ok (.getfield 13, 3) := by decide +kernel
theorem dX6_checksum_40 : decode cX6_checksum 40 = .ok (.iload_n 3, 1) := by decide +kernel
theorem dX6_checksum_41 : decode cX6_checksum 41 = .ok (.iaload, 1) := by decide +kernel
theorem dX6_checksum_42 : decode cX6_checksum 42 = .ok (.if_icmp .ge 24, 3) := by decide +kernel
theorem dX6_checksum_45 : decode cX6_checksum 45 = .ok (.ldc2_w 94, 3) := by decide +kernel
theorem dX6_checksum_48 : decode cX6_checksum 48 = .ok (.lload_n 1, 1) := by decide +kernel
theorem dX6_checksum_49 : decode cX6_checksum 49 = .ok (.lmul, 1) := by decide +kernel
theorem dX6_checksum_50 : decode cX6_checksum 50 = .ok (.aload_n 0, 1) := by decide +kernel
theorem dX6_checksum_51 : decode cX6_checksum 51 = .ok (.iload_n 3, 1) := by decide +kernel
theorem dX6_checksum_52 : decode cX6_checksum 52 = .ok (.iload 4, 2) := by decide +kernel
theorem dX6_checksum_54 : decode cX6_checksum 54 = .ok (.invokevirtual 33, 3) := by decide +kernel
theorem dX6_checksum_57 : decode cX6_checksum 57 = .ok (.i2l, 1) := by decide +kernel
theorem dX6_checksum_58 : decode cX6_checksum 58 = .ok (.ladd, 1) := by decide +kernel
theorem dX6_checksum_59 : decode cX6_checksum 59 = .ok (.lstore_n 1, 1) := by decide +kernel
theorem dX6_checksum_60 : decode cX6_checksum 60 = .ok (.iinc 4 1, 3) := by decide +kernel
theorem dX6_checksum_63 : decode cX6_checksum 63 = .ok (.goto (-29), 3) := by decide +kernel
theorem dX6_checksum_66 : decode cX6_checksum 66 = .ok (.iinc 3 1, 3) := by decide +kernel
theorem dX6_checksum_69 : decode cX6_checksum 69 = .ok (.goto (-58), 3) := by decide +kernel
theorem dX6_checksum_72 : decode cX6_checksum 72 = .ok (.lload_n 1, 1) := by decide +kernel
theorem dX6_checksum_73 : decode cX6_checksum 73 = .ok (.lreturn, 1) := by decide +kernel
set_option maxRecDepth 20000 in
theorem ggX6_isTrue_X6_writes : GoodIn wsX6_isTrue wsX6_writes := goodIn_ca (goodIn_r _ [8, 3, 2, 9, 10, 11, 7, 12, 13, 14, 15, 16, 17, 18, 19, 20, 21, 22, 23, 24, 25, 26, 27, 28] (by decide +kernel) (by decide +kernel)) (goodIn_sub (fun _ h => List.mem_cons_of_mem _ (List.mem_append_right _ h)) (by decide +kernel))
set_option maxRecDepth 20000 in
theorem gX6_isTrue_X6_writes : GoodIn wsX6_isTrue (wsV RX6 67 RX6 yX6_writes wsX6_writes) := goodIn_app (goodIn_of _ (by decide +kernel)) ggX6_isTrue_X6_writes
theorem dX6_isTrue_0 : decode cX6_isTrue 0 = .ok (.aload_n 0, 1) := by decide +kernel
theorem dX6_isTrue_1 : decode cX6_isTrue 1 = .ok (.iconst 0, 1) := by decide +kernel
theorem dX6_isTrue_2 : decode cX6_isTrue 2 = .ok (.putfield 22, 3) := by decide +kernel
theorem dX6_isTrue_5 : decode cX6_isTrue 5 = .ok (.iconst 1, 1) := by decide +kernel
theorem dX6_isTrue_6 : decode cX6_isTrue 6 = .ok (.istore_n 1, 1) := by decide +kernel
theorem dX6_isTrue_7 : decode cX6_isTrue 7 = .ok (.iconst 0, 1) := by decide +kernel
theorem dX6_isTrue_8 : decode cX6_isTrue 8 = .ok (.istore_n 2, 1) := by decide +kernel
theorem dX6_isTrue_9 : decode cX6_isTrue 9 = .ok (.iload_n 2, 1) := by decide +kernel
theorem dX6_isTrue_10 : decode cX6_isTrue 10 = .ok (.bipush 6, 2) := by decide +kernel
theorem dX6_isTrue_12 : decode cX6_isTrue 12 = .ok (.if_icmp .ge 90, 3) := by decide +kernel
theorem dX6_isTrue_15 : decode cX6_isTrue 15 = .ok (.iconst 0, 1) := by decide +kernel
theorem dX6_isTrue_16 : decode cX6_isTrue 16 = .ok (.istore_n 3, 1) := by decide +kernel
theorem dX6_isTrue_17 : decode cX6_isTrue 17 = .ok (.iload_n 3, 1) := by decide +kernel
theorem dX6_isTrue_18 : decode cX6_isTrue 18 = .ok (.iconst 3, 1) := by decide +kernel
theorem dX6_isTrue_19 : decode cX6_isTrue 19 = .ok (.if_icmp .ge 77, 3) := by decide +kernel
theorem dX6_isTrue_22 : decode cX6_isTrue 22 = .ok (.bipush 8, 2) := by decide +kernel
theorem dX6_isTrue_24 : decode cX6_isTrue 24 = .ok (.aload_n 0, 1) := by decide +kernel
theorem dX6_isTrue_25 : decode cX6_isTrue 25 = .ok (.getfield 13, 3) := by decide +kernel
theorem dX6_isTrue_28 : decode cX6_isTrue 28 = .ok (.iload_n 2, 1) := by decide +kernel
theorem dX6_isTrue_29 : decode cX6_isTrue 29 = .ok (.iaload, 1) := by decide +kernel
theorem dX6_isTrue_30 : decode cX6_isTrue 30 = .ok (.imul, 1) := by decide +kernel
theorem dX6_isTrue_31 : decode cX6_isTrue 31 = .ok (.iconst 5, 1) := by decide +kernel
theorem dX6_isTrue_32 : decode cX6_isTrue 32 = .ok (.iadd, 1) := by decide +kernel
theorem dX6_isTrue_33 : decode cX6_isTrue 33 = .ok (.bipush 6, 2) := by decide +kernel
theorem dX6_isTrue_35 : decode cX6_isTrue 35 = .ok (.idiv, 1) := by decide +kernel
theorem dX6_isTrue_36 : decode cX6_isTrue 36 = .ok (.istore 4, 2) := by decide +kernel
theorem dX6_isTrue_38 : decode cX6_isTrue 38 = .ok (.aload_n 0, 1) := by decide +kernel
theorem dX6_isTrue_39 : decode cX6_isTrue 39 = .ok (.iload_n 2, 1) := by decide +kernel
theorem dX6_isTrue_40 : decode cX6_isTrue 40 = .ok (.iload_n 3, 1) := by decide +kernel
theorem dX6_isTrue_41 : decode cX6_isTrue 41 = .ok (.iconst 0, 1) := by decide +kernel
theorem dX6_isTrue_42 : decode cX6_isTrue 42 = .ok (.invokevirtual 67, 3) := by decide +kernel
theorem dX6_isTrue_45 : decode cX6_isTrue 45 = .ok (.iload 4, 2) := by decide +kernel
theorem dX6_isTrue_47 : decode cX6_isTrue 47 = .ok (.ifCond .eq 8, 3) := by decide +kernel
theorem dX6_isTrue_50 : decode cX6_isTrue 50 = .ok (.iload_n 3, 1) := by decide +kernel
theorem dX6_isTrue_51 : decode cX6_isTrue 51 = .ok (.iconst 2, 1) := by decide +kernel
theorem dX6_isTrue_52 : decode cX6_isTrue 52 = .ok (.if_icmp .ge 7, 3) := by decide +kernel
theorem dX6_isTrue_55 : decode cX6_isTrue 55 = .ok (.iconst 0, 1) := by decide +kernel
theorem dX6_isTrue_56 : decode cX6_isTrue 56 = .ok (.goto 10, 3) := by decide +kernel
theorem dX6_isTrue_59 : decode cX6_isTrue 59 = .ok (.iload 4, 2) := by decide +kernel
theorem dX6_isTrue_61 : decode cX6_isTrue 61 = .ok (.iconst 1, 1) := by decide +kernel
theorem dX6_isTrue_62 : decode cX6_isTrue 62 = .ok (.isub, 1) := by decide +kernel
theorem dX6_isTrue_63 : decode cX6_isTrue 63 = .ok (.bipush 76, 2) := by decide +kernel
theorem dX6_isTrue_65 : decode cX6_isTrue 65 = .ok (.idiv, 1) := by decide +kernel
theorem dX6_isTrue_66 : decode cX6_isTrue 66 = .ok (.istore 5, 2) := by decide +kernel
theorem dX6_isTrue_68 : decode cX6_isTrue 68 = .ok (.iload_n 1, 1) := by decide +kernel
theorem dX6_isTrue_69 : decode cX6_isTrue 69 = .ok (.aload_n 0, 1) := by decide +kernel
theorem dX6_isTrue_70 : decode cX6_isTrue 70 = .ok (.getfield 26, 3) := by decide +kernel
theorem dX6_isTrue_73 : decode cX6_isTrue 73 = .ok (.iload 4, 2) := by decide +kernel
theorem dX6_isTrue_75 : decode cX6_isTrue 75 = .ok (.iconst 2, 1) := by decide +kernel
theorem dX6_isTrue_76 : decode cX6_isTrue 76 = .ok (.iload 5, 2) := by decide +kernel
theorem dX6_isTrue_78 : decode cX6_isTrue 78 = .ok (.imul, 1) := by decide +kernel
theorem dX6_isTrue_79 : decode cX6_isTrue 79 = .ok (.iadd, 1) := by decide +kernel
theorem dX6_isTrue_80 : decode cX6_isTrue 80 = .ok (.if_icmp .ne 7, 3) := by decide +kernel
theorem dX6_isTrue_83 : decode cX6_isTrue 83 = .ok (.iconst 1, 1) := by decide +kernel
theorem dX6_isTrue_84 : decode cX6_isTrue 84 = .ok (.goto 4, 3) := by decide +kernel
theorem dX6_isTrue_88 : decode cX6_isTrue 88 = .ok (.iand, 1) := by decide +kernel
theorem dX6_isTrue_89 : decode cX6_isTrue 89 = .ok (.istore_n 1, 1) := by decide +kernel
theorem dX6_isTrue_90 : decode cX6_isTrue 90 = .ok (.iinc 3 1, 3) := by decide +kernel
theorem dX6_isTrue_93 : decode cX6_isTrue 93 = .ok (.goto (-76), 3) := by decide +kernel
theorem dX6_isTrue_96 : decode cX6_isTrue 96 = .ok (.iinc 2 1, 3) := by decide +kernel
theorem dX6_isTrue_99 : decode cX6_isTrue 99 = .ok (.goto (-90), 3) := by decide +kernel
theorem dX6_isTrue_102 : decode cX6_isTrue 102 = .ok (.iload_n 1, 1) := by decide +kernel
theorem dX6_isTrue_103 : decode cX6_isTrue 103 = .ok (.ireturn, 1) := by decide +kernel
theorem dJ5_init_d00df_0 : decode cJ5_init_d00df 0 = .ok (.aload_n 0, 1) := by decide +kernel
theorem dJ5_init_d00df_1 : decode cJ5_init_d00df 1 = .ok (.invokespecial 3, 3) := by decide +kernel
theorem dJ5_init_d00df_4 : decode cJ5_init_d00df 4 = .ok (.getstatic 18, 3) := by decide +kernel
theorem dJ5_init_d00df_7 : decode cJ5_init_d00df 7 = .ok (.ifCond .eq 18, 3) := by decide +kernel
theorem dJ5_init_d00df_10 : decode cJ5_init_d00df 10 = .ok (.aload_n 0, 1) := by decide +kernel
theorem dJ5_init_d00df_11 : decode cJ5_init_d00df 11 = .ok (.iload_n 1, 1) := by decide +kernel
theorem dJ5_init_d00df_12 : decode cJ5_init_d00df 12 = .ok (.newarray .byte, 2) := by decide +kernel
theorem dJ5_init_d00df_14 : decode cJ5_init_d00df 14 = .ok (.putfield 15, 3) := by decide +kernel
theorem dJ5_init_d00df_17 : decode cJ5_init_d00df 17 = .ok (.aload_n 0, 1) := by decide +kernel
theorem dJ5_init_d00df_18 : decode cJ5_init_d00df 18 = .ok (.iconst 0, 1) := by decide +kernel
theorem dJ5_init_d00df_19 : decode cJ5_init_d00df 19 = .ok (.putfield 22, 3) := by decide +kernel
theorem dJ5_init_d00df_22 : decode cJ5_init_d00df 22 = .ok (.goto 16, 3) := by decide +kernel
theorem dJ5_init_d00df_38 : decode cJ5_init_d00df 38 = .ok (.return_, 1) := by decide +kernel
theorem dJ5_length_8abf5_0 : decode cJ5_length_8abf5 0 = .ok (.aload_n 0, 1) := by decide +kernel
theorem dJ5_length_8abf5_1 : decode cJ5_length_8abf5 1 = .ok (.getfield 79, 3) := by decide +kernel
theorem dJ5_length_8abf5_4 : decode cJ5_length_8abf5 4 = .ok (.ireturn, 1) := by decide +kernel
set_option maxRecDepth 20000 in
theorem ggJ5_ensureCapacityInternal_d00df_J5_newCapacity_0f7a4 : GoodIn wsJ5_ensureCapacityInternal_d00df wsJ5_newCapacity_0f7a4 := goodIn_r _ [8, 1, 2, 9, 10, 11, 12, 13, 14, 15, 16, 17, 18, 19, 20, 21, 40, 41, 42, 43] (by decide +kernel) (by decide +kernel)
set_option maxRecDepth 20000 in
theorem gJ5_ensureCapacityInternal_d00df_J5_newCapacity_0f7a4_u104J4 : GoodIn wsJ5_ensureCapacityInternal_d00df (va_wsU RJ5 104 RJ4 "java/lang/AbstractStringBuilder" ⟨"java/lang/AbstractStringBuilder", "newCapacity", "(I)I"⟩ yJ5_newCapacity_0f7a4 wsJ5_newCapacity_0f7a4) := goodIn_app (goodIn_of _ (by decide +kernel)) ggJ5_ensureCapacityInternal_d00df_J5_newCapacity_0f7a4
set_option maxRecDepth 20000 in
theorem ggJ5_ensureCapacityInternal_d00df_J7_copyOf_9075b : GoodIn wsJ5_ensureCapacityInternal_d00df wsJ7_copyOf_9075b := goodIn_r _ [25, 26, 27, 28, 29, 30, 31, 32, 33, 34, 16, 35, 36, 37, 38, 39] (by decide +kernel) (by decide +kernel)
set_option maxRecDepth 20000 in
theorem gJ5_ensureCapacityInternal_d00df_J7_copyOf_9075b : GoodIn wsJ5_ensureCapacityInternal_d00df (va_wsS RJ5 108 yJ7_copyOf_9075b wsJ7_copyOf_9075b) := goodIn_app (goodIn_of _ (by decide +kernel)) ggJ5_ensureCapacityInternal_d00df_J7_copyOf_9075b
theorem dJ5_ensureCapacityInternal_d00df_0 : decode cJ5_ensureCapacityInternal_d00df 0 = .ok (.aload_n 0, 1) := by decide +kernel
theorem dJ5_ensureCapacityInternal_d00df_1 : decode cJ5_ensureCapacityInternal_d00df 1 = .ok (.getfield 15, 3) := by decide +kernel
theorem dJ5_ensureCapacityInternal_d00df_4 : decode cJ5_ensureCapacityInternal_d00df 4 = .ok (.arraylength, 1) := by decide +kernel
theorem dJ5_ensureCapacityInternal_d00df_5 : decode cJ5_ensureCapacityInternal_d00df 5 = .ok (.aload_n 0, 1) := by decide +kernel
theorem dJ5_ensureCapacityInternal_d00df_6 : decode cJ5_ensureCapacityInternal_d00df 6 = .ok (.getfield 22, 3) := by decide +kernel
theorem dJ5_ensureCapacityInternal_d00df_9 : decode cJ5_ensureCapacityInternal_d00df 9 = .ok (.ishr, 1) := by decide +kernel
theorem dJ5_ensureCapacityInternal_d00df_10 : decode cJ5_ensureCapacityInternal_d00df 10 = .ok (.istore_n 2, 1) := by decide +kernel
theorem dJ5_ensureCapacityInternal_d00df_11 : decode cJ5_ensureCapacityInternal_d00df 11 = .ok (.iload_n 1, 1) := by decide +kernel
theorem dJ5_ensureCapacityInternal_d00df_12 : decode cJ5_ensureCapacityInternal_d00df 12 = .ok (.iload_n 2, 1) := by decide +kernel
theorem dJ5_ensureCapacityInternal_d00df_13 : decode cJ5_ensureCapacityInternal_d00df 13 = .ok (.isub, 1) := by decide +kernel
theorem dJ5_ensureCapacityInternal_d00df_14 : decode cJ5_ensureCapacityInternal_d00df 14 = .ok (.ifCond .le 24, 3) := by decide +kernel
theorem dJ5_ensureCapacityInternal_d00df_17 : decode cJ5_ensureCapacityInternal_d00df 17 = .ok (.aload_n 0, 1) := by decide +kernel
theorem dJ5_ensureCapacityInternal_d00df_18 : decode cJ5_ensureCapacityInternal_d00df 18 = .ok (.aload_n 0, 1) := by decide +kernel
theorem dJ5_ensureCapacityInternal_d00df_19 : decode cJ5_ensureCapacityInternal_d00df 19 = .ok (.getfield 15, 3) := by decide +kernel
theorem dJ5_ensureCapacityInternal_d00df_22 : decode cJ5_ensureCapacityInternal_d00df 22 = .ok (.aload_n 0, 1) := by decide +kernel
theorem dJ5_ensureCapacityInternal_d00df_23 : decode cJ5_ensureCapacityInternal_d00df 23 = .ok (.iload_n 1, 1) := by decide +kernel
theorem dJ5_ensureCapacityInternal_d00df_24 : decode cJ5_ensureCapacityInternal_d00df 24 = .ok (.invokevirtual 104, 3) := by decide +kernel
theorem dJ5_ensureCapacityInternal_d00df_27 : decode cJ5_ensureCapacityInternal_d00df 27 = .ok (.aload_n 0, 1) := by decide +kernel
theorem dJ5_ensureCapacityInternal_d00df_28 : decode cJ5_ensureCapacityInternal_d00df 28 = .ok (.getfield 22, 3) := by decide +kernel
theorem dJ5_ensureCapacityInternal_d00df_31 : decode cJ5_ensureCapacityInternal_d00df 31 = .ok (.ishl, 1) := by decide +kernel
theorem dJ5_ensureCapacityInternal_d00df_32 : decode cJ5_ensureCapacityInternal_d00df 32 = .ok (.invokestatic 108, 3) := by decide +kernel
theorem dJ5_ensureCapacityInternal_d00df_35 : decode cJ5_ensureCapacityInternal_d00df 35 = .ok (.putfield 15, 3) := by decide +kernel
theorem dJ5_ensureCapacityInternal_d00df_38 : decode cJ5_ensureCapacityInternal_d00df 38 = .ok (.return_, 1) := by decide +kernel
set_option maxRecDepth 20000 in
theorem ggJ5_newCapacity_0f7a4_J8_newLength_cabcc : GoodIn wsJ5_newCapacity_0f7a4 wsJ8_newLength_cabcc := goodIn_r _ [7, 8, 9, 10, 11, 12, 13, 14, 6, 15] (by decide +kernel) (by decide +kernel)
set_option maxRecDepth 20000 in
theorem gJ5_newCapacity_0f7a4_J8_newLength_cabcc : GoodIn wsJ5_newCapacity_0f7a4 (va_wsS RJ5 114 yJ8_newLength_cabcc wsJ8_newLength_cabcc) := goodIn_app (goodIn_of _ (by decide +kernel)) ggJ5_newCapacity_0f7a4_J8_newLength_cabcc
theorem dJ5_newCapacity_0f7a4_0 : decode cJ5_newCapacity_0f7a4 0 = .ok (.aload_n 0, 1) := by decide +kernel
theorem dJ5_newCapacity_0f7a4_1 : decode cJ5_newCapacity_0f7a4 1 = .ok (.getfield 15, 3) := by decide +kernel
theorem dJ5_newCapacity_0f7a4_4 : decode cJ5_newCapacity_0f7a4 4 = .ok (.arraylength, 1) := by decide +kernel
theorem dJ5_newCapacity_0f7a4_5 : decode cJ5_newCapacity_0f7a4 5 = .ok (.istore_n 2, 1) := by decide +kernel
theorem dJ5_newCapacity_0f7a4_6 : decode cJ5_newCapacity_0f7a4 6 = .ok (.iload_n 1, 1) := by decide +kernel
theorem dJ5_newCapacity_0f7a4_7 : decode cJ5_newCapacity_0f7a4 7 = .ok (.aload_n 0, 1) := by decide +kernel
theorem dJ5_newCapacity_0f7a4_8 : decode cJ5_newCapacity_0f7a4 8 = .ok (.getfield 22, 3) := by decide +kernel
theorem dJ5_newCapacity_0f7a4_11 : decode cJ5_newCapacity_0f7a4 11 = .ok (.ishl, 1) := by decide +kernel
theorem dJ5_newCapacity_0f7a4_12 : decode cJ5_newCapacity_0f7a4 12 = .ok (.istore_n 3, 1) := by decide +kernel
theorem dJ5_newCapacity_0f7a4_13 : decode cJ5_newCapacity_0f7a4 13 = .ok (.iload_n 3, 1) := by decide +kernel
theorem dJ5_newCapacity_0f7a4_14 : decode cJ5_newCapacity_0f7a4 14 = .ok (.iload_n 2, 1) := by decide +kernel
theorem dJ5_newCapacity_0f7a4_15 : decode cJ5_newCapacity_0f7a4 15 = .ok (.isub, 1) := by decide +kernel
theorem dJ5_newCapacity_0f7a4_16 : decode cJ5_newCapacity_0f7a4 16 = .ok (.istore 4, 2) := by decide +kernel
theorem dJ5_newCapacity_0f7a4_18 : decode cJ5_newCapacity_0f7a4 18 = .ok (.iload_n 2, 1) := by decide +kernel
theorem dJ5_newCapacity_0f7a4_19 : decode cJ5_newCapacity_0f7a4 19 = .ok (.iload 4, 2) := by decide +kernel
theorem dJ5_newCapacity_0f7a4_21 : decode cJ5_newCapacity_0f7a4 21 = .ok (.iload_n 2, 1) := by decide +kernel
theorem dJ5_newCapacity_0f7a4_22 : decode cJ5_newCapacity_0f7a4 22 = .ok (.iconst 2, 1) := by decide +kernel
theorem dJ5_newCapacity_0f7a4_23 : decode cJ5_newCapacity_0f7a4 23 = .ok (.aload_n 0, 1) := by decide +kernel
theorem dJ5_newCapacity_0f7a4_24 : decode cJ5_newCapacity_0f7a4 24 = .ok (.getfield 22, 3) := by decide +kernel
theorem dJ5_newCapacity_0f7a4_27 : decode cJ5_newCapacity_0f7a4 27 = .ok (.ishl, 1) := by decide +kernel
theorem dJ5_newCapacity_0f7a4_28 : decode cJ5_newCapacity_0f7a4 28 = .ok (.iadd, 1) := by decide +kernel
theorem dJ5_newCapacity_0f7a4_29 : decode cJ5_newCapacity_0f7a4 29 = .ok (.invokestatic 114, 3) := by decide +kernel
theorem dJ5_newCapacity_0f7a4_32 : decode cJ5_newCapacity_0f7a4 32 = .ok (.istore 5, 2) := by decide +kernel
theorem dJ5_newCapacity_0f7a4_34 : decode cJ5_newCapacity_0f7a4 34 = .ok (.iload 5, 2) := by decide +kernel
theorem dJ5_newCapacity_0f7a4_36 : decode cJ5_newCapacity_0f7a4 36 = .ok (.ldc 39, 2) := by decide +kernel
theorem dJ5_newCapacity_0f7a4_38 : decode cJ5_newCapacity_0f7a4 38 = .ok (.if_icmp .ne 13, 3) := by decide +kernel
theorem dJ5_newCapacity_0f7a4_51 : decode cJ5_newCapacity_0f7a4 51 = .ok (.iload 5, 2) := by decide +kernel
theorem dJ5_newCapacity_0f7a4_53 : decode cJ5_newCapacity_0f7a4 53 = .ok (.aload_n 0, 1) := by decide +kernel
theorem dJ5_newCapacity_0f7a4_54 : decode cJ5_newCapacity_0f7a4 54 = .ok (.getfield 22, 3) := by decide +kernel
theorem dJ5_newCapacity_0f7a4_57 : decode cJ5_newCapacity_0f7a4 57 = .ok (.ishr, 1) := by decide +kernel
theorem dJ5_newCapacity_0f7a4_58 : decode cJ5_newCapacity_0f7a4 58 = .ok (.ireturn, 1) := by decide +kernel
set_option maxRecDepth 20000 in
theorem ggJ5_setLength_d00df_J5_ensureCapacityInternal_d00df : GoodIn wsJ5_setLength_d00df wsJ5_ensureCapacityInternal_d00df := goodIn_r _ [12, 5, 13, 14, 15, 16, 17, 11, 18, 19, 20, 21, 22, 23, 24, 25, 26, 27, 28, 29, 30, 31, 32, 33, 34, 35, 36, 37, 38, 39, 40, 41, 42, 43, 44, 45, 46, 47, 48, 49, 83, 84, 85, 86] (by decide +kernel) (by decide +kernel)
set_option maxRecDepth 20000 in
theorem gJ5_setLength_d00df_J5_ensureCapacityInternal_d00df_u100J4 : GoodIn wsJ5_setLength_d00df (va_wsU RJ5 100 RJ4 "java/lang/AbstractStringBuilder" ⟨"java/lang/AbstractStringBuilder", "ensureCapacityInternal", "(I)V"⟩ yJ5_ensureCapacityInternal_d00df wsJ5_ensureCapacityInternal_d00df) := goodIn_app (goodIn_of _ (by decide +kernel)) ggJ5_setLength_d00df_J5_ensureCapacityInternal_d00df
theorem dJ5_setLength_d00df_0 : decode cJ5_setLength_d00df 0 = .ok (.iload_n 1, 1) := by decide +kernel
theorem dJ5_setLength_d00df_1 : decode cJ5_setLength_d00df 1 = .ok (.ifCond .ge 12, 3) := by decide +kernel
theorem dJ5_setLength_d00df_13 : decode cJ5_setLength_d00df 13 = .ok (.aload_n 0, 1) := by decide +kernel
theorem dJ5_setLength_d00df_14 : decode cJ5_setLength_d00df 14 = .ok (.iload_n 1, 1) := by decide +kernel
theorem dJ5_setLength_d00df_15 : decode cJ5_setLength_d00df 15 = .ok (.invokevirtual 100, 3) := by decide +kernel
theorem dJ5_setLength_d00df_18 : decode cJ5_setLength_d00df 18 = .ok (.aload_n 0, 1) := by decide +kernel
theorem dJ5_setLength_d00df_19 : decode cJ5_setLength_d00df 19 = .ok (.getfield 79, 3) := by decide +kernel
theorem dJ5_setLength_d00df_22 : decode cJ5_setLength_d00df 22 = .ok (.iload_n 1, 1) := by decide +kernel
theorem dJ5_setLength_d00df_23 : decode cJ5_setLength_d00df 23 = .ok (.if_icmp .ge 40, 3) := by decide +kernel
theorem dJ5_setLength_d00df_63 : decode cJ5_setLength_d00df 63 = .ok (.aload_n 0, 1) := by decide +kernel
theorem dJ5_setLength_d00df_64 : decode cJ5_setLength_d00df 64 = .ok (.getfield 79, 3) := by decide +kernel
theorem dJ5_setLength_d00df_67 : decode cJ5_setLength_d00df 67 = .ok (.iload_n 1, 1) := by decide +kernel
theorem dJ5_setLength_d00df_68 : decode cJ5_setLength_d00df 68 = .ok (.if_icmp .le 8, 3) := by decide +kernel
theorem dJ5_setLength_d00df_71 : decode cJ5_setLength_d00df 71 = .ok (.aload_n 0, 1) := by decide +kernel
theorem dJ5_setLength_d00df_72 : decode cJ5_setLength_d00df 72 = .ok (.iconst 1, 1) := by decide +kernel
theorem dJ5_setLength_d00df_73 : decode cJ5_setLength_d00df 73 = .ok (.putfield 73, 3) := by decide +kernel
theorem dJ5_setLength_d00df_76 : decode cJ5_setLength_d00df 76 = .ok (.aload_n 0, 1) := by decide +kernel
theorem dJ5_setLength_d00df_77 : decode cJ5_setLength_d00df 77 = .ok (.iload_n 1, 1) := by decide +kernel
theorem dJ5_setLength_d00df_78 : decode cJ5_setLength_d00df 78 = .ok (.putfield 79, 3) := by decide +kernel
theorem dJ5_setLength_d00df_81 : decode cJ5_setLength_d00df 81 = .ok (.return_, 1) := by decide +kernel
set_option maxRecDepth 20000 in
theorem ggJ5_charAt_5068e_J0_checkIndex_df160 : GoodIn wsJ5_charAt_5068e wsJ0_checkIndex_df160 := goodIn_r _ [11, 12, 13, 14, 15, 16] (by decide +kernel) (by decide +kernel)
set_option maxRecDepth 20000 in
theorem gJ5_charAt_5068e_J0_checkIndex_df160 : GoodIn wsJ5_charAt_5068e (va_wsS RJ5 144 yJ0_checkIndex_df160 wsJ0_checkIndex_df160) := goodIn_app (goodIn_of _ (by decide +kernel)) ggJ5_charAt_5068e_J0_checkIndex_df160
theorem dJ5_charAt_5068e_0 : decode cJ5_charAt_5068e 0 = .ok (.aload_n 0, 1) := by decide +kernel
theorem dJ5_charAt_5068e_1 : decode cJ5_charAt_5068e 1 = .ok (.getfield 22, 3) := by decide +kernel
theorem dJ5_charAt_5068e_4 : decode cJ5_charAt_5068e 4 = .ok (.istore_n 2, 1) := by decide +kernel
theorem dJ5_charAt_5068e_5 : decode cJ5_charAt_5068e 5 = .ok (.aload_n 0, 1) := by decide +kernel
theorem dJ5_charAt_5068e_6 : decode cJ5_charAt_5068e 6 = .ok (.getfield 15, 3) := by decide +kernel
theorem dJ5_charAt_5068e_9 : decode cJ5_charAt_5068e 9 = .ok (.astore_n 3, 1) := by decide +kernel
theorem dJ5_charAt_5068e_10 : decode cJ5_charAt_5068e 10 = .ok (.aload_n 0, 1) := by decide +kernel
theorem dJ5_charAt_5068e_11 : decode cJ5_charAt_5068e 11 = .ok (.getfield 79, 3) := by decide +kernel
theorem dJ5_charAt_5068e_14 : decode cJ5_charAt_5068e 14 = .ok (.aload_n 3, 1) := by decide +kernel
theorem dJ5_charAt_5068e_15 : decode cJ5_charAt_5068e 15 = .ok (.arraylength, 1) := by decide +kernel
theorem dJ5_charAt_5068e_16 : decode cJ5_charAt_5068e 16 = .ok (.iload_n 2, 1) := by decide +kernel
theorem dJ5_charAt_5068e_17 : decode cJ5_charAt_5068e 17 = .ok (.ishr, 1) := by decide +kernel
theorem dJ5_charAt_5068e_18 : decode cJ5_charAt_5068e 18 = .ok (.invokestatic 138, 3) := by decide +kernel
theorem dJ5_charAt_5068e_21 : decode cJ5_charAt_5068e 21 = .ok (.istore 4, 2) := by decide +kernel
theorem dJ5_charAt_5068e_23 : decode cJ5_charAt_5068e 23 = .ok (.iload_n 1, 1) := by decide +kernel
theorem dJ5_charAt_5068e_24 : decode cJ5_charAt_5068e 24 = .ok (.iload 4, 2) := by decide +kernel
theorem dJ5_charAt_5068e_26 : decode cJ5_charAt_5068e 26 = .ok (.invokestatic 144, 3) := by decide +kernel
theorem dJ5_charAt_5068e_29 : decode cJ5_charAt_5068e 29 = .ok (.iload_n 2, 1) := by decide +kernel
theorem dJ5_charAt_5068e_30 : decode cJ5_charAt_5068e 30 = .ok (.ifCond .ne 12, 3) := by decide +kernel
theorem dJ5_charAt_5068e_33 : decode cJ5_charAt_5068e 33 = .ok (.aload_n 3, 1) := by decide +kernel
theorem dJ5_charAt_5068e_34 : decode cJ5_charAt_5068e 34 = .ok (.iload_n 1, 1) := by decide +kernel
theorem dJ5_charAt_5068e_35 : decode cJ5_charAt_5068e 35 = .ok (.baload, 1) := by decide +kernel
theorem dJ5_charAt_5068e_36 : decode cJ5_charAt_5068e 36 = .ok (.sipush 255, 3) := by decide +kernel
theorem dJ5_charAt_5068e_39 : decode cJ5_charAt_5068e 39 = .ok (.iand, 1) := by decide +kernel
theorem dJ5_charAt_5068e_40 : decode cJ5_charAt_5068e 40 = .ok (.i2c, 1) := by decide +kernel
theorem dJ5_charAt_5068e_41 : decode cJ5_charAt_5068e 41 = .ok (.ireturn, 1) := by decide +kernel
set_option maxRecDepth 20000 in
theorem ggJ5_append_3fe6f_J5_ensureCapacityInternal_d00df : GoodIn wsJ5_append_3fe6f wsJ5_ensureCapacityInternal_d00df := goodIn_r _ [8, 2, 9, 10, 11, 12, 13, 7, 14, 15, 16, 17, 18, 19, 20, 21, 22, 23, 24, 25, 26, 27, 28, 29, 30, 31, 32, 33, 34, 35, 36, 37, 38, 39, 40, 41, 42, 43, 44, 45, 108, 109, 110, 111] (by decide +kernel) (by decide +kernel)
set_option maxRecDepth 20000 in
theorem gJ5_append_3fe6f_J5_ensureCapacityInternal_d00df_u100J4 : GoodIn wsJ5_append_3fe6f (va_wsU RJ5 100 RJ4 "java/lang/AbstractStringBuilder" ⟨"java/lang/AbstractStringBuilder", "ensureCapacityInternal", "(I)V"⟩ yJ5_ensureCapacityInternal_d00df wsJ5_ensureCapacityInternal_d00df) := goodIn_app (goodIn_of _ (by decide +kernel)) ggJ5_append_3fe6f_J5_ensureCapacityInternal_d00df
set_option maxRecDepth 20000 in
theorem ggJ5_append_3fe6f_J5_isLatin1_aae02 : GoodIn wsJ5_append_3fe6f wsJ5_isLatin1_aae02 := goodIn_r _ [50, 51, 9, 108, 109, 110, 111] (by decide +kernel) (by decide +kernel)
set_option maxRecDepth 20000 in
theorem gJ5_append_3fe6f_J5_isLatin1_aae02_u83J4 : GoodIn wsJ5_append_3fe6f (va_wsU RJ5 83 RJ4 "java/lang/AbstractStringBuilder" ⟨"java/lang/AbstractStringBuilder", "isLatin1", "()Z"⟩ yJ5_isLatin1_aae02 wsJ5_isLatin1_aae02) := goodIn_app (goodIn_of _ (by decide +kernel)) ggJ5_append_3fe6f_J5_isLatin1_aae02
set_option maxRecDepth 20000 in
theorem ggJ5_append_3fe6f_J1_canEncode_fc78d : GoodIn wsJ5_append_3fe6f wsJ1_canEncode_fc78d := goodIn_r _ [55] (by decide +kernel) (by decide +kernel)
set_option maxRecDepth 20000 in
theorem gJ5_append_3fe6f_J1_canEncode_fc78d : GoodIn wsJ5_append_3fe6f (va_wsS RJ5 191 yJ1_canEncode_fc78d wsJ1_canEncode_fc78d) := goodIn_app (goodIn_of _ (by decide +kernel)) ggJ5_append_3fe6f_J1_canEncode_fc78d
theorem dJ5_append_3fe6f_0 : decode cJ5_append_3fe6f 0 = .ok (.aload_n 0, 1) := by decide +kernel
theorem dJ5_append_3fe6f_1 : decode cJ5_append_3fe6f 1 = .ok (.aload_n 0, 1) := by decide +kernel
theorem dJ5_append_3fe6f_2 : decode cJ5_append_3fe6f 2 = .ok (.getfield 79, 3) := by decide +kernel
theorem dJ5_append_3fe6f_5 : decode cJ5_append_3fe6f 5 = .ok (.iconst 1, 1) := by decide +kernel
theorem dJ5_append_3fe6f_6 : decode cJ5_append_3fe6f 6 = .ok (.iadd, 1) := by decide +kernel
theorem dJ5_append_3fe6f_7 : decode cJ5_append_3fe6f 7 = .ok (.invokevirtual 100, 3) := by decide +kernel
theorem dJ5_append_3fe6f_10 : decode cJ5_append_3fe6f 10 = .ok (.aload_n 0, 1) := by decide +kernel
theorem dJ5_append_3fe6f_11 : decode cJ5_append_3fe6f 11 = .ok (.invokevirtual 83, 3) := by decide +kernel
theorem dJ5_append_3fe6f_14 : decode cJ5_append_3fe6f 14 = .ok (.ifCond .eq 31, 3) := by decide +kernel
theorem dJ5_append_3fe6f_17 : decode cJ5_append_3fe6f 17 = .ok (.iload_n 1, 1) := by decide +kernel
theorem dJ5_append_3fe6f_18 : decode cJ5_append_3fe6f 18 = .ok (.invokestatic 191, 3) := by decide +kernel
theorem dJ5_append_3fe6f_21 : decode cJ5_append_3fe6f 21 = .ok (.ifCond .eq 24, 3) := by decide +kernel
theorem dJ5_append_3fe6f_24 : decode cJ5_append_3fe6f 24 = .ok (.aload_n 0, 1) := by decide +kernel
theorem dJ5_append_3fe6f_25 : decode cJ5_append_3fe6f 25 = .ok (.getfield 15, 3) := by decide +kernel
theorem dJ5_append_3fe6f_28 : decode cJ5_append_3fe6f 28 = .ok (.aload_n 0, 1) := by decide +kernel
theorem dJ5_append_3fe6f_29 : decode cJ5_append_3fe6f 29 = .ok (.dup, 1) := by decide +kernel
theorem dJ5_append_3fe6f_30 : decode cJ5_append_3fe6f 30 = .ok (.getfield 79, 3) := by decide +kernel
theorem dJ5_append_3fe6f_33 : decode cJ5_append_3fe6f 33 = .ok (.dup_x1, 1) := by decide +kernel
theorem dJ5_append_3fe6f_34 : decode cJ5_append_3fe6f 34 = .ok (.iconst 1, 1) := by decide +kernel
theorem dJ5_append_3fe6f_35 : decode cJ5_append_3fe6f 35 = .ok (.iadd, 1) := by decide +kernel
theorem dJ5_append_3fe6f_36 : decode cJ5_append_3fe6f 36 = .ok (.putfield 79, 3) := by decide +kernel
theorem dJ5_append_3fe6f_39 : decode cJ5_append_3fe6f 39 = .ok (.iload_n 1, 1) := by decide +kernel
theorem dJ5_append_3fe6f_40 : decode cJ5_append_3fe6f 40 = .ok (.i2b, 1) := by decide +kernel
theorem dJ5_append_3fe6f_41 : decode cJ5_append_3fe6f 41 = .ok (.bastore, 1) := by decide +kernel
theorem dJ5_append_3fe6f_42 : decode cJ5_append_3fe6f 42 = .ok (.goto 33, 3) := by decide +kernel
theorem dJ5_append_3fe6f_75 : decode cJ5_append_3fe6f 75 = .ok (.aload_n 0, 1) := by decide +kernel
theorem dJ5_append_3fe6f_76 : decode cJ5_append_3fe6f 76 = .ok (.areturn, 1) := by decide +kernel
theorem dJ5_isLatin1_aae02_0 : decode cJ5_isLatin1_aae02 0 = .ok (.getstatic 18, 3) := by decide +kernel
theorem dJ5_isLatin1_aae02_3 : decode cJ5_isLatin1_aae02 3 = .ok (.ifCond .eq 14, 3) := by decide +kernel
theorem dJ5_isLatin1_aae02_6 : decode cJ5_isLatin1_aae02 6 = .ok (.aload_n 0, 1) := by decide +kernel
theorem dJ5_isLatin1_aae02_7 : decode cJ5_isLatin1_aae02 7 = .ok (.getfield 22, 3) := by decide +kernel
theorem dJ5_isLatin1_aae02_10 : decode cJ5_isLatin1_aae02 10 = .ok (.ifCond .ne 7, 3) := by decide +kernel
theorem dJ5_isLatin1_aae02_13 : decode cJ5_isLatin1_aae02 13 = .ok (.iconst 1, 1) := by decide +kernel
theorem dJ5_isLatin1_aae02_14 : decode cJ5_isLatin1_aae02 14 = .ok (.goto 4, 3) := by decide +kernel
theorem dJ5_isLatin1_aae02_18 : decode cJ5_isLatin1_aae02 18 = .ok (.ireturn, 1) := by decide +kernel
set_option maxRecDepth 20000 in
theorem ggJ0_checkIndex_df160_J3_checkIndex_8e157 : GoodIn wsJ0_checkIndex_df160 wsJ3_checkIndex_8e157 := goodIn_r _ [5] (by decide +kernel) (by decide +kernel)
set_option maxRecDepth 20000 in
theorem gJ0_checkIndex_df160_J3_checkIndex_8e157 : GoodIn wsJ0_checkIndex_df160 (va_wsS RJ0 1059 yJ3_checkIndex_8e157 wsJ3_checkIndex_8e157) := goodIn_app (goodIn_of _ (by decide +kernel)) ggJ0_checkIndex_df160_J3_checkIndex_8e157
theorem dJ0_checkIndex_df160_0 : decode cJ0_checkIndex_df160 0 = .ok (.iload_n 0, 1) := by decide +kernel
theorem dJ0_checkIndex_df160_1 : decode cJ0_checkIndex_df160 1 = .ok (.iload_n 1, 1) := by decide +kernel
theorem dJ0_checkIndex_df160_2 : decode cJ0_checkIndex_df160 2 = .ok (.getstatic 1053, 3) := by decide +kernel
theorem dJ0_checkIndex_df160_5 : decode cJ0_checkIndex_df160 5 = .ok (.invokestatic 1059, 3) := by decide +kernel
theorem dJ0_checkIndex_df160_8 : decode cJ0_checkIndex_df160 8 = .ok (.pop, 1) := by decide +kernel
theorem dJ0_checkIndex_df160_9 : decode cJ0_checkIndex_df160 9 = .ok (.return_, 1) := by decide +kernel
set_option maxRecDepth 20000 in
theorem ggJ4_init_da8c8_J5_init_d00df : GoodIn wsJ4_init_da8c8 wsJ5_init_d00df := goodIn_r _ [4, 5, 6, 7, 8, 9, 10, 11, 12, 13, 14, 15, 16, 17, 18, 19, 20, 21, 22, 23] (by decide +kernel) (by decide +kernel)
set_option maxRecDepth 20000 in
theorem gJ4_init_da8c8_J5_init_d00df : GoodIn wsJ4_init_da8c8 (wsJ5_init_d00df) := ggJ4_init_da8c8_J5_init_d00df
theorem dJ4_init_da8c8_0 : decode cJ4_init_da8c8 0 = .ok (.aload_n 0, 1) := by decide +kernel
theorem dJ4_init_da8c8_1 : decode cJ4_init_da8c8 1 = .ok (.bipush 16, 2) := by decide +kernel
theorem dJ4_init_da8c8_3 : decode cJ4_init_da8c8 3 = .ok (.invokespecial 1, 3) := by decide +kernel
theorem dJ4_init_da8c8_6 : decode cJ4_init_da8c8 6 = .ok (.return_, 1) := by decide +kernel
set_option maxRecDepth 20000 in
theorem ggJ4_append_cf468_J5_append_3fe6f : GoodIn wsJ4_append_cf468 wsJ5_append_3fe6f := goodIn_r _ [6, 7, 8, 9, 10, 11, 12, 5, 13, 14, 15, 16, 17, 18, 19, 20, 21, 22, 23, 24, 25, 26, 27, 28, 29, 30, 31, 32, 33, 34, 35, 36, 37, 38, 39, 40, 41, 42, 43, 44, 45, 46, 47, 48, 49, 50, 51, 52, 53, 54, 55, 56, 57, 58, 59, 60, 61, 62, 63, 64, 65, 66, 67, 68, 69, 70, 71, 72, 73, 74, 75, 76, 77, 78, 79, 80, 81, 82, 83, 84, 85, 86, 87, 88, 89, 90, 91, 92, 93, 94, 95, 96, 97, 98, 99, 100, 101, 102, 103, 104, 105, 106, 107, 108, 109, 110, 111, 112, 113, 114, 115, 116] (by decide +kernel) (by decide +kernel)
set_option maxRecDepth 20000 in
theorem gJ4_append_cf468_J5_append_3fe6f_s50 : GoodIn wsJ4_append_cf468 (va_wsSU RJ4 50 yJ5_append_3fe6f wsJ5_append_3fe6f) := goodIn_app (goodIn_of _ (by decide +kernel)) ggJ4_append_cf468_J5_append_3fe6f
theorem dJ4_append_cf468_0 : decode cJ4_append_cf468 0 = .ok (.aload_n 0, 1) := by decide +kernel
theorem dJ4_append_cf468_1 : decode cJ4_append_cf468 1 = .ok (.iload_n 1, 1) := by decide +kernel
theorem dJ4_append_cf468_2 : decode cJ4_append_cf468 2 = .ok (.invokespecial 50, 3) := by decide +kernel
theorem dJ4_append_cf468_5 : decode cJ4_append_cf468 5 = .ok (.pop, 1) := by decide +kernel
theorem dJ4_append_cf468_6 : decode cJ4_append_cf468 6 = .ok (.aload_n 0, 1) := by decide +kernel
theorem dJ4_append_cf468_7 : decode cJ4_append_cf468 7 = .ok (.areturn, 1) := by decide +kernel
set_option maxRecDepth 20000 in
theorem ggJ4_charAt_5068e_J5_charAt_5068e : GoodIn wsJ4_charAt_5068e wsJ5_charAt_5068e := goodIn_r _ [6, 7, 8, 9, 10, 11, 12, 13, 14, 15, 16, 17, 18, 19, 20, 21, 22, 23, 24, 25, 26, 27, 28, 29, 30, 31, 32, 33, 34, 35, 36] (by decide +kernel) (by decide +kernel)
set_option maxRecDepth 20000 in
theorem gJ4_charAt_5068e_J5_charAt_5068e_s329 : GoodIn wsJ4_charAt_5068e (va_wsSU RJ4 329 yJ5_charAt_5068e wsJ5_charAt_5068e) := goodIn_app (goodIn_of _ (by decide +kernel)) ggJ4_charAt_5068e_J5_charAt_5068e
theorem dJ4_charAt_5068e_0 : decode cJ4_charAt_5068e 0 = .ok (.aload_n 0, 1) := by decide +kernel
theorem dJ4_charAt_5068e_1 : decode cJ4_charAt_5068e 1 = .ok (.iload_n 1, 1) := by decide +kernel
theorem dJ4_charAt_5068e_2 : decode cJ4_charAt_5068e 2 = .ok (.invokespecial 329, 3) := by decide +kernel
theorem dJ4_charAt_5068e_5 : decode cJ4_charAt_5068e 5 = .ok (.ireturn, 1) := by decide +kernel
set_option maxRecDepth 20000 in
theorem ggJ4_setLength_d00df_J5_setLength_d00df : GoodIn wsJ4_setLength_d00df wsJ5_setLength_d00df := goodIn_r _ [6, 7, 8, 9, 10, 11, 12, 13, 14, 15, 16, 5, 17, 18, 19, 20, 21, 22, 23, 24, 25, 26, 27, 28, 29, 30, 31, 32, 33, 34, 35, 36, 37, 38, 39, 40, 41, 42, 43, 44, 45, 46, 47, 48, 49, 50, 51, 52, 53, 54, 55, 56, 57, 58, 59, 60, 61, 62, 63, 64, 65, 66, 67, 68, 69, 70, 71, 72, 73, 74, 75, 76, 77, 78, 79, 80, 81, 82, 83, 84, 85, 86, 87, 88, 89, 90, 91, 92, 93, 94, 95, 96, 97] (by decide +kernel) (by decide +kernel)
set_option maxRecDepth 20000 in
theorem gJ4_setLength_d00df_J5_setLength_d00df_s333 : GoodIn wsJ4_setLength_d00df (va_wsSU RJ4 333 yJ5_setLength_d00df wsJ5_setLength_d00df) := goodIn_app (goodIn_of _ (by decide +kernel)) ggJ4_setLength_d00df_J5_setLength_d00df
theorem dJ4_setLength_d00df_0 : decode cJ4_setLength_d00df 0 = .ok (.aload_n 0, 1) := by decide +kernel
theorem dJ4_setLength_d00df_1 : decode cJ4_setLength_d00df 1 = .ok (.iload_n 1, 1) := by decide +kernel
theorem dJ4_setLength_d00df_2 : decode cJ4_setLength_d00df 2 = .ok (.invokespecial 333, 3) := by decide +kernel
theorem dJ4_setLength_d00df_5 : decode cJ4_setLength_d00df 5 = .ok (.return_, 1) := by decide +kernel
set_option maxRecDepth 20000 in
theorem ggJ4_length_8abf5_J5_length_8abf5 : GoodIn wsJ4_length_8abf5 wsJ5_length_8abf5 := goodIn_r _ [6, 7, 8, 9, 10, 11] (by decide +kernel) (by decide +kernel)
set_option maxRecDepth 20000 in
theorem gJ4_length_8abf5_J5_length_8abf5_s343 : GoodIn wsJ4_length_8abf5 (va_wsSU RJ4 343 yJ5_length_8abf5 wsJ5_length_8abf5) := goodIn_app (goodIn_of _ (by decide +kernel)) ggJ4_length_8abf5_J5_length_8abf5
theorem dJ4_length_8abf5_0 : decode cJ4_length_8abf5 0 = .ok (.aload_n 0, 1) := by decide +kernel
theorem dJ4_length_8abf5_1 : decode cJ4_length_8abf5 1 = .ok (.invokespecial 343, 3) := by decide +kernel
theorem dJ4_length_8abf5_4 : decode cJ4_length_8abf5 4 = .ok (.ireturn, 1) := by decide +kernel
theorem dJ1_canEncode_fc78d_0 : decode cJ1_canEncode_fc78d 0 = .ok (.iload_n 0, 1) := by decide +kernel
theorem dJ1_canEncode_fc78d_1 : decode cJ1_canEncode_fc78d 1 = .ok (.sipush 255, 3) := by decide +kernel
theorem dJ1_canEncode_fc78d_4 : decode cJ1_canEncode_fc78d 4 = .ok (.if_icmp .gt 7, 3) := by decide +kernel
theorem dJ1_canEncode_fc78d_7 : decode cJ1_canEncode_fc78d 7 = .ok (.iconst 1, 1) := by decide +kernel
theorem dJ1_canEncode_fc78d_8 : decode cJ1_canEncode_fc78d 8 = .ok (.goto 4, 3) := by decide +kernel
theorem dJ1_canEncode_fc78d_12 : decode cJ1_canEncode_fc78d 12 = .ok (.ireturn, 1) := by decide +kernel
