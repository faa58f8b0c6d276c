theorem dX5_isWritten_63 : decode cX5_isWritten 63 = .ok (.aload_n 0, 1) := by decide +kernel
theorem dX5_isWritten_64 : decode cX5_isWritten 64 = .ok (.getfield 20, 3) := by decide +kernel
theorem dX5_isWritten_67 : decode cX5_isWritten 67 = .ok (.invokestatic 108, 3) := by decide +kernel
theorem dX5_isWritten_70 : decode cX5_isWritten 70 = .ok (.aload_n 3, 1) := by decide +kernel
theorem dX5_isWritten_71 : decode cX5_isWritten 71 = .ok (.aload_n 0, 1) := by decide +kernel
theorem dX5_isWritten_72 : decode cX5_isWritten 72 = .ok (.getfield 16, 3) := by decide +kernel
theorem dX5_isWritten_75 : decode cX5_isWritten 75 = .ok (.invokevirtual 94, 3) := by decide +kernel
theorem dX5_isWritten_78 : decode cX5_isWritten 78 = .ok (.ifCond .ne 14, 3) := by decide +kernel
theorem dX5_isWritten_81 : decode cX5_isWritten 81 = .ok (.aload_n 3, 1) := by decide +kernel
theorem dX5_isWritten_82 : decode cX5_isWritten 82 = .ok (.aload_n 0, 1) := by decide +kernel
theorem dX5_isWritten_83 : decode cX5_isWritten 83 = .ok (.getfield 20, 3) := by decide +kernel
theorem dX5_isWritten_86 : decode cX5_isWritten 86 = .ok (.invokevirtual 94, 3) := by decide +kernel
theorem dX5_isWritten_89 : decode cX5_isWritten 89 = .ok (.ifCond .eq 7, 3) := by decide +kernel
theorem dX5_isWritten_92 : decode cX5_isWritten 92 = .ok (.iconst 1, 1) := by decide +kernel
theorem dX5_isWritten_93 : decode cX5_isWritten 93 = .ok (.goto 4, 3) := by decide +kernel
theorem dX5_isWritten_96 : decode cX5_isWritten 96 = .ok (.iconst 0, 1) := by decide +kernel
theorem dX5_isWritten_97 : decode cX5_isWritten 97 = .ok (.ireturn, 1) := by decide +kernel
set_option maxRecDepth 20000 in
theorem ggX5_plain_X5_rowAt : GoodIn wsX5_plain wsX5_rowAt := goodIn_ca (goodIn_r _ [6, 7, 8, 9, 134, 135, 136, 137, 138] (by decide +kernel) (by decide +kernel)) (goodIn_sub (fun _ h => List.mem_cons_of_mem _ (List.mem_append_left _ (List.mem_append_left _ (List.mem_append_left _ (List.mem_append_left _ (List.mem_append_right _ h)))))) (by decide +kernel))
set_option maxRecDepth 20000 in
theorem gX5_plain_X5_rowAt : GoodIn wsX5_plain (wsV RX5 37 RX5 yX5_rowAt wsX5_rowAt) := goodIn_app (goodIn_of _ (by decide +kernel)) ggX5_plain_X5_rowAt
set_option maxRecDepth 20000 in
theorem ggX5_plain_X5_kindAt : GoodIn wsX5_plain wsX5_kindAt := goodIn_ca (goodIn_r _ [12, 13, 14, 15] (by decide +kernel) (by decide +kernel)) (goodIn_sub (fun _ h => List.mem_cons_of_mem _ (List.mem_append_left _ (List.mem_append_left _ (List.mem_append_left _ (List.mem_append_right _ h))))) (by decide +kernel))
set_option maxRecDepth 20000 in
theorem gX5_plain_X5_kindAt : GoodIn wsX5_plain (va_wsS RX5 98 yX5_kindAt wsX5_kindAt) := goodIn_app (goodIn_of _ (by decide +kernel)) ggX5_plain_X5_kindAt
set_option maxRecDepth 20000 in
theorem ggX5_plain_X5_readOrRefuse : GoodIn wsX5_plain wsX5_readOrRefuse := goodIn_ca (goodIn_ca (goodIn_ca (goodIn_r _ [19, 20, 21, 13, 14, 1, 22, 23, 24, 25, 26, 27, 28, 29, 30, 31, 32, 33, 34, 35, 36, 37, 38, 39, 40, 41, 42, 43, 44, 45, 46, 47, 48, 49, 50, 51, 52, 53, 54, 55, 56, 57, 58, 59, 60, 61, 62, 63, 64, 65, 66, 67, 68, 69, 70, 71, 72, 73, 74, 75, 76, 77, 78, 79, 80, 81, 82, 83, 84, 85, 86, 87, 88, 89, 90, 91, 92, 93, 94, 95, 96, 97, 98, 99, 100, 101, 102, 103, 104, 134, 135, 136, 137, 138, 142, 143, 139, 140, 141] (by decide +kernel) (by decide +kernel)) (goodIn_sub (fun _ h => List.mem_cons_of_mem _ (List.mem_append_left _ (List.mem_append_left _ (List.mem_append_right _ h)))) (by decide +kernel))) (goodIn_sub (fun _ h => List.mem_cons_of_mem _ (List.mem_append_left _ (List.mem_append_left _ (List.mem_append_left _ (List.mem_append_right _ h))))) (by decide +kernel))) (goodIn_sub (fun _ h => List.mem_cons_of_mem _ (List.mem_append_left _ (List.mem_append_right _ h))) (by decide +kernel))
set_option maxRecDepth 20000 in
theorem gX5_plain_X5_readOrRefuse : GoodIn wsX5_plain (wsV RX5 120 RX5 yX5_readOrRefuse wsX5_readOrRefuse) := goodIn_app (goodIn_of _ (by decide +kernel)) ggX5_plain_X5_readOrRefuse
set_option maxRecDepth 20000 in
theorem ggX5_plain_X4_lengthOf : GoodIn wsX5_plain wsX4_lengthOf := goodIn_r _ [108, 109, 110, 107, 111] (by decide +kernel) (by decide +kernel)
set_option maxRecDepth 20000 in
theorem gX5_plain_X4_lengthOf : GoodIn wsX5_plain (va_wsS RX5 102 yX4_lengthOf wsX4_lengthOf) := goodIn_app (goodIn_of _ (by decide +kernel)) ggX5_plain_X4_lengthOf
set_option maxRecDepth 20000 in
theorem ggX5_plain_X5_checkRoom : GoodIn wsX5_plain wsX5_checkRoom := goodIn_ca (goodIn_r _ [114, 115, 116] (by decide +kernel) (by decide +kernel)) (goodIn_sub (fun _ h => List.mem_cons_of_mem _ (List.mem_append_right _ h)) (by decide +kernel))
set_option maxRecDepth 20000 in
theorem gX5_plain_X5_checkRoom : GoodIn wsX5_plain (va_wsS RX5 49 yX5_checkRoom wsX5_checkRoom) := goodIn_app (goodIn_of _ (by decide +kernel)) ggX5_plain_X5_checkRoom
set_option maxRecDepth 20000 in
theorem ggX5_plain_X4_writeBytes : GoodIn wsX5_plain wsX4_writeBytes := goodIn_ca (goodIn_r _ [119, 120, 106, 107, 108, 109, 110, 111, 121, 83, 84, 29, 85, 31, 122, 123, 124, 125, 126, 127, 128, 33, 34, 35, 36, 129, 130, 131, 44, 132, 50, 51, 133, 97, 98, 99, 142, 143] (by decide +kernel) (by decide +kernel)) (goodIn_sub (fun _ h => List.mem_cons_of_mem _ (List.mem_append_left _ (List.mem_append_right _ h))) (by decide +kernel))
set_option maxRecDepth 20000 in
theorem gX5_plain_X4_writeBytes : GoodIn wsX5_plain (va_wsS RX5 108 yX4_writeBytes wsX4_writeBytes) := goodIn_app (goodIn_of _ (by decide +kernel)) ggX5_plain_X4_writeBytes
theorem dX5_plain_0 : decode cX5_plain 0 = .ok (.aload_n 0, 1) := by decide +kernel
theorem dX5_plain_1 : decode cX5_plain 1 = .ok (.iload_n 1, 1) := by decide +kernel
theorem dX5_plain_2 : decode cX5_plain 2 = .ok (.invokevirtual 37, 3) := by decide +kernel
theorem dX5_plain_5 : decode cX5_plain 5 = .ok (.astore_n 3, 1) := by decide +kernel
theorem dX5_plain_6 : decode cX5_plain 6 = .ok (.iload_n 2, 1) := by decide +kernel
theorem dX5_plain_7 : decode cX5_plain 7 = .ok (.invokestatic 98, 3) := by decide +kernel
theorem dX5_plain_10 : decode cX5_plain 10 = .ok (.astore 4, 2) := by decide +kernel
theorem dX5_plain_12 : decode cX5_plain 12 = .ok (.aload_n 0, 1) := by decide +kernel
theorem dX5_plain_13 : decode cX5_plain 13 = .ok (.aload_n 3, 1) := by decide +kernel
theorem dX5_plain_14 : decode cX5_plain 14 = .ok (.aload 4, 2) := by decide +kernel
theorem dX5_plain_16 : decode cX5_plain 16 = .ok (.invokevirtual 120, 3) := by decide +kernel
theorem dX5_plain_19 : decode cX5_plain 19 = .ok (.aload_n 0, 1) := by decide +kernel
theorem dX5_plain_20 : decode cX5_plain 20 = .ok (.getfield 33, 3) := by decide +kernel
theorem dX5_plain_23 : decode cX5_plain 23 = .ok (.getfield 124, 3) := by decide +kernel
theorem dX5_plain_26 : decode cX5_plain 26 = .ok (.getfield 45, 3) := by decide +kernel
theorem dX5_plain_29 : decode cX5_plain 29 = .ok (.aload 4, 2) := by decide +kernel
theorem dX5_plain_31 : decode cX5_plain 31 = .ok (.iconst 1, 1) := by decide +kernel
theorem dX5_plain_32 : decode cX5_plain 32 = .ok (.invokestatic 102, 3) := by decide +kernel
theorem dX5_plain_35 : decode cX5_plain 35 = .ok (.invokestatic 49, 3) := by decide +kernel
theorem dX5_plain_38 : decode cX5_plain 38 = .ok (.aload_n 0, 1) := by decide +kernel
theorem dX5_plain_39 : decode cX5_plain 39 = .ok (.getfield 33, 3) := by decide +kernel
theorem dX5_plain_42 : decode cX5_plain 42 = .ok (.getfield 124, 3) := by decide +kernel
theorem dX5_plain_45 : decode cX5_plain 45 = .ok (.aload 4, 2) := by decide +kernel
theorem dX5_plain_47 : decode cX5_plain 47 = .ok (.iconst 1, 1) := by decide +kernel
theorem dX5_plain_48 : decode cX5_plain 48 = .ok (.aload_n 3, 1) := by decide +kernel
theorem dX5_plain_49 : decode cX5_plain 49 = .ok (.invokestatic 108, 3) := by decide +kernel
theorem dX5_plain_52 : decode cX5_plain 52 = .ok (.aload_n 3, 1) := by decide +kernel
theorem dX5_plain_53 : decode cX5_plain 53 = .ok (.getfield 45, 3) := by decide +kernel
theorem dX5_plain_56 : decode cX5_plain 56 = .ok (.ireturn, 1) := by decide +kernel
set_option maxRecDepth 20000 in
theorem ggX5_letterShare_X5_rowAt : GoodIn wsX5_letterShare wsX5_rowAt := goodIn_ca (goodIn_r _ [5, 6, 7, 8, 44, 45, 46, 47, 48] (by decide +kernel) (by decide +kernel)) (goodIn_sub (fun _ h => List.mem_cons_of_mem _ (List.mem_append_left _ (List.mem_append_left _ (List.mem_append_left _ (List.mem_append_right _ h))))) (by decide +kernel))
set_option maxRecDepth 20000 in
theorem gX5_letterShare_X5_rowAt : GoodIn wsX5_letterShare (wsV RX5 37 RX5 yX5_rowAt wsX5_rowAt) := goodIn_app (goodIn_of _ (by decide +kernel)) ggX5_letterShare_X5_rowAt
set_option maxRecDepth 20000 in
theorem ggX5_letterShare_X5_kindAt : GoodIn wsX5_letterShare wsX5_kindAt := goodIn_ca (goodIn_r _ [11, 12, 13, 14] (by decide +kernel) (by decide +kernel)) (goodIn_sub (fun _ h => List.mem_cons_of_mem _ (List.mem_append_left _ (List.mem_append_left _ (List.mem_append_right _ h)))) (by decide +kernel))
set_option maxRecDepth 20000 in
theorem gX5_letterShare_X5_kindAt : GoodIn wsX5_letterShare (va_wsS RX5 98 yX5_kindAt wsX5_kindAt) := goodIn_app (goodIn_of _ (by decide +kernel)) ggX5_letterShare_X5_kindAt
set_option maxRecDepth 20000 in
theorem ggX5_letterShare_X5_checkNotEmpty : GoodIn wsX5_letterShare wsX5_checkNotEmpty := goodIn_ca (goodIn_r _ [17, 18, 19, 42, 43] (by decide +kernel) (by decide +kernel)) (goodIn_sub (fun _ h => List.mem_cons_of_mem _ (List.mem_append_left _ (List.mem_append_right _ h))) (by decide +kernel))
set_option maxRecDepth 20000 in
theorem gX5_letterShare_X5_checkNotEmpty : GoodIn wsX5_letterShare (va_wsS RX5 141 yX5_checkNotEmpty wsX5_checkNotEmpty) := goodIn_app (goodIn_of _ (by decide +kernel)) ggX5_letterShare_X5_checkNotEmpty
set_option maxRecDepth 20000 in
theorem ggX5_letterShare_X2_countLetters : GoodIn wsX5_letterShare wsX2_countLetters := goodIn_ca (goodIn_r _ [24, 25, 26, 27, 23, 28, 29, 30, 31, 32, 33, 34, 35, 36, 37, 38, 39, 40, 41, 42, 43] (by decide +kernel) (by decide +kernel)) (goodIn_sub (fun _ h => List.mem_cons_of_mem _ (List.mem_append_right _ h)) (by decide +kernel))
set_option maxRecDepth 20000 in
theorem gX5_letterShare_X2_countLetters : GoodIn wsX5_letterShare (wsV RX5 133 RX2 yX2_countLetters wsX2_countLetters) := goodIn_app (goodIn_of _ (by decide +kernel)) ggX5_letterShare_X2_countLetters
theorem dX5_letterShare_0 : decode cX5_letterShare 0 = .ok (.aload_n 0, 1) := by decide +kernel
theorem dX5_letterShare_1 : decode cX5_letterShare 1 = .ok (.iload_n 1, 1) := by decide +kernel
theorem dX5_letterShare_2 : decode cX5_letterShare 2 = .ok (.invokevirtual 37, 3) := by decide +kernel
theorem dX5_letterShare_5 : decode cX5_letterShare 5 = .ok (.astore_n 3, 1) := by decide +kernel
theorem dX5_letterShare_6 : decode cX5_letterShare 6 = .ok (.iload_n 2, 1) := by decide +kernel
theorem dX5_letterShare_7 : decode cX5_letterShare 7 = .ok (.invokestatic 98, 3) := by decide +kernel
theorem dX5_letterShare_10 : decode cX5_letterShare 10 = .ok (.astore 4, 2) := by decide +kernel
theorem dX5_letterShare_12 : decode cX5_letterShare 12 = .ok (.aload_n 3, 1) := by decide +kernel
theorem dX5_letterShare_13 : decode cX5_letterShare 13 = .ok (.invokestatic 141, 3) := by decide +kernel
theorem dX5_letterShare_16 : decode cX5_letterShare 16 = .ok (.aload_n 3, 1) := by decide +kernel
theorem dX5_letterShare_17 : decode cX5_letterShare 17 = .ok (.aload 4, 2) := by decide +kernel
theorem dX5_letterShare_19 : decode cX5_letterShare 19 = .ok (.aload_n 3, 1) := by decide +kernel
theorem dX5_letterShare_20 : decode cX5_letterShare 20 = .ok (.getfield 45, 3) := by decide +kernel
theorem dX5_letterShare_23 : decode cX5_letterShare 23 = .ok (.invokevirtual 133, 3) := by decide +kernel
theorem dX5_letterShare_26 : decode cX5_letterShare 26 = .ok (.i2f, 1) := by decide +kernel
theorem dX5_letterShare_27 : decode cX5_letterShare 27 = .ok (.aload_n 3, 1) := by decide +kernel
theorem dX5_letterShare_28 : decode cX5_letterShare 28 = .ok (.getfield 45, 3) := by decide +kernel
theorem dX5_letterShare_31 : decode cX5_letterShare 31 = .ok (.i2f, 1) := by decide +kernel
theorem dX5_letterShare_32 : decode cX5_letterShare 32 = .ok (.fdiv, 1) := by decide +kernel
theorem dX5_letterShare_33 : decode cX5_letterShare 33 = .ok (.freturn, 1) := by decide +kernel
set_option maxRecDepth 20000 in
theorem ggX5_growth_X5_rowAt : GoodIn wsX5_growth wsX5_rowAt := goodIn_ca (goodIn_r _ [5, 6, 7, 8, 29, 30, 31, 32, 33] (by decide +kernel) (by decide +kernel)) (goodIn_sub (fun _ h => List.mem_cons_of_mem _ (List.mem_append_left _ (List.mem_append_left _ (List.mem_append_right _ h)))) (by decide +kernel))
set_option maxRecDepth 20000 in
theorem gX5_growth_X5_rowAt : GoodIn wsX5_growth (wsV RX5 37 RX5 yX5_rowAt wsX5_rowAt) := goodIn_app (goodIn_of _ (by decide +kernel)) ggX5_growth_X5_rowAt
set_option maxRecDepth 20000 in
theorem ggX5_growth_X5_kindAt : GoodIn wsX5_growth wsX5_kindAt := goodIn_ca (goodIn_r _ [11, 12, 13, 14] (by decide +kernel) (by decide +kernel)) (goodIn_sub (fun _ h => List.mem_cons_of_mem _ (List.mem_append_left _ (List.mem_append_right _ h))) (by decide +kernel))
set_option maxRecDepth 20000 in
theorem gX5_growth_X5_kindAt : GoodIn wsX5_growth (va_wsS RX5 98 yX5_kindAt wsX5_kindAt) := goodIn_app (goodIn_of _ (by decide +kernel)) ggX5_growth_X5_kindAt
set_option maxRecDepth 20000 in
theorem ggX5_growth_X5_checkNotEmpty : GoodIn wsX5_growth wsX5_checkNotEmpty := goodIn_ca (goodIn_r _ [17, 18, 19, 27, 28] (by decide +kernel) (by decide +kernel)) (goodIn_sub (fun _ h => List.mem_cons_of_mem _ (List.mem_append_right _ h)) (by decide +kernel))
set_option maxRecDepth 20000 in
theorem gX5_growth_X5_checkNotEmpty : GoodIn wsX5_growth (va_wsS RX5 141 yX5_checkNotEmpty wsX5_checkNotEmpty) := goodIn_app (goodIn_of _ (by decide +kernel)) ggX5_growth_X5_checkNotEmpty
set_option maxRecDepth 20000 in
theorem ggX5_growth_X4_lengthOf : GoodIn wsX5_growth wsX4_lengthOf := goodIn_r _ [23, 24, 25, 22, 26] (by decide +kernel) (by decide +kernel)
set_option maxRecDepth 20000 in
theorem gX5_growth_X4_lengthOf : GoodIn wsX5_growth (va_wsS RX5 102 yX4_lengthOf wsX4_lengthOf) := goodIn_app (goodIn_of _ (by decide +kernel)) ggX5_growth_X4_lengthOf
theorem dX5_growth_0 : decode cX5_growth 0 = .ok (.aload_n 0, 1) := by decide +kernel
theorem dX5_growth_1 : decode cX5_growth 1 = .ok (.iload_n 1, 1) := by decide +kernel
theorem dX5_growth_2 : decode cX5_growth 2 = .ok (.invokevirtual 37, 3) := by decide +kernel
theorem dX5_growth_5 : decode cX5_growth 5 = .ok (.astore_n 3, 1) := by decide +kernel
theorem dX5_growth_6 : decode cX5_growth 6 = .ok (.iload_n 2, 1) := by decide +kernel
theorem dX5_growth_7 : decode cX5_growth 7 = .ok (.invokestatic 98, 3) := by decide +kernel
theorem dX5_growth_10 : decode cX5_growth 10 = .ok (.astore 4, 2) := by decide +kernel
theorem dX5_growth_12 : decode cX5_growth 12 = .ok (.aload_n 3, 1) := by decide +kernel
theorem dX5_growth_13 : decode cX5_growth 13 = .ok (.invokestatic 141, 3) := by decide +kernel
theorem dX5_growth_16 : decode cX5_growth 16 = .ok (.aload_n 3, 1) := by decide +kernel
theorem dX5_growth_17 : decode cX5_growth 17 = .ok (.getfield 45, 3) := by decide +kernel
theorem dX5_growth_20 : decode cX5_growth 20 = .ok (.aload 4, 2) := by decide +kernel
theorem dX5_growth_22 : decode cX5_growth 22 = .ok (.iconst 1, 1) := by decide +kernel
theorem dX5_growth_23 : decode cX5_growth 23 = .ok (.invokestatic 102, 3) := by decide +kernel
theorem dX5_growth_26 : decode cX5_growth 26 = .ok (.i2d, 1) := by decide +kernel
theorem dX5_growth_27 : decode cX5_growth 27 = .ok (.aload_n 3, 1) := by decide +kernel
theorem dX5_growth_28 : decode cX5_growth 28 = .ok (.getfield 45, 3) := by decide +kernel
theorem dX5_growth_31 : decode cX5_growth 31 = .ok (.i2d, 1) := by decide +kernel
theorem dX5_growth_32 : decode cX5_growth 32 = .ok (.ddiv, 1) := by decide +kernel
theorem dX5_growth_33 : decode cX5_growth 33 = .ok (.dreturn, 1) := by decide +kernel
set_option maxRecDepth 20000 in
theorem ggX5_checksum_X2_addTo : GoodIn wsX5_checksum wsX2_addTo := goodIn_ca (goodIn_r _ [7, 8, 9, 10, 11, 12, 6, 13, 14, 20, 21] (by decide +kernel) (by decide +kernel)) (goodIn_sub (fun _ h => List.mem_cons_of_mem _ (List.mem_append_right _ h)) (by decide +kernel))
set_option maxRecDepth 20000 in
theorem gX5_checksum_X2_addTo : GoodIn wsX5_checksum (wsV RX5 146 RX2 yX2_addTo wsX2_addTo) := goodIn_app (goodIn_of _ (by decide +kernel)) ggX5_checksum_X2_addTo
theorem dX5_checksum_0 : decode cX5_checksum 0 = .ok (.ldc2_w 144, 3) := by decide +kernel
theorem dX5_checksum_3 : decode cX5_checksum 3 = .ok (.lstore_n 1, 1) := by decide +kernel
theorem dX5_checksum_4 : decode cX5_checksum 4 = .ok (.iconst 0, 1) := by decide +kernel
theorem dX5_checksum_5 : decode cX5_checksum 5 = .ok (.istore_n 3, 1) := by decide +kernel
theorem dX5_checksum_6 : decode cX5_checksum 6 = .ok (.iload_n 3, 1) := by decide +kernel
theorem dX5_checksum_7 : decode cX5_checksum 7 = .ok (.aload_n 0, 1) := by decide +kernel
theorem dX5_checksum_8 : decode cX5_checksum 8 = .ok (.getfield 11, 3) := by decide +kernel
theorem dX5_checksum_11 : decode cX5_checksum 11 = .ok (.arraylength, 1) := by decide +kernel
theorem dX5_checksum_12 : decode cX5_checksum 12 = .ok (.if_icmp .ge 20, 3) := by decide +kernel
theorem dX5_checksum_15 : decode cX5_checksum 15 = .ok (.aload_n 0, 1) := by decide +kernel
theorem dX5_checksum_16 : decode cX5_checksum 16 = .ok (.getfield 11, 3) := by decide +kernel
theorem dX5_checksum_19 : decode cX5_checksum 19 = .ok (.iload_n 3, 1) := by decide +kernel
theorem dX5_checksum_20 : decode cX5_checksum 20 = .ok (.aaload, 1) := by decide +kernel
theorem dX5_checksum_21 : decode cX5_checksum 21 = .ok (.lload_n 1, 1) := by decide +kernel
theorem dX5_checksum_22 : decode cX5_checksum 22 = .ok (.invokevirtual 146, 3) := by decide +kernel
theorem dX5_checksum_25 : decode cX5_checksum 25 = .ok (.lstore_n 1, 1) := by decide +kernel
theorem dX5_checksum_26 : decode cX5_checksum 26 = .ok (.iinc 3 1, 3) := by decide +kernel
theorem dX5_checksum_29 : decode cX5_checksum 29 = .ok (.goto (-23), 3) := by decide +kernel
theorem dX5_checksum_32 : decode cX5_checksum 32 = .ok (.lload_n 1, 1) := by decide +kernel
theorem dX5_checksum_33 : decode cX5_checksum 33 = .ok (.lreturn, 1) := by decide +kernel
set_option maxRecDepth 20000 in
theorem ggX5_isTrue_X5_areKindsAlike : GoodIn wsX5_isTrue wsX5_areKindsAlike := goodIn_ca (goodIn_r _ [7, 8, 9, 10, 11, 12, 13, 14, 15, 16, 17, 18, 19, 20, 21, 22, 23, 24, 25, 26, 27, 28, 29, 30, 31, 32, 33, 34, 35, 36, 37, 38, 39, 40, 41, 42, 43, 44, 45, 46, 47, 48, 49, 50, 51, 52, 53, 54, 55, 56, 57, 58, 59, 60, 61, 62, 63, 64, 65, 66, 337, 338, 339, 340, 341, 342, 343] (by decide +kernel) (by decide +kernel)) (goodIn_sub (fun _ h => List.mem_cons_of_mem _ (List.mem_append_right _ h)) (by decide +kernel))
set_option maxRecDepth 20000 in
theorem gX5_isTrue_X5_areKindsAlike : GoodIn wsX5_isTrue (wsV RX5 150 RX5 yX5_areKindsAlike wsX5_areKindsAlike) := goodIn_app (goodIn_of _ (by decide +kernel)) ggX5_isTrue_X5_areKindsAlike
set_option maxRecDepth 20000 in
theorem ggX5_isTrue_X5_isTrueOf : GoodIn wsX5_isTrue wsX5_isTrueOf := goodIn_ca (goodIn_r _ [70, 9, 11, 13, 14, 15, 16, 17, 18, 19, 20, 21, 22, 23, 24, 25, 26, 27, 28, 29, 30, 31, 32, 33, 34, 35, 36, 37, 38, 39, 40, 41, 42, 43, 44, 45, 46, 47, 48, 49, 50, 71, 72, 73, 74, 75, 76, 77, 78, 57, 79, 80, 81, 82, 83, 84, 85, 6, 86, 87, 88, 89, 90, 91, 92, 93, 94, 95, 96, 97, 98, 99, 100, 101, 102, 103, 104, 105, 106, 107, 108, 109, 110, 111, 112, 113, 114, 115, 116, 117, 118, 119, 120, 121, 122, 123, 124, 125, 126, 127, 128, 129, 130, 131, 132, 133, 134, 135, 136, 137, 138, 139, 140, 141, 142, 143, 144, 145, 146, 147, 148, 149, 150, 151, 152, 153, 154, 155, 156, 157, 158, 159, 160, 161, 162, 163, 164, 165, 166, 167, 168, 169, 170, 171, 172, 173, 174, 175, 176, 177, 178, 179, 180, 181, 182, 183, 184, 185, 186, 187, 188, 189, 190, 191, 192, 193, 194, 195, 196, 197, 198, 199, 200, 201, 202, 203, 204, 205, 206, 207, 208, 209, 210, 211, 212, 213, 214, 215, 216, 217, 218, 219, 220, 221, 222, 223, 224, 225, 226, 227, 228, 229, 230, 231, 232, 233, 234, 235, 236, 237, 238, 239, 240, 241, 242, 243, 244, 245, 246, 247, 248, 249, 250, 251, 252, 253, 254, 255, 256, 257, 258, 259, 260, 261, 262, 263, 264, 265, 266, 267, 268, 269, 270, 271, 272, 273, 274, 275, 276, 277, 278, 59, 60, 61, 279, 280, 281, 282, 283, 284, 285, 286, 287, 288, 289, 290, 291, 292, 293, 294, 295, 296, 297, 298, 299, 300, 301, 302, 303, 304, 305, 306, 307, 308, 309, 310, 311, 312, 313, 314, 315, 316, 317, 318, 319, 320, 321, 322, 323, 324, 325, 326, 327, 328, 329, 330, 331, 332, 333, 334, 335, 336, 337, 338, 339, 340, 341, 342, 343, 344, 345, 346, 347, 348, 349, 350, 351, 352, 353, 354, 355, 356, 357, 358, 359, 360, 361, 362] (by decide +kernel) (by decide +kernel)) (goodIn_sub (fun _ h => List.mem_cons_of_mem _ (List.mem_append_right _ h)) (by decide +kernel))
set_option maxRecDepth 20000 in
theorem gX5_isTrue_X5_isTrueOf : GoodIn wsX5_isTrue (wsV RX5 158 RX5 yX5_isTrueOf wsX5_isTrueOf) := goodIn_app (goodIn_of _ (by decide +kernel)) ggX5_isTrue_X5_isTrueOf
theorem dX5_isTrue_0 : decode cX5_isTrue 0 = .ok (.iconst 0, 1) := by decide +kernel
theorem dX5_isTrue_1 : decode cX5_isTrue 1 = .ok (.istore_n 1, 1) := by decide +kernel
theorem dX5_isTrue_2 : decode cX5_isTrue 2 = .ok (.iload_n 1, 1) := by decide +kernel
theorem dX5_isTrue_3 : decode cX5_isTrue 3 = .ok (.aload_n 0, 1) := by decide +kernel
theorem dX5_isTrue_4 : decode cX5_isTrue 4 = .ok (.getfield 11, 3) := by decide +kernel
theorem dX5_isTrue_7 : decode cX5_isTrue 7 = .ok (.arraylength, 1) := by decide +kernel
theorem dX5_isTrue_8 : decode cX5_isTrue 8 = .ok (.if_icmp .ge 75, 3) := by decide +kernel
theorem dX5_isTrue_11 : decode cX5_isTrue 11 = .ok (.aload_n 0, 1) := by decide +kernel
theorem dX5_isTrue_12 : decode cX5_isTrue 12 = .ok (.aload_n 0, 1) := by decide +kernel
theorem dX5_isTrue_13 : decode cX5_isTrue 13 = .ok (.getfield 11, 3) := by decide +kernel
theorem dX5_isTrue_16 : decode cX5_isTrue 16 = .ok (.iload_n 1, 1) := by decide +kernel
theorem dX5_isTrue_17 : decode cX5_isTrue 17 = .ok (.aaload, 1) := by decide +kernel
theorem dX5_isTrue_18 : decode cX5_isTrue 18 = .ok (.iconst 1, 1) := by decide +kernel
theorem dX5_isTrue_19 : decode cX5_isTrue 19 = .ok (.invokevirtual 150, 3) := by decide +kernel
theorem dX5_isTrue_22 : decode cX5_isTrue 22 = .ok (.ifCond .eq 17, 3) := by decide +kernel
theorem dX5_isTrue_25 : decode cX5_isTrue 25 = .ok (.aload_n 0, 1) := by decide +kernel
theorem dX5_isTrue_26 : decode cX5_isTrue 26 = .ok (.aload_n 0, 1) := by decide +kernel
theorem dX5_isTrue_27 : decode cX5_isTrue 27 = .ok (.getfield 11, 3) := by decide +kernel
theorem dX5_isTrue_30 : decode cX5_isTrue 30 = .ok (.iload_n 1, 1) := by decide +kernel
theorem dX5_isTrue_31 : decode cX5_isTrue 31 = .ok (.aaload, 1) := by decide +kernel
theorem dX5_isTrue_32 : decode cX5_isTrue 32 = .ok (.iconst 0, 1) := by decide +kernel
theorem dX5_isTrue_33 : decode cX5_isTrue 33 = .ok (.invokevirtual 150, 3) := by decide +kernel
theorem dX5_isTrue_36 : decode cX5_isTrue 36 = .ok (.ifCond .ne 5, 3) := by decide +kernel
theorem dX5_isTrue_41 : decode cX5_isTrue 41 = .ok (.iconst 0, 1) := by decide +kernel
theorem dX5_isTrue_42 : decode cX5_isTrue 42 = .ok (.istore_n 2, 1) := by decide +kernel
theorem dX5_isTrue_43 : decode cX5_isTrue 43 = .ok (.iload_n 2, 1) := by decide +kernel
theorem dX5_isTrue_44 : decode cX5_isTrue 44 = .ok (.getstatic 154, 3) := by decide +kernel
theorem dX5_isTrue_47 : decode cX5_isTrue 47 = .ok (.arraylength, 1) := by decide +kernel
theorem dX5_isTrue_48 : decode cX5_isTrue 48 = .ok (.if_icmp .ge 29, 3) := by decide +kernel
theorem dX5_isTrue_51 : decode cX5_isTrue 51 = .ok (.aload_n 0, 1) := by decide +kernel
theorem dX5_isTrue_52 : decode cX5_isTrue 52 = .ok (.aload_n 0, 1) := by decide +kernel
theorem dX5_isTrue_53 : decode cX5_isTrue 53 = .ok (.getfield 11, 3) := by decide +kernel
theorem dX5_isTrue_56 : decode cX5_isTrue 56 = .ok (.iload_n 1, 1) := by decide +kernel
theorem dX5_isTrue_57 : decode cX5_isTrue 57 = .ok (.aaload, 1) := by decide +kernel
theorem dX5_isTrue_58 : decode cX5_isTrue 58 = .ok (.getstatic 154, 3) := by decide +kernel
theorem dX5_isTrue_61 : decode cX5_isTrue 61 = .ok (.iload_n 2, 1) := by decide +kernel
theorem dX5_isTrue_62 : decode cX5_isTrue 62 = .ok (.aaload, 1) := by decide +kernel
theorem dX5_isTrue_63 : decode cX5_isTrue 63 = .ok (.invokevirtual 158, 3) := by decide +kernel
theorem dX5_isTrue_66 : decode cX5_isTrue 66 = .ok (.ifCond .ne 5, 3) := by decide +kernel
theorem dX5_isTrue_71 : decode cX5_isTrue 71 = .ok (.iinc 2 1, 3) := by decide +kernel
theorem dX5_isTrue_74 : decode cX5_isTrue 74 = .ok (.goto (-31), 3) := by decide +kernel
theorem dX5_isTrue_77 : decode cX5_isTrue 77 = .ok (.iinc 1 1, 3) := by decide +kernel
theorem dX5_isTrue_80 : decode cX5_isTrue 80 = .ok (.goto (-78), 3) := by decide +kernel
theorem dX5_isTrue_83 : decode cX5_isTrue 83 = .ok (.iconst 1, 1) := by decide +kernel
theorem dX5_isTrue_84 : decode cX5_isTrue 84 = .ok (.ireturn, 1) := by decide +kernel
set_option maxRecDepth 20000 in
theorem ggX5_isTrueOf_X4_writeBytes : GoodIn wsX5_isTrueOf wsX4_writeBytes := goodIn_ca (goodIn_r _ [6, 7, 8, 5, 9, 10, 11, 12, 13, 14, 15, 16, 17, 18, 19, 20, 21, 22, 23, 24, 25, 26, 27, 28, 29, 30, 31, 32, 33, 34, 35, 36, 37, 38, 39, 40, 317, 318] (by decide +kernel) (by decide +kernel)) (goodIn_sub (fun _ h => List.mem_cons_of_mem _ (List.mem_append_right _ h)) (by decide +kernel))
set_option maxRecDepth 20000 in
theorem gX5_isTrueOf_X4_writeBytes : GoodIn wsX5_isTrueOf (va_wsS RX5 108 yX4_writeBytes wsX4_writeBytes) := goodIn_app (goodIn_of _ (by decide +kernel)) ggX5_isTrueOf_X4_writeBytes
set_option maxRecDepth 20000 in
theorem ggX5_isTrueOf_X2_isBeginningAndFilling : GoodIn wsX5_isTrueOf wsX2_isBeginningAndFilling := goodIn_ca (goodIn_r _ [44, 18, 45, 46, 47, 16, 48, 49, 26, 27, 28, 29, 50, 51, 52, 53, 317, 318] (by decide +kernel) (by decide +kernel)) (goodIn_sub (fun _ h => List.mem_cons_of_mem _ (List.mem_append_right _ h)) (by decide +kernel))
set_option maxRecDepth 20000 in
theorem gX5_isTrueOf_X2_isBeginningAndFilling : GoodIn wsX5_isTrueOf (wsV RX5 161 RX2 yX2_isBeginningAndFilling wsX2_isBeginningAndFilling) := goodIn_app (goodIn_of _ (by decide +kernel)) ggX5_isTrueOf_X2_isBeginningAndFilling
set_option maxRecDepth 20000 in
theorem ggX5_isTrueOf_X5_isTextLike : GoodIn wsX5_isTrueOf wsX5_isTextLike := goodIn_ca (goodIn_r _ [58, 59, 60, 61, 5, 62, 7, 8, 9, 10, 11, 12, 63, 64, 65, 66, 67, 68, 69, 70, 71, 72, 73, 74, 75, 76, 77, 78, 79, 80, 81, 82, 83, 84, 85, 86, 87, 88, 89, 90, 91, 92, 93, 94, 95, 96, 97, 98, 99, 100, 101, 102, 103, 104, 105, 106, 107, 108, 109, 110, 111, 112, 113, 114, 115, 116, 117, 118, 119, 120, 121, 122, 123, 124, 125, 126, 127, 128, 129, 130, 131, 132, 133, 134, 135, 136, 137, 138, 139, 140, 141, 142, 143, 144, 145, 146, 147, 19, 20, 21, 22, 23, 24, 25, 26, 27, 16, 28, 18, 29, 30, 31, 32, 33, 34, 35, 36, 148, 149, 150, 151, 152, 153, 154, 155, 156, 157, 158, 159, 160, 161, 162, 163, 164, 165, 166, 167, 168, 169, 170, 171, 172, 173, 174, 175, 176, 177, 178, 179, 180, 181, 182, 183, 184, 185, 186, 187, 188, 189, 190, 191, 192, 193, 194, 195, 196, 197, 198, 199, 200, 201, 202, 203, 204, 205, 206, 207, 208, 209, 210, 211, 212, 213, 214, 215, 216, 217, 218, 219, 220, 221, 49, 222, 223, 224, 225, 226, 227, 228, 229, 230, 231, 232, 233, 234, 312, 313, 314, 315, 316, 317, 318, 319, 320, 321, 322, 323, 324, 325, 326, 327, 328, 329, 330, 331, 332, 333, 334] (by decide +kernel) (by decide +kernel)) (goodIn_sub (fun _ h => List.mem_cons_of_mem _ (List.mem_append_right _ h)) (by decide +kernel))
set_option maxRecDepth 20000 in
theorem gX5_isTrueOf_X5_isTextLike : GoodIn wsX5_isTrueOf (wsV RX5 164 RX5 yX5_isTextLike wsX5_isTextLike) := goodIn_app (goodIn_of _ (by decide +kernel)) ggX5_isTrueOf_X5_isTextLike
set_option maxRecDepth 20000 in
theorem ggX5_isTrueOf_X5_isReadAs : GoodIn wsX5_isTrueOf wsX5_isReadAs := goodIn_ca (goodIn_r _ [238, 239, 240, 241, 242, 243, 244, 245, 246, 247, 248, 14, 15, 16, 17, 18, 249, 26, 27, 28, 29, 250, 251, 252, 33, 253, 35, 36, 254, 255, 256, 257, 258, 259, 260, 261, 262, 38, 39, 40, 263, 264, 265, 266, 267, 268, 269, 270, 271, 272, 273, 274, 275, 45, 46, 47, 48, 49, 312, 313, 314, 315, 316, 335, 336, 337, 317, 318] (by decide +kernel) (by decide +kernel)) (goodIn_sub (fun _ h => List.mem_cons_of_mem _ (List.mem_append_right _ h)) (by decide +kernel))
set_option maxRecDepth 20000 in
theorem gX5_isTrueOf_X5_isReadAs : GoodIn wsX5_isTrueOf (wsV RX5 168 RX5 yX5_isReadAs wsX5_isReadAs) := goodIn_app (goodIn_of _ (by decide +kernel)) ggX5_isTrueOf_X5_isReadAs
set_option maxRecDepth 20000 in
theorem ggX5_isTrueOf_X5_isReadAsTold : GoodIn wsX5_isTrueOf wsX5_isReadAsTold := goodIn_ca (goodIn_r _ [279, 239, 280, 281, 282, 283, 284, 285, 286, 16, 287, 18, 49, 26, 27, 28, 29, 288, 289, 290, 291, 292, 268, 269, 33, 270, 271, 251, 252, 253, 35, 36, 293, 51, 52, 53, 294, 295, 296, 297, 298, 299, 300, 301, 302, 303, 304, 305, 306, 307, 308, 309, 310, 311, 240, 241, 242, 243, 244, 245, 246, 247, 248, 14, 15, 17, 249, 250, 254, 255, 256, 257, 258, 259, 260, 261, 262, 38, 39, 40, 263, 264, 265, 266, 267, 312, 313, 314, 315, 316, 335, 336, 337, 317, 318] (by decide +kernel) (by decide +kernel)) (goodIn_sub (fun _ h => List.mem_cons_of_mem _ (List.mem_append_right _ h)) (by decide +kernel))
set_option maxRecDepth 20000 in
theorem gX5_isTrueOf_X5_isReadAsTold : GoodIn wsX5_isTrueOf (wsV RX5 172 RX5 yX5_isReadAsTold wsX5_isReadAsTold) := goodIn_app (goodIn_of _ (by decide +kernel)) ggX5_isTrueOf_X5_isReadAsTold
theorem dX5_isTrueOf_0 : decode cX5_isTrueOf 0 = .ok (.aload_n 1, 1) := by decide +kernel
theorem dX5_isTrueOf_1 : decode cX5_isTrueOf 1 = .ok (.aload_n 2, 1) := by decide +kernel
theorem dX5_isTrueOf_2 : decode cX5_isTrueOf 2 = .ok (.iconst 1, 1) := by decide +kernel
theorem dX5_isTrueOf_3 : decode cX5_isTrueOf 3 = .ok (.aload_n 0, 1) := by decide +kernel
theorem dX5_isTrueOf_4 : decode cX5_isTrueOf 4 = .ok (.getfield 16, 3) := by decide +kernel
theorem dX5_isTrueOf_7 : decode cX5_isTrueOf 7 = .ok (.invokestatic 108, 3) := by decide +kernel
theorem dX5_isTrueOf_10 : decode cX5_isTrueOf 10 = .ok (.aload_n 1, 1) := by decide +kernel
theorem dX5_isTrueOf_11 : decode cX5_isTrueOf 11 = .ok (.aload_n 2, 1) := by decide +kernel
theorem dX5_isTrueOf_12 : decode cX5_isTrueOf 12 = .ok (.iconst 0, 1) := by decide +kernel
theorem dX5_isTrueOf_13 : decode cX5_isTrueOf 13 = .ok (.aload_n 0, 1) := by decide +kernel
theorem dX5_isTrueOf_14 : decode cX5_isTrueOf 14 = .ok (.getfield 20, 3) := by decide +kernel
theorem dX5_isTrueOf_17 : decode cX5_isTrueOf 17 = .ok (.invokestatic 108, 3) := by decide +kernel
theorem dX5_isTrueOf_20 : decode cX5_isTrueOf 20 = .ok (.aload_n 0, 1) := by decide +kernel
theorem dX5_isTrueOf_21 : decode cX5_isTrueOf 21 = .ok (.getfield 16, 3) := by decide +kernel
theorem dX5_isTrueOf_24 : decode cX5_isTrueOf 24 = .ok (.aload_n 0, 1) := by decide +kernel
theorem dX5_isTrueOf_25 : decode cX5_isTrueOf 25 = .ok (.getfield 20, 3) := by decide +kernel
theorem dX5_isTrueOf_28 : decode cX5_isTrueOf 28 = .ok (.invokevirtual 161, 3) := by decide +kernel
theorem dX5_isTrueOf_31 : decode cX5_isTrueOf 31 = .ok (.ifCond .eq 70, 3) := by decide +kernel
theorem dX5_isTrueOf_34 : decode cX5_isTrueOf 34 = .ok (.aload_n 0, 1) := by decide +kernel
theorem dX5_isTrueOf_35 : decode cX5_isTrueOf 35 = .ok (.aload_n 1, 1) := by decide +kernel
theorem dX5_isTrueOf_36 : decode cX5_isTrueOf 36 = .ok (.aload_n 2, 1) := by decide +kernel
theorem dX5_isTrueOf_37 : decode cX5_isTrueOf 37 = .ok (.iconst 1, 1) := by decide +kernel
theorem dX5_isTrueOf_38 : decode cX5_isTrueOf 38 = .ok (.aload_n 0, 1) := by decide +kernel
theorem dX5_isTrueOf_39 : decode cX5_isTrueOf 39 = .ok (.getfield 16, 3) := by decide +kernel
theorem dX5_isTrueOf_42 : decode cX5_isTrueOf 42 = .ok (.invokevirtual 164, 3) := by decide +kernel
theorem dX5_isTrueOf_45 : decode cX5_isTrueOf 45 = .ok (.ifCond .eq 56, 3) := by decide +kernel
theorem dX5_isTrueOf_48 : decode cX5_isTrueOf 48 = .ok (.aload_n 0, 1) := by decide +kernel
theorem dX5_isTrueOf_49 : decode cX5_isTrueOf 49 = .ok (.aload_n 1, 1) := by decide +kernel
theorem dX5_isTrueOf_50 : decode cX5_isTrueOf 50 = .ok (.aload_n 2, 1) := by decide +kernel
theorem dX5_isTrueOf_51 : decode cX5_isTrueOf 51 = .ok (.iconst 0, 1) := by decide +kernel
theorem dX5_isTrueOf_52 : decode cX5_isTrueOf 52 = .ok (.aload_n 0, 1) := by decide +kernel
theorem dX5_isTrueOf_53 : decode cX5_isTrueOf 53 = .ok (.getfield 20, 3) := by decide +kernel
theorem dX5_isTrueOf_56 : decode cX5_isTrueOf 56 = .ok (.invokevirtual 164, 3) := by decide +kernel
theorem dX5_isTrueOf_59 : decode cX5_isTrueOf 59 = .ok (.ifCond .eq 42, 3) := by decide +kernel
theorem dX5_isTrueOf_62 : decode cX5_isTrueOf 62 = .ok (.aload_n 0, 1) := by decide +kernel
theorem dX5_isTrueOf_63 : decode cX5_isTrueOf 63 = .ok (.aload_n 0, 1) := by decide +kernel
theorem dX5_isTrueOf_64 : decode cX5_isTrueOf 64 = .ok (.getfield 16, 3) := by decide +kernel
theorem dX5_isTrueOf_67 : decode cX5_isTrueOf 67 = .ok (.aload_n 2, 1) := by decide +kernel
theorem dX5_isTrueOf_68 : decode cX5_isTrueOf 68 = .ok (.aload_n 1, 1) := by decide +kernel
theorem dX5_isTrueOf_69 : decode cX5_isTrueOf 69 = .ok (.invokevirtual 168, 3) := by decide +kernel
theorem dX5_isTrueOf_72 : decode cX5_isTrueOf 72 = .ok (.ifCond .eq 29, 3) := by decide +kernel
theorem dX5_isTrueOf_75 : decode cX5_isTrueOf 75 = .ok (.aload_n 0, 1) := by decide +kernel
theorem dX5_isTrueOf_76 : decode cX5_isTrueOf 76 = .ok (.aload_n 0, 1) := by decide +kernel
theorem dX5_isTrueOf_77 : decode cX5_isTrueOf 77 = .ok (.getfield 20, 3) := by decide +kernel
theorem dX5_isTrueOf_80 : decode cX5_isTrueOf 80 = .ok (.aload_n 2, 1) := by decide +kernel
theorem dX5_isTrueOf_81 : decode cX5_isTrueOf 81 = .ok (.aload_n 1, 1) := by decide +kernel
theorem dX5_isTrueOf_82 : decode cX5_isTrueOf 82 = .ok (.invokevirtual 168, 3) := by decide +kernel
theorem dX5_isTrueOf_85 : decode cX5_isTrueOf 85 = .ok (.ifCond .eq 16, 3) := by decide +kernel
theorem dX5_isTrueOf_88 : decode cX5_isTrueOf 88 = .ok (.aload_n 0, 1) := by decide +kernel
theorem dX5_isTrueOf_89 : decode cX5_isTrueOf 89 = .ok (.aload_n 1, 1) := by decide +kernel
theorem dX5_isTrueOf_90 : decode cX5_isTrueOf 90 = .ok (.aload_n 2, 1) := by decide +kernel
theorem dX5_isTrueOf_91 : decode cX5_isTrueOf 91 = .ok (.invokevirtual 172, 3) := by decide +kernel
theorem dX5_isTrueOf_94 : decode cX5_isTrueOf 94 = .ok (.ifCond .eq 7, 3) := by decide +kernel
theorem dX5_isTrueOf_97 : decode cX5_isTrueOf 97 = .ok (.iconst 1, 1) := by decide +kernel
theorem dX5_isTrueOf_98 : decode cX5_isTrueOf 98 = .ok (.goto 4, 3) := by decide +kernel
theorem dX5_isTrueOf_102 : decode cX5_isTrueOf 102 = .ok (.ireturn, 1) := by decide +kernel
set_option maxRecDepth 20000 in
theorem ggX5_isTextLike_X4_writeSigns : GoodIn wsX5_isTextLike wsX4_writeSigns := goodIn_ca (goodIn_r _ [5, 6, 7, 4, 8, 9, 10, 11, 12, 13, 14, 15, 16, 17, 18, 19, 20, 21, 22, 23, 24, 25, 26, 27, 28, 29, 30, 31, 32, 33, 34, 35, 36, 37, 38, 39, 40, 41, 42, 43, 44, 45, 46, 47, 48, 49, 50, 51, 52, 53, 54, 55, 56, 57, 58, 59, 60, 61, 62, 63, 64, 65, 66, 67, 68, 69, 70, 71, 72, 73, 74, 75, 76, 77, 78, 79, 80, 81, 82, 83, 84, 85, 86, 87, 88, 89, 90, 91, 92, 93, 94, 95, 96, 97, 98, 99, 100, 101, 102, 103, 104, 105, 106, 107, 108, 109, 110, 111, 112, 113, 114, 115, 116, 117, 118, 119, 120, 121, 122, 123, 124, 125, 126, 127, 128, 129, 130, 131, 132, 133, 134, 135, 136, 137, 138, 139, 140, 141, 142, 143, 144, 145, 146, 147, 148, 149, 150, 151, 152, 153, 154, 155, 156, 157, 158, 159, 160, 161, 162, 163, 164, 165, 166, 167, 168, 169, 170, 171, 172, 173, 174, 175, 176, 177, 178, 210, 211, 212, 213, 214, 215, 216, 217, 218, 219, 220, 221, 222, 223, 224, 225, 226, 227] (by decide +kernel) (by decide +kernel)) (goodIn_sub (fun _ h => List.mem_cons_of_mem _ (List.mem_append_right _ h)) (by decide +kernel))
set_option maxRecDepth 20000 in
theorem gX5_isTextLike_X4_writeSigns : GoodIn wsX5_isTextLike (va_wsS RX5 112 yX4_writeSigns wsX4_writeSigns) := goodIn_app (goodIn_of _ (by decide +kernel)) ggX5_isTextLike_X4_writeSigns
set_option maxRecDepth 20000 in
theorem ggX5_isTextLike_X2_hasCodes : GoodIn wsX5_isTextLike wsX2_hasCodes := goodIn_ca (goodIn_r _ [182, 108, 183, 184, 185, 15, 186, 187, 188, 19, 189, 21, 190, 26, 191, 104, 105, 106, 107, 109, 192, 193, 194, 195, 196, 197, 198, 199, 34, 27, 200, 65, 47, 66, 201, 174, 154, 175, 156, 176, 177, 159, 178, 202, 203, 94, 204, 164, 165, 166, 149, 150, 151, 210, 211, 218, 219, 220, 221] (by decide +kernel) (by decide +kernel)) (goodIn_sub (fun _ h => List.mem_cons_of_mem _ (List.mem_append_right _ h)) (by decide +kernel))
set_option maxRecDepth 20000 in
theorem gX5_isTextLike_X2_hasCodes : GoodIn wsX5_isTextLike (wsV RX5 175 RX2 yX2_hasCodes wsX2_hasCodes) := goodIn_app (goodIn_of _ (by decide +kernel)) ggX5_isTextLike_X2_hasCodes
theorem dX5_isTextLike_0 : decode cX5_isTextLike 0 = .ok (.aload_n 1, 1) := by decide +kernel
theorem dX5_isTextLike_1 : decode cX5_isTextLike 1 = .ok (.aload_n 2, 1) := by decide +kernel
theorem dX5_isTextLike_2 : decode cX5_isTextLike 2 = .ok (.iload_n 3, 1) := by decide +kernel
theorem dX5_isTextLike_3 : decode cX5_isTextLike 3 = .ok (.aload_n 0, 1) := by decide +kernel
theorem dX5_isTextLike_4 : decode cX5_isTextLike 4 = .ok (.getfield 26, 3) := by decide +kernel
theorem dX5_isTextLike_7 : decode cX5_isTextLike 7 = .ok (.invokestatic 112, 3) := by decide +kernel
theorem dX5_isTextLike_10 : decode cX5_isTextLike 10 = .ok (.aload 4, 2) := by decide +kernel
theorem dX5_isTextLike_12 : decode cX5_isTextLike 12 = .ok (.aload_n 0, 1) := by decide +kernel
theorem dX5_isTextLike_13 : decode cX5_isTextLike 13 = .ok (.getfield 26, 3) := by decide +kernel
theorem dX5_isTextLike_16 : decode cX5_isTextLike 16 = .ok (.invokevirtual 175, 3) := by decide +kernel
theorem dX5_isTextLike_19 : decode cX5_isTextLike 19 = .ok (.ireturn, 1) := by decide +kernel
set_option maxRecDepth 20000 in
theorem ggX5_isReadAs_X1_accepts : GoodIn wsX5_isReadAs wsX1_accepts := goodIn_ca (goodIn_r _ [6, 7, 8, 9, 10, 11, 12, 13, 14, 15, 16, 17, 18, 19, 20, 21, 22, 23, 24, 25, 26, 27, 28, 29, 30, 5, 31, 32, 33, 34, 35, 36, 37, 38, 39, 40, 41, 42, 43, 44, 45, 46, 47, 48, 63, 64, 65, 66, 67] (by decide +kernel) (by decide +kernel)) (goodIn_sub (fun _ h => List.mem_cons_of_mem _ (List.mem_append_right _ h)) (by decide +kernel))
set_option maxRecDepth 20000 in
theorem gX5_isReadAs_X1_accepts : GoodIn wsX5_isReadAs (wsV RX5 137 RX1 yX1_accepts wsX1_accepts) := goodIn_app (goodIn_of _ (by decide +kernel)) ggX5_isReadAs_X1_accepts
set_option maxRecDepth 20000 in
theorem ggX5_isReadAs_X2_sameAs : GoodIn wsX5_isReadAs wsX2_sameAs := goodIn_ca (goodIn_r _ [52, 15, 53, 54, 55, 13, 56, 57, 17, 18, 19, 20, 66, 67] (by decide +kernel) (by decide +kernel)) (goodIn_sub (fun _ h => List.mem_cons_of_mem _ (List.mem_append_right _ h)) (by decide +kernel))
set_option maxRecDepth 20000 in
theorem gX5_isReadAs_X2_sameAs : GoodIn wsX5_isReadAs (wsV RX5 94 RX2 yX2_sameAs wsX2_sameAs) := goodIn_app (goodIn_of _ (by decide +kernel)) ggX5_isReadAs_X2_sameAs
theorem dX5_isReadAs_0 : decode cX5_isReadAs 0 = .ok (.aload_n 0, 1) := by decide +kernel
theorem dX5_isReadAs_1 : decode cX5_isReadAs 1 = .ok (.getfield 33, 3) := by decide +kernel
theorem dX5_isReadAs_4 : decode cX5_isReadAs 4 = .ok (.aload_n 1, 1) := by decide +kernel
theorem dX5_isReadAs_5 : decode cX5_isReadAs 5 = .ok (.aload_n 2, 1) := by decide +kernel
theorem dX5_isReadAs_6 : decode cX5_isReadAs 6 = .ok (.invokevirtual 137, 3) := by decide +kernel
theorem dX5_isReadAs_9 : decode cX5_isReadAs 9 = .ok (.ifCond .eq 21, 3) := by decide +kernel
theorem dX5_isReadAs_12 : decode cX5_isReadAs 12 = .ok (.aload_n 0, 1) := by decide +kernel
theorem dX5_isReadAs_13 : decode cX5_isReadAs 13 = .ok (.getfield 33, 3) := by decide +kernel
theorem dX5_isReadAs_16 : decode cX5_isReadAs 16 = .ok (.getfield 124, 3) := by decide +kernel
theorem dX5_isReadAs_19 : decode cX5_isReadAs 19 = .ok (.aload_n 3, 1) := by decide +kernel
theorem dX5_isReadAs_20 : decode cX5_isReadAs 20 = .ok (.invokevirtual 94, 3) := by decide +kernel
theorem dX5_isReadAs_23 : decode cX5_isReadAs 23 = .ok (.ifCond .eq 7, 3) := by decide +kernel
theorem dX5_isReadAs_26 : decode cX5_isReadAs 26 = .ok (.iconst 1, 1) := by decide +kernel
theorem dX5_isReadAs_27 : decode cX5_isReadAs 27 = .ok (.goto 4, 3) := by decide +kernel
theorem dX5_isReadAs_31 : decode cX5_isReadAs 31 = .ok (.ireturn, 1) := by decide +kernel
set_option maxRecDepth 20000 in
theorem ggX5_isReadAsTold_X3_tell : GoodIn wsX5_isReadAsTold wsX3_tell := goodIn_ca (goodIn_r _ [5, 6, 7, 8, 9, 10, 11, 12, 13, 14, 15, 16, 17, 18, 19, 20, 21, 22, 23, 24, 25, 26, 27, 28, 29, 30, 31, 32, 33, 34, 35, 36, 37, 4, 38, 39, 40, 41, 42, 43, 44, 45, 46, 47, 48, 49, 50, 51, 52, 53, 93, 94] (by decide +kernel) (by decide +kernel)) (goodIn_sub (fun _ h => List.mem_cons_of_mem _ (List.mem_append_right _ h)) (by decide +kernel))
set_option maxRecDepth 20000 in
theorem gX5_isReadAsTold_X3_tell : GoodIn wsX5_isReadAsTold (va_wsS RX5 127 yX3_tell wsX3_tell) := goodIn_app (goodIn_of _ (by decide +kernel)) ggX5_isReadAsTold_X3_tell
set_option maxRecDepth 20000 in
theorem ggX5_isReadAsTold_X1_accepts : GoodIn wsX5_isReadAsTold wsX1_accepts := goodIn_ca (goodIn_r _ [58, 59, 60, 61, 62, 63, 64, 9, 65, 11, 66, 13, 14, 15, 16, 67, 27, 28, 24, 29, 30, 31, 68, 69, 70, 57, 71, 72, 73, 74, 75, 76, 77, 78, 79, 80, 81, 82, 83, 84, 22, 23, 25, 26, 90, 91, 92, 93, 94] (by decide +kernel) (by decide +kernel)) (goodIn_sub (fun _ h => List.mem_cons_of_mem _ (List.mem_append_right _ h)) (by decide +kernel))
set_option maxRecDepth 20000 in
theorem gX5_isReadAsTold_X1_accepts : GoodIn wsX5_isReadAsTold (wsV RX5 137 RX1 yX1_accepts wsX1_accepts) := goodIn_app (goodIn_of _ (by decide +kernel)) ggX5_isReadAsTold_X1_accepts
theorem dX5_isReadAsTold_0 : decode cX5_isReadAsTold 0 = .ok (.aload_n 1, 1) := by decide +kernel
theorem dX5_isReadAsTold_1 : decode cX5_isReadAsTold 1 = .ok (.aload_n 2, 1) := by decide +kernel
theorem dX5_isReadAsTold_2 : decode cX5_isReadAsTold 2 = .ok (.invokestatic 127, 3) := by decide +kernel
theorem dX5_isReadAsTold_5 : decode cX5_isReadAsTold 5 = .ok (.istore_n 3, 1) := by decide +kernel
theorem dX5_isReadAsTold_6 : decode cX5_isReadAsTold 6 = .ok (.iload_n 3, 1) := by decide +kernel
theorem dX5_isReadAsTold_7 : decode cX5_isReadAsTold 7 = .ok (.bipush (-2), 2) := by decide +kernel
theorem dX5_isReadAsTold_9 : decode cX5_isReadAsTold 9 = .ok (.if_icmp .ne 5, 3) := by decide +kernel
theorem dX5_isReadAsTold_12 : decode cX5_isReadAsTold 12 = .ok (.iconst 1, 1) := by decide +kernel
theorem dX5_isReadAsTold_13 : decode cX5_isReadAsTold 13 = .ok (.ireturn, 1) := by decide +kernel
theorem dX5_isReadAsTold_14 : decode cX5_isReadAsTold 14 = .ok (.iload_n 3, 1) := by decide +kernel
theorem dX5_isReadAsTold_15 : decode cX5_isReadAsTold 15 = .ok (.iconst (-1), 1) := by decide +kernel
theorem dX5_isReadAsTold_16 : decode cX5_isReadAsTold 16 = .ok (.if_icmp .ne 21, 3) := by decide +kernel
theorem dX5_isReadAsTold_19 : decode cX5_isReadAsTold 19 = .ok (.aload_n 0, 1) := by decide +kernel
theorem dX5_isReadAsTold_20 : decode cX5_isReadAsTold 20 = .ok (.getfield 33, 3) := by decide +kernel
theorem dX5_isReadAsTold_23 : decode cX5_isReadAsTold 23 = .ok (.aload_n 1, 1) := by decide +kernel
theorem dX5_isReadAsTold_24 : decode cX5_isReadAsTold 24 = .ok (.aload_n 2, 1) := by decide +kernel
theorem dX5_isReadAsTold_25 : decode cX5_isReadAsTold 25 = .ok (.invokevirtual 137, 3) := by decide +kernel
theorem dX5_isReadAsTold_28 : decode cX5_isReadAsTold 28 = .ok (.ifCond .ne 7, 3) := by decide +kernel
theorem dX5_isReadAsTold_31 : decode cX5_isReadAsTold 31 = .ok (.iconst 1, 1) := by decide +kernel
theorem dX5_isReadAsTold_32 : decode cX5_isReadAsTold 32 = .ok (.goto 4, 3) := by decide +kernel
theorem dX5_isReadAsTold_36 : decode cX5_isReadAsTold 36 = .ok (.ireturn, 1) := by decide +kernel
theorem dX5_isReadAsTold_37 : decode cX5_isReadAsTold 37 = .ok (.aload_n 0, 1) := by decide +kernel
theorem dX5_isReadAsTold_38 : decode cX5_isReadAsTold 38 = .ok (.getfield 33, 3) := by decide +kernel
theorem dX5_isReadAsTold_41 : decode cX5_isReadAsTold 41 = .ok (.aload_n 1, 1) := by decide +kernel
theorem dX5_isReadAsTold_42 : decode cX5_isReadAsTold 42 = .ok (.aload_n 2, 1) := by decide +kernel
theorem dX5_isReadAsTold_43 : decode cX5_isReadAsTold 43 = .ok (.invokevirtual 137, 3) := by decide +kernel
theorem dX5_isReadAsTold_46 : decode cX5_isReadAsTold 46 = .ok (.ifCond .eq 21, 3) := by decide +kernel
theorem dX5_isReadAsTold_49 : decode cX5_isReadAsTold 49 = .ok (.aload_n 0, 1) := by decide +kernel
theorem dX5_isReadAsTold_50 : decode cX5_isReadAsTold 50 = .ok (.getfield 33, 3) := by decide +kernel
theorem dX5_isReadAsTold_53 : decode cX5_isReadAsTold 53 = .ok (.getfield 124, 3) := by decide +kernel
theorem dX5_isReadAsTold_56 : decode cX5_isReadAsTold 56 = .ok (.getfield 45, 3) := by decide +kernel
theorem dX5_isReadAsTold_59 : decode cX5_isReadAsTold 59 = .ok (.iload_n 3, 1) := by decide +kernel
theorem dX5_isReadAsTold_60 : decode cX5_isReadAsTold 60 = .ok (.if_icmp .ne 7, 3) := by decide +kernel
theorem dX5_isReadAsTold_63 : decode cX5_isReadAsTold 63 = .ok (.iconst 1, 1) := by decide +kernel
theorem dX5_isReadAsTold_64 : decode cX5_isReadAsTold 64 = .ok (.goto 4, 3) := by decide +kernel
theorem dX5_isReadAsTold_68 : decode cX5_isReadAsTold 68 = .ok (.ireturn, 1) := by decide +kernel
set_option maxRecDepth 20000 in
theorem ggX5_areKindsAlike_X4_writeBytes : GoodIn wsX5_areKindsAlike wsX4_writeBytes := goodIn_ca (goodIn_r _ [9, 10, 11, 8, 12, 13, 14, 15, 16, 17, 18, 19, 20, 21, 22, 23, 24, 25, 26, 27, 28, 29, 30, 31, 32, 33, 34, 35, 36, 37, 38, 39, 40, 41, 42, 43, 65, 66] (by decide +kernel) (by decide +kernel)) (goodIn_sub (fun _ h => List.mem_cons_of_mem _ (List.mem_append_right _ h)) (by decide +kernel))
set_option maxRecDepth 20000 in
theorem gX5_areKindsAlike_X4_writeBytes : GoodIn wsX5_areKindsAlike (va_wsS RX5 108 yX4_writeBytes wsX4_writeBytes) := goodIn_app (goodIn_of _ (by decide +kernel)) ggX5_areKindsAlike_X4_writeBytes
set_option maxRecDepth 20000 in
theorem ggX5_areKindsAlike_X2_isInOtherLetters : GoodIn wsX5_areKindsAlike wsX2_isInOtherLetters := goodIn_ca (goodIn_r _ [47, 21, 48, 49, 50, 29, 30, 19, 31, 32, 51, 52, 53, 36, 54, 38, 39, 55, 34, 35, 37, 65, 66] (by decide +kernel) (by decide +kernel)) (goodIn_sub (fun _ h => List.mem_cons_of_mem _ (List.mem_append_right _ h)) (by decide +kernel))
set_option maxRecDepth 20000 in
theorem gX5_areKindsAlike_X2_isInOtherLetters : GoodIn wsX5_areKindsAlike (wsV RX5 188 RX2 yX2_isInOtherLetters wsX2_isInOtherLetters) := goodIn_app (goodIn_of _ (by decide +kernel)) ggX5_areKindsAlike_X2_isInOtherLetters
set_option maxRecDepth 20000 in
theorem ggX5_areKindsAlike_X2_isWithoutLineEnds : GoodIn wsX5_areKindsAlike wsX2_isWithoutLineEnds := goodIn_ca (goodIn_r _ [59, 21, 50, 29, 30, 19, 31, 32, 65, 66] (by decide +kernel) (by decide +kernel)) (goodIn_sub (fun _ h => List.mem_cons_of_mem _ (List.mem_append_right _ h)) (by decide +kernel))
set_option maxRecDepth 20000 in
theorem gX5_areKindsAlike_X2_isWithoutLineEnds : GoodIn wsX5_areKindsAlike (wsV RX5 194 RX2 yX2_isWithoutLineEnds wsX2_isWithoutLineEnds) := goodIn_app (goodIn_of _ (by decide +kernel)) ggX5_areKindsAlike_X2_isWithoutLineEnds
theorem dX5_areKindsAlike_0 : decode cX5_areKindsAlike 0 = .ok (.aload_n 1, 1) := by decide +kernel
theorem dX5_areKindsAlike_1 : decode cX5_areKindsAlike 1 = .ok (.getstatic 179, 3) := by decide +kernel
theorem dX5_areKindsAlike_4 : decode cX5_areKindsAlike 4 = .ok (.iload_n 2, 1) := by decide +kernel
theorem dX5_areKindsAlike_5 : decode cX5_areKindsAlike 5 = .ok (.aload_n 0, 1) := by decide +kernel
theorem dX5_areKindsAlike_6 : decode cX5_areKindsAlike 6 = .ok (.getfield 16, 3) := by decide +kernel
theorem dX5_areKindsAlike_9 : decode cX5_areKindsAlike 9 = .ok (.invokestatic 108, 3) := by decide +kernel
theorem dX5_areKindsAlike_12 : decode cX5_areKindsAlike 12 = .ok (.aload_n 1, 1) := by decide +kernel
theorem dX5_areKindsAlike_13 : decode cX5_areKindsAlike 13 = .ok (.getstatic 185, 3) := by decide +kernel
theorem dX5_areKindsAlike_16 : decode cX5_areKindsAlike 16 = .ok (.iload_n 2, 1) := by decide +kernel
theorem dX5_areKindsAlike_17 : decode cX5_areKindsAlike 17 = .ok (.aload_n 0, 1) := by decide +kernel
theorem dX5_areKindsAlike_18 : decode cX5_areKindsAlike 18 = .ok (.getfield 20, 3) := by decide +kernel
theorem dX5_areKindsAlike_21 : decode cX5_areKindsAlike 21 = .ok (.invokestatic 108, 3) := by decide +kernel
theorem dX5_areKindsAlike_24 : decode cX5_areKindsAlike 24 = .ok (.aload_n 0, 1) := by decide +kernel
theorem dX5_areKindsAlike_25 : decode cX5_areKindsAlike 25 = .ok (.getfield 16, 3) := by decide +kernel
theorem dX5_areKindsAlike_28 : decode cX5_areKindsAlike 28 = .ok (.aload_n 0, 1) := by decide +kernel
theorem dX5_areKindsAlike_29 : decode cX5_areKindsAlike 29 = .ok (.getfield 20, 3) := by decide +kernel
theorem dX5_areKindsAlike_32 : decode cX5_areKindsAlike 32 = .ok (.invokevirtual 188, 3) := by decide +kernel
theorem dX5_areKindsAlike_35 : decode cX5_areKindsAlike 35 = .ok (.ifCond .ne 5, 3) := by decide +kernel
theorem dX5_areKindsAlike_40 : decode cX5_areKindsAlike 40 = .ok (.aload_n 1, 1) := by decide +kernel
theorem dX5_areKindsAlike_41 : decode cX5_areKindsAlike 41 = .ok (.getstatic 191, 3) := by decide +kernel
theorem dX5_areKindsAlike_44 : decode cX5_areKindsAlike 44 = .ok (.iload_n 2, 1) := by decide +kernel
theorem dX5_areKindsAlike_45 : decode cX5_areKindsAlike 45 = .ok (.aload_n 0, 1) := by decide +kernel
theorem dX5_areKindsAlike_46 : decode cX5_areKindsAlike 46 = .ok (.getfield 20, 3) := by decide +kernel
theorem dX5_areKindsAlike_49 : decode cX5_areKindsAlike 49 = .ok (.invokestatic 108, 3) := by decide +kernel
theorem dX5_areKindsAlike_52 : decode cX5_areKindsAlike 52 = .ok (.aload_n 0, 1) := by decide +kernel
theorem dX5_areKindsAlike_53 : decode cX5_areKindsAlike 53 = .ok (.getfield 16, 3) := by decide +kernel
theorem dX5_areKindsAlike_56 : decode cX5_areKindsAlike 56 = .ok (.aload_n 0, 1) := by decide +kernel
theorem dX5_areKindsAlike_57 : decode cX5_areKindsAlike 57 = .ok (.getfield 20, 3) := by decide +kernel
theorem dX5_areKindsAlike_60 : decode cX5_areKindsAlike 60 = .ok (.invokevirtual 194, 3) := by decide +kernel
theorem dX5_areKindsAlike_63 : decode cX5_areKindsAlike 63 = .ok (.ireturn, 1) := by decide +kernel
theorem dX5_rowAt_0 : decode cX5_rowAt 0 = .ok (.iload_n 1, 1) := by decide +kernel
theorem dX5_rowAt_1 : decode cX5_rowAt 1 = .ok (.ifCond .lt 12, 3) := by decide +kernel
theorem dX5_rowAt_4 : decode cX5_rowAt 4 = .ok (.iload_n 1, 1) := by decide +kernel
theorem dX5_rowAt_5 : decode cX5_rowAt 5 = .ok (.aload_n 0, 1) := by decide +kernel
theorem dX5_rowAt_6 : decode cX5_rowAt 6 = .ok (.getfield 11, 3) := by decide +kernel
theorem dX5_rowAt_9 : decode cX5_rowAt 9 = .ok (.arraylength, 1) := by decide +kernel
theorem dX5_rowAt_10 : decode cX5_rowAt 10 = .ok (.if_icmp .lt 13, 3) := by decide +kernel
theorem dX5_rowAt_13 : decode cX5_rowAt 13 = .ok (.new 82, 3) := by decide +kernel
theorem dX5_rowAt_16 : decode cX5_rowAt 16 = .ok (.dup, 1) := by decide +kernel
theorem dX5_rowAt_17 : decode cX5_rowAt 17 = .ok (.ldc 197, 2) := by decide +kernel
theorem dX5_rowAt_19 : decode cX5_rowAt 19 = .ok (.invokespecial 86, 3) := by decide +kernel
theorem dX5_rowAt_22 : decode cX5_rowAt 22 = .ok (.athrow, 1) := by decide +kernel
theorem dX5_rowAt_23 : decode cX5_rowAt 23 = .ok (.aload_n 0, 1) := by decide +kernel
theorem dX5_rowAt_24 : decode cX5_rowAt 24 = .ok (.getfield 11, 3) := by decide +kernel
theorem dX5_rowAt_27 : decode cX5_rowAt 27 = .ok (.iload_n 1, 1) := by decide +kernel
theorem dX5_rowAt_28 : decode cX5_rowAt 28 = .ok (.aaload, 1) := by decide +kernel
theorem dX5_rowAt_29 : decode cX5_rowAt 29 = .ok (.areturn, 1) := by decide +kernel
theorem dX5_kindAt_0 : decode cX5_kindAt 0 = .ok (.iload_n 0, 1) := by decide +kernel
theorem dX5_kindAt_1 : decode cX5_kindAt 1 = .ok (.ifCond .lt 11, 3) := by decide +kernel
theorem dX5_kindAt_4 : decode cX5_kindAt 4 = .ok (.iload_n 0, 1) := by decide +kernel
theorem dX5_kindAt_5 : decode cX5_kindAt 5 = .ok (.getstatic 154, 3) := by decide +kernel
theorem dX5_kindAt_8 : decode cX5_kindAt 8 = .ok (.arraylength, 1) := by decide +kernel
theorem dX5_kindAt_9 : decode cX5_kindAt 9 = .ok (.if_icmp .lt 13, 3) := by decide +kernel
theorem dX5_kindAt_12 : decode cX5_kindAt 12 = .ok (.new 55, 3) := by decide +kernel
theorem dX5_kindAt_15 : decode cX5_kindAt 15 = .ok (.dup, 1) := by decide +kernel
theorem dX5_kindAt_16 : decode cX5_kindAt 16 = .ok (.ldc 199, 2) := by decide +kernel
theorem dX5_kindAt_18 : decode cX5_kindAt 18 = .ok (.invokespecial 59, 3) := by decide +kernel
theorem dX5_kindAt_21 : decode cX5_kindAt 21 = .ok (.athrow, 1) := by decide +kernel
theorem dX5_kindAt_22 : decode cX5_kindAt 22 = .ok (.getstatic 154, 3) := by decide +kernel
theorem dX5_kindAt_25 : decode cX5_kindAt 25 = .ok (.iload_n 0, 1) := by decide +kernel
theorem dX5_kindAt_26 : decode cX5_kindAt 26 = .ok (.aaload, 1) := by decide +kernel
theorem dX5_kindAt_27 : decode cX5_kindAt 27 = .ok (.areturn, 1) := by decide +kernel
theorem dX5_checkPlace_0 : decode cX5_checkPlace 0 = .ok (.iload_n 0, 1) := by decide +kernel
theorem dX5_checkPlace_1 : decode cX5_checkPlace 1 = .ok (.ifCond .lt 8, 3) := by decide +kernel
theorem dX5_checkPlace_4 : decode cX5_checkPlace 4 = .ok (.iload_n 0, 1) := by decide +kernel
theorem dX5_checkPlace_5 : decode cX5_checkPlace 5 = .ok (.iload_n 1, 1) := by decide +kernel
theorem dX5_checkPlace_6 : decode cX5_checkPlace 6 = .ok (.if_icmp .lt 13, 3) := by decide +kernel
theorem dX5_checkPlace_9 : decode cX5_checkPlace 9 = .ok (.new 82, 3) := by decide +kernel
theorem dX5_checkPlace_12 : decode cX5_checkPlace 12 = .ok (.dup, 1) := by decide +kernel
theorem dX5_checkPlace_13 : decode cX5_checkPlace 13 = .ok (.ldc 201, 2) := by decide +kernel
theorem dX5_checkPlace_15 : decode cX5_checkPlace 15 = .ok (.invokespecial 86, 3) := by decide +kernel
theorem dX5_checkPlace_18 : decode cX5_checkPlace 18 = .ok (.athrow, 1) := by decide +kernel
theorem dX5_checkPlace_19 : decode cX5_checkPlace 19 = .ok (.return_, 1) := by decide +kernel
theorem dX5_checkByte_0 : decode cX5_checkByte 0 = .ok (.iload_n 0, 1) := by decide +kernel
theorem dX5_checkByte_1 : decode cX5_checkByte 1 = .ok (.ifCond .lt 10, 3) := by decide +kernel
theorem dX5_checkByte_4 : decode cX5_checkByte 4 = .ok (.iload_n 0, 1) := by decide +kernel
theorem dX5_checkByte_5 : decode cX5_checkByte 5 = .ok (.sipush 255, 3) := by decide +kernel
theorem dX5_checkByte_8 : decode cX5_checkByte 8 = .ok (.if_icmp .le 13, 3) := by decide +kernel
theorem dX5_checkByte_11 : decode cX5_checkByte 11 = .ok (.new 55, 3) := by decide +kernel
theorem dX5_checkByte_14 : decode cX5_checkByte 14 = .ok (.dup, 1) := by decide +kernel
theorem dX5_checkByte_15 : decode cX5_checkByte 15 = .ok (.ldc 203, 2) := by decide +kernel
theorem dX5_checkByte_17 : decode cX5_checkByte 17 = .ok (.invokespecial 59, 3) := by decide +kernel
theorem dX5_checkByte_20 : decode cX5_checkByte 20 = .ok (.athrow, 1) := by decide +kernel
theorem dX5_checkByte_21 : decode cX5_checkByte 21 = .ok (.return_, 1) := by decide +kernel
theorem dX5_checkRoom_0 : decode cX5_checkRoom 0 = .ok (.iload_n 0, 1) := by decide +kernel
theorem dX5_checkRoom_1 : decode cX5_checkRoom 1 = .ok (.sipush 320, 3) := by decide +kernel
theorem dX5_checkRoom_4 : decode cX5_checkRoom 4 = .ok (.if_icmp .le 13, 3) := by decide +kernel
theorem dX5_checkRoom_7 : decode cX5_checkRoom 7 = .ok (.new 205, 3) := by decide +kernel
theorem dX5_checkRoom_10 : decode cX5_checkRoom 10 = .ok (.dup, 1) := by decide +kernel
theorem dX5_checkRoom_11 : decode cX5_checkRoom 11 = .ok (.ldc 207, 2) := by decide +kernel
theorem dX5_checkRoom_13 : decode cX5_checkRoom 13 = .ok (.invokespecial 209, 3) := by decide +kernel
theorem dX5_checkRoom_16 : decode cX5_checkRoom 16 = .ok (.athrow, 1) := by decide +kernel
theorem dX5_checkRoom_17 : decode cX5_checkRoom 17 = .ok (.return_, 1) := by decide +kernel
theorem dX5_checkNotEmpty_0 : decode cX5_checkNotEmpty 0 = .ok (.aload_n 0, 1) := by decide +kernel
theorem dX5_checkNotEmpty_1 : decode cX5_checkNotEmpty 1 = .ok (.getfield 45, 3) := by decide +kernel
theorem dX5_checkNotEmpty_4 : decode cX5_checkNotEmpty 4 = .ok (.ifCond .ne 13, 3) := by decide +kernel
theorem dX5_checkNotEmpty_7 : decode cX5_checkNotEmpty 7 = .ok (.new 210, 3) := by decide +kernel
theorem dX5_checkNotEmpty_10 : decode cX5_checkNotEmpty 10 = .ok (.dup, 1) := by decide +kernel
theorem dX5_checkNotEmpty_11 : decode cX5_checkNotEmpty 11 = .ok (.ldc 212, 2) := by decide +kernel
theorem dX5_checkNotEmpty_13 : decode cX5_checkNotEmpty 13 = .ok (.invokespecial 214, 3) := by decide +kernel
theorem dX5_checkNotEmpty_16 : decode cX5_checkNotEmpty 16 = .ok (.athrow, 1) := by decide +kernel
theorem dX5_checkNotEmpty_17 : decode cX5_checkNotEmpty 17 = .ok (.return_, 1) := by decide +kernel
set_option maxRecDepth 20000 in
theorem ggX5_readOrRefuse_X3_tell : GoodIn wsX5_readOrRefuse wsX3_tell := goodIn_ca (goodIn_r _ [9, 10, 11, 12, 13, 14, 15, 16, 17, 18, 19, 20, 21, 22, 23, 24, 25, 26, 27, 28, 29, 30, 31, 32, 33, 34, 35, 36, 37, 38, 39, 40, 41, 8, 42, 43, 44, 45, 46, 47, 48, 49, 50, 51, 52, 53, 54, 55, 56, 57, 94, 95] (by decide +kernel) (by decide +kernel)) (goodIn_sub (fun _ h => List.mem_cons_of_mem _ (List.mem_append_right _ h)) (by decide +kernel))
set_option maxRecDepth 20000 in
theorem gX5_readOrRefuse_X3_tell : GoodIn wsX5_readOrRefuse (va_wsS RX5 127 yX3_tell wsX3_tell) := goodIn_app (goodIn_of _ (by decide +kernel)) ggX5_readOrRefuse_X3_tell
set_option maxRecDepth 20000 in
theorem ggX5_readOrRefuse_X1_accepts : GoodIn wsX5_readOrRefuse wsX1_accepts := goodIn_ca (goodIn_r _ [62, 63, 64, 65, 66, 67, 68, 13, 69, 15, 70, 17, 18, 19, 20, 71, 31, 32, 28, 33, 34, 35, 72, 73, 74, 61, 75, 76, 77, 78, 79, 80, 81, 82, 83, 84, 85, 86, 87, 88, 26, 27, 29, 30, 96, 97, 98, 94, 95] (by decide +kernel) (by decide +kernel)) (goodIn_sub (fun _ h => List.mem_cons_of_mem _ (List.mem_append_right _ h)) (by decide +kernel))
set_option maxRecDepth 20000 in
theorem gX5_readOrRefuse_X1_accepts : GoodIn wsX5_readOrRefuse (wsV RX5 137 RX1 yX1_accepts wsX1_accepts) := goodIn_app (goodIn_of _ (by decide +kernel)) ggX5_readOrRefuse_X1_accepts
theorem dX5_readOrRefuse_0 : decode cX5_readOrRefuse 0 = .ok (.aload_n 1, 1) := by decide +kernel
theorem dX5_readOrRefuse_1 : decode cX5_readOrRefuse 1 = .ok (.aload_n 2, 1) := by decide +kernel
theorem dX5_readOrRefuse_2 : decode cX5_readOrRefuse 2 = .ok (.invokestatic 127, 3) := by decide +kernel
theorem dX5_readOrRefuse_5 : decode cX5_readOrRefuse 5 = .ok (.bipush (-2), 2) := by decide +kernel
theorem dX5_readOrRefuse_7 : decode cX5_readOrRefuse 7 = .ok (.if_icmp .ne 13, 3) := by decide +kernel
theorem dX5_readOrRefuse_10 : decode cX5_readOrRefuse 10 = .ok (.new 215, 3) := by decide +kernel
theorem dX5_readOrRefuse_13 : decode cX5_readOrRefuse 13 = .ok (.dup, 1) := by decide +kernel
theorem dX5_readOrRefuse_14 : decode cX5_readOrRefuse 14 = .ok (.ldc 217, 2) := by decide +kernel
theorem dX5_readOrRefuse_16 : decode cX5_readOrRefuse 16 = .ok (.invokespecial 219, 3) := by decide +kernel
theorem dX5_readOrRefuse_19 : decode cX5_readOrRefuse 19 = .ok (.athrow, 1) := by decide +kernel
theorem dX5_readOrRefuse_20 : decode cX5_readOrRefuse 20 = .ok (.aload_n 0, 1) := by decide +kernel
theorem dX5_readOrRefuse_21 : decode cX5_readOrRefuse 21 = .ok (.getfield 33, 3) := by decide +kernel
theorem dX5_readOrRefuse_24 : decode cX5_readOrRefuse 24 = .ok (.aload_n 1, 1) := by decide +kernel
theorem dX5_readOrRefuse_25 : decode cX5_readOrRefuse 25 = .ok (.aload_n 2, 1) := by decide +kernel
theorem dX5_readOrRefuse_26 : decode cX5_readOrRefuse 26 = .ok (.invokevirtual 137, 3) := by decide +kernel
theorem dX5_readOrRefuse_29 : decode cX5_readOrRefuse 29 = .ok (.ifCond .ne 13, 3) := by decide +kernel
theorem dX5_readOrRefuse_32 : decode cX5_readOrRefuse 32 = .ok (.new 55, 3) := by decide +kernel
theorem dX5_readOrRefuse_35 : decode cX5_readOrRefuse 35 = .ok (.dup, 1) := by decide +kernel
theorem dX5_readOrRefuse_36 : decode cX5_readOrRefuse 36 = .ok (.ldc 220, 2) := by decide +kernel
theorem dX5_readOrRefuse_38 : decode cX5_readOrRefuse 38 = .ok (.invokespecial 59, 3) := by decide +kernel
theorem dX5_readOrRefuse_41 : decode cX5_readOrRefuse 41 = .ok (.athrow, 1) := by decide +kernel
theorem dX5_readOrRefuse_42 : decode cX5_readOrRefuse 42 = .ok (.return_, 1) := by decide +kernel
theorem dX6_init_0 : decode cX6_init 0 = .ok (.aload_n 0, 1) := by decide +kernel
theorem dX6_init_1 : decode cX6_init 1 = .ok (.invokespecial 1, 3) := by decide +kernel
theorem dX6_init_4 : decode cX6_init 4 = .ok (.aload_n 0, 1) := by decide +kernel
theorem dX6_init_5 : decode cX6_init 5 = .ok (.sipush 1920, 3) := by decide +kernel
theorem dX6_init_8 : decode cX6_init 8 = .ok (.newarray .int, 2) := by decide +kernel
theorem dX6_init_10 : decode cX6_init 10 = .ok (.putfield 7, 3) := by decide +kernel
theorem dX6_init_13 : decode cX6_init 13 = .ok (.aload_n 0, 1) := by decide +kernel
theorem dX6_init_14 : decode cX6_init 14 = .ok (.bipush 6, 2) := by decide +kernel
theorem dX6_init_16 : decode cX6_init 16 = .ok (.newarray .int, 2) := by decide +kernel
theorem dX6_init_18 : decode cX6_init 18 = .ok (.putfield 13, 3) := by decide +kernel
theorem dX6_init_21 : decode cX6_init 21 = .ok (.aload_n 0, 1) := by decide +kernel
theorem dX6_init_22 : decode cX6_init 22 = .ok (.sipush 600, 3) := by decide +kernel
theorem dX6_init_25 : decode cX6_init 25 = .ok (.newarray .int, 2) := by decide +kernel
theorem dX6_init_27 : decode cX6_init 27 = .ok (.putfield 16, 3) := by decide +kernel
theorem dX6_init_30 : decode cX6_init 30 = .ok (.aload_n 0, 1) := by decide +kernel
theorem dX6_init_31 : decode cX6_init 31 = .ok (.sipush 320, 3) := by decide +kernel
theorem dX6_init_34 : decode cX6_init 34 = .ok (.newarray .int, 2) := by decide +kernel
theorem dX6_init_36 : decode cX6_init 36 = .ok (.putfield 19, 3) := by decide +kernel
theorem dX6_init_39 : decode cX6_init 39 = .ok (.return_, 1) := by decide +kernel
theorem dX6_thrown_0 : decode cX6_thrown 0 = .ok (.aload_n 0, 1) := by decide +kernel
theorem dX6_thrown_1 : decode cX6_thrown 1 = .ok (.getfield 22, 3) := by decide +kernel
theorem dX6_thrown_4 : decode cX6_thrown 4 = .ok (.ireturn, 1) := by decide +kernel
theorem dX6_isWrong_0 : decode cX6_isWrong 0 = .ok (.aload_n 0, 1) := by decide +kernel
theorem dX6_isWrong_1 : decode cX6_isWrong 1 = .ok (.iload_n 1, 1) := by decide +kernel
theorem dX6_isWrong_2 : decode cX6_isWrong 2 = .ok (.putfield 22, 3) := by decide +kernel
theorem dX6_isWrong_5 : decode cX6_isWrong 5 = .ok (.iload_n 1, 1) := by decide +kernel
theorem dX6_isWrong_6 : decode cX6_isWrong 6 = .ok (.ifCond .eq 7, 3) := by decide +kernel
theorem dX6_isWrong_9 : decode cX6_isWrong 9 = .ok (.iconst 1, 1) := by decide +kernel
theorem dX6_isWrong_10 : decode cX6_isWrong 10 = .ok (.goto 4, 3) := by decide +kernel
theorem dX6_isWrong_13 : decode cX6_isWrong 13 = .ok (.iconst 0, 1) := by decide +kernel
theorem dX6_isWrong_14 : decode cX6_isWrong 14 = .ok (.ireturn, 1) := by decide +kernel
theorem dX6_isRow_0 : decode cX6_isRow 0 = .ok (.iconst 0, 1) := by decide +kernel
theorem dX6_isRow_1 : decode cX6_isRow 1 = .ok (.iload_n 1, 1) := by decide +kernel
theorem dX6_isRow_2 : decode cX6_isRow 2 = .ok (.if_icmp .gt 12, 3) := by decide +kernel
theorem dX6_isRow_5 : decode cX6_isRow 5 = .ok (.iload_n 1, 1) := by decide +kernel
theorem dX6_isRow_6 : decode cX6_isRow 6 = .ok (.iconst 5, 1) := by decide +kernel
theorem dX6_isRow_7 : decode cX6_isRow 7 = .ok (.if_icmp .gt 7, 3) := by decide +kernel
theorem dX6_isRow_10 : decode cX6_isRow 10 = .ok (.iconst 1, 1) := by decide +kernel
theorem dX6_isRow_11 : decode cX6_isRow 11 = .ok (.goto 4, 3) := by decide +kernel
theorem dX6_isRow_14 : decode cX6_isRow 14 = .ok (.iconst 0, 1) := by decide +kernel
theorem dX6_isRow_15 : decode cX6_isRow 15 = .ok (.ireturn, 1) := by decide +kernel
theorem dX6_isByte_0 : decode cX6_isByte 0 = .ok (.iconst 0, 1) := by decide +kernel
theorem dX6_isByte_1 : decode cX6_isByte 1 = .ok (.iload_n 1, 1) := by decide +kernel
theorem dX6_isByte_2 : decode cX6_isByte 2 = .ok (.if_icmp .gt 14, 3) := by decide +kernel
theorem dX6_isByte_5 : decode cX6_isByte 5 = .ok (.iload_n 1, 1) := by decide +kernel
theorem dX6_isByte_6 : decode cX6_isByte 6 = .ok (.sipush 255, 3) := by decide +kernel
theorem dX6_isByte_9 : decode cX6_isByte 9 = .ok (.if_icmp .gt 7, 3) := by decide +kernel
theorem dX6_isByte_12 : decode cX6_isByte 12 = .ok (.iconst 1, 1) := by decide +kernel
theorem dX6_isByte_13 : decode cX6_isByte 13 = .ok (.goto 4, 3) := by decide +kernel
theorem dX6_isByte_16 : decode cX6_isByte 16 = .ok (.iconst 0, 1) := by decide +kernel
theorem dX6_isByte_17 : decode cX6_isByte 17 = .ok (.ireturn, 1) := by decide +kernel
theorem dX6_at_0 : decode cX6_at 0 = .ok (.aload_n 0, 1) := by decide +kernel
theorem dX6_at_1 : decode cX6_at 1 = .ok (.getfield 7, 3) := by decide +kernel
theorem dX6_at_4 : decode cX6_at 4 = .ok (.sipush 320, 3) := by decide +kernel
theorem dX6_at_7 : decode cX6_at 7 = .ok (.iload_n 1, 1) := by decide +kernel
theorem dX6_at_8 : decode cX6_at 8 = .ok (.imul, 1) := by decide +kernel
theorem dX6_at_9 : decode cX6_at 9 = .ok (.iload_n 2, 1) := by decide +kernel
theorem dX6_at_10 : decode cX6_at 10 = .ok (.iadd, 1) := by decide +kernel
theorem dX6_at_11 : decode cX6_at 11 = .ok (.iaload, 1) := by decide +kernel
theorem dX6_at_12 : decode cX6_at 12 = .ok (.ireturn, 1) := by decide +kernel
theorem dX6_becomes_0 : decode cX6_becomes 0 = .ok (.iconst 0, 1) := by decide +kernel
theorem dX6_becomes_1 : decode cX6_becomes 1 = .ok (.istore_n 2, 1) := by decide +kernel
theorem dX6_becomes_2 : decode cX6_becomes 2 = .ok (.iload_n 2, 1) := by decide +kernel
theorem dX6_becomes_3 : decode cX6_becomes 3 = .ok (.aload_n 0, 1) := by decide +kernel
theorem dX6_becomes_4 : decode cX6_becomes 4 = .ok (.getfield 26, 3) := by decide +kernel
theorem dX6_becomes_7 : decode cX6_becomes 7 = .ok (.if_icmp .ge 27, 3) := by decide +kernel
theorem dX6_becomes_10 : decode cX6_becomes 10 = .ok (.aload_n 0, 1) := by decide +kernel
theorem dX6_becomes_11 : decode cX6_becomes 11 = .ok (.getfield 7, 3) := by decide +kernel
theorem dX6_becomes_14 : decode cX6_becomes 14 = .ok (.sipush 320, 3) := by decide +kernel
theorem dX6_becomes_17 : decode cX6_becomes 17 = .ok (.iload_n 1, 1) := by decide +kernel
theorem dX6_becomes_18 : decode cX6_becomes 18 = .ok (.imul, 1) := by decide +kernel
theorem dX6_becomes_19 : decode cX6_becomes 19 = .ok (.iload_n 2, 1) := by decide +kernel
theorem dX6_becomes_20 : decode cX6_becomes 20 = .ok (.iadd, 1) := by decide +kernel
theorem dX6_becomes_21 : decode cX6_becomes 21 = .ok (.aload_n 0, 1) := by decide +kernel
theorem dX6_becomes_22 : decode cX6_becomes 22 = .ok (.getfield 16, 3) := by decide +kernel
theorem dX6_becomes_25 : decode cX6_becomes 25 = .ok (.iload_n 2, 1) := by decide +kernel
theorem dX6_becomes_26 : decode cX6_becomes 26 = .ok (.iaload, 1) := by decide +kernel
theorem dX6_becomes_27 : decode cX6_becomes 27 = .ok (.iastore, 1) := by decide +kernel
theorem dX6_becomes_28 : decode cX6_becomes 28 = .ok (.iinc 2 1, 3) := by decide +kernel
theorem dX6_becomes_31 : decode cX6_becomes 31 = .ok (.goto (-29), 3) := by decide +kernel
theorem dX6_becomes_34 : decode cX6_becomes 34 = .ok (.aload_n 0, 1) := by decide +kernel
theorem dX6_becomes_35 : decode cX6_becomes 35 = .ok (.getfield 13, 3) := by decide +kernel
theorem dX6_becomes_38 : decode cX6_becomes 38 = .ok (.iload_n 1, 1) := by decide +kernel
theorem dX6_becomes_39 : decode cX6_becomes 39 = .ok (.aload_n 0, 1) := by decide +kernel
theorem dX6_becomes_40 : decode cX6_becomes 40 = .ok (.getfield 26, 3) := by decide +kernel
theorem dX6_becomes_43 : decode cX6_becomes 43 = .ok (.iastore, 1) := by decide +kernel
theorem dX6_becomes_44 : decode cX6_becomes 44 = .ok (.aload_n 0, 1) := by decide +kernel
theorem dX6_becomes_45 : decode cX6_becomes 45 = .ok (.getfield 26, 3) := by decide +kernel
theorem dX6_becomes_48 : decode cX6_becomes 48 = .ok (.ireturn, 1) := by decide +kernel
theorem dX6_makes_0 : decode cX6_makes 0 = .ok (.aload_n 0, 1) := by decide +kernel
theorem dX6_makes_1 : decode cX6_makes 1 = .ok (.getfield 16, 3) := by decide +kernel
theorem dX6_makes_4 : decode cX6_makes 4 = .ok (.aload_n 0, 1) := by decide +kernel
theorem dX6_makes_5 : decode cX6_makes 5 = .ok (.getfield 26, 3) := by decide +kernel
theorem dX6_makes_8 : decode cX6_makes 8 = .ok (.iload_n 1, 1) := by decide +kernel
theorem dX6_makes_9 : decode cX6_makes 9 = .ok (.iastore, 1) := by decide +kernel
theorem dX6_makes_10 : decode cX6_makes 10 = .ok (.aload_n 0, 1) := by decide +kernel
theorem dX6_makes_11 : decode cX6_makes 11 = .ok (.dup, 1) := by decide +kernel
theorem dX6_makes_12 : decode cX6_makes 12 = .ok (.getfield 26, 3) := by decide +kernel
theorem dX6_makes_15 : decode cX6_makes 15 = .ok (.iconst 1, 1) := by decide +kernel
theorem dX6_makes_16 : decode cX6_makes 16 = .ok (.iadd, 1) := by decide +kernel
theorem dX6_makes_17 : decode cX6_makes 17 = .ok (.putfield 26, 3) := by decide +kernel
theorem dX6_makes_20 : decode cX6_makes 20 = .ok (.return_, 1) := by decide +kernel
theorem dX6_letter_0 : decode cX6_letter 0 = .ok (.iload_n 1, 1) := by decide +kernel
theorem dX6_letter_1 : decode cX6_letter 1 = .ok (.bipush 26, 2) := by decide +kernel
theorem dX6_letter_3 : decode cX6_letter 3 = .ok (.if_icmp .ge 8, 3) := by decide +kernel
theorem dX6_letter_6 : decode cX6_letter 6 = .ok (.bipush 65, 2) := by decide +kernel
theorem dX6_letter_8 : decode cX6_letter 8 = .ok (.iload_n 1, 1) := by decide +kernel
theorem dX6_letter_9 : decode cX6_letter 9 = .ok (.iadd, 1) := by decide +kernel
theorem dX6_letter_10 : decode cX6_letter 10 = .ok (.ireturn, 1) := by decide +kernel
theorem dX6_letter_11 : decode cX6_letter 11 = .ok (.iload_n 1, 1) := by decide +kernel
theorem dX6_letter_12 : decode cX6_letter 12 = .ok (.bipush 52, 2) := by decide +kernel
theorem dX6_letter_14 : decode cX6_letter 14 = .ok (.if_icmp .ge 11, 3) := by decide +kernel
theorem dX6_letter_17 : decode cX6_letter 17 = .ok (.bipush 97, 2) := by decide +kernel
theorem dX6_letter_19 : decode cX6_letter 19 = .ok (.iload_n 1, 1) := by decide +kernel
theorem dX6_letter_20 : decode cX6_letter 20 = .ok (.iadd, 1) := by decide +kernel
theorem dX6_letter_21 : decode cX6_letter 21 = .ok (.bipush 26, 2) := by decide +kernel
theorem dX6_letter_23 : decode cX6_letter 23 = .ok (.isub, 1) := by decide +kernel
theorem dX6_letter_24 : decode cX6_letter 24 = .ok (.ireturn, 1) := by decide +kernel
theorem dX6_letter_25 : decode cX6_letter 25 = .ok (.iload_n 1, 1) := by decide +kernel
theorem dX6_letter_26 : decode cX6_letter 26 = .ok (.bipush 62, 2) := by decide +kernel
theorem dX6_letter_28 : decode cX6_letter 28 = .ok (.if_icmp .ge 11, 3) := by decide +kernel
theorem dX6_letter_31 : decode cX6_letter 31 = .ok (.bipush 48, 2) := by decide +kernel
theorem dX6_letter_33 : decode cX6_letter 33 = .ok (.iload_n 1, 1) := by decide +kernel
theorem dX6_letter_34 : decode cX6_letter 34 = .ok (.iadd, 1) := by decide +kernel
theorem dX6_letter_35 : decode cX6_letter 35 = .ok (.bipush 52, 2) := by decide +kernel
theorem dX6_letter_37 : decode cX6_letter 37 = .ok (.isub, 1) := by decide +kernel
theorem dX6_letter_38 : decode cX6_letter 38 = .ok (.ireturn, 1) := by decide +kernel
theorem dX6_letter_39 : decode cX6_letter 39 = .ok (.iload_n 1, 1) := by decide +kernel
theorem dX6_letter_40 : decode cX6_letter 40 = .ok (.bipush 62, 2) := by decide +kernel
theorem dX6_letter_42 : decode cX6_letter 42 = .ok (.if_icmp .ne 18, 3) := by decide +kernel
theorem dX6_letter_45 : decode cX6_letter 45 = .ok (.iload_n 2, 1) := by decide +kernel
theorem dX6_letter_46 : decode cX6_letter 46 = .ok (.iconst 1, 1) := by decide +kernel
theorem dX6_letter_47 : decode cX6_letter 47 = .ok (.if_icmp .ne 8, 3) := by decide +kernel
theorem dX6_letter_50 : decode cX6_letter 50 = .ok (.bipush 45, 2) := by decide +kernel
theorem dX6_letter_52 : decode cX6_letter 52 = .ok (.goto 20, 3) := by decide +kernel
theorem dX6_letter_55 : decode cX6_letter 55 = .ok (.bipush 43, 2) := by decide +kernel
theorem dX6_letter_57 : decode cX6_letter 57 = .ok (.goto 15, 3) := by decide +kernel
theorem dX6_letter_60 : decode cX6_letter 60 = .ok (.iload_n 2, 1) := by decide +kernel
theorem dX6_letter_61 : decode cX6_letter 61 = .ok (.iconst 1, 1) := by decide +kernel
theorem dX6_letter_62 : decode cX6_letter 62 = .ok (.if_icmp .ne 8, 3) := by decide +kernel
theorem dX6_letter_65 : decode cX6_letter 65 = .ok (.bipush 95, 2) := by decide +kernel
theorem dX6_letter_67 : decode cX6_letter 67 = .ok (.goto 5, 3) := by decide +kernel
theorem dX6_letter_70 : decode cX6_letter 70 = .ok (.bipush 47, 2) := by decide +kernel
theorem dX6_letter_72 : decode cX6_letter 72 = .ok (.ireturn, 1) := by decide +kernel
set_option maxRecDepth 20000 in
theorem ggX6_worth_X6_letter : GoodIn wsX6_worth wsX6_letter := goodIn_r _ [5] (by decide +kernel) (by decide +kernel)
set_option maxRecDepth 20000 in
theorem gX6_worth_X6_letter : GoodIn wsX6_worth (wsV RX6 29 RX6 yX6_letter wsX6_letter) := goodIn_app (goodIn_of _ (by decide +kernel)) ggX6_worth_X6_letter
theorem dX6_worth_0 : decode cX6_worth 0 = .ok (.iconst (-1), 1) := by decide +kernel
theorem dX6_worth_1 : decode cX6_worth 1 = .ok (.istore_n 3, 1) := by decide +kernel
theorem dX6_worth_2 : decode cX6_worth 2 = .ok (.iconst 0, 1) := by decide +kernel
theorem dX6_worth_3 : decode cX6_worth 3 = .ok (.istore 4, 2) := by decide +kernel
theorem dX6_worth_5 : decode cX6_worth 5 = .ok (.iload 4, 2) := by decide +kernel
theorem dX6_worth_7 : decode cX6_worth 7 = .ok (.bipush 64, 2) := by decide +kernel
theorem dX6_worth_9 : decode cX6_worth 9 = .ok (.if_icmp .ge 27, 3) := by decide +kernel
theorem dX6_worth_12 : decode cX6_worth 12 = .ok (.aload_n 0, 1) := by decide +kernel
theorem dX6_worth_13 : decode cX6_worth 13 = .ok (.iload 4, 2) := by decide +kernel
theorem dX6_worth_15 : decode cX6_worth 15 = .ok (.iload_n 2, 1) := by decide +kernel
theorem dX6_worth_16 : decode cX6_worth 16 = .ok (.invokevirtual 29, 3) := by decide +kernel
theorem dX6_worth_19 : decode cX6_worth 19 = .ok (.iload_n 1, 1) := by decide +kernel
theorem dX6_worth_20 : decode cX6_worth 20 = .ok (.if_icmp .ne 8, 3) := by decide +kernel
theorem dX6_worth_23 : decode cX6_worth 23 = .ok (.iload 4, 2) := by decide +kernel
theorem dX6_worth_25 : decode cX6_worth 25 = .ok (.goto 4, 3) := by decide +kernel
theorem dX6_worth_28 : decode cX6_worth 28 = .ok (.iload_n 3, 1) := by decide +kernel
theorem dX6_worth_29 : decode cX6_worth 29 = .ok (.istore_n 3, 1) := by decide +kernel
theorem dX6_worth_30 : decode cX6_worth 30 = .ok (.iinc 4 1, 3) := by decide +kernel
theorem dX6_worth_33 : decode cX6_worth 33 = .ok (.goto (-28), 3) := by decide +kernel
theorem dX6_worth_36 : decode cX6_worth 36 = .ok (.iload_n 3, 1) := by decide +kernel
theorem dX6_worth_37 : decode cX6_worth 37 = .ok (.ireturn, 1) := by decide +kernel
set_option maxRecDepth 20000 in
theorem ggX6_writes_X6_at : GoodIn wsX6_writes wsX6_at := goodIn_ca (goodIn_r _ [7, 8, 18, 19, 20, 21, 22, 23] (by decide +kernel) (by decide +kernel)) (goodIn_sub (fun _ h => List.mem_cons_of_mem _ (List.mem_append_right _ h)) (by decide +kernel))
set_option maxRecDepth 20000 in
theorem gX6_writes_X6_at : GoodIn wsX6_writes (wsV RX6 33 RX6 yX6_at wsX6_at) := goodIn_app (goodIn_of _ (by decide +kernel)) ggX6_writes_X6_at
set_option maxRecDepth 20000 in
theorem ggX6_writes_X6_makes : GoodIn wsX6_writes wsX6_makes := goodIn_ca (goodIn_r _ [12, 13, 1, 18, 19, 20, 21, 22, 23] (by decide +kernel) (by decide +kernel)) (goodIn_sub (fun _ h => List.mem_cons_of_mem _ (List.mem_append_right _ h)) (by decide +kernel))
set_option maxRecDepth 20000 in
theorem gX6_writes_X6_makes : GoodIn wsX6_writes (wsV RX6 36 RX6 yX6_makes wsX6_makes) := goodIn_app (goodIn_of _ (by decide +kernel)) ggX6_writes_X6_makes
set_option maxRecDepth 20000 in
theorem ggX6_writes_X6_letter : GoodIn wsX6_writes wsX6_letter := goodIn_r _ [17] (by decide +kernel) (by decide +kernel)
set_option maxRecDepth 20000 in
theorem gX6_writes_X6_letter : GoodIn wsX6_writes (wsV RX6 29 RX6 yX6_letter wsX6_letter) := goodIn_app (goodIn_of _ (by decide +kernel)) ggX6_writes_X6_letter
theorem dX6_writes_0 : decode cX6_writes 0 = .ok (.aload_n 0, 1) := by decide +kernel
theorem dX6_writes_1 : decode cX6_writes 1 = .ok (.iconst 0, 1) := by decide +kernel
theorem dX6_writes_2 : decode cX6_writes 2 = .ok (.putfield 26, 3) := by decide +kernel
theorem dX6_writes_5 : decode cX6_writes 5 = .ok (.iconst 0, 1) := by decide +kernel
theorem dX6_writes_6 : decode cX6_writes 6 = .ok (.istore 4, 2) := by decide +kernel
theorem dX6_writes_8 : decode cX6_writes 8 = .ok (.iconst 0, 1) := by decide +kernel
theorem dX6_writes_9 : decode cX6_writes 9 = .ok (.istore 5, 2) := by decide +kernel
theorem dX6_writes_11 : decode cX6_writes 11 = .ok (.iload 5, 2) := by decide +kernel
theorem dX6_writes_13 : decode cX6_writes 13 = .ok (.aload_n 0, 1) := by decide +kernel
theorem dX6_writes_14 : decode cX6_writes 14 = .ok (.getfield 13, 3) := by decide +kernel
theorem dX6_writes_17 : decode cX6_writes 17 = .ok (.iload_n 1, 1) := by decide +kernel
theorem dX6_writes_18 : decode cX6_writes 18 = .ok (.iaload, 1) := by decide +kernel
theorem dX6_writes_19 : decode cX6_writes 19 = .ok (.if_icmp .ge 192, 3) := by decide +kernel
theorem dX6_writes_22 : decode cX6_writes 22 = .ok (.aload_n 0, 1) := by decide +kernel
theorem dX6_writes_23 : decode cX6_writes 23 = .ok (.getfield 13, 3) := by decide +kernel
theorem dX6_writes_26 : decode cX6_writes 26 = .ok (.iload_n 1, 1) := by decide +kernel
theorem dX6_writes_27 : decode cX6_writes 27 = .ok (.iaload, 1) := by decide +kernel
theorem dX6_writes_28 : decode cX6_writes 28 = .ok (.iload 5, 2) := by decide +kernel
theorem dX6_writes_30 : decode cX6_writes 30 = .ok (.isub, 1) := by decide +kernel
theorem dX6_writes_31 : decode cX6_writes 31 = .ok (.iconst 3, 1) := by decide +kernel
theorem dX6_writes_32 : decode cX6_writes 32 = .ok (.if_icmp .ge 15, 3) := by decide +kernel
theorem dX6_writes_35 : decode cX6_writes 35 = .ok (.aload_n 0, 1) := by decide +kernel
theorem dX6_writes_36 : decode cX6_writes 36 = .ok (.getfield 13, 3) := by decide +kernel
theorem dX6_writes_39 : decode cX6_writes 39 = .ok (.iload_n 1, 1) := by decide +kernel
theorem dX6_writes_40 : decode cX6_writes 40 = .ok (.iaload, 1) := by decide +kernel
theorem dX6_writes_41 : decode cX6_writes 41 = .ok (.iload 5, 2) := by decide +kernel
theorem dX6_writes_43 : decode cX6_writes 43 = .ok (.isub, 1) := by decide +kernel
theorem dX6_writes_44 : decode cX6_writes 44 = .ok (.goto 4, 3) := by decide +kernel
theorem dX6_writes_47 : decode cX6_writes 47 = .ok (.iconst 3, 1) := by decide +kernel
theorem dX6_writes_48 : decode cX6_writes 48 = .ok (.istore 6, 2) := by decide +kernel
theorem dX6_writes_50 : decode cX6_writes 50 = .ok (.iconst 0, 1) := by decide +kernel
theorem dX6_writes_51 : decode cX6_writes 51 = .ok (.istore 7, 2) := by decide +kernel
theorem dX6_writes_53 : decode cX6_writes 53 = .ok (.iconst 0, 1) := by decide +kernel
theorem dX6_writes_54 : decode cX6_writes 54 = .ok (.istore 8, 2) := by decide +kernel
theorem dX6_writes_56 : decode cX6_writes 56 = .ok (.iload 8, 2) := by decide +kernel
theorem dX6_writes_58 : decode cX6_writes 58 = .ok (.iconst 3, 1) := by decide +kernel
theorem dX6_writes_59 : decode cX6_writes 59 = .ok (.if_icmp .ge 39, 3) := by decide +kernel
theorem dX6_writes_62 : decode cX6_writes 62 = .ok (.sipush 256, 3) := by decide +kernel
theorem dX6_writes_65 : decode cX6_writes 65 = .ok (.iload 7, 2) := by decide +kernel
theorem dX6_writes_67 : decode cX6_writes 67 = .ok (.imul, 1) := by decide +kernel
theorem dX6_writes_68 : decode cX6_writes 68 = .ok (.iload 8, 2) := by decide +kernel
theorem dX6_writes_70 : decode cX6_writes 70 = .ok (.iload 6, 2) := by decide +kernel
theorem dX6_writes_72 : decode cX6_writes 72 = .ok (.if_icmp .ge 16, 3) := by decide +kernel
theorem dX6_writes_75 : decode cX6_writes 75 = .ok (.aload_n 0, 1) := by decide +kernel
theorem dX6_writes_76 : decode cX6_writes 76 = .ok (.iload_n 1, 1) := by decide +kernel
theorem dX6_writes_77 : decode cX6_writes 77 = .ok (.iload 5, 2) := by decide +kernel
theorem dX6_writes_79 : decode cX6_writes 79 = .ok (.iload 8, 2) := by decide +kernel
theorem dX6_writes_81 : decode cX6_writes 81 = .ok (.iadd, 1) := by decide +kernel
theorem dX6_writes_82 : decode cX6_writes 82 = .ok (.invokevirtual 33, 3) := by decide +kernel
theorem dX6_writes_85 : decode cX6_writes 85 = .ok (.goto 4, 3) := by decide +kernel
theorem dX6_writes_88 : decode cX6_writes 88 = .ok (.iconst 0, 1) := by decide +kernel
theorem dX6_writes_89 : decode cX6_writes 89 = .ok (.iadd, 1) := by decide +kernel
theorem dX6_writes_90 : decode cX6_writes 90 = .ok (.istore 7, 2) := by decide +kernel
theorem dX6_writes_92 : decode cX6_writes 92 = .ok (.iinc 8 1, 3) := by decide +kernel
theorem dX6_writes_95 : decode cX6_writes 95 = .ok (.goto (-39), 3) := by decide +kernel
theorem dX6_writes_98 : decode cX6_writes 98 = .ok (.iconst 0, 1) := by decide +kernel
theorem dX6_writes_99 : decode cX6_writes 99 = .ok (.istore 8, 2) := by decide +kernel
theorem dX6_writes_101 : decode cX6_writes 101 = .ok (.iload 8, 2) := by decide +kernel
theorem dX6_writes_103 : decode cX6_writes 103 = .ok (.iconst 4, 1) := by decide +kernel
theorem dX6_writes_104 : decode cX6_writes 104 = .ok (.if_icmp .ge 101, 3) := by decide +kernel
theorem dX6_writes_107 : decode cX6_writes 107 = .ok (.iload 8, 2) := by decide +kernel
theorem dX6_writes_109 : decode cX6_writes 109 = .ok (.iload 6, 2) := by decide +kernel
theorem dX6_writes_111 : decode cX6_writes 111 = .ok (.if_icmp .gt 7, 3) := by decide +kernel
theorem dX6_writes_114 : decode cX6_writes 114 = .ok (.iconst 1, 1) := by decide +kernel
theorem dX6_writes_115 : decode cX6_writes 115 = .ok (.goto 4, 3) := by decide +kernel
theorem dX6_writes_118 : decode cX6_writes 118 = .ok (.iconst 0, 1) := by decide +kernel
theorem dX6_writes_119 : decode cX6_writes 119 = .ok (.istore 9, 2) := by decide +kernel
theorem dX6_writes_121 : decode cX6_writes 121 = .ok (.iload 9, 2) := by decide +kernel
theorem dX6_writes_123 : decode cX6_writes 123 = .ok (.ifCond .ne 10, 3) := by decide +kernel
theorem dX6_writes_126 : decode cX6_writes 126 = .ok (.iload_n 3, 1) := by decide +kernel
theorem dX6_writes_127 : decode cX6_writes 127 = .ok (.ifCond .ne 6, 3) := by decide +kernel
theorem dX6_writes_130 : decode cX6_writes 130 = .ok (.goto 69, 3) := by decide +kernel
theorem dX6_writes_133 : decode cX6_writes 133 = .ok (.iload_n 2, 1) := by decide +kernel
theorem dX6_writes_134 : decode cX6_writes 134 = .ok (.iconst 2, 1) := by decide +kernel
theorem dX6_writes_135 : decode cX6_writes 135 = .ok (.if_icmp .ne 28, 3) := by decide +kernel
theorem dX6_writes_138 : decode cX6_writes 138 = .ok (.iload 4, 2) := by decide +kernel
theorem dX6_writes_140 : decode cX6_writes 140 = .ok (.ifCond .le 23, 3) := by decide +kernel
theorem dX6_writes_143 : decode cX6_writes 143 = .ok (.iload 4, 2) := by decide +kernel
theorem dX6_writes_145 : decode cX6_writes 145 = .ok (.bipush 76, 2) := by decide +kernel
theorem dX6_writes_147 : decode cX6_writes 147 = .ok (.irem, 1) := by decide +kernel
theorem dX6_writes_148 : decode cX6_writes 148 = .ok (.ifCond .ne 15, 3) := by decide +kernel
theorem dX6_writes_151 : decode cX6_writes 151 = .ok (.aload_n 0, 1) := by decide +kernel
theorem dX6_writes_152 : decode cX6_writes 152 = .ok (.bipush 13, 2) := by decide +kernel
theorem dX6_writes_154 : decode cX6_writes 154 = .ok (.invokevirtual 36, 3) := by decide +kernel
theorem dX6_writes_157 : decode cX6_writes 157 = .ok (.aload_n 0, 1) := by decide +kernel
theorem dX6_writes_158 : decode cX6_writes 158 = .ok (.bipush 10, 2) := by decide +kernel
theorem dX6_writes_160 : decode cX6_writes 160 = .ok (.invokevirtual 36, 3) := by decide +kernel
theorem dX6_writes_163 : decode cX6_writes 163 = .ok (.aload_n 0, 1) := by decide +kernel
theorem dX6_writes_164 : decode cX6_writes 164 = .ok (.iload 9, 2) := by decide +kernel
theorem dX6_writes_166 : decode cX6_writes 166 = .ok (.ifCond .eq 25, 3) := by decide +kernel
theorem dX6_writes_169 : decode cX6_writes 169 = .ok (.aload_n 0, 1) := by decide +kernel
theorem dX6_writes_170 : decode cX6_writes 170 = .ok (.iload 7, 2) := by decide +kernel
theorem dX6_writes_172 : decode cX6_writes 172 = .ok (.bipush 18, 2) := by decide +kernel
theorem dX6_writes_174 : decode cX6_writes 174 = .ok (.bipush 6, 2) := by decide +kernel
theorem dX6_writes_176 : decode cX6_writes 176 = .ok (.iload 8, 2) := by decide +kernel
theorem dX6_writes_178 : decode cX6_writes 178 = .ok (.imul, 1) := by decide +kernel
theorem dX6_writes_179 : decode cX6_writes 179 = .ok (.isub, 1) := by decide +kernel
theorem dX6_writes_180 : decode cX6_writes 180 = .ok (.ishr, 1) := by decide +kernel
theorem dX6_writes_181 : decode cX6_writes 181 = .ok (.bipush 63, 2) := by decide +kernel
theorem dX6_writes_183 : decode cX6_writes 183 = .ok (.iand, 1) := by decide +kernel
theorem dX6_writes_184 : decode cX6_writes 184 = .ok (.iload_n 2, 1) := by decide +kernel
theorem dX6_writes_185 : decode cX6_writes 185 = .ok (.invokevirtual 29, 3) := by decide +kernel
theorem dX6_writes_188 : decode cX6_writes 188 = .ok (.goto 5, 3) := by decide +kernel
theorem dX6_writes_191 : decode cX6_writes 191 = .ok (.bipush 61, 2) := by decide +kernel
theorem dX6_writes_193 : decode cX6_writes 193 = .ok (.invokevirtual 36, 3) := by decide +kernel
theorem dX6_writes_196 : decode cX6_writes 196 = .ok (.iinc 4 1, 3) := by decide +kernel
theorem dX6_writes_199 : decode cX6_writes 199 = .ok (.iinc 8 1, 3) := by decide +kernel
theorem dX6_writes_202 : decode cX6_writes 202 = .ok (.goto (-101), 3) := by decide +kernel
theorem dX6_writes_205 : decode cX6_writes 205 = .ok (.iinc 5 3, 3) := by decide +kernel
theorem dX6_writes_208 : decode cX6_writes 208 = .ok (.goto (-197), 3) := by decide +kernel
theorem dX6_writes_211 : decode cX6_writes 211 = .ok (.return_, 1) := by decide +kernel
set_option maxRecDepth 20000 in
theorem ggX6_looks_X6_at : GoodIn wsX6_looks wsX6_at := goodIn_ca (goodIn_r _ [6, 7, 16, 17, 18, 19, 20, 21] (by decide +kernel) (by decide +kernel)) (goodIn_sub (fun _ h => List.mem_cons_of_mem _ (List.mem_append_right _ h)) (by decide +kernel))
set_option maxRecDepth 20000 in
theorem gX6_looks_X6_at : GoodIn wsX6_looks (wsV RX6 33 RX6 yX6_at wsX6_at) := goodIn_app (goodIn_of _ (by decide +kernel)) ggX6_looks_X6_at
set_option maxRecDepth 20000 in
theorem ggX6_looks_X6_worth : GoodIn wsX6_looks wsX6_worth := goodIn_r _ [11, 12, 13, 14, 5, 15] (by decide +kernel) (by decide +kernel)
set_option maxRecDepth 20000 in
theorem gX6_looks_X6_worth : GoodIn wsX6_looks (wsV RX6 40 RX6 yX6_worth wsX6_worth) := goodIn_app (goodIn_of _ (by decide +kernel)) ggX6_looks_X6_worth
theorem dX6_looks_0 : decode cX6_looks 0 = .ok (.aload_n 0, 1) := by decide +kernel
theorem dX6_looks_1 : decode cX6_looks 1 = .ok (.getfield 13, 3) := by decide +kernel
theorem dX6_looks_4 : decode cX6_looks 4 = .ok (.iload_n 1, 1) := by decide +kernel
theorem dX6_looks_5 : decode cX6_looks 5 = .ok (.iaload, 1) := by decide +kernel
theorem dX6_looks_6 : decode cX6_looks 6 = .ok (.istore_n 3, 1) := by decide +kernel
theorem dX6_looks_7 : decode cX6_looks 7 = .ok (.aload_n 0, 1) := by decide +kernel
theorem dX6_looks_8 : decode cX6_looks 8 = .ok (.getfield 13, 3) := by decide +kernel
theorem dX6_looks_11 : decode cX6_looks 11 = .ok (.iload_n 1, 1) := by decide +kernel
theorem dX6_looks_12 : decode cX6_looks 12 = .ok (.iaload, 1) := by decide +kernel
theorem dX6_looks_13 : decode cX6_looks 13 = .ok (.iconst 1, 1) := by decide +kernel
theorem dX6_looks_14 : decode cX6_looks 14 = .ok (.isub, 1) := by decide +kernel
theorem dX6_looks_15 : decode cX6_looks 15 = .ok (.istore 4, 2) := by decide +kernel
theorem dX6_looks_17 : decode cX6_looks 17 = .ok (.iload 4, 2) := by decide +kernel
theorem dX6_looks_19 : decode cX6_looks 19 = .ok (.ifCond .lt 28, 3) := by decide +kernel
theorem dX6_looks_22 : decode cX6_looks 22 = .ok (.aload_n 0, 1) := by decide +kernel
theorem dX6_looks_23 : decode cX6_looks 23 = .ok (.iload_n 1, 1) := by decide +kernel
theorem dX6_looks_24 : decode cX6_looks 24 = .ok (.iload 4, 2) := by decide +kernel
theorem dX6_looks_26 : decode cX6_looks 26 = .ok (.invokevirtual 33, 3) := by decide +kernel
theorem dX6_looks_29 : decode cX6_looks 29 = .ok (.bipush 61, 2) := by decide +kernel
theorem dX6_looks_31 : decode cX6_looks 31 = .ok (.if_icmp .ne 8, 3) := by decide +kernel
theorem dX6_looks_34 : decode cX6_looks 34 = .ok (.iload 4, 2) := by decide +kernel
theorem dX6_looks_36 : decode cX6_looks 36 = .ok (.goto 4, 3) := by decide +kernel
theorem dX6_looks_39 : decode cX6_looks 39 = .ok (.iload_n 3, 1) := by decide +kernel
theorem dX6_looks_40 : decode cX6_looks 40 = .ok (.istore_n 3, 1) := by decide +kernel
theorem dX6_looks_41 : decode cX6_looks 41 = .ok (.iinc 4 (-1), 3) := by decide +kernel
theorem dX6_looks_44 : decode cX6_looks 44 = .ok (.goto (-27), 3) := by decide +kernel
theorem dX6_looks_47 : decode cX6_looks 47 = .ok (.iconst 0, 1) := by decide +kernel
theorem dX6_looks_48 : decode cX6_looks 48 = .ok (.istore 4, 2) := by decide +kernel
theorem dX6_looks_50 : decode cX6_looks 50 = .ok (.iconst 0, 1) := by decide +kernel
theorem dX6_looks_51 : decode cX6_looks 51 = .ok (.istore 5, 2) := by decide +kernel
theorem dX6_looks_53 : decode cX6_looks 53 = .ok (.iconst 0, 1) := by decide +kernel
theorem dX6_looks_54 : decode cX6_looks 54 = .ok (.istore 6, 2) := by decide +kernel
theorem dX6_looks_56 : decode cX6_looks 56 = .ok (.iconst 0, 1) := by decide +kernel
theorem dX6_looks_57 : decode cX6_looks 57 = .ok (.istore 7, 2) := by decide +kernel
theorem dX6_looks_59 : decode cX6_looks 59 = .ok (.iload 7, 2) := by decide +kernel
theorem dX6_looks_61 : decode cX6_looks 61 = .ok (.iload_n 3, 1) := by decide +kernel
theorem dX6_looks_62 : decode cX6_looks 62 = .ok (.if_icmp .ge 67, 3) := by decide +kernel
theorem dX6_looks_65 : decode cX6_looks 65 = .ok (.aload_n 0, 1) := by decide +kernel
theorem dX6_looks_66 : decode cX6_looks 66 = .ok (.aload_n 0, 1) := by decide +kernel
theorem dX6_looks_67 : decode cX6_looks 67 = .ok (.iload_n 1, 1) := by decide +kernel
theorem dX6_looks_68 : decode cX6_looks 68 = .ok (.iload 7, 2) := by decide +kernel
theorem dX6_looks_70 : decode cX6_looks 70 = .ok (.invokevirtual 33, 3) := by decide +kernel
theorem dX6_looks_73 : decode cX6_looks 73 = .ok (.iload_n 2, 1) := by decide +kernel
theorem dX6_looks_74 : decode cX6_looks 74 = .ok (.invokevirtual 40, 3) := by decide +kernel
theorem dX6_looks_77 : decode cX6_looks 77 = .ok (.istore 8, 2) := by decide +kernel
theorem dX6_looks_79 : decode cX6_looks 79 = .ok (.iload 6, 2) := by decide +kernel
theorem dX6_looks_81 : decode cX6_looks 81 = .ok (.iload 8, 2) := by decide +kernel
theorem dX6_looks_83 : decode cX6_looks 83 = .ok (.ifCond .ge 7, 3) := by decide +kernel
theorem dX6_looks_86 : decode cX6_looks 86 = .ok (.iconst 1, 1) := by decide +kernel
theorem dX6_looks_87 : decode cX6_looks 87 = .ok (.goto 4, 3) := by decide +kernel
theorem dX6_looks_90 : decode cX6_looks 90 = .ok (.iconst 0, 1) := by decide +kernel
theorem dX6_looks_91 : decode cX6_looks 91 = .ok (.ior, 1) := by decide +kernel
theorem dX6_looks_92 : decode cX6_looks 92 = .ok (.istore 6, 2) := by decide +kernel
theorem dX6_looks_94 : decode cX6_looks 94 = .ok (.iload 8, 2) := by decide +kernel
theorem dX6_looks_96 : decode cX6_looks 96 = .ok (.ifCond .lt 8, 3) := by decide +kernel
theorem dX6_looks_99 : decode cX6_looks 99 = .ok (.iload 8, 2) := by decide +kernel
theorem dX6_looks_101 : decode cX6_looks 101 = .ok (.goto 5, 3) := by decide +kernel
theorem dX6_looks_104 : decode cX6_looks 104 = .ok (.iload 5, 2) := by decide +kernel
theorem dX6_looks_106 : decode cX6_looks 106 = .ok (.istore 5, 2) := by decide +kernel
theorem dX6_looks_108 : decode cX6_looks 108 = .ok (.iload 4, 2) := by decide +kernel
theorem dX6_looks_110 : decode cX6_looks 110 = .ok (.iload 8, 2) := by decide +kernel
theorem dX6_looks_112 : decode cX6_looks 112 = .ok (.ifCond .lt 7, 3) := by decide +kernel
theorem dX6_looks_115 : decode cX6_looks 115 = .ok (.iconst 1, 1) := by decide +kernel
theorem dX6_looks_116 : decode cX6_looks 116 = .ok (.goto 4, 3) := by decide +kernel
theorem dX6_looks_119 : decode cX6_looks 119 = .ok (.iconst 0, 1) := by decide +kernel
theorem dX6_looks_120 : decode cX6_looks 120 = .ok (.iadd, 1) := by decide +kernel
theorem dX6_looks_121 : decode cX6_looks 121 = .ok (.istore 4, 2) := by decide +kernel
theorem dX6_looks_123 : decode cX6_looks 123 = .ok (.iinc 7 1, 3) := by decide +kernel
theorem dX6_looks_126 : decode cX6_looks 126 = .ok (.goto (-67), 3) := by decide +kernel
theorem dX6_looks_129 : decode cX6_looks 129 = .ok (.iconst 0, 1) := by decide +kernel
theorem dX6_looks_130 : decode cX6_looks 130 = .ok (.istore 7, 2) := by decide +kernel
theorem dX6_looks_132 : decode cX6_looks 132 = .ok (.iconst 0, 1) := by decide +kernel
theorem dX6_looks_133 : decode cX6_looks 133 = .ok (.istore 8, 2) := by decide +kernel
theorem dX6_looks_135 : decode cX6_looks 135 = .ok (.iconst 0, 1) := by decide +kernel
theorem dX6_looks_136 : decode cX6_looks 136 = .ok (.istore 9, 2) := by decide +kernel
theorem dX6_looks_138 : decode cX6_looks 138 = .ok (.iload_n 3, 1) := by decide +kernel
theorem dX6_looks_139 : decode cX6_looks 139 = .ok (.istore 10, 2) := by decide +kernel
theorem dX6_looks_141 : decode cX6_looks 141 = .ok (.iload 10, 2) := by decide +kernel
theorem dX6_looks_143 : decode cX6_looks 143 = .ok (.aload_n 0, 1) := by decide +kernel
theorem dX6_looks_144 : decode cX6_looks 144 = .ok (.getfield 13, 3) := by decide +kernel
theorem dX6_looks_147 : decode cX6_looks 147 = .ok (.iload_n 1, 1) := by decide +kernel
theorem dX6_looks_148 : decode cX6_looks 148 = .ok (.iaload, 1) := by decide +kernel
theorem dX6_looks_149 : decode cX6_looks 149 = .ok (.if_icmp .ge 74, 3) := by decide +kernel
theorem dX6_looks_152 : decode cX6_looks 152 = .ok (.aload_n 0, 1) := by decide +kernel
theorem dX6_looks_153 : decode cX6_looks 153 = .ok (.iload_n 1, 1) := by decide +kernel
theorem dX6_looks_154 : decode cX6_looks 154 = .ok (.iload 10, 2) := by decide +kernel
theorem dX6_looks_156 : decode cX6_looks 156 = .ok (.invokevirtual 33, 3) := by decide +kernel
theorem dX6_looks_159 : decode cX6_looks 159 = .ok (.istore 11, 2) := by decide +kernel
theorem dX6_looks_161 : decode cX6_looks 161 = .ok (.iload 11, 2) := by decide +kernel
theorem dX6_looks_163 : decode cX6_looks 163 = .ok (.bipush 61, 2) := by decide +kernel
theorem dX6_looks_165 : decode cX6_looks 165 = .ok (.if_icmp .ne 24, 3) := by decide +kernel
theorem dX6_looks_168 : decode cX6_looks 168 = .ok (.iinc 7 1, 3) := by decide +kernel
theorem dX6_looks_171 : decode cX6_looks 171 = .ok (.iload 9, 2) := by decide +kernel
theorem dX6_looks_173 : decode cX6_looks 173 = .ok (.iload 8, 2) := by decide +kernel
theorem dX6_looks_175 : decode cX6_looks 175 = .ok (.ifCond .le 7, 3) := by decide +kernel
theorem dX6_looks_178 : decode cX6_looks 178 = .ok (.iconst 1, 1) := by decide +kernel
theorem dX6_looks_179 : decode cX6_looks 179 = .ok (.goto 4, 3) := by decide +kernel
theorem dX6_looks_182 : decode cX6_looks 182 = .ok (.iconst 0, 1) := by decide +kernel
theorem dX6_looks_183 : decode cX6_looks 183 = .ok (.ior, 1) := by decide +kernel
theorem dX6_looks_184 : decode cX6_looks 184 = .ok (.istore 9, 2) := by decide +kernel
theorem dX6_looks_186 : decode cX6_looks 186 = .ok (.goto 31, 3) := by decide +kernel
theorem dX6_looks_189 : decode cX6_looks 189 = .ok (.iinc 8 1, 3) := by decide +kernel
theorem dX6_looks_192 : decode cX6_looks 192 = .ok (.iload 9, 2) := by decide +kernel
theorem dX6_looks_194 : decode cX6_looks 194 = .ok (.iload_n 2, 1) := by decide +kernel
theorem dX6_looks_195 : decode cX6_looks 195 = .ok (.iconst 2, 1) := by decide +kernel
theorem dX6_looks_196 : decode cX6_looks 196 = .ok (.if_icmp .lt 13, 3) := by decide +kernel
theorem dX6_looks_199 : decode cX6_looks 199 = .ok (.aload_n 0, 1) := by decide +kernel
theorem dX6_looks_200 : decode cX6_looks 200 = .ok (.iload 11, 2) := by decide +kernel
theorem dX6_looks_202 : decode cX6_looks 202 = .ok (.iload_n 2, 1) := by decide +kernel
theorem dX6_looks_203 : decode cX6_looks 203 = .ok (.invokevirtual 40, 3) := by decide +kernel
theorem dX6_looks_206 : decode cX6_looks 206 = .ok (.ifCond .lt 7, 3) := by decide +kernel
theorem dX6_looks_209 : decode cX6_looks 209 = .ok (.iconst 1, 1) := by decide +kernel
theorem dX6_looks_210 : decode cX6_looks 210 = .ok (.goto 4, 3) := by decide +kernel
theorem dX6_looks_213 : decode cX6_looks 213 = .ok (.iconst 0, 1) := by decide +kernel
theorem dX6_looks_214 : decode cX6_looks 214 = .ok (.ior, 1) := by decide +kernel
theorem dX6_looks_215 : decode cX6_looks 215 = .ok (.istore 9, 2) := by decide +kernel
theorem dX6_looks_217 : decode cX6_looks 217 = .ok (.iinc 10 1, 3) := by decide +kernel
theorem dX6_looks_220 : decode cX6_looks 220 = .ok (.goto (-79), 3) := by decide +kernel
theorem dX6_looks_223 : decode cX6_looks 223 = .ok (.iload 4, 2) := by decide +kernel
theorem dX6_looks_225 : decode cX6_looks 225 = .ok (.iconst 4, 1) := by decide +kernel
theorem dX6_looks_226 : decode cX6_looks 226 = .ok (.irem, 1) := by decide +kernel
theorem dX6_looks_227 : decode cX6_looks 227 = .ok (.iconst 2, 1) := by decide +kernel
theorem dX6_looks_228 : decode cX6_looks 228 = .ok (.if_icmp .ne 7, 3) := by decide +kernel
theorem dX6_looks_231 : decode cX6_looks 231 = .ok (.iconst 2, 1) := by decide +kernel
theorem dX6_looks_232 : decode cX6_looks 232 = .ok (.goto 16, 3) := by decide +kernel
theorem dX6_looks_235 : decode cX6_looks 235 = .ok (.iload 4, 2) := by decide +kernel
theorem dX6_looks_237 : decode cX6_looks 237 = .ok (.iconst 4, 1) := by decide +kernel
theorem dX6_looks_238 : decode cX6_looks 238 = .ok (.irem, 1) := by decide +kernel
theorem dX6_looks_239 : decode cX6_looks 239 = .ok (.iconst 3, 1) := by decide +kernel
theorem dX6_looks_240 : decode cX6_looks 240 = .ok (.if_icmp .ne 7, 3) := by decide +kernel
theorem dX6_looks_243 : decode cX6_looks 243 = .ok (.iconst 1, 1) := by decide +kernel
theorem dX6_looks_244 : decode cX6_looks 244 = .ok (.goto 4, 3) := by decide +kernel
theorem dX6_looks_247 : decode cX6_looks 247 = .ok (.iconst 0, 1) := by decide +kernel
theorem dX6_looks_248 : decode cX6_looks 248 = .ok (.istore 10, 2) := by decide +kernel
theorem dX6_looks_250 : decode cX6_looks 250 = .ok (.iload_n 2, 1) := by decide +kernel
theorem dX6_looks_251 : decode cX6_looks 251 = .ok (.iconst 2, 1) := by decide +kernel
theorem dX6_looks_252 : decode cX6_looks 252 = .ok (.if_icmp .ge 15, 3) := by decide +kernel
theorem dX6_looks_255 : decode cX6_looks 255 = .ok (.iload 6, 2) := by decide +kernel
theorem dX6_looks_257 : decode cX6_looks 257 = .ok (.ifCond .ne 42, 3) := by decide +kernel
theorem dX6_looks_260 : decode cX6_looks 260 = .ok (.iload 7, 2) := by decide +kernel
theorem dX6_looks_262 : decode cX6_looks 262 = .ok (.iload 10, 2) := by decide +kernel
theorem dX6_looks_264 : decode cX6_looks 264 = .ok (.if_icmp .gt 35, 3) := by decide +kernel
theorem dX6_looks_267 : decode cX6_looks 267 = .ok (.iload 4, 2) := by decide +kernel
theorem dX6_looks_269 : decode cX6_looks 269 = .ok (.iconst 4, 1) := by decide +kernel
theorem dX6_looks_270 : decode cX6_looks 270 = .ok (.irem, 1) := by decide +kernel
theorem dX6_looks_271 : decode cX6_looks 271 = .ok (.iconst 1, 1) := by decide +kernel
theorem dX6_looks_272 : decode cX6_looks 272 = .ok (.if_icmp .eq 27, 3) := by decide +kernel
theorem dX6_looks_275 : decode cX6_looks 275 = .ok (.iload 7, 2) := by decide +kernel
theorem dX6_looks_277 : decode cX6_looks 277 = .ok (.ifCond .le 10, 3) := by decide +kernel
theorem dX6_looks_280 : decode cX6_looks 280 = .ok (.iload 4, 2) := by decide +kernel
theorem dX6_looks_282 : decode cX6_looks 282 = .ok (.iconst 4, 1) := by decide +kernel
theorem dX6_looks_283 : decode cX6_looks 283 = .ok (.irem, 1) := by decide +kernel
theorem dX6_looks_284 : decode cX6_looks 284 = .ok (.ifCond .eq 15, 3) := by decide +kernel
theorem dX6_looks_287 : decode cX6_looks 287 = .ok (.iload 7, 2) := by decide +kernel
theorem dX6_looks_289 : decode cX6_looks 289 = .ok (.iconst 1, 1) := by decide +kernel
theorem dX6_looks_290 : decode cX6_looks 290 = .ok (.if_icmp .ne 11, 3) := by decide +kernel
theorem dX6_looks_293 : decode cX6_looks 293 = .ok (.iload 10, 2) := by decide +kernel
theorem dX6_looks_295 : decode cX6_looks 295 = .ok (.iconst 2, 1) := by decide +kernel
theorem dX6_looks_296 : decode cX6_looks 296 = .ok (.if_icmp .ne 5, 3) := by decide +kernel
theorem dX6_looks_299 : decode cX6_looks 299 = .ok (.iconst (-1), 1) := by decide +kernel
theorem dX6_looks_300 : decode cX6_looks 300 = .ok (.ireturn, 1) := by decide +kernel
theorem dX6_looks_301 : decode cX6_looks 301 = .ok (.iload 9, 2) := by decide +kernel
theorem dX6_looks_303 : decode cX6_looks 303 = .ok (.ifCond .ne 37, 3) := by decide +kernel
theorem dX6_looks_306 : decode cX6_looks 306 = .ok (.iload 7, 2) := by decide +kernel
theorem dX6_looks_308 : decode cX6_looks 308 = .ok (.iload 10, 2) := by decide +kernel
theorem dX6_looks_310 : decode cX6_looks 310 = .ok (.if_icmp .gt 30, 3) := by decide +kernel
theorem dX6_looks_313 : decode cX6_looks 313 = .ok (.iload 10, 2) := by decide +kernel
theorem dX6_looks_315 : decode cX6_looks 315 = .ok (.iconst 2, 1) := by decide +kernel
theorem dX6_looks_316 : decode cX6_looks 316 = .ok (.if_icmp .ne 11, 3) := by decide +kernel
theorem dX6_looks_319 : decode cX6_looks 319 = .ok (.iload 5, 2) := by decide +kernel
theorem dX6_looks_321 : decode cX6_looks 321 = .ok (.bipush 16, 2) := by decide +kernel
theorem dX6_looks_323 : decode cX6_looks 323 = .ok (.irem, 1) := by decide +kernel
theorem dX6_looks_324 : decode cX6_looks 324 = .ok (.ifCond .gt 16, 3) := by decide +kernel
theorem dX6_looks_327 : decode cX6_looks 327 = .ok (.iload 10, 2) := by decide +kernel
theorem dX6_looks_329 : decode cX6_looks 329 = .ok (.iconst 1, 1) := by decide +kernel
theorem dX6_looks_330 : decode cX6_looks 330 = .ok (.if_icmp .ne 13, 3) := by decide +kernel
theorem dX6_looks_333 : decode cX6_looks 333 = .ok (.iload 5, 2) := by decide +kernel
theorem dX6_looks_335 : decode cX6_looks 335 = .ok (.iconst 4, 1) := by decide +kernel
theorem dX6_looks_336 : decode cX6_looks 336 = .ok (.irem, 1) := by decide +kernel
theorem dX6_looks_337 : decode cX6_looks 337 = .ok (.ifCond .le 6, 3) := by decide +kernel
theorem dX6_looks_340 : decode cX6_looks 340 = .ok (.bipush (-2), 2) := by decide +kernel
theorem dX6_looks_342 : decode cX6_looks 342 = .ok (.ireturn, 1) := by decide +kernel
theorem dX6_looks_343 : decode cX6_looks 343 = .ok (.bipush 6, 2) := by decide +kernel
theorem dX6_looks_345 : decode cX6_looks 345 = .ok (.iload 4, 2) := by decide +kernel
theorem dX6_looks_347 : decode cX6_looks 347 = .ok (.imul, 1) := by decide +kernel
theorem dX6_looks_348 : decode cX6_looks 348 = .ok (.bipush 8, 2) := by decide +kernel
theorem dX6_looks_350 : decode cX6_looks 350 = .ok (.idiv, 1) := by decide +kernel
theorem dX6_looks_351 : decode cX6_looks 351 = .ok (.ireturn, 1) := by decide +kernel
set_option maxRecDepth 20000 in
theorem ggX6_reads_X6_at : GoodIn wsX6_reads wsX6_at := goodIn_ca (goodIn_r _ [7, 8, 22, 23, 24, 25, 26, 27] (by decide +kernel) (by decide +kernel)) (goodIn_sub (fun _ h => List.mem_cons_of_mem _ (List.mem_append_right _ h)) (by decide +kernel))
set_option maxRecDepth 20000 in
theorem gX6_reads_X6_at : GoodIn wsX6_reads (wsV RX6 33 RX6 yX6_at wsX6_at) := goodIn_app (goodIn_of _ (by decide +kernel)) ggX6_reads_X6_at
set_option maxRecDepth 20000 in
theorem ggX6_reads_X6_worth : GoodIn wsX6_reads wsX6_worth := goodIn_r _ [12, 13, 14, 15, 6, 16] (by decide +kernel) (by decide +kernel)
set_option maxRecDepth 20000 in
theorem gX6_reads_X6_worth : GoodIn wsX6_reads (wsV RX6 40 RX6 yX6_worth wsX6_worth) := goodIn_app (goodIn_of _ (by decide +kernel)) ggX6_reads_X6_worth
set_option maxRecDepth 20000 in
theorem ggX6_reads_X6_makes : GoodIn wsX6_reads wsX6_makes := goodIn_ca (goodIn_r _ [20, 21, 1, 22, 23, 24, 25, 26, 27] (by decide +kernel) (by decide +kernel)) (goodIn_sub (fun _ h => List.mem_cons_of_mem _ (List.mem_append_right _ h)) (by decide +kernel))
set_option maxRecDepth 20000 in
theorem gX6_reads_X6_makes : GoodIn wsX6_reads (wsV RX6 36 RX6 yX6_makes wsX6_makes) := goodIn_app (goodIn_of _ (by decide +kernel)) ggX6_reads_X6_makes
theorem dX6_reads_0 : decode cX6_reads 0 = .ok (.aload_n 0, 1) := by decide +kernel
theorem dX6_reads_1 : decode cX6_reads 1 = .ok (.iconst 0, 1) := by decide +kernel
theorem dX6_reads_2 : decode cX6_reads 2 = .ok (.putfield 26, 3) := by decide +kernel
theorem dX6_reads_5 : decode cX6_reads 5 = .ok (.iconst 0, 1) := by decide +kernel
theorem dX6_reads_6 : decode cX6_reads 6 = .ok (.istore 4, 2) := by decide +kernel
theorem dX6_reads_8 : decode cX6_reads 8 = .ok (.iconst 0, 1) := by decide +kernel
theorem dX6_reads_9 : decode cX6_reads 9 = .ok (.istore 5, 2) := by decide +kernel
theorem dX6_reads_11 : decode cX6_reads 11 = .ok (.iconst 0, 1) := by decide +kernel
theorem dX6_reads_12 : decode cX6_reads 12 = .ok (.istore 6, 2) := by decide +kernel
theorem dX6_reads_14 : decode cX6_reads 14 = .ok (.iload 6, 2) := by decide +kernel
theorem dX6_reads_16 : decode cX6_reads 16 = .ok (.aload_n 0, 1) := by decide +kernel
theorem dX6_reads_17 : decode cX6_reads 17 = .ok (.getfield 13, 3) := by decide +kernel
theorem dX6_reads_20 : decode cX6_reads 20 = .ok (.iload_n 1, 1) := by decide +kernel
theorem dX6_reads_21 : decode cX6_reads 21 = .ok (.iaload, 1) := by decide +kernel
theorem dX6_reads_22 : decode cX6_reads 22 = .ok (.if_icmp .ge 76, 3) := by decide +kernel
theorem dX6_reads_25 : decode cX6_reads 25 = .ok (.aload_n 0, 1) := by decide +kernel
theorem dX6_reads_26 : decode cX6_reads 26 = .ok (.getfield 26, 3) := by decide +kernel
theorem dX6_reads_29 : decode cX6_reads 29 = .ok (.iload_n 3, 1) := by decide +kernel
theorem dX6_reads_30 : decode cX6_reads 30 = .ok (.if_icmp .ge 68, 3) := by decide +kernel
theorem dX6_reads_33 : decode cX6_reads 33 = .ok (.aload_n 0, 1) := by decide +kernel
theorem dX6_reads_34 : decode cX6_reads 34 = .ok (.aload_n 0, 1) := by decide +kernel
theorem dX6_reads_35 : decode cX6_reads 35 = .ok (.iload_n 1, 1) := by decide +kernel
theorem dX6_reads_36 : decode cX6_reads 36 = .ok (.iload 6, 2) := by decide +kernel
theorem dX6_reads_38 : decode cX6_reads 38 = .ok (.invokevirtual 33, 3) := by decide +kernel
theorem dX6_reads_41 : decode cX6_reads 41 = .ok (.iload_n 2, 1) := by decide +kernel
theorem dX6_reads_42 : decode cX6_reads 42 = .ok (.invokevirtual 40, 3) := by decide +kernel
theorem dX6_reads_45 : decode cX6_reads 45 = .ok (.istore 7, 2) := by decide +kernel
theorem dX6_reads_47 : decode cX6_reads 47 = .ok (.iload 7, 2) := by decide +kernel
theorem dX6_reads_49 : decode cX6_reads 49 = .ok (.ifCond .lt 43, 3) := by decide +kernel
theorem dX6_reads_52 : decode cX6_reads 52 = .ok (.iload 4, 2) := by decide +kernel
theorem dX6_reads_54 : decode cX6_reads 54 = .ok (.sipush 255, 3) := by decide +kernel
theorem dX6_reads_57 : decode cX6_reads 57 = .ok (.iand, 1) := by decide +kernel
theorem dX6_reads_58 : decode cX6_reads 58 = .ok (.bipush 64, 2) := by decide +kernel
theorem dX6_reads_60 : decode cX6_reads 60 = .ok (.imul, 1) := by decide +kernel
theorem dX6_reads_61 : decode cX6_reads 61 = .ok (.iload 7, 2) := by decide +kernel
theorem dX6_reads_63 : decode cX6_reads 63 = .ok (.iadd, 1) := by decide +kernel
theorem dX6_reads_64 : decode cX6_reads 64 = .ok (.istore 4, 2) := by decide +kernel
theorem dX6_reads_66 : decode cX6_reads 66 = .ok (.iinc 5 6, 3) := by decide +kernel
theorem dX6_reads_69 : decode cX6_reads 69 = .ok (.iload 5, 2) := by decide +kernel
theorem dX6_reads_71 : decode cX6_reads 71 = .ok (.bipush 8, 2) := by decide +kernel
theorem dX6_reads_73 : decode cX6_reads 73 = .ok (.if_icmp .lt 19, 3) := by decide +kernel
theorem dX6_reads_76 : decode cX6_reads 76 = .ok (.iinc 5 (-8), 3) := by decide +kernel
theorem dX6_reads_79 : decode cX6_reads 79 = .ok (.aload_n 0, 1) := by decide +kernel
theorem dX6_reads_80 : decode cX6_reads 80 = .ok (.iload 4, 2) := by decide +kernel
theorem dX6_reads_82 : decode cX6_reads 82 = .ok (.iload 5, 2) := by decide +kernel
theorem dX6_reads_84 : decode cX6_reads 84 = .ok (.ishr, 1) := by decide +kernel
theorem dX6_reads_85 : decode cX6_reads 85 = .ok (.sipush 255, 3) := by decide +kernel
theorem dX6_reads_88 : decode cX6_reads 88 = .ok (.iand, 1) := by decide +kernel
theorem dX6_reads_89 : decode cX6_reads 89 = .ok (.invokevirtual 36, 3) := by decide +kernel
theorem dX6_reads_92 : decode cX6_reads 92 = .ok (.iinc 6 1, 3) := by decide +kernel
theorem dX6_reads_95 : decode cX6_reads 95 = .ok (.goto (-81), 3) := by decide +kernel
theorem dX6_reads_98 : decode cX6_reads 98 = .ok (.return_, 1) := by decide +kernel
set_option maxRecDepth 20000 in
theorem ggX6_add_X6_isRow : GoodIn wsX6_add wsX6_isRow := goodIn_r _ [7] (by decide +kernel) (by decide +kernel)
set_option maxRecDepth 20000 in
theorem gX6_add_X6_isRow : GoodIn wsX6_add (wsV RX6 43 RX6 yX6_isRow wsX6_isRow) := goodIn_app (goodIn_of _ (by decide +kernel)) ggX6_add_X6_isRow
set_option maxRecDepth 20000 in
theorem ggX6_add_X6_isByte : GoodIn wsX6_add wsX6_isByte := goodIn_r _ [11] (by decide +kernel) (by decide +kernel)
set_option maxRecDepth 20000 in
theorem gX6_add_X6_isByte : GoodIn wsX6_add (wsV RX6 47 RX6 yX6_isByte wsX6_isByte) := goodIn_app (goodIn_of _ (by decide +kernel)) ggX6_add_X6_isByte
set_option maxRecDepth 20000 in
theorem ggX6_add_X6_isWrong : GoodIn wsX6_add wsX6_isWrong := goodIn_r _ [15, 16, 17, 18, 19, 20, 21, 22] (by decide +kernel) (by decide +kernel)
set_option maxRecDepth 20000 in
theorem gX6_add_X6_isWrong : GoodIn wsX6_add (wsV RX6 50 RX6 yX6_isWrong wsX6_isWrong) := goodIn_app (goodIn_of _ (by decide +kernel)) ggX6_add_X6_isWrong
theorem dX6_add_0 : decode cX6_add 0 = .ok (.aload_n 0, 1) := by decide +kernel
theorem dX6_add_1 : decode cX6_add 1 = .ok (.aload_n 0, 1) := by decide +kernel
theorem dX6_add_2 : decode cX6_add 2 = .ok (.iload_n 1, 1) := by decide +kernel
theorem dX6_add_3 : decode cX6_add 3 = .ok (.invokevirtual 43, 3) := by decide +kernel
theorem dX6_add_6 : decode cX6_add 6 = .ok (.ifCond .ne 7, 3) := by decide +kernel
theorem dX6_add_9 : decode cX6_add 9 = .ok (.iconst 1, 1) := by decide +kernel
theorem dX6_add_10 : decode cX6_add 10 = .ok (.goto 32, 3) := by decide +kernel
theorem dX6_add_13 : decode cX6_add 13 = .ok (.aload_n 0, 1) := by decide +kernel
theorem dX6_add_14 : decode cX6_add 14 = .ok (.iload_n 2, 1) := by decide +kernel
theorem dX6_add_15 : decode cX6_add 15 = .ok (.invokevirtual 47, 3) := by decide +kernel
theorem dX6_add_18 : decode cX6_add 18 = .ok (.ifCond .ne 7, 3) := by decide +kernel
theorem dX6_add_21 : decode cX6_add 21 = .ok (.iconst 2, 1) := by decide +kernel
theorem dX6_add_22 : decode cX6_add 22 = .ok (.goto 20, 3) := by decide +kernel
theorem dX6_add_25 : decode cX6_add 25 = .ok (.aload_n 0, 1) := by decide +kernel
theorem dX6_add_26 : decode cX6_add 26 = .ok (.getfield 13, 3) := by decide +kernel
theorem dX6_add_29 : decode cX6_add 29 = .ok (.iload_n 1, 1) := by decide +kernel
theorem dX6_add_30 : decode cX6_add 30 = .ok (.iaload, 1) := by decide +kernel
theorem dX6_add_31 : decode cX6_add 31 = .ok (.sipush 320, 3) := by decide +kernel
theorem dX6_add_34 : decode cX6_add 34 = .ok (.if_icmp .ne 7, 3) := by decide +kernel
theorem dX6_add_37 : decode cX6_add 37 = .ok (.iconst 3, 1) := by decide +kernel
theorem dX6_add_38 : decode cX6_add 38 = .ok (.goto 4, 3) := by decide +kernel
theorem dX6_add_41 : decode cX6_add 41 = .ok (.iconst 0, 1) := by decide +kernel
theorem dX6_add_42 : decode cX6_add 42 = .ok (.invokevirtual 50, 3) := by decide +kernel
theorem dX6_add_45 : decode cX6_add 45 = .ok (.ifCond .eq 5, 3) := by decide +kernel
theorem dX6_add_48 : decode cX6_add 48 = .ok (.iconst 0, 1) := by decide +kernel
theorem dX6_add_49 : decode cX6_add 49 = .ok (.ireturn, 1) := by decide +kernel
theorem dX6_add_50 : decode cX6_add 50 = .ok (.aload_n 0, 1) := by decide +kernel
theorem dX6_add_51 : decode cX6_add 51 = .ok (.getfield 7, 3) := by decide +kernel
theorem dX6_add_54 : decode cX6_add 54 = .ok (.sipush 320, 3) := by decide +kernel
theorem dX6_add_57 : decode cX6_add 57 = .ok (.iload_n 1, 1) := by decide +kernel
theorem dX6_add_58 : decode cX6_add 58 = .ok (.imul, 1) := by decide +kernel
theorem dX6_add_59 : decode cX6_add 59 = .ok (.aload_n 0, 1) := by decide +kernel
theorem dX6_add_60 : decode cX6_add 60 = .ok (.getfield 13, 3) := by decide +kernel
theorem dX6_add_63 : decode cX6_add 63 = .ok (.iload_n 1, 1) := by decide +kernel
theorem dX6_add_64 : decode cX6_add 64 = .ok (.iaload, 1) := by decide +kernel
theorem dX6_add_65 : decode cX6_add 65 = .ok (.iadd, 1) := by decide +kernel
theorem dX6_add_66 : decode cX6_add 66 = .ok (.iload_n 2, 1) := by decide +kernel
theorem dX6_add_67 : decode cX6_add 67 = .ok (.iastore, 1) := by decide +kernel
theorem dX6_add_68 : decode cX6_add 68 = .ok (.aload_n 0, 1) := by decide +kernel
theorem dX6_add_69 : decode cX6_add 69 = .ok (.getfield 13, 3) := by decide +kernel
theorem dX6_add_72 : decode cX6_add 72 = .ok (.iload_n 1, 1) := by decide +kernel
theorem dX6_add_73 : decode cX6_add 73 = .ok (.dup2, 1) := by decide +kernel
theorem dX6_add_74 : decode cX6_add 74 = .ok (.iaload, 1) := by decide +kernel
theorem dX6_add_75 : decode cX6_add 75 = .ok (.iconst 1, 1) := by decide +kernel
theorem dX6_add_76 : decode cX6_add 76 = .ok (.iadd, 1) := by decide +kernel
theorem dX6_add_77 : decode cX6_add 77 = .ok (.iastore, 1) := by decide +kernel
theorem dX6_add_78 : decode cX6_add 78 = .ok (.aload_n 0, 1) := by decide +kernel
theorem dX6_add_79 : decode cX6_add 79 = .ok (.getfield 13, 3) := by decide +kernel
theorem dX6_add_82 : decode cX6_add 82 = .ok (.iload_n 1, 1) := by decide +kernel
theorem dX6_add_83 : decode cX6_add 83 = .ok (.iaload, 1) := by decide +kernel
theorem dX6_add_84 : decode cX6_add 84 = .ok (.ireturn, 1) := by decide +kernel
set_option maxRecDepth 20000 in
theorem ggX6_addMore_X6_isByte : GoodIn wsX6_addMore wsX6_isByte := goodIn_r _ [6] (by decide +kernel) (by decide +kernel)
set_option maxRecDepth 20000 in
theorem gX6_addMore_X6_isByte : GoodIn wsX6_addMore (wsV RX6 47 RX6 yX6_isByte wsX6_isByte) := goodIn_app (goodIn_of _ (by decide +kernel)) ggX6_addMore_X6_isByte
set_option maxRecDepth 20000 in
theorem ggX6_addMore_X6_isRow : GoodIn wsX6_addMore wsX6_isRow := goodIn_r _ [10] (by decide +kernel) (by decide +kernel)
set_option maxRecDepth 20000 in
theorem gX6_addMore_X6_isRow : GoodIn wsX6_addMore (wsV RX6 43 RX6 yX6_isRow wsX6_isRow) := goodIn_app (goodIn_of _ (by decide +kernel)) ggX6_addMore_X6_isRow
set_option maxRecDepth 20000 in
theorem ggX6_addMore_X6_isWrong : GoodIn wsX6_addMore wsX6_isWrong := goodIn_r _ [14, 15, 21, 22, 23, 24, 25, 26] (by decide +kernel) (by decide +kernel)
set_option maxRecDepth 20000 in
theorem gX6_addMore_X6_isWrong : GoodIn wsX6_addMore (wsV RX6 50 RX6 yX6_isWrong wsX6_isWrong) := goodIn_app (goodIn_of _ (by decide +kernel)) ggX6_addMore_X6_isWrong
set_option maxRecDepth 20000 in
theorem ggX6_addMore_X6_add : GoodIn wsX6_addMore wsX6_add := goodIn_ca (goodIn_r _ [19, 1, 20, 7, 8, 9, 5, 10, 2, 3, 4, 6, 11, 12, 13, 14, 15, 21, 22, 23, 24, 25, 26] (by decide +kernel) (by decide +kernel)) (goodIn_sub (fun _ h => List.mem_cons_of_mem _ (List.mem_append_right _ h)) (by decide +kernel))
set_option maxRecDepth 20000 in
theorem gX6_addMore_X6_add : GoodIn wsX6_addMore (wsV RX6 53 RX6 yX6_add wsX6_add) := goodIn_app (goodIn_of _ (by decide +kernel)) ggX6_addMore_X6_add
theorem dX6_addMore_0 : decode cX6_addMore 0 = .ok (.iconst 1, 1) := by decide +kernel
theorem dX6_addMore_1 : decode cX6_addMore 1 = .ok (.iload_n 2, 1) := by decide +kernel
theorem dX6_addMore_2 : decode cX6_addMore 2 = .ok (.if_icmp .gt 122, 3) := by decide +kernel
theorem dX6_addMore_5 : decode cX6_addMore 5 = .ok (.iload_n 2, 1) := by decide +kernel
theorem dX6_addMore_6 : decode cX6_addMore 6 = .ok (.bipush 8, 2) := by decide +kernel
theorem dX6_addMore_8 : decode cX6_addMore 8 = .ok (.if_icmp .gt 116, 3) := by decide +kernel
theorem dX6_addMore_11 : decode cX6_addMore 11 = .ok (.aload_n 0, 1) := by decide +kernel
theorem dX6_addMore_12 : decode cX6_addMore 12 = .ok (.iload_n 3, 1) := by decide +kernel
theorem dX6_addMore_13 : decode cX6_addMore 13 = .ok (.invokevirtual 47, 3) := by decide +kernel
theorem dX6_addMore_16 : decode cX6_addMore 16 = .ok (.ifCond .eq 108, 3) := by decide +kernel
theorem dX6_addMore_19 : decode cX6_addMore 19 = .ok (.iload_n 2, 1) := by decide +kernel
theorem dX6_addMore_20 : decode cX6_addMore 20 = .ok (.iconst 2, 1) := by decide +kernel
theorem dX6_addMore_21 : decode cX6_addMore 21 = .ok (.if_icmp .lt 12, 3) := by decide +kernel
theorem dX6_addMore_24 : decode cX6_addMore 24 = .ok (.aload_n 0, 1) := by decide +kernel
theorem dX6_addMore_25 : decode cX6_addMore 25 = .ok (.iload 4, 2) := by decide +kernel
theorem dX6_addMore_27 : decode cX6_addMore 27 = .ok (.invokevirtual 47, 3) := by decide +kernel
theorem dX6_addMore_30 : decode cX6_addMore 30 = .ok (.ifCond .eq 94, 3) := by decide +kernel
theorem dX6_addMore_33 : decode cX6_addMore 33 = .ok (.iload_n 2, 1) := by decide +kernel
theorem dX6_addMore_34 : decode cX6_addMore 34 = .ok (.iconst 3, 1) := by decide +kernel
theorem dX6_addMore_35 : decode cX6_addMore 35 = .ok (.if_icmp .lt 12, 3) := by decide +kernel
theorem dX6_addMore_38 : decode cX6_addMore 38 = .ok (.aload_n 0, 1) := by decide +kernel
theorem dX6_addMore_39 : decode cX6_addMore 39 = .ok (.iload 5, 2) := by decide +kernel
theorem dX6_addMore_41 : decode cX6_addMore 41 = .ok (.invokevirtual 47, 3) := by decide +kernel
theorem dX6_addMore_44 : decode cX6_addMore 44 = .ok (.ifCond .eq 80, 3) := by decide +kernel
theorem dX6_addMore_47 : decode cX6_addMore 47 = .ok (.iload_n 2, 1) := by decide +kernel
theorem dX6_addMore_48 : decode cX6_addMore 48 = .ok (.iconst 4, 1) := by decide +kernel
theorem dX6_addMore_49 : decode cX6_addMore 49 = .ok (.if_icmp .lt 12, 3) := by decide +kernel
theorem dX6_addMore_52 : decode cX6_addMore 52 = .ok (.aload_n 0, 1) := by decide +kernel
theorem dX6_addMore_53 : decode cX6_addMore 53 = .ok (.iload 6, 2) := by decide +kernel
theorem dX6_addMore_55 : decode cX6_addMore 55 = .ok (.invokevirtual 47, 3) := by decide +kernel
theorem dX6_addMore_58 : decode cX6_addMore 58 = .ok (.ifCond .eq 66, 3) := by decide +kernel
theorem dX6_addMore_61 : decode cX6_addMore 61 = .ok (.iload_n 2, 1) := by decide +kernel
theorem dX6_addMore_62 : decode cX6_addMore 62 = .ok (.iconst 5, 1) := by decide +kernel
theorem dX6_addMore_63 : decode cX6_addMore 63 = .ok (.if_icmp .lt 12, 3) := by decide +kernel
theorem dX6_addMore_66 : decode cX6_addMore 66 = .ok (.aload_n 0, 1) := by decide +kernel
theorem dX6_addMore_67 : decode cX6_addMore 67 = .ok (.iload 7, 2) := by decide +kernel
theorem dX6_addMore_69 : decode cX6_addMore 69 = .ok (.invokevirtual 47, 3) := by decide +kernel
theorem dX6_addMore_72 : decode cX6_addMore 72 = .ok (.ifCond .eq 52, 3) := by decide +kernel
theorem dX6_addMore_75 : decode cX6_addMore 75 = .ok (.iload_n 2, 1) := by decide +kernel
theorem dX6_addMore_76 : decode cX6_addMore 76 = .ok (.bipush 6, 2) := by decide +kernel
theorem dX6_addMore_78 : decode cX6_addMore 78 = .ok (.if_icmp .lt 12, 3) := by decide +kernel
theorem dX6_addMore_81 : decode cX6_addMore 81 = .ok (.aload_n 0, 1) := by decide +kernel
theorem dX6_addMore_82 : decode cX6_addMore 82 = .ok (.iload 8, 2) := by decide +kernel
theorem dX6_addMore_84 : decode cX6_addMore 84 = .ok (.invokevirtual 47, 3) := by decide +kernel
theorem dX6_addMore_87 : decode cX6_addMore 87 = .ok (.ifCond .eq 37, 3) := by decide +kernel
theorem dX6_addMore_90 : decode cX6_addMore 90 = .ok (.iload_n 2, 1) := by decide +kernel
theorem dX6_addMore_91 : decode cX6_addMore 91 = .ok (.bipush 7, 2) := by decide +kernel
theorem dX6_addMore_93 : decode cX6_addMore 93 = .ok (.if_icmp .lt 12, 3) := by decide +kernel
theorem dX6_addMore_96 : decode cX6_addMore 96 = .ok (.aload_n 0, 1) := by decide +kernel
theorem dX6_addMore_97 : decode cX6_addMore 97 = .ok (.iload 9, 2) := by decide +kernel
theorem dX6_addMore_99 : decode cX6_addMore 99 = .ok (.invokevirtual 47, 3) := by decide +kernel
theorem dX6_addMore_102 : decode cX6_addMore 102 = .ok (.ifCond .eq 22, 3) := by decide +kernel
theorem dX6_addMore_105 : decode cX6_addMore 105 = .ok (.iload_n 2, 1) := by decide +kernel
theorem dX6_addMore_106 : decode cX6_addMore 106 = .ok (.bipush 8, 2) := by decide +kernel
theorem dX6_addMore_108 : decode cX6_addMore 108 = .ok (.if_icmp .lt 12, 3) := by decide +kernel
theorem dX6_addMore_111 : decode cX6_addMore 111 = .ok (.aload_n 0, 1) := by decide +kernel
theorem dX6_addMore_112 : decode cX6_addMore 112 = .ok (.iload 10, 2) := by decide +kernel
theorem dX6_addMore_114 : decode cX6_addMore 114 = .ok (.invokevirtual 47, 3) := by decide +kernel
theorem dX6_addMore_117 : decode cX6_addMore 117 = .ok (.ifCond .eq 7, 3) := by decide +kernel
theorem dX6_addMore_120 : decode cX6_addMore 120 = .ok (.iconst 1, 1) := by decide +kernel
theorem dX6_addMore_121 : decode cX6_addMore 121 = .ok (.goto 4, 3) := by decide +kernel
theorem dX6_addMore_124 : decode cX6_addMore 124 = .ok (.iconst 0, 1) := by decide +kernel
theorem dX6_addMore_125 : decode cX6_addMore 125 = .ok (.istore 11, 2) := by decide +kernel
theorem dX6_addMore_127 : decode cX6_addMore 127 = .ok (.aload_n 0, 1) := by decide +kernel
theorem dX6_addMore_128 : decode cX6_addMore 128 = .ok (.aload_n 0, 1) := by decide +kernel
theorem dX6_addMore_129 : decode cX6_addMore 129 = .ok (.iload_n 1, 1) := by decide +kernel
theorem dX6_addMore_130 : decode cX6_addMore 130 = .ok (.invokevirtual 43, 3) := by decide +kernel
theorem dX6_addMore_133 : decode cX6_addMore 133 = .ok (.ifCond .ne 7, 3) := by decide +kernel
theorem dX6_addMore_136 : decode cX6_addMore 136 = .ok (.iconst 1, 1) := by decide +kernel
theorem dX6_addMore_137 : decode cX6_addMore 137 = .ok (.goto 31, 3) := by decide +kernel
theorem dX6_addMore_140 : decode cX6_addMore 140 = .ok (.iload 11, 2) := by decide +kernel
theorem dX6_addMore_142 : decode cX6_addMore 142 = .ok (.ifCond .ne 7, 3) := by decide +kernel
theorem dX6_addMore_145 : decode cX6_addMore 145 = .ok (.iconst 2, 1) := by decide +kernel
theorem dX6_addMore_146 : decode cX6_addMore 146 = .ok (.goto 22, 3) := by decide +kernel
theorem dX6_addMore_149 : decode cX6_addMore 149 = .ok (.aload_n 0, 1) := by decide +kernel
theorem dX6_addMore_150 : decode cX6_addMore 150 = .ok (.getfield 13, 3) := by decide +kernel
theorem dX6_addMore_153 : decode cX6_addMore 153 = .ok (.iload_n 1, 1) := by decide +kernel
theorem dX6_addMore_154 : decode cX6_addMore 154 = .ok (.iaload, 1) := by decide +kernel
theorem dX6_addMore_155 : decode cX6_addMore 155 = .ok (.iload_n 2, 1) := by decide +kernel
theorem dX6_addMore_156 : decode cX6_addMore 156 = .ok (.iadd, 1) := by decide +kernel
theorem dX6_addMore_157 : decode cX6_addMore 157 = .ok (.sipush 320, 3) := by decide +kernel
theorem dX6_addMore_160 : decode cX6_addMore 160 = .ok (.if_icmp .le 7, 3) := by decide +kernel
theorem dX6_addMore_163 : decode cX6_addMore 163 = .ok (.iconst 3, 1) := by decide +kernel
theorem dX6_addMore_164 : decode cX6_addMore 164 = .ok (.goto 4, 3) := by decide +kernel
theorem dX6_addMore_167 : decode cX6_addMore 167 = .ok (.iconst 0, 1) := by decide +kernel
theorem dX6_addMore_168 : decode cX6_addMore 168 = .ok (.invokevirtual 50, 3) := by decide +kernel
theorem dX6_addMore_171 : decode cX6_addMore 171 = .ok (.ifCond .eq 5, 3) := by decide +kernel
theorem dX6_addMore_174 : decode cX6_addMore 174 = .ok (.iconst 0, 1) := by decide +kernel
theorem dX6_addMore_175 : decode cX6_addMore 175 = .ok (.ireturn, 1) := by decide +kernel
theorem dX6_addMore_176 : decode cX6_addMore 176 = .ok (.iconst 0, 1) := by decide +kernel
theorem dX6_addMore_177 : decode cX6_addMore 177 = .ok (.istore 12, 2) := by decide +kernel
theorem dX6_addMore_179 : decode cX6_addMore 179 = .ok (.iload 12, 2) := by decide +kernel
theorem dX6_addMore_181 : decode cX6_addMore 181 = .ok (.iload_n 2, 1) := by decide +kernel
theorem dX6_addMore_182 : decode cX6_addMore 182 = .ok (.if_icmp .ge 93, 3) := by decide +kernel
theorem dX6_addMore_185 : decode cX6_addMore 185 = .ok (.aload_n 0, 1) := by decide +kernel
theorem dX6_addMore_186 : decode cX6_addMore 186 = .ok (.iload_n 1, 1) := by decide +kernel
theorem dX6_addMore_187 : decode cX6_addMore 187 = .ok (.iload 12, 2) := by decide +kernel
theorem dX6_addMore_189 : decode cX6_addMore 189 = .ok (.ifCond .ne 7, 3) := by decide +kernel
theorem dX6_addMore_192 : decode cX6_addMore 192 = .ok (.iload_n 3, 1) := by decide +kernel
theorem dX6_addMore_193 : decode cX6_addMore 193 = .ok (.goto 72, 3) := by decide +kernel
theorem dX6_addMore_196 : decode cX6_addMore 196 = .ok (.iload 12, 2) := by decide +kernel
theorem dX6_addMore_198 : decode cX6_addMore 198 = .ok (.iconst 1, 1) := by decide +kernel
theorem dX6_addMore_199 : decode cX6_addMore 199 = .ok (.if_icmp .ne 8, 3) := by decide +kernel
theorem dX6_addMore_202 : decode cX6_addMore 202 = .ok (.iload 4, 2) := by decide +kernel
theorem dX6_addMore_204 : decode cX6_addMore 204 = .ok (.goto 61, 3) := by decide +kernel
theorem dX6_addMore_207 : decode cX6_addMore 207 = .ok (.iload 12, 2) := by decide +kernel
theorem dX6_addMore_209 : decode cX6_addMore 209 = .ok (.iconst 2, 1) := by decide +kernel
theorem dX6_addMore_210 : decode cX6_addMore 210 = .ok (.if_icmp .ne 8, 3) := by decide +kernel
theorem dX6_addMore_213 : decode cX6_addMore 213 = .ok (.iload 5, 2) := by decide +kernel
theorem dX6_addMore_215 : decode cX6_addMore 215 = .ok (.goto 50, 3) := by decide +kernel
theorem dX6_addMore_218 : decode cX6_addMore 218 = .ok (.iload 12, 2) := by decide +kernel
theorem dX6_addMore_220 : decode cX6_addMore 220 = .ok (.iconst 3, 1) := by decide +kernel
theorem dX6_addMore_221 : decode cX6_addMore 221 = .ok (.if_icmp .ne 8, 3) := by decide +kernel
theorem dX6_addMore_224 : decode cX6_addMore 224 = .ok (.iload 6, 2) := by decide +kernel
theorem dX6_addMore_226 : decode cX6_addMore 226 = .ok (.goto 39, 3) := by decide +kernel
theorem dX6_addMore_229 : decode cX6_addMore 229 = .ok (.iload 12, 2) := by decide +kernel
theorem dX6_addMore_231 : decode cX6_addMore 231 = .ok (.iconst 4, 1) := by decide +kernel
theorem dX6_addMore_232 : decode cX6_addMore 232 = .ok (.if_icmp .ne 8, 3) := by decide +kernel
theorem dX6_addMore_235 : decode cX6_addMore 235 = .ok (.iload 7, 2) := by decide +kernel
theorem dX6_addMore_237 : decode cX6_addMore 237 = .ok (.goto 28, 3) := by decide +kernel
theorem dX6_addMore_240 : decode cX6_addMore 240 = .ok (.iload 12, 2) := by decide +kernel
theorem dX6_addMore_242 : decode cX6_addMore 242 = .ok (.iconst 5, 1) := by decide +kernel
theorem dX6_addMore_243 : decode cX6_addMore 243 = .ok (.if_icmp .ne 8, 3) := by decide +kernel
theorem dX6_addMore_246 : decode cX6_addMore 246 = .ok (.iload 8, 2) := by decide +kernel
theorem dX6_addMore_248 : decode cX6_addMore 248 = .ok (.goto 17, 3) := by decide +kernel
theorem dX6_addMore_251 : decode cX6_addMore 251 = .ok (.iload 12, 2) := by decide +kernel
theorem dX6_addMore_253 : decode cX6_addMore 253 = .ok (.bipush 6, 2) := by decide +kernel
theorem dX6_addMore_255 : decode cX6_addMore 255 = .ok (.if_icmp .ne 8, 3) := by decide +kernel
theorem dX6_addMore_258 : decode cX6_addMore 258 = .ok (.iload 9, 2) := by decide +kernel
theorem dX6_addMore_260 : decode cX6_addMore 260 = .ok (.goto 5, 3) := by decide +kernel
theorem dX6_addMore_263 : decode cX6_addMore 263 = .ok (.iload 10, 2) := by decide +kernel
theorem dX6_addMore_265 : decode cX6_addMore 265 = .ok (.invokevirtual 53, 3) := by decide +kernel
theorem dX6_addMore_268 : decode cX6_addMore 268 = .ok (.pop, 1) := by decide +kernel
theorem dX6_addMore_269 : decode cX6_addMore 269 = .ok (.iinc 12 1, 3) := by decide +kernel
theorem dX6_addMore_272 : decode cX6_addMore 272 = .ok (.goto (-93), 3) := by decide +kernel
theorem dX6_addMore_275 : decode cX6_addMore 275 = .ok (.aload_n 0, 1) := by decide +kernel
theorem dX6_addMore_276 : decode cX6_addMore 276 = .ok (.getfield 13, 3) := by decide +kernel
theorem dX6_addMore_279 : decode cX6_addMore 279 = .ok (.iload_n 1, 1) := by decide +kernel
theorem dX6_addMore_280 : decode cX6_addMore 280 = .ok (.iaload, 1) := by decide +kernel
theorem dX6_addMore_281 : decode cX6_addMore 281 = .ok (.ireturn, 1) := by decide +kernel
set_option maxRecDepth 20000 in
theorem ggX6_isPlace_X6_isRow : GoodIn wsX6_isPlace wsX6_isRow := goodIn_r _ [6] (by decide +kernel) (by decide +kernel)
set_option maxRecDepth 20000 in
theorem gX6_isPlace_X6_isRow : GoodIn wsX6_isPlace (wsV RX6 43 RX6 yX6_isRow wsX6_isRow) := goodIn_app (goodIn_of _ (by decide +kernel)) ggX6_isPlace_X6_isRow
theorem dX6_isPlace_0 : decode cX6_isPlace 0 = .ok (.aload_n 0, 1) := by decide +kernel
theorem dX6_isPlace_1 : decode cX6_isPlace 1 = .ok (.iload_n 1, 1) := by decide +kernel
theorem dX6_isPlace_2 : decode cX6_isPlace 2 = .ok (.invokevirtual 43, 3) := by decide +kernel
theorem dX6_isPlace_5 : decode cX6_isPlace 5 = .ok (.ifCond .eq 22, 3) := by decide +kernel
theorem dX6_isPlace_8 : decode cX6_isPlace 8 = .ok (.iconst 0, 1) := by decide +kernel
theorem dX6_isPlace_9 : decode cX6_isPlace 9 = .ok (.iload_n 2, 1) := by decide +kernel
theorem dX6_isPlace_10 : decode cX6_isPlace 10 = .ok (.if_icmp .gt 17, 3) := by decide +kernel
theorem dX6_isPlace_13 : decode cX6_isPlace 13 = .ok (.iload_n 2, 1) := by decide +kernel
theorem dX6_isPlace_14 : decode cX6_isPlace 14 = .ok (.aload_n 0, 1) := by decide +kernel
theorem dX6_isPlace_15 : decode cX6_isPlace 15 = .ok (.getfield 13, 3) := by decide +kernel
theorem dX6_isPlace_18 : decode cX6_isPlace 18 = .ok (.iload_n 1, 1) := by decide +kernel
theorem dX6_isPlace_19 : decode cX6_isPlace 19 = .ok (.iaload, 1) := by decide +kernel
theorem dX6_isPlace_20 : decode cX6_isPlace 20 = .ok (.if_icmp .ge 7, 3) := by decide +kernel
theorem dX6_isPlace_23 : decode cX6_isPlace 23 = .ok (.iconst 1, 1) := by decide +kernel
theorem dX6_isPlace_24 : decode cX6_isPlace 24 = .ok (.goto 4, 3) := by decide +kernel
theorem dX6_isPlace_27 : decode cX6_isPlace 27 = .ok (.iconst 0, 1) := by decide +kernel
theorem dX6_isPlace_28 : decode cX6_isPlace 28 = .ok (.ireturn, 1) := by decide +kernel
set_option maxRecDepth 20000 in
theorem ggX6_put_X6_isPlace : GoodIn wsX6_put wsX6_isPlace := goodIn_ca (goodIn_r _ [6, 7, 8, 9, 10, 5, 11, 25, 26, 27, 28, 29, 30] (by decide +kernel) (by decide +kernel)) (goodIn_sub (fun _ h => List.mem_cons_of_mem _ (List.mem_append_right _ h)) (by decide +kernel))
set_option maxRecDepth 20000 in
theorem gX6_put_X6_isPlace : GoodIn wsX6_put (wsV RX6 56 RX6 yX6_isPlace wsX6_isPlace) := goodIn_app (goodIn_of _ (by decide +kernel)) ggX6_put_X6_isPlace
set_option maxRecDepth 20000 in
theorem ggX6_put_X6_isByte : GoodIn wsX6_put wsX6_isByte := goodIn_r _ [15] (by decide +kernel) (by decide +kernel)
set_option maxRecDepth 20000 in
theorem gX6_put_X6_isByte : GoodIn wsX6_put (wsV RX6 47 RX6 yX6_isByte wsX6_isByte) := goodIn_app (goodIn_of _ (by decide +kernel)) ggX6_put_X6_isByte
set_option maxRecDepth 20000 in
theorem ggX6_put_X6_isWrong : GoodIn wsX6_put wsX6_isWrong := goodIn_r _ [19, 20, 25, 26, 27, 28, 29, 30] (by decide +kernel) (by decide +kernel)
set_option maxRecDepth 20000 in
theorem gX6_put_X6_isWrong : GoodIn wsX6_put (wsV RX6 50 RX6 yX6_isWrong wsX6_isWrong) := goodIn_app (goodIn_of _ (by decide +kernel)) ggX6_put_X6_isWrong
set_option maxRecDepth 20000 in
theorem ggX6_put_X6_at : GoodIn wsX6_put wsX6_at := goodIn_ca (goodIn_r _ [24, 1, 25, 26, 27, 28, 29, 30] (by decide +kernel) (by decide +kernel)) (goodIn_sub (fun _ h => List.mem_cons_of_mem _ (List.mem_append_right _ h)) (by decide +kernel))
set_option maxRecDepth 20000 in
theorem gX6_put_X6_at : GoodIn wsX6_put (wsV RX6 33 RX6 yX6_at wsX6_at) := goodIn_app (goodIn_of _ (by decide +kernel)) ggX6_put_X6_at
theorem dX6_put_0 : decode cX6_put 0 = .ok (.aload_n 0, 1) := by decide +kernel
theorem dX6_put_1 : decode cX6_put 1 = .ok (.aload_n 0, 1) := by decide +kernel
theorem dX6_put_2 : decode cX6_put 2 = .ok (.iload_n 1, 1) := by decide +kernel
theorem dX6_put_3 : decode cX6_put 3 = .ok (.iload_n 2, 1) := by decide +kernel
theorem dX6_put_4 : decode cX6_put 4 = .ok (.invokevirtual 56, 3) := by decide +kernel
theorem dX6_put_7 : decode cX6_put 7 = .ok (.ifCond .ne 7, 3) := by decide +kernel
theorem dX6_put_10 : decode cX6_put 10 = .ok (.iconst 1, 1) := by decide +kernel
theorem dX6_put_11 : decode cX6_put 11 = .ok (.goto 16, 3) := by decide +kernel
theorem dX6_put_14 : decode cX6_put 14 = .ok (.aload_n 0, 1) := by decide +kernel
theorem dX6_put_15 : decode cX6_put 15 = .ok (.iload_n 3, 1) := by decide +kernel
theorem dX6_put_16 : decode cX6_put 16 = .ok (.invokevirtual 47, 3) := by decide +kernel
theorem dX6_put_19 : decode cX6_put 19 = .ok (.ifCond .ne 7, 3) := by decide +kernel
theorem dX6_put_22 : decode cX6_put 22 = .ok (.iconst 2, 1) := by decide +kernel
theorem dX6_put_23 : decode cX6_put 23 = .ok (.goto 4, 3) := by decide +kernel
theorem dX6_put_26 : decode cX6_put 26 = .ok (.iconst 0, 1) := by decide +kernel
theorem dX6_put_27 : decode cX6_put 27 = .ok (.invokevirtual 50, 3) := by decide +kernel
theorem dX6_put_30 : decode cX6_put 30 = .ok (.ifCond .eq 5, 3) := by decide +kernel
theorem dX6_put_33 : decode cX6_put 33 = .ok (.iconst 0, 1) := by decide +kernel
theorem dX6_put_34 : decode cX6_put 34 = .ok (.ireturn, 1) := by decide +kernel
theorem dX6_put_35 : decode cX6_put 35 = .ok (.aload_n 0, 1) := by decide +kernel
theorem dX6_put_36 : decode cX6_put 36 = .ok (.iload_n 1, 1) := by decide +kernel
theorem dX6_put_37 : decode cX6_put 37 = .ok (.iload_n 2, 1) := by decide +kernel
theorem dX6_put_38 : decode cX6_put 38 = .ok (.invokevirtual 33, 3) := by decide +kernel
theorem dX6_put_41 : decode cX6_put 41 = .ok (.istore 4, 2) := by decide +kernel
theorem dX6_put_43 : decode cX6_put 43 = .ok (.aload_n 0, 1) := by decide +kernel
theorem dX6_put_44 : decode cX6_put 44 = .ok (.getfield 7, 3) := by decide +kernel
theorem dX6_put_47 : decode cX6_put 47 = .ok (.sipush 320, 3) := by decide +kernel
theorem dX6_put_50 : decode cX6_put 50 = .ok (.iload_n 1, 1) := by decide +kernel
theorem dX6_put_51 : decode cX6_put 51 = .ok (.imul, 1) := by decide +kernel
theorem dX6_put_52 : decode cX6_put 52 = .ok (.iload_n 2, 1) := by decide +kernel
theorem dX6_put_53 : decode cX6_put 53 = .ok (.iadd, 1) := by decide +kernel
theorem dX6_put_54 : decode cX6_put 54 = .ok (.iload_n 3, 1) := by decide +kernel
theorem dX6_put_55 : decode cX6_put 55 = .ok (.iastore, 1) := by decide +kernel
theorem dX6_put_56 : decode cX6_put 56 = .ok (.iload 4, 2) := by decide +kernel
theorem dX6_put_58 : decode cX6_put 58 = .ok (.ireturn, 1) := by decide +kernel
set_option maxRecDepth 20000 in
theorem ggX6_insert_X6_isRow : GoodIn wsX6_insert wsX6_isRow := goodIn_r _ [7] (by decide +kernel) (by decide +kernel)
set_option maxRecDepth 20000 in
theorem gX6_insert_X6_isRow : GoodIn wsX6_insert (wsV RX6 43 RX6 yX6_isRow wsX6_isRow) := goodIn_app (goodIn_of _ (by decide +kernel)) ggX6_insert_X6_isRow
set_option maxRecDepth 20000 in
theorem ggX6_insert_X6_isByte : GoodIn wsX6_insert wsX6_isByte := goodIn_r _ [11] (by decide +kernel) (by decide +kernel)
set_option maxRecDepth 20000 in
theorem gX6_insert_X6_isByte : GoodIn wsX6_insert (wsV RX6 47 RX6 yX6_isByte wsX6_isByte) := goodIn_app (goodIn_of _ (by decide +kernel)) ggX6_insert_X6_isByte
set_option maxRecDepth 20000 in
theorem ggX6_insert_X6_isWrong : GoodIn wsX6_insert wsX6_isWrong := goodIn_r _ [15, 16, 21, 22, 23, 24, 25, 26] (by decide +kernel) (by decide +kernel)
set_option maxRecDepth 20000 in
theorem gX6_insert_X6_isWrong : GoodIn wsX6_insert (wsV RX6 50 RX6 yX6_isWrong wsX6_isWrong) := goodIn_app (goodIn_of _ (by decide +kernel)) ggX6_insert_X6_isWrong
set_option maxRecDepth 20000 in
theorem ggX6_insert_X6_at : GoodIn wsX6_insert wsX6_at := goodIn_ca (goodIn_r _ [20, 2, 21, 22, 23, 24, 25, 26] (by decide +kernel) (by decide +kernel)) (goodIn_sub (fun _ h => List.mem_cons_of_mem _ (List.mem_append_right _ h)) (by decide +kernel))
set_option maxRecDepth 20000 in
theorem gX6_insert_X6_at : GoodIn wsX6_insert (wsV RX6 33 RX6 yX6_at wsX6_at) := goodIn_app (goodIn_of _ (by decide +kernel)) ggX6_insert_X6_at
theorem dX6_insert_0 : decode cX6_insert 0 = .ok (.aload_n 0, 1) := by decide +kernel
theorem dX6_insert_1 : decode cX6_insert 1 = .ok (.aload_n 0, 1) := by decide +kernel
theorem dX6_insert_2 : decode cX6_insert 2 = .ok (.iload_n 1, 1) := by decide +kernel
theorem dX6_insert_3 : decode cX6_insert 3 = .ok (.invokevirtual 43, 3) := by decide +kernel
theorem dX6_insert_6 : decode cX6_insert 6 = .ok (.ifCond .eq 17, 3) := by decide +kernel
theorem dX6_insert_9 : decode cX6_insert 9 = .ok (.iload_n 2, 1) := by decide +kernel
theorem dX6_insert_10 : decode cX6_insert 10 = .ok (.ifCond .lt 13, 3) := by decide +kernel
theorem dX6_insert_13 : decode cX6_insert 13 = .ok (.iload_n 2, 1) := by decide +kernel
theorem dX6_insert_14 : decode cX6_insert 14 = .ok (.aload_n 0, 1) := by decide +kernel
theorem dX6_insert_15 : decode cX6_insert 15 = .ok (.getfield 13, 3) := by decide +kernel
theorem dX6_insert_18 : decode cX6_insert 18 = .ok (.iload_n 1, 1) := by decide +kernel
theorem dX6_insert_19 : decode cX6_insert 19 = .ok (.iaload, 1) := by decide +kernel
theorem dX6_insert_20 : decode cX6_insert 20 = .ok (.if_icmp .le 7, 3) := by decide +kernel
theorem dX6_insert_23 : decode cX6_insert 23 = .ok (.iconst 1, 1) := by decide +kernel
theorem dX6_insert_24 : decode cX6_insert 24 = .ok (.goto 32, 3) := by decide +kernel
theorem dX6_insert_27 : decode cX6_insert 27 = .ok (.aload_n 0, 1) := by decide +kernel
theorem dX6_insert_28 : decode cX6_insert 28 = .ok (.iload_n 3, 1) := by decide +kernel
theorem dX6_insert_29 : decode cX6_insert 29 = .ok (.invokevirtual 47, 3) := by decide +kernel
theorem dX6_insert_32 : decode cX6_insert 32 = .ok (.ifCond .ne 7, 3) := by decide +kernel
theorem dX6_insert_35 : decode cX6_insert 35 = .ok (.iconst 2, 1) := by decide +kernel
theorem dX6_insert_36 : decode cX6_insert 36 = .ok (.goto 20, 3) := by decide +kernel
theorem dX6_insert_39 : decode cX6_insert 39 = .ok (.aload_n 0, 1) := by decide +kernel
theorem dX6_insert_40 : decode cX6_insert 40 = .ok (.getfield 13, 3) := by decide +kernel
theorem dX6_insert_43 : decode cX6_insert 43 = .ok (.iload_n 1, 1) := by decide +kernel
theorem dX6_insert_44 : decode cX6_insert 44 = .ok (.iaload, 1) := by decide +kernel
theorem dX6_insert_45 : decode cX6_insert 45 = .ok (.sipush 320, 3) := by decide +kernel
theorem dX6_insert_48 : decode cX6_insert 48 = .ok (.if_icmp .ne 7, 3) := by decide +kernel
theorem dX6_insert_51 : decode cX6_insert 51 = .ok (.iconst 3, 1) := by decide +kernel
theorem dX6_insert_52 : decode cX6_insert 52 = .ok (.goto 4, 3) := by decide +kernel
theorem dX6_insert_55 : decode cX6_insert 55 = .ok (.iconst 0, 1) := by decide +kernel
theorem dX6_insert_56 : decode cX6_insert 56 = .ok (.invokevirtual 50, 3) := by decide +kernel
theorem dX6_insert_59 : decode cX6_insert 59 = .ok (.ifCond .eq 5, 3) := by decide +kernel
theorem dX6_insert_62 : decode cX6_insert 62 = .ok (.iconst 0, 1) := by decide +kernel
theorem dX6_insert_63 : decode cX6_insert 63 = .ok (.ireturn, 1) := by decide +kernel
theorem dX6_insert_64 : decode cX6_insert 64 = .ok (.aload_n 0, 1) := by decide +kernel
theorem dX6_insert_65 : decode cX6_insert 65 = .ok (.getfield 13, 3) := by decide +kernel
theorem dX6_insert_68 : decode cX6_insert 68 = .ok (.iload_n 1, 1) := by decide +kernel
theorem dX6_insert_69 : decode cX6_insert 69 = .ok (.iaload, 1) := by decide +kernel
theorem dX6_insert_70 : decode cX6_insert 70 = .ok (.istore 4, 2) := by decide +kernel
theorem dX6_insert_72 : decode cX6_insert 72 = .ok (.iload 4, 2) := by decide +kernel
theorem dX6_insert_74 : decode cX6_insert 74 = .ok (.iload_n 2, 1) := by decide +kernel
theorem dX6_insert_75 : decode cX6_insert 75 = .ok (.if_icmp .le 31, 3) := by decide +kernel
theorem dX6_insert_78 : decode cX6_insert 78 = .ok (.aload_n 0, 1) := by decide +kernel
theorem dX6_insert_79 : decode cX6_insert 79 = .ok (.getfield 7, 3) := by decide +kernel
theorem dX6_insert_82 : decode cX6_insert 82 = .ok (.sipush 320, 3) := by decide +kernel
theorem dX6_insert_85 : decode cX6_insert 85 = .ok (.iload_n 1, 1) := by decide +kernel
theorem dX6_insert_86 : decode cX6_insert 86 = .ok (.imul, 1) := by decide +kernel
theorem dX6_insert_87 : decode cX6_insert 87 = .ok (.iload 4, 2) := by decide +kernel
theorem dX6_insert_89 : decode cX6_insert 89 = .ok (.iadd, 1) := by decide +kernel
theorem dX6_insert_90 : decode cX6_insert 90 = .ok (.aload_n 0, 1) := by decide +kernel
theorem dX6_insert_91 : decode cX6_insert 91 = .ok (.iload_n 1, 1) := by decide +kernel
theorem dX6_insert_92 : decode cX6_insert 92 = .ok (.iload 4, 2) := by decide +kernel
theorem dX6_insert_94 : decode cX6_insert 94 = .ok (.iconst 1, 1) := by decide +kernel
theorem dX6_insert_95 : decode cX6_insert 95 = .ok (.isub, 1) := by decide +kernel
theorem dX6_insert_96 : decode cX6_insert 96 = .ok (.invokevirtual 33, 3) := by decide +kernel
theorem dX6_insert_99 : decode cX6_insert 99 = .ok (.iastore, 1) := by decide +kernel
theorem dX6_insert_100 : decode cX6_insert 100 = .ok (.iinc 4 (-1), 3) := by decide +kernel
theorem dX6_insert_103 : decode cX6_insert 103 = .ok (.goto (-31), 3) := by decide +kernel
theorem dX6_insert_106 : decode cX6_insert 106 = .ok (.aload_n 0, 1) := by decide +kernel
theorem dX6_insert_107 : decode cX6_insert 107 = .ok (.getfield 7, 3) := by decide +kernel
theorem dX6_insert_110 : decode cX6_insert 110 = .ok (.sipush 320, 3) := by decide +kernel
theorem dX6_insert_113 : decode cX6_insert 113 = .ok (.iload_n 1, 1) := by decide +kernel
theorem dX6_insert_114 : decode cX6_insert 114 = .ok (.imul, 1) := by decide +kernel
theorem dX6_insert_115 : decode cX6_insert 115 = .ok (.iload_n 2, 1) := by decide +kernel
theorem dX6_insert_116 : decode cX6_insert 116 = .ok (.iadd, 1) := by decide +kernel
theorem dX6_insert_117 : decode cX6_insert 117 = .ok (.iload_n 3, 1) := by decide +kernel
theorem dX6_insert_118 : decode cX6_insert 118 = .ok (.iastore, 1) := by decide +kernel
theorem dX6_insert_119 : decode cX6_insert 119 = .ok (.aload_n 0, 1) := by decide +kernel
theorem dX6_insert_120 : decode cX6_insert 120 = .ok (.getfield 13, 3) := by decide +kernel
theorem dX6_insert_123 : decode cX6_insert 123 = .ok (.iload_n 1, 1) := by decide +kernel
theorem dX6_insert_124 : decode cX6_insert 124 = .ok (.dup2, 1) := by decide +kernel
theorem dX6_insert_125 : decode cX6_insert 125 = .ok (.iaload, 1) := by decide +kernel
theorem dX6_insert_126 : decode cX6_insert 126 = .ok (.iconst 1, 1) := by decide +kernel
theorem dX6_insert_127 : decode cX6_insert 127 = .ok (.iadd, 1) := by decide +kernel
theorem dX6_insert_128 : decode cX6_insert 128 = .ok (.iastore, 1) := by decide +kernel
theorem dX6_insert_129 : decode cX6_insert 129 = .ok (.aload_n 0, 1) := by decide +kernel
theorem dX6_insert_130 : decode cX6_insert 130 = .ok (.getfield 13, 3) := by decide +kernel
theorem dX6_insert_133 : decode cX6_insert 133 = .ok (.iload_n 1, 1) := by decide +kernel
theorem dX6_insert_134 : decode cX6_insert 134 = .ok (.iaload, 1) := by decide +kernel
theorem dX6_insert_135 : decode cX6_insert 135 = .ok (.ireturn, 1) := by decide +kernel
set_option maxRecDepth 20000 in
theorem ggX6_remove_X6_isRow : GoodIn wsX6_remove wsX6_isRow := goodIn_r _ [7] (by decide +kernel) (by decide +kernel)
set_option maxRecDepth 20000 in
theorem gX6_remove_X6_isRow : GoodIn wsX6_remove (wsV RX6 43 RX6 yX6_isRow wsX6_isRow) := goodIn_app (goodIn_of _ (by decide +kernel)) ggX6_remove_X6_isRow
set_option maxRecDepth 20000 in
theorem ggX6_remove_X6_isWrong : GoodIn wsX6_remove wsX6_isWrong := goodIn_r _ [11, 12, 17, 18, 19, 20, 21, 22] (by decide +kernel) (by decide +kernel)
set_option maxRecDepth 20000 in
theorem gX6_remove_X6_isWrong : GoodIn wsX6_remove (wsV RX6 50 RX6 yX6_isWrong wsX6_isWrong) := goodIn_app (goodIn_of _ (by decide +kernel)) ggX6_remove_X6_isWrong
set_option maxRecDepth 20000 in
theorem ggX6_remove_X6_at : GoodIn wsX6_remove wsX6_at := goodIn_ca (goodIn_r _ [16, 2, 17, 18, 19, 20, 21, 22] (by decide +kernel) (by decide +kernel)) (goodIn_sub (fun _ h => List.mem_cons_of_mem _ (List.mem_append_right _ h)) (by decide +kernel))
set_option maxRecDepth 20000 in
theorem gX6_remove_X6_at : GoodIn wsX6_remove (wsV RX6 33 RX6 yX6_at wsX6_at) := goodIn_app (goodIn_of _ (by decide +kernel)) ggX6_remove_X6_at
theorem dX6_remove_0 : decode cX6_remove 0 = .ok (.aload_n 0, 1) := by decide +kernel
theorem dX6_remove_1 : decode cX6_remove 1 = .ok (.aload_n 0, 1) := by decide +kernel
theorem dX6_remove_2 : decode cX6_remove 2 = .ok (.iload_n 1, 1) := by decide +kernel
theorem dX6_remove_3 : decode cX6_remove 3 = .ok (.invokevirtual 43, 3) := by decide +kernel
theorem dX6_remove_6 : decode cX6_remove 6 = .ok (.ifCond .eq 23, 3) := by decide +kernel
theorem dX6_remove_9 : decode cX6_remove 9 = .ok (.iload_n 2, 1) := by decide +kernel
theorem dX6_remove_10 : decode cX6_remove 10 = .ok (.ifCond .lt 19, 3) := by decide +kernel
theorem dX6_remove_13 : decode cX6_remove 13 = .ok (.iload_n 3, 1) := by decide +kernel
theorem dX6_remove_14 : decode cX6_remove 14 = .ok (.ifCond .lt 15, 3) := by decide +kernel
theorem dX6_remove_17 : decode cX6_remove 17 = .ok (.iload_n 2, 1) := by decide +kernel
theorem dX6_remove_18 : decode cX6_remove 18 = .ok (.aload_n 0, 1) := by decide +kernel
theorem dX6_remove_19 : decode cX6_remove 19 = .ok (.getfield 13, 3) := by decide +kernel
theorem dX6_remove_22 : decode cX6_remove 22 = .ok (.iload_n 1, 1) := by decide +kernel
theorem dX6_remove_23 : decode cX6_remove 23 = .ok (.iaload, 1) := by decide +kernel
theorem dX6_remove_24 : decode cX6_remove 24 = .ok (.iload_n 3, 1) := by decide +kernel
theorem dX6_remove_25 : decode cX6_remove 25 = .ok (.isub, 1) := by decide +kernel
theorem dX6_remove_26 : decode cX6_remove 26 = .ok (.if_icmp .le 7, 3) := by decide +kernel
theorem dX6_remove_29 : decode cX6_remove 29 = .ok (.iconst 1, 1) := by decide +kernel
theorem dX6_remove_30 : decode cX6_remove 30 = .ok (.goto 4, 3) := by decide +kernel
theorem dX6_remove_33 : decode cX6_remove 33 = .ok (.iconst 0, 1) := by decide +kernel
theorem dX6_remove_34 : decode cX6_remove 34 = .ok (.invokevirtual 50, 3) := by decide +kernel
theorem dX6_remove_37 : decode cX6_remove 37 = .ok (.ifCond .eq 5, 3) := by decide +kernel
theorem dX6_remove_40 : decode cX6_remove 40 = .ok (.iconst 0, 1) := by decide +kernel
theorem dX6_remove_41 : decode cX6_remove 41 = .ok (.ireturn, 1) := by decide +kernel
theorem dX6_remove_42 : decode cX6_remove 42 = .ok (.aload_n 0, 1) := by decide +kernel
theorem dX6_remove_43 : decode cX6_remove 43 = .ok (.getfield 13, 3) := by decide +kernel
theorem dX6_remove_46 : decode cX6_remove 46 = .ok (.iload_n 1, 1) := by decide +kernel
theorem dX6_remove_47 : decode cX6_remove 47 = .ok (.dup2, 1) := by decide +kernel
theorem dX6_remove_48 : decode cX6_remove 48 = .ok (.iaload, 1) := by decide +kernel
theorem dX6_remove_49 : decode cX6_remove 49 = .ok (.iload_n 3, 1) := by decide +kernel
theorem dX6_remove_50 : decode cX6_remove 50 = .ok (.isub, 1) := by decide +kernel
theorem dX6_remove_51 : decode cX6_remove 51 = .ok (.iastore, 1) := by decide +kernel
theorem dX6_remove_52 : decode cX6_remove 52 = .ok (.iload_n 2, 1) := by decide +kernel
theorem dX6_remove_53 : decode cX6_remove 53 = .ok (.istore 4, 2) := by decide +kernel
theorem dX6_remove_55 : decode cX6_remove 55 = .ok (.iload 4, 2) := by decide +kernel
theorem dX6_remove_57 : decode cX6_remove 57 = .ok (.aload_n 0, 1) := by decide +kernel
theorem dX6_remove_58 : decode cX6_remove 58 = .ok (.getfield 13, 3) := by decide +kernel
theorem dX6_remove_61 : decode cX6_remove 61 = .ok (.iload_n 1, 1) := by decide +kernel
theorem dX6_remove_62 : decode cX6_remove 62 = .ok (.iaload, 1) := by decide +kernel
theorem dX6_remove_63 : decode cX6_remove 63 = .ok (.if_icmp .ge 31, 3) := by decide +kernel
theorem dX6_remove_66 : decode cX6_remove 66 = .ok (.aload_n 0, 1) := by decide +kernel
theorem dX6_remove_67 : decode cX6_remove 67 = .ok (.getfield 7, 3) := by decide +kernel
theorem dX6_remove_70 : decode cX6_remove 70 = .ok (.sipush 320, 3) := by decide +kernel
theorem dX6_remove_73 : decode cX6_remove 73 = .ok (.iload_n 1, 1) := by decide +kernel
theorem dX6_remove_74 : decode cX6_remove 74 = .ok (.imul, 1) := by decide +kernel
theorem dX6_remove_75 : decode cX6_remove 75 = .ok (.iload 4, 2) := by decide +kernel
theorem dX6_remove_77 : decode cX6_remove 77 = .ok (.iadd, 1) := by decide +kernel
theorem dX6_remove_78 : decode cX6_remove 78 = .ok (.aload_n 0, 1) := by decide +kernel
theorem dX6_remove_79 : decode cX6_remove 79 = .ok (.iload_n 1, 1) := by decide +kernel
theorem dX6_remove_80 : decode cX6_remove 80 = .ok (.iload 4, 2) := by decide +kernel
theorem dX6_remove_82 : decode cX6_remove 82 = .ok (.iload_n 3, 1) := by decide +kernel
theorem dX6_remove_83 : decode cX6_remove 83 = .ok (.iadd, 1) := by decide +kernel
theorem dX6_remove_84 : decode cX6_remove 84 = .ok (.invokevirtual 33, 3) := by decide +kernel
theorem dX6_remove_87 : decode cX6_remove 87 = .ok (.iastore, 1) := by decide +kernel
theorem dX6_remove_88 : decode cX6_remove 88 = .ok (.iinc 4 1, 3) := by decide +kernel
theorem dX6_remove_91 : decode cX6_remove 91 = .ok (.goto (-36), 3) := by decide +kernel
theorem dX6_remove_94 : decode cX6_remove 94 = .ok (.aload_n 0, 1) := by decide +kernel
theorem dX6_remove_95 : decode cX6_remove 95 = .ok (.getfield 13, 3) := by decide +kernel
theorem dX6_remove_98 : decode cX6_remove 98 = .ok (.iload_n 1, 1) := by decide +kernel
theorem dX6_remove_99 : decode cX6_remove 99 = .ok (.iaload, 1) := by decide +kernel
theorem dX6_remove_100 : decode cX6_remove 100 = .ok (.ireturn, 1) := by decide +kernel
set_option maxRecDepth 20000 in
theorem ggX6_length_X6_isRow : GoodIn wsX6_length wsX6_isRow := goodIn_r _ [6] (by decide +kernel) (by decide +kernel)
set_option maxRecDepth 20000 in
theorem gX6_length_X6_isRow : GoodIn wsX6_length (wsV RX6 43 RX6 yX6_isRow wsX6_isRow) := goodIn_app (goodIn_of _ (by decide +kernel)) ggX6_length_X6_isRow
set_option maxRecDepth 20000 in
theorem ggX6_length_X6_isWrong : GoodIn wsX6_length wsX6_isWrong := goodIn_r _ [10, 11, 12, 13, 14, 15, 16, 17] (by decide +kernel) (by decide +kernel)
set_option maxRecDepth 20000 in
theorem gX6_length_X6_isWrong : GoodIn wsX6_length (wsV RX6 50 RX6 yX6_isWrong wsX6_isWrong) := goodIn_app (goodIn_of _ (by decide +kernel)) ggX6_length_X6_isWrong
theorem dX6_length_0 : decode cX6_length 0 = .ok (.aload_n 0, 1) := by decide +kernel
theorem dX6_length_1 : decode cX6_length 1 = .ok (.aload_n 0, 1) := by decide +kernel
theorem dX6_length_2 : decode cX6_length 2 = .ok (.iload_n 1, 1) := by decide +kernel
theorem dX6_length_3 : decode cX6_length 3 = .ok (.invokevirtual 43, 3) := by decide +kernel
theorem dX6_length_6 : decode cX6_length 6 = .ok (.ifCond .eq 7, 3) := by decide +kernel
theorem dX6_length_9 : decode cX6_length 9 = .ok (.iconst 0, 1) := by decide +kernel
theorem dX6_length_10 : decode cX6_length 10 = .ok (.goto 4, 3) := by decide +kernel
theorem dX6_length_13 : decode cX6_length 13 = .ok (.iconst 1, 1) := by decide +kernel
theorem dX6_length_14 : decode cX6_length 14 = .ok (.invokevirtual 50, 3) := by decide +kernel
theorem dX6_length_17 : decode cX6_length 17 = .ok (.ifCond .eq 7, 3) := by decide +kernel
theorem dX6_length_20 : decode cX6_length 20 = .ok (.iconst 0, 1) := by decide +kernel
theorem dX6_length_21 : decode cX6_length 21 = .ok (.goto 9, 3) := by decide +kernel
theorem dX6_length_24 : decode cX6_length 24 = .ok (.aload_n 0, 1) := by decide +kernel
theorem dX6_length_25 : decode cX6_length 25 = .ok (.getfield 13, 3) := by decide +kernel
theorem dX6_length_28 : decode cX6_length 28 = .ok (.iload_n 1, 1) := by decide +kernel
theorem dX6_length_29 : decode cX6_length 29 = .ok (.iaload, 1) := by decide +kernel
theorem dX6_length_30 : decode cX6_length 30 = .ok (.ireturn, 1) := by decide +kernel
set_option maxRecDepth 20000 in
theorem ggX6_get_X6_isPlace : GoodIn wsX6_get wsX6_isPlace := goodIn_ca (goodIn_r _ [5, 6, 7, 8, 9, 4, 10, 21, 22, 23, 24, 25, 26] (by decide +kernel) (by decide +kernel)) (goodIn_sub (fun _ h => List.mem_cons_of_mem _ (List.mem_append_right _ h)) (by decide +kernel))
set_option maxRecDepth 20000 in
theorem gX6_get_X6_isPlace : GoodIn wsX6_get (wsV RX6 56 RX6 yX6_isPlace wsX6_isPlace) := goodIn_app (goodIn_of _ (by decide +kernel)) ggX6_get_X6_isPlace
set_option maxRecDepth 20000 in
theorem ggX6_get_X6_isWrong : GoodIn wsX6_get wsX6_isWrong := goodIn_r _ [14, 15, 21, 22, 23, 24, 25, 26] (by decide +kernel) (by decide +kernel)
set_option maxRecDepth 20000 in
theorem gX6_get_X6_isWrong : GoodIn wsX6_get (wsV RX6 50 RX6 yX6_isWrong wsX6_isWrong) := goodIn_app (goodIn_of _ (by decide +kernel)) ggX6_get_X6_isWrong
set_option maxRecDepth 20000 in
theorem ggX6_get_X6_at : GoodIn wsX6_get wsX6_at := goodIn_ca (goodIn_r _ [19, 20, 21, 22, 23, 24, 25, 26] (by decide +kernel) (by decide +kernel)) (goodIn_sub (fun _ h => List.mem_cons_of_mem _ (List.mem_append_right _ h)) (by decide +kernel))
set_option maxRecDepth 20000 in
theorem gX6_get_X6_at : GoodIn wsX6_get (wsV RX6 33 RX6 yX6_at wsX6_at) := goodIn_app (goodIn_of _ (by decide +kernel)) ggX6_get_X6_at
theorem dX6_get_0 : decode cX6_get 0 = .ok (.aload_n 0, 1) := by decide +kernel
theorem dX6_get_1 : decode cX6_get 1 = .ok (.aload_n 0, 1) := by decide +kernel
theorem dX6_get_2 : decode cX6_get 2 = .ok (.iload_n 1, 1) := by decide +kernel
theorem dX6_get_3 : decode cX6_get 3 = .ok (.iload_n 2, 1) := by decide +kernel
theorem dX6_get_4 : decode cX6_get 4 = .ok (.invokevirtual 56, 3) := by decide +kernel
theorem dX6_get_7 : decode cX6_get 7 = .ok (.ifCond .eq 7, 3) := by decide +kernel
theorem dX6_get_10 : decode cX6_get 10 = .ok (.iconst 0, 1) := by decide +kernel
theorem dX6_get_11 : decode cX6_get 11 = .ok (.goto 4, 3) := by decide +kernel
theorem dX6_get_14 : decode cX6_get 14 = .ok (.iconst 1, 1) := by decide +kernel
theorem dX6_get_15 : decode cX6_get 15 = .ok (.invokevirtual 50, 3) := by decide +kernel
theorem dX6_get_18 : decode cX6_get 18 = .ok (.ifCond .eq 7, 3) := by decide +kernel
theorem dX6_get_21 : decode cX6_get 21 = .ok (.iconst 0, 1) := by decide +kernel
theorem dX6_get_22 : decode cX6_get 22 = .ok (.goto 9, 3) := by decide +kernel
theorem dX6_get_25 : decode cX6_get 25 = .ok (.aload_n 0, 1) := by decide +kernel
theorem dX6_get_26 : decode cX6_get 26 = .ok (.iload_n 1, 1) := by decide +kernel
theorem dX6_get_27 : decode cX6_get 27 = .ok (.iload_n 2, 1) := by decide +kernel
theorem dX6_get_28 : decode cX6_get 28 = .ok (.invokevirtual 33, 3) := by decide +kernel
theorem dX6_get_31 : decode cX6_get 31 = .ok (.ireturn, 1) := by decide +kernel
set_option maxRecDepth 20000 in
theorem ggX6_copy_X6_isRow : GoodIn wsX6_copy wsX6_isRow := goodIn_r _ [7] (by decide +kernel) (by decide +kernel)
set_option maxRecDepth 20000 in
theorem gX6_copy_X6_isRow : GoodIn wsX6_copy (wsV RX6 43 RX6 yX6_isRow wsX6_isRow) := goodIn_app (goodIn_of _ (by decide +kernel)) ggX6_copy_X6_isRow
set_option maxRecDepth 20000 in
theorem ggX6_copy_X6_isWrong : GoodIn wsX6_copy wsX6_isWrong := goodIn_r _ [11, 12, 27, 28, 29, 30, 31, 32] (by decide +kernel) (by decide +kernel)
set_option maxRecDepth 20000 in
theorem gX6_copy_X6_isWrong : GoodIn wsX6_copy (wsV RX6 50 RX6 yX6_isWrong wsX6_isWrong) := goodIn_app (goodIn_of _ (by decide +kernel)) ggX6_copy_X6_isWrong
set_option maxRecDepth 20000 in
theorem ggX6_copy_X6_at : GoodIn wsX6_copy wsX6_at := goodIn_ca (goodIn_r _ [16, 17, 27, 28, 29, 30, 31, 32] (by decide +kernel) (by decide +kernel)) (goodIn_sub (fun _ h => List.mem_cons_of_mem _ (List.mem_append_right _ h)) (by decide +kernel))
set_option maxRecDepth 20000 in
theorem gX6_copy_X6_at : GoodIn wsX6_copy (wsV RX6 33 RX6 yX6_at wsX6_at) := goodIn_app (goodIn_of _ (by decide +kernel)) ggX6_copy_X6_at
set_option maxRecDepth 20000 in
theorem ggX6_copy_X6_makes : GoodIn wsX6_copy wsX6_makes := goodIn_ca (goodIn_r _ [21, 22, 1, 27, 28, 29, 30, 31, 32] (by decide +kernel) (by decide +kernel)) (goodIn_sub (fun _ h => List.mem_cons_of_mem _ (List.mem_append_right _ h)) (by decide +kernel))
set_option maxRecDepth 20000 in
theorem gX6_copy_X6_makes : GoodIn wsX6_copy (wsV RX6 36 RX6 yX6_makes wsX6_makes) := goodIn_app (goodIn_of _ (by decide +kernel)) ggX6_copy_X6_makes
set_option maxRecDepth 20000 in
theorem ggX6_copy_X6_becomes : GoodIn wsX6_copy wsX6_becomes := goodIn_ca (goodIn_r _ [26, 1, 17, 22, 2, 27, 28, 29, 30, 31, 32] (by decide +kernel) (by decide +kernel)) (goodIn_sub (fun _ h => List.mem_cons_of_mem _ (List.mem_append_right _ h)) (by decide +kernel))
set_option maxRecDepth 20000 in
theorem gX6_copy_X6_becomes : GoodIn wsX6_copy (wsV RX6 60 RX6 yX6_becomes wsX6_becomes) := goodIn_app (goodIn_of _ (by decide +kernel)) ggX6_copy_X6_becomes
theorem dX6_copy_0 : decode cX6_copy 0 = .ok (.aload_n 0, 1) := by decide +kernel
theorem dX6_copy_1 : decode cX6_copy 1 = .ok (.aload_n 0, 1) := by decide +kernel
theorem dX6_copy_2 : decode cX6_copy 2 = .ok (.iload_n 1, 1) := by decide +kernel
theorem dX6_copy_3 : decode cX6_copy 3 = .ok (.invokevirtual 43, 3) := by decide +kernel
theorem dX6_copy_6 : decode cX6_copy 6 = .ok (.ifCond .eq 15, 3) := by decide +kernel
theorem dX6_copy_9 : decode cX6_copy 9 = .ok (.aload_n 0, 1) := by decide +kernel
theorem dX6_copy_10 : decode cX6_copy 10 = .ok (.iload_n 2, 1) := by decide +kernel
theorem dX6_copy_11 : decode cX6_copy 11 = .ok (.invokevirtual 43, 3) := by decide +kernel
theorem dX6_copy_14 : decode cX6_copy 14 = .ok (.ifCond .eq 7, 3) := by decide +kernel
theorem dX6_copy_17 : decode cX6_copy 17 = .ok (.iconst 0, 1) := by decide +kernel
theorem dX6_copy_18 : decode cX6_copy 18 = .ok (.goto 4, 3) := by decide +kernel
theorem dX6_copy_21 : decode cX6_copy 21 = .ok (.iconst 1, 1) := by decide +kernel
theorem dX6_copy_22 : decode cX6_copy 22 = .ok (.invokevirtual 50, 3) := by decide +kernel
theorem dX6_copy_25 : decode cX6_copy 25 = .ok (.ifCond .eq 5, 3) := by decide +kernel
theorem dX6_copy_28 : decode cX6_copy 28 = .ok (.iconst 0, 1) := by decide +kernel
theorem dX6_copy_29 : decode cX6_copy 29 = .ok (.ireturn, 1) := by decide +kernel
theorem dX6_copy_30 : decode cX6_copy 30 = .ok (.aload_n 0, 1) := by decide +kernel
theorem dX6_copy_31 : decode cX6_copy 31 = .ok (.iconst 0, 1) := by decide +kernel
theorem dX6_copy_32 : decode cX6_copy 32 = .ok (.putfield 26, 3) := by decide +kernel
theorem dX6_copy_35 : decode cX6_copy 35 = .ok (.iconst 0, 1) := by decide +kernel
theorem dX6_copy_36 : decode cX6_copy 36 = .ok (.istore_n 3, 1) := by decide +kernel
theorem dX6_copy_37 : decode cX6_copy 37 = .ok (.iload_n 3, 1) := by decide +kernel
theorem dX6_copy_38 : decode cX6_copy 38 = .ok (.aload_n 0, 1) := by decide +kernel
theorem dX6_copy_39 : decode cX6_copy 39 = .ok (.getfield 13, 3) := by decide +kernel
theorem dX6_copy_42 : decode cX6_copy 42 = .ok (.iload_n 1, 1) := by decide +kernel
theorem dX6_copy_43 : decode cX6_copy 43 = .ok (.iaload, 1) := by decide +kernel
theorem dX6_copy_44 : decode cX6_copy 44 = .ok (.if_icmp .ge 19, 3) := by decide +kernel
theorem dX6_copy_47 : decode cX6_copy 47 = .ok (.aload_n 0, 1) := by decide +kernel
theorem dX6_copy_48 : decode cX6_copy 48 = .ok (.aload_n 0, 1) := by decide +kernel
theorem dX6_copy_49 : decode cX6_copy 49 = .ok (.iload_n 1, 1) := by decide +kernel
theorem dX6_copy_50 : decode cX6_copy 50 = .ok (.iload_n 3, 1) := by decide +kernel
theorem dX6_copy_51 : decode cX6_copy 51 = .ok (.invokevirtual 33, 3) := by decide +kernel
theorem dX6_copy_54 : decode cX6_copy 54 = .ok (.invokevirtual 36, 3) := by decide +kernel
theorem dX6_copy_57 : decode cX6_copy 57 = .ok (.iinc 3 1, 3) := by decide +kernel
theorem dX6_copy_60 : decode cX6_copy 60 = .ok (.goto (-23), 3) := by decide +kernel
theorem dX6_copy_63 : decode cX6_copy 63 = .ok (.aload_n 0, 1) := by decide +kernel
theorem dX6_copy_64 : decode cX6_copy 64 = .ok (.iload_n 2, 1) := by decide +kernel
theorem dX6_copy_65 : decode cX6_copy 65 = .ok (.invokevirtual 60, 3) := by decide +kernel
theorem dX6_copy_68 : decode cX6_copy 68 = .ok (.ireturn, 1) := by decide +kernel
set_option maxRecDepth 20000 in
theorem ggX6_isLike_X6_isRow : GoodIn wsX6_isLike wsX6_isRow := goodIn_r _ [6] (by decide +kernel) (by decide +kernel)
set_option maxRecDepth 20000 in
theorem gX6_isLike_X6_isRow : GoodIn wsX6_isLike (wsV RX6 43 RX6 yX6_isRow wsX6_isRow) := goodIn_app (goodIn_of _ (by decide +kernel)) ggX6_isLike_X6_isRow
set_option maxRecDepth 20000 in
theorem ggX6_isLike_X6_isWrong : GoodIn wsX6_isLike wsX6_isWrong := goodIn_r _ [10, 11, 17, 18, 19, 20, 21, 22] (by decide +kernel) (by decide +kernel)
set_option maxRecDepth 20000 in
theorem gX6_isLike_X6_isWrong : GoodIn wsX6_isLike (wsV RX6 50 RX6 yX6_isWrong wsX6_isWrong) := goodIn_app (goodIn_of _ (by decide +kernel)) ggX6_isLike_X6_isWrong
set_option maxRecDepth 20000 in
theorem ggX6_isLike_X6_at : GoodIn wsX6_isLike wsX6_at := goodIn_ca (goodIn_r _ [15, 16, 17, 18, 19, 20, 21, 22] (by decide +kernel) (by decide +kernel)) (goodIn_sub (fun _ h => List.mem_cons_of_mem _ (List.mem_append_right _ h)) (by decide +kernel))
set_option maxRecDepth 20000 in
theorem gX6_isLike_X6_at : GoodIn wsX6_isLike (wsV RX6 33 RX6 yX6_at wsX6_at) := goodIn_app (goodIn_of _ (by decide +kernel)) ggX6_isLike_X6_at
theorem dX6_isLike_0 : decode cX6_isLike 0 = .ok (.aload_n 0, 1) := by decide +kernel
theorem dX6_isLike_1 : decode cX6_isLike 1 = .ok (.aload_n 0, 1) := by decide +kernel
theorem dX6_isLike_2 : decode cX6_isLike 2 = .ok (.iload_n 1, 1) := by decide +kernel
theorem dX6_isLike_3 : decode cX6_isLike 3 = .ok (.invokevirtual 43, 3) := by decide +kernel
theorem dX6_isLike_6 : decode cX6_isLike 6 = .ok (.ifCond .eq 15, 3) := by decide +kernel
theorem dX6_isLike_9 : decode cX6_isLike 9 = .ok (.aload_n 0, 1) := by decide +kernel
theorem dX6_isLike_10 : decode cX6_isLike 10 = .ok (.iload_n 2, 1) := by decide +kernel
theorem dX6_isLike_11 : decode cX6_isLike 11 = .ok (.invokevirtual 43, 3) := by decide +kernel
theorem dX6_isLike_14 : decode cX6_isLike 14 = .ok (.ifCond .eq 7, 3) := by decide +kernel
theorem dX6_isLike_17 : decode cX6_isLike 17 = .ok (.iconst 0, 1) := by decide +kernel
theorem dX6_isLike_18 : decode cX6_isLike 18 = .ok (.goto 4, 3) := by decide +kernel
theorem dX6_isLike_21 : decode cX6_isLike 21 = .ok (.iconst 1, 1) := by decide +kernel
theorem dX6_isLike_22 : decode cX6_isLike 22 = .ok (.invokevirtual 50, 3) := by decide +kernel
theorem dX6_isLike_25 : decode cX6_isLike 25 = .ok (.ifCond .eq 5, 3) := by decide +kernel
theorem dX6_isLike_28 : decode cX6_isLike 28 = .ok (.iconst 0, 1) := by decide +kernel
theorem dX6_isLike_29 : decode cX6_isLike 29 = .ok (.ireturn, 1) := by decide +kernel
theorem dX6_isLike_30 : decode cX6_isLike 30 = .ok (.aload_n 0, 1) := by decide +kernel
theorem dX6_isLike_31 : decode cX6_isLike 31 = .ok (.getfield 13, 3) := by decide +kernel
theorem dX6_isLike_34 : decode cX6_isLike 34 = .ok (.iload_n 1, 1) := by decide +kernel
theorem dX6_isLike_35 : decode cX6_isLike 35 = .ok (.iaload, 1) := by decide +kernel
theorem dX6_isLike_36 : decode cX6_isLike 36 = .ok (.aload_n 0, 1) := by decide +kernel
theorem dX6_isLike_37 : decode cX6_isLike 37 = .ok (.getfield 13, 3) := by decide +kernel
theorem dX6_isLike_40 : decode cX6_isLike 40 = .ok (.iload_n 2, 1) := by decide +kernel
theorem dX6_isLike_41 : decode cX6_isLike 41 = .ok (.iaload, 1) := by decide +kernel
theorem dX6_isLike_42 : decode cX6_isLike 42 = .ok (.if_icmp .ne 7, 3) := by decide +kernel
theorem dX6_isLike_45 : decode cX6_isLike 45 = .ok (.iconst 1, 1) := by decide +kernel
theorem dX6_isLike_46 : decode cX6_isLike 46 = .ok (.goto 4, 3) := by decide +kernel
theorem dX6_isLike_49 : decode cX6_isLike 49 = .ok (.iconst 0, 1) := by decide +kernel
theorem dX6_isLike_50 : decode cX6_isLike 50 = .ok (.istore_n 3, 1) := by decide +kernel
theorem dX6_isLike_51 : decode cX6_isLike 51 = .ok (.iconst 0, 1) := by decide +kernel
theorem dX6_isLike_52 : decode cX6_isLike 52 = .ok (.istore 4, 2) := by decide +kernel
theorem dX6_isLike_54 : decode cX6_isLike 54 = .ok (.iload_n 3, 1) := by decide +kernel
theorem dX6_isLike_55 : decode cX6_isLike 55 = .ok (.ifCond .eq 43, 3) := by decide +kernel
theorem dX6_isLike_58 : decode cX6_isLike 58 = .ok (.iload 4, 2) := by decide +kernel
theorem dX6_isLike_60 : decode cX6_isLike 60 = .ok (.aload_n 0, 1) := by decide +kernel
theorem dX6_isLike_61 : decode cX6_isLike 61 = .ok (.getfield 13, 3) := by decide +kernel
theorem dX6_isLike_64 : decode cX6_isLike 64 = .ok (.iload_n 1, 1) := by decide +kernel
theorem dX6_isLike_65 : decode cX6_isLike 65 = .ok (.iaload, 1) := by decide +kernel
theorem dX6_isLike_66 : decode cX6_isLike 66 = .ok (.if_icmp .ge 32, 3) := by decide +kernel
theorem dX6_isLike_69 : decode cX6_isLike 69 = .ok (.aload_n 0, 1) := by decide +kernel
theorem dX6_isLike_70 : decode cX6_isLike 70 = .ok (.iload_n 1, 1) := by decide +kernel
theorem dX6_isLike_71 : decode cX6_isLike 71 = .ok (.iload 4, 2) := by decide +kernel
theorem dX6_isLike_73 : decode cX6_isLike 73 = .ok (.invokevirtual 33, 3) := by decide +kernel
theorem dX6_isLike_76 : decode cX6_isLike 76 = .ok (.aload_n 0, 1) := by decide +kernel
theorem dX6_isLike_77 : decode cX6_isLike 77 = .ok (.iload_n 2, 1) := by decide +kernel
theorem dX6_isLike_78 : decode cX6_isLike 78 = .ok (.iload 4, 2) := by decide +kernel
theorem dX6_isLike_80 : decode cX6_isLike 80 = .ok (.invokevirtual 33, 3) := by decide +kernel
theorem dX6_isLike_83 : decode cX6_isLike 83 = .ok (.if_icmp .ne 7, 3) := by decide +kernel
theorem dX6_isLike_86 : decode cX6_isLike 86 = .ok (.iconst 1, 1) := by decide +kernel
theorem dX6_isLike_87 : decode cX6_isLike 87 = .ok (.goto 4, 3) := by decide +kernel
theorem dX6_isLike_90 : decode cX6_isLike 90 = .ok (.iconst 0, 1) := by decide +kernel
theorem dX6_isLike_91 : decode cX6_isLike 91 = .ok (.istore_n 3, 1) := by decide +kernel
theorem dX6_isLike_92 : decode cX6_isLike 92 = .ok (.iinc 4 1, 3) := by decide +kernel
theorem dX6_isLike_95 : decode cX6_isLike 95 = .ok (.goto (-41), 3) := by decide +kernel
theorem dX6_isLike_98 : decode cX6_isLike 98 = .ok (.iload_n 3, 1) := by decide +kernel
theorem dX6_isLike_99 : decode cX6_isLike 99 = .ok (.ireturn, 1) := by decide +kernel
theorem dX6_isKind_0 : decode cX6_isKind 0 = .ok (.iconst 0, 1) := by decide +kernel
theorem dX6_isKind_1 : decode cX6_isKind 1 = .ok (.iload_n 1, 1) := by decide +kernel
theorem dX6_isKind_2 : decode cX6_isKind 2 = .ok (.if_icmp .gt 12, 3) := by decide +kernel
theorem dX6_isKind_5 : decode cX6_isKind 5 = .ok (.iload_n 1, 1) := by decide +kernel
theorem dX6_isKind_6 : decode cX6_isKind 6 = .ok (.iconst 2, 1) := by decide +kernel
theorem dX6_isKind_7 : decode cX6_isKind 7 = .ok (.if_icmp .gt 7, 3) := by decide +kernel
theorem dX6_isKind_10 : decode cX6_isKind 10 = .ok (.iconst 1, 1) := by decide +kernel
theorem dX6_isKind_11 : decode cX6_isKind 11 = .ok (.goto 4, 3) := by decide +kernel
theorem dX6_isKind_14 : decode cX6_isKind 14 = .ok (.iconst 0, 1) := by decide +kernel
theorem dX6_isKind_15 : decode cX6_isKind 15 = .ok (.ireturn, 1) := by decide +kernel
set_option maxRecDepth 20000 in
theorem ggX6_write_X6_isRow : GoodIn wsX6_write wsX6_isRow := goodIn_r _ [6] (by decide +kernel) (by decide +kernel)
set_option maxRecDepth 20000 in
theorem gX6_write_X6_isRow : GoodIn wsX6_write (wsV RX6 43 RX6 yX6_isRow wsX6_isRow) := goodIn_app (goodIn_of _ (by decide +kernel)) ggX6_write_X6_isRow
set_option maxRecDepth 20000 in
theorem ggX6_write_X6_isKind : GoodIn wsX6_write wsX6_isKind := goodIn_r _ [10] (by decide +kernel) (by decide +kernel)
set_option maxRecDepth 20000 in
theorem gX6_write_X6_isKind : GoodIn wsX6_write (wsV RX6 64 RX6 yX6_isKind wsX6_isKind) := goodIn_app (goodIn_of _ (by decide +kernel)) ggX6_write_X6_isKind
set_option maxRecDepth 20000 in
theorem ggX6_write_X6_isWrong : GoodIn wsX6_write wsX6_isWrong := goodIn_r _ [14, 15, 39, 40, 41, 42, 43, 44] (by decide +kernel) (by decide +kernel)
set_option maxRecDepth 20000 in
theorem gX6_write_X6_isWrong : GoodIn wsX6_write (wsV RX6 50 RX6 yX6_isWrong wsX6_isWrong) := goodIn_app (goodIn_of _ (by decide +kernel)) ggX6_write_X6_isWrong
set_option maxRecDepth 20000 in
theorem ggX6_write_X6_writes : GoodIn wsX6_write wsX6_writes := goodIn_ca (goodIn_r _ [19, 1, 20, 21, 22, 23, 5, 24, 25, 26, 27, 28, 29, 30, 31, 32, 33, 34, 39, 40, 41, 42, 43, 44] (by decide +kernel) (by decide +kernel)) (goodIn_sub (fun _ h => List.mem_cons_of_mem _ (List.mem_append_right _ h)) (by decide +kernel))
set_option maxRecDepth 20000 in
theorem gX6_write_X6_writes : GoodIn wsX6_write (wsV RX6 67 RX6 yX6_writes wsX6_writes) := goodIn_app (goodIn_of _ (by decide +kernel)) ggX6_write_X6_writes
set_option maxRecDepth 20000 in
theorem ggX6_write_X6_becomes : GoodIn wsX6_write wsX6_becomes := goodIn_ca (goodIn_r _ [38, 1, 25, 30, 20, 39, 40, 41, 42, 43, 44] (by decide +kernel) (by decide +kernel)) (goodIn_sub (fun _ h => List.mem_cons_of_mem _ (List.mem_append_right _ h)) (by decide +kernel))
set_option maxRecDepth 20000 in
theorem gX6_write_X6_becomes : GoodIn wsX6_write (wsV RX6 60 RX6 yX6_becomes wsX6_becomes) := goodIn_app (goodIn_of _ (by decide +kernel)) ggX6_write_X6_becomes
theorem dX6_write_0 : decode cX6_write 0 = .ok (.aload_n 0, 1) := by decide +kernel
theorem dX6_write_1 : decode cX6_write 1 = .ok (.aload_n 0, 1) := by decide +kernel
theorem dX6_write_2 : decode cX6_write 2 = .ok (.iload_n 1, 1) := by decide +kernel
theorem dX6_write_3 : decode cX6_write 3 = .ok (.invokevirtual 43, 3) := by decide +kernel
theorem dX6_write_6 : decode cX6_write 6 = .ok (.ifCond .eq 11, 3) := by decide +kernel
theorem dX6_write_9 : decode cX6_write 9 = .ok (.aload_n 0, 1) := by decide +kernel
theorem dX6_write_10 : decode cX6_write 10 = .ok (.iload_n 2, 1) := by decide +kernel
theorem dX6_write_11 : decode cX6_write 11 = .ok (.invokevirtual 43, 3) := by decide +kernel
theorem dX6_write_14 : decode cX6_write 14 = .ok (.ifCond .ne 7, 3) := by decide +kernel
theorem dX6_write_17 : decode cX6_write 17 = .ok (.iconst 1, 1) := by decide +kernel
theorem dX6_write_18 : decode cX6_write 18 = .ok (.goto 16, 3) := by decide +kernel
theorem dX6_write_21 : decode cX6_write 21 = .ok (.aload_n 0, 1) := by decide +kernel
theorem dX6_write_22 : decode cX6_write 22 = .ok (.iload_n 3, 1) := by decide +kernel
theorem dX6_write_23 : decode cX6_write 23 = .ok (.invokevirtual 64, 3) := by decide +kernel
theorem dX6_write_26 : decode cX6_write 26 = .ok (.ifCond .ne 7, 3) := by decide +kernel
theorem dX6_write_29 : decode cX6_write 29 = .ok (.iconst 2, 1) := by decide +kernel
theorem dX6_write_30 : decode cX6_write 30 = .ok (.goto 4, 3) := by decide +kernel
theorem dX6_write_33 : decode cX6_write 33 = .ok (.iconst 0, 1) := by decide +kernel
theorem dX6_write_34 : decode cX6_write 34 = .ok (.invokevirtual 50, 3) := by decide +kernel
theorem dX6_write_37 : decode cX6_write 37 = .ok (.ifCond .eq 5, 3) := by decide +kernel
theorem dX6_write_40 : decode cX6_write 40 = .ok (.iconst 0, 1) := by decide +kernel
theorem dX6_write_41 : decode cX6_write 41 = .ok (.ireturn, 1) := by decide +kernel
theorem dX6_write_42 : decode cX6_write 42 = .ok (.aload_n 0, 1) := by decide +kernel
theorem dX6_write_43 : decode cX6_write 43 = .ok (.iload_n 1, 1) := by decide +kernel
theorem dX6_write_44 : decode cX6_write 44 = .ok (.iload_n 3, 1) := by decide +kernel
theorem dX6_write_45 : decode cX6_write 45 = .ok (.iload 4, 2) := by decide +kernel
theorem dX6_write_47 : decode cX6_write 47 = .ok (.invokevirtual 67, 3) := by decide +kernel
theorem dX6_write_50 : decode cX6_write 50 = .ok (.aload_n 0, 1) := by decide +kernel
theorem dX6_write_51 : decode cX6_write 51 = .ok (.aload_n 0, 1) := by decide +kernel
theorem dX6_write_52 : decode cX6_write 52 = .ok (.getfield 26, 3) := by decide +kernel
theorem dX6_write_55 : decode cX6_write 55 = .ok (.sipush 320, 3) := by decide +kernel
theorem dX6_write_58 : decode cX6_write 58 = .ok (.if_icmp .le 7, 3) := by decide +kernel
theorem dX6_write_61 : decode cX6_write 61 = .ok (.iconst 3, 1) := by decide +kernel
theorem dX6_write_62 : decode cX6_write 62 = .ok (.goto 4, 3) := by decide +kernel
theorem dX6_write_65 : decode cX6_write 65 = .ok (.iconst 0, 1) := by decide +kernel
theorem dX6_write_66 : decode cX6_write 66 = .ok (.invokevirtual 50, 3) := by decide +kernel
theorem dX6_write_69 : decode cX6_write 69 = .ok (.ifCond .eq 7, 3) := by decide +kernel
theorem dX6_write_72 : decode cX6_write 72 = .ok (.iconst 0, 1) := by decide +kernel
theorem dX6_write_73 : decode cX6_write 73 = .ok (.goto 8, 3) := by decide +kernel
theorem dX6_write_76 : decode cX6_write 76 = .ok (.aload_n 0, 1) := by decide +kernel
theorem dX6_write_77 : decode cX6_write 77 = .ok (.iload_n 2, 1) := by decide +kernel
theorem dX6_write_78 : decode cX6_write 78 = .ok (.invokevirtual 60, 3) := by decide +kernel
theorem dX6_write_81 : decode cX6_write 81 = .ok (.ireturn, 1) := by decide +kernel
set_option maxRecDepth 20000 in
theorem ggX6_writeText_X6_write : GoodIn wsX6_writeText wsX6_write := goodIn_ca (goodIn_r _ [5, 6, 7, 8, 9, 4, 10, 11, 12, 13, 14, 15, 16, 17, 18, 19, 20, 21, 22, 23, 24, 25, 26, 27, 28, 29, 30, 31, 32, 33, 34, 35, 36, 37, 38, 39, 40, 41, 42, 43, 44, 45, 46, 47, 48] (by decide +kernel) (by decide +kernel)) (goodIn_sub (fun _ h => List.mem_cons_of_mem _ (List.mem_append_right _ h)) (by decide +kernel))
set_option maxRecDepth 20000 in
theorem gX6_writeText_X6_write : GoodIn wsX6_writeText (wsV RX6 71 RX6 yX6_write wsX6_write) := goodIn_app (goodIn_of _ (by decide +kernel)) ggX6_writeText_X6_write
theorem dX6_writeText_0 : decode cX6_writeText 0 = .ok (.aload_n 0, 1) := by decide +kernel
theorem dX6_writeText_1 : decode cX6_writeText 1 = .ok (.iload_n 1, 1) := by decide +kernel
theorem dX6_writeText_2 : decode cX6_writeText 2 = .ok (.iload_n 2, 1) := by decide +kernel
theorem dX6_writeText_3 : decode cX6_writeText 3 = .ok (.iload_n 3, 1) := by decide +kernel
theorem dX6_writeText_4 : decode cX6_writeText 4 = .ok (.iload 4, 2) := by decide +kernel
theorem dX6_writeText_6 : decode cX6_writeText 6 = .ok (.invokevirtual 71, 3) := by decide +kernel
theorem dX6_writeText_9 : decode cX6_writeText 9 = .ok (.ireturn, 1) := by decide +kernel
set_option maxRecDepth 20000 in
theorem ggX6_read_X6_isRow : GoodIn wsX6_read wsX6_isRow := goodIn_r _ [5] (by decide +kernel) (by decide +kernel)
set_option maxRecDepth 20000 in
theorem gX6_read_X6_isRow : GoodIn wsX6_read (wsV RX6 43 RX6 yX6_isRow wsX6_isRow) := goodIn_app (goodIn_of _ (by decide +kernel)) ggX6_read_X6_isRow
set_option maxRecDepth 20000 in
theorem ggX6_read_X6_isKind : GoodIn wsX6_read wsX6_isKind := goodIn_r _ [9] (by decide +kernel) (by decide +kernel)
set_option maxRecDepth 20000 in
theorem gX6_read_X6_isKind : GoodIn wsX6_read (wsV RX6 64 RX6 yX6_isKind wsX6_isKind) := goodIn_app (goodIn_of _ (by decide +kernel)) ggX6_read_X6_isKind
set_option maxRecDepth 20000 in
theorem ggX6_read_X6_isWrong : GoodIn wsX6_read wsX6_isWrong := goodIn_r _ [13, 14, 47, 48, 49, 50, 51, 52] (by decide +kernel) (by decide +kernel)
set_option maxRecDepth 20000 in
theorem gX6_read_X6_isWrong : GoodIn wsX6_read (wsV RX6 50 RX6 yX6_isWrong wsX6_isWrong) := goodIn_app (goodIn_of _ (by decide +kernel)) ggX6_read_X6_isWrong
set_option maxRecDepth 20000 in
theorem ggX6_read_X6_looks : GoodIn wsX6_read wsX6_looks := goodIn_ca (goodIn_r _ [18, 19, 20, 21, 22, 4, 23, 24, 25, 26, 27, 28, 29, 30, 31, 32, 47, 48, 49, 50, 51, 52] (by decide +kernel) (by decide +kernel)) (goodIn_sub (fun _ h => List.mem_cons_of_mem _ (List.mem_append_right _ h)) (by decide +kernel))
set_option maxRecDepth 20000 in
theorem gX6_read_X6_looks : GoodIn wsX6_read (wsV RX6 75 RX6 yX6_looks wsX6_looks) := goodIn_app (goodIn_of _ (by decide +kernel)) ggX6_read_X6_looks
set_option maxRecDepth 20000 in
theorem ggX6_read_X6_reads : GoodIn wsX6_read wsX6_reads := goodIn_ca (goodIn_r _ [36, 37, 19, 20, 21, 22, 4, 23, 24, 25, 26, 27, 28, 29, 30, 31, 32, 38, 39, 40, 41, 42, 47, 48, 49, 50, 51, 52] (by decide +kernel) (by decide +kernel)) (goodIn_sub (fun _ h => List.mem_cons_of_mem _ (List.mem_append_right _ h)) (by decide +kernel))
set_option maxRecDepth 20000 in
theorem gX6_read_X6_reads : GoodIn wsX6_read (wsV RX6 78 RX6 yX6_reads wsX6_reads) := goodIn_app (goodIn_of _ (by decide +kernel)) ggX6_read_X6_reads
set_option maxRecDepth 20000 in
theorem ggX6_read_X6_becomes : GoodIn wsX6_read wsX6_becomes := goodIn_ca (goodIn_r _ [46, 37, 24, 42, 19, 47, 48, 49, 50, 51, 52] (by decide +kernel) (by decide +kernel)) (goodIn_sub (fun _ h => List.mem_cons_of_mem _ (List.mem_append_right _ h)) (by decide +kernel))
set_option maxRecDepth 20000 in
theorem gX6_read_X6_becomes : GoodIn wsX6_read (wsV RX6 60 RX6 yX6_becomes wsX6_becomes) := goodIn_app (goodIn_of _ (by decide +kernel)) ggX6_read_X6_becomes
theorem dX6_read_0 : decode cX6_read 0 = .ok (.aload_n 0, 1) := by decide +kernel
theorem dX6_read_1 : decode cX6_read 1 = .ok (.aload_n 0, 1) := by decide +kernel
theorem dX6_read_2 : decode cX6_read 2 = .ok (.iload_n 1, 1) := by decide +kernel
theorem dX6_read_3 : decode cX6_read 3 = .ok (.invokevirtual 43, 3) := by decide +kernel
theorem dX6_read_6 : decode cX6_read 6 = .ok (.ifCond .eq 11, 3) := by decide +kernel
theorem dX6_read_9 : decode cX6_read 9 = .ok (.aload_n 0, 1) := by decide +kernel
theorem dX6_read_10 : decode cX6_read 10 = .ok (.iload_n 2, 1) := by decide +kernel
theorem dX6_read_11 : decode cX6_read 11 = .ok (.invokevirtual 43, 3) := by decide +kernel
theorem dX6_read_14 : decode cX6_read 14 = .ok (.ifCond .ne 7, 3) := by decide +kernel
theorem dX6_read_17 : decode cX6_read 17 = .ok (.iconst 1, 1) := by decide +kernel
theorem dX6_read_18 : decode cX6_read 18 = .ok (.goto 16, 3) := by decide +kernel
theorem dX6_read_21 : decode cX6_read 21 = .ok (.aload_n 0, 1) := by decide +kernel
theorem dX6_read_22 : decode cX6_read 22 = .ok (.iload_n 3, 1) := by decide +kernel
theorem dX6_read_23 : decode cX6_read 23 = .ok (.invokevirtual 64, 3) := by decide +kernel
theorem dX6_read_26 : decode cX6_read 26 = .ok (.ifCond .ne 7, 3) := by decide +kernel
theorem dX6_read_29 : decode cX6_read 29 = .ok (.iconst 2, 1) := by decide +kernel
theorem dX6_read_30 : decode cX6_read 30 = .ok (.goto 4, 3) := by decide +kernel
theorem dX6_read_33 : decode cX6_read 33 = .ok (.iconst 0, 1) := by decide +kernel
theorem dX6_read_34 : decode cX6_read 34 = .ok (.invokevirtual 50, 3) := by decide +kernel
theorem dX6_read_37 : decode cX6_read 37 = .ok (.ifCond .eq 5, 3) := by decide +kernel
theorem dX6_read_40 : decode cX6_read 40 = .ok (.iconst 0, 1) := by decide +kernel
theorem dX6_read_41 : decode cX6_read 41 = .ok (.ireturn, 1) := by decide +kernel
theorem dX6_read_42 : decode cX6_read 42 = .ok (.aload_n 0, 1) := by decide +kernel
theorem dX6_read_43 : decode cX6_read 43 = .ok (.iload_n 1, 1) := by decide +kernel
theorem dX6_read_44 : decode cX6_read 44 = .ok (.iload_n 3, 1) := by decide +kernel
theorem dX6_read_45 : decode cX6_read 45 = .ok (.invokevirtual 75, 3) := by decide +kernel
theorem dX6_read_48 : decode cX6_read 48 = .ok (.istore 4, 2) := by decide +kernel
theorem dX6_read_50 : decode cX6_read 50 = .ok (.aload_n 0, 1) := by decide +kernel
theorem dX6_read_51 : decode cX6_read 51 = .ok (.iload 4, 2) := by decide +kernel
theorem dX6_read_53 : decode cX6_read 53 = .ok (.iconst (-1), 1) := by decide +kernel
theorem dX6_read_54 : decode cX6_read 54 = .ok (.if_icmp .ne 7, 3) := by decide +kernel
theorem dX6_read_57 : decode cX6_read 57 = .ok (.iconst 2, 1) := by decide +kernel
theorem dX6_read_58 : decode cX6_read 58 = .ok (.goto 15, 3) := by decide +kernel
theorem dX6_read_61 : decode cX6_read 61 = .ok (.iload 4, 2) := by decide +kernel
theorem dX6_read_63 : decode cX6_read 63 = .ok (.bipush (-2), 2) := by decide +kernel
theorem dX6_read_65 : decode cX6_read 65 = .ok (.if_icmp .ne 7, 3) := by decide +kernel
theorem dX6_read_68 : decode cX6_read 68 = .ok (.iconst 3, 1) := by decide +kernel
theorem dX6_read_69 : decode cX6_read 69 = .ok (.goto 4, 3) := by decide +kernel
theorem dX6_read_72 : decode cX6_read 72 = .ok (.iconst 0, 1) := by decide +kernel
theorem dX6_read_73 : decode cX6_read 73 = .ok (.invokevirtual 50, 3) := by decide +kernel
theorem dX6_read_76 : decode cX6_read 76 = .ok (.ifCond .eq 5, 3) := by decide +kernel
theorem dX6_read_79 : decode cX6_read 79 = .ok (.iconst 0, 1) := by decide +kernel
theorem dX6_read_80 : decode cX6_read 80 = .ok (.ireturn, 1) := by decide +kernel
theorem dX6_read_81 : decode cX6_read 81 = .ok (.aload_n 0, 1) := by decide +kernel
theorem dX6_read_82 : decode cX6_read 82 = .ok (.iload_n 1, 1) := by decide +kernel
theorem dX6_read_83 : decode cX6_read 83 = .ok (.iload_n 3, 1) := by decide +kernel
theorem dX6_read_84 : decode cX6_read 84 = .ok (.iload 4, 2) := by decide +kernel
theorem dX6_read_86 : decode cX6_read 86 = .ok (.invokevirtual 78, 3) := by decide +kernel
theorem dX6_read_89 : decode cX6_read 89 = .ok (.aload_n 0, 1) := by decide +kernel
theorem dX6_read_90 : decode cX6_read 90 = .ok (.iload_n 2, 1) := by decide +kernel
theorem dX6_read_91 : decode cX6_read 91 = .ok (.invokevirtual 60, 3) := by decide +kernel
theorem dX6_read_94 : decode cX6_read 94 = .ok (.ireturn, 1) := by decide +kernel
set_option maxRecDepth 20000 in
theorem ggX6_look_X6_isRow : GoodIn wsX6_look wsX6_isRow := goodIn_r _ [5] (by decide +kernel) (by decide +kernel)
set_option maxRecDepth 20000 in
theorem gX6_look_X6_isRow : GoodIn wsX6_look (wsV RX6 43 RX6 yX6_isRow wsX6_isRow) := goodIn_app (goodIn_of _ (by decide +kernel)) ggX6_look_X6_isRow
set_option maxRecDepth 20000 in
theorem ggX6_look_X6_isKind : GoodIn wsX6_look wsX6_isKind := goodIn_r _ [9] (by decide +kernel) (by decide +kernel)
set_option maxRecDepth 20000 in
theorem gX6_look_X6_isKind : GoodIn wsX6_look (wsV RX6 64 RX6 yX6_isKind wsX6_isKind) := goodIn_app (goodIn_of _ (by decide +kernel)) ggX6_look_X6_isKind
set_option maxRecDepth 20000 in
theorem ggX6_look_X6_isWrong : GoodIn wsX6_look wsX6_isWrong := goodIn_r _ [13, 14, 33, 34, 35, 36, 37, 38] (by decide +kernel) (by decide +kernel)
set_option maxRecDepth 20000 in
theorem gX6_look_X6_isWrong : GoodIn wsX6_look (wsV RX6 50 RX6 yX6_isWrong wsX6_isWrong) := goodIn_app (goodIn_of _ (by decide +kernel)) ggX6_look_X6_isWrong
set_option maxRecDepth 20000 in
theorem ggX6_look_X6_looks : GoodIn wsX6_look wsX6_looks := goodIn_ca (goodIn_r _ [18, 19, 20, 21, 22, 4, 23, 24, 25, 26, 27, 28, 29, 30, 31, 32, 33, 34, 35, 36, 37, 38] (by decide +kernel) (by decide +kernel)) (goodIn_sub (fun _ h => List.mem_cons_of_mem _ (List.mem_append_right _ h)) (by decide +kernel))
set_option maxRecDepth 20000 in
theorem gX6_look_X6_looks : GoodIn wsX6_look (wsV RX6 75 RX6 yX6_looks wsX6_looks) := goodIn_app (goodIn_of _ (by decide +kernel)) ggX6_look_X6_looks
theorem dX6_look_0 : decode cX6_look 0 = .ok (.aload_n 0, 1) := by decide +kernel
theorem dX6_look_1 : decode cX6_look 1 = .ok (.aload_n 0, 1) := by decide +kernel
theorem dX6_look_2 : decode cX6_look 2 = .ok (.iload_n 1, 1) := by decide +kernel
theorem dX6_look_3 : decode cX6_look 3 = .ok (.invokevirtual 43, 3) := by decide +kernel
theorem dX6_look_6 : decode cX6_look 6 = .ok (.ifCond .ne 7, 3) := by decide +kernel
theorem dX6_look_9 : decode cX6_look 9 = .ok (.iconst 1, 1) := by decide +kernel
theorem dX6_look_10 : decode cX6_look 10 = .ok (.goto 16, 3) := by decide +kernel
theorem dX6_look_13 : decode cX6_look 13 = .ok (.aload_n 0, 1) := by decide +kernel
theorem dX6_look_14 : decode cX6_look 14 = .ok (.iload_n 2, 1) := by decide +kernel
theorem dX6_look_15 : decode cX6_look 15 = .ok (.invokevirtual 64, 3) := by decide +kernel
theorem dX6_look_18 : decode cX6_look 18 = .ok (.ifCond .ne 7, 3) := by decide +kernel
theorem dX6_look_21 : decode cX6_look 21 = .ok (.iconst 2, 1) := by decide +kernel
theorem dX6_look_22 : decode cX6_look 22 = .ok (.goto 4, 3) := by decide +kernel
theorem dX6_look_25 : decode cX6_look 25 = .ok (.iconst 0, 1) := by decide +kernel
theorem dX6_look_26 : decode cX6_look 26 = .ok (.invokevirtual 50, 3) := by decide +kernel
theorem dX6_look_29 : decode cX6_look 29 = .ok (.ifCond .eq 7, 3) := by decide +kernel
theorem dX6_look_32 : decode cX6_look 32 = .ok (.iconst 0, 1) := by decide +kernel
theorem dX6_look_33 : decode cX6_look 33 = .ok (.goto 9, 3) := by decide +kernel
theorem dX6_look_36 : decode cX6_look 36 = .ok (.aload_n 0, 1) := by decide +kernel
theorem dX6_look_37 : decode cX6_look 37 = .ok (.iload_n 1, 1) := by decide +kernel
theorem dX6_look_38 : decode cX6_look 38 = .ok (.iload_n 2, 1) := by decide +kernel
theorem dX6_look_39 : decode cX6_look 39 = .ok (.invokevirtual 75, 3) := by decide +kernel
theorem dX6_look_42 : decode cX6_look 42 = .ok (.ireturn, 1) := by decide +kernel
set_option maxRecDepth 20000 in
theorem ggX6_lettersOf_X6_at : GoodIn wsX6_lettersOf wsX6_at := goodIn_ca (goodIn_r _ [6, 7, 16, 17, 18, 19, 20, 21] (by decide +kernel) (by decide +kernel)) (goodIn_sub (fun _ h => List.mem_cons_of_mem _ (List.mem_append_right _ h)) (by decide +kernel))
set_option maxRecDepth 20000 in
theorem gX6_lettersOf_X6_at : GoodIn wsX6_lettersOf (wsV RX6 33 RX6 yX6_at wsX6_at) := goodIn_app (goodIn_of _ (by decide +kernel)) ggX6_lettersOf_X6_at
set_option maxRecDepth 20000 in
theorem ggX6_lettersOf_X6_worth : GoodIn wsX6_lettersOf wsX6_worth := goodIn_r _ [11, 12, 13, 14, 5, 15] (by decide +kernel) (by decide +kernel)
set_option maxRecDepth 20000 in
theorem gX6_lettersOf_X6_worth : GoodIn wsX6_lettersOf (wsV RX6 40 RX6 yX6_worth wsX6_worth) := goodIn_app (goodIn_of _ (by decide +kernel)) ggX6_lettersOf_X6_worth
