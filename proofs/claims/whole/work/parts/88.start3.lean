/-! the start: the words that the law's table has not, the statics, the claim's start -/
section ST3
variable {s : State} {zb : Nat}
def law_s3 : List Cond := [Cond.selects RJ4 yJ5_ensureCapacityInternal_d00df yJ5_ensureCapacityInternal_d00df, Cond.selects RJ4 yJ5_newCapacity_0f7a4 yJ5_newCapacity_0f7a4, Cond.selects RJ4 yJ5_inflate_da8c8 yJ5_inflate_da8c8]
theorem law_ap {a b B : List Cond} (ha : ∀ w ∈ a, w ∈ B) (hb : ∀ w ∈ b, w ∈ B) : ∀ w ∈ a ++ b, w ∈ B := fun w h => (List.mem_append.mp h).elim (ha w) (hb w)
theorem law_ps {big ws : List Cond} (ps : List Nat) (hp : ws = ps.filterMap (fun i => big[i]?)) : ∀ w ∈ ws, w ∈ big := by
  intro w hw
  rw [hp] at hw
  obtain ⟨i, -, hi⟩ := List.mem_filterMap.mp hw
  exact List.mem_of_getElem? hi
theorem law_c1 : ∀ w ∈ wsL_law0_r1, w ∈ lw_tbl ++ law_s3 := law_ps [54, 55, 25, 954, 955, 32, 1131, 1132, 56, 57, 58, 59, 60, 61, 62, 133, 64, 26, 134, 135, 81, 82, 28, 136] (by decide +kernel)
theorem law_c2 : ∀ w ∈ wsL_law0_r2, w ∈ lw_tbl ++ law_s3 := law_ps [114, 115, 31, 137, 66, 67, 68, 80, 69, 70, 83, 84, 85, 86, 87, 27, 88, 89, 90, 113, 99, 100, 92, 93] (by decide +kernel)
theorem law_c3 : ∀ w ∈ wsL_law0_r3, w ∈ lw_tbl ++ law_s3 := law_ps [30, 94, 95, 96, 97, 98, 117, 118, 119, 120, 122, 124, 125, 956, 957, 958, 959, 960, 961, 962, 965, 696, 697, 24] (by decide +kernel)
theorem law_c4 : ∀ w ∈ wsL_law0_r4, w ∈ lw_tbl ++ law_s3 := law_ps [698, 699, 702, 703, 704, 705, 706, 707, 708, 710, 6, 711, 712, 36, 725, 726, 727, 728, 38, 731, 732, 733, 734, 39] (by decide +kernel)
theorem law_c5 : ∀ w ∈ wsL_law0_r5, w ∈ lw_tbl ++ law_s3 := law_ps [750, 198, 199, 200, 983, 984, 985, 986, 987, 989, 8, 990, 991, 993, 9, 994, 995, 997, 10, 998, 964, 979, 980, 981] (by decide +kernel)
theorem law_c6 : ∀ w ∈ wsL_law0_r6, w ∈ lw_tbl ++ law_s3 := law_ps [982, 751, 752, 753, 754, 755, 756, 757, 759, 183, 184, 185, 760, 761, 762, 763, 764, 160, 161, 162, 999, 1000, 1001, 1002] (by decide +kernel)
theorem law_c7 : ∀ w ∈ wsL_law0_r7, w ∈ lw_tbl ++ law_s3 := law_ps [1003, 765, 766, 767, 768, 769, 770, 771, 772, 773, 774, 776, 777, 778, 779, 1004, 1005, 1006, 1007, 1008, 1010, 11, 1011, 1012] (by decide +kernel)
theorem law_c8 : ∀ w ∈ wsL_law0_r8, w ∈ lw_tbl ++ law_s3 := law_ps [1014, 12, 1015, 780, 781, 782, 783, 784, 785, 786, 787, 788, 789, 790, 791, 159, 792, 1016, 1017, 1018, 1019, 793, 794, 795] (by decide +kernel)
theorem law_c9 : ∀ w ∈ wsL_law0_r9, w ∈ lw_tbl ++ law_s3 := law_ps [796, 797, 798, 799, 801, 802, 803, 804, 805, 1020, 1021, 1022, 1023, 806, 807, 808, 809, 810, 811, 812, 1024, 1025, 1026, 1027] (by decide +kernel)
theorem law_c10 : ∀ w ∈ wsL_law0_r10, w ∈ lw_tbl ++ law_s3 := law_ps [813, 814, 815, 816, 817, 818, 819, 1028, 1029, 1030, 1031, 820, 821, 822, 823, 824, 825, 826, 827, 828, 829, 830, 831, 1032] (by decide +kernel)
theorem law_c11 : ∀ w ∈ wsL_law0_r11, w ∈ lw_tbl ++ law_s3 := law_ps [1033, 1034, 1035, 963, 1036, 1038, 13, 1039, 1040, 1042, 14, 1043, 832, 833, 834, 835, 836, 837, 838, 657, 658, 659, 660, 230] (by decide +kernel)
theorem law_c12 : ∀ w ∈ wsL_law0_r12, w ∈ lw_tbl ++ law_s3 := law_ps [231, 232, 233, 1044, 1045, 1046, 1047, 839, 840, 841, 842, 843, 844, 845, 846, 847, 848, 220, 850, 177, 40, 178, 179, 180] (by decide +kernel)
theorem law_c13 : ∀ w ∈ wsL_law0_r13, w ∈ lw_tbl ++ law_s3 := law_ps [181, 173, 174, 175, 176, 182, 186, 187, 188, 189, 190, 191, 192, 193, 194, 195, 53, 196, 1149, 1150, 197, 1048, 1049, 1050] (by decide +kernel)
theorem law_c14 : ∀ w ∈ wsL_law0_r14, w ∈ lw_tbl ++ law_s3 := law_ps [1051, 1052, 1054, 15, 1055, 1056, 1058, 16, 1059, 1060, 1062, 17, 1063, 851, 852, 853, 854, 855, 856, 857, 242, 243, 244, 245] (by decide +kernel)
theorem law_c15 : ∀ w ∈ wsL_law0_r15, w ∈ lw_tbl ++ law_s3 := law_ps [246, 247, 248, 249, 1133, 112, 250, 251, 252, 253, 41, 103, 101, 271, 1136, 1153, 273, 274, 275, 1137, 1154, 277, 278, 289] (by decide +kernel)
theorem law_c16 : ∀ w ∈ wsL_law0_r16, w ∈ lw_tbl ++ law_s3 := law_ps [279, 280, 42, 281, 282, 283, 43, 284, 285, 286, 287, 288, 290, 291, 44, 292, 293, 294, 295, 296, 297, 299, 300, 301] (by decide +kernel)
theorem law_c17 : ∀ w ∈ wsL_law0_r17, w ∈ lw_tbl ++ law_s3 := law_ps [302, 303, 305, 304, 45, 306, 308, 309, 307, 310, 552, 553, 47, 554, 555, 556, 557, 558, 559, 560, 486, 564, 565, 37] (by decide +kernel)
theorem law_c18 : ∀ w ∈ wsL_law0_r18, w ∈ lw_tbl ++ law_s3 := law_ps [587, 588, 589, 590, 591, 592, 593, 594, 595, 1143, 596, 597, 598, 599, 600, 355, 1140, 1155, 357, 358, 359, 360, 361, 362] (by decide +kernel)
theorem law_c19 : ∀ w ∈ wsL_law0_r19, w ∈ lw_tbl ++ law_s3 := law_ps [363, 364, 365, 366, 367, 317, 318, 319, 368, 369, 29, 370, 323, 371, 372, 46, 373, 328, 329, 330, 331, 333, 335, 601] (by decide +kernel)
theorem law_c20 : ∀ w ∈ wsL_law0_r20, w ∈ lw_tbl ++ law_s3 := law_ps [602, 603, 604, 605, 606, 607, 608, 609, 610, 611, 612, 858, 859, 860, 861, 617, 427, 1144, 428, 429, 425, 424, 430, 618] (by decide +kernel)
theorem law_c21 : ∀ w ∈ wsL_law0_r21, w ∈ lw_tbl ++ law_s3 := law_ps [619, 620, 621, 622, 1145, 623, 624, 625, 626, 627, 524, 525, 1064, 1065, 1066, 1067, 1068, 862, 863, 864, 865, 866, 867, 868] (by decide +kernel)
theorem law_c22 : ∀ w ∈ wsL_law0_r22, w ∈ lw_tbl ++ law_s3 := law_ps [869, 870, 872, 7, 873, 874, 50, 665, 666, 49, 667, 668, 669, 670, 671, 672, 673, 674, 675, 676, 653, 654, 655, 656] (by decide +kernel)
theorem law_c23 : ∀ w ∈ wsL_law0_r23, w ∈ lw_tbl ++ law_s3 := law_ps [209, 210, 211, 677, 235, 236, 237, 678, 679, 680, 681, 682, 683, 684, 685, 686, 687, 688, 689, 690, 691, 692, 693, 694] (by decide +kernel)
theorem law_c24 : ∀ w ∈ wsL_law0_r24, w ∈ lw_tbl ++ law_s3 := law_ps [695, 632, 633, 634, 635, 636, 637, 638, 639, 640, 641, 642, 643, 644, 645, 646, 647, 648, 649, 650, 651, 652, 1069, 1070] (by decide +kernel)
theorem law_c25 : ∀ w ∈ wsL_law0_r25, w ∈ lw_tbl ++ law_s3 := law_ps [1071, 1072, 1073, 1075, 18, 1076, 1077, 1079, 19, 1080, 1081, 1083, 20, 1084, 891, 892, 893, 894, 895, 896, 897, 1085, 1086, 1087] (by decide +kernel)
theorem law_c26 : ∀ w ∈ wsL_law0_r26, w ∈ lw_tbl ++ law_s3 := law_ps [1088, 898, 899, 900, 901, 902, 903, 904, 905, 1089, 1090, 1091, 1092, 1093, 1095, 21, 1096, 906, 907, 908, 909, 910, 911, 912] (by decide +kernel)
theorem law_c27 : ∀ w ∈ wsL_law0_r27, w ∈ lw_tbl ++ law_s3 := law_ps [1097, 1098, 1099, 1100, 1101, 1103, 22, 1104, 1105, 1107, 23, 1108, 913, 914, 915, 916, 917, 918, 919, 1109, 1110, 1111, 1112, 920] (by decide +kernel)
theorem law_c28 : ∀ w ∈ wsL_law0_r28, w ∈ lw_tbl ++ law_s3 := law_ps [921, 922, 923, 937, 938, 939, 940, 941, 942, 943, 944, 51, 1113, 1114, 1115, 1116, 947, 948, 949, 950, 951, 952, 953, 1117] (by decide +kernel)
theorem law_c29 : ∀ w ∈ wsL_law0_r29, w ∈ lw_tbl ++ law_s3 := law_ps [1118, 1119, 1120, 149, 150, 151, 152, 153, 154, 155, 156, 157, 158, 1121, 1122, 1123, 1124, 1125, 1126, 163, 164, 165, 166, 167] (by decide +kernel)
theorem law_c30 : ∀ w ∈ wsL_law0_r30, w ∈ lw_tbl ++ law_s3 := law_ps [169, 0, 170, 171, 201, 214, 203, 204, 205, 206, 207, 212, 208, 213, 216, 217, 218, 219, 222, 224, 1, 225, 226, 227] (by decide +kernel)
theorem law_c31 : ∀ w ∈ wsL_law0_r31, w ∈ lw_tbl ++ law_s3 := law_ps [228, 229, 234, 238, 240, 2, 241, 613, 614, 615, 616, 628, 630, 4, 631, 661, 663, 5, 664, 1127, 1128, 1129, 1130] (by decide +kernel)
theorem law_in0 : ∀ w ∈ wsL_law0, w ∈ lw_tbl ++ law_s3 := law_ap (law_ap (law_ap (law_ap (law_ap (law_ap (law_ap (law_ap (law_ap law_c1 (law_ap law_c2 (law_ap law_c3 (law_ap law_c4 (law_ap law_c5 (law_ap law_c6 (law_ap law_c7 (law_ap law_c8 (law_ap law_c9 (law_ap law_c10 (law_ap law_c11 (law_ap law_c12 (law_ap law_c13 (law_ap law_c14 (law_ap law_c15 (law_ap law_c16 (law_ap law_c17 (law_ap law_c18 (law_ap law_c19 (law_ap law_c20 (law_ap law_c21 (law_ap law_c22 (law_ap law_c23 (law_ap law_c24 (law_ap law_c25 (law_ap law_c26 (law_ap law_c27 (law_ap law_c28 (law_ap law_c29 (law_ap law_c30 law_c31)))))))))))))))))))))))))))))) (by decide +kernel)) (by decide +kernel)) (by decide +kernel)) (by decide +kernel)) (by decide +kernel)) (by decide +kernel)) (by decide +kernel)) (fun _ h => absurd h List.not_mem_nil)
theorem law_in : ∀ w ∈ wsL_law, w ∈ lw_tbl ++ law_s3 := law_ap (law_ap (law_ap (law_ap (law_ap (law_ap law_in0 (by decide +kernel)) (by decide +kernel)) (by decide +kernel)) (by decide +kernel)) (by decide +kernel)) (by decide +kernel)
theorem law_sel {args : Array Value} {C : String} {x y z : MethodName} (hy : y.cls ≠ "java/lang/invoke/MethodHandle" ∧ y.cls ≠ "java/lang/invoke/VarHandle") (hyz : y.cls = z.cls) (hz : (Cond.selects C x z).before args s = true) (hpriv : (Cond.privateMethod y).before args s = true) (hinst : (Cond.instanceMethod y).before args s = true) : (Cond.selects C y y).before args s = true := by
  obtain ⟨mk, methM, hnamed, hmethM, -, -⟩ := Cond.instanceMethod_spec hinst
  have hfound : s.methodFound? y.cls y.name y.desc = some mk := State.methodFound?_of_named hnamed hy
  have hsel : ∀ c : ClassId, selectMethod {} s.vm c mk = .method mk := fun c => selectMethod_private hmethM (Cond.privateMethod_at hpriv mk methM hnamed hmethM)
  simp only [Cond.before, Cond.holds, Cond.value] at hz
  cases hc : s.vm.findClass C with
  | none => simp [hc] at hz
  | some c =>
    cases hr : s.methodFound? x.cls x.name x.desc with
    | none => simp [hc, hr] at hz
    | some r =>
      cases hm : s.methodNamed? z with
      | none => simp [hc, hr, hm] at hz
      | some m =>
        have hcls : mk.cls = m.cls := Option.some.inj ((findClass_of_methodNamed hnamed).symm.trans (by rw [hyz]; exact findClass_of_methodNamed hm))
        cases hk : s.vm.classes[m.cls]? with
        | none =>
          exfalso
          cases hq : selectMethod {} s.vm c r <;> simp [hc, hr, hm, hq, hk] at hz
        | some k =>
          have hni : k.isInterface = false := by
            cases hq : selectMethod {} s.vm c r <;> simp [hc, hr, hm, hq, hk] at hz
            first | exact hz.2 | exact hz
          simp only [Cond.before, Cond.holds, Cond.value, hc, hfound, hnamed, hsel c, hcls, hk]
          simp; exact hni
theorem law_s3_ok (hts : ∀ w ∈ lw_tbl, w.before #[Value.ref zb] s = true) : ∀ w ∈ law_s3, w.before #[Value.ref zb] s = true := by
  have hz : (Cond.selects RJ4 ⟨"java/lang/AbstractStringBuilder", "isLatin1", "()Z"⟩ ⟨"java/lang/AbstractStringBuilder", "isLatin1", "()Z"⟩).before #[Value.ref zb] s = true := hts _ (by decide +kernel)
  refine List.forall_mem_cons.mpr ⟨law_sel ⟨by decide +kernel, by decide +kernel⟩ (by rfl) hz (hts _ (by decide +kernel)) (hts _ (by decide +kernel)), List.forall_mem_cons.mpr ⟨law_sel ⟨by decide +kernel, by decide +kernel⟩ (by rfl) hz (hts _ (by decide +kernel)) (hts _ (by decide +kernel)), List.forall_mem_cons.mpr ⟨law_sel ⟨by decide +kernel, by decide +kernel⟩ (by rfl) hz (hts _ (by decide +kernel)) (hts _ (by decide +kernel)), fun _ h => absurd h List.not_mem_nil⟩⟩⟩
theorem law_hts (hts : ∀ w ∈ lw_tbl, w.before #[Value.ref zb] s = true) : ∀ w ∈ wsL_law, w.before #[Value.ref zb] s = true := fun w hw => (List.mem_append.mp (law_in w hw)).elim (hts w) (law_s3_ok hts w)
def law_g (s : State) (zb t : Nat) (ad : Nat → Nat) (k : Nat) : Nat := if k < 3 then ad k else if k = 3 then t else match (Term.string "Letterloom" k).eval #[Value.ref zb] s none [] s with
  | some (.ref a) => a
  | _ => 0
theorem law_g_lt {t : Nat} {ad : Nat → Nat} {i : Nat} (h : i < 3) : law_g s zb t ad i = ad i := if_pos h
theorem law_g_3 {t : Nat} {ad : Nat → Nat} : law_g s zb t ad 3 = t := by simp [law_g]
theorem law_g_s {t a : Nat} {ad : Nat → Nat} {k : Nat} (h : 3 < k) (he : (Term.string "Letterloom" k).eval #[Value.ref zb] s none [] s = some (.ref a)) : law_g s zb t ad k = a := by
  have h1 : ¬ k < 3 := by omega
  have h2 : ¬ k = 3 := by omega
  simp only [law_g, if_neg h1, if_neg h2, he]
theorem law_q0 : ∀ i, i < KN.length → Cond.laysStatic RX0 (KN.getD i "") "LLetterloom$Kind;" ∈ lw_tbl := by decide +kernel
theorem law_q1 : ∀ i, i < KN.length → Cond.exactly (.static RX0 (KN.getD i "") "LLetterloom$Kind;") RX0 ∈ flatC (Jvm.Cond.and given_1 narrow_1) := by decide +kernel
theorem law_q2 : ∀ q ∈ FK, ∀ i, i < KN.length → Cond.eq (.field (.static RX0 (KN.getD i "") "LLetterloom$Kind;") q.1 q.2.1 q.2.2.1) (.int (q.2.2.2.getD i 0)) ∈ flatC (Jvm.Cond.and given_1 narrow_1) := by decide +kernel
theorem law_q3 : ∀ i, i < KN.length → ∀ j, j < KN.length → i ≠ j → Cond.not (.eq (.static RX0 (KN.getD i "") "LLetterloom$Kind;") (.static RX0 (KN.getD j "") "LLetterloom$Kind;")) ∈ flatC (Jvm.Cond.and given_1 narrow_1) ∨ Cond.not (.eq (.static RX0 (KN.getD j "") "LLetterloom$Kind;") (.static RX0 (KN.getD i "") "LLetterloom$Kind;")) ∈ flatC (Jvm.Cond.and given_1 narrow_1) := by decide +kernel
theorem law_q4 : ∀ j, j < 3 → Cond.eq (.elem (.static RX5 "KINDS" "[LLetterloom$Kind;") (.int (Int32.ofNat j))) (.static RX0 (KN.getD j "") "LLetterloom$Kind;") ∈ flatC (Jvm.Cond.and given_1 narrow_1) := by decide +kernel
theorem law_q5 : ∀ q ∈ strK, Cond.exactly (.string "Letterloom" q.1) "java/lang/String" ∈ flatC (Jvm.Cond.and given_1 narrow_1) := by decide +kernel
theorem law_q6 : ∀ q ∈ strK, Cond.stringRef "Letterloom" q.1 q.2 ∈ lw_tbl := by decide +kernel
theorem law_q7 : ∀ q ∈ nestF, Cond.fieldLinkNest q.1 q.2.1 q.2.2.1 q.2.2.2.1 q.2.2.2.2 "Letterloom" ∈ lw_tbl := by decide +kernel
theorem law_q8 : ∀ q ∈ nestM, Cond.methodLinkNest q.1 q.2.1 q.2.2 "Letterloom" ∈ lw_tbl := by decide +kernel
theorem law_q9 : ∀ w ∈ xw, w ∈ lw_tbl := by decide +kernel
theorem law_qk : ∀ q ∈ strK, 3 < q.1 := by decide +kernel
theorem law_G (hts : ∀ w ∈ lw_tbl, w.before #[Value.ref zb] s = true) (hgv : (Jvm.Cond.and given_1 narrow_1).before #[Value.ref zb] s = true) : ∃ g : Nat → Nat, GX g (fun q => s.heap.size ≤ q) s s.heap := by
  have hs := flat_of_before _ hgv
  have hA : ∀ a : Nat, a < s.heap.size → ¬ (fun q => s.heap.size ≤ q) a := fun a h => Nat.not_le.mpr h
  obtain ⟨ad, hE, hEv⟩ := va_Enof2 (args := #[Value.ref zb]) (s := s) (E := RX0) (d := "LLetterloom$Kind;") (nm := KN) (F := FK) (A := fun q => s.heap.size ≤ q) (fun i hi => hts _ (law_q0 i hi)) (hts _ (by decide +kernel)) (fun i hi => hs _ (law_q1 i hi)) (fun q hq i hi => hs _ (law_q2 q hq i hi)) (fun i j hi hj hne => (law_q3 i hi j hj hne).imp (fun h => hs _ h) (fun h => hs _ h)) hA
  have hln : (Cond.eq (.length (.static RX5 "KINDS" "[LLetterloom$Kind;")) (.int 3)).before #[Value.ref zb] s = true := hs _ (by decide +kernel)
  have harr : (Cond.arrayOf (.static RX5 "KINDS" "[LLetterloom$Kind;") (.object RX0)).before #[Value.ref zb] s = true := hs _ (by decide +kernel)
  obtain ⟨t, ht, hT⟩ := va_Tof (args := #[Value.ref zb]) (s := s) (tm := .static RX5 "KINDS" "[LLetterloom$Kind;") (ty := .object RX0) (N := 3) (f := fun j => .ref (ad j)) (A := fun q => s.heap.size ≤ q) (by decide) harr (va_eqt hln) (fun j hj => va_eqv (hs _ (law_q4 j hj)) (hEv j hj)) hA
  have hstr : ∀ q ∈ strK, ∃ a : Nat, (Term.string "Letterloom" q.1).eval #[Value.ref zb] s none [] s = some (.ref a) := fun q hq => by
    obtain ⟨a, c, cell, k, h1, -⟩ := Cond.exactly_spec (hs _ (law_q5 q hq))
    exact ⟨a, h1⟩
  refine ⟨law_g s zb t ad, ?_, ?_, ?_, ?_, ?_, ?_, ?_, ?_, ?_, ?_, ?_, ?_⟩
  · exact ⟨fun i hi => by rw [law_g_lt (show i < 3 from hi)]; exact hE.1 i hi, fun i j hi hj h => hE.2 i j hi hj (by rw [law_g_lt (show i < 3 from hi), law_g_lt (show j < 3 from hj)] at h; exact h)⟩
  · rw [law_g_3]
    exact va_Zref (hts _ (by decide +kernel)) (hts _ (by decide +kernel)) ht hA
  · rw [law_g_3]
    obtain ⟨cell, h1, h2, h3, h4, h5, h6, h7⟩ := hT
    exact ⟨cell, h1, h2, h3, h4, h5, fun j hj => by show _ = some (Value.ref (law_g s zb t ad j)); rw [law_g_lt hj]; exact h6 j hj, h7⟩
  · have hv : (Cond.eq (.static "java/lang/String" "COMPACT_STRINGS" "Z") (.int 1)).before #[Value.ref zb] s = true := hs _ (by decide +kernel)
    exact va_Zof (hts _ (by decide +kernel)) (hts _ (by decide +kernel)) (va_eqi hv) hA
  · exact va_Zqof (args := #[Value.ref zb]) (hts _ (by decide +kernel)) (hts _ (by decide +kernel)) (hs _ (by decide +kernel)) hA
  · exact vx_Zqof (args := #[Value.ref zb]) (hts _ (by decide +kernel)) (hts _ (by decide +kernel)) (hs _ (by decide +kernel)) hA
  · exact vx_Zqof (args := #[Value.ref zb]) (hts _ (by decide +kernel)) (hts _ (by decide +kernel)) (hs _ (by decide +kernel)) hA
  · exact fun q hq => va_Nw.of rfl (hts _ (law_q7 q hq))
  · exact fun q hq => va_Nw.of rfl (hts _ (law_q8 q hq))
  · intro q hq
    obtain ⟨a, ha⟩ := hstr q hq
    rw [law_g_s (law_qk q hq) ha]
    exact vk_R.of (hts _ (law_q6 q hq)) ha
  · exact va_AO.of (A := #[Value.ref zb]) (hts _ (by decide +kernel))
  · exact fun w hw => va_Nw.of (xw_ok w hw).2 (hts w (law_q9 w hw))
end ST3
