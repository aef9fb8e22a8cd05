theorem dX10_speaksOf_45 : decode cX10_speaksOf 45 = .ok (.iload 4, 2) := by decide +kernel
theorem dX10_speaksOf_47 : decode cX10_speaksOf 47 = .ok (.ishl, 1) := by decide +kernel
theorem dX10_speaksOf_48 : decode cX10_speaksOf 48 = .ok (.ixor, 1) := by decide +kernel
theorem dX10_speaksOf_49 : decode cX10_speaksOf 49 = .ok (.iadd, 1) := by decide +kernel
theorem dX10_speaksOf_50 : decode cX10_speaksOf 50 = .ok (.baload, 1) := by decide +kernel
theorem dX10_speaksOf_51 : decode cX10_speaksOf 51 = .ok (.if_icmp .eq 10, 3) := by decide +kernel
theorem dX10_speaksOf_54 : decode cX10_speaksOf 54 = .ok (.iconst 1, 1) := by decide +kernel
theorem dX10_speaksOf_55 : decode cX10_speaksOf 55 = .ok (.iload 4, 2) := by decide +kernel
theorem dX10_speaksOf_57 : decode cX10_speaksOf 57 = .ok (.ishl, 1) := by decide +kernel
theorem dX10_speaksOf_58 : decode cX10_speaksOf 58 = .ok (.goto 4, 3) := by decide +kernel
theorem dX10_speaksOf_61 : decode cX10_speaksOf 61 = .ok (.iconst 0, 1) := by decide +kernel
theorem dX10_speaksOf_62 : decode cX10_speaksOf 62 = .ok (.ior, 1) := by decide +kernel
theorem dX10_speaksOf_63 : decode cX10_speaksOf 63 = .ok (.istore_n 2, 1) := by decide +kernel
theorem dX10_speaksOf_64 : decode cX10_speaksOf 64 = .ok (.iinc 4 1, 3) := by decide +kernel
theorem dX10_speaksOf_67 : decode cX10_speaksOf 67 = .ok (.goto (-53), 3) := by decide +kernel
theorem dX10_speaksOf_70 : decode cX10_speaksOf 70 = .ok (.iinc 3 1, 3) := by decide +kernel
theorem dX10_speaksOf_73 : decode cX10_speaksOf 73 = .ok (.goto (-69), 3) := by decide +kernel
theorem dX10_speaksOf_76 : decode cX10_speaksOf 76 = .ok (.iload_n 2, 1) := by decide +kernel
theorem dX10_speaksOf_77 : decode cX10_speaksOf 77 = .ok (.ireturn, 1) := by decide +kernel
theorem dX10_hangsOnNext_0 : decode cX10_hangsOnNext 0 = .ok (.iconst 0, 1) := by decide +kernel
theorem dX10_hangsOnNext_1 : decode cX10_hangsOnNext 1 = .ok (.istore 4, 2) := by decide +kernel
theorem dX10_hangsOnNext_3 : decode cX10_hangsOnNext 3 = .ok (.iload_n 3, 1) := by decide +kernel
theorem dX10_hangsOnNext_4 : decode cX10_hangsOnNext 4 = .ok (.istore 5, 2) := by decide +kernel
theorem dX10_hangsOnNext_6 : decode cX10_hangsOnNext 6 = .ok (.iload 5, 2) := by decide +kernel
theorem dX10_hangsOnNext_8 : decode cX10_hangsOnNext 8 = .ok (.sipush 256, 3) := by decide +kernel
theorem dX10_hangsOnNext_11 : decode cX10_hangsOnNext 11 = .ok (.if_icmp .ge 59, 3) := by decide +kernel
theorem dX10_hangsOnNext_14 : decode cX10_hangsOnNext 14 = .ok (.iload 4, 2) := by decide +kernel
theorem dX10_hangsOnNext_16 : decode cX10_hangsOnNext 16 = .ok (.ifCond .ne 36, 3) := by decide +kernel
theorem dX10_hangsOnNext_19 : decode cX10_hangsOnNext 19 = .ok (.aload_n 0, 1) := by decide +kernel
theorem dX10_hangsOnNext_20 : decode cX10_hangsOnNext 20 = .ok (.getfield 62, 3) := by decide +kernel
theorem dX10_hangsOnNext_23 : decode cX10_hangsOnNext 23 = .ok (.sipush 256, 3) := by decide +kernel
theorem dX10_hangsOnNext_26 : decode cX10_hangsOnNext 26 = .ok (.iload_n 1, 1) := by decide +kernel
theorem dX10_hangsOnNext_27 : decode cX10_hangsOnNext 27 = .ok (.imul, 1) := by decide +kernel
theorem dX10_hangsOnNext_28 : decode cX10_hangsOnNext 28 = .ok (.iload 5, 2) := by decide +kernel
theorem dX10_hangsOnNext_30 : decode cX10_hangsOnNext 30 = .ok (.iadd, 1) := by decide +kernel
theorem dX10_hangsOnNext_31 : decode cX10_hangsOnNext 31 = .ok (.baload, 1) := by decide +kernel
theorem dX10_hangsOnNext_32 : decode cX10_hangsOnNext 32 = .ok (.aload_n 0, 1) := by decide +kernel
theorem dX10_hangsOnNext_33 : decode cX10_hangsOnNext 33 = .ok (.getfield 62, 3) := by decide +kernel
theorem dX10_hangsOnNext_36 : decode cX10_hangsOnNext 36 = .ok (.sipush 256, 3) := by decide +kernel
theorem dX10_hangsOnNext_39 : decode cX10_hangsOnNext 39 = .ok (.iload_n 1, 1) := by decide +kernel
theorem dX10_hangsOnNext_40 : decode cX10_hangsOnNext 40 = .ok (.imul, 1) := by decide +kernel
theorem dX10_hangsOnNext_41 : decode cX10_hangsOnNext 41 = .ok (.iload 5, 2) := by decide +kernel
theorem dX10_hangsOnNext_43 : decode cX10_hangsOnNext 43 = .ok (.iconst 1, 1) := by decide +kernel
theorem dX10_hangsOnNext_44 : decode cX10_hangsOnNext 44 = .ok (.iload_n 2, 1) := by decide +kernel
theorem dX10_hangsOnNext_45 : decode cX10_hangsOnNext 45 = .ok (.ishl, 1) := by decide +kernel
theorem dX10_hangsOnNext_46 : decode cX10_hangsOnNext 46 = .ok (.ixor, 1) := by decide +kernel
theorem dX10_hangsOnNext_47 : decode cX10_hangsOnNext 47 = .ok (.iadd, 1) := by decide +kernel
theorem dX10_hangsOnNext_48 : decode cX10_hangsOnNext 48 = .ok (.baload, 1) := by decide +kernel
theorem dX10_hangsOnNext_49 : decode cX10_hangsOnNext 49 = .ok (.if_icmp .eq 7, 3) := by decide +kernel
theorem dX10_hangsOnNext_52 : decode cX10_hangsOnNext 52 = .ok (.iconst 1, 1) := by decide +kernel
theorem dX10_hangsOnNext_53 : decode cX10_hangsOnNext 53 = .ok (.goto 4, 3) := by decide +kernel
theorem dX10_hangsOnNext_56 : decode cX10_hangsOnNext 56 = .ok (.iconst 0, 1) := by decide +kernel
theorem dX10_hangsOnNext_57 : decode cX10_hangsOnNext 57 = .ok (.istore 4, 2) := by decide +kernel
theorem dX10_hangsOnNext_59 : decode cX10_hangsOnNext 59 = .ok (.iload 5, 2) := by decide +kernel
theorem dX10_hangsOnNext_61 : decode cX10_hangsOnNext 61 = .ok (.iconst 1, 1) := by decide +kernel
theorem dX10_hangsOnNext_62 : decode cX10_hangsOnNext 62 = .ok (.iload_n 2, 1) := by decide +kernel
theorem dX10_hangsOnNext_63 : decode cX10_hangsOnNext 63 = .ok (.ishl, 1) := by decide +kernel
theorem dX10_hangsOnNext_64 : decode cX10_hangsOnNext 64 = .ok (.iadd, 1) := by decide +kernel
theorem dX10_hangsOnNext_65 : decode cX10_hangsOnNext 65 = .ok (.istore 5, 2) := by decide +kernel
theorem dX10_hangsOnNext_67 : decode cX10_hangsOnNext 67 = .ok (.goto (-61), 3) := by decide +kernel
theorem dX10_hangsOnNext_70 : decode cX10_hangsOnNext 70 = .ok (.iload 4, 2) := by decide +kernel
theorem dX10_hangsOnNext_72 : decode cX10_hangsOnNext 72 = .ok (.ireturn, 1) := by decide +kernel
theorem dX10_isLeftAlike_0 : decode cX10_isLeftAlike 0 = .ok (.iconst 1, 1) := by decide +kernel
theorem dX10_isLeftAlike_1 : decode cX10_isLeftAlike 1 = .ok (.istore 5, 2) := by decide +kernel
theorem dX10_isLeftAlike_3 : decode cX10_isLeftAlike 3 = .ok (.iconst 0, 1) := by decide +kernel
theorem dX10_isLeftAlike_4 : decode cX10_isLeftAlike 4 = .ok (.istore 6, 2) := by decide +kernel
theorem dX10_isLeftAlike_6 : decode cX10_isLeftAlike 6 = .ok (.iload 6, 2) := by decide +kernel
theorem dX10_isLeftAlike_8 : decode cX10_isLeftAlike 8 = .ok (.sipush 256, 3) := by decide +kernel
theorem dX10_isLeftAlike_11 : decode cX10_isLeftAlike 11 = .ok (.if_icmp .ge 60, 3) := by decide +kernel
theorem dX10_isLeftAlike_14 : decode cX10_isLeftAlike 14 = .ok (.iload 5, 2) := by decide +kernel
theorem dX10_isLeftAlike_16 : decode cX10_isLeftAlike 16 = .ok (.ifCond .eq 55, 3) := by decide +kernel
theorem dX10_isLeftAlike_19 : decode cX10_isLeftAlike 19 = .ok (.aload_n 0, 1) := by decide +kernel
theorem dX10_isLeftAlike_20 : decode cX10_isLeftAlike 20 = .ok (.getfield 62, 3) := by decide +kernel
theorem dX10_isLeftAlike_23 : decode cX10_isLeftAlike 23 = .ok (.sipush 256, 3) := by decide +kernel
theorem dX10_isLeftAlike_26 : decode cX10_isLeftAlike 26 = .ok (.iload_n 1, 1) := by decide +kernel
theorem dX10_isLeftAlike_27 : decode cX10_isLeftAlike 27 = .ok (.imul, 1) := by decide +kernel
theorem dX10_isLeftAlike_28 : decode cX10_isLeftAlike 28 = .ok (.iload_n 3, 1) := by decide +kernel
theorem dX10_isLeftAlike_29 : decode cX10_isLeftAlike 29 = .ok (.iadd, 1) := by decide +kernel
theorem dX10_isLeftAlike_30 : decode cX10_isLeftAlike 30 = .ok (.iload 6, 2) := by decide +kernel
theorem dX10_isLeftAlike_32 : decode cX10_isLeftAlike 32 = .ok (.iadd, 1) := by decide +kernel
theorem dX10_isLeftAlike_33 : decode cX10_isLeftAlike 33 = .ok (.baload, 1) := by decide +kernel
theorem dX10_isLeftAlike_34 : decode cX10_isLeftAlike 34 = .ok (.aload_n 0, 1) := by decide +kernel
theorem dX10_isLeftAlike_35 : decode cX10_isLeftAlike 35 = .ok (.getfield 62, 3) := by decide +kernel
theorem dX10_isLeftAlike_38 : decode cX10_isLeftAlike 38 = .ok (.sipush 256, 3) := by decide +kernel
theorem dX10_isLeftAlike_41 : decode cX10_isLeftAlike 41 = .ok (.iload_n 1, 1) := by decide +kernel
theorem dX10_isLeftAlike_42 : decode cX10_isLeftAlike 42 = .ok (.imul, 1) := by decide +kernel
theorem dX10_isLeftAlike_43 : decode cX10_isLeftAlike 43 = .ok (.iload 4, 2) := by decide +kernel
theorem dX10_isLeftAlike_45 : decode cX10_isLeftAlike 45 = .ok (.iadd, 1) := by decide +kernel
theorem dX10_isLeftAlike_46 : decode cX10_isLeftAlike 46 = .ok (.iload 6, 2) := by decide +kernel
theorem dX10_isLeftAlike_48 : decode cX10_isLeftAlike 48 = .ok (.iadd, 1) := by decide +kernel
theorem dX10_isLeftAlike_49 : decode cX10_isLeftAlike 49 = .ok (.baload, 1) := by decide +kernel
theorem dX10_isLeftAlike_50 : decode cX10_isLeftAlike 50 = .ok (.if_icmp .ne 7, 3) := by decide +kernel
theorem dX10_isLeftAlike_53 : decode cX10_isLeftAlike 53 = .ok (.iconst 1, 1) := by decide +kernel
theorem dX10_isLeftAlike_54 : decode cX10_isLeftAlike 54 = .ok (.goto 4, 3) := by decide +kernel
theorem dX10_isLeftAlike_57 : decode cX10_isLeftAlike 57 = .ok (.iconst 0, 1) := by decide +kernel
theorem dX10_isLeftAlike_58 : decode cX10_isLeftAlike 58 = .ok (.istore 5, 2) := by decide +kernel
theorem dX10_isLeftAlike_60 : decode cX10_isLeftAlike 60 = .ok (.iload 6, 2) := by decide +kernel
theorem dX10_isLeftAlike_62 : decode cX10_isLeftAlike 62 = .ok (.iconst 1, 1) := by decide +kernel
theorem dX10_isLeftAlike_63 : decode cX10_isLeftAlike 63 = .ok (.iload_n 2, 1) := by decide +kernel
theorem dX10_isLeftAlike_64 : decode cX10_isLeftAlike 64 = .ok (.ishl, 1) := by decide +kernel
theorem dX10_isLeftAlike_65 : decode cX10_isLeftAlike 65 = .ok (.iadd, 1) := by decide +kernel
theorem dX10_isLeftAlike_66 : decode cX10_isLeftAlike 66 = .ok (.istore 6, 2) := by decide +kernel
theorem dX10_isLeftAlike_68 : decode cX10_isLeftAlike 68 = .ok (.goto (-62), 3) := by decide +kernel
theorem dX10_isLeftAlike_71 : decode cX10_isLeftAlike 71 = .ok (.iload 5, 2) := by decide +kernel
theorem dX10_isLeftAlike_73 : decode cX10_isLeftAlike 73 = .ok (.ireturn, 1) := by decide +kernel
set_option maxRecDepth 20000 in
theorem ggX10_parts_X10_hangsOnNext : GoodIn wsX10_parts wsX10_hangsOnNext := goodIn_r _ [5, 6, 11, 12, 13, 14, 15, 16, 17, 18, 19, 20, 21, 22, 23, 24, 25, 26, 27, 28, 29, 30, 31, 32, 33, 34, 35, 36, 37, 38, 39, 40, 41, 42, 43, 44, 45, 46, 47, 48] (by decide +kernel) (by decide +kernel)
set_option maxRecDepth 20000 in
theorem gX10_parts_X10_hangsOnNext : GoodIn wsX10_parts (wsV RX10 250 RX10 yX10_hangsOnNext wsX10_hangsOnNext) := goodIn_app (goodIn_of _ (by decide +kernel)) ggX10_parts_X10_hangsOnNext
set_option maxRecDepth 20000 in
theorem ggX10_parts_X10_isLeftAlike : GoodIn wsX10_parts wsX10_isLeftAlike := goodIn_r _ [10, 6, 11, 12, 13, 14, 15, 16, 17, 18, 19, 20, 21, 22, 23, 24, 25, 26, 27, 28, 29, 30, 31, 32, 33, 34, 35, 36, 37, 38, 39, 40, 41, 42, 43, 44, 45, 46, 47, 48] (by decide +kernel) (by decide +kernel)
set_option maxRecDepth 20000 in
theorem gX10_parts_X10_isLeftAlike : GoodIn wsX10_parts (wsV RX10 253 RX10 yX10_isLeftAlike wsX10_isLeftAlike) := goodIn_app (goodIn_of _ (by decide +kernel)) ggX10_parts_X10_isLeftAlike
theorem dX10_parts_0 : decode cX10_parts 0 = .ok (.iconst 0, 1) := by decide +kernel
theorem dX10_parts_1 : decode cX10_parts 1 = .ok (.istore_n 2, 1) := by decide +kernel
theorem dX10_parts_2 : decode cX10_parts 2 = .ok (.iconst 0, 1) := by decide +kernel
theorem dX10_parts_3 : decode cX10_parts 3 = .ok (.istore_n 3, 1) := by decide +kernel
theorem dX10_parts_4 : decode cX10_parts 4 = .ok (.iload_n 3, 1) := by decide +kernel
theorem dX10_parts_5 : decode cX10_parts 5 = .ok (.bipush 8, 2) := by decide +kernel
theorem dX10_parts_7 : decode cX10_parts 7 = .ok (.if_icmp .ge 90, 3) := by decide +kernel
theorem dX10_parts_10 : decode cX10_parts 10 = .ok (.iconst 0, 1) := by decide +kernel
theorem dX10_parts_11 : decode cX10_parts 11 = .ok (.istore 4, 2) := by decide +kernel
theorem dX10_parts_13 : decode cX10_parts 13 = .ok (.iload 4, 2) := by decide +kernel
theorem dX10_parts_15 : decode cX10_parts 15 = .ok (.iconst 1, 1) := by decide +kernel
theorem dX10_parts_16 : decode cX10_parts 16 = .ok (.iload_n 3, 1) := by decide +kernel
theorem dX10_parts_17 : decode cX10_parts 17 = .ok (.ishl, 1) := by decide +kernel
theorem dX10_parts_18 : decode cX10_parts 18 = .ok (.if_icmp .ge 73, 3) := by decide +kernel
theorem dX10_parts_21 : decode cX10_parts 21 = .ok (.aload_n 0, 1) := by decide +kernel
theorem dX10_parts_22 : decode cX10_parts 22 = .ok (.iload_n 1, 1) := by decide +kernel
theorem dX10_parts_23 : decode cX10_parts 23 = .ok (.iload_n 3, 1) := by decide +kernel
theorem dX10_parts_24 : decode cX10_parts 24 = .ok (.iload 4, 2) := by decide +kernel
theorem dX10_parts_26 : decode cX10_parts 26 = .ok (.invokevirtual 250, 3) := by decide +kernel
theorem dX10_parts_29 : decode cX10_parts 29 = .ok (.istore 5, 2) := by decide +kernel
theorem dX10_parts_31 : decode cX10_parts 31 = .ok (.iconst 0, 1) := by decide +kernel
theorem dX10_parts_32 : decode cX10_parts 32 = .ok (.istore 6, 2) := by decide +kernel
theorem dX10_parts_34 : decode cX10_parts 34 = .ok (.iload 6, 2) := by decide +kernel
theorem dX10_parts_36 : decode cX10_parts 36 = .ok (.iload 4, 2) := by decide +kernel
theorem dX10_parts_38 : decode cX10_parts 38 = .ok (.if_icmp .ge 34, 3) := by decide +kernel
theorem dX10_parts_41 : decode cX10_parts 41 = .ok (.iload 5, 2) := by decide +kernel
theorem dX10_parts_43 : decode cX10_parts 43 = .ok (.ifCond .eq 29, 3) := by decide +kernel
theorem dX10_parts_46 : decode cX10_parts 46 = .ok (.aload_n 0, 1) := by decide +kernel
theorem dX10_parts_47 : decode cX10_parts 47 = .ok (.iload_n 1, 1) := by decide +kernel
theorem dX10_parts_48 : decode cX10_parts 48 = .ok (.iload_n 3, 1) := by decide +kernel
theorem dX10_parts_49 : decode cX10_parts 49 = .ok (.iload 4, 2) := by decide +kernel
theorem dX10_parts_51 : decode cX10_parts 51 = .ok (.iload 6, 2) := by decide +kernel
theorem dX10_parts_53 : decode cX10_parts 53 = .ok (.invokevirtual 253, 3) := by decide +kernel
theorem dX10_parts_56 : decode cX10_parts 56 = .ok (.ifCond .ne 7, 3) := by decide +kernel
theorem dX10_parts_59 : decode cX10_parts 59 = .ok (.iconst 1, 1) := by decide +kernel
theorem dX10_parts_60 : decode cX10_parts 60 = .ok (.goto 4, 3) := by decide +kernel
theorem dX10_parts_63 : decode cX10_parts 63 = .ok (.iconst 0, 1) := by decide +kernel
theorem dX10_parts_64 : decode cX10_parts 64 = .ok (.istore 5, 2) := by decide +kernel
theorem dX10_parts_66 : decode cX10_parts 66 = .ok (.iinc 6 1, 3) := by decide +kernel
theorem dX10_parts_69 : decode cX10_parts 69 = .ok (.goto (-35), 3) := by decide +kernel
theorem dX10_parts_72 : decode cX10_parts 72 = .ok (.iload_n 2, 1) := by decide +kernel
theorem dX10_parts_73 : decode cX10_parts 73 = .ok (.iload 5, 2) := by decide +kernel
theorem dX10_parts_75 : decode cX10_parts 75 = .ok (.ifCond .eq 7, 3) := by decide +kernel
theorem dX10_parts_78 : decode cX10_parts 78 = .ok (.iconst 1, 1) := by decide +kernel
theorem dX10_parts_79 : decode cX10_parts 79 = .ok (.goto 4, 3) := by decide +kernel
theorem dX10_parts_82 : decode cX10_parts 82 = .ok (.iconst 0, 1) := by decide +kernel
theorem dX10_parts_83 : decode cX10_parts 83 = .ok (.iadd, 1) := by decide +kernel
theorem dX10_parts_84 : decode cX10_parts 84 = .ok (.istore_n 2, 1) := by decide +kernel
theorem dX10_parts_85 : decode cX10_parts 85 = .ok (.iinc 4 1, 3) := by decide +kernel
theorem dX10_parts_88 : decode cX10_parts 88 = .ok (.goto (-75), 3) := by decide +kernel
theorem dX10_parts_91 : decode cX10_parts 91 = .ok (.iinc 3 1, 3) := by decide +kernel
theorem dX10_parts_94 : decode cX10_parts 94 = .ok (.goto (-90), 3) := by decide +kernel
theorem dX10_parts_97 : decode cX10_parts 97 = .ok (.iload_n 2, 1) := by decide +kernel
theorem dX10_parts_98 : decode cX10_parts 98 = .ok (.ireturn, 1) := by decide +kernel
set_option maxRecDepth 20000 in
theorem ggX10_about_X10_isStep : GoodIn wsX10_about wsX10_isStep := goodIn_r _ [8, 9, 10, 11, 7, 12, 71, 72, 73, 74, 75, 76, 77, 78, 79, 80, 81, 82, 83, 84, 85, 86, 87, 88, 89, 90, 91, 92, 93, 94, 95, 96, 97, 98, 99, 100, 101, 102, 103, 104, 105, 106, 107, 108] (by decide +kernel) (by decide +kernel)
set_option maxRecDepth 20000 in
theorem gX10_about_X10_isStep : GoodIn wsX10_about (wsV RX10 201 RX10 yX10_isStep wsX10_isStep) := goodIn_app (goodIn_of _ (by decide +kernel)) ggX10_about_X10_isStep
set_option maxRecDepth 20000 in
theorem ggX10_about_X10_isSystem : GoodIn wsX10_about wsX10_isSystem := goodIn_r _ [15, 2, 10, 11, 7, 12] (by decide +kernel) (by decide +kernel)
set_option maxRecDepth 20000 in
theorem gX10_about_X10_isSystem : GoodIn wsX10_about (va_wsS RX10 243 yX10_isSystem wsX10_isSystem) := goodIn_app (goodIn_of _ (by decide +kernel)) ggX10_about_X10_isSystem
set_option maxRecDepth 20000 in
theorem ggX10_about_X10_in : GoodIn wsX10_about wsX10_in := goodIn_r _ [12] (by decide +kernel) (by decide +kernel)
set_option maxRecDepth 20000 in
theorem gX10_about_X10_in : GoodIn wsX10_about (va_wsS RX10 96 yX10_in wsX10_in) := goodIn_app (goodIn_of _ (by decide +kernel)) ggX10_about_X10_in
set_option maxRecDepth 20000 in
theorem ggX10_about_X10_laySentences : GoodIn wsX10_about wsX10_laySentences := goodIn_r _ [19, 20, 21, 22, 23, 24, 25, 7, 26, 27, 28, 29, 30, 31, 32, 33, 34, 35, 36, 37, 38, 39, 40, 41, 42, 43, 44, 45, 46, 47, 48, 49, 50, 71, 72, 73, 74, 75, 76, 77, 78, 79, 80, 81, 82, 83, 84, 85, 86, 87, 88, 89, 90, 91, 92, 93, 94, 95, 96, 97, 98, 99, 100, 101, 102, 103, 104, 105, 106, 107, 108] (by decide +kernel) (by decide +kernel)
set_option maxRecDepth 20000 in
theorem gX10_about_X10_laySentences : GoodIn wsX10_about (wsV RX10 246 RX10 yX10_laySentences wsX10_laySentences) := goodIn_app (goodIn_of _ (by decide +kernel)) ggX10_about_X10_laySentences
set_option maxRecDepth 20000 in
theorem ggX10_about_X10_worldsSo : GoodIn wsX10_about wsX10_worldsSo := goodIn_r _ [54, 22, 71, 72, 73, 74, 75, 76, 77, 78, 79, 80, 81, 82, 83, 84, 85, 86, 87, 88, 89, 90, 91, 92, 93, 94, 95, 96, 97, 98, 99, 100, 101, 102, 103, 104, 105, 106, 107, 108] (by decide +kernel) (by decide +kernel)
set_option maxRecDepth 20000 in
theorem gX10_about_X10_worldsSo : GoodIn wsX10_about (wsV RX10 256 RX10 yX10_worldsSo wsX10_worldsSo) := goodIn_app (goodIn_of _ (by decide +kernel)) ggX10_about_X10_worldsSo
set_option maxRecDepth 20000 in
theorem ggX10_about_X10_speaksOf : GoodIn wsX10_about wsX10_speaksOf := goodIn_r _ [58, 22, 71, 72, 73, 74, 75, 76, 77, 78, 79, 80, 81, 82, 83, 84, 85, 86, 87, 88, 89, 90, 91, 92, 93, 94, 95, 96, 97, 98, 99, 100, 101, 102, 103, 104, 105, 106, 107, 108] (by decide +kernel) (by decide +kernel)
set_option maxRecDepth 20000 in
theorem gX10_about_X10_speaksOf : GoodIn wsX10_about (wsV RX10 259 RX10 yX10_speaksOf wsX10_speaksOf) := goodIn_app (goodIn_of _ (by decide +kernel)) ggX10_about_X10_speaksOf
set_option maxRecDepth 20000 in
theorem ggX10_about_X10_parts : GoodIn wsX10_about wsX10_parts := goodIn_r _ [62, 63, 64, 65, 7, 66, 22, 67, 68, 69, 70, 71, 72, 73, 74, 75, 76, 77, 78, 79, 80, 81, 82, 83, 84, 85, 86, 87, 88, 89, 90, 91, 92, 93, 94, 95, 96, 97, 98, 99, 100, 101, 102, 103, 104, 105, 106, 107, 108] (by decide +kernel) (by decide +kernel)
set_option maxRecDepth 20000 in
theorem gX10_about_X10_parts : GoodIn wsX10_about (wsV RX10 262 RX10 yX10_parts wsX10_parts) := goodIn_app (goodIn_of _ (by decide +kernel)) ggX10_about_X10_parts
theorem dX10_about_0 : decode cX10_about 0 = .ok (.aload_n 0, 1) := by decide +kernel
theorem dX10_about_1 : decode cX10_about 1 = .ok (.iload_n 2, 1) := by decide +kernel
theorem dX10_about_2 : decode cX10_about 2 = .ok (.invokevirtual 201, 3) := by decide +kernel
theorem dX10_about_5 : decode cX10_about 5 = .ok (.ifCond .ne 6, 3) := by decide +kernel
theorem dX10_about_8 : decode cX10_about 8 = .ok (.ldc 173, 2) := by decide +kernel
theorem dX10_about_10 : decode cX10_about 10 = .ok (.ireturn, 1) := by decide +kernel
theorem dX10_about_11 : decode cX10_about 11 = .ok (.iload_n 1, 1) := by decide +kernel
theorem dX10_about_12 : decode cX10_about 12 = .ok (.invokestatic 243, 3) := by decide +kernel
theorem dX10_about_15 : decode cX10_about 15 = .ok (.ifCond .eq 15, 3) := by decide +kernel
theorem dX10_about_18 : decode cX10_about 18 = .ok (.iload_n 3, 1) := by decide +kernel
theorem dX10_about_19 : decode cX10_about 19 = .ok (.i2l, 1) := by decide +kernel
theorem dX10_about_20 : decode cX10_about 20 = .ok (.lconst 0, 1) := by decide +kernel
theorem dX10_about_21 : decode cX10_about 21 = .ok (.ldc2_w 241, 3) := by decide +kernel
theorem dX10_about_24 : decode cX10_about 24 = .ok (.invokestatic 96, 3) := by decide +kernel
theorem dX10_about_27 : decode cX10_about 27 = .ok (.ifCond .ne 6, 3) := by decide +kernel
theorem dX10_about_30 : decode cX10_about 30 = .ok (.ldc 104, 2) := by decide +kernel
theorem dX10_about_32 : decode cX10_about 32 = .ok (.ireturn, 1) := by decide +kernel
theorem dX10_about_33 : decode cX10_about 33 = .ok (.aload_n 0, 1) := by decide +kernel
theorem dX10_about_34 : decode cX10_about 34 = .ok (.iload_n 1, 1) := by decide +kernel
theorem dX10_about_35 : decode cX10_about 35 = .ok (.iload_n 2, 1) := by decide +kernel
theorem dX10_about_36 : decode cX10_about 36 = .ok (.invokevirtual 246, 3) := by decide +kernel
theorem dX10_about_39 : decode cX10_about 39 = .ok (.iload_n 3, 1) := by decide +kernel
theorem dX10_about_40 : decode cX10_about 40 = .ok (.ifCond .ne 11, 3) := by decide +kernel
theorem dX10_about_43 : decode cX10_about 43 = .ok (.aload_n 0, 1) := by decide +kernel
theorem dX10_about_44 : decode cX10_about 44 = .ok (.iload_n 2, 1) := by decide +kernel
theorem dX10_about_45 : decode cX10_about 45 = .ok (.invokevirtual 256, 3) := by decide +kernel
theorem dX10_about_48 : decode cX10_about 48 = .ok (.goto 21, 3) := by decide +kernel
theorem dX10_about_51 : decode cX10_about 51 = .ok (.iload_n 3, 1) := by decide +kernel
theorem dX10_about_52 : decode cX10_about 52 = .ok (.iconst 1, 1) := by decide +kernel
theorem dX10_about_53 : decode cX10_about 53 = .ok (.if_icmp .ne 11, 3) := by decide +kernel
theorem dX10_about_56 : decode cX10_about 56 = .ok (.aload_n 0, 1) := by decide +kernel
theorem dX10_about_57 : decode cX10_about 57 = .ok (.iload_n 2, 1) := by decide +kernel
theorem dX10_about_58 : decode cX10_about 58 = .ok (.invokevirtual 259, 3) := by decide +kernel
theorem dX10_about_61 : decode cX10_about 61 = .ok (.goto 8, 3) := by decide +kernel
theorem dX10_about_64 : decode cX10_about 64 = .ok (.aload_n 0, 1) := by decide +kernel
theorem dX10_about_65 : decode cX10_about 65 = .ok (.iload_n 2, 1) := by decide +kernel
theorem dX10_about_66 : decode cX10_about 66 = .ok (.invokevirtual 262, 3) := by decide +kernel
theorem dX10_about_69 : decode cX10_about 69 = .ok (.ireturn, 1) := by decide +kernel
set_option maxRecDepth 20000 in
theorem ggX10_between_X10_isSystem : GoodIn wsX10_between wsX10_isSystem := goodIn_r _ [7, 8, 9, 10, 6, 11] (by decide +kernel) (by decide +kernel)
set_option maxRecDepth 20000 in
theorem gX10_between_X10_isSystem : GoodIn wsX10_between (va_wsS RX10 243 yX10_isSystem wsX10_isSystem) := goodIn_app (goodIn_of _ (by decide +kernel)) ggX10_between_X10_isSystem
set_option maxRecDepth 20000 in
theorem ggX10_between_X10_firstEmpty : GoodIn wsX10_between wsX10_firstEmpty := goodIn_r _ [15, 16, 17, 18, 67, 68, 69, 70, 71, 72, 73, 74, 75, 76, 77, 78, 79, 80, 81, 82, 83, 84, 85, 86, 87, 88, 89, 90, 91, 92, 93, 94, 95, 96, 97, 98, 99, 100, 101, 102, 103, 104] (by decide +kernel) (by decide +kernel)
set_option maxRecDepth 20000 in
theorem gX10_between_X10_firstEmpty : GoodIn wsX10_between (wsV RX10 186 RX10 yX10_firstEmpty wsX10_firstEmpty) := goodIn_app (goodIn_of _ (by decide +kernel)) ggX10_between_X10_firstEmpty
set_option maxRecDepth 20000 in
theorem ggX10_between_X10_laySentences : GoodIn wsX10_between wsX10_laySentences := goodIn_r _ [22, 23, 24, 3, 25, 26, 27, 6, 28, 29, 30, 31, 32, 33, 17, 18, 34, 35, 36, 37, 38, 39, 40, 41, 42, 43, 44, 45, 46, 47, 48, 49, 50, 67, 68, 69, 70, 71, 72, 73, 74, 75, 76, 77, 78, 79, 80, 81, 82, 83, 84, 85, 86, 87, 88, 89, 90, 91, 92, 93, 94, 95, 96, 97, 98, 99, 100, 101, 102, 103, 104] (by decide +kernel) (by decide +kernel)
set_option maxRecDepth 20000 in
theorem gX10_between_X10_laySentences : GoodIn wsX10_between (wsV RX10 246 RX10 yX10_laySentences wsX10_laySentences) := goodIn_app (goodIn_of _ (by decide +kernel)) ggX10_between_X10_laySentences
set_option maxRecDepth 20000 in
theorem ggX10_between_X10_clausesOf : GoodIn wsX10_between wsX10_clausesOf := goodIn_r _ [54, 23, 33, 67, 68, 69, 70, 71, 72, 73, 74, 75, 76, 77, 78, 79, 80, 81, 82, 83, 84, 85, 86, 87, 88, 89, 90, 91, 92, 93, 94, 95, 96, 97, 98, 99, 100, 101, 102, 103, 104] (by decide +kernel) (by decide +kernel)
set_option maxRecDepth 20000 in
theorem gX10_between_X10_clausesOf : GoodIn wsX10_between (wsV RX10 192 RX10 yX10_clausesOf wsX10_clausesOf) := goodIn_app (goodIn_of _ (by decide +kernel)) ggX10_between_X10_clausesOf
set_option maxRecDepth 20000 in
theorem ggX10_between_X10_allHold : GoodIn wsX10_between wsX10_allHold := goodIn_r _ [58, 23, 34, 35, 6, 36, 59, 60, 61, 62, 17, 18, 67, 68, 69, 70, 71, 72, 73, 74, 75, 76, 77, 78, 79, 80, 81, 82, 83, 84, 85, 86, 87, 88, 89, 90, 91, 92, 93, 94, 95, 96, 97, 98, 99, 100, 101, 102, 103, 104] (by decide +kernel) (by decide +kernel)
set_option maxRecDepth 20000 in
theorem gX10_between_X10_allHold : GoodIn wsX10_between (wsV RX10 177 RX10 yX10_allHold wsX10_allHold) := goodIn_app (goodIn_of _ (by decide +kernel)) ggX10_between_X10_allHold
set_option maxRecDepth 20000 in
theorem ggX10_between_X10_speaksOf : GoodIn wsX10_between wsX10_speaksOf := goodIn_r _ [66, 3, 67, 68, 69, 70, 71, 72, 73, 74, 75, 76, 77, 78, 79, 80, 81, 82, 83, 84, 85, 86, 87, 88, 89, 90, 91, 92, 93, 94, 95, 96, 97, 98, 99, 100, 101, 102, 103, 104] (by decide +kernel) (by decide +kernel)
set_option maxRecDepth 20000 in
theorem gX10_between_X10_speaksOf : GoodIn wsX10_between (wsV RX10 259 RX10 yX10_speaksOf wsX10_speaksOf) := goodIn_app (goodIn_of _ (by decide +kernel)) ggX10_between_X10_speaksOf
set_option maxRecDepth 20000 in
theorem ggX10_between_X10_shared : GoodIn wsX10_between wsX10_shared := goodIn_r _ [44, 29, 30, 31, 6, 32, 23, 33, 17, 18, 67, 68, 69, 70, 71, 72, 73, 74, 75, 76, 77, 78, 79, 80, 81, 82, 83, 84, 85, 86, 87, 88, 89, 90, 91, 92, 93, 94, 95, 96, 97, 98, 99, 100, 101, 102, 103, 104] (by decide +kernel) (by decide +kernel)
set_option maxRecDepth 20000 in
theorem gX10_between_X10_shared : GoodIn wsX10_between (wsV RX10 189 RX10 yX10_shared wsX10_shared) := goodIn_app (goodIn_of _ (by decide +kernel)) ggX10_between_X10_shared
theorem dX10_between_0 : decode cX10_between 0 = .ok (.iload_n 1, 1) := by decide +kernel
theorem dX10_between_1 : decode cX10_between 1 = .ok (.invokestatic 243, 3) := by decide +kernel
theorem dX10_between_4 : decode cX10_between 4 = .ok (.ifCond .ne 6, 3) := by decide +kernel
theorem dX10_between_7 : decode cX10_between 7 = .ok (.ldc 104, 2) := by decide +kernel
theorem dX10_between_9 : decode cX10_between 9 = .ok (.ireturn, 1) := by decide +kernel
theorem dX10_between_10 : decode cX10_between 10 = .ok (.aload_n 0, 1) := by decide +kernel
theorem dX10_between_11 : decode cX10_between 11 = .ok (.invokevirtual 186, 3) := by decide +kernel
theorem dX10_between_14 : decode cX10_between 14 = .ok (.istore_n 2, 1) := by decide +kernel
theorem dX10_between_15 : decode cX10_between 15 = .ok (.iload_n 2, 1) := by decide +kernel
theorem dX10_between_16 : decode cX10_between 16 = .ok (.ifCond .ge 6, 3) := by decide +kernel
theorem dX10_between_19 : decode cX10_between 19 = .ok (.ldc 211, 2) := by decide +kernel
theorem dX10_between_21 : decode cX10_between 21 = .ok (.ireturn, 1) := by decide +kernel
theorem dX10_between_22 : decode cX10_between 22 = .ok (.aload_n 0, 1) := by decide +kernel
theorem dX10_between_23 : decode cX10_between 23 = .ok (.iload_n 1, 1) := by decide +kernel
theorem dX10_between_24 : decode cX10_between 24 = .ok (.iload_n 2, 1) := by decide +kernel
theorem dX10_between_25 : decode cX10_between 25 = .ok (.invokevirtual 246, 3) := by decide +kernel
theorem dX10_between_28 : decode cX10_between 28 = .ok (.iconst 3, 1) := by decide +kernel
theorem dX10_between_29 : decode cX10_between 29 = .ok (.istore_n 3, 1) := by decide +kernel
theorem dX10_between_30 : decode cX10_between 30 = .ok (.iconst 0, 1) := by decide +kernel
theorem dX10_between_31 : decode cX10_between 31 = .ok (.istore 4, 2) := by decide +kernel
theorem dX10_between_33 : decode cX10_between 33 = .ok (.iload 4, 2) := by decide +kernel
theorem dX10_between_35 : decode cX10_between 35 = .ok (.sipush 256, 3) := by decide +kernel
theorem dX10_between_38 : decode cX10_between 38 = .ok (.if_icmp .ge 80, 3) := by decide +kernel
theorem dX10_between_41 : decode cX10_between 41 = .ok (.aload_n 0, 1) := by decide +kernel
theorem dX10_between_42 : decode cX10_between 42 = .ok (.getfield 62, 3) := by decide +kernel
theorem dX10_between_45 : decode cX10_between 45 = .ok (.sipush 256, 3) := by decide +kernel
theorem dX10_between_48 : decode cX10_between 48 = .ok (.iload_n 2, 1) := by decide +kernel
theorem dX10_between_49 : decode cX10_between 49 = .ok (.imul, 1) := by decide +kernel
theorem dX10_between_50 : decode cX10_between 50 = .ok (.iload 4, 2) := by decide +kernel
theorem dX10_between_52 : decode cX10_between 52 = .ok (.iadd, 1) := by decide +kernel
theorem dX10_between_53 : decode cX10_between 53 = .ok (.baload, 1) := by decide +kernel
theorem dX10_between_54 : decode cX10_between 54 = .ok (.istore 5, 2) := by decide +kernel
theorem dX10_between_56 : decode cX10_between 56 = .ok (.iload_n 3, 1) := by decide +kernel
theorem dX10_between_57 : decode cX10_between 57 = .ok (.iload 5, 2) := by decide +kernel
theorem dX10_between_59 : decode cX10_between 59 = .ok (.ifCond .ne 22, 3) := by decide +kernel
theorem dX10_between_62 : decode cX10_between 62 = .ok (.aload_n 0, 1) := by decide +kernel
theorem dX10_between_63 : decode cX10_between 63 = .ok (.aload_n 0, 1) := by decide +kernel
theorem dX10_between_64 : decode cX10_between 64 = .ok (.iconst 0, 1) := by decide +kernel
theorem dX10_between_65 : decode cX10_between 65 = .ok (.invokevirtual 192, 3) := by decide +kernel
theorem dX10_between_68 : decode cX10_between 68 = .ok (.iload 4, 2) := by decide +kernel
theorem dX10_between_70 : decode cX10_between 70 = .ok (.invokevirtual 177, 3) := by decide +kernel
theorem dX10_between_73 : decode cX10_between 73 = .ok (.ifCond .eq 8, 3) := by decide +kernel
theorem dX10_between_76 : decode cX10_between 76 = .ok (.bipush (-2), 2) := by decide +kernel
theorem dX10_between_78 : decode cX10_between 78 = .ok (.goto 4, 3) := by decide +kernel
theorem dX10_between_81 : decode cX10_between 81 = .ok (.iconst (-1), 1) := by decide +kernel
theorem dX10_between_82 : decode cX10_between 82 = .ok (.iand, 1) := by decide +kernel
theorem dX10_between_83 : decode cX10_between 83 = .ok (.istore_n 3, 1) := by decide +kernel
theorem dX10_between_84 : decode cX10_between 84 = .ok (.iload_n 3, 1) := by decide +kernel
theorem dX10_between_85 : decode cX10_between 85 = .ok (.iload 5, 2) := by decide +kernel
theorem dX10_between_87 : decode cX10_between 87 = .ok (.ifCond .eq 22, 3) := by decide +kernel
theorem dX10_between_90 : decode cX10_between 90 = .ok (.aload_n 0, 1) := by decide +kernel
theorem dX10_between_91 : decode cX10_between 91 = .ok (.aload_n 0, 1) := by decide +kernel
theorem dX10_between_92 : decode cX10_between 92 = .ok (.iconst 1, 1) := by decide +kernel
theorem dX10_between_93 : decode cX10_between 93 = .ok (.invokevirtual 192, 3) := by decide +kernel
theorem dX10_between_96 : decode cX10_between 96 = .ok (.iload 4, 2) := by decide +kernel
theorem dX10_between_98 : decode cX10_between 98 = .ok (.invokevirtual 177, 3) := by decide +kernel
theorem dX10_between_101 : decode cX10_between 101 = .ok (.ifCond .eq 8, 3) := by decide +kernel
theorem dX10_between_104 : decode cX10_between 104 = .ok (.bipush (-3), 2) := by decide +kernel
theorem dX10_between_106 : decode cX10_between 106 = .ok (.goto 4, 3) := by decide +kernel
theorem dX10_between_109 : decode cX10_between 109 = .ok (.iconst (-1), 1) := by decide +kernel
theorem dX10_between_110 : decode cX10_between 110 = .ok (.iand, 1) := by decide +kernel
theorem dX10_between_111 : decode cX10_between 111 = .ok (.istore_n 3, 1) := by decide +kernel
theorem dX10_between_112 : decode cX10_between 112 = .ok (.iinc 4 1, 3) := by decide +kernel
theorem dX10_between_115 : decode cX10_between 115 = .ok (.goto (-82), 3) := by decide +kernel
theorem dX10_between_118 : decode cX10_between 118 = .ok (.iload_n 3, 1) := by decide +kernel
theorem dX10_between_119 : decode cX10_between 119 = .ok (.aload_n 0, 1) := by decide +kernel
theorem dX10_between_120 : decode cX10_between 120 = .ok (.iload_n 2, 1) := by decide +kernel
theorem dX10_between_121 : decode cX10_between 121 = .ok (.invokevirtual 259, 3) := by decide +kernel
theorem dX10_between_124 : decode cX10_between 124 = .ok (.aload_n 0, 1) := by decide +kernel
theorem dX10_between_125 : decode cX10_between 125 = .ok (.invokevirtual 189, 3) := by decide +kernel
theorem dX10_between_128 : decode cX10_between 128 = .ok (.iconst (-1), 1) := by decide +kernel
theorem dX10_between_129 : decode cX10_between 129 = .ok (.ixor, 1) := by decide +kernel
theorem dX10_between_130 : decode cX10_between 130 = .ok (.iand, 1) := by decide +kernel
theorem dX10_between_131 : decode cX10_between 131 = .ok (.ifCond .ne 7, 3) := by decide +kernel
theorem dX10_between_134 : decode cX10_between 134 = .ok (.iconst 4, 1) := by decide +kernel
theorem dX10_between_135 : decode cX10_between 135 = .ok (.goto 4, 3) := by decide +kernel
theorem dX10_between_138 : decode cX10_between 138 = .ok (.iconst 0, 1) := by decide +kernel
theorem dX10_between_139 : decode cX10_between 139 = .ok (.ior, 1) := by decide +kernel
theorem dX10_between_140 : decode cX10_between 140 = .ok (.ireturn, 1) := by decide +kernel
set_option maxRecDepth 20000 in
theorem ggX10_saysMore_X10_isStep : GoodIn wsX10_saysMore wsX10_isStep := goodIn_r _ [9, 10, 11, 12, 8, 13, 52, 53, 54, 55, 56, 57, 58, 59, 60, 61, 62, 63, 64, 65, 66, 67, 68, 69, 70, 71, 72, 73, 74, 75, 76, 77, 78, 79, 80, 81, 82, 83, 84, 85, 86, 87, 88, 89] (by decide +kernel) (by decide +kernel)
set_option maxRecDepth 20000 in
theorem gX10_saysMore_X10_isStep : GoodIn wsX10_saysMore (wsV RX10 201 RX10 yX10_isStep wsX10_isStep) := goodIn_app (goodIn_of _ (by decide +kernel)) ggX10_saysMore_X10_isStep
set_option maxRecDepth 20000 in
theorem ggX10_saysMore_X10_isSystem : GoodIn wsX10_saysMore wsX10_isSystem := goodIn_r _ [16, 17, 11, 12, 8, 13] (by decide +kernel) (by decide +kernel)
set_option maxRecDepth 20000 in
theorem gX10_saysMore_X10_isSystem : GoodIn wsX10_saysMore (va_wsS RX10 243 yX10_isSystem wsX10_isSystem) := goodIn_app (goodIn_of _ (by decide +kernel)) ggX10_saysMore_X10_isSystem
set_option maxRecDepth 20000 in
theorem ggX10_saysMore_X10_laySentences : GoodIn wsX10_saysMore wsX10_laySentences := goodIn_r _ [21, 22, 23, 4, 24, 25, 26, 8, 27, 28, 29, 30, 31, 32, 33, 34, 35, 36, 37, 38, 39, 40, 41, 42, 43, 44, 45, 46, 47, 48, 49, 50, 51, 52, 53, 54, 55, 56, 57, 58, 59, 60, 61, 62, 63, 64, 65, 66, 67, 68, 69, 70, 71, 72, 73, 74, 75, 76, 77, 78, 79, 80, 81, 82, 83, 84, 85, 86, 87, 88, 89] (by decide +kernel) (by decide +kernel)
set_option maxRecDepth 20000 in
theorem gX10_saysMore_X10_laySentences : GoodIn wsX10_saysMore (wsV RX10 246 RX10 yX10_laySentences wsX10_laySentences) := goodIn_app (goodIn_of _ (by decide +kernel)) ggX10_saysMore_X10_laySentences
theorem dX10_saysMore_0 : decode cX10_saysMore 0 = .ok (.aload_n 0, 1) := by decide +kernel
theorem dX10_saysMore_1 : decode cX10_saysMore 1 = .ok (.iload_n 1, 1) := by decide +kernel
theorem dX10_saysMore_2 : decode cX10_saysMore 2 = .ok (.invokevirtual 201, 3) := by decide +kernel
theorem dX10_saysMore_5 : decode cX10_saysMore 5 = .ok (.ifCond .ne 6, 3) := by decide +kernel
theorem dX10_saysMore_8 : decode cX10_saysMore 8 = .ok (.ldc 173, 2) := by decide +kernel
theorem dX10_saysMore_10 : decode cX10_saysMore 10 = .ok (.ireturn, 1) := by decide +kernel
theorem dX10_saysMore_11 : decode cX10_saysMore 11 = .ok (.iload_n 2, 1) := by decide +kernel
theorem dX10_saysMore_12 : decode cX10_saysMore 12 = .ok (.invokestatic 243, 3) := by decide +kernel
theorem dX10_saysMore_15 : decode cX10_saysMore 15 = .ok (.ifCond .eq 10, 3) := by decide +kernel
theorem dX10_saysMore_18 : decode cX10_saysMore 18 = .ok (.iload_n 3, 1) := by decide +kernel
theorem dX10_saysMore_19 : decode cX10_saysMore 19 = .ok (.invokestatic 243, 3) := by decide +kernel
theorem dX10_saysMore_22 : decode cX10_saysMore 22 = .ok (.ifCond .ne 6, 3) := by decide +kernel
theorem dX10_saysMore_25 : decode cX10_saysMore 25 = .ok (.ldc 104, 2) := by decide +kernel
theorem dX10_saysMore_27 : decode cX10_saysMore 27 = .ok (.ireturn, 1) := by decide +kernel
theorem dX10_saysMore_28 : decode cX10_saysMore 28 = .ok (.aload_n 0, 1) := by decide +kernel
theorem dX10_saysMore_29 : decode cX10_saysMore 29 = .ok (.iload_n 3, 1) := by decide +kernel
theorem dX10_saysMore_30 : decode cX10_saysMore 30 = .ok (.iload_n 1, 1) := by decide +kernel
theorem dX10_saysMore_31 : decode cX10_saysMore 31 = .ok (.invokevirtual 246, 3) := by decide +kernel
theorem dX10_saysMore_34 : decode cX10_saysMore 34 = .ok (.iconst 0, 1) := by decide +kernel
theorem dX10_saysMore_35 : decode cX10_saysMore 35 = .ok (.istore 4, 2) := by decide +kernel
theorem dX10_saysMore_37 : decode cX10_saysMore 37 = .ok (.iload 4, 2) := by decide +kernel
theorem dX10_saysMore_39 : decode cX10_saysMore 39 = .ok (.sipush 256, 3) := by decide +kernel
theorem dX10_saysMore_42 : decode cX10_saysMore 42 = .ok (.if_icmp .ge 29, 3) := by decide +kernel
theorem dX10_saysMore_45 : decode cX10_saysMore 45 = .ok (.aload_n 0, 1) := by decide +kernel
theorem dX10_saysMore_46 : decode cX10_saysMore 46 = .ok (.getfield 66, 3) := by decide +kernel
theorem dX10_saysMore_49 : decode cX10_saysMore 49 = .ok (.iload 4, 2) := by decide +kernel
theorem dX10_saysMore_51 : decode cX10_saysMore 51 = .ok (.aload_n 0, 1) := by decide +kernel
theorem dX10_saysMore_52 : decode cX10_saysMore 52 = .ok (.getfield 62, 3) := by decide +kernel
theorem dX10_saysMore_55 : decode cX10_saysMore 55 = .ok (.sipush 256, 3) := by decide +kernel
theorem dX10_saysMore_58 : decode cX10_saysMore 58 = .ok (.iload_n 1, 1) := by decide +kernel
theorem dX10_saysMore_59 : decode cX10_saysMore 59 = .ok (.imul, 1) := by decide +kernel
theorem dX10_saysMore_60 : decode cX10_saysMore 60 = .ok (.iload 4, 2) := by decide +kernel
theorem dX10_saysMore_62 : decode cX10_saysMore 62 = .ok (.iadd, 1) := by decide +kernel
theorem dX10_saysMore_63 : decode cX10_saysMore 63 = .ok (.baload, 1) := by decide +kernel
theorem dX10_saysMore_64 : decode cX10_saysMore 64 = .ok (.bastore, 1) := by decide +kernel
theorem dX10_saysMore_65 : decode cX10_saysMore 65 = .ok (.iinc 4 1, 3) := by decide +kernel
theorem dX10_saysMore_68 : decode cX10_saysMore 68 = .ok (.goto (-31), 3) := by decide +kernel
theorem dX10_saysMore_71 : decode cX10_saysMore 71 = .ok (.aload_n 0, 1) := by decide +kernel
theorem dX10_saysMore_72 : decode cX10_saysMore 72 = .ok (.iload_n 2, 1) := by decide +kernel
theorem dX10_saysMore_73 : decode cX10_saysMore 73 = .ok (.iload_n 1, 1) := by decide +kernel
theorem dX10_saysMore_74 : decode cX10_saysMore 74 = .ok (.invokevirtual 246, 3) := by decide +kernel
theorem dX10_saysMore_77 : decode cX10_saysMore 77 = .ok (.iconst 1, 1) := by decide +kernel
theorem dX10_saysMore_78 : decode cX10_saysMore 78 = .ok (.istore 4, 2) := by decide +kernel
theorem dX10_saysMore_80 : decode cX10_saysMore 80 = .ok (.iconst 0, 1) := by decide +kernel
theorem dX10_saysMore_81 : decode cX10_saysMore 81 = .ok (.istore 5, 2) := by decide +kernel
theorem dX10_saysMore_83 : decode cX10_saysMore 83 = .ok (.iload 5, 2) := by decide +kernel
theorem dX10_saysMore_85 : decode cX10_saysMore 85 = .ok (.sipush 256, 3) := by decide +kernel
theorem dX10_saysMore_88 : decode cX10_saysMore 88 = .ok (.if_icmp .ge 47, 3) := by decide +kernel
theorem dX10_saysMore_91 : decode cX10_saysMore 91 = .ok (.iload 4, 2) := by decide +kernel
theorem dX10_saysMore_93 : decode cX10_saysMore 93 = .ok (.ifCond .eq 33, 3) := by decide +kernel
theorem dX10_saysMore_96 : decode cX10_saysMore 96 = .ok (.aload_n 0, 1) := by decide +kernel
theorem dX10_saysMore_97 : decode cX10_saysMore 97 = .ok (.getfield 62, 3) := by decide +kernel
theorem dX10_saysMore_100 : decode cX10_saysMore 100 = .ok (.sipush 256, 3) := by decide +kernel
theorem dX10_saysMore_103 : decode cX10_saysMore 103 = .ok (.iload_n 1, 1) := by decide +kernel
theorem dX10_saysMore_104 : decode cX10_saysMore 104 = .ok (.imul, 1) := by decide +kernel
theorem dX10_saysMore_105 : decode cX10_saysMore 105 = .ok (.iload 5, 2) := by decide +kernel
theorem dX10_saysMore_107 : decode cX10_saysMore 107 = .ok (.iadd, 1) := by decide +kernel
theorem dX10_saysMore_108 : decode cX10_saysMore 108 = .ok (.baload, 1) := by decide +kernel
theorem dX10_saysMore_109 : decode cX10_saysMore 109 = .ok (.ifCond .eq 13, 3) := by decide +kernel
theorem dX10_saysMore_112 : decode cX10_saysMore 112 = .ok (.aload_n 0, 1) := by decide +kernel
theorem dX10_saysMore_113 : decode cX10_saysMore 113 = .ok (.getfield 66, 3) := by decide +kernel
theorem dX10_saysMore_116 : decode cX10_saysMore 116 = .ok (.iload 5, 2) := by decide +kernel
theorem dX10_saysMore_118 : decode cX10_saysMore 118 = .ok (.baload, 1) := by decide +kernel
theorem dX10_saysMore_119 : decode cX10_saysMore 119 = .ok (.ifCond .eq 7, 3) := by decide +kernel
theorem dX10_saysMore_122 : decode cX10_saysMore 122 = .ok (.iconst 1, 1) := by decide +kernel
theorem dX10_saysMore_123 : decode cX10_saysMore 123 = .ok (.goto 4, 3) := by decide +kernel
theorem dX10_saysMore_126 : decode cX10_saysMore 126 = .ok (.iconst 0, 1) := by decide +kernel
theorem dX10_saysMore_127 : decode cX10_saysMore 127 = .ok (.istore 4, 2) := by decide +kernel
theorem dX10_saysMore_129 : decode cX10_saysMore 129 = .ok (.iinc 5 1, 3) := by decide +kernel
theorem dX10_saysMore_132 : decode cX10_saysMore 132 = .ok (.goto (-49), 3) := by decide +kernel
theorem dX10_saysMore_135 : decode cX10_saysMore 135 = .ok (.iload 4, 2) := by decide +kernel
theorem dX10_saysMore_137 : decode cX10_saysMore 137 = .ok (.ifCond .eq 7, 3) := by decide +kernel
theorem dX10_saysMore_140 : decode cX10_saysMore 140 = .ok (.iconst 1, 1) := by decide +kernel
theorem dX10_saysMore_141 : decode cX10_saysMore 141 = .ok (.goto 4, 3) := by decide +kernel
theorem dX10_saysMore_144 : decode cX10_saysMore 144 = .ok (.iconst 0, 1) := by decide +kernel
theorem dX10_saysMore_145 : decode cX10_saysMore 145 = .ok (.ireturn, 1) := by decide +kernel
set_option maxRecDepth 20000 in
theorem ggX10_needless_X10_firstEmpty : GoodIn wsX10_needless wsX10_firstEmpty := goodIn_r _ [11, 2, 12, 13, 14, 15, 16, 17, 18, 19, 20, 21, 22, 23, 24, 25, 26, 27, 28, 29, 30, 31, 32, 33, 34, 35, 36, 37, 38, 39, 40, 41, 42, 43, 44, 45, 46, 47, 48, 49, 50, 51] (by decide +kernel) (by decide +kernel)
set_option maxRecDepth 20000 in
theorem gX10_needless_X10_firstEmpty : GoodIn wsX10_needless (wsV RX10 186 RX10 yX10_firstEmpty wsX10_firstEmpty) := goodIn_app (goodIn_of _ (by decide +kernel)) ggX10_needless_X10_firstEmpty
theorem dX10_needless_0 : decode cX10_needless 0 = .ok (.aload_n 0, 1) := by decide +kernel
theorem dX10_needless_1 : decode cX10_needless 1 = .ok (.invokevirtual 186, 3) := by decide +kernel
theorem dX10_needless_4 : decode cX10_needless 4 = .ok (.istore_n 1, 1) := by decide +kernel
theorem dX10_needless_5 : decode cX10_needless 5 = .ok (.iload_n 1, 1) := by decide +kernel
theorem dX10_needless_6 : decode cX10_needless 6 = .ok (.ifCond .ge 6, 3) := by decide +kernel
theorem dX10_needless_9 : decode cX10_needless 9 = .ok (.ldc 211, 2) := by decide +kernel
theorem dX10_needless_11 : decode cX10_needless 11 = .ok (.ireturn, 1) := by decide +kernel
theorem dX10_needless_12 : decode cX10_needless 12 = .ok (.iconst 0, 1) := by decide +kernel
theorem dX10_needless_13 : decode cX10_needless 13 = .ok (.istore_n 2, 1) := by decide +kernel
theorem dX10_needless_14 : decode cX10_needless 14 = .ok (.iload_n 2, 1) := by decide +kernel
theorem dX10_needless_15 : decode cX10_needless 15 = .ok (.aload_n 0, 1) := by decide +kernel
theorem dX10_needless_16 : decode cX10_needless 16 = .ok (.getfield 93, 3) := by decide +kernel
theorem dX10_needless_19 : decode cX10_needless 19 = .ok (.if_icmp .ge 25, 3) := by decide +kernel
theorem dX10_needless_22 : decode cX10_needless 22 = .ok (.aload_n 0, 1) := by decide +kernel
theorem dX10_needless_23 : decode cX10_needless 23 = .ok (.getfield 69, 3) := by decide +kernel
theorem dX10_needless_26 : decode cX10_needless 26 = .ok (.iload_n 2, 1) := by decide +kernel
theorem dX10_needless_27 : decode cX10_needless 27 = .ok (.iload_n 2, 1) := by decide +kernel
theorem dX10_needless_28 : decode cX10_needless 28 = .ok (.iload_n 1, 1) := by decide +kernel
theorem dX10_needless_29 : decode cX10_needless 29 = .ok (.if_icmp .ne 7, 3) := by decide +kernel
theorem dX10_needless_32 : decode cX10_needless 32 = .ok (.iconst 1, 1) := by decide +kernel
theorem dX10_needless_33 : decode cX10_needless 33 = .ok (.goto 4, 3) := by decide +kernel
theorem dX10_needless_36 : decode cX10_needless 36 = .ok (.iconst 0, 1) := by decide +kernel
theorem dX10_needless_37 : decode cX10_needless 37 = .ok (.bastore, 1) := by decide +kernel
theorem dX10_needless_38 : decode cX10_needless 38 = .ok (.iinc 2 1, 3) := by decide +kernel
theorem dX10_needless_41 : decode cX10_needless 41 = .ok (.goto (-27), 3) := by decide +kernel
theorem dX10_needless_44 : decode cX10_needless 44 = .ok (.iload_n 1, 1) := by decide +kernel
theorem dX10_needless_45 : decode cX10_needless 45 = .ok (.istore_n 2, 1) := by decide +kernel
theorem dX10_needless_46 : decode cX10_needless 46 = .ok (.iload_n 2, 1) := by decide +kernel
theorem dX10_needless_47 : decode cX10_needless 47 = .ok (.aload_n 0, 1) := by decide +kernel
theorem dX10_needless_48 : decode cX10_needless 48 = .ok (.getfield 153, 3) := by decide +kernel
theorem dX10_needless_51 : decode cX10_needless 51 = .ok (.if_icmp .lt 42, 3) := by decide +kernel
theorem dX10_needless_54 : decode cX10_needless 54 = .ok (.aload_n 0, 1) := by decide +kernel
theorem dX10_needless_55 : decode cX10_needless 55 = .ok (.getfield 69, 3) := by decide +kernel
theorem dX10_needless_58 : decode cX10_needless 58 = .ok (.iload_n 2, 1) := by decide +kernel
theorem dX10_needless_59 : decode cX10_needless 59 = .ok (.baload, 1) := by decide +kernel
theorem dX10_needless_60 : decode cX10_needless 60 = .ok (.ifCond .eq 27, 3) := by decide +kernel
theorem dX10_needless_63 : decode cX10_needless 63 = .ok (.aload_n 0, 1) := by decide +kernel
theorem dX10_needless_64 : decode cX10_needless 64 = .ok (.getfield 69, 3) := by decide +kernel
theorem dX10_needless_67 : decode cX10_needless 67 = .ok (.aload_n 0, 1) := by decide +kernel
theorem dX10_needless_68 : decode cX10_needless 68 = .ok (.getfield 19, 3) := by decide +kernel
theorem dX10_needless_71 : decode cX10_needless 71 = .ok (.iload_n 2, 1) := by decide +kernel
theorem dX10_needless_72 : decode cX10_needless 72 = .ok (.iaload, 1) := by decide +kernel
theorem dX10_needless_73 : decode cX10_needless 73 = .ok (.iconst 1, 1) := by decide +kernel
theorem dX10_needless_74 : decode cX10_needless 74 = .ok (.bastore, 1) := by decide +kernel
theorem dX10_needless_75 : decode cX10_needless 75 = .ok (.aload_n 0, 1) := by decide +kernel
theorem dX10_needless_76 : decode cX10_needless 76 = .ok (.getfield 69, 3) := by decide +kernel
theorem dX10_needless_79 : decode cX10_needless 79 = .ok (.aload_n 0, 1) := by decide +kernel
theorem dX10_needless_80 : decode cX10_needless 80 = .ok (.getfield 22, 3) := by decide +kernel
theorem dX10_needless_83 : decode cX10_needless 83 = .ok (.iload_n 2, 1) := by decide +kernel
theorem dX10_needless_84 : decode cX10_needless 84 = .ok (.iaload, 1) := by decide +kernel
theorem dX10_needless_85 : decode cX10_needless 85 = .ok (.iconst 1, 1) := by decide +kernel
theorem dX10_needless_86 : decode cX10_needless 86 = .ok (.bastore, 1) := by decide +kernel
theorem dX10_needless_87 : decode cX10_needless 87 = .ok (.iinc 2 (-1), 3) := by decide +kernel
theorem dX10_needless_90 : decode cX10_needless 90 = .ok (.goto (-44), 3) := by decide +kernel
theorem dX10_needless_93 : decode cX10_needless 93 = .ok (.iconst 0, 1) := by decide +kernel
theorem dX10_needless_94 : decode cX10_needless 94 = .ok (.istore_n 2, 1) := by decide +kernel
theorem dX10_needless_95 : decode cX10_needless 95 = .ok (.aload_n 0, 1) := by decide +kernel
theorem dX10_needless_96 : decode cX10_needless 96 = .ok (.getfield 153, 3) := by decide +kernel
theorem dX10_needless_99 : decode cX10_needless 99 = .ok (.istore_n 3, 1) := by decide +kernel
theorem dX10_needless_100 : decode cX10_needless 100 = .ok (.iload_n 3, 1) := by decide +kernel
theorem dX10_needless_101 : decode cX10_needless 101 = .ok (.aload_n 0, 1) := by decide +kernel
theorem dX10_needless_102 : decode cX10_needless 102 = .ok (.getfield 93, 3) := by decide +kernel
theorem dX10_needless_105 : decode cX10_needless 105 = .ok (.if_icmp .ge 26, 3) := by decide +kernel
theorem dX10_needless_108 : decode cX10_needless 108 = .ok (.iload_n 2, 1) := by decide +kernel
theorem dX10_needless_109 : decode cX10_needless 109 = .ok (.aload_n 0, 1) := by decide +kernel
theorem dX10_needless_110 : decode cX10_needless 110 = .ok (.getfield 69, 3) := by decide +kernel
theorem dX10_needless_113 : decode cX10_needless 113 = .ok (.iload_n 3, 1) := by decide +kernel
theorem dX10_needless_114 : decode cX10_needless 114 = .ok (.baload, 1) := by decide +kernel
theorem dX10_needless_115 : decode cX10_needless 115 = .ok (.ifCond .eq 7, 3) := by decide +kernel
theorem dX10_needless_118 : decode cX10_needless 118 = .ok (.iconst 0, 1) := by decide +kernel
theorem dX10_needless_119 : decode cX10_needless 119 = .ok (.goto 4, 3) := by decide +kernel
theorem dX10_needless_122 : decode cX10_needless 122 = .ok (.iconst 1, 1) := by decide +kernel
theorem dX10_needless_123 : decode cX10_needless 123 = .ok (.iadd, 1) := by decide +kernel
theorem dX10_needless_124 : decode cX10_needless 124 = .ok (.istore_n 2, 1) := by decide +kernel
theorem dX10_needless_125 : decode cX10_needless 125 = .ok (.iinc 3 1, 3) := by decide +kernel
theorem dX10_needless_128 : decode cX10_needless 128 = .ok (.goto (-28), 3) := by decide +kernel
theorem dX10_needless_131 : decode cX10_needless 131 = .ok (.iload_n 2, 1) := by decide +kernel
theorem dX10_needless_132 : decode cX10_needless 132 = .ok (.ireturn, 1) := by decide +kernel
set_option maxRecDepth 20000 in
theorem ggX10_isNumber_X10_in : GoodIn wsX10_isNumber wsX10_in := goodIn_r _ [6] (by decide +kernel) (by decide +kernel)
set_option maxRecDepth 20000 in
theorem gX10_isNumber_X10_in : GoodIn wsX10_isNumber (va_wsS RX10 96 yX10_in wsX10_in) := goodIn_app (goodIn_of _ (by decide +kernel)) ggX10_isNumber_X10_in
theorem dX10_isNumber_0 : decode cX10_isNumber 0 = .ok (.iload_n 0, 1) := by decide +kernel
theorem dX10_isNumber_1 : decode cX10_isNumber 1 = .ok (.i2l, 1) := by decide +kernel
theorem dX10_isNumber_2 : decode cX10_isNumber 2 = .ok (.ldc2_w 265, 3) := by decide +kernel
theorem dX10_isNumber_5 : decode cX10_isNumber 5 = .ok (.ldc2_w 267, 3) := by decide +kernel
theorem dX10_isNumber_8 : decode cX10_isNumber 8 = .ok (.invokestatic 96, 3) := by decide +kernel
theorem dX10_isNumber_11 : decode cX10_isNumber 11 = .ok (.ireturn, 1) := by decide +kernel
set_option maxRecDepth 20000 in
theorem ggX10_sum_X10_isNumber : GoodIn wsX10_sum wsX10_isNumber := goodIn_r _ [13, 14, 15, 16, 17, 12, 18] (by decide +kernel) (by decide +kernel)
set_option maxRecDepth 20000 in
theorem gX10_sum_X10_isNumber : GoodIn wsX10_sum (va_wsS RX10 269 yX10_isNumber wsX10_isNumber) := goodIn_app (goodIn_of _ (by decide +kernel)) ggX10_sum_X10_isNumber
set_option maxRecDepth 20000 in
theorem ggX10_sum_X10_in : GoodIn wsX10_sum wsX10_in := goodIn_r _ [18] (by decide +kernel) (by decide +kernel)
set_option maxRecDepth 20000 in
theorem gX10_sum_X10_in : GoodIn wsX10_sum (va_wsS RX10 96 yX10_in wsX10_in) := goodIn_app (goodIn_of _ (by decide +kernel)) ggX10_sum_X10_in
theorem dX10_sum_0 : decode cX10_sum 0 = .ok (.iload_n 2, 1) := by decide +kernel
theorem dX10_sum_1 : decode cX10_sum 1 = .ok (.invokestatic 269, 3) := by decide +kernel
theorem dX10_sum_4 : decode cX10_sum 4 = .ok (.ifCond .eq 30, 3) := by decide +kernel
theorem dX10_sum_7 : decode cX10_sum 7 = .ok (.iload_n 3, 1) := by decide +kernel
theorem dX10_sum_8 : decode cX10_sum 8 = .ok (.invokestatic 269, 3) := by decide +kernel
theorem dX10_sum_11 : decode cX10_sum 11 = .ok (.ifCond .eq 23, 3) := by decide +kernel
theorem dX10_sum_14 : decode cX10_sum 14 = .ok (.iload 4, 2) := by decide +kernel
theorem dX10_sum_16 : decode cX10_sum 16 = .ok (.invokestatic 269, 3) := by decide +kernel
theorem dX10_sum_19 : decode cX10_sum 19 = .ok (.ifCond .eq 15, 3) := by decide +kernel
theorem dX10_sum_22 : decode cX10_sum 22 = .ok (.iload 5, 2) := by decide +kernel
theorem dX10_sum_24 : decode cX10_sum 24 = .ok (.invokestatic 269, 3) := by decide +kernel
theorem dX10_sum_27 : decode cX10_sum 27 = .ok (.ifCond .eq 7, 3) := by decide +kernel
theorem dX10_sum_30 : decode cX10_sum 30 = .ok (.iconst 1, 1) := by decide +kernel
theorem dX10_sum_31 : decode cX10_sum 31 = .ok (.goto 4, 3) := by decide +kernel
theorem dX10_sum_34 : decode cX10_sum 34 = .ok (.iconst 0, 1) := by decide +kernel
theorem dX10_sum_35 : decode cX10_sum 35 = .ok (.istore 7, 2) := by decide +kernel
theorem dX10_sum_37 : decode cX10_sum 37 = .ok (.iload_n 1, 1) := by decide +kernel
theorem dX10_sum_38 : decode cX10_sum 38 = .ok (.i2l, 1) := by decide +kernel
theorem dX10_sum_39 : decode cX10_sum 39 = .ok (.lconst 0, 1) := by decide +kernel
theorem dX10_sum_40 : decode cX10_sum 40 = .ok (.lconst 1, 1) := by decide +kernel
theorem dX10_sum_41 : decode cX10_sum 41 = .ok (.invokestatic 96, 3) := by decide +kernel
theorem dX10_sum_44 : decode cX10_sum 44 = .ok (.ifCond .eq 23, 3) := by decide +kernel
theorem dX10_sum_47 : decode cX10_sum 47 = .ok (.iload 7, 2) := by decide +kernel
theorem dX10_sum_49 : decode cX10_sum 49 = .ok (.ifCond .eq 18, 3) := by decide +kernel
theorem dX10_sum_52 : decode cX10_sum 52 = .ok (.iload 6, 2) := by decide +kernel
theorem dX10_sum_54 : decode cX10_sum 54 = .ok (.i2l, 1) := by decide +kernel
theorem dX10_sum_55 : decode cX10_sum 55 = .ok (.ldc2_w 272, 3) := by decide +kernel
theorem dX10_sum_58 : decode cX10_sum 58 = .ok (.ldc2_w 274, 3) := by decide +kernel
theorem dX10_sum_61 : decode cX10_sum 61 = .ok (.invokestatic 96, 3) := by decide +kernel
theorem dX10_sum_64 : decode cX10_sum 64 = .ok (.ifCond .ne 6, 3) := by decide +kernel
theorem dX10_sum_67 : decode cX10_sum 67 = .ok (.ldc 104, 2) := by decide +kernel
theorem dX10_sum_69 : decode cX10_sum 69 = .ok (.ireturn, 1) := by decide +kernel
theorem dX10_sum_70 : decode cX10_sum 70 = .ok (.aload_n 0, 1) := by decide +kernel
theorem dX10_sum_71 : decode cX10_sum 71 = .ok (.getfield 198, 3) := by decide +kernel
theorem dX10_sum_74 : decode cX10_sum 74 = .ok (.bipush 8, 2) := by decide +kernel
theorem dX10_sum_76 : decode cX10_sum 76 = .ok (.if_icmp .ne 6, 3) := by decide +kernel
theorem dX10_sum_79 : decode cX10_sum 79 = .ok (.ldc 108, 2) := by decide +kernel
theorem dX10_sum_81 : decode cX10_sum 81 = .ok (.ireturn, 1) := by decide +kernel
theorem dX10_sum_82 : decode cX10_sum 82 = .ok (.aload_n 0, 1) := by decide +kernel
theorem dX10_sum_83 : decode cX10_sum 83 = .ok (.getfield 72, 3) := by decide +kernel
theorem dX10_sum_86 : decode cX10_sum 86 = .ok (.aload_n 0, 1) := by decide +kernel
theorem dX10_sum_87 : decode cX10_sum 87 = .ok (.getfield 198, 3) := by decide +kernel
theorem dX10_sum_90 : decode cX10_sum 90 = .ok (.iload_n 1, 1) := by decide +kernel
theorem dX10_sum_91 : decode cX10_sum 91 = .ok (.iastore, 1) := by decide +kernel
theorem dX10_sum_92 : decode cX10_sum 92 = .ok (.aload_n 0, 1) := by decide +kernel
theorem dX10_sum_93 : decode cX10_sum 93 = .ok (.getfield 75, 3) := by decide +kernel
theorem dX10_sum_96 : decode cX10_sum 96 = .ok (.iconst 4, 1) := by decide +kernel
theorem dX10_sum_97 : decode cX10_sum 97 = .ok (.aload_n 0, 1) := by decide +kernel
theorem dX10_sum_98 : decode cX10_sum 98 = .ok (.getfield 198, 3) := by decide +kernel
theorem dX10_sum_101 : decode cX10_sum 101 = .ok (.imul, 1) := by decide +kernel
theorem dX10_sum_102 : decode cX10_sum 102 = .ok (.iload_n 2, 1) := by decide +kernel
theorem dX10_sum_103 : decode cX10_sum 103 = .ok (.iastore, 1) := by decide +kernel
theorem dX10_sum_104 : decode cX10_sum 104 = .ok (.aload_n 0, 1) := by decide +kernel
theorem dX10_sum_105 : decode cX10_sum 105 = .ok (.getfield 75, 3) := by decide +kernel
theorem dX10_sum_108 : decode cX10_sum 108 = .ok (.iconst 4, 1) := by decide +kernel
theorem dX10_sum_109 : decode cX10_sum 109 = .ok (.aload_n 0, 1) := by decide +kernel
theorem dX10_sum_110 : decode cX10_sum 110 = .ok (.getfield 198, 3) := by decide +kernel
theorem dX10_sum_113 : decode cX10_sum 113 = .ok (.imul, 1) := by decide +kernel
theorem dX10_sum_114 : decode cX10_sum 114 = .ok (.iconst 1, 1) := by decide +kernel
theorem dX10_sum_115 : decode cX10_sum 115 = .ok (.iadd, 1) := by decide +kernel
theorem dX10_sum_116 : decode cX10_sum 116 = .ok (.iload_n 3, 1) := by decide +kernel
theorem dX10_sum_117 : decode cX10_sum 117 = .ok (.iastore, 1) := by decide +kernel
theorem dX10_sum_118 : decode cX10_sum 118 = .ok (.aload_n 0, 1) := by decide +kernel
theorem dX10_sum_119 : decode cX10_sum 119 = .ok (.getfield 75, 3) := by decide +kernel
theorem dX10_sum_122 : decode cX10_sum 122 = .ok (.iconst 4, 1) := by decide +kernel
theorem dX10_sum_123 : decode cX10_sum 123 = .ok (.aload_n 0, 1) := by decide +kernel
theorem dX10_sum_124 : decode cX10_sum 124 = .ok (.getfield 198, 3) := by decide +kernel
theorem dX10_sum_127 : decode cX10_sum 127 = .ok (.imul, 1) := by decide +kernel
theorem dX10_sum_128 : decode cX10_sum 128 = .ok (.iconst 2, 1) := by decide +kernel
theorem dX10_sum_129 : decode cX10_sum 129 = .ok (.iadd, 1) := by decide +kernel
theorem dX10_sum_130 : decode cX10_sum 130 = .ok (.iload 4, 2) := by decide +kernel
theorem dX10_sum_132 : decode cX10_sum 132 = .ok (.iastore, 1) := by decide +kernel
theorem dX10_sum_133 : decode cX10_sum 133 = .ok (.aload_n 0, 1) := by decide +kernel
theorem dX10_sum_134 : decode cX10_sum 134 = .ok (.getfield 75, 3) := by decide +kernel
theorem dX10_sum_137 : decode cX10_sum 137 = .ok (.iconst 4, 1) := by decide +kernel
theorem dX10_sum_138 : decode cX10_sum 138 = .ok (.aload_n 0, 1) := by decide +kernel
theorem dX10_sum_139 : decode cX10_sum 139 = .ok (.getfield 198, 3) := by decide +kernel
theorem dX10_sum_142 : decode cX10_sum 142 = .ok (.imul, 1) := by decide +kernel
theorem dX10_sum_143 : decode cX10_sum 143 = .ok (.iconst 3, 1) := by decide +kernel
theorem dX10_sum_144 : decode cX10_sum 144 = .ok (.iadd, 1) := by decide +kernel
theorem dX10_sum_145 : decode cX10_sum 145 = .ok (.iload 5, 2) := by decide +kernel
theorem dX10_sum_147 : decode cX10_sum 147 = .ok (.iastore, 1) := by decide +kernel
theorem dX10_sum_148 : decode cX10_sum 148 = .ok (.aload_n 0, 1) := by decide +kernel
theorem dX10_sum_149 : decode cX10_sum 149 = .ok (.getfield 78, 3) := by decide +kernel
theorem dX10_sum_152 : decode cX10_sum 152 = .ok (.aload_n 0, 1) := by decide +kernel
theorem dX10_sum_153 : decode cX10_sum 153 = .ok (.getfield 198, 3) := by decide +kernel
theorem dX10_sum_156 : decode cX10_sum 156 = .ok (.iload 6, 2) := by decide +kernel
theorem dX10_sum_158 : decode cX10_sum 158 = .ok (.iastore, 1) := by decide +kernel
theorem dX10_sum_159 : decode cX10_sum 159 = .ok (.aload_n 0, 1) := by decide +kernel
theorem dX10_sum_160 : decode cX10_sum 160 = .ok (.getfield 81, 3) := by decide +kernel
theorem dX10_sum_163 : decode cX10_sum 163 = .ok (.aload_n 0, 1) := by decide +kernel
theorem dX10_sum_164 : decode cX10_sum 164 = .ok (.getfield 198, 3) := by decide +kernel
theorem dX10_sum_167 : decode cX10_sum 167 = .ok (.iconst 0, 1) := by decide +kernel
theorem dX10_sum_168 : decode cX10_sum 168 = .ok (.iastore, 1) := by decide +kernel
theorem dX10_sum_169 : decode cX10_sum 169 = .ok (.aload_n 0, 1) := by decide +kernel
theorem dX10_sum_170 : decode cX10_sum 170 = .ok (.dup, 1) := by decide +kernel
theorem dX10_sum_171 : decode cX10_sum 171 = .ok (.getfield 198, 3) := by decide +kernel
theorem dX10_sum_174 : decode cX10_sum 174 = .ok (.iconst 1, 1) := by decide +kernel
theorem dX10_sum_175 : decode cX10_sum 175 = .ok (.iadd, 1) := by decide +kernel
theorem dX10_sum_176 : decode cX10_sum 176 = .ok (.putfield 198, 3) := by decide +kernel
theorem dX10_sum_179 : decode cX10_sum 179 = .ok (.aload_n 0, 1) := by decide +kernel
theorem dX10_sum_180 : decode cX10_sum 180 = .ok (.getfield 198, 3) := by decide +kernel
theorem dX10_sum_183 : decode cX10_sum 183 = .ok (.iconst 1, 1) := by decide +kernel
theorem dX10_sum_184 : decode cX10_sum 184 = .ok (.isub, 1) := by decide +kernel
theorem dX10_sum_185 : decode cX10_sum 185 = .ok (.ireturn, 1) := by decide +kernel
set_option maxRecDepth 20000 in
theorem ggX10_weigh_X10_in : GoodIn wsX10_weigh wsX10_in := goodIn_r _ [9] (by decide +kernel) (by decide +kernel)
set_option maxRecDepth 20000 in
theorem gX10_weigh_X10_in : GoodIn wsX10_weigh (va_wsS RX10 96 yX10_in wsX10_in) := goodIn_app (goodIn_of _ (by decide +kernel)) ggX10_weigh_X10_in
theorem dX10_weigh_0 : decode cX10_weigh 0 = .ok (.iload_n 1, 1) := by decide +kernel
theorem dX10_weigh_1 : decode cX10_weigh 1 = .ok (.i2l, 1) := by decide +kernel
theorem dX10_weigh_2 : decode cX10_weigh 2 = .ok (.lconst 0, 1) := by decide +kernel
theorem dX10_weigh_3 : decode cX10_weigh 3 = .ok (.aload_n 0, 1) := by decide +kernel
theorem dX10_weigh_4 : decode cX10_weigh 4 = .ok (.getfield 198, 3) := by decide +kernel
theorem dX10_weigh_7 : decode cX10_weigh 7 = .ok (.iconst 1, 1) := by decide +kernel
theorem dX10_weigh_8 : decode cX10_weigh 8 = .ok (.isub, 1) := by decide +kernel
theorem dX10_weigh_9 : decode cX10_weigh 9 = .ok (.i2l, 1) := by decide +kernel
theorem dX10_weigh_10 : decode cX10_weigh 10 = .ok (.invokestatic 96, 3) := by decide +kernel
theorem dX10_weigh_13 : decode cX10_weigh 13 = .ok (.ifCond .ne 6, 3) := by decide +kernel
theorem dX10_weigh_16 : decode cX10_weigh 16 = .ok (.ldc 173, 2) := by decide +kernel
theorem dX10_weigh_18 : decode cX10_weigh 18 = .ok (.ireturn, 1) := by decide +kernel
theorem dX10_weigh_19 : decode cX10_weigh 19 = .ok (.iload_n 2, 1) := by decide +kernel
theorem dX10_weigh_20 : decode cX10_weigh 20 = .ok (.i2l, 1) := by decide +kernel
theorem dX10_weigh_21 : decode cX10_weigh 21 = .ok (.lconst 0, 1) := by decide +kernel
theorem dX10_weigh_22 : decode cX10_weigh 22 = .ok (.ldc2_w 276, 3) := by decide +kernel
theorem dX10_weigh_25 : decode cX10_weigh 25 = .ok (.invokestatic 96, 3) := by decide +kernel
theorem dX10_weigh_28 : decode cX10_weigh 28 = .ok (.ifCond .ne 6, 3) := by decide +kernel
theorem dX10_weigh_31 : decode cX10_weigh 31 = .ok (.ldc 104, 2) := by decide +kernel
theorem dX10_weigh_33 : decode cX10_weigh 33 = .ok (.ireturn, 1) := by decide +kernel
theorem dX10_weigh_34 : decode cX10_weigh 34 = .ok (.aload_n 0, 1) := by decide +kernel
theorem dX10_weigh_35 : decode cX10_weigh 35 = .ok (.getfield 81, 3) := by decide +kernel
theorem dX10_weigh_38 : decode cX10_weigh 38 = .ok (.iload_n 1, 1) := by decide +kernel
theorem dX10_weigh_39 : decode cX10_weigh 39 = .ok (.iaload, 1) := by decide +kernel
theorem dX10_weigh_40 : decode cX10_weigh 40 = .ok (.istore_n 3, 1) := by decide +kernel
theorem dX10_weigh_41 : decode cX10_weigh 41 = .ok (.aload_n 0, 1) := by decide +kernel
theorem dX10_weigh_42 : decode cX10_weigh 42 = .ok (.getfield 81, 3) := by decide +kernel
theorem dX10_weigh_45 : decode cX10_weigh 45 = .ok (.iload_n 1, 1) := by decide +kernel
theorem dX10_weigh_46 : decode cX10_weigh 46 = .ok (.iload_n 2, 1) := by decide +kernel
theorem dX10_weigh_47 : decode cX10_weigh 47 = .ok (.iastore, 1) := by decide +kernel
theorem dX10_weigh_48 : decode cX10_weigh 48 = .ok (.iload_n 3, 1) := by decide +kernel
theorem dX10_weigh_49 : decode cX10_weigh 49 = .ok (.ireturn, 1) := by decide +kernel
theorem dX10_weighedBy_0 : decode cX10_weighedBy 0 = .ok (.iconst 0, 1) := by decide +kernel
theorem dX10_weighedBy_1 : decode cX10_weighedBy 1 = .ok (.istore_n 3, 1) := by decide +kernel
theorem dX10_weighedBy_2 : decode cX10_weighedBy 2 = .ok (.iconst 0, 1) := by decide +kernel
theorem dX10_weighedBy_3 : decode cX10_weighedBy 3 = .ok (.istore 4, 2) := by decide +kernel
theorem dX10_weighedBy_5 : decode cX10_weighedBy 5 = .ok (.iload 4, 2) := by decide +kernel
theorem dX10_weighedBy_7 : decode cX10_weighedBy 7 = .ok (.aload_n 0, 1) := by decide +kernel
theorem dX10_weighedBy_8 : decode cX10_weighedBy 8 = .ok (.getfield 198, 3) := by decide +kernel
theorem dX10_weighedBy_11 : decode cX10_weighedBy 11 = .ok (.if_icmp .ge 69, 3) := by decide +kernel
theorem dX10_weighedBy_14 : decode cX10_weighedBy 14 = .ok (.iload_n 2, 1) := by decide +kernel
theorem dX10_weighedBy_15 : decode cX10_weighedBy 15 = .ok (.iconst 4, 1) := by decide +kernel
theorem dX10_weighedBy_16 : decode cX10_weighedBy 16 = .ok (.if_icmp .ne 13, 3) := by decide +kernel
theorem dX10_weighedBy_19 : decode cX10_weighedBy 19 = .ok (.aload_n 0, 1) := by decide +kernel
theorem dX10_weighedBy_20 : decode cX10_weighedBy 20 = .ok (.getfield 78, 3) := by decide +kernel
theorem dX10_weighedBy_23 : decode cX10_weighedBy 23 = .ok (.iload 4, 2) := by decide +kernel
theorem dX10_weighedBy_25 : decode cX10_weighedBy 25 = .ok (.iaload, 1) := by decide +kernel
theorem dX10_weighedBy_26 : decode cX10_weighedBy 26 = .ok (.goto 14, 3) := by decide +kernel
theorem dX10_weighedBy_29 : decode cX10_weighedBy 29 = .ok (.aload_n 0, 1) := by decide +kernel
theorem dX10_weighedBy_30 : decode cX10_weighedBy 30 = .ok (.getfield 75, 3) := by decide +kernel
theorem dX10_weighedBy_33 : decode cX10_weighedBy 33 = .ok (.iconst 4, 1) := by decide +kernel
theorem dX10_weighedBy_34 : decode cX10_weighedBy 34 = .ok (.iload 4, 2) := by decide +kernel
theorem dX10_weighedBy_36 : decode cX10_weighedBy 36 = .ok (.imul, 1) := by decide +kernel
theorem dX10_weighedBy_37 : decode cX10_weighedBy 37 = .ok (.iload_n 2, 1) := by decide +kernel
theorem dX10_weighedBy_38 : decode cX10_weighedBy 38 = .ok (.iadd, 1) := by decide +kernel
theorem dX10_weighedBy_39 : decode cX10_weighedBy 39 = .ok (.iaload, 1) := by decide +kernel
theorem dX10_weighedBy_40 : decode cX10_weighedBy 40 = .ok (.istore 5, 2) := by decide +kernel
theorem dX10_weighedBy_42 : decode cX10_weighedBy 42 = .ok (.iload_n 3, 1) := by decide +kernel
theorem dX10_weighedBy_43 : decode cX10_weighedBy 43 = .ok (.iload_n 1, 1) := by decide +kernel
theorem dX10_weighedBy_44 : decode cX10_weighedBy 44 = .ok (.ifCond .eq 18, 3) := by decide +kernel
theorem dX10_weighedBy_47 : decode cX10_weighedBy 47 = .ok (.aload_n 0, 1) := by decide +kernel
theorem dX10_weighedBy_48 : decode cX10_weighedBy 48 = .ok (.getfield 72, 3) := by decide +kernel
theorem dX10_weighedBy_51 : decode cX10_weighedBy 51 = .ok (.iload 4, 2) := by decide +kernel
theorem dX10_weighedBy_53 : decode cX10_weighedBy 53 = .ok (.iaload, 1) := by decide +kernel
theorem dX10_weighedBy_54 : decode cX10_weighedBy 54 = .ok (.iconst 1, 1) := by decide +kernel
theorem dX10_weighedBy_55 : decode cX10_weighedBy 55 = .ok (.if_icmp .ne 7, 3) := by decide +kernel
theorem dX10_weighedBy_58 : decode cX10_weighedBy 58 = .ok (.iconst 0, 1) := by decide +kernel
theorem dX10_weighedBy_59 : decode cX10_weighedBy 59 = .ok (.goto 13, 3) := by decide +kernel
theorem dX10_weighedBy_62 : decode cX10_weighedBy 62 = .ok (.aload_n 0, 1) := by decide +kernel
theorem dX10_weighedBy_63 : decode cX10_weighedBy 63 = .ok (.getfield 81, 3) := by decide +kernel
theorem dX10_weighedBy_66 : decode cX10_weighedBy 66 = .ok (.iload 4, 2) := by decide +kernel
theorem dX10_weighedBy_68 : decode cX10_weighedBy 68 = .ok (.iaload, 1) := by decide +kernel
theorem dX10_weighedBy_69 : decode cX10_weighedBy 69 = .ok (.iload 5, 2) := by decide +kernel
theorem dX10_weighedBy_71 : decode cX10_weighedBy 71 = .ok (.imul, 1) := by decide +kernel
theorem dX10_weighedBy_72 : decode cX10_weighedBy 72 = .ok (.iadd, 1) := by decide +kernel
theorem dX10_weighedBy_73 : decode cX10_weighedBy 73 = .ok (.istore_n 3, 1) := by decide +kernel
theorem dX10_weighedBy_74 : decode cX10_weighedBy 74 = .ok (.iinc 4 1, 3) := by decide +kernel
theorem dX10_weighedBy_77 : decode cX10_weighedBy 77 = .ok (.goto (-72), 3) := by decide +kernel
theorem dX10_weighedBy_80 : decode cX10_weighedBy 80 = .ok (.iload_n 3, 1) := by decide +kernel
theorem dX10_weighedBy_81 : decode cX10_weighedBy 81 = .ok (.ireturn, 1) := by decide +kernel
set_option maxRecDepth 20000 in
theorem ggX10_weighed_X10_in : GoodIn wsX10_weighed wsX10_in := goodIn_r _ [6] (by decide +kernel) (by decide +kernel)
set_option maxRecDepth 20000 in
theorem gX10_weighed_X10_in : GoodIn wsX10_weighed (va_wsS RX10 96 yX10_in wsX10_in) := goodIn_app (goodIn_of _ (by decide +kernel)) ggX10_weighed_X10_in
set_option maxRecDepth 20000 in
theorem ggX10_weighed_X10_weighedBy : GoodIn wsX10_weighed wsX10_weighedBy := goodIn_r _ [10, 11, 12, 13, 14, 15, 16, 17, 18, 19, 20, 21, 22, 23, 24, 25, 26, 27, 28, 29, 30, 31, 32, 33, 34, 35, 36, 37, 38, 39, 40, 41, 42, 43, 44, 45, 46, 47, 48, 49, 50, 51, 52, 53] (by decide +kernel) (by decide +kernel)
set_option maxRecDepth 20000 in
theorem gX10_weighed_X10_weighedBy : GoodIn wsX10_weighed (wsV RX10 280 RX10 yX10_weighedBy wsX10_weighedBy) := goodIn_app (goodIn_of _ (by decide +kernel)) ggX10_weighed_X10_weighedBy
theorem dX10_weighed_0 : decode cX10_weighed 0 = .ok (.iload_n 1, 1) := by decide +kernel
theorem dX10_weighed_1 : decode cX10_weighed 1 = .ok (.i2l, 1) := by decide +kernel
theorem dX10_weighed_2 : decode cX10_weighed 2 = .ok (.lconst 0, 1) := by decide +kernel
theorem dX10_weighed_3 : decode cX10_weighed 3 = .ok (.lconst 1, 1) := by decide +kernel
theorem dX10_weighed_4 : decode cX10_weighed 4 = .ok (.invokestatic 96, 3) := by decide +kernel
theorem dX10_weighed_7 : decode cX10_weighed 7 = .ok (.ifCond .eq 33, 3) := by decide +kernel
theorem dX10_weighed_10 : decode cX10_weighed 10 = .ok (.iload_n 2, 1) := by decide +kernel
theorem dX10_weighed_11 : decode cX10_weighed 11 = .ok (.i2l, 1) := by decide +kernel
theorem dX10_weighed_12 : decode cX10_weighed 12 = .ok (.lconst 0, 1) := by decide +kernel
theorem dX10_weighed_13 : decode cX10_weighed 13 = .ok (.ldc2_w 278, 3) := by decide +kernel
theorem dX10_weighed_16 : decode cX10_weighed 16 = .ok (.invokestatic 96, 3) := by decide +kernel
theorem dX10_weighed_19 : decode cX10_weighed 19 = .ok (.ifCond .eq 21, 3) := by decide +kernel
theorem dX10_weighed_22 : decode cX10_weighed 22 = .ok (.aload_n 0, 1) := by decide +kernel
theorem dX10_weighed_23 : decode cX10_weighed 23 = .ok (.iload_n 1, 1) := by decide +kernel
theorem dX10_weighed_24 : decode cX10_weighed 24 = .ok (.iconst 1, 1) := by decide +kernel
theorem dX10_weighed_25 : decode cX10_weighed 25 = .ok (.if_icmp .ne 7, 3) := by decide +kernel
theorem dX10_weighed_28 : decode cX10_weighed 28 = .ok (.iconst 1, 1) := by decide +kernel
theorem dX10_weighed_29 : decode cX10_weighed 29 = .ok (.goto 4, 3) := by decide +kernel
theorem dX10_weighed_32 : decode cX10_weighed 32 = .ok (.iconst 0, 1) := by decide +kernel
theorem dX10_weighed_33 : decode cX10_weighed 33 = .ok (.iload_n 2, 1) := by decide +kernel
theorem dX10_weighed_34 : decode cX10_weighed 34 = .ok (.invokevirtual 280, 3) := by decide +kernel
theorem dX10_weighed_37 : decode cX10_weighed 37 = .ok (.goto 5, 3) := by decide +kernel
theorem dX10_weighed_40 : decode cX10_weighed 40 = .ok (.ldc 104, 2) := by decide +kernel
theorem dX10_weighed_42 : decode cX10_weighed 42 = .ok (.ireturn, 1) := by decide +kernel
set_option maxRecDepth 20000 in
theorem ggX10_isRefuted_X10_weighedBy : GoodIn wsX10_isRefuted wsX10_weighedBy := goodIn_r _ [5, 6, 7, 8, 9, 10, 11, 12, 13, 14, 15, 16, 17, 18, 19, 20, 21, 22, 23, 24, 25, 26, 27, 28, 29, 30, 31, 32, 33, 34, 35, 36, 37, 38, 39, 40, 41, 42, 43, 44, 45, 46, 47, 48] (by decide +kernel) (by decide +kernel)
set_option maxRecDepth 20000 in
theorem gX10_isRefuted_X10_weighedBy : GoodIn wsX10_isRefuted (wsV RX10 280 RX10 yX10_weighedBy wsX10_weighedBy) := goodIn_app (goodIn_of _ (by decide +kernel)) ggX10_isRefuted_X10_weighedBy
theorem dX10_isRefuted_0 : decode cX10_isRefuted 0 = .ok (.aload_n 0, 1) := by decide +kernel
theorem dX10_isRefuted_1 : decode cX10_isRefuted 1 = .ok (.iconst 0, 1) := by decide +kernel
theorem dX10_isRefuted_2 : decode cX10_isRefuted 2 = .ok (.iconst 4, 1) := by decide +kernel
theorem dX10_isRefuted_3 : decode cX10_isRefuted 3 = .ok (.invokevirtual 280, 3) := by decide +kernel
theorem dX10_isRefuted_6 : decode cX10_isRefuted 6 = .ok (.ifCond .ge 7, 3) := by decide +kernel
theorem dX10_isRefuted_9 : decode cX10_isRefuted 9 = .ok (.iconst 1, 1) := by decide +kernel
theorem dX10_isRefuted_10 : decode cX10_isRefuted 10 = .ok (.goto 4, 3) := by decide +kernel
theorem dX10_isRefuted_13 : decode cX10_isRefuted 13 = .ok (.iconst 0, 1) := by decide +kernel
theorem dX10_isRefuted_14 : decode cX10_isRefuted 14 = .ok (.istore_n 1, 1) := by decide +kernel
theorem dX10_isRefuted_15 : decode cX10_isRefuted 15 = .ok (.iconst 0, 1) := by decide +kernel
theorem dX10_isRefuted_16 : decode cX10_isRefuted 16 = .ok (.istore_n 2, 1) := by decide +kernel
theorem dX10_isRefuted_17 : decode cX10_isRefuted 17 = .ok (.iload_n 2, 1) := by decide +kernel
theorem dX10_isRefuted_18 : decode cX10_isRefuted 18 = .ok (.iconst 4, 1) := by decide +kernel
theorem dX10_isRefuted_19 : decode cX10_isRefuted 19 = .ok (.if_icmp .ge 28, 3) := by decide +kernel
theorem dX10_isRefuted_22 : decode cX10_isRefuted 22 = .ok (.iload_n 1, 1) := by decide +kernel
theorem dX10_isRefuted_23 : decode cX10_isRefuted 23 = .ok (.ifCond .eq 16, 3) := by decide +kernel
theorem dX10_isRefuted_26 : decode cX10_isRefuted 26 = .ok (.aload_n 0, 1) := by decide +kernel
theorem dX10_isRefuted_27 : decode cX10_isRefuted 27 = .ok (.iconst 0, 1) := by decide +kernel
theorem dX10_isRefuted_28 : decode cX10_isRefuted 28 = .ok (.iload_n 2, 1) := by decide +kernel
theorem dX10_isRefuted_29 : decode cX10_isRefuted 29 = .ok (.invokevirtual 280, 3) := by decide +kernel
theorem dX10_isRefuted_32 : decode cX10_isRefuted 32 = .ok (.ifCond .ne 7, 3) := by decide +kernel
theorem dX10_isRefuted_35 : decode cX10_isRefuted 35 = .ok (.iconst 1, 1) := by decide +kernel
theorem dX10_isRefuted_36 : decode cX10_isRefuted 36 = .ok (.goto 4, 3) := by decide +kernel
theorem dX10_isRefuted_39 : decode cX10_isRefuted 39 = .ok (.iconst 0, 1) := by decide +kernel
theorem dX10_isRefuted_40 : decode cX10_isRefuted 40 = .ok (.istore_n 1, 1) := by decide +kernel
theorem dX10_isRefuted_41 : decode cX10_isRefuted 41 = .ok (.iinc 2 1, 3) := by decide +kernel
theorem dX10_isRefuted_44 : decode cX10_isRefuted 44 = .ok (.goto (-27), 3) := by decide +kernel
theorem dX10_isRefuted_47 : decode cX10_isRefuted 47 = .ok (.iload_n 1, 1) := by decide +kernel
theorem dX10_isRefuted_48 : decode cX10_isRefuted 48 = .ok (.ireturn, 1) := by decide +kernel
theorem dX10_isIn_0 : decode cX10_isIn 0 = .ok (.iconst 0, 1) := by decide +kernel
theorem dX10_isIn_1 : decode cX10_isIn 1 = .ok (.istore_n 3, 1) := by decide +kernel
theorem dX10_isIn_2 : decode cX10_isIn 2 = .ok (.iconst 0, 1) := by decide +kernel
theorem dX10_isIn_3 : decode cX10_isIn 3 = .ok (.istore 4, 2) := by decide +kernel
theorem dX10_isIn_5 : decode cX10_isIn 5 = .ok (.iload 4, 2) := by decide +kernel
theorem dX10_isIn_7 : decode cX10_isIn 7 = .ok (.aload_n 0, 1) := by decide +kernel
theorem dX10_isIn_8 : decode cX10_isIn 8 = .ok (.getfield 198, 3) := by decide +kernel
theorem dX10_isIn_11 : decode cX10_isIn 11 = .ok (.if_icmp .ge 44, 3) := by decide +kernel
theorem dX10_isIn_14 : decode cX10_isIn 14 = .ok (.iload_n 3, 1) := by decide +kernel
theorem dX10_isIn_15 : decode cX10_isIn 15 = .ok (.ifCond .ne 28, 3) := by decide +kernel
theorem dX10_isIn_18 : decode cX10_isIn 18 = .ok (.aload_n 0, 1) := by decide +kernel
theorem dX10_isIn_19 : decode cX10_isIn 19 = .ok (.getfield 72, 3) := by decide +kernel
theorem dX10_isIn_22 : decode cX10_isIn 22 = .ok (.iload 4, 2) := by decide +kernel
theorem dX10_isIn_24 : decode cX10_isIn 24 = .ok (.iaload, 1) := by decide +kernel
theorem dX10_isIn_25 : decode cX10_isIn 25 = .ok (.iload_n 1, 1) := by decide +kernel
theorem dX10_isIn_26 : decode cX10_isIn 26 = .ok (.if_icmp .ne 21, 3) := by decide +kernel
theorem dX10_isIn_29 : decode cX10_isIn 29 = .ok (.aload_n 0, 1) := by decide +kernel
theorem dX10_isIn_30 : decode cX10_isIn 30 = .ok (.getfield 75, 3) := by decide +kernel
theorem dX10_isIn_33 : decode cX10_isIn 33 = .ok (.iconst 4, 1) := by decide +kernel
theorem dX10_isIn_34 : decode cX10_isIn 34 = .ok (.iload 4, 2) := by decide +kernel
theorem dX10_isIn_36 : decode cX10_isIn 36 = .ok (.imul, 1) := by decide +kernel
theorem dX10_isIn_37 : decode cX10_isIn 37 = .ok (.iload_n 2, 1) := by decide +kernel
theorem dX10_isIn_38 : decode cX10_isIn 38 = .ok (.iadd, 1) := by decide +kernel
theorem dX10_isIn_39 : decode cX10_isIn 39 = .ok (.iaload, 1) := by decide +kernel
theorem dX10_isIn_40 : decode cX10_isIn 40 = .ok (.ifCond .eq 7, 3) := by decide +kernel
theorem dX10_isIn_43 : decode cX10_isIn 43 = .ok (.iconst 1, 1) := by decide +kernel
theorem dX10_isIn_44 : decode cX10_isIn 44 = .ok (.goto 4, 3) := by decide +kernel
theorem dX10_isIn_47 : decode cX10_isIn 47 = .ok (.iconst 0, 1) := by decide +kernel
theorem dX10_isIn_48 : decode cX10_isIn 48 = .ok (.istore_n 3, 1) := by decide +kernel
theorem dX10_isIn_49 : decode cX10_isIn 49 = .ok (.iinc 4 1, 3) := by decide +kernel
theorem dX10_isIn_52 : decode cX10_isIn 52 = .ok (.goto (-47), 3) := by decide +kernel
theorem dX10_isIn_55 : decode cX10_isIn 55 = .ok (.iload_n 3, 1) := by decide +kernel
theorem dX10_isIn_56 : decode cX10_isIn 56 = .ok (.ireturn, 1) := by decide +kernel
set_option maxRecDepth 20000 in
theorem ggX10_freeOnes_X10_isIn : GoodIn wsX10_freeOnes wsX10_isIn := goodIn_r _ [5, 6, 7, 8, 9, 10, 11, 12, 13, 14, 15, 16, 17, 18, 19, 20, 21, 22, 23, 24, 25, 26, 27, 28, 29, 30, 31, 32, 33, 34, 35, 36, 37, 38, 39, 40, 41, 42, 43, 44, 45, 46] (by decide +kernel) (by decide +kernel)
set_option maxRecDepth 20000 in
theorem gX10_freeOnes_X10_isIn : GoodIn wsX10_freeOnes (wsV RX10 284 RX10 yX10_isIn wsX10_isIn) := goodIn_app (goodIn_of _ (by decide +kernel)) ggX10_freeOnes_X10_isIn
theorem dX10_freeOnes_0 : decode cX10_freeOnes 0 = .ok (.iconst 0, 1) := by decide +kernel
theorem dX10_freeOnes_1 : decode cX10_freeOnes 1 = .ok (.istore_n 1, 1) := by decide +kernel
theorem dX10_freeOnes_2 : decode cX10_freeOnes 2 = .ok (.iconst 0, 1) := by decide +kernel
theorem dX10_freeOnes_3 : decode cX10_freeOnes 3 = .ok (.istore_n 2, 1) := by decide +kernel
theorem dX10_freeOnes_4 : decode cX10_freeOnes 4 = .ok (.iload_n 2, 1) := by decide +kernel
theorem dX10_freeOnes_5 : decode cX10_freeOnes 5 = .ok (.iconst 4, 1) := by decide +kernel
theorem dX10_freeOnes_6 : decode cX10_freeOnes 6 = .ok (.if_icmp .ge 34, 3) := by decide +kernel
theorem dX10_freeOnes_9 : decode cX10_freeOnes 9 = .ok (.iload_n 1, 1) := by decide +kernel
theorem dX10_freeOnes_10 : decode cX10_freeOnes 10 = .ok (.aload_n 0, 1) := by decide +kernel
theorem dX10_freeOnes_11 : decode cX10_freeOnes 11 = .ok (.iconst 0, 1) := by decide +kernel
theorem dX10_freeOnes_12 : decode cX10_freeOnes 12 = .ok (.iload_n 2, 1) := by decide +kernel
theorem dX10_freeOnes_13 : decode cX10_freeOnes 13 = .ok (.invokevirtual 284, 3) := by decide +kernel
theorem dX10_freeOnes_16 : decode cX10_freeOnes 16 = .ok (.aload_n 0, 1) := by decide +kernel
theorem dX10_freeOnes_17 : decode cX10_freeOnes 17 = .ok (.iconst 1, 1) := by decide +kernel
theorem dX10_freeOnes_18 : decode cX10_freeOnes 18 = .ok (.iload_n 2, 1) := by decide +kernel
theorem dX10_freeOnes_19 : decode cX10_freeOnes 19 = .ok (.invokevirtual 284, 3) := by decide +kernel
theorem dX10_freeOnes_22 : decode cX10_freeOnes 22 = .ok (.if_icmp .ne 9, 3) := by decide +kernel
theorem dX10_freeOnes_25 : decode cX10_freeOnes 25 = .ok (.iconst 1, 1) := by decide +kernel
theorem dX10_freeOnes_26 : decode cX10_freeOnes 26 = .ok (.iload_n 2, 1) := by decide +kernel
theorem dX10_freeOnes_27 : decode cX10_freeOnes 27 = .ok (.ishl, 1) := by decide +kernel
theorem dX10_freeOnes_28 : decode cX10_freeOnes 28 = .ok (.goto 4, 3) := by decide +kernel
theorem dX10_freeOnes_31 : decode cX10_freeOnes 31 = .ok (.iconst 0, 1) := by decide +kernel
theorem dX10_freeOnes_32 : decode cX10_freeOnes 32 = .ok (.ior, 1) := by decide +kernel
theorem dX10_freeOnes_33 : decode cX10_freeOnes 33 = .ok (.istore_n 1, 1) := by decide +kernel
theorem dX10_freeOnes_34 : decode cX10_freeOnes 34 = .ok (.iinc 2 1, 3) := by decide +kernel
theorem dX10_freeOnes_37 : decode cX10_freeOnes 37 = .ok (.goto (-33), 3) := by decide +kernel
theorem dX10_freeOnes_40 : decode cX10_freeOnes 40 = .ok (.iload_n 1, 1) := by decide +kernel
theorem dX10_freeOnes_41 : decode cX10_freeOnes 41 = .ok (.ireturn, 1) := by decide +kernel
set_option maxRecDepth 20000 in
theorem ggX10_middleOnes_X10_weighedBy : GoodIn wsX10_middleOnes wsX10_weighedBy := goodIn_r _ [5, 6, 7, 8, 9, 10, 11, 12, 13, 14, 15, 16, 17, 18, 19, 20, 21, 22, 23, 24, 25, 26, 27, 28, 29, 30, 31, 32, 33, 34, 35, 36, 37, 38, 39, 40, 41, 42, 43, 44, 45, 46, 47, 48] (by decide +kernel) (by decide +kernel)
set_option maxRecDepth 20000 in
theorem gX10_middleOnes_X10_weighedBy : GoodIn wsX10_middleOnes (wsV RX10 280 RX10 yX10_weighedBy wsX10_weighedBy) := goodIn_app (goodIn_of _ (by decide +kernel)) ggX10_middleOnes_X10_weighedBy
theorem dX10_middleOnes_0 : decode cX10_middleOnes 0 = .ok (.iconst 0, 1) := by decide +kernel
theorem dX10_middleOnes_1 : decode cX10_middleOnes 1 = .ok (.istore_n 1, 1) := by decide +kernel
theorem dX10_middleOnes_2 : decode cX10_middleOnes 2 = .ok (.iconst 0, 1) := by decide +kernel
theorem dX10_middleOnes_3 : decode cX10_middleOnes 3 = .ok (.istore_n 2, 1) := by decide +kernel
theorem dX10_middleOnes_4 : decode cX10_middleOnes 4 = .ok (.iload_n 2, 1) := by decide +kernel
theorem dX10_middleOnes_5 : decode cX10_middleOnes 5 = .ok (.iconst 4, 1) := by decide +kernel
theorem dX10_middleOnes_6 : decode cX10_middleOnes 6 = .ok (.if_icmp .ge 28, 3) := by decide +kernel
theorem dX10_middleOnes_9 : decode cX10_middleOnes 9 = .ok (.iload_n 1, 1) := by decide +kernel
theorem dX10_middleOnes_10 : decode cX10_middleOnes 10 = .ok (.aload_n 0, 1) := by decide +kernel
theorem dX10_middleOnes_11 : decode cX10_middleOnes 11 = .ok (.iconst 1, 1) := by decide +kernel
theorem dX10_middleOnes_12 : decode cX10_middleOnes 12 = .ok (.iload_n 2, 1) := by decide +kernel
theorem dX10_middleOnes_13 : decode cX10_middleOnes 13 = .ok (.invokevirtual 280, 3) := by decide +kernel
theorem dX10_middleOnes_16 : decode cX10_middleOnes 16 = .ok (.ifCond .eq 9, 3) := by decide +kernel
theorem dX10_middleOnes_19 : decode cX10_middleOnes 19 = .ok (.iconst 1, 1) := by decide +kernel
theorem dX10_middleOnes_20 : decode cX10_middleOnes 20 = .ok (.iload_n 2, 1) := by decide +kernel
theorem dX10_middleOnes_21 : decode cX10_middleOnes 21 = .ok (.ishl, 1) := by decide +kernel
theorem dX10_middleOnes_22 : decode cX10_middleOnes 22 = .ok (.goto 4, 3) := by decide +kernel
theorem dX10_middleOnes_25 : decode cX10_middleOnes 25 = .ok (.iconst 0, 1) := by decide +kernel
theorem dX10_middleOnes_26 : decode cX10_middleOnes 26 = .ok (.ior, 1) := by decide +kernel
theorem dX10_middleOnes_27 : decode cX10_middleOnes 27 = .ok (.istore_n 1, 1) := by decide +kernel
theorem dX10_middleOnes_28 : decode cX10_middleOnes 28 = .ok (.iinc 2 1, 3) := by decide +kernel
theorem dX10_middleOnes_31 : decode cX10_middleOnes 31 = .ok (.goto (-27), 3) := by decide +kernel
theorem dX10_middleOnes_34 : decode cX10_middleOnes 34 = .ok (.iload_n 1, 1) := by decide +kernel
theorem dX10_middleOnes_35 : decode cX10_middleOnes 35 = .ok (.ireturn, 1) := by decide +kernel
set_option maxRecDepth 20000 in
theorem ggX10_sums_X10_isRefuted : GoodIn wsX10_sums wsX10_isRefuted := goodIn_r _ [6, 7, 8, 9, 5, 10, 11, 12, 13, 14, 15, 28, 29, 30, 31, 32, 33, 34, 35, 36, 37, 38, 39, 40, 41, 42, 43, 44, 45, 46, 47, 48, 49, 50, 51, 52, 53, 54, 55, 56, 57, 58, 59, 60, 61, 62, 63, 64, 65] (by decide +kernel) (by decide +kernel)
set_option maxRecDepth 20000 in
theorem gX10_sums_X10_isRefuted : GoodIn wsX10_sums (wsV RX10 287 RX10 yX10_isRefuted wsX10_isRefuted) := goodIn_app (goodIn_of _ (by decide +kernel)) ggX10_sums_X10_isRefuted
set_option maxRecDepth 20000 in
theorem ggX10_sums_X10_freeOnes : GoodIn wsX10_sums wsX10_freeOnes := goodIn_r _ [19, 20, 21, 22, 5, 23, 11, 14, 13, 28, 29, 30, 31, 32, 33, 34, 35, 36, 37, 38, 39, 40, 41, 42, 43, 44, 45, 46, 47, 48, 49, 50, 51, 52, 53, 54, 55, 56, 57, 58, 59, 60, 61, 62, 63, 64, 65] (by decide +kernel) (by decide +kernel)
set_option maxRecDepth 20000 in
theorem gX10_sums_X10_freeOnes : GoodIn wsX10_sums (wsV RX10 290 RX10 yX10_freeOnes wsX10_freeOnes) := goodIn_app (goodIn_of _ (by decide +kernel)) ggX10_sums_X10_freeOnes
set_option maxRecDepth 20000 in
theorem ggX10_sums_X10_middleOnes : GoodIn wsX10_sums wsX10_middleOnes := goodIn_r _ [27, 7, 8, 9, 5, 10, 11, 12, 13, 14, 15, 28, 29, 30, 31, 32, 33, 34, 35, 36, 37, 38, 39, 40, 41, 42, 43, 44, 45, 46, 47, 48, 49, 50, 51, 52, 53, 54, 55, 56, 57, 58, 59, 60, 61, 62, 63, 64, 65] (by decide +kernel) (by decide +kernel)
set_option maxRecDepth 20000 in
theorem gX10_sums_X10_middleOnes : GoodIn wsX10_sums (wsV RX10 293 RX10 yX10_middleOnes wsX10_middleOnes) := goodIn_app (goodIn_of _ (by decide +kernel)) ggX10_sums_X10_middleOnes
theorem dX10_sums_0 : decode cX10_sums 0 = .ok (.iload_n 1, 1) := by decide +kernel
theorem dX10_sums_1 : decode cX10_sums 1 = .ok (.tableswitch 74 0 3 #[31, 44, 49, 54], 31) := by decide +kernel
theorem dX10_sums_32 : decode cX10_sums 32 = .ok (.aload_n 0, 1) := by decide +kernel
theorem dX10_sums_33 : decode cX10_sums 33 = .ok (.invokevirtual 287, 3) := by decide +kernel
theorem dX10_sums_36 : decode cX10_sums 36 = .ok (.ifCond .eq 7, 3) := by decide +kernel
theorem dX10_sums_39 : decode cX10_sums 39 = .ok (.iconst 1, 1) := by decide +kernel
theorem dX10_sums_40 : decode cX10_sums 40 = .ok (.goto 4, 3) := by decide +kernel
theorem dX10_sums_43 : decode cX10_sums 43 = .ok (.iconst 0, 1) := by decide +kernel
theorem dX10_sums_44 : decode cX10_sums 44 = .ok (.ireturn, 1) := by decide +kernel
theorem dX10_sums_45 : decode cX10_sums 45 = .ok (.aload_n 0, 1) := by decide +kernel
theorem dX10_sums_46 : decode cX10_sums 46 = .ok (.invokevirtual 290, 3) := by decide +kernel
theorem dX10_sums_49 : decode cX10_sums 49 = .ok (.ireturn, 1) := by decide +kernel
theorem dX10_sums_50 : decode cX10_sums 50 = .ok (.aload_n 0, 1) := by decide +kernel
theorem dX10_sums_51 : decode cX10_sums 51 = .ok (.invokevirtual 293, 3) := by decide +kernel
theorem dX10_sums_54 : decode cX10_sums 54 = .ok (.ireturn, 1) := by decide +kernel
theorem dX10_sums_55 : decode cX10_sums 55 = .ok (.aload_n 0, 1) := by decide +kernel
theorem dX10_sums_56 : decode cX10_sums 56 = .ok (.invokevirtual 293, 3) := by decide +kernel
theorem dX10_sums_59 : decode cX10_sums 59 = .ok (.aload_n 0, 1) := by decide +kernel
theorem dX10_sums_60 : decode cX10_sums 60 = .ok (.invokevirtual 290, 3) := by decide +kernel
theorem dX10_sums_63 : decode cX10_sums 63 = .ok (.iconst (-1), 1) := by decide +kernel
theorem dX10_sums_64 : decode cX10_sums 64 = .ok (.ixor, 1) := by decide +kernel
theorem dX10_sums_65 : decode cX10_sums 65 = .ok (.iand, 1) := by decide +kernel
theorem dX10_sums_66 : decode cX10_sums 66 = .ok (.ifCond .ne 7, 3) := by decide +kernel
theorem dX10_sums_69 : decode cX10_sums 69 = .ok (.iconst 1, 1) := by decide +kernel
theorem dX10_sums_70 : decode cX10_sums 70 = .ok (.goto 4, 3) := by decide +kernel
theorem dX10_sums_73 : decode cX10_sums 73 = .ok (.iconst 0, 1) := by decide +kernel
theorem dX10_sums_74 : decode cX10_sums 74 = .ok (.ireturn, 1) := by decide +kernel
theorem dX10_sums_75 : decode cX10_sums 75 = .ok (.ldc 104, 2) := by decide +kernel
theorem dX10_sums_77 : decode cX10_sums 77 = .ok (.ireturn, 1) := by decide +kernel
set_option maxRecDepth 20000 in
theorem ggX10_findWeights_X10_isRefuted : GoodIn wsX10_findWeights wsX10_isRefuted := goodIn_r _ [7, 8, 9, 10, 6, 11, 1, 12, 13, 14, 2, 15, 16, 17, 18, 19, 20, 21, 22, 23, 24, 25, 26, 27, 28, 29, 30, 31, 32, 33, 34, 35, 36, 37, 38, 39, 40, 41, 42, 43, 44, 45, 46, 47, 48, 49, 50, 51, 52] (by decide +kernel) (by decide +kernel)
set_option maxRecDepth 20000 in
theorem gX10_findWeights_X10_isRefuted : GoodIn wsX10_findWeights (wsV RX10 287 RX10 yX10_isRefuted wsX10_isRefuted) := goodIn_app (goodIn_of _ (by decide +kernel)) ggX10_findWeights_X10_isRefuted
theorem dX10_findWeights_0 : decode cX10_findWeights 0 = .ok (.iconst 1, 1) := by decide +kernel
theorem dX10_findWeights_1 : decode cX10_findWeights 1 = .ok (.istore_n 2, 1) := by decide +kernel
theorem dX10_findWeights_2 : decode cX10_findWeights 2 = .ok (.iconst 0, 1) := by decide +kernel
theorem dX10_findWeights_3 : decode cX10_findWeights 3 = .ok (.istore_n 3, 1) := by decide +kernel
theorem dX10_findWeights_4 : decode cX10_findWeights 4 = .ok (.iload_n 3, 1) := by decide +kernel
theorem dX10_findWeights_5 : decode cX10_findWeights 5 = .ok (.aload_n 0, 1) := by decide +kernel
theorem dX10_findWeights_6 : decode cX10_findWeights 6 = .ok (.getfield 198, 3) := by decide +kernel
theorem dX10_findWeights_9 : decode cX10_findWeights 9 = .ok (.if_icmp .ge 15, 3) := by decide +kernel
theorem dX10_findWeights_12 : decode cX10_findWeights 12 = .ok (.iload_n 2, 1) := by decide +kernel
theorem dX10_findWeights_13 : decode cX10_findWeights 13 = .ok (.iload_n 1, 1) := by decide +kernel
theorem dX10_findWeights_14 : decode cX10_findWeights 14 = .ok (.iconst 1, 1) := by decide +kernel
theorem dX10_findWeights_15 : decode cX10_findWeights 15 = .ok (.iadd, 1) := by decide +kernel
theorem dX10_findWeights_16 : decode cX10_findWeights 16 = .ok (.imul, 1) := by decide +kernel
theorem dX10_findWeights_17 : decode cX10_findWeights 17 = .ok (.istore_n 2, 1) := by decide +kernel
theorem dX10_findWeights_18 : decode cX10_findWeights 18 = .ok (.iinc 3 1, 3) := by decide +kernel
theorem dX10_findWeights_21 : decode cX10_findWeights 21 = .ok (.goto (-17), 3) := by decide +kernel
theorem dX10_findWeights_24 : decode cX10_findWeights 24 = .ok (.iconst 0, 1) := by decide +kernel
theorem dX10_findWeights_25 : decode cX10_findWeights 25 = .ok (.istore_n 3, 1) := by decide +kernel
theorem dX10_findWeights_26 : decode cX10_findWeights 26 = .ok (.iload_n 3, 1) := by decide +kernel
theorem dX10_findWeights_27 : decode cX10_findWeights 27 = .ok (.iload_n 2, 1) := by decide +kernel
theorem dX10_findWeights_28 : decode cX10_findWeights 28 = .ok (.if_icmp .ge 61, 3) := by decide +kernel
theorem dX10_findWeights_31 : decode cX10_findWeights 31 = .ok (.iload_n 3, 1) := by decide +kernel
theorem dX10_findWeights_32 : decode cX10_findWeights 32 = .ok (.istore 4, 2) := by decide +kernel
theorem dX10_findWeights_34 : decode cX10_findWeights 34 = .ok (.aload_n 0, 1) := by decide +kernel
theorem dX10_findWeights_35 : decode cX10_findWeights 35 = .ok (.getfield 198, 3) := by decide +kernel
theorem dX10_findWeights_38 : decode cX10_findWeights 38 = .ok (.iconst 1, 1) := by decide +kernel
theorem dX10_findWeights_39 : decode cX10_findWeights 39 = .ok (.isub, 1) := by decide +kernel
theorem dX10_findWeights_40 : decode cX10_findWeights 40 = .ok (.istore 5, 2) := by decide +kernel
theorem dX10_findWeights_42 : decode cX10_findWeights 42 = .ok (.iload 5, 2) := by decide +kernel
theorem dX10_findWeights_44 : decode cX10_findWeights 44 = .ok (.ifCond .lt 30, 3) := by decide +kernel
theorem dX10_findWeights_47 : decode cX10_findWeights 47 = .ok (.aload_n 0, 1) := by decide +kernel
theorem dX10_findWeights_48 : decode cX10_findWeights 48 = .ok (.getfield 81, 3) := by decide +kernel
theorem dX10_findWeights_51 : decode cX10_findWeights 51 = .ok (.iload 5, 2) := by decide +kernel
theorem dX10_findWeights_53 : decode cX10_findWeights 53 = .ok (.iload 4, 2) := by decide +kernel
theorem dX10_findWeights_55 : decode cX10_findWeights 55 = .ok (.iload_n 1, 1) := by decide +kernel
theorem dX10_findWeights_56 : decode cX10_findWeights 56 = .ok (.iconst 1, 1) := by decide +kernel
theorem dX10_findWeights_57 : decode cX10_findWeights 57 = .ok (.iadd, 1) := by decide +kernel
theorem dX10_findWeights_58 : decode cX10_findWeights 58 = .ok (.irem, 1) := by decide +kernel
theorem dX10_findWeights_59 : decode cX10_findWeights 59 = .ok (.iastore, 1) := by decide +kernel
theorem dX10_findWeights_60 : decode cX10_findWeights 60 = .ok (.iload 4, 2) := by decide +kernel
theorem dX10_findWeights_62 : decode cX10_findWeights 62 = .ok (.iload_n 1, 1) := by decide +kernel
theorem dX10_findWeights_63 : decode cX10_findWeights 63 = .ok (.iconst 1, 1) := by decide +kernel
theorem dX10_findWeights_64 : decode cX10_findWeights 64 = .ok (.iadd, 1) := by decide +kernel
theorem dX10_findWeights_65 : decode cX10_findWeights 65 = .ok (.idiv, 1) := by decide +kernel
theorem dX10_findWeights_66 : decode cX10_findWeights 66 = .ok (.istore 4, 2) := by decide +kernel
theorem dX10_findWeights_68 : decode cX10_findWeights 68 = .ok (.iinc 5 (-1), 3) := by decide +kernel
theorem dX10_findWeights_71 : decode cX10_findWeights 71 = .ok (.goto (-29), 3) := by decide +kernel
theorem dX10_findWeights_74 : decode cX10_findWeights 74 = .ok (.aload_n 0, 1) := by decide +kernel
theorem dX10_findWeights_75 : decode cX10_findWeights 75 = .ok (.invokevirtual 287, 3) := by decide +kernel
theorem dX10_findWeights_78 : decode cX10_findWeights 78 = .ok (.ifCond .eq 5, 3) := by decide +kernel
theorem dX10_findWeights_81 : decode cX10_findWeights 81 = .ok (.iconst 1, 1) := by decide +kernel
theorem dX10_findWeights_82 : decode cX10_findWeights 82 = .ok (.ireturn, 1) := by decide +kernel
theorem dX10_findWeights_83 : decode cX10_findWeights 83 = .ok (.iinc 3 1, 3) := by decide +kernel
theorem dX10_findWeights_86 : decode cX10_findWeights 86 = .ok (.goto (-60), 3) := by decide +kernel
theorem dX10_findWeights_89 : decode cX10_findWeights 89 = .ok (.iconst 0, 1) := by decide +kernel
theorem dX10_findWeights_90 : decode cX10_findWeights 90 = .ok (.ireturn, 1) := by decide +kernel
set_option maxRecDepth 20000 in
theorem ggX10_seekWeights_X10_in : GoodIn wsX10_seekWeights wsX10_in := goodIn_r _ [9] (by decide +kernel) (by decide +kernel)
set_option maxRecDepth 20000 in
theorem gX10_seekWeights_X10_in : GoodIn wsX10_seekWeights (va_wsS RX10 96 yX10_in wsX10_in) := goodIn_app (goodIn_of _ (by decide +kernel)) ggX10_seekWeights_X10_in
set_option maxRecDepth 20000 in
theorem ggX10_seekWeights_X10_copyRow : GoodIn wsX10_seekWeights wsX10_copyRow := goodIn_r _ [12] (by decide +kernel) (by decide +kernel)
set_option maxRecDepth 20000 in
theorem gX10_seekWeights_X10_copyRow : GoodIn wsX10_seekWeights (va_wsS RX10 156 yX10_copyRow wsX10_copyRow) := goodIn_app (goodIn_of _ (by decide +kernel)) ggX10_seekWeights_X10_copyRow
set_option maxRecDepth 20000 in
theorem ggX10_seekWeights_X10_findWeights : GoodIn wsX10_seekWeights wsX10_findWeights := goodIn_r _ [16, 1, 4, 17, 18, 19, 8, 20, 21, 22, 23, 24, 25, 26, 27, 32, 33, 34, 35, 36, 37, 38, 39, 40, 41, 42, 43, 44, 45, 46, 47, 48, 49, 50, 51, 52, 53, 54, 55, 56, 57, 58, 59, 60, 61, 62, 63, 64, 65, 66, 67, 68, 69] (by decide +kernel) (by decide +kernel)
set_option maxRecDepth 20000 in
theorem gX10_seekWeights_X10_findWeights : GoodIn wsX10_seekWeights (wsV RX10 298 RX10 yX10_findWeights wsX10_findWeights) := goodIn_app (goodIn_of _ (by decide +kernel)) ggX10_seekWeights_X10_findWeights
set_option maxRecDepth 20000 in
theorem ggX10_seekWeights_X10_greatestWeight : GoodIn wsX10_seekWeights wsX10_greatestWeight := goodIn_r _ [31, 1, 4, 32, 33, 34, 35, 36, 37, 38, 39, 40, 41, 42, 43, 44, 45, 46, 47, 48, 49, 50, 51, 52, 53, 54, 55, 56, 57, 58, 59, 60, 61, 62, 63, 64, 65, 66, 67, 68, 69] (by decide +kernel) (by decide +kernel)
set_option maxRecDepth 20000 in
theorem gX10_seekWeights_X10_greatestWeight : GoodIn wsX10_seekWeights (wsV RX10 301 RX10 yX10_greatestWeight wsX10_greatestWeight) := goodIn_app (goodIn_of _ (by decide +kernel)) ggX10_seekWeights_X10_greatestWeight
theorem dX10_seekWeights_0 : decode cX10_seekWeights 0 = .ok (.aload_n 0, 1) := by decide +kernel
theorem dX10_seekWeights_1 : decode cX10_seekWeights 1 = .ok (.getfield 198, 3) := by decide +kernel
theorem dX10_seekWeights_4 : decode cX10_seekWeights 4 = .ok (.i2l, 1) := by decide +kernel
theorem dX10_seekWeights_5 : decode cX10_seekWeights 5 = .ok (.lconst 1, 1) := by decide +kernel
theorem dX10_seekWeights_6 : decode cX10_seekWeights 6 = .ok (.ldc2_w 296, 3) := by decide +kernel
theorem dX10_seekWeights_9 : decode cX10_seekWeights 9 = .ok (.invokestatic 96, 3) := by decide +kernel
theorem dX10_seekWeights_12 : decode cX10_seekWeights 12 = .ok (.ifCond .ne 6, 3) := by decide +kernel
theorem dX10_seekWeights_15 : decode cX10_seekWeights 15 = .ok (.ldc 211, 2) := by decide +kernel
theorem dX10_seekWeights_17 : decode cX10_seekWeights 17 = .ok (.ireturn, 1) := by decide +kernel
theorem dX10_seekWeights_18 : decode cX10_seekWeights 18 = .ok (.aload_n 0, 1) := by decide +kernel
theorem dX10_seekWeights_19 : decode cX10_seekWeights 19 = .ok (.getfield 81, 3) := by decide +kernel
theorem dX10_seekWeights_22 : decode cX10_seekWeights 22 = .ok (.aload_n 0, 1) := by decide +kernel
theorem dX10_seekWeights_23 : decode cX10_seekWeights 23 = .ok (.getfield 84, 3) := by decide +kernel
theorem dX10_seekWeights_26 : decode cX10_seekWeights 26 = .ok (.aload_n 0, 1) := by decide +kernel
theorem dX10_seekWeights_27 : decode cX10_seekWeights 27 = .ok (.getfield 198, 3) := by decide +kernel
theorem dX10_seekWeights_30 : decode cX10_seekWeights 30 = .ok (.invokestatic 156, 3) := by decide +kernel
theorem dX10_seekWeights_33 : decode cX10_seekWeights 33 = .ok (.iconst 1, 1) := by decide +kernel
theorem dX10_seekWeights_34 : decode cX10_seekWeights 34 = .ok (.istore_n 1, 1) := by decide +kernel
theorem dX10_seekWeights_35 : decode cX10_seekWeights 35 = .ok (.iload_n 1, 1) := by decide +kernel
theorem dX10_seekWeights_36 : decode cX10_seekWeights 36 = .ok (.bipush 6, 2) := by decide +kernel
theorem dX10_seekWeights_38 : decode cX10_seekWeights 38 = .ok (.if_icmp .gt 22, 3) := by decide +kernel
theorem dX10_seekWeights_41 : decode cX10_seekWeights 41 = .ok (.aload_n 0, 1) := by decide +kernel
theorem dX10_seekWeights_42 : decode cX10_seekWeights 42 = .ok (.iload_n 1, 1) := by decide +kernel
theorem dX10_seekWeights_43 : decode cX10_seekWeights 43 = .ok (.invokevirtual 298, 3) := by decide +kernel
theorem dX10_seekWeights_46 : decode cX10_seekWeights 46 = .ok (.ifCond .eq 8, 3) := by decide +kernel
theorem dX10_seekWeights_49 : decode cX10_seekWeights 49 = .ok (.aload_n 0, 1) := by decide +kernel
theorem dX10_seekWeights_50 : decode cX10_seekWeights 50 = .ok (.invokevirtual 301, 3) := by decide +kernel
theorem dX10_seekWeights_53 : decode cX10_seekWeights 53 = .ok (.ireturn, 1) := by decide +kernel
theorem dX10_seekWeights_54 : decode cX10_seekWeights 54 = .ok (.iinc 1 1, 3) := by decide +kernel
theorem dX10_seekWeights_57 : decode cX10_seekWeights 57 = .ok (.goto (-22), 3) := by decide +kernel
theorem dX10_seekWeights_60 : decode cX10_seekWeights 60 = .ok (.aload_n 0, 1) := by decide +kernel
theorem dX10_seekWeights_61 : decode cX10_seekWeights 61 = .ok (.getfield 84, 3) := by decide +kernel
theorem dX10_seekWeights_64 : decode cX10_seekWeights 64 = .ok (.aload_n 0, 1) := by decide +kernel
theorem dX10_seekWeights_65 : decode cX10_seekWeights 65 = .ok (.getfield 81, 3) := by decide +kernel
theorem dX10_seekWeights_68 : decode cX10_seekWeights 68 = .ok (.aload_n 0, 1) := by decide +kernel
theorem dX10_seekWeights_69 : decode cX10_seekWeights 69 = .ok (.getfield 198, 3) := by decide +kernel
theorem dX10_seekWeights_72 : decode cX10_seekWeights 72 = .ok (.invokestatic 156, 3) := by decide +kernel
theorem dX10_seekWeights_75 : decode cX10_seekWeights 75 = .ok (.iconst (-1), 1) := by decide +kernel
theorem dX10_seekWeights_76 : decode cX10_seekWeights 76 = .ok (.ireturn, 1) := by decide +kernel
theorem dX10_greatestWeight_0 : decode cX10_greatestWeight 0 = .ok (.iconst 0, 1) := by decide +kernel
theorem dX10_greatestWeight_1 : decode cX10_greatestWeight 1 = .ok (.istore_n 1, 1) := by decide +kernel
theorem dX10_greatestWeight_2 : decode cX10_greatestWeight 2 = .ok (.iconst 0, 1) := by decide +kernel
theorem dX10_greatestWeight_3 : decode cX10_greatestWeight 3 = .ok (.istore_n 2, 1) := by decide +kernel
theorem dX10_greatestWeight_4 : decode cX10_greatestWeight 4 = .ok (.iload_n 2, 1) := by decide +kernel
theorem dX10_greatestWeight_5 : decode cX10_greatestWeight 5 = .ok (.aload_n 0, 1) := by decide +kernel
theorem dX10_greatestWeight_6 : decode cX10_greatestWeight 6 = .ok (.getfield 198, 3) := by decide +kernel
theorem dX10_greatestWeight_9 : decode cX10_greatestWeight 9 = .ok (.if_icmp .ge 30, 3) := by decide +kernel
theorem dX10_greatestWeight_12 : decode cX10_greatestWeight 12 = .ok (.aload_n 0, 1) := by decide +kernel
theorem dX10_greatestWeight_13 : decode cX10_greatestWeight 13 = .ok (.getfield 81, 3) := by decide +kernel
theorem dX10_greatestWeight_16 : decode cX10_greatestWeight 16 = .ok (.iload_n 2, 1) := by decide +kernel
theorem dX10_greatestWeight_17 : decode cX10_greatestWeight 17 = .ok (.iaload, 1) := by decide +kernel
theorem dX10_greatestWeight_18 : decode cX10_greatestWeight 18 = .ok (.iload_n 1, 1) := by decide +kernel
theorem dX10_greatestWeight_19 : decode cX10_greatestWeight 19 = .ok (.if_icmp .le 12, 3) := by decide +kernel
theorem dX10_greatestWeight_22 : decode cX10_greatestWeight 22 = .ok (.aload_n 0, 1) := by decide +kernel
theorem dX10_greatestWeight_23 : decode cX10_greatestWeight 23 = .ok (.getfield 81, 3) := by decide +kernel
theorem dX10_greatestWeight_26 : decode cX10_greatestWeight 26 = .ok (.iload_n 2, 1) := by decide +kernel
theorem dX10_greatestWeight_27 : decode cX10_greatestWeight 27 = .ok (.iaload, 1) := by decide +kernel
theorem dX10_greatestWeight_28 : decode cX10_greatestWeight 28 = .ok (.goto 4, 3) := by decide +kernel
theorem dX10_greatestWeight_31 : decode cX10_greatestWeight 31 = .ok (.iload_n 1, 1) := by decide +kernel
theorem dX10_greatestWeight_32 : decode cX10_greatestWeight 32 = .ok (.istore_n 1, 1) := by decide +kernel
theorem dX10_greatestWeight_33 : decode cX10_greatestWeight 33 = .ok (.iinc 2 1, 3) := by decide +kernel
theorem dX10_greatestWeight_36 : decode cX10_greatestWeight 36 = .ok (.goto (-32), 3) := by decide +kernel
theorem dX10_greatestWeight_39 : decode cX10_greatestWeight 39 = .ok (.iload_n 1, 1) := by decide +kernel
theorem dX10_greatestWeight_40 : decode cX10_greatestWeight 40 = .ok (.ireturn, 1) := by decide +kernel
theorem dX10_clear_0 : decode cX10_clear 0 = .ok (.aload_n 0, 1) := by decide +kernel
theorem dX10_clear_1 : decode cX10_clear 1 = .ok (.getfield 198, 3) := by decide +kernel
theorem dX10_clear_4 : decode cX10_clear 4 = .ok (.istore_n 1, 1) := by decide +kernel
theorem dX10_clear_5 : decode cX10_clear 5 = .ok (.aload_n 0, 1) := by decide +kernel
theorem dX10_clear_6 : decode cX10_clear 6 = .ok (.iconst 0, 1) := by decide +kernel
theorem dX10_clear_7 : decode cX10_clear 7 = .ok (.putfield 198, 3) := by decide +kernel
theorem dX10_clear_10 : decode cX10_clear 10 = .ok (.iload_n 1, 1) := by decide +kernel
theorem dX10_clear_11 : decode cX10_clear 11 = .ok (.ireturn, 1) := by decide +kernel
set_option maxRecDepth 20000 in
theorem ggX10_keep_X10_in : GoodIn wsX10_keep wsX10_in := goodIn_r _ [15] (by decide +kernel) (by decide +kernel)
set_option maxRecDepth 20000 in
theorem gX10_keep_X10_in : GoodIn wsX10_keep (va_wsS RX10 96 yX10_in wsX10_in) := goodIn_app (goodIn_of _ (by decide +kernel)) ggX10_keep_X10_in
theorem dX10_keep_0 : decode cX10_keep 0 = .ok (.iload_n 1, 1) := by decide +kernel
theorem dX10_keep_1 : decode cX10_keep 1 = .ok (.i2l, 1) := by decide +kernel
theorem dX10_keep_2 : decode cX10_keep 2 = .ok (.lconst 0, 1) := by decide +kernel
theorem dX10_keep_3 : decode cX10_keep 3 = .ok (.lconst 1, 1) := by decide +kernel
theorem dX10_keep_4 : decode cX10_keep 4 = .ok (.invokestatic 96, 3) := by decide +kernel
theorem dX10_keep_7 : decode cX10_keep 7 = .ok (.ifCond .ne 6, 3) := by decide +kernel
theorem dX10_keep_10 : decode cX10_keep 10 = .ok (.ldc 173, 2) := by decide +kernel
theorem dX10_keep_12 : decode cX10_keep 12 = .ok (.ireturn, 1) := by decide +kernel
theorem dX10_keep_13 : decode cX10_keep 13 = .ok (.aload_n 0, 1) := by decide +kernel
theorem dX10_keep_14 : decode cX10_keep 14 = .ok (.getfield 87, 3) := by decide +kernel
theorem dX10_keep_17 : decode cX10_keep 17 = .ok (.iload_n 1, 1) := by decide +kernel
theorem dX10_keep_18 : decode cX10_keep 18 = .ok (.aload_n 0, 1) := by decide +kernel
theorem dX10_keep_19 : decode cX10_keep 19 = .ok (.getfield 93, 3) := by decide +kernel
theorem dX10_keep_22 : decode cX10_keep 22 = .ok (.iastore, 1) := by decide +kernel
theorem dX10_keep_23 : decode cX10_keep 23 = .ok (.iconst 0, 1) := by decide +kernel
theorem dX10_keep_24 : decode cX10_keep 24 = .ok (.istore_n 2, 1) := by decide +kernel
theorem dX10_keep_25 : decode cX10_keep 25 = .ok (.iload_n 2, 1) := by decide +kernel
theorem dX10_keep_26 : decode cX10_keep 26 = .ok (.aload_n 0, 1) := by decide +kernel
theorem dX10_keep_27 : decode cX10_keep 27 = .ok (.getfield 93, 3) := by decide +kernel
theorem dX10_keep_30 : decode cX10_keep 30 = .ok (.if_icmp .ge 106, 3) := by decide +kernel
theorem dX10_keep_33 : decode cX10_keep 33 = .ok (.sipush 240, 3) := by decide +kernel
theorem dX10_keep_36 : decode cX10_keep 36 = .ok (.iload_n 1, 1) := by decide +kernel
theorem dX10_keep_37 : decode cX10_keep 37 = .ok (.imul, 1) := by decide +kernel
theorem dX10_keep_38 : decode cX10_keep 38 = .ok (.iload_n 2, 1) := by decide +kernel
theorem dX10_keep_39 : decode cX10_keep 39 = .ok (.iadd, 1) := by decide +kernel
theorem dX10_keep_40 : decode cX10_keep 40 = .ok (.istore_n 3, 1) := by decide +kernel
theorem dX10_keep_41 : decode cX10_keep 41 = .ok (.aload_n 0, 1) := by decide +kernel
theorem dX10_keep_42 : decode cX10_keep 42 = .ok (.getfield 90, 3) := by decide +kernel
theorem dX10_keep_45 : decode cX10_keep 45 = .ok (.iload_n 3, 1) := by decide +kernel
theorem dX10_keep_46 : decode cX10_keep 46 = .ok (.aload_n 0, 1) := by decide +kernel
theorem dX10_keep_47 : decode cX10_keep 47 = .ok (.getfield 7, 3) := by decide +kernel
theorem dX10_keep_50 : decode cX10_keep 50 = .ok (.iload_n 2, 1) := by decide +kernel
theorem dX10_keep_51 : decode cX10_keep 51 = .ok (.iaload, 1) := by decide +kernel
theorem dX10_keep_52 : decode cX10_keep 52 = .ok (.iastore, 1) := by decide +kernel
theorem dX10_keep_53 : decode cX10_keep 53 = .ok (.aload_n 0, 1) := by decide +kernel
theorem dX10_keep_54 : decode cX10_keep 54 = .ok (.getfield 90, 3) := by decide +kernel
theorem dX10_keep_57 : decode cX10_keep 57 = .ok (.iload_n 3, 1) := by decide +kernel
theorem dX10_keep_58 : decode cX10_keep 58 = .ok (.bipush 40, 2) := by decide +kernel
theorem dX10_keep_60 : decode cX10_keep 60 = .ok (.iadd, 1) := by decide +kernel
theorem dX10_keep_61 : decode cX10_keep 61 = .ok (.aload_n 0, 1) := by decide +kernel
theorem dX10_keep_62 : decode cX10_keep 62 = .ok (.getfield 13, 3) := by decide +kernel
theorem dX10_keep_65 : decode cX10_keep 65 = .ok (.iload_n 2, 1) := by decide +kernel
theorem dX10_keep_66 : decode cX10_keep 66 = .ok (.iaload, 1) := by decide +kernel
theorem dX10_keep_67 : decode cX10_keep 67 = .ok (.iastore, 1) := by decide +kernel
theorem dX10_keep_68 : decode cX10_keep 68 = .ok (.aload_n 0, 1) := by decide +kernel
theorem dX10_keep_69 : decode cX10_keep 69 = .ok (.getfield 90, 3) := by decide +kernel
theorem dX10_keep_72 : decode cX10_keep 72 = .ok (.iload_n 3, 1) := by decide +kernel
theorem dX10_keep_73 : decode cX10_keep 73 = .ok (.bipush 80, 2) := by decide +kernel
theorem dX10_keep_75 : decode cX10_keep 75 = .ok (.iadd, 1) := by decide +kernel
theorem dX10_keep_76 : decode cX10_keep 76 = .ok (.aload_n 0, 1) := by decide +kernel
theorem dX10_keep_77 : decode cX10_keep 77 = .ok (.getfield 16, 3) := by decide +kernel
theorem dX10_keep_80 : decode cX10_keep 80 = .ok (.iload_n 2, 1) := by decide +kernel
theorem dX10_keep_81 : decode cX10_keep 81 = .ok (.iaload, 1) := by decide +kernel
theorem dX10_keep_82 : decode cX10_keep 82 = .ok (.iastore, 1) := by decide +kernel
theorem dX10_keep_83 : decode cX10_keep 83 = .ok (.aload_n 0, 1) := by decide +kernel
theorem dX10_keep_84 : decode cX10_keep 84 = .ok (.getfield 90, 3) := by decide +kernel
theorem dX10_keep_87 : decode cX10_keep 87 = .ok (.iload_n 3, 1) := by decide +kernel
theorem dX10_keep_88 : decode cX10_keep 88 = .ok (.bipush 120, 2) := by decide +kernel
theorem dX10_keep_90 : decode cX10_keep 90 = .ok (.iadd, 1) := by decide +kernel
theorem dX10_keep_91 : decode cX10_keep 91 = .ok (.aload_n 0, 1) := by decide +kernel
theorem dX10_keep_92 : decode cX10_keep 92 = .ok (.getfield 19, 3) := by decide +kernel
theorem dX10_keep_95 : decode cX10_keep 95 = .ok (.iload_n 2, 1) := by decide +kernel
theorem dX10_keep_96 : decode cX10_keep 96 = .ok (.iaload, 1) := by decide +kernel
theorem dX10_keep_97 : decode cX10_keep 97 = .ok (.iastore, 1) := by decide +kernel
theorem dX10_keep_98 : decode cX10_keep 98 = .ok (.aload_n 0, 1) := by decide +kernel
theorem dX10_keep_99 : decode cX10_keep 99 = .ok (.getfield 90, 3) := by decide +kernel
theorem dX10_keep_102 : decode cX10_keep 102 = .ok (.iload_n 3, 1) := by decide +kernel
theorem dX10_keep_103 : decode cX10_keep 103 = .ok (.sipush 160, 3) := by decide +kernel
theorem dX10_keep_106 : decode cX10_keep 106 = .ok (.iadd, 1) := by decide +kernel
theorem dX10_keep_107 : decode cX10_keep 107 = .ok (.aload_n 0, 1) := by decide +kernel
theorem dX10_keep_108 : decode cX10_keep 108 = .ok (.getfield 22, 3) := by decide +kernel
theorem dX10_keep_111 : decode cX10_keep 111 = .ok (.iload_n 2, 1) := by decide +kernel
theorem dX10_keep_112 : decode cX10_keep 112 = .ok (.iaload, 1) := by decide +kernel
theorem dX10_keep_113 : decode cX10_keep 113 = .ok (.iastore, 1) := by decide +kernel
theorem dX10_keep_114 : decode cX10_keep 114 = .ok (.aload_n 0, 1) := by decide +kernel
theorem dX10_keep_115 : decode cX10_keep 115 = .ok (.getfield 90, 3) := by decide +kernel
theorem dX10_keep_118 : decode cX10_keep 118 = .ok (.iload_n 3, 1) := by decide +kernel
theorem dX10_keep_119 : decode cX10_keep 119 = .ok (.sipush 200, 3) := by decide +kernel
theorem dX10_keep_122 : decode cX10_keep 122 = .ok (.iadd, 1) := by decide +kernel
theorem dX10_keep_123 : decode cX10_keep 123 = .ok (.aload_n 0, 1) := by decide +kernel
theorem dX10_keep_124 : decode cX10_keep 124 = .ok (.getfield 25, 3) := by decide +kernel
theorem dX10_keep_127 : decode cX10_keep 127 = .ok (.iload_n 2, 1) := by decide +kernel
theorem dX10_keep_128 : decode cX10_keep 128 = .ok (.iaload, 1) := by decide +kernel
theorem dX10_keep_129 : decode cX10_keep 129 = .ok (.iastore, 1) := by decide +kernel
theorem dX10_keep_130 : decode cX10_keep 130 = .ok (.iinc 2 1, 3) := by decide +kernel
theorem dX10_keep_133 : decode cX10_keep 133 = .ok (.goto (-108), 3) := by decide +kernel
theorem dX10_keep_136 : decode cX10_keep 136 = .ok (.aload_n 0, 1) := by decide +kernel
theorem dX10_keep_137 : decode cX10_keep 137 = .ok (.iconst 0, 1) := by decide +kernel
theorem dX10_keep_138 : decode cX10_keep 138 = .ok (.putfield 160, 3) := by decide +kernel
theorem dX10_keep_141 : decode cX10_keep 141 = .ok (.aload_n 0, 1) := by decide +kernel
theorem dX10_keep_142 : decode cX10_keep 142 = .ok (.getfield 93, 3) := by decide +kernel
theorem dX10_keep_145 : decode cX10_keep 145 = .ok (.ireturn, 1) := by decide +kernel
set_option maxRecDepth 20000 in
theorem ggX10_goBack_X10_in : GoodIn wsX10_goBack wsX10_in := goodIn_r _ [16] (by decide +kernel) (by decide +kernel)
set_option maxRecDepth 20000 in
theorem gX10_goBack_X10_in : GoodIn wsX10_goBack (va_wsS RX10 96 yX10_in wsX10_in) := goodIn_app (goodIn_of _ (by decide +kernel)) ggX10_goBack_X10_in
theorem dX10_goBack_0 : decode cX10_goBack 0 = .ok (.iload_n 1, 1) := by decide +kernel
theorem dX10_goBack_1 : decode cX10_goBack 1 = .ok (.i2l, 1) := by decide +kernel
theorem dX10_goBack_2 : decode cX10_goBack 2 = .ok (.lconst 0, 1) := by decide +kernel
theorem dX10_goBack_3 : decode cX10_goBack 3 = .ok (.lconst 1, 1) := by decide +kernel
theorem dX10_goBack_4 : decode cX10_goBack 4 = .ok (.invokestatic 96, 3) := by decide +kernel
theorem dX10_goBack_7 : decode cX10_goBack 7 = .ok (.ifCond .ne 6, 3) := by decide +kernel
theorem dX10_goBack_10 : decode cX10_goBack 10 = .ok (.ldc 173, 2) := by decide +kernel
theorem dX10_goBack_12 : decode cX10_goBack 12 = .ok (.ireturn, 1) := by decide +kernel
theorem dX10_goBack_13 : decode cX10_goBack 13 = .ok (.aload_n 0, 1) := by decide +kernel
theorem dX10_goBack_14 : decode cX10_goBack 14 = .ok (.getfield 87, 3) := by decide +kernel
theorem dX10_goBack_17 : decode cX10_goBack 17 = .ok (.iload_n 1, 1) := by decide +kernel
theorem dX10_goBack_18 : decode cX10_goBack 18 = .ok (.iaload, 1) := by decide +kernel
theorem dX10_goBack_19 : decode cX10_goBack 19 = .ok (.ifCond .ge 6, 3) := by decide +kernel
theorem dX10_goBack_22 : decode cX10_goBack 22 = .ok (.ldc 211, 2) := by decide +kernel
theorem dX10_goBack_24 : decode cX10_goBack 24 = .ok (.ireturn, 1) := by decide +kernel
theorem dX10_goBack_25 : decode cX10_goBack 25 = .ok (.aload_n 0, 1) := by decide +kernel
theorem dX10_goBack_26 : decode cX10_goBack 26 = .ok (.aload_n 0, 1) := by decide +kernel
theorem dX10_goBack_27 : decode cX10_goBack 27 = .ok (.getfield 87, 3) := by decide +kernel
theorem dX10_goBack_30 : decode cX10_goBack 30 = .ok (.iload_n 1, 1) := by decide +kernel
theorem dX10_goBack_31 : decode cX10_goBack 31 = .ok (.iaload, 1) := by decide +kernel
theorem dX10_goBack_32 : decode cX10_goBack 32 = .ok (.putfield 93, 3) := by decide +kernel
theorem dX10_goBack_35 : decode cX10_goBack 35 = .ok (.iconst 0, 1) := by decide +kernel
theorem dX10_goBack_36 : decode cX10_goBack 36 = .ok (.istore_n 2, 1) := by decide +kernel
theorem dX10_goBack_37 : decode cX10_goBack 37 = .ok (.iload_n 2, 1) := by decide +kernel
theorem dX10_goBack_38 : decode cX10_goBack 38 = .ok (.aload_n 0, 1) := by decide +kernel
theorem dX10_goBack_39 : decode cX10_goBack 39 = .ok (.getfield 93, 3) := by decide +kernel
theorem dX10_goBack_42 : decode cX10_goBack 42 = .ok (.if_icmp .ge 106, 3) := by decide +kernel
theorem dX10_goBack_45 : decode cX10_goBack 45 = .ok (.sipush 240, 3) := by decide +kernel
theorem dX10_goBack_48 : decode cX10_goBack 48 = .ok (.iload_n 1, 1) := by decide +kernel
theorem dX10_goBack_49 : decode cX10_goBack 49 = .ok (.imul, 1) := by decide +kernel
theorem dX10_goBack_50 : decode cX10_goBack 50 = .ok (.iload_n 2, 1) := by decide +kernel
theorem dX10_goBack_51 : decode cX10_goBack 51 = .ok (.iadd, 1) := by decide +kernel
theorem dX10_goBack_52 : decode cX10_goBack 52 = .ok (.istore_n 3, 1) := by decide +kernel
theorem dX10_goBack_53 : decode cX10_goBack 53 = .ok (.aload_n 0, 1) := by decide +kernel
theorem dX10_goBack_54 : decode cX10_goBack 54 = .ok (.getfield 7, 3) := by decide +kernel
theorem dX10_goBack_57 : decode cX10_goBack 57 = .ok (.iload_n 2, 1) := by decide +kernel
theorem dX10_goBack_58 : decode cX10_goBack 58 = .ok (.aload_n 0, 1) := by decide +kernel
theorem dX10_goBack_59 : decode cX10_goBack 59 = .ok (.getfield 90, 3) := by decide +kernel
theorem dX10_goBack_62 : decode cX10_goBack 62 = .ok (.iload_n 3, 1) := by decide +kernel
theorem dX10_goBack_63 : decode cX10_goBack 63 = .ok (.iaload, 1) := by decide +kernel
theorem dX10_goBack_64 : decode cX10_goBack 64 = .ok (.iastore, 1) := by decide +kernel
theorem dX10_goBack_65 : decode cX10_goBack 65 = .ok (.aload_n 0, 1) := by decide +kernel
theorem dX10_goBack_66 : decode cX10_goBack 66 = .ok (.getfield 13, 3) := by decide +kernel
theorem dX10_goBack_69 : decode cX10_goBack 69 = .ok (.iload_n 2, 1) := by decide +kernel
theorem dX10_goBack_70 : decode cX10_goBack 70 = .ok (.aload_n 0, 1) := by decide +kernel
theorem dX10_goBack_71 : decode cX10_goBack 71 = .ok (.getfield 90, 3) := by decide +kernel
theorem dX10_goBack_74 : decode cX10_goBack 74 = .ok (.iload_n 3, 1) := by decide +kernel
theorem dX10_goBack_75 : decode cX10_goBack 75 = .ok (.bipush 40, 2) := by decide +kernel
theorem dX10_goBack_77 : decode cX10_goBack 77 = .ok (.iadd, 1) := by decide +kernel
theorem dX10_goBack_78 : decode cX10_goBack 78 = .ok (.iaload, 1) := by decide +kernel
theorem dX10_goBack_79 : decode cX10_goBack 79 = .ok (.iastore, 1) := by decide +kernel
theorem dX10_goBack_80 : decode cX10_goBack 80 = .ok (.aload_n 0, 1) := by decide +kernel
theorem dX10_goBack_81 : decode cX10_goBack 81 = .ok (.getfield 16, 3) := by decide +kernel
theorem dX10_goBack_84 : decode cX10_goBack 84 = .ok (.iload_n 2, 1) := by decide +kernel
theorem dX10_goBack_85 : decode cX10_goBack 85 = .ok (.aload_n 0, 1) := by decide +kernel
theorem dX10_goBack_86 : decode cX10_goBack 86 = .ok (.getfield 90, 3) := by decide +kernel
theorem dX10_goBack_89 : decode cX10_goBack 89 = .ok (.iload_n 3, 1) := by decide +kernel
theorem dX10_goBack_90 : decode cX10_goBack 90 = .ok (.bipush 80, 2) := by decide +kernel
theorem dX10_goBack_92 : decode cX10_goBack 92 = .ok (.iadd, 1) := by decide +kernel
theorem dX10_goBack_93 : decode cX10_goBack 93 = .ok (.iaload, 1) := by decide +kernel
theorem dX10_goBack_94 : decode cX10_goBack 94 = .ok (.iastore, 1) := by decide +kernel
theorem dX10_goBack_95 : decode cX10_goBack 95 = .ok (.aload_n 0, 1) := by decide +kernel
theorem dX10_goBack_96 : decode cX10_goBack 96 = .ok (.getfield 19, 3) := by decide +kernel
theorem dX10_goBack_99 : decode cX10_goBack 99 = .ok (.iload_n 2, 1) := by decide +kernel
theorem dX10_goBack_100 : decode cX10_goBack 100 = .ok (.aload_n 0, 1) := by decide +kernel
theorem dX10_goBack_101 : decode cX10_goBack 101 = .ok (.getfield 90, 3) := by decide +kernel
theorem dX10_goBack_104 : decode cX10_goBack 104 = .ok (.iload_n 3, 1) := by decide +kernel
theorem dX10_goBack_105 : decode cX10_goBack 105 = .ok (.bipush 120, 2) := by decide +kernel
theorem dX10_goBack_107 : decode cX10_goBack 107 = .ok (.iadd, 1) := by decide +kernel
theorem dX10_goBack_108 : decode cX10_goBack 108 = .ok (.iaload, 1) := by decide +kernel
theorem dX10_goBack_109 : decode cX10_goBack 109 = .ok (.iastore, 1) := by decide +kernel
theorem dX10_goBack_110 : decode cX10_goBack 110 = .ok (.aload_n 0, 1) := by decide +kernel
theorem dX10_goBack_111 : decode cX10_goBack 111 = .ok (.getfield 22, 3) := by decide +kernel
theorem dX10_goBack_114 : decode cX10_goBack 114 = .ok (.iload_n 2, 1) := by decide +kernel
theorem dX10_goBack_115 : decode cX10_goBack 115 = .ok (.aload_n 0, 1) := by decide +kernel
theorem dX10_goBack_116 : decode cX10_goBack 116 = .ok (.getfield 90, 3) := by decide +kernel
theorem dX10_goBack_119 : decode cX10_goBack 119 = .ok (.iload_n 3, 1) := by decide +kernel
theorem dX10_goBack_120 : decode cX10_goBack 120 = .ok (.sipush 160, 3) := by decide +kernel
theorem dX10_goBack_123 : decode cX10_goBack 123 = .ok (.iadd, 1) := by decide +kernel
theorem dX10_goBack_124 : decode cX10_goBack 124 = .ok (.iaload, 1) := by decide +kernel
theorem dX10_goBack_125 : decode cX10_goBack 125 = .ok (.iastore, 1) := by decide +kernel
theorem dX10_goBack_126 : decode cX10_goBack 126 = .ok (.aload_n 0, 1) := by decide +kernel
theorem dX10_goBack_127 : decode cX10_goBack 127 = .ok (.getfield 25, 3) := by decide +kernel
theorem dX10_goBack_130 : decode cX10_goBack 130 = .ok (.iload_n 2, 1) := by decide +kernel
theorem dX10_goBack_131 : decode cX10_goBack 131 = .ok (.aload_n 0, 1) := by decide +kernel
theorem dX10_goBack_132 : decode cX10_goBack 132 = .ok (.getfield 90, 3) := by decide +kernel
theorem dX10_goBack_135 : decode cX10_goBack 135 = .ok (.iload_n 3, 1) := by decide +kernel
theorem dX10_goBack_136 : decode cX10_goBack 136 = .ok (.sipush 200, 3) := by decide +kernel
theorem dX10_goBack_139 : decode cX10_goBack 139 = .ok (.iadd, 1) := by decide +kernel
theorem dX10_goBack_140 : decode cX10_goBack 140 = .ok (.iaload, 1) := by decide +kernel
theorem dX10_goBack_141 : decode cX10_goBack 141 = .ok (.iastore, 1) := by decide +kernel
theorem dX10_goBack_142 : decode cX10_goBack 142 = .ok (.iinc 2 1, 3) := by decide +kernel
theorem dX10_goBack_145 : decode cX10_goBack 145 = .ok (.goto (-108), 3) := by decide +kernel
theorem dX10_goBack_148 : decode cX10_goBack 148 = .ok (.aload_n 0, 1) := by decide +kernel
theorem dX10_goBack_149 : decode cX10_goBack 149 = .ok (.iconst 0, 1) := by decide +kernel
theorem dX10_goBack_150 : decode cX10_goBack 150 = .ok (.putfield 160, 3) := by decide +kernel
theorem dX10_goBack_153 : decode cX10_goBack 153 = .ok (.aload_n 0, 1) := by decide +kernel
theorem dX10_goBack_154 : decode cX10_goBack 154 = .ok (.getfield 93, 3) := by decide +kernel
theorem dX10_goBack_157 : decode cX10_goBack 157 = .ok (.ireturn, 1) := by decide +kernel
theorem dJ6_numberOfTrailingZeros_0f7a4_0 : decode cJ6_numberOfTrailingZeros_0f7a4 0 = .ok (.iload_n 0, 1) := by decide +kernel
theorem dJ6_numberOfTrailingZeros_0f7a4_1 : decode cJ6_numberOfTrailingZeros_0f7a4 1 = .ok (.iconst (-1), 1) := by decide +kernel
theorem dJ6_numberOfTrailingZeros_0f7a4_2 : decode cJ6_numberOfTrailingZeros_0f7a4 2 = .ok (.ixor, 1) := by decide +kernel
theorem dJ6_numberOfTrailingZeros_0f7a4_3 : decode cJ6_numberOfTrailingZeros_0f7a4 3 = .ok (.iload_n 0, 1) := by decide +kernel
theorem dJ6_numberOfTrailingZeros_0f7a4_4 : decode cJ6_numberOfTrailingZeros_0f7a4 4 = .ok (.iconst 1, 1) := by decide +kernel
theorem dJ6_numberOfTrailingZeros_0f7a4_5 : decode cJ6_numberOfTrailingZeros_0f7a4 5 = .ok (.isub, 1) := by decide +kernel
theorem dJ6_numberOfTrailingZeros_0f7a4_6 : decode cJ6_numberOfTrailingZeros_0f7a4 6 = .ok (.iand, 1) := by decide +kernel
theorem dJ6_numberOfTrailingZeros_0f7a4_7 : decode cJ6_numberOfTrailingZeros_0f7a4 7 = .ok (.istore_n 0, 1) := by decide +kernel
theorem dJ6_numberOfTrailingZeros_0f7a4_8 : decode cJ6_numberOfTrailingZeros_0f7a4 8 = .ok (.iload_n 0, 1) := by decide +kernel
theorem dJ6_numberOfTrailingZeros_0f7a4_9 : decode cJ6_numberOfTrailingZeros_0f7a4 9 = .ok (.ifCond .gt 8, 3) := by decide +kernel
theorem dJ6_numberOfTrailingZeros_0f7a4_12 : decode cJ6_numberOfTrailingZeros_0f7a4 12 = .ok (.iload_n 0, 1) := by decide +kernel
theorem dJ6_numberOfTrailingZeros_0f7a4_13 : decode cJ6_numberOfTrailingZeros_0f7a4 13 = .ok (.bipush 32, 2) := by decide +kernel
theorem dJ6_numberOfTrailingZeros_0f7a4_15 : decode cJ6_numberOfTrailingZeros_0f7a4 15 = .ok (.iand, 1) := by decide +kernel
theorem dJ6_numberOfTrailingZeros_0f7a4_16 : decode cJ6_numberOfTrailingZeros_0f7a4 16 = .ok (.ireturn, 1) := by decide +kernel
theorem dJ6_numberOfTrailingZeros_0f7a4_17 : decode cJ6_numberOfTrailingZeros_0f7a4 17 = .ok (.iconst 1, 1) := by decide +kernel
theorem dJ6_numberOfTrailingZeros_0f7a4_18 : decode cJ6_numberOfTrailingZeros_0f7a4 18 = .ok (.istore_n 1, 1) := by decide +kernel
theorem dJ6_numberOfTrailingZeros_0f7a4_19 : decode cJ6_numberOfTrailingZeros_0f7a4 19 = .ok (.iload_n 0, 1) := by decide +kernel
theorem dJ6_numberOfTrailingZeros_0f7a4_20 : decode cJ6_numberOfTrailingZeros_0f7a4 20 = .ok (.ldc_w 264, 3) := by decide +kernel
theorem dJ6_numberOfTrailingZeros_0f7a4_23 : decode cJ6_numberOfTrailingZeros_0f7a4 23 = .ok (.if_icmp .le 11, 3) := by decide +kernel
theorem dJ6_numberOfTrailingZeros_0f7a4_26 : decode cJ6_numberOfTrailingZeros_0f7a4 26 = .ok (.iinc 1 16, 3) := by decide +kernel
theorem dJ6_numberOfTrailingZeros_0f7a4_29 : decode cJ6_numberOfTrailingZeros_0f7a4 29 = .ok (.iload_n 0, 1) := by decide +kernel
theorem dJ6_numberOfTrailingZeros_0f7a4_30 : decode cJ6_numberOfTrailingZeros_0f7a4 30 = .ok (.bipush 16, 2) := by decide +kernel
theorem dJ6_numberOfTrailingZeros_0f7a4_32 : decode cJ6_numberOfTrailingZeros_0f7a4 32 = .ok (.iushr, 1) := by decide +kernel
theorem dJ6_numberOfTrailingZeros_0f7a4_33 : decode cJ6_numberOfTrailingZeros_0f7a4 33 = .ok (.istore_n 0, 1) := by decide +kernel
theorem dJ6_numberOfTrailingZeros_0f7a4_34 : decode cJ6_numberOfTrailingZeros_0f7a4 34 = .ok (.iload_n 0, 1) := by decide +kernel
theorem dJ6_numberOfTrailingZeros_0f7a4_35 : decode cJ6_numberOfTrailingZeros_0f7a4 35 = .ok (.sipush 256, 3) := by decide +kernel
theorem dJ6_numberOfTrailingZeros_0f7a4_38 : decode cJ6_numberOfTrailingZeros_0f7a4 38 = .ok (.if_icmp .le 11, 3) := by decide +kernel
theorem dJ6_numberOfTrailingZeros_0f7a4_41 : decode cJ6_numberOfTrailingZeros_0f7a4 41 = .ok (.iinc 1 8, 3) := by decide +kernel
theorem dJ6_numberOfTrailingZeros_0f7a4_44 : decode cJ6_numberOfTrailingZeros_0f7a4 44 = .ok (.iload_n 0, 1) := by decide +kernel
theorem dJ6_numberOfTrailingZeros_0f7a4_45 : decode cJ6_numberOfTrailingZeros_0f7a4 45 = .ok (.bipush 8, 2) := by decide +kernel
theorem dJ6_numberOfTrailingZeros_0f7a4_47 : decode cJ6_numberOfTrailingZeros_0f7a4 47 = .ok (.iushr, 1) := by decide +kernel
theorem dJ6_numberOfTrailingZeros_0f7a4_48 : decode cJ6_numberOfTrailingZeros_0f7a4 48 = .ok (.istore_n 0, 1) := by decide +kernel
theorem dJ6_numberOfTrailingZeros_0f7a4_49 : decode cJ6_numberOfTrailingZeros_0f7a4 49 = .ok (.iload_n 0, 1) := by decide +kernel
theorem dJ6_numberOfTrailingZeros_0f7a4_50 : decode cJ6_numberOfTrailingZeros_0f7a4 50 = .ok (.bipush 16, 2) := by decide +kernel
theorem dJ6_numberOfTrailingZeros_0f7a4_52 : decode cJ6_numberOfTrailingZeros_0f7a4 52 = .ok (.if_icmp .le 10, 3) := by decide +kernel
theorem dJ6_numberOfTrailingZeros_0f7a4_55 : decode cJ6_numberOfTrailingZeros_0f7a4 55 = .ok (.iinc 1 4, 3) := by decide +kernel
theorem dJ6_numberOfTrailingZeros_0f7a4_58 : decode cJ6_numberOfTrailingZeros_0f7a4 58 = .ok (.iload_n 0, 1) := by decide +kernel
theorem dJ6_numberOfTrailingZeros_0f7a4_59 : decode cJ6_numberOfTrailingZeros_0f7a4 59 = .ok (.iconst 4, 1) := by decide +kernel
theorem dJ6_numberOfTrailingZeros_0f7a4_60 : decode cJ6_numberOfTrailingZeros_0f7a4 60 = .ok (.iushr, 1) := by decide +kernel
theorem dJ6_numberOfTrailingZeros_0f7a4_61 : decode cJ6_numberOfTrailingZeros_0f7a4 61 = .ok (.istore_n 0, 1) := by decide +kernel
theorem dJ6_numberOfTrailingZeros_0f7a4_62 : decode cJ6_numberOfTrailingZeros_0f7a4 62 = .ok (.iload_n 0, 1) := by decide +kernel
theorem dJ6_numberOfTrailingZeros_0f7a4_63 : decode cJ6_numberOfTrailingZeros_0f7a4 63 = .ok (.iconst 4, 1) := by decide +kernel
theorem dJ6_numberOfTrailingZeros_0f7a4_64 : decode cJ6_numberOfTrailingZeros_0f7a4 64 = .ok (.if_icmp .le 10, 3) := by decide +kernel
theorem dJ6_numberOfTrailingZeros_0f7a4_67 : decode cJ6_numberOfTrailingZeros_0f7a4 67 = .ok (.iinc 1 2, 3) := by decide +kernel
theorem dJ6_numberOfTrailingZeros_0f7a4_70 : decode cJ6_numberOfTrailingZeros_0f7a4 70 = .ok (.iload_n 0, 1) := by decide +kernel
theorem dJ6_numberOfTrailingZeros_0f7a4_71 : decode cJ6_numberOfTrailingZeros_0f7a4 71 = .ok (.iconst 2, 1) := by decide +kernel
theorem dJ6_numberOfTrailingZeros_0f7a4_72 : decode cJ6_numberOfTrailingZeros_0f7a4 72 = .ok (.iushr, 1) := by decide +kernel
theorem dJ6_numberOfTrailingZeros_0f7a4_73 : decode cJ6_numberOfTrailingZeros_0f7a4 73 = .ok (.istore_n 0, 1) := by decide +kernel
theorem dJ6_numberOfTrailingZeros_0f7a4_74 : decode cJ6_numberOfTrailingZeros_0f7a4 74 = .ok (.iload_n 1, 1) := by decide +kernel
theorem dJ6_numberOfTrailingZeros_0f7a4_75 : decode cJ6_numberOfTrailingZeros_0f7a4 75 = .ok (.iload_n 0, 1) := by decide +kernel
theorem dJ6_numberOfTrailingZeros_0f7a4_76 : decode cJ6_numberOfTrailingZeros_0f7a4 76 = .ok (.iconst 1, 1) := by decide +kernel
theorem dJ6_numberOfTrailingZeros_0f7a4_77 : decode cJ6_numberOfTrailingZeros_0f7a4 77 = .ok (.iushr, 1) := by decide +kernel
theorem dJ6_numberOfTrailingZeros_0f7a4_78 : decode cJ6_numberOfTrailingZeros_0f7a4 78 = .ok (.iadd, 1) := by decide +kernel
theorem dJ6_numberOfTrailingZeros_0f7a4_79 : decode cJ6_numberOfTrailingZeros_0f7a4 79 = .ok (.ireturn, 1) := by decide +kernel
theorem dJ6_bitCount_0f7a4_0 : decode cJ6_bitCount_0f7a4 0 = .ok (.iload_n 0, 1) := by decide +kernel
theorem dJ6_bitCount_0f7a4_1 : decode cJ6_bitCount_0f7a4 1 = .ok (.iload_n 0, 1) := by decide +kernel
theorem dJ6_bitCount_0f7a4_2 : decode cJ6_bitCount_0f7a4 2 = .ok (.iconst 1, 1) := by decide +kernel
theorem dJ6_bitCount_0f7a4_3 : decode cJ6_bitCount_0f7a4 3 = .ok (.iushr, 1) := by decide +kernel
theorem dJ6_bitCount_0f7a4_4 : decode cJ6_bitCount_0f7a4 4 = .ok (.ldc_w 265, 3) := by decide +kernel
theorem dJ6_bitCount_0f7a4_7 : decode cJ6_bitCount_0f7a4 7 = .ok (.iand, 1) := by decide +kernel
theorem dJ6_bitCount_0f7a4_8 : decode cJ6_bitCount_0f7a4 8 = .ok (.isub, 1) := by decide +kernel
theorem dJ6_bitCount_0f7a4_9 : decode cJ6_bitCount_0f7a4 9 = .ok (.istore_n 0, 1) := by decide +kernel
theorem dJ6_bitCount_0f7a4_10 : decode cJ6_bitCount_0f7a4 10 = .ok (.iload_n 0, 1) := by decide +kernel
theorem dJ6_bitCount_0f7a4_11 : decode cJ6_bitCount_0f7a4 11 = .ok (.ldc_w 266, 3) := by decide +kernel
theorem dJ6_bitCount_0f7a4_14 : decode cJ6_bitCount_0f7a4 14 = .ok (.iand, 1) := by decide +kernel
theorem dJ6_bitCount_0f7a4_15 : decode cJ6_bitCount_0f7a4 15 = .ok (.iload_n 0, 1) := by decide +kernel
theorem dJ6_bitCount_0f7a4_16 : decode cJ6_bitCount_0f7a4 16 = .ok (.iconst 2, 1) := by decide +kernel
theorem dJ6_bitCount_0f7a4_17 : decode cJ6_bitCount_0f7a4 17 = .ok (.iushr, 1) := by decide +kernel
theorem dJ6_bitCount_0f7a4_18 : decode cJ6_bitCount_0f7a4 18 = .ok (.ldc_w 266, 3) := by decide +kernel
theorem dJ6_bitCount_0f7a4_21 : decode cJ6_bitCount_0f7a4 21 = .ok (.iand, 1) := by decide +kernel
theorem dJ6_bitCount_0f7a4_22 : decode cJ6_bitCount_0f7a4 22 = .ok (.iadd, 1) := by decide +kernel
theorem dJ6_bitCount_0f7a4_23 : decode cJ6_bitCount_0f7a4 23 = .ok (.istore_n 0, 1) := by decide +kernel
theorem dJ6_bitCount_0f7a4_24 : decode cJ6_bitCount_0f7a4 24 = .ok (.iload_n 0, 1) := by decide +kernel
theorem dJ6_bitCount_0f7a4_25 : decode cJ6_bitCount_0f7a4 25 = .ok (.iload_n 0, 1) := by decide +kernel
theorem dJ6_bitCount_0f7a4_26 : decode cJ6_bitCount_0f7a4 26 = .ok (.iconst 4, 1) := by decide +kernel
theorem dJ6_bitCount_0f7a4_27 : decode cJ6_bitCount_0f7a4 27 = .ok (.iushr, 1) := by decide +kernel
theorem dJ6_bitCount_0f7a4_28 : decode cJ6_bitCount_0f7a4 28 = .ok (.iadd, 1) := by decide +kernel
theorem dJ6_bitCount_0f7a4_29 : decode cJ6_bitCount_0f7a4 29 = .ok (.ldc_w 267, 3) := by decide +kernel
theorem dJ6_bitCount_0f7a4_32 : decode cJ6_bitCount_0f7a4 32 = .ok (.iand, 1) := by decide +kernel
theorem dJ6_bitCount_0f7a4_33 : decode cJ6_bitCount_0f7a4 33 = .ok (.istore_n 0, 1) := by decide +kernel
theorem dJ6_bitCount_0f7a4_34 : decode cJ6_bitCount_0f7a4 34 = .ok (.iload_n 0, 1) := by decide +kernel
theorem dJ6_bitCount_0f7a4_35 : decode cJ6_bitCount_0f7a4 35 = .ok (.iload_n 0, 1) := by decide +kernel
theorem dJ6_bitCount_0f7a4_36 : decode cJ6_bitCount_0f7a4 36 = .ok (.bipush 8, 2) := by decide +kernel
theorem dJ6_bitCount_0f7a4_38 : decode cJ6_bitCount_0f7a4 38 = .ok (.iushr, 1) := by decide +kernel
theorem dJ6_bitCount_0f7a4_39 : decode cJ6_bitCount_0f7a4 39 = .ok (.iadd, 1) := by decide +kernel
theorem dJ6_bitCount_0f7a4_40 : decode cJ6_bitCount_0f7a4 40 = .ok (.istore_n 0, 1) := by decide +kernel
theorem dJ6_bitCount_0f7a4_41 : decode cJ6_bitCount_0f7a4 41 = .ok (.iload_n 0, 1) := by decide +kernel
theorem dJ6_bitCount_0f7a4_42 : decode cJ6_bitCount_0f7a4 42 = .ok (.iload_n 0, 1) := by decide +kernel
theorem dJ6_bitCount_0f7a4_43 : decode cJ6_bitCount_0f7a4 43 = .ok (.bipush 16, 2) := by decide +kernel
theorem dJ6_bitCount_0f7a4_45 : decode cJ6_bitCount_0f7a4 45 = .ok (.iushr, 1) := by decide +kernel
theorem dJ6_bitCount_0f7a4_46 : decode cJ6_bitCount_0f7a4 46 = .ok (.iadd, 1) := by decide +kernel
theorem dJ6_bitCount_0f7a4_47 : decode cJ6_bitCount_0f7a4 47 = .ok (.istore_n 0, 1) := by decide +kernel
theorem dJ6_bitCount_0f7a4_48 : decode cJ6_bitCount_0f7a4 48 = .ok (.iload_n 0, 1) := by decide +kernel
theorem dJ6_bitCount_0f7a4_49 : decode cJ6_bitCount_0f7a4 49 = .ok (.bipush 63, 2) := by decide +kernel
theorem dJ6_bitCount_0f7a4_51 : decode cJ6_bitCount_0f7a4 51 = .ok (.iand, 1) := by decide +kernel
theorem dJ6_bitCount_0f7a4_52 : decode cJ6_bitCount_0f7a4 52 = .ok (.ireturn, 1) := by decide +kernel
theorem dJ13_bitCount_95d88_0 : decode cJ13_bitCount_95d88 0 = .ok (.lload_n 0, 1) := by decide +kernel
theorem dJ13_bitCount_95d88_1 : decode cJ13_bitCount_95d88 1 = .ok (.lload_n 0, 1) := by decide +kernel
theorem dJ13_bitCount_95d88_2 : decode cJ13_bitCount_95d88 2 = .ok (.iconst 1, 1) := by decide +kernel
theorem dJ13_bitCount_95d88_3 : decode cJ13_bitCount_95d88 3 = .ok (.lushr, 1) := by decide +kernel
theorem dJ13_bitCount_95d88_4 : decode cJ13_bitCount_95d88 4 = .ok (.ldc2_w 314, 3) := by decide +kernel
theorem dJ13_bitCount_95d88_7 : decode cJ13_bitCount_95d88 7 = .ok (.land, 1) := by decide +kernel
theorem dJ13_bitCount_95d88_8 : decode cJ13_bitCount_95d88 8 = .ok (.lsub, 1) := by decide +kernel
theorem dJ13_bitCount_95d88_9 : decode cJ13_bitCount_95d88 9 = .ok (.lstore_n 0, 1) := by decide +kernel
theorem dJ13_bitCount_95d88_10 : decode cJ13_bitCount_95d88 10 = .ok (.lload_n 0, 1) := by decide +kernel
theorem dJ13_bitCount_95d88_11 : decode cJ13_bitCount_95d88 11 = .ok (.ldc2_w 316, 3) := by decide +kernel
theorem dJ13_bitCount_95d88_14 : decode cJ13_bitCount_95d88 14 = .ok (.land, 1) := by decide +kernel
theorem dJ13_bitCount_95d88_15 : decode cJ13_bitCount_95d88 15 = .ok (.lload_n 0, 1) := by decide +kernel
theorem dJ13_bitCount_95d88_16 : decode cJ13_bitCount_95d88 16 = .ok (.iconst 2, 1) := by decide +kernel
theorem dJ13_bitCount_95d88_17 : decode cJ13_bitCount_95d88 17 = .ok (.lushr, 1) := by decide +kernel
theorem dJ13_bitCount_95d88_18 : decode cJ13_bitCount_95d88 18 = .ok (.ldc2_w 316, 3) := by decide +kernel
theorem dJ13_bitCount_95d88_21 : decode cJ13_bitCount_95d88 21 = .ok (.land, 1) := by decide +kernel
theorem dJ13_bitCount_95d88_22 : decode cJ13_bitCount_95d88 22 = .ok (.ladd, 1) := by decide +kernel
theorem dJ13_bitCount_95d88_23 : decode cJ13_bitCount_95d88 23 = .ok (.lstore_n 0, 1) := by decide +kernel
theorem dJ13_bitCount_95d88_24 : decode cJ13_bitCount_95d88 24 = .ok (.lload_n 0, 1) := by decide +kernel
theorem dJ13_bitCount_95d88_25 : decode cJ13_bitCount_95d88 25 = .ok (.lload_n 0, 1) := by decide +kernel
theorem dJ13_bitCount_95d88_26 : decode cJ13_bitCount_95d88 26 = .ok (.iconst 4, 1) := by decide +kernel
theorem dJ13_bitCount_95d88_27 : decode cJ13_bitCount_95d88 27 = .ok (.lushr, 1) := by decide +kernel
theorem dJ13_bitCount_95d88_28 : decode cJ13_bitCount_95d88 28 = .ok (.ladd, 1) := by decide +kernel
theorem dJ13_bitCount_95d88_29 : decode cJ13_bitCount_95d88 29 = .ok (.ldc2_w 318, 3) := by decide +kernel
theorem dJ13_bitCount_95d88_32 : decode cJ13_bitCount_95d88 32 = .ok (.land, 1) := by decide +kernel
theorem dJ13_bitCount_95d88_33 : decode cJ13_bitCount_95d88 33 = .ok (.lstore_n 0, 1) := by decide +kernel
theorem dJ13_bitCount_95d88_34 : decode cJ13_bitCount_95d88 34 = .ok (.lload_n 0, 1) := by decide +kernel
theorem dJ13_bitCount_95d88_35 : decode cJ13_bitCount_95d88 35 = .ok (.lload_n 0, 1) := by decide +kernel
theorem dJ13_bitCount_95d88_36 : decode cJ13_bitCount_95d88 36 = .ok (.bipush 8, 2) := by decide +kernel
theorem dJ13_bitCount_95d88_38 : decode cJ13_bitCount_95d88 38 = .ok (.lushr, 1) := by decide +kernel
theorem dJ13_bitCount_95d88_39 : decode cJ13_bitCount_95d88 39 = .ok (.ladd, 1) := by decide +kernel
theorem dJ13_bitCount_95d88_40 : decode cJ13_bitCount_95d88 40 = .ok (.lstore_n 0, 1) := by decide +kernel
theorem dJ13_bitCount_95d88_41 : decode cJ13_bitCount_95d88 41 = .ok (.lload_n 0, 1) := by decide +kernel
theorem dJ13_bitCount_95d88_42 : decode cJ13_bitCount_95d88 42 = .ok (.lload_n 0, 1) := by decide +kernel
theorem dJ13_bitCount_95d88_43 : decode cJ13_bitCount_95d88 43 = .ok (.bipush 16, 2) := by decide +kernel
theorem dJ13_bitCount_95d88_45 : decode cJ13_bitCount_95d88 45 = .ok (.lushr, 1) := by decide +kernel
theorem dJ13_bitCount_95d88_46 : decode cJ13_bitCount_95d88 46 = .ok (.ladd, 1) := by decide +kernel
theorem dJ13_bitCount_95d88_47 : decode cJ13_bitCount_95d88 47 = .ok (.lstore_n 0, 1) := by decide +kernel
theorem dJ13_bitCount_95d88_48 : decode cJ13_bitCount_95d88 48 = .ok (.lload_n 0, 1) := by decide +kernel
theorem dJ13_bitCount_95d88_49 : decode cJ13_bitCount_95d88 49 = .ok (.lload_n 0, 1) := by decide +kernel
theorem dJ13_bitCount_95d88_50 : decode cJ13_bitCount_95d88 50 = .ok (.bipush 32, 2) := by decide +kernel
theorem dJ13_bitCount_95d88_52 : decode cJ13_bitCount_95d88 52 = .ok (.lushr, 1) := by decide +kernel
theorem dJ13_bitCount_95d88_53 : decode cJ13_bitCount_95d88 53 = .ok (.ladd, 1) := by decide +kernel
theorem dJ13_bitCount_95d88_54 : decode cJ13_bitCount_95d88 54 = .ok (.lstore_n 0, 1) := by decide +kernel
theorem dJ13_bitCount_95d88_55 : decode cJ13_bitCount_95d88 55 = .ok (.lload_n 0, 1) := by decide +kernel
theorem dJ13_bitCount_95d88_56 : decode cJ13_bitCount_95d88 56 = .ok (.l2i, 1) := by decide +kernel
theorem dJ13_bitCount_95d88_57 : decode cJ13_bitCount_95d88 57 = .ok (.bipush 127, 2) := by decide +kernel
theorem dJ13_bitCount_95d88_59 : decode cJ13_bitCount_95d88 59 = .ok (.iand, 1) := by decide +kernel
theorem dJ13_bitCount_95d88_60 : decode cJ13_bitCount_95d88 60 = .ok (.ireturn, 1) := by decide +kernel
theorem dJ9_max_7cf53_0 : decode cJ9_max_7cf53 0 = .ok (.iload_n 0, 1) := by decide +kernel
theorem dJ9_max_7cf53_1 : decode cJ9_max_7cf53 1 = .ok (.iload_n 1, 1) := by decide +kernel
theorem dJ9_max_7cf53_2 : decode cJ9_max_7cf53 2 = .ok (.if_icmp .lt 7, 3) := by decide +kernel
theorem dJ9_max_7cf53_5 : decode cJ9_max_7cf53 5 = .ok (.iload_n 0, 1) := by decide +kernel
theorem dJ9_max_7cf53_6 : decode cJ9_max_7cf53 6 = .ok (.goto 4, 3) := by decide +kernel
theorem dJ9_max_7cf53_9 : decode cJ9_max_7cf53 9 = .ok (.iload_n 1, 1) := by decide +kernel
theorem dJ9_max_7cf53_10 : decode cJ9_max_7cf53 10 = .ok (.ireturn, 1) := by decide +kernel
theorem dJ9_min_7cf53_0 : decode cJ9_min_7cf53 0 = .ok (.iload_n 0, 1) := by decide +kernel
theorem dJ9_min_7cf53_1 : decode cJ9_min_7cf53 1 = .ok (.iload_n 1, 1) := by decide +kernel
theorem dJ9_min_7cf53_2 : decode cJ9_min_7cf53 2 = .ok (.if_icmp .gt 7, 3) := by decide +kernel
theorem dJ9_min_7cf53_5 : decode cJ9_min_7cf53 5 = .ok (.iload_n 0, 1) := by decide +kernel
theorem dJ9_min_7cf53_6 : decode cJ9_min_7cf53 6 = .ok (.goto 4, 3) := by decide +kernel
theorem dJ9_min_7cf53_9 : decode cJ9_min_7cf53 9 = .ok (.iload_n 1, 1) := by decide +kernel
theorem dJ9_min_7cf53_10 : decode cJ9_min_7cf53 10 = .ok (.ireturn, 1) := by decide +kernel
