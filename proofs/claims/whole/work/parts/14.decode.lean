theorem dX10_takeWord_160 : decode cX10_takeWord 160 = .ok (.getfield 109, 3) := by decide +kernel
theorem dX10_takeWord_163 : decode cX10_takeWord 163 = .ok (.iconst 1, 1) := by decide +kernel
theorem dX10_takeWord_164 : decode cX10_takeWord 164 = .ok (.iadd, 1) := by decide +kernel
theorem dX10_takeWord_165 : decode cX10_takeWord 165 = .ok (.putfield 109, 3) := by decide +kernel
theorem dX10_takeWord_168 : decode cX10_takeWord 168 = .ok (.iload_n 3, 1) := by decide +kernel
theorem dX10_takeWord_169 : decode cX10_takeWord 169 = .ok (.ireturn, 1) := by decide +kernel
theorem dX10_copyRow_0 : decode cX10_copyRow 0 = .ok (.iconst 0, 1) := by decide +kernel
theorem dX10_copyRow_1 : decode cX10_copyRow 1 = .ok (.istore_n 3, 1) := by decide +kernel
theorem dX10_copyRow_2 : decode cX10_copyRow 2 = .ok (.iload_n 3, 1) := by decide +kernel
theorem dX10_copyRow_3 : decode cX10_copyRow 3 = .ok (.iload_n 2, 1) := by decide +kernel
theorem dX10_copyRow_4 : decode cX10_copyRow 4 = .ok (.if_icmp .ge 15, 3) := by decide +kernel
theorem dX10_copyRow_7 : decode cX10_copyRow 7 = .ok (.aload_n 1, 1) := by decide +kernel
theorem dX10_copyRow_8 : decode cX10_copyRow 8 = .ok (.iload_n 3, 1) := by decide +kernel
theorem dX10_copyRow_9 : decode cX10_copyRow 9 = .ok (.aload_n 0, 1) := by decide +kernel
theorem dX10_copyRow_10 : decode cX10_copyRow 10 = .ok (.iload_n 3, 1) := by decide +kernel
theorem dX10_copyRow_11 : decode cX10_copyRow 11 = .ok (.iaload, 1) := by decide +kernel
theorem dX10_copyRow_12 : decode cX10_copyRow 12 = .ok (.iastore, 1) := by decide +kernel
theorem dX10_copyRow_13 : decode cX10_copyRow 13 = .ok (.iinc 3 1, 3) := by decide +kernel
theorem dX10_copyRow_16 : decode cX10_copyRow 16 = .ok (.goto (-14), 3) := by decide +kernel
theorem dX10_copyRow_19 : decode cX10_copyRow 19 = .ok (.return_, 1) := by decide +kernel
set_option maxRecDepth 20000 in
theorem ggX10_parties_X10_here : GoodIn wsX10_parties wsX10_here := goodIn_r _ [26, 2, 5, 27, 61, 62, 63, 64, 65, 66, 67, 68, 69, 70, 71, 72, 73, 74, 75, 76, 77, 78, 79, 80, 81, 82, 83, 84, 85, 86, 87, 88, 89, 90, 91, 92, 93, 94, 95, 96, 97, 98] (by decide +kernel) (by decide +kernel)
set_option maxRecDepth 20000 in
theorem gX10_parties_X10_here : GoodIn wsX10_parties (wsV RX10 112 RX10 yX10_here wsX10_here) := goodIn_app (goodIn_of _ (by decide +kernel)) ggX10_parties_X10_here
set_option maxRecDepth 20000 in
theorem ggX10_parties_X10_takeWord : GoodIn wsX10_parties wsX10_takeWord := goodIn_r _ [31, 4, 3, 2, 22, 23, 24, 25, 26, 5, 27, 32, 33, 34, 35, 1, 36, 37, 38, 39, 8, 40, 41, 10, 12, 18, 14, 16, 42, 43, 44, 45, 46, 47, 48, 49, 50, 51, 52, 53, 54, 55, 56, 57, 61, 62, 63, 64, 65, 66, 67, 68, 69, 70, 71, 72, 73, 74, 75, 76, 77, 78, 79, 80, 81, 82, 83, 84, 85, 86, 87, 88, 89, 90, 91, 92, 93, 94, 95, 96, 97, 98] (by decide +kernel) (by decide +kernel)
set_option maxRecDepth 20000 in
theorem gX10_parties_X10_takeWord : GoodIn wsX10_parties (wsV RX10 150 RX10 yX10_takeWord wsX10_takeWord) := goodIn_app (goodIn_of _ (by decide +kernel)) ggX10_parties_X10_takeWord
set_option maxRecDepth 20000 in
theorem ggX10_parties_X10_copyRow : GoodIn wsX10_parties wsX10_copyRow := goodIn_r _ [60] (by decide +kernel) (by decide +kernel)
set_option maxRecDepth 20000 in
theorem gX10_parties_X10_copyRow : GoodIn wsX10_parties (va_wsS RX10 156 yX10_copyRow wsX10_copyRow) := goodIn_app (goodIn_of _ (by decide +kernel)) ggX10_parties_X10_copyRow
theorem dX10_parties_0 : decode cX10_parties 0 = .ok (.aload_n 0, 1) := by decide +kernel
theorem dX10_parties_1 : decode cX10_parties 1 = .ok (.iconst (-1), 1) := by decide +kernel
theorem dX10_parties_2 : decode cX10_parties 2 = .ok (.putfield 31, 3) := by decide +kernel
theorem dX10_parties_5 : decode cX10_parties 5 = .ok (.aload_n 0, 1) := by decide +kernel
theorem dX10_parties_6 : decode cX10_parties 6 = .ok (.iconst 0, 1) := by decide +kernel
theorem dX10_parties_7 : decode cX10_parties 7 = .ok (.putfield 109, 3) := by decide +kernel
theorem dX10_parties_10 : decode cX10_parties 10 = .ok (.aload_n 0, 1) := by decide +kernel
theorem dX10_parties_11 : decode cX10_parties 11 = .ok (.iconst 0, 1) := by decide +kernel
theorem dX10_parties_12 : decode cX10_parties 12 = .ok (.putfield 136, 3) := by decide +kernel
theorem dX10_parties_15 : decode cX10_parties 15 = .ok (.aload_n 0, 1) := by decide +kernel
theorem dX10_parties_16 : decode cX10_parties 16 = .ok (.iconst 0, 1) := by decide +kernel
theorem dX10_parties_17 : decode cX10_parties 17 = .ok (.putfield 130, 3) := by decide +kernel
theorem dX10_parties_20 : decode cX10_parties 20 = .ok (.iconst 0, 1) := by decide +kernel
theorem dX10_parties_21 : decode cX10_parties 21 = .ok (.istore_n 1, 1) := by decide +kernel
theorem dX10_parties_22 : decode cX10_parties 22 = .ok (.iload_n 1, 1) := by decide +kernel
theorem dX10_parties_23 : decode cX10_parties 23 = .ok (.ifCond .ne 18, 3) := by decide +kernel
theorem dX10_parties_26 : decode cX10_parties 26 = .ok (.aload_n 0, 1) := by decide +kernel
theorem dX10_parties_27 : decode cX10_parties 27 = .ok (.invokevirtual 112, 3) := by decide +kernel
theorem dX10_parties_30 : decode cX10_parties 30 = .ok (.ifCond .lt 11, 3) := by decide +kernel
theorem dX10_parties_33 : decode cX10_parties 33 = .ok (.aload_n 0, 1) := by decide +kernel
theorem dX10_parties_34 : decode cX10_parties 34 = .ok (.invokevirtual 150, 3) := by decide +kernel
theorem dX10_parties_37 : decode cX10_parties 37 = .ok (.istore_n 1, 1) := by decide +kernel
theorem dX10_parties_38 : decode cX10_parties 38 = .ok (.goto (-16), 3) := by decide +kernel
theorem dX10_parties_41 : decode cX10_parties 41 = .ok (.aload_n 0, 1) := by decide +kernel
theorem dX10_parties_42 : decode cX10_parties 42 = .ok (.iconst 0, 1) := by decide +kernel
theorem dX10_parties_43 : decode cX10_parties 43 = .ok (.putfield 105, 3) := by decide +kernel
theorem dX10_parties_46 : decode cX10_parties 46 = .ok (.iload_n 1, 1) := by decide +kernel
theorem dX10_parties_47 : decode cX10_parties 47 = .ok (.ifCond .le 8, 3) := by decide +kernel
theorem dX10_parties_50 : decode cX10_parties 50 = .ok (.bipush (-10), 2) := by decide +kernel
theorem dX10_parties_52 : decode cX10_parties 52 = .ok (.iload_n 1, 1) := by decide +kernel
theorem dX10_parties_53 : decode cX10_parties 53 = .ok (.isub, 1) := by decide +kernel
theorem dX10_parties_54 : decode cX10_parties 54 = .ok (.ireturn, 1) := by decide +kernel
theorem dX10_parties_55 : decode cX10_parties 55 = .ok (.aload_n 0, 1) := by decide +kernel
theorem dX10_parties_56 : decode cX10_parties 56 = .ok (.aload_n 0, 1) := by decide +kernel
theorem dX10_parties_57 : decode cX10_parties 57 = .ok (.getfield 136, 3) := by decide +kernel
theorem dX10_parties_60 : decode cX10_parties 60 = .ok (.putfield 153, 3) := by decide +kernel
theorem dX10_parties_63 : decode cX10_parties 63 = .ok (.aload_n 0, 1) := by decide +kernel
theorem dX10_parties_64 : decode cX10_parties 64 = .ok (.aload_n 0, 1) := by decide +kernel
theorem dX10_parties_65 : decode cX10_parties 65 = .ok (.getfield 130, 3) := by decide +kernel
theorem dX10_parties_68 : decode cX10_parties 68 = .ok (.putfield 93, 3) := by decide +kernel
theorem dX10_parties_71 : decode cX10_parties 71 = .ok (.aload_n 0, 1) := by decide +kernel
theorem dX10_parties_72 : decode cX10_parties 72 = .ok (.getfield 35, 3) := by decide +kernel
theorem dX10_parties_75 : decode cX10_parties 75 = .ok (.aload_n 0, 1) := by decide +kernel
theorem dX10_parties_76 : decode cX10_parties 76 = .ok (.getfield 7, 3) := by decide +kernel
theorem dX10_parties_79 : decode cX10_parties 79 = .ok (.aload_n 0, 1) := by decide +kernel
theorem dX10_parties_80 : decode cX10_parties 80 = .ok (.getfield 93, 3) := by decide +kernel
theorem dX10_parties_83 : decode cX10_parties 83 = .ok (.invokestatic 156, 3) := by decide +kernel
theorem dX10_parties_86 : decode cX10_parties 86 = .ok (.aload_n 0, 1) := by decide +kernel
theorem dX10_parties_87 : decode cX10_parties 87 = .ok (.getfield 38, 3) := by decide +kernel
theorem dX10_parties_90 : decode cX10_parties 90 = .ok (.aload_n 0, 1) := by decide +kernel
theorem dX10_parties_91 : decode cX10_parties 91 = .ok (.getfield 13, 3) := by decide +kernel
theorem dX10_parties_94 : decode cX10_parties 94 = .ok (.aload_n 0, 1) := by decide +kernel
theorem dX10_parties_95 : decode cX10_parties 95 = .ok (.getfield 93, 3) := by decide +kernel
theorem dX10_parties_98 : decode cX10_parties 98 = .ok (.invokestatic 156, 3) := by decide +kernel
theorem dX10_parties_101 : decode cX10_parties 101 = .ok (.aload_n 0, 1) := by decide +kernel
theorem dX10_parties_102 : decode cX10_parties 102 = .ok (.getfield 41, 3) := by decide +kernel
theorem dX10_parties_105 : decode cX10_parties 105 = .ok (.aload_n 0, 1) := by decide +kernel
theorem dX10_parties_106 : decode cX10_parties 106 = .ok (.getfield 16, 3) := by decide +kernel
theorem dX10_parties_109 : decode cX10_parties 109 = .ok (.aload_n 0, 1) := by decide +kernel
theorem dX10_parties_110 : decode cX10_parties 110 = .ok (.getfield 93, 3) := by decide +kernel
theorem dX10_parties_113 : decode cX10_parties 113 = .ok (.invokestatic 156, 3) := by decide +kernel
theorem dX10_parties_116 : decode cX10_parties 116 = .ok (.aload_n 0, 1) := by decide +kernel
theorem dX10_parties_117 : decode cX10_parties 117 = .ok (.getfield 44, 3) := by decide +kernel
theorem dX10_parties_120 : decode cX10_parties 120 = .ok (.aload_n 0, 1) := by decide +kernel
theorem dX10_parties_121 : decode cX10_parties 121 = .ok (.getfield 19, 3) := by decide +kernel
theorem dX10_parties_124 : decode cX10_parties 124 = .ok (.aload_n 0, 1) := by decide +kernel
theorem dX10_parties_125 : decode cX10_parties 125 = .ok (.getfield 93, 3) := by decide +kernel
theorem dX10_parties_128 : decode cX10_parties 128 = .ok (.invokestatic 156, 3) := by decide +kernel
theorem dX10_parties_131 : decode cX10_parties 131 = .ok (.aload_n 0, 1) := by decide +kernel
theorem dX10_parties_132 : decode cX10_parties 132 = .ok (.getfield 47, 3) := by decide +kernel
theorem dX10_parties_135 : decode cX10_parties 135 = .ok (.aload_n 0, 1) := by decide +kernel
theorem dX10_parties_136 : decode cX10_parties 136 = .ok (.getfield 22, 3) := by decide +kernel
theorem dX10_parties_139 : decode cX10_parties 139 = .ok (.aload_n 0, 1) := by decide +kernel
theorem dX10_parties_140 : decode cX10_parties 140 = .ok (.getfield 93, 3) := by decide +kernel
theorem dX10_parties_143 : decode cX10_parties 143 = .ok (.invokestatic 156, 3) := by decide +kernel
theorem dX10_parties_146 : decode cX10_parties 146 = .ok (.aload_n 0, 1) := by decide +kernel
theorem dX10_parties_147 : decode cX10_parties 147 = .ok (.getfield 50, 3) := by decide +kernel
theorem dX10_parties_150 : decode cX10_parties 150 = .ok (.aload_n 0, 1) := by decide +kernel
theorem dX10_parties_151 : decode cX10_parties 151 = .ok (.getfield 25, 3) := by decide +kernel
theorem dX10_parties_154 : decode cX10_parties 154 = .ok (.aload_n 0, 1) := by decide +kernel
theorem dX10_parties_155 : decode cX10_parties 155 = .ok (.getfield 93, 3) := by decide +kernel
theorem dX10_parties_158 : decode cX10_parties 158 = .ok (.invokestatic 156, 3) := by decide +kernel
theorem dX10_parties_161 : decode cX10_parties 161 = .ok (.aload_n 0, 1) := by decide +kernel
theorem dX10_parties_162 : decode cX10_parties 162 = .ok (.iconst 0, 1) := by decide +kernel
theorem dX10_parties_163 : decode cX10_parties 163 = .ok (.putfield 160, 3) := by decide +kernel
theorem dX10_parties_166 : decode cX10_parties 166 = .ok (.aload_n 0, 1) := by decide +kernel
theorem dX10_parties_167 : decode cX10_parties 167 = .ok (.getfield 87, 3) := by decide +kernel
theorem dX10_parties_170 : decode cX10_parties 170 = .ok (.iconst 0, 1) := by decide +kernel
theorem dX10_parties_171 : decode cX10_parties 171 = .ok (.iconst (-1), 1) := by decide +kernel
theorem dX10_parties_172 : decode cX10_parties 172 = .ok (.iastore, 1) := by decide +kernel
theorem dX10_parties_173 : decode cX10_parties 173 = .ok (.aload_n 0, 1) := by decide +kernel
theorem dX10_parties_174 : decode cX10_parties 174 = .ok (.getfield 87, 3) := by decide +kernel
theorem dX10_parties_177 : decode cX10_parties 177 = .ok (.iconst 1, 1) := by decide +kernel
theorem dX10_parties_178 : decode cX10_parties 178 = .ok (.iconst (-1), 1) := by decide +kernel
theorem dX10_parties_179 : decode cX10_parties 179 = .ok (.iastore, 1) := by decide +kernel
theorem dX10_parties_180 : decode cX10_parties 180 = .ok (.aload_n 0, 1) := by decide +kernel
theorem dX10_parties_181 : decode cX10_parties 181 = .ok (.getfield 93, 3) := by decide +kernel
theorem dX10_parties_184 : decode cX10_parties 184 = .ok (.ireturn, 1) := by decide +kernel
theorem dX10_fault_0 : decode cX10_fault 0 = .ok (.aload_n 0, 1) := by decide +kernel
theorem dX10_fault_1 : decode cX10_fault 1 = .ok (.getfield 31, 3) := by decide +kernel
theorem dX10_fault_4 : decode cX10_fault 4 = .ok (.ireturn, 1) := by decide +kernel
theorem dX10_holdsIn_0 : decode cX10_holdsIn 0 = .ok (.aload_n 0, 1) := by decide +kernel
theorem dX10_holdsIn_1 : decode cX10_holdsIn 1 = .ok (.getfield 7, 3) := by decide +kernel
theorem dX10_holdsIn_4 : decode cX10_holdsIn 4 = .ok (.iload_n 1, 1) := by decide +kernel
theorem dX10_holdsIn_5 : decode cX10_holdsIn 5 = .ok (.iaload, 1) := by decide +kernel
theorem dX10_holdsIn_6 : decode cX10_holdsIn 6 = .ok (.iload_n 2, 1) := by decide +kernel
theorem dX10_holdsIn_7 : decode cX10_holdsIn 7 = .ok (.iand, 1) := by decide +kernel
theorem dX10_holdsIn_8 : decode cX10_holdsIn 8 = .ok (.ifCond .ne 16, 3) := by decide +kernel
theorem dX10_holdsIn_11 : decode cX10_holdsIn 11 = .ok (.aload_n 0, 1) := by decide +kernel
theorem dX10_holdsIn_12 : decode cX10_holdsIn 12 = .ok (.getfield 13, 3) := by decide +kernel
theorem dX10_holdsIn_15 : decode cX10_holdsIn 15 = .ok (.iload_n 1, 1) := by decide +kernel
theorem dX10_holdsIn_16 : decode cX10_holdsIn 16 = .ok (.iaload, 1) := by decide +kernel
theorem dX10_holdsIn_17 : decode cX10_holdsIn 17 = .ok (.iload_n 2, 1) := by decide +kernel
theorem dX10_holdsIn_18 : decode cX10_holdsIn 18 = .ok (.iconst (-1), 1) := by decide +kernel
theorem dX10_holdsIn_19 : decode cX10_holdsIn 19 = .ok (.ixor, 1) := by decide +kernel
theorem dX10_holdsIn_20 : decode cX10_holdsIn 20 = .ok (.iand, 1) := by decide +kernel
theorem dX10_holdsIn_21 : decode cX10_holdsIn 21 = .ok (.ifCond .eq 7, 3) := by decide +kernel
theorem dX10_holdsIn_24 : decode cX10_holdsIn 24 = .ok (.iconst 1, 1) := by decide +kernel
theorem dX10_holdsIn_25 : decode cX10_holdsIn 25 = .ok (.goto 4, 3) := by decide +kernel
theorem dX10_holdsIn_28 : decode cX10_holdsIn 28 = .ok (.iconst 0, 1) := by decide +kernel
theorem dX10_holdsIn_29 : decode cX10_holdsIn 29 = .ok (.ireturn, 1) := by decide +kernel
theorem dX10_lettersOf_0 : decode cX10_lettersOf 0 = .ok (.iconst 0, 1) := by decide +kernel
theorem dX10_lettersOf_1 : decode cX10_lettersOf 1 = .ok (.istore_n 2, 1) := by decide +kernel
theorem dX10_lettersOf_2 : decode cX10_lettersOf 2 = .ok (.iconst 0, 1) := by decide +kernel
theorem dX10_lettersOf_3 : decode cX10_lettersOf 3 = .ok (.istore_n 3, 1) := by decide +kernel
theorem dX10_lettersOf_4 : decode cX10_lettersOf 4 = .ok (.iload_n 3, 1) := by decide +kernel
theorem dX10_lettersOf_5 : decode cX10_lettersOf 5 = .ok (.aload_n 0, 1) := by decide +kernel
theorem dX10_lettersOf_6 : decode cX10_lettersOf 6 = .ok (.getfield 153, 3) := by decide +kernel
theorem dX10_lettersOf_9 : decode cX10_lettersOf 9 = .ok (.if_icmp .ge 39, 3) := by decide +kernel
theorem dX10_lettersOf_12 : decode cX10_lettersOf 12 = .ok (.iload_n 2, 1) := by decide +kernel
theorem dX10_lettersOf_13 : decode cX10_lettersOf 13 = .ok (.aload_n 0, 1) := by decide +kernel
theorem dX10_lettersOf_14 : decode cX10_lettersOf 14 = .ok (.getfield 16, 3) := by decide +kernel
theorem dX10_lettersOf_17 : decode cX10_lettersOf 17 = .ok (.iload_n 3, 1) := by decide +kernel
theorem dX10_lettersOf_18 : decode cX10_lettersOf 18 = .ok (.iaload, 1) := by decide +kernel
theorem dX10_lettersOf_19 : decode cX10_lettersOf 19 = .ok (.iload_n 1, 1) := by decide +kernel
theorem dX10_lettersOf_20 : decode cX10_lettersOf 20 = .ok (.if_icmp .ne 19, 3) := by decide +kernel
theorem dX10_lettersOf_23 : decode cX10_lettersOf 23 = .ok (.aload_n 0, 1) := by decide +kernel
theorem dX10_lettersOf_24 : decode cX10_lettersOf 24 = .ok (.getfield 7, 3) := by decide +kernel
theorem dX10_lettersOf_27 : decode cX10_lettersOf 27 = .ok (.iload_n 3, 1) := by decide +kernel
theorem dX10_lettersOf_28 : decode cX10_lettersOf 28 = .ok (.iaload, 1) := by decide +kernel
theorem dX10_lettersOf_29 : decode cX10_lettersOf 29 = .ok (.aload_n 0, 1) := by decide +kernel
theorem dX10_lettersOf_30 : decode cX10_lettersOf 30 = .ok (.getfield 13, 3) := by decide +kernel
theorem dX10_lettersOf_33 : decode cX10_lettersOf 33 = .ok (.iload_n 3, 1) := by decide +kernel
theorem dX10_lettersOf_34 : decode cX10_lettersOf 34 = .ok (.iaload, 1) := by decide +kernel
theorem dX10_lettersOf_35 : decode cX10_lettersOf 35 = .ok (.ior, 1) := by decide +kernel
theorem dX10_lettersOf_36 : decode cX10_lettersOf 36 = .ok (.goto 4, 3) := by decide +kernel
theorem dX10_lettersOf_39 : decode cX10_lettersOf 39 = .ok (.iconst 0, 1) := by decide +kernel
theorem dX10_lettersOf_40 : decode cX10_lettersOf 40 = .ok (.ior, 1) := by decide +kernel
theorem dX10_lettersOf_41 : decode cX10_lettersOf 41 = .ok (.istore_n 2, 1) := by decide +kernel
theorem dX10_lettersOf_42 : decode cX10_lettersOf 42 = .ok (.iinc 3 1, 3) := by decide +kernel
theorem dX10_lettersOf_45 : decode cX10_lettersOf 45 = .ok (.goto (-41), 3) := by decide +kernel
theorem dX10_lettersOf_48 : decode cX10_lettersOf 48 = .ok (.iload_n 2, 1) := by decide +kernel
theorem dX10_lettersOf_49 : decode cX10_lettersOf 49 = .ok (.ireturn, 1) := by decide +kernel
set_option maxRecDepth 20000 in
theorem ggX10_shared_X10_lettersOf : GoodIn wsX10_shared wsX10_lettersOf := goodIn_r _ [5, 6, 7, 8, 9, 10, 11, 12, 13, 14, 15, 16, 17, 18, 19, 20, 21, 22, 23, 24, 25, 26, 27, 28, 29, 30, 31, 32, 33, 34, 35, 36, 37, 38, 39, 40, 41, 42, 43, 44, 45, 46, 47] (by decide +kernel) (by decide +kernel)
set_option maxRecDepth 20000 in
theorem gX10_shared_X10_lettersOf : GoodIn wsX10_shared (wsV RX10 163 RX10 yX10_lettersOf wsX10_lettersOf) := goodIn_app (goodIn_of _ (by decide +kernel)) ggX10_shared_X10_lettersOf
theorem dX10_shared_0 : decode cX10_shared 0 = .ok (.aload_n 0, 1) := by decide +kernel
theorem dX10_shared_1 : decode cX10_shared 1 = .ok (.iconst 0, 1) := by decide +kernel
theorem dX10_shared_2 : decode cX10_shared 2 = .ok (.invokevirtual 163, 3) := by decide +kernel
theorem dX10_shared_5 : decode cX10_shared 5 = .ok (.aload_n 0, 1) := by decide +kernel
theorem dX10_shared_6 : decode cX10_shared 6 = .ok (.iconst 1, 1) := by decide +kernel
theorem dX10_shared_7 : decode cX10_shared 7 = .ok (.invokevirtual 163, 3) := by decide +kernel
theorem dX10_shared_10 : decode cX10_shared 10 = .ok (.iand, 1) := by decide +kernel
theorem dX10_shared_11 : decode cX10_shared 11 = .ok (.ireturn, 1) := by decide +kernel
set_option maxRecDepth 20000 in
theorem ggX10_colourOf_X10_lettersOf : GoodIn wsX10_colourOf wsX10_lettersOf := goodIn_r _ [5, 6, 7, 8, 9, 13, 14, 15, 16, 17, 18, 19, 20, 21, 22, 23, 24, 25, 26, 27, 28, 29, 30, 31, 32, 33, 34, 35, 36, 37, 38, 39, 40, 41, 42, 43, 44, 45, 46, 47, 48, 49, 50] (by decide +kernel) (by decide +kernel)
set_option maxRecDepth 20000 in
theorem gX10_colourOf_X10_lettersOf : GoodIn wsX10_colourOf (wsV RX10 163 RX10 yX10_lettersOf wsX10_lettersOf) := goodIn_app (goodIn_of _ (by decide +kernel)) ggX10_colourOf_X10_lettersOf
set_option maxRecDepth 20000 in
theorem ggX10_colourOf_X10_has : GoodIn wsX10_colourOf wsX10_has := goodIn_r _ [12] (by decide +kernel) (by decide +kernel)
set_option maxRecDepth 20000 in
theorem gX10_colourOf_X10_has : GoodIn wsX10_colourOf (va_wsS RX10 139 yX10_has wsX10_has) := goodIn_app (goodIn_of _ (by decide +kernel)) ggX10_colourOf_X10_has
theorem dX10_colourOf_0 : decode cX10_colourOf 0 = .ok (.aload_n 0, 1) := by decide +kernel
theorem dX10_colourOf_1 : decode cX10_colourOf 1 = .ok (.iconst 0, 1) := by decide +kernel
theorem dX10_colourOf_2 : decode cX10_colourOf 2 = .ok (.invokevirtual 163, 3) := by decide +kernel
theorem dX10_colourOf_5 : decode cX10_colourOf 5 = .ok (.iload_n 1, 1) := by decide +kernel
theorem dX10_colourOf_6 : decode cX10_colourOf 6 = .ok (.invokestatic 139, 3) := by decide +kernel
theorem dX10_colourOf_9 : decode cX10_colourOf 9 = .ok (.istore_n 2, 1) := by decide +kernel
theorem dX10_colourOf_10 : decode cX10_colourOf 10 = .ok (.aload_n 0, 1) := by decide +kernel
theorem dX10_colourOf_11 : decode cX10_colourOf 11 = .ok (.iconst 1, 1) := by decide +kernel
theorem dX10_colourOf_12 : decode cX10_colourOf 12 = .ok (.invokevirtual 163, 3) := by decide +kernel
theorem dX10_colourOf_15 : decode cX10_colourOf 15 = .ok (.iload_n 1, 1) := by decide +kernel
theorem dX10_colourOf_16 : decode cX10_colourOf 16 = .ok (.invokestatic 139, 3) := by decide +kernel
theorem dX10_colourOf_19 : decode cX10_colourOf 19 = .ok (.istore_n 3, 1) := by decide +kernel
theorem dX10_colourOf_20 : decode cX10_colourOf 20 = .ok (.iload_n 2, 1) := by decide +kernel
theorem dX10_colourOf_21 : decode cX10_colourOf 21 = .ok (.ifCond .eq 11, 3) := by decide +kernel
theorem dX10_colourOf_24 : decode cX10_colourOf 24 = .ok (.iload_n 3, 1) := by decide +kernel
theorem dX10_colourOf_25 : decode cX10_colourOf 25 = .ok (.ifCond .eq 7, 3) := by decide +kernel
theorem dX10_colourOf_28 : decode cX10_colourOf 28 = .ok (.iconst 2, 1) := by decide +kernel
theorem dX10_colourOf_29 : decode cX10_colourOf 29 = .ok (.goto 20, 3) := by decide +kernel
theorem dX10_colourOf_32 : decode cX10_colourOf 32 = .ok (.iload_n 3, 1) := by decide +kernel
theorem dX10_colourOf_33 : decode cX10_colourOf 33 = .ok (.ifCond .eq 7, 3) := by decide +kernel
theorem dX10_colourOf_36 : decode cX10_colourOf 36 = .ok (.iconst 1, 1) := by decide +kernel
theorem dX10_colourOf_37 : decode cX10_colourOf 37 = .ok (.goto 12, 3) := by decide +kernel
theorem dX10_colourOf_40 : decode cX10_colourOf 40 = .ok (.iload_n 2, 1) := by decide +kernel
theorem dX10_colourOf_41 : decode cX10_colourOf 41 = .ok (.ifCond .eq 7, 3) := by decide +kernel
theorem dX10_colourOf_44 : decode cX10_colourOf 44 = .ok (.iconst 0, 1) := by decide +kernel
theorem dX10_colourOf_45 : decode cX10_colourOf 45 = .ok (.goto 4, 3) := by decide +kernel
theorem dX10_colourOf_48 : decode cX10_colourOf 48 = .ok (.iconst (-1), 1) := by decide +kernel
theorem dX10_colourOf_49 : decode cX10_colourOf 49 = .ok (.ireturn, 1) := by decide +kernel
set_option maxRecDepth 20000 in
theorem ggX10_colour_X10_isLetter : GoodIn wsX10_colour wsX10_isLetter := goodIn_r _ [5, 6, 7, 8, 4, 9] (by decide +kernel) (by decide +kernel)
set_option maxRecDepth 20000 in
theorem gX10_colour_X10_isLetter : GoodIn wsX10_colour (va_wsS RX10 166 yX10_isLetter wsX10_isLetter) := goodIn_app (goodIn_of _ (by decide +kernel)) ggX10_colour_X10_isLetter
set_option maxRecDepth 20000 in
theorem ggX10_colour_X10_colourOf : GoodIn wsX10_colour wsX10_colourOf := goodIn_r _ [13, 14, 15, 16, 4, 17, 18, 19, 20, 21, 22, 23, 24, 25, 26, 27, 28, 29, 30, 31, 32, 33, 34, 35, 36, 37, 38, 39, 40, 41, 42, 43, 44, 45, 46, 47, 48, 49, 50, 51, 52, 53, 54, 55, 56, 57, 58, 59, 60, 61, 62] (by decide +kernel) (by decide +kernel)
set_option maxRecDepth 20000 in
theorem gX10_colour_X10_colourOf : GoodIn wsX10_colour (wsV RX10 170 RX10 yX10_colourOf wsX10_colourOf) := goodIn_app (goodIn_of _ (by decide +kernel)) ggX10_colour_X10_colourOf
theorem dX10_colour_0 : decode cX10_colour 0 = .ok (.iload_n 1, 1) := by decide +kernel
theorem dX10_colour_1 : decode cX10_colour 1 = .ok (.invokestatic 166, 3) := by decide +kernel
theorem dX10_colour_4 : decode cX10_colour 4 = .ok (.ifCond .eq 11, 3) := by decide +kernel
theorem dX10_colour_7 : decode cX10_colour 7 = .ok (.aload_n 0, 1) := by decide +kernel
theorem dX10_colour_8 : decode cX10_colour 8 = .ok (.iload_n 1, 1) := by decide +kernel
theorem dX10_colour_9 : decode cX10_colour 9 = .ok (.invokevirtual 170, 3) := by decide +kernel
theorem dX10_colour_12 : decode cX10_colour 12 = .ok (.goto 5, 3) := by decide +kernel
theorem dX10_colour_15 : decode cX10_colour 15 = .ok (.ldc 173, 2) := by decide +kernel
theorem dX10_colour_17 : decode cX10_colour 17 = .ok (.ireturn, 1) := by decide +kernel
set_option maxRecDepth 20000 in
theorem ggX10_allHold_X10_has : GoodIn wsX10_allHold wsX10_has := goodIn_r _ [5] (by decide +kernel) (by decide +kernel)
set_option maxRecDepth 20000 in
theorem gX10_allHold_X10_has : GoodIn wsX10_allHold (va_wsS RX10 139 yX10_has wsX10_has) := goodIn_app (goodIn_of _ (by decide +kernel)) ggX10_allHold_X10_has
set_option maxRecDepth 20000 in
theorem ggX10_allHold_X10_holdsIn : GoodIn wsX10_allHold wsX10_holdsIn := goodIn_r _ [9, 10, 11, 12, 13, 14, 15, 16, 17, 18, 19, 20, 21, 22, 23, 24, 25, 26, 27, 28, 29, 30, 31, 32, 33, 34, 35, 36, 37, 38, 39, 40, 41, 42, 43, 44, 45, 46, 47, 48, 49] (by decide +kernel) (by decide +kernel)
set_option maxRecDepth 20000 in
theorem gX10_allHold_X10_holdsIn : GoodIn wsX10_allHold (wsV RX10 174 RX10 yX10_holdsIn wsX10_holdsIn) := goodIn_app (goodIn_of _ (by decide +kernel)) ggX10_allHold_X10_holdsIn
theorem dX10_allHold_0 : decode cX10_allHold 0 = .ok (.iconst 1, 1) := by decide +kernel
theorem dX10_allHold_1 : decode cX10_allHold 1 = .ok (.istore_n 3, 1) := by decide +kernel
theorem dX10_allHold_2 : decode cX10_allHold 2 = .ok (.iconst 0, 1) := by decide +kernel
theorem dX10_allHold_3 : decode cX10_allHold 3 = .ok (.istore 4, 2) := by decide +kernel
theorem dX10_allHold_5 : decode cX10_allHold 5 = .ok (.iload 4, 2) := by decide +kernel
theorem dX10_allHold_7 : decode cX10_allHold 7 = .ok (.aload_n 0, 1) := by decide +kernel
theorem dX10_allHold_8 : decode cX10_allHold 8 = .ok (.getfield 153, 3) := by decide +kernel
theorem dX10_allHold_11 : decode cX10_allHold 11 = .ok (.if_icmp .ge 38, 3) := by decide +kernel
theorem dX10_allHold_14 : decode cX10_allHold 14 = .ok (.iload_n 3, 1) := by decide +kernel
theorem dX10_allHold_15 : decode cX10_allHold 15 = .ok (.ifCond .eq 26, 3) := by decide +kernel
theorem dX10_allHold_18 : decode cX10_allHold 18 = .ok (.iload_n 1, 1) := by decide +kernel
theorem dX10_allHold_19 : decode cX10_allHold 19 = .ok (.iload 4, 2) := by decide +kernel
theorem dX10_allHold_21 : decode cX10_allHold 21 = .ok (.invokestatic 139, 3) := by decide +kernel
theorem dX10_allHold_24 : decode cX10_allHold 24 = .ok (.ifCond .eq 13, 3) := by decide +kernel
theorem dX10_allHold_27 : decode cX10_allHold 27 = .ok (.aload_n 0, 1) := by decide +kernel
theorem dX10_allHold_28 : decode cX10_allHold 28 = .ok (.iload 4, 2) := by decide +kernel
theorem dX10_allHold_30 : decode cX10_allHold 30 = .ok (.iload_n 2, 1) := by decide +kernel
theorem dX10_allHold_31 : decode cX10_allHold 31 = .ok (.invokevirtual 174, 3) := by decide +kernel
theorem dX10_allHold_34 : decode cX10_allHold 34 = .ok (.ifCond .eq 7, 3) := by decide +kernel
theorem dX10_allHold_37 : decode cX10_allHold 37 = .ok (.iconst 1, 1) := by decide +kernel
theorem dX10_allHold_38 : decode cX10_allHold 38 = .ok (.goto 4, 3) := by decide +kernel
theorem dX10_allHold_41 : decode cX10_allHold 41 = .ok (.iconst 0, 1) := by decide +kernel
theorem dX10_allHold_42 : decode cX10_allHold 42 = .ok (.istore_n 3, 1) := by decide +kernel
theorem dX10_allHold_43 : decode cX10_allHold 43 = .ok (.iinc 4 1, 3) := by decide +kernel
theorem dX10_allHold_46 : decode cX10_allHold 46 = .ok (.goto (-41), 3) := by decide +kernel
theorem dX10_allHold_49 : decode cX10_allHold 49 = .ok (.iload_n 3, 1) := by decide +kernel
theorem dX10_allHold_50 : decode cX10_allHold 50 = .ok (.ireturn, 1) := by decide +kernel
theorem dX10_clausesOf_0 : decode cX10_clausesOf 0 = .ok (.iconst 0, 1) := by decide +kernel
theorem dX10_clausesOf_1 : decode cX10_clausesOf 1 = .ok (.istore_n 2, 1) := by decide +kernel
theorem dX10_clausesOf_2 : decode cX10_clausesOf 2 = .ok (.iconst 0, 1) := by decide +kernel
theorem dX10_clausesOf_3 : decode cX10_clausesOf 3 = .ok (.istore_n 3, 1) := by decide +kernel
theorem dX10_clausesOf_4 : decode cX10_clausesOf 4 = .ok (.iload_n 3, 1) := by decide +kernel
theorem dX10_clausesOf_5 : decode cX10_clausesOf 5 = .ok (.aload_n 0, 1) := by decide +kernel
theorem dX10_clausesOf_6 : decode cX10_clausesOf 6 = .ok (.getfield 153, 3) := by decide +kernel
theorem dX10_clausesOf_9 : decode cX10_clausesOf 9 = .ok (.if_icmp .ge 29, 3) := by decide +kernel
theorem dX10_clausesOf_12 : decode cX10_clausesOf 12 = .ok (.iload_n 2, 1) := by decide +kernel
theorem dX10_clausesOf_13 : decode cX10_clausesOf 13 = .ok (.aload_n 0, 1) := by decide +kernel
theorem dX10_clausesOf_14 : decode cX10_clausesOf 14 = .ok (.getfield 16, 3) := by decide +kernel
theorem dX10_clausesOf_17 : decode cX10_clausesOf 17 = .ok (.iload_n 3, 1) := by decide +kernel
theorem dX10_clausesOf_18 : decode cX10_clausesOf 18 = .ok (.iaload, 1) := by decide +kernel
theorem dX10_clausesOf_19 : decode cX10_clausesOf 19 = .ok (.iload_n 1, 1) := by decide +kernel
theorem dX10_clausesOf_20 : decode cX10_clausesOf 20 = .ok (.if_icmp .ne 9, 3) := by decide +kernel
theorem dX10_clausesOf_23 : decode cX10_clausesOf 23 = .ok (.iconst 1, 1) := by decide +kernel
theorem dX10_clausesOf_24 : decode cX10_clausesOf 24 = .ok (.iload_n 3, 1) := by decide +kernel
theorem dX10_clausesOf_25 : decode cX10_clausesOf 25 = .ok (.ishl, 1) := by decide +kernel
theorem dX10_clausesOf_26 : decode cX10_clausesOf 26 = .ok (.goto 4, 3) := by decide +kernel
theorem dX10_clausesOf_29 : decode cX10_clausesOf 29 = .ok (.iconst 0, 1) := by decide +kernel
theorem dX10_clausesOf_30 : decode cX10_clausesOf 30 = .ok (.ior, 1) := by decide +kernel
theorem dX10_clausesOf_31 : decode cX10_clausesOf 31 = .ok (.istore_n 2, 1) := by decide +kernel
theorem dX10_clausesOf_32 : decode cX10_clausesOf 32 = .ok (.iinc 3 1, 3) := by decide +kernel
theorem dX10_clausesOf_35 : decode cX10_clausesOf 35 = .ok (.goto (-31), 3) := by decide +kernel
theorem dX10_clausesOf_38 : decode cX10_clausesOf 38 = .ok (.iload_n 2, 1) := by decide +kernel
theorem dX10_clausesOf_39 : decode cX10_clausesOf 39 = .ok (.ireturn, 1) := by decide +kernel
set_option maxRecDepth 20000 in
theorem ggX10_worldsOf_X10_allHold : GoodIn wsX10_worldsOf wsX10_allHold := goodIn_r _ [5, 6, 7, 8, 4, 9, 10, 11, 12, 13, 14, 15, 16, 17, 18, 19, 20, 21, 22, 23, 24, 25, 26, 27, 28, 29, 30, 31, 32, 33, 34, 35, 36, 37, 38, 39, 40, 41, 42, 43, 44, 45, 46, 47, 48, 49, 50, 51, 52, 53] (by decide +kernel) (by decide +kernel)
set_option maxRecDepth 20000 in
theorem gX10_worldsOf_X10_allHold : GoodIn wsX10_worldsOf (wsV RX10 177 RX10 yX10_allHold wsX10_allHold) := goodIn_app (goodIn_of _ (by decide +kernel)) ggX10_worldsOf_X10_allHold
theorem dX10_worldsOf_0 : decode cX10_worldsOf 0 = .ok (.iconst 0, 1) := by decide +kernel
theorem dX10_worldsOf_1 : decode cX10_worldsOf 1 = .ok (.istore_n 2, 1) := by decide +kernel
theorem dX10_worldsOf_2 : decode cX10_worldsOf 2 = .ok (.iconst 0, 1) := by decide +kernel
theorem dX10_worldsOf_3 : decode cX10_worldsOf 3 = .ok (.istore_n 3, 1) := by decide +kernel
theorem dX10_worldsOf_4 : decode cX10_worldsOf 4 = .ok (.iload_n 3, 1) := by decide +kernel
theorem dX10_worldsOf_5 : decode cX10_worldsOf 5 = .ok (.sipush 256, 3) := by decide +kernel
theorem dX10_worldsOf_8 : decode cX10_worldsOf 8 = .ok (.if_icmp .ge 26, 3) := by decide +kernel
theorem dX10_worldsOf_11 : decode cX10_worldsOf 11 = .ok (.iload_n 2, 1) := by decide +kernel
theorem dX10_worldsOf_12 : decode cX10_worldsOf 12 = .ok (.aload_n 0, 1) := by decide +kernel
theorem dX10_worldsOf_13 : decode cX10_worldsOf 13 = .ok (.iload_n 1, 1) := by decide +kernel
theorem dX10_worldsOf_14 : decode cX10_worldsOf 14 = .ok (.iload_n 3, 1) := by decide +kernel
theorem dX10_worldsOf_15 : decode cX10_worldsOf 15 = .ok (.invokevirtual 177, 3) := by decide +kernel
theorem dX10_worldsOf_18 : decode cX10_worldsOf 18 = .ok (.ifCond .eq 7, 3) := by decide +kernel
theorem dX10_worldsOf_21 : decode cX10_worldsOf 21 = .ok (.iconst 1, 1) := by decide +kernel
theorem dX10_worldsOf_22 : decode cX10_worldsOf 22 = .ok (.goto 4, 3) := by decide +kernel
theorem dX10_worldsOf_25 : decode cX10_worldsOf 25 = .ok (.iconst 0, 1) := by decide +kernel
theorem dX10_worldsOf_26 : decode cX10_worldsOf 26 = .ok (.iadd, 1) := by decide +kernel
theorem dX10_worldsOf_27 : decode cX10_worldsOf 27 = .ok (.istore_n 2, 1) := by decide +kernel
theorem dX10_worldsOf_28 : decode cX10_worldsOf 28 = .ok (.iinc 3 1, 3) := by decide +kernel
theorem dX10_worldsOf_31 : decode cX10_worldsOf 31 = .ok (.goto (-27), 3) := by decide +kernel
theorem dX10_worldsOf_34 : decode cX10_worldsOf 34 = .ok (.iload_n 2, 1) := by decide +kernel
theorem dX10_worldsOf_35 : decode cX10_worldsOf 35 = .ok (.ireturn, 1) := by decide +kernel
set_option maxRecDepth 20000 in
theorem ggX10_least_X10_bits : GoodIn wsX10_least wsX10_bits := goodIn_r _ [5] (by decide +kernel) (by decide +kernel)
set_option maxRecDepth 20000 in
theorem gX10_least_X10_bits : GoodIn wsX10_least (va_wsS RX10 180 yX10_bits wsX10_bits) := goodIn_app (goodIn_of _ (by decide +kernel)) ggX10_least_X10_bits
set_option maxRecDepth 20000 in
theorem ggX10_least_X10_worldsOf : GoodIn wsX10_least wsX10_worldsOf := goodIn_r _ [9, 10, 11, 12, 4, 13, 1, 14, 15, 16, 17, 18, 19, 20, 21, 22, 23, 24, 25, 26, 27, 28, 29, 30, 31, 32, 33, 34, 35, 36, 37, 38, 39, 40, 41, 42, 43, 44, 45, 46, 47, 48, 49, 50, 51, 52, 53, 54, 55, 56, 57, 58, 59, 60] (by decide +kernel) (by decide +kernel)
set_option maxRecDepth 20000 in
theorem gX10_least_X10_worldsOf : GoodIn wsX10_least (wsV RX10 183 RX10 yX10_worldsOf wsX10_worldsOf) := goodIn_app (goodIn_of _ (by decide +kernel)) ggX10_least_X10_worldsOf
theorem dX10_least_0 : decode cX10_least 0 = .ok (.iconst (-1), 1) := by decide +kernel
theorem dX10_least_1 : decode cX10_least 1 = .ok (.istore_n 1, 1) := by decide +kernel
theorem dX10_least_2 : decode cX10_least 2 = .ok (.iconst 1, 1) := by decide +kernel
theorem dX10_least_3 : decode cX10_least 3 = .ok (.istore_n 2, 1) := by decide +kernel
theorem dX10_least_4 : decode cX10_least 4 = .ok (.iload_n 2, 1) := by decide +kernel
theorem dX10_least_5 : decode cX10_least 5 = .ok (.iconst 1, 1) := by decide +kernel
theorem dX10_least_6 : decode cX10_least 6 = .ok (.aload_n 0, 1) := by decide +kernel
theorem dX10_least_7 : decode cX10_least 7 = .ok (.getfield 153, 3) := by decide +kernel
theorem dX10_least_10 : decode cX10_least 10 = .ok (.ishl, 1) := by decide +kernel
theorem dX10_least_11 : decode cX10_least 11 = .ok (.if_icmp .ge 48, 3) := by decide +kernel
theorem dX10_least_14 : decode cX10_least 14 = .ok (.iload_n 1, 1) := by decide +kernel
theorem dX10_least_15 : decode cX10_least 15 = .ok (.ifCond .lt 14, 3) := by decide +kernel
theorem dX10_least_18 : decode cX10_least 18 = .ok (.iload_n 2, 1) := by decide +kernel
theorem dX10_least_19 : decode cX10_least 19 = .ok (.invokestatic 180, 3) := by decide +kernel
theorem dX10_least_22 : decode cX10_least 22 = .ok (.iload_n 1, 1) := by decide +kernel
theorem dX10_least_23 : decode cX10_least 23 = .ok (.invokestatic 180, 3) := by decide +kernel
theorem dX10_least_26 : decode cX10_least 26 = .ok (.if_icmp .ge 7, 3) := by decide +kernel
theorem dX10_least_29 : decode cX10_least 29 = .ok (.iconst 1, 1) := by decide +kernel
theorem dX10_least_30 : decode cX10_least 30 = .ok (.goto 4, 3) := by decide +kernel
theorem dX10_least_33 : decode cX10_least 33 = .ok (.iconst 0, 1) := by decide +kernel
theorem dX10_least_34 : decode cX10_least 34 = .ok (.istore_n 3, 1) := by decide +kernel
theorem dX10_least_35 : decode cX10_least 35 = .ok (.iload_n 3, 1) := by decide +kernel
theorem dX10_least_36 : decode cX10_least 36 = .ok (.ifCond .eq 15, 3) := by decide +kernel
theorem dX10_least_39 : decode cX10_least 39 = .ok (.aload_n 0, 1) := by decide +kernel
theorem dX10_least_40 : decode cX10_least 40 = .ok (.iload_n 2, 1) := by decide +kernel
theorem dX10_least_41 : decode cX10_least 41 = .ok (.invokevirtual 183, 3) := by decide +kernel
theorem dX10_least_44 : decode cX10_least 44 = .ok (.ifCond .ne 7, 3) := by decide +kernel
theorem dX10_least_47 : decode cX10_least 47 = .ok (.iload_n 2, 1) := by decide +kernel
theorem dX10_least_48 : decode cX10_least 48 = .ok (.goto 4, 3) := by decide +kernel
theorem dX10_least_51 : decode cX10_least 51 = .ok (.iload_n 1, 1) := by decide +kernel
theorem dX10_least_52 : decode cX10_least 52 = .ok (.istore_n 1, 1) := by decide +kernel
theorem dX10_least_53 : decode cX10_least 53 = .ok (.iinc 2 1, 3) := by decide +kernel
theorem dX10_least_56 : decode cX10_least 56 = .ok (.goto (-52), 3) := by decide +kernel
theorem dX10_least_59 : decode cX10_least 59 = .ok (.iload_n 1, 1) := by decide +kernel
theorem dX10_least_60 : decode cX10_least 60 = .ok (.ireturn, 1) := by decide +kernel
theorem dX10_firstEmpty_0 : decode cX10_firstEmpty 0 = .ok (.iconst 0, 1) := by decide +kernel
theorem dX10_firstEmpty_1 : decode cX10_firstEmpty 1 = .ok (.istore_n 1, 1) := by decide +kernel
theorem dX10_firstEmpty_2 : decode cX10_firstEmpty 2 = .ok (.iload_n 1, 1) := by decide +kernel
theorem dX10_firstEmpty_3 : decode cX10_firstEmpty 3 = .ok (.aload_n 0, 1) := by decide +kernel
theorem dX10_firstEmpty_4 : decode cX10_firstEmpty 4 = .ok (.getfield 93, 3) := by decide +kernel
theorem dX10_firstEmpty_7 : decode cX10_firstEmpty 7 = .ok (.if_icmp .ge 25, 3) := by decide +kernel
theorem dX10_firstEmpty_10 : decode cX10_firstEmpty 10 = .ok (.aload_n 0, 1) := by decide +kernel
theorem dX10_firstEmpty_11 : decode cX10_firstEmpty 11 = .ok (.getfield 7, 3) := by decide +kernel
theorem dX10_firstEmpty_14 : decode cX10_firstEmpty 14 = .ok (.iload_n 1, 1) := by decide +kernel
theorem dX10_firstEmpty_15 : decode cX10_firstEmpty 15 = .ok (.iaload, 1) := by decide +kernel
theorem dX10_firstEmpty_16 : decode cX10_firstEmpty 16 = .ok (.aload_n 0, 1) := by decide +kernel
theorem dX10_firstEmpty_17 : decode cX10_firstEmpty 17 = .ok (.getfield 13, 3) := by decide +kernel
theorem dX10_firstEmpty_20 : decode cX10_firstEmpty 20 = .ok (.iload_n 1, 1) := by decide +kernel
theorem dX10_firstEmpty_21 : decode cX10_firstEmpty 21 = .ok (.iaload, 1) := by decide +kernel
theorem dX10_firstEmpty_22 : decode cX10_firstEmpty 22 = .ok (.ior, 1) := by decide +kernel
theorem dX10_firstEmpty_23 : decode cX10_firstEmpty 23 = .ok (.ifCond .eq 9, 3) := by decide +kernel
theorem dX10_firstEmpty_26 : decode cX10_firstEmpty 26 = .ok (.iinc 1 1, 3) := by decide +kernel
theorem dX10_firstEmpty_29 : decode cX10_firstEmpty 29 = .ok (.goto (-27), 3) := by decide +kernel
theorem dX10_firstEmpty_32 : decode cX10_firstEmpty 32 = .ok (.iload_n 1, 1) := by decide +kernel
theorem dX10_firstEmpty_33 : decode cX10_firstEmpty 33 = .ok (.aload_n 0, 1) := by decide +kernel
theorem dX10_firstEmpty_34 : decode cX10_firstEmpty 34 = .ok (.getfield 93, 3) := by decide +kernel
theorem dX10_firstEmpty_37 : decode cX10_firstEmpty 37 = .ok (.if_icmp .ge 7, 3) := by decide +kernel
theorem dX10_firstEmpty_40 : decode cX10_firstEmpty 40 = .ok (.iload_n 1, 1) := by decide +kernel
theorem dX10_firstEmpty_41 : decode cX10_firstEmpty 41 = .ok (.goto 4, 3) := by decide +kernel
theorem dX10_firstEmpty_44 : decode cX10_firstEmpty 44 = .ok (.iconst (-1), 1) := by decide +kernel
theorem dX10_firstEmpty_45 : decode cX10_firstEmpty 45 = .ok (.ireturn, 1) := by decide +kernel
set_option maxRecDepth 20000 in
theorem ggX10_told_X10_firstEmpty : GoodIn wsX10_told wsX10_firstEmpty := goodIn_r _ [11, 2, 12, 13, 49, 50, 51, 52, 53, 54, 55, 56, 57, 58, 59, 60, 61, 62, 63, 64, 65, 66, 67, 68, 69, 70, 71, 72, 73, 74, 75, 76, 77, 78, 79, 80, 81, 82, 83, 84, 85, 86] (by decide +kernel) (by decide +kernel)
set_option maxRecDepth 20000 in
theorem gX10_told_X10_firstEmpty : GoodIn wsX10_told (wsV RX10 186 RX10 yX10_firstEmpty wsX10_firstEmpty) := goodIn_app (goodIn_of _ (by decide +kernel)) ggX10_told_X10_firstEmpty
set_option maxRecDepth 20000 in
theorem ggX10_told_X10_shared : GoodIn wsX10_told wsX10_shared := goodIn_r _ [17, 18, 19, 20, 10, 21, 1, 22, 12, 13, 49, 50, 51, 52, 53, 54, 55, 56, 57, 58, 59, 60, 61, 62, 63, 64, 65, 66, 67, 68, 69, 70, 71, 72, 73, 74, 75, 76, 77, 78, 79, 80, 81, 82, 83, 84, 85, 86] (by decide +kernel) (by decide +kernel)
set_option maxRecDepth 20000 in
theorem gX10_told_X10_shared : GoodIn wsX10_told (wsV RX10 189 RX10 yX10_shared wsX10_shared) := goodIn_app (goodIn_of _ (by decide +kernel)) ggX10_told_X10_shared
set_option maxRecDepth 20000 in
theorem ggX10_told_X10_clausesOf : GoodIn wsX10_told wsX10_clausesOf := goodIn_r _ [26, 1, 22, 49, 50, 51, 52, 53, 54, 55, 56, 57, 58, 59, 60, 61, 62, 63, 64, 65, 66, 67, 68, 69, 70, 71, 72, 73, 74, 75, 76, 77, 78, 79, 80, 81, 82, 83, 84, 85, 86] (by decide +kernel) (by decide +kernel)
set_option maxRecDepth 20000 in
theorem gX10_told_X10_clausesOf : GoodIn wsX10_told (wsV RX10 192 RX10 yX10_clausesOf wsX10_clausesOf) := goodIn_app (goodIn_of _ (by decide +kernel)) ggX10_told_X10_clausesOf
set_option maxRecDepth 20000 in
theorem ggX10_told_X10_worldsOf : GoodIn wsX10_told wsX10_worldsOf := goodIn_r _ [30, 31, 32, 33, 10, 34, 1, 35, 36, 37, 38, 39, 40, 41, 12, 13, 49, 50, 51, 52, 53, 54, 55, 56, 57, 58, 59, 60, 61, 62, 63, 64, 65, 66, 67, 68, 69, 70, 71, 72, 73, 74, 75, 76, 77, 78, 79, 80, 81, 82, 83, 84, 85, 86] (by decide +kernel) (by decide +kernel)
set_option maxRecDepth 20000 in
theorem gX10_told_X10_worldsOf : GoodIn wsX10_told (wsV RX10 183 RX10 yX10_worldsOf wsX10_worldsOf) := goodIn_app (goodIn_of _ (by decide +kernel)) ggX10_told_X10_worldsOf
set_option maxRecDepth 20000 in
theorem ggX10_told_X10_least : GoodIn wsX10_told wsX10_least := goodIn_r _ [45, 1, 46, 47, 10, 48, 27, 28, 29, 30, 31, 32, 33, 34, 35, 36, 37, 38, 39, 40, 41, 12, 13, 49, 50, 51, 52, 53, 54, 55, 56, 57, 58, 59, 60, 61, 62, 63, 64, 65, 66, 67, 68, 69, 70, 71, 72, 73, 74, 75, 76, 77, 78, 79, 80, 81, 82, 83, 84, 85, 86] (by decide +kernel) (by decide +kernel)
set_option maxRecDepth 20000 in
theorem gX10_told_X10_least : GoodIn wsX10_told (wsV RX10 195 RX10 yX10_least wsX10_least) := goodIn_app (goodIn_of _ (by decide +kernel)) ggX10_told_X10_least
theorem dX10_told_0 : decode cX10_told 0 = .ok (.iconst 1, 1) := by decide +kernel
theorem dX10_told_1 : decode cX10_told 1 = .ok (.aload_n 0, 1) := by decide +kernel
theorem dX10_told_2 : decode cX10_told 2 = .ok (.getfield 153, 3) := by decide +kernel
theorem dX10_told_5 : decode cX10_told 5 = .ok (.ishl, 1) := by decide +kernel
theorem dX10_told_6 : decode cX10_told 6 = .ok (.iconst 1, 1) := by decide +kernel
theorem dX10_told_7 : decode cX10_told 7 = .ok (.isub, 1) := by decide +kernel
theorem dX10_told_8 : decode cX10_told 8 = .ok (.istore_n 2, 1) := by decide +kernel
theorem dX10_told_9 : decode cX10_told 9 = .ok (.iload_n 1, 1) := by decide +kernel
theorem dX10_told_10 : decode cX10_told 10 = .ok (.tableswitch 124 0 10 #[58, 63, 68, 73, 78, 88, 98, 104, 109, 114, 119], 58) := by decide +kernel
theorem dX10_told_68 : decode cX10_told 68 = .ok (.aload_n 0, 1) := by decide +kernel
theorem dX10_told_69 : decode cX10_told 69 = .ok (.getfield 153, 3) := by decide +kernel
theorem dX10_told_72 : decode cX10_told 72 = .ok (.ireturn, 1) := by decide +kernel
theorem dX10_told_73 : decode cX10_told 73 = .ok (.aload_n 0, 1) := by decide +kernel
theorem dX10_told_74 : decode cX10_told 74 = .ok (.getfield 93, 3) := by decide +kernel
theorem dX10_told_77 : decode cX10_told 77 = .ok (.ireturn, 1) := by decide +kernel
theorem dX10_told_78 : decode cX10_told 78 = .ok (.aload_n 0, 1) := by decide +kernel
theorem dX10_told_79 : decode cX10_told 79 = .ok (.invokevirtual 186, 3) := by decide +kernel
theorem dX10_told_82 : decode cX10_told 82 = .ok (.ireturn, 1) := by decide +kernel
theorem dX10_told_83 : decode cX10_told 83 = .ok (.aload_n 0, 1) := by decide +kernel
theorem dX10_told_84 : decode cX10_told 84 = .ok (.invokevirtual 189, 3) := by decide +kernel
theorem dX10_told_87 : decode cX10_told 87 = .ok (.ireturn, 1) := by decide +kernel
theorem dX10_told_88 : decode cX10_told 88 = .ok (.aload_n 0, 1) := by decide +kernel
theorem dX10_told_89 : decode cX10_told 89 = .ok (.aload_n 0, 1) := by decide +kernel
theorem dX10_told_90 : decode cX10_told 90 = .ok (.iconst 0, 1) := by decide +kernel
theorem dX10_told_91 : decode cX10_told 91 = .ok (.invokevirtual 192, 3) := by decide +kernel
theorem dX10_told_94 : decode cX10_told 94 = .ok (.invokevirtual 183, 3) := by decide +kernel
theorem dX10_told_97 : decode cX10_told 97 = .ok (.ireturn, 1) := by decide +kernel
theorem dX10_told_98 : decode cX10_told 98 = .ok (.aload_n 0, 1) := by decide +kernel
theorem dX10_told_99 : decode cX10_told 99 = .ok (.aload_n 0, 1) := by decide +kernel
theorem dX10_told_100 : decode cX10_told 100 = .ok (.iconst 1, 1) := by decide +kernel
theorem dX10_told_101 : decode cX10_told 101 = .ok (.invokevirtual 192, 3) := by decide +kernel
theorem dX10_told_104 : decode cX10_told 104 = .ok (.invokevirtual 183, 3) := by decide +kernel
theorem dX10_told_107 : decode cX10_told 107 = .ok (.ireturn, 1) := by decide +kernel
theorem dX10_told_108 : decode cX10_told 108 = .ok (.aload_n 0, 1) := by decide +kernel
theorem dX10_told_109 : decode cX10_told 109 = .ok (.iload_n 2, 1) := by decide +kernel
theorem dX10_told_110 : decode cX10_told 110 = .ok (.invokevirtual 183, 3) := by decide +kernel
theorem dX10_told_113 : decode cX10_told 113 = .ok (.ireturn, 1) := by decide +kernel
theorem dX10_told_114 : decode cX10_told 114 = .ok (.aload_n 0, 1) := by decide +kernel
theorem dX10_told_115 : decode cX10_told 115 = .ok (.invokevirtual 195, 3) := by decide +kernel
theorem dX10_told_118 : decode cX10_told 118 = .ok (.ireturn, 1) := by decide +kernel
theorem dX10_told_119 : decode cX10_told 119 = .ok (.aload_n 0, 1) := by decide +kernel
theorem dX10_told_120 : decode cX10_told 120 = .ok (.getfield 105, 3) := by decide +kernel
theorem dX10_told_123 : decode cX10_told 123 = .ok (.ireturn, 1) := by decide +kernel
theorem dX10_told_124 : decode cX10_told 124 = .ok (.aload_n 0, 1) := by decide +kernel
theorem dX10_told_125 : decode cX10_told 125 = .ok (.getfield 198, 3) := by decide +kernel
theorem dX10_told_128 : decode cX10_told 128 = .ok (.ireturn, 1) := by decide +kernel
theorem dX10_told_129 : decode cX10_told 129 = .ok (.aload_n 0, 1) := by decide +kernel
theorem dX10_told_130 : decode cX10_told 130 = .ok (.getfield 160, 3) := by decide +kernel
theorem dX10_told_133 : decode cX10_told 133 = .ok (.ireturn, 1) := by decide +kernel
theorem dX10_told_134 : decode cX10_told 134 = .ok (.ldc 104, 2) := by decide +kernel
theorem dX10_told_136 : decode cX10_told 136 = .ok (.ireturn, 1) := by decide +kernel
theorem dX10_layStands_0 : decode cX10_layStands 0 = .ok (.iconst 0, 1) := by decide +kernel
theorem dX10_layStands_1 : decode cX10_layStands 1 = .ok (.istore_n 1, 1) := by decide +kernel
theorem dX10_layStands_2 : decode cX10_layStands 2 = .ok (.iload_n 1, 1) := by decide +kernel
theorem dX10_layStands_3 : decode cX10_layStands 3 = .ok (.aload_n 0, 1) := by decide +kernel
theorem dX10_layStands_4 : decode cX10_layStands 4 = .ok (.getfield 93, 3) := by decide +kernel
theorem dX10_layStands_7 : decode cX10_layStands 7 = .ok (.if_icmp .ge 123, 3) := by decide +kernel
theorem dX10_layStands_10 : decode cX10_layStands 10 = .ok (.iload_n 1, 1) := by decide +kernel
theorem dX10_layStands_11 : decode cX10_layStands 11 = .ok (.aload_n 0, 1) := by decide +kernel
theorem dX10_layStands_12 : decode cX10_layStands 12 = .ok (.getfield 153, 3) := by decide +kernel
theorem dX10_layStands_15 : decode cX10_layStands 15 = .ok (.if_icmp .lt 7, 3) := by decide +kernel
theorem dX10_layStands_18 : decode cX10_layStands 18 = .ok (.iconst 1, 1) := by decide +kernel
theorem dX10_layStands_19 : decode cX10_layStands 19 = .ok (.goto 4, 3) := by decide +kernel
theorem dX10_layStands_22 : decode cX10_layStands 22 = .ok (.iconst 0, 1) := by decide +kernel
theorem dX10_layStands_23 : decode cX10_layStands 23 = .ok (.istore_n 2, 1) := by decide +kernel
theorem dX10_layStands_24 : decode cX10_layStands 24 = .ok (.aload_n 0, 1) := by decide +kernel
theorem dX10_layStands_25 : decode cX10_layStands 25 = .ok (.getfield 53, 3) := by decide +kernel
theorem dX10_layStands_28 : decode cX10_layStands 28 = .ok (.iload_n 1, 1) := by decide +kernel
theorem dX10_layStands_29 : decode cX10_layStands 29 = .ok (.iload_n 2, 1) := by decide +kernel
theorem dX10_layStands_30 : decode cX10_layStands 30 = .ok (.ifCond .eq 29, 3) := by decide +kernel
theorem dX10_layStands_33 : decode cX10_layStands 33 = .ok (.aload_n 0, 1) := by decide +kernel
theorem dX10_layStands_34 : decode cX10_layStands 34 = .ok (.getfield 53, 3) := by decide +kernel
theorem dX10_layStands_37 : decode cX10_layStands 37 = .ok (.aload_n 0, 1) := by decide +kernel
theorem dX10_layStands_38 : decode cX10_layStands 38 = .ok (.getfield 19, 3) := by decide +kernel
theorem dX10_layStands_41 : decode cX10_layStands 41 = .ok (.iload_n 1, 1) := by decide +kernel
theorem dX10_layStands_42 : decode cX10_layStands 42 = .ok (.iaload, 1) := by decide +kernel
theorem dX10_layStands_43 : decode cX10_layStands 43 = .ok (.iaload, 1) := by decide +kernel
theorem dX10_layStands_44 : decode cX10_layStands 44 = .ok (.aload_n 0, 1) := by decide +kernel
theorem dX10_layStands_45 : decode cX10_layStands 45 = .ok (.getfield 53, 3) := by decide +kernel
theorem dX10_layStands_48 : decode cX10_layStands 48 = .ok (.aload_n 0, 1) := by decide +kernel
theorem dX10_layStands_49 : decode cX10_layStands 49 = .ok (.getfield 22, 3) := by decide +kernel
theorem dX10_layStands_52 : decode cX10_layStands 52 = .ok (.iload_n 1, 1) := by decide +kernel
theorem dX10_layStands_53 : decode cX10_layStands 53 = .ok (.iaload, 1) := by decide +kernel
theorem dX10_layStands_54 : decode cX10_layStands 54 = .ok (.iaload, 1) := by decide +kernel
theorem dX10_layStands_55 : decode cX10_layStands 55 = .ok (.ior, 1) := by decide +kernel
theorem dX10_layStands_56 : decode cX10_layStands 56 = .ok (.goto 6, 3) := by decide +kernel
theorem dX10_layStands_59 : decode cX10_layStands 59 = .ok (.iconst 1, 1) := by decide +kernel
theorem dX10_layStands_60 : decode cX10_layStands 60 = .ok (.iload_n 1, 1) := by decide +kernel
theorem dX10_layStands_61 : decode cX10_layStands 61 = .ok (.ishl, 1) := by decide +kernel
theorem dX10_layStands_62 : decode cX10_layStands 62 = .ok (.iastore, 1) := by decide +kernel
theorem dX10_layStands_63 : decode cX10_layStands 63 = .ok (.iload_n 2, 1) := by decide +kernel
theorem dX10_layStands_64 : decode cX10_layStands 64 = .ok (.ifCond .eq 17, 3) := by decide +kernel
theorem dX10_layStands_67 : decode cX10_layStands 67 = .ok (.aload_n 0, 1) := by decide +kernel
theorem dX10_layStands_68 : decode cX10_layStands 68 = .ok (.getfield 56, 3) := by decide +kernel
theorem dX10_layStands_71 : decode cX10_layStands 71 = .ok (.aload_n 0, 1) := by decide +kernel
theorem dX10_layStands_72 : decode cX10_layStands 72 = .ok (.getfield 19, 3) := by decide +kernel
theorem dX10_layStands_75 : decode cX10_layStands 75 = .ok (.iload_n 1, 1) := by decide +kernel
theorem dX10_layStands_76 : decode cX10_layStands 76 = .ok (.iaload, 1) := by decide +kernel
theorem dX10_layStands_77 : decode cX10_layStands 77 = .ok (.iaload, 1) := by decide +kernel
theorem dX10_layStands_78 : decode cX10_layStands 78 = .ok (.goto 4, 3) := by decide +kernel
theorem dX10_layStands_81 : decode cX10_layStands 81 = .ok (.iconst 0, 1) := by decide +kernel
theorem dX10_layStands_82 : decode cX10_layStands 82 = .ok (.istore_n 3, 1) := by decide +kernel
theorem dX10_layStands_83 : decode cX10_layStands 83 = .ok (.iload_n 2, 1) := by decide +kernel
theorem dX10_layStands_84 : decode cX10_layStands 84 = .ok (.ifCond .eq 17, 3) := by decide +kernel
theorem dX10_layStands_87 : decode cX10_layStands 87 = .ok (.aload_n 0, 1) := by decide +kernel
theorem dX10_layStands_88 : decode cX10_layStands 88 = .ok (.getfield 56, 3) := by decide +kernel
theorem dX10_layStands_91 : decode cX10_layStands 91 = .ok (.aload_n 0, 1) := by decide +kernel
theorem dX10_layStands_92 : decode cX10_layStands 92 = .ok (.getfield 22, 3) := by decide +kernel
theorem dX10_layStands_95 : decode cX10_layStands 95 = .ok (.iload_n 1, 1) := by decide +kernel
theorem dX10_layStands_96 : decode cX10_layStands 96 = .ok (.iaload, 1) := by decide +kernel
theorem dX10_layStands_97 : decode cX10_layStands 97 = .ok (.iaload, 1) := by decide +kernel
theorem dX10_layStands_98 : decode cX10_layStands 98 = .ok (.goto 4, 3) := by decide +kernel
theorem dX10_layStands_101 : decode cX10_layStands 101 = .ok (.iconst 0, 1) := by decide +kernel
theorem dX10_layStands_102 : decode cX10_layStands 102 = .ok (.istore 4, 2) := by decide +kernel
theorem dX10_layStands_104 : decode cX10_layStands 104 = .ok (.aload_n 0, 1) := by decide +kernel
theorem dX10_layStands_105 : decode cX10_layStands 105 = .ok (.getfield 56, 3) := by decide +kernel
theorem dX10_layStands_108 : decode cX10_layStands 108 = .ok (.iload_n 1, 1) := by decide +kernel
theorem dX10_layStands_109 : decode cX10_layStands 109 = .ok (.iconst 1, 1) := by decide +kernel
theorem dX10_layStands_110 : decode cX10_layStands 110 = .ok (.iload_n 3, 1) := by decide +kernel
theorem dX10_layStands_111 : decode cX10_layStands 111 = .ok (.iload 4, 2) := by decide +kernel
theorem dX10_layStands_113 : decode cX10_layStands 113 = .ok (.if_icmp .le 7, 3) := by decide +kernel
theorem dX10_layStands_116 : decode cX10_layStands 116 = .ok (.iload_n 3, 1) := by decide +kernel
theorem dX10_layStands_117 : decode cX10_layStands 117 = .ok (.goto 5, 3) := by decide +kernel
theorem dX10_layStands_120 : decode cX10_layStands 120 = .ok (.iload 4, 2) := by decide +kernel
theorem dX10_layStands_122 : decode cX10_layStands 122 = .ok (.iadd, 1) := by decide +kernel
theorem dX10_layStands_123 : decode cX10_layStands 123 = .ok (.iastore, 1) := by decide +kernel
theorem dX10_layStands_124 : decode cX10_layStands 124 = .ok (.iinc 1 1, 3) := by decide +kernel
theorem dX10_layStands_127 : decode cX10_layStands 127 = .ok (.goto (-125), 3) := by decide +kernel
theorem dX10_layStands_130 : decode cX10_layStands 130 = .ok (.return_, 1) := by decide +kernel
set_option maxRecDepth 20000 in
theorem ggX10_step_X10_isStep : GoodIn wsX10_step wsX10_isStep := goodIn_r _ [15, 16, 17, 18, 14, 19, 25, 26, 27, 28, 29, 30, 31, 32, 33, 34, 35, 36, 37, 38, 39, 40, 41, 42, 43, 44, 45, 46, 47, 48, 49, 50, 51, 52, 53, 54, 55, 56, 57, 58, 59, 60, 61, 62] (by decide +kernel) (by decide +kernel)
set_option maxRecDepth 20000 in
theorem gX10_step_X10_isStep : GoodIn wsX10_step (wsV RX10 201 RX10 yX10_isStep wsX10_isStep) := goodIn_app (goodIn_of _ (by decide +kernel)) ggX10_step_X10_isStep
set_option maxRecDepth 20000 in
theorem ggX10_step_X10_layStands : GoodIn wsX10_step wsX10_layStands := goodIn_r _ [23, 16, 24, 8, 5, 6, 9, 25, 26, 27, 28, 29, 30, 31, 32, 33, 34, 35, 36, 37, 38, 39, 40, 41, 42, 43, 44, 45, 46, 47, 48, 49, 50, 51, 52, 53, 54, 55, 56, 57, 58, 59, 60, 61, 62] (by decide +kernel) (by decide +kernel)
set_option maxRecDepth 20000 in
theorem gX10_step_X10_layStands : GoodIn wsX10_step (wsV RX10 204 RX10 yX10_layStands wsX10_layStands) := goodIn_app (goodIn_of _ (by decide +kernel)) ggX10_step_X10_layStands
theorem dX10_step_0 : decode cX10_step 0 = .ok (.aload_n 0, 1) := by decide +kernel
theorem dX10_step_1 : decode cX10_step 1 = .ok (.iload_n 1, 1) := by decide +kernel
theorem dX10_step_2 : decode cX10_step 2 = .ok (.invokevirtual 201, 3) := by decide +kernel
theorem dX10_step_5 : decode cX10_step 5 = .ok (.ifCond .ne 6, 3) := by decide +kernel
theorem dX10_step_8 : decode cX10_step 8 = .ok (.ldc 173, 2) := by decide +kernel
theorem dX10_step_10 : decode cX10_step 10 = .ok (.ireturn, 1) := by decide +kernel
theorem dX10_step_11 : decode cX10_step 11 = .ok (.aload_n 0, 1) := by decide +kernel
theorem dX10_step_12 : decode cX10_step 12 = .ok (.invokevirtual 204, 3) := by decide +kernel
theorem dX10_step_15 : decode cX10_step 15 = .ok (.iload_n 2, 1) := by decide +kernel
theorem dX10_step_16 : decode cX10_step 16 = .ok (.tableswitch 104 0 7 #[48, 55, 62, 69, 76, 83, 90, 97], 48) := by decide +kernel
theorem dX10_step_64 : decode cX10_step 64 = .ok (.aload_n 0, 1) := by decide +kernel
theorem dX10_step_65 : decode cX10_step 65 = .ok (.getfield 7, 3) := by decide +kernel
theorem dX10_step_68 : decode cX10_step 68 = .ok (.iload_n 1, 1) := by decide +kernel
theorem dX10_step_69 : decode cX10_step 69 = .ok (.iaload, 1) := by decide +kernel
theorem dX10_step_70 : decode cX10_step 70 = .ok (.ireturn, 1) := by decide +kernel
theorem dX10_step_71 : decode cX10_step 71 = .ok (.aload_n 0, 1) := by decide +kernel
theorem dX10_step_72 : decode cX10_step 72 = .ok (.getfield 13, 3) := by decide +kernel
theorem dX10_step_75 : decode cX10_step 75 = .ok (.iload_n 1, 1) := by decide +kernel
theorem dX10_step_76 : decode cX10_step 76 = .ok (.iaload, 1) := by decide +kernel
theorem dX10_step_77 : decode cX10_step 77 = .ok (.ireturn, 1) := by decide +kernel
theorem dX10_step_78 : decode cX10_step 78 = .ok (.aload_n 0, 1) := by decide +kernel
theorem dX10_step_79 : decode cX10_step 79 = .ok (.getfield 16, 3) := by decide +kernel
theorem dX10_step_82 : decode cX10_step 82 = .ok (.iload_n 1, 1) := by decide +kernel
theorem dX10_step_83 : decode cX10_step 83 = .ok (.iaload, 1) := by decide +kernel
theorem dX10_step_84 : decode cX10_step 84 = .ok (.ireturn, 1) := by decide +kernel
theorem dX10_step_85 : decode cX10_step 85 = .ok (.aload_n 0, 1) := by decide +kernel
theorem dX10_step_86 : decode cX10_step 86 = .ok (.getfield 19, 3) := by decide +kernel
theorem dX10_step_89 : decode cX10_step 89 = .ok (.iload_n 1, 1) := by decide +kernel
theorem dX10_step_90 : decode cX10_step 90 = .ok (.iaload, 1) := by decide +kernel
theorem dX10_step_91 : decode cX10_step 91 = .ok (.ireturn, 1) := by decide +kernel
theorem dX10_step_92 : decode cX10_step 92 = .ok (.aload_n 0, 1) := by decide +kernel
theorem dX10_step_93 : decode cX10_step 93 = .ok (.getfield 22, 3) := by decide +kernel
theorem dX10_step_96 : decode cX10_step 96 = .ok (.iload_n 1, 1) := by decide +kernel
theorem dX10_step_97 : decode cX10_step 97 = .ok (.iaload, 1) := by decide +kernel
theorem dX10_step_98 : decode cX10_step 98 = .ok (.ireturn, 1) := by decide +kernel
theorem dX10_step_99 : decode cX10_step 99 = .ok (.aload_n 0, 1) := by decide +kernel
theorem dX10_step_100 : decode cX10_step 100 = .ok (.getfield 25, 3) := by decide +kernel
theorem dX10_step_103 : decode cX10_step 103 = .ok (.iload_n 1, 1) := by decide +kernel
theorem dX10_step_104 : decode cX10_step 104 = .ok (.iaload, 1) := by decide +kernel
theorem dX10_step_105 : decode cX10_step 105 = .ok (.ireturn, 1) := by decide +kernel
theorem dX10_step_106 : decode cX10_step 106 = .ok (.aload_n 0, 1) := by decide +kernel
theorem dX10_step_107 : decode cX10_step 107 = .ok (.getfield 53, 3) := by decide +kernel
theorem dX10_step_110 : decode cX10_step 110 = .ok (.iload_n 1, 1) := by decide +kernel
theorem dX10_step_111 : decode cX10_step 111 = .ok (.iaload, 1) := by decide +kernel
theorem dX10_step_112 : decode cX10_step 112 = .ok (.ireturn, 1) := by decide +kernel
theorem dX10_step_113 : decode cX10_step 113 = .ok (.aload_n 0, 1) := by decide +kernel
theorem dX10_step_114 : decode cX10_step 114 = .ok (.getfield 56, 3) := by decide +kernel
theorem dX10_step_117 : decode cX10_step 117 = .ok (.iload_n 1, 1) := by decide +kernel
theorem dX10_step_118 : decode cX10_step 118 = .ok (.iaload, 1) := by decide +kernel
theorem dX10_step_119 : decode cX10_step 119 = .ok (.ireturn, 1) := by decide +kernel
theorem dX10_step_120 : decode cX10_step 120 = .ok (.ldc 104, 2) := by decide +kernel
theorem dX10_step_122 : decode cX10_step 122 = .ok (.ireturn, 1) := by decide +kernel
set_option maxRecDepth 20000 in
theorem ggX10_holds_X10_isStep : GoodIn wsX10_holds wsX10_isStep := goodIn_r _ [8, 9, 10, 11, 7, 12, 19, 20, 21, 22, 23, 24, 25, 26, 27, 28, 29, 30, 31, 32, 33, 34, 35, 36, 37, 38, 39, 40, 41, 42, 43, 44, 45, 46, 47, 48, 49, 50, 51, 52, 53, 54, 55, 56] (by decide +kernel) (by decide +kernel)
set_option maxRecDepth 20000 in
theorem gX10_holds_X10_isStep : GoodIn wsX10_holds (wsV RX10 201 RX10 yX10_isStep wsX10_isStep) := goodIn_app (goodIn_of _ (by decide +kernel)) ggX10_holds_X10_isStep
set_option maxRecDepth 20000 in
theorem ggX10_holds_X10_in : GoodIn wsX10_holds wsX10_in := goodIn_r _ [12] (by decide +kernel) (by decide +kernel)
set_option maxRecDepth 20000 in
theorem gX10_holds_X10_in : GoodIn wsX10_holds (va_wsS RX10 96 yX10_in wsX10_in) := goodIn_app (goodIn_of _ (by decide +kernel)) ggX10_holds_X10_in
set_option maxRecDepth 20000 in
theorem ggX10_holds_X10_holdsIn : GoodIn wsX10_holds wsX10_holdsIn := goodIn_r _ [16, 17, 18, 19, 20, 21, 22, 23, 24, 25, 26, 27, 28, 29, 30, 31, 32, 33, 34, 35, 36, 37, 38, 39, 40, 41, 42, 43, 44, 45, 46, 47, 48, 49, 50, 51, 52, 53, 54, 55, 56] (by decide +kernel) (by decide +kernel)
set_option maxRecDepth 20000 in
theorem gX10_holds_X10_holdsIn : GoodIn wsX10_holds (wsV RX10 174 RX10 yX10_holdsIn wsX10_holdsIn) := goodIn_app (goodIn_of _ (by decide +kernel)) ggX10_holds_X10_holdsIn
theorem dX10_holds_0 : decode cX10_holds 0 = .ok (.aload_n 0, 1) := by decide +kernel
theorem dX10_holds_1 : decode cX10_holds 1 = .ok (.iload_n 1, 1) := by decide +kernel
theorem dX10_holds_2 : decode cX10_holds 2 = .ok (.invokevirtual 201, 3) := by decide +kernel
theorem dX10_holds_5 : decode cX10_holds 5 = .ok (.ifCond .ne 6, 3) := by decide +kernel
theorem dX10_holds_8 : decode cX10_holds 8 = .ok (.ldc 173, 2) := by decide +kernel
theorem dX10_holds_10 : decode cX10_holds 10 = .ok (.ireturn, 1) := by decide +kernel
theorem dX10_holds_11 : decode cX10_holds 11 = .ok (.iload_n 2, 1) := by decide +kernel
theorem dX10_holds_12 : decode cX10_holds 12 = .ok (.i2l, 1) := by decide +kernel
theorem dX10_holds_13 : decode cX10_holds 13 = .ok (.lconst 0, 1) := by decide +kernel
theorem dX10_holds_14 : decode cX10_holds 14 = .ok (.ldc2_w 102, 3) := by decide +kernel
theorem dX10_holds_17 : decode cX10_holds 17 = .ok (.invokestatic 96, 3) := by decide +kernel
theorem dX10_holds_20 : decode cX10_holds 20 = .ok (.ifCond .ne 6, 3) := by decide +kernel
theorem dX10_holds_23 : decode cX10_holds 23 = .ok (.ldc 104, 2) := by decide +kernel
theorem dX10_holds_25 : decode cX10_holds 25 = .ok (.ireturn, 1) := by decide +kernel
theorem dX10_holds_26 : decode cX10_holds 26 = .ok (.aload_n 0, 1) := by decide +kernel
theorem dX10_holds_27 : decode cX10_holds 27 = .ok (.iload_n 1, 1) := by decide +kernel
theorem dX10_holds_28 : decode cX10_holds 28 = .ok (.iload_n 2, 1) := by decide +kernel
theorem dX10_holds_29 : decode cX10_holds 29 = .ok (.invokevirtual 174, 3) := by decide +kernel
theorem dX10_holds_32 : decode cX10_holds 32 = .ok (.ifCond .eq 7, 3) := by decide +kernel
theorem dX10_holds_35 : decode cX10_holds 35 = .ok (.iconst 1, 1) := by decide +kernel
theorem dX10_holds_36 : decode cX10_holds 36 = .ok (.goto 4, 3) := by decide +kernel
theorem dX10_holds_39 : decode cX10_holds 39 = .ok (.iconst 0, 1) := by decide +kernel
theorem dX10_holds_40 : decode cX10_holds 40 = .ok (.ireturn, 1) := by decide +kernel
theorem dX10_remember_0 : decode cX10_remember 0 = .ok (.aload_n 0, 1) := by decide +kernel
theorem dX10_remember_1 : decode cX10_remember 1 = .ok (.getfield 160, 3) := by decide +kernel
theorem dX10_remember_4 : decode cX10_remember 4 = .ok (.bipush 8, 2) := by decide +kernel
theorem dX10_remember_6 : decode cX10_remember 6 = .ok (.if_icmp .ne 41, 3) := by decide +kernel
theorem dX10_remember_9 : decode cX10_remember 9 = .ok (.iconst 1, 1) := by decide +kernel
theorem dX10_remember_10 : decode cX10_remember 10 = .ok (.istore_n 2, 1) := by decide +kernel
theorem dX10_remember_11 : decode cX10_remember 11 = .ok (.iload_n 2, 1) := by decide +kernel
theorem dX10_remember_12 : decode cX10_remember 12 = .ok (.bipush 8, 2) := by decide +kernel
theorem dX10_remember_14 : decode cX10_remember 14 = .ok (.if_icmp .ge 23, 3) := by decide +kernel
theorem dX10_remember_17 : decode cX10_remember 17 = .ok (.aload_n 0, 1) := by decide +kernel
theorem dX10_remember_18 : decode cX10_remember 18 = .ok (.getfield 59, 3) := by decide +kernel
theorem dX10_remember_21 : decode cX10_remember 21 = .ok (.iload_n 2, 1) := by decide +kernel
theorem dX10_remember_22 : decode cX10_remember 22 = .ok (.iconst 1, 1) := by decide +kernel
theorem dX10_remember_23 : decode cX10_remember 23 = .ok (.isub, 1) := by decide +kernel
theorem dX10_remember_24 : decode cX10_remember 24 = .ok (.aload_n 0, 1) := by decide +kernel
theorem dX10_remember_25 : decode cX10_remember 25 = .ok (.getfield 59, 3) := by decide +kernel
theorem dX10_remember_28 : decode cX10_remember 28 = .ok (.iload_n 2, 1) := by decide +kernel
theorem dX10_remember_29 : decode cX10_remember 29 = .ok (.iaload, 1) := by decide +kernel
theorem dX10_remember_30 : decode cX10_remember 30 = .ok (.iastore, 1) := by decide +kernel
theorem dX10_remember_31 : decode cX10_remember 31 = .ok (.iinc 2 1, 3) := by decide +kernel
theorem dX10_remember_34 : decode cX10_remember 34 = .ok (.goto (-23), 3) := by decide +kernel
theorem dX10_remember_37 : decode cX10_remember 37 = .ok (.aload_n 0, 1) := by decide +kernel
theorem dX10_remember_38 : decode cX10_remember 38 = .ok (.dup, 1) := by decide +kernel
theorem dX10_remember_39 : decode cX10_remember 39 = .ok (.getfield 160, 3) := by decide +kernel
theorem dX10_remember_42 : decode cX10_remember 42 = .ok (.iconst 1, 1) := by decide +kernel
theorem dX10_remember_43 : decode cX10_remember 43 = .ok (.isub, 1) := by decide +kernel
theorem dX10_remember_44 : decode cX10_remember 44 = .ok (.putfield 160, 3) := by decide +kernel
theorem dX10_remember_47 : decode cX10_remember 47 = .ok (.aload_n 0, 1) := by decide +kernel
theorem dX10_remember_48 : decode cX10_remember 48 = .ok (.getfield 59, 3) := by decide +kernel
theorem dX10_remember_51 : decode cX10_remember 51 = .ok (.aload_n 0, 1) := by decide +kernel
theorem dX10_remember_52 : decode cX10_remember 52 = .ok (.getfield 160, 3) := by decide +kernel
theorem dX10_remember_55 : decode cX10_remember 55 = .ok (.iload_n 1, 1) := by decide +kernel
theorem dX10_remember_56 : decode cX10_remember 56 = .ok (.iastore, 1) := by decide +kernel
theorem dX10_remember_57 : decode cX10_remember 57 = .ok (.aload_n 0, 1) := by decide +kernel
theorem dX10_remember_58 : decode cX10_remember 58 = .ok (.dup, 1) := by decide +kernel
theorem dX10_remember_59 : decode cX10_remember 59 = .ok (.getfield 160, 3) := by decide +kernel
theorem dX10_remember_62 : decode cX10_remember 62 = .ok (.iconst 1, 1) := by decide +kernel
theorem dX10_remember_63 : decode cX10_remember 63 = .ok (.iadd, 1) := by decide +kernel
theorem dX10_remember_64 : decode cX10_remember 64 = .ok (.putfield 160, 3) := by decide +kernel
theorem dX10_remember_67 : decode cX10_remember 67 = .ok (.return_, 1) := by decide +kernel
set_option maxRecDepth 20000 in
theorem ggX10_canMake_X10_has : GoodIn wsX10_canMake wsX10_has := goodIn_r _ [6] (by decide +kernel) (by decide +kernel)
set_option maxRecDepth 20000 in
theorem gX10_canMake_X10_has : GoodIn wsX10_canMake (va_wsS RX10 139 yX10_has wsX10_has) := goodIn_app (goodIn_of _ (by decide +kernel)) ggX10_canMake_X10_has
theorem dX10_canMake_0 : decode cX10_canMake 0 = .ok (.aload_n 0, 1) := by decide +kernel
theorem dX10_canMake_1 : decode cX10_canMake 1 = .ok (.getfield 7, 3) := by decide +kernel
theorem dX10_canMake_4 : decode cX10_canMake 4 = .ok (.iload_n 1, 1) := by decide +kernel
theorem dX10_canMake_5 : decode cX10_canMake 5 = .ok (.iaload, 1) := by decide +kernel
theorem dX10_canMake_6 : decode cX10_canMake 6 = .ok (.aload_n 0, 1) := by decide +kernel
theorem dX10_canMake_7 : decode cX10_canMake 7 = .ok (.getfield 7, 3) := by decide +kernel
theorem dX10_canMake_10 : decode cX10_canMake 10 = .ok (.iload_n 2, 1) := by decide +kernel
theorem dX10_canMake_11 : decode cX10_canMake 11 = .ok (.iaload, 1) := by decide +kernel
theorem dX10_canMake_12 : decode cX10_canMake 12 = .ok (.ior, 1) := by decide +kernel
theorem dX10_canMake_13 : decode cX10_canMake 13 = .ok (.iconst 1, 1) := by decide +kernel
theorem dX10_canMake_14 : decode cX10_canMake 14 = .ok (.iload_n 3, 1) := by decide +kernel
theorem dX10_canMake_15 : decode cX10_canMake 15 = .ok (.ishl, 1) := by decide +kernel
theorem dX10_canMake_16 : decode cX10_canMake 16 = .ok (.iconst (-1), 1) := by decide +kernel
theorem dX10_canMake_17 : decode cX10_canMake 17 = .ok (.ixor, 1) := by decide +kernel
theorem dX10_canMake_18 : decode cX10_canMake 18 = .ok (.iand, 1) := by decide +kernel
theorem dX10_canMake_19 : decode cX10_canMake 19 = .ok (.istore 4, 2) := by decide +kernel
theorem dX10_canMake_21 : decode cX10_canMake 21 = .ok (.aload_n 0, 1) := by decide +kernel
theorem dX10_canMake_22 : decode cX10_canMake 22 = .ok (.getfield 13, 3) := by decide +kernel
theorem dX10_canMake_25 : decode cX10_canMake 25 = .ok (.iload_n 1, 1) := by decide +kernel
theorem dX10_canMake_26 : decode cX10_canMake 26 = .ok (.iaload, 1) := by decide +kernel
theorem dX10_canMake_27 : decode cX10_canMake 27 = .ok (.aload_n 0, 1) := by decide +kernel
theorem dX10_canMake_28 : decode cX10_canMake 28 = .ok (.getfield 13, 3) := by decide +kernel
theorem dX10_canMake_31 : decode cX10_canMake 31 = .ok (.iload_n 2, 1) := by decide +kernel
theorem dX10_canMake_32 : decode cX10_canMake 32 = .ok (.iaload, 1) := by decide +kernel
theorem dX10_canMake_33 : decode cX10_canMake 33 = .ok (.ior, 1) := by decide +kernel
theorem dX10_canMake_34 : decode cX10_canMake 34 = .ok (.iconst 1, 1) := by decide +kernel
theorem dX10_canMake_35 : decode cX10_canMake 35 = .ok (.iload_n 3, 1) := by decide +kernel
theorem dX10_canMake_36 : decode cX10_canMake 36 = .ok (.ishl, 1) := by decide +kernel
theorem dX10_canMake_37 : decode cX10_canMake 37 = .ok (.iconst (-1), 1) := by decide +kernel
theorem dX10_canMake_38 : decode cX10_canMake 38 = .ok (.ixor, 1) := by decide +kernel
theorem dX10_canMake_39 : decode cX10_canMake 39 = .ok (.iand, 1) := by decide +kernel
theorem dX10_canMake_40 : decode cX10_canMake 40 = .ok (.istore 5, 2) := by decide +kernel
theorem dX10_canMake_42 : decode cX10_canMake 42 = .ok (.aload_n 0, 1) := by decide +kernel
theorem dX10_canMake_43 : decode cX10_canMake 43 = .ok (.getfield 7, 3) := by decide +kernel
theorem dX10_canMake_46 : decode cX10_canMake 46 = .ok (.iload_n 1, 1) := by decide +kernel
theorem dX10_canMake_47 : decode cX10_canMake 47 = .ok (.iaload, 1) := by decide +kernel
theorem dX10_canMake_48 : decode cX10_canMake 48 = .ok (.iload_n 3, 1) := by decide +kernel
theorem dX10_canMake_49 : decode cX10_canMake 49 = .ok (.invokestatic 139, 3) := by decide +kernel
theorem dX10_canMake_52 : decode cX10_canMake 52 = .ok (.ifCond .eq 28, 3) := by decide +kernel
theorem dX10_canMake_55 : decode cX10_canMake 55 = .ok (.aload_n 0, 1) := by decide +kernel
theorem dX10_canMake_56 : decode cX10_canMake 56 = .ok (.getfield 13, 3) := by decide +kernel
theorem dX10_canMake_59 : decode cX10_canMake 59 = .ok (.iload_n 2, 1) := by decide +kernel
theorem dX10_canMake_60 : decode cX10_canMake 60 = .ok (.iaload, 1) := by decide +kernel
theorem dX10_canMake_61 : decode cX10_canMake 61 = .ok (.iload_n 3, 1) := by decide +kernel
theorem dX10_canMake_62 : decode cX10_canMake 62 = .ok (.invokestatic 139, 3) := by decide +kernel
theorem dX10_canMake_65 : decode cX10_canMake 65 = .ok (.ifCond .eq 15, 3) := by decide +kernel
theorem dX10_canMake_68 : decode cX10_canMake 68 = .ok (.iload 4, 2) := by decide +kernel
theorem dX10_canMake_70 : decode cX10_canMake 70 = .ok (.iload 5, 2) := by decide +kernel
theorem dX10_canMake_72 : decode cX10_canMake 72 = .ok (.iand, 1) := by decide +kernel
theorem dX10_canMake_73 : decode cX10_canMake 73 = .ok (.ifCond .ne 7, 3) := by decide +kernel
theorem dX10_canMake_76 : decode cX10_canMake 76 = .ok (.iconst 1, 1) := by decide +kernel
theorem dX10_canMake_77 : decode cX10_canMake 77 = .ok (.goto 4, 3) := by decide +kernel
theorem dX10_canMake_80 : decode cX10_canMake 80 = .ok (.iconst 0, 1) := by decide +kernel
theorem dX10_canMake_81 : decode cX10_canMake 81 = .ok (.ireturn, 1) := by decide +kernel
theorem dX10_make_0 : decode cX10_make 0 = .ok (.aload_n 0, 1) := by decide +kernel
theorem dX10_make_1 : decode cX10_make 1 = .ok (.getfield 7, 3) := by decide +kernel
theorem dX10_make_4 : decode cX10_make 4 = .ok (.aload_n 0, 1) := by decide +kernel
theorem dX10_make_5 : decode cX10_make 5 = .ok (.getfield 93, 3) := by decide +kernel
theorem dX10_make_8 : decode cX10_make 8 = .ok (.aload_n 0, 1) := by decide +kernel
theorem dX10_make_9 : decode cX10_make 9 = .ok (.getfield 7, 3) := by decide +kernel
theorem dX10_make_12 : decode cX10_make 12 = .ok (.iload_n 1, 1) := by decide +kernel
theorem dX10_make_13 : decode cX10_make 13 = .ok (.iaload, 1) := by decide +kernel
theorem dX10_make_14 : decode cX10_make 14 = .ok (.aload_n 0, 1) := by decide +kernel
theorem dX10_make_15 : decode cX10_make 15 = .ok (.getfield 7, 3) := by decide +kernel
theorem dX10_make_18 : decode cX10_make 18 = .ok (.iload_n 2, 1) := by decide +kernel
theorem dX10_make_19 : decode cX10_make 19 = .ok (.iaload, 1) := by decide +kernel
theorem dX10_make_20 : decode cX10_make 20 = .ok (.ior, 1) := by decide +kernel
theorem dX10_make_21 : decode cX10_make 21 = .ok (.iconst 1, 1) := by decide +kernel
theorem dX10_make_22 : decode cX10_make 22 = .ok (.iload_n 3, 1) := by decide +kernel
theorem dX10_make_23 : decode cX10_make 23 = .ok (.ishl, 1) := by decide +kernel
theorem dX10_make_24 : decode cX10_make 24 = .ok (.iconst (-1), 1) := by decide +kernel
theorem dX10_make_25 : decode cX10_make 25 = .ok (.ixor, 1) := by decide +kernel
theorem dX10_make_26 : decode cX10_make 26 = .ok (.iand, 1) := by decide +kernel
theorem dX10_make_27 : decode cX10_make 27 = .ok (.iastore, 1) := by decide +kernel
theorem dX10_make_28 : decode cX10_make 28 = .ok (.aload_n 0, 1) := by decide +kernel
theorem dX10_make_29 : decode cX10_make 29 = .ok (.getfield 13, 3) := by decide +kernel
theorem dX10_make_32 : decode cX10_make 32 = .ok (.aload_n 0, 1) := by decide +kernel
theorem dX10_make_33 : decode cX10_make 33 = .ok (.getfield 93, 3) := by decide +kernel
theorem dX10_make_36 : decode cX10_make 36 = .ok (.aload_n 0, 1) := by decide +kernel
theorem dX10_make_37 : decode cX10_make 37 = .ok (.getfield 13, 3) := by decide +kernel
theorem dX10_make_40 : decode cX10_make 40 = .ok (.iload_n 1, 1) := by decide +kernel
theorem dX10_make_41 : decode cX10_make 41 = .ok (.iaload, 1) := by decide +kernel
theorem dX10_make_42 : decode cX10_make 42 = .ok (.aload_n 0, 1) := by decide +kernel
theorem dX10_make_43 : decode cX10_make 43 = .ok (.getfield 13, 3) := by decide +kernel
theorem dX10_make_46 : decode cX10_make 46 = .ok (.iload_n 2, 1) := by decide +kernel
theorem dX10_make_47 : decode cX10_make 47 = .ok (.iaload, 1) := by decide +kernel
theorem dX10_make_48 : decode cX10_make 48 = .ok (.ior, 1) := by decide +kernel
theorem dX10_make_49 : decode cX10_make 49 = .ok (.iconst 1, 1) := by decide +kernel
theorem dX10_make_50 : decode cX10_make 50 = .ok (.iload_n 3, 1) := by decide +kernel
theorem dX10_make_51 : decode cX10_make 51 = .ok (.ishl, 1) := by decide +kernel
theorem dX10_make_52 : decode cX10_make 52 = .ok (.iconst (-1), 1) := by decide +kernel
theorem dX10_make_53 : decode cX10_make 53 = .ok (.ixor, 1) := by decide +kernel
theorem dX10_make_54 : decode cX10_make 54 = .ok (.iand, 1) := by decide +kernel
theorem dX10_make_55 : decode cX10_make 55 = .ok (.iastore, 1) := by decide +kernel
theorem dX10_make_56 : decode cX10_make 56 = .ok (.aload_n 0, 1) := by decide +kernel
theorem dX10_make_57 : decode cX10_make 57 = .ok (.getfield 16, 3) := by decide +kernel
theorem dX10_make_60 : decode cX10_make 60 = .ok (.aload_n 0, 1) := by decide +kernel
theorem dX10_make_61 : decode cX10_make 61 = .ok (.getfield 93, 3) := by decide +kernel
theorem dX10_make_64 : decode cX10_make 64 = .ok (.iconst (-1), 1) := by decide +kernel
theorem dX10_make_65 : decode cX10_make 65 = .ok (.iastore, 1) := by decide +kernel
theorem dX10_make_66 : decode cX10_make 66 = .ok (.aload_n 0, 1) := by decide +kernel
theorem dX10_make_67 : decode cX10_make 67 = .ok (.getfield 19, 3) := by decide +kernel
theorem dX10_make_70 : decode cX10_make 70 = .ok (.aload_n 0, 1) := by decide +kernel
theorem dX10_make_71 : decode cX10_make 71 = .ok (.getfield 93, 3) := by decide +kernel
theorem dX10_make_74 : decode cX10_make 74 = .ok (.iload_n 1, 1) := by decide +kernel
theorem dX10_make_75 : decode cX10_make 75 = .ok (.iastore, 1) := by decide +kernel
theorem dX10_make_76 : decode cX10_make 76 = .ok (.aload_n 0, 1) := by decide +kernel
theorem dX10_make_77 : decode cX10_make 77 = .ok (.getfield 22, 3) := by decide +kernel
theorem dX10_make_80 : decode cX10_make 80 = .ok (.aload_n 0, 1) := by decide +kernel
theorem dX10_make_81 : decode cX10_make 81 = .ok (.getfield 93, 3) := by decide +kernel
theorem dX10_make_84 : decode cX10_make 84 = .ok (.iload_n 2, 1) := by decide +kernel
theorem dX10_make_85 : decode cX10_make 85 = .ok (.iastore, 1) := by decide +kernel
theorem dX10_make_86 : decode cX10_make 86 = .ok (.aload_n 0, 1) := by decide +kernel
theorem dX10_make_87 : decode cX10_make 87 = .ok (.getfield 25, 3) := by decide +kernel
theorem dX10_make_90 : decode cX10_make 90 = .ok (.aload_n 0, 1) := by decide +kernel
theorem dX10_make_91 : decode cX10_make 91 = .ok (.getfield 93, 3) := by decide +kernel
theorem dX10_make_94 : decode cX10_make 94 = .ok (.iload_n 3, 1) := by decide +kernel
theorem dX10_make_95 : decode cX10_make 95 = .ok (.iastore, 1) := by decide +kernel
theorem dX10_make_96 : decode cX10_make 96 = .ok (.aload_n 0, 1) := by decide +kernel
theorem dX10_make_97 : decode cX10_make 97 = .ok (.dup, 1) := by decide +kernel
theorem dX10_make_98 : decode cX10_make 98 = .ok (.getfield 93, 3) := by decide +kernel
theorem dX10_make_101 : decode cX10_make 101 = .ok (.iconst 1, 1) := by decide +kernel
theorem dX10_make_102 : decode cX10_make 102 = .ok (.iadd, 1) := by decide +kernel
theorem dX10_make_103 : decode cX10_make 103 = .ok (.putfield 93, 3) := by decide +kernel
theorem dX10_make_106 : decode cX10_make 106 = .ok (.return_, 1) := by decide +kernel
theorem dX10_isFull_0 : decode cX10_isFull 0 = .ok (.aload_n 0, 1) := by decide +kernel
theorem dX10_isFull_1 : decode cX10_isFull 1 = .ok (.getfield 93, 3) := by decide +kernel
theorem dX10_isFull_4 : decode cX10_isFull 4 = .ok (.aload_n 0, 1) := by decide +kernel
theorem dX10_isFull_5 : decode cX10_isFull 5 = .ok (.getfield 153, 3) := by decide +kernel
theorem dX10_isFull_8 : decode cX10_isFull 8 = .ok (.isub, 1) := by decide +kernel
theorem dX10_isFull_9 : decode cX10_isFull 9 = .ok (.bipush 30, 2) := by decide +kernel
theorem dX10_isFull_11 : decode cX10_isFull 11 = .ok (.if_icmp .ne 7, 3) := by decide +kernel
theorem dX10_isFull_14 : decode cX10_isFull 14 = .ok (.iconst 1, 1) := by decide +kernel
theorem dX10_isFull_15 : decode cX10_isFull 15 = .ok (.goto 4, 3) := by decide +kernel
theorem dX10_isFull_18 : decode cX10_isFull 18 = .ok (.iconst 0, 1) := by decide +kernel
theorem dX10_isFull_19 : decode cX10_isFull 19 = .ok (.ireturn, 1) := by decide +kernel
set_option maxRecDepth 20000 in
theorem ggX10_resolve_X10_isStep : GoodIn wsX10_resolve wsX10_isStep := goodIn_r _ [9, 4, 10, 11, 8, 12, 45, 46, 47, 48, 49, 50, 51, 52, 53, 54, 55, 56, 57, 58, 59, 60, 61, 62, 63, 64, 65, 66, 67, 68, 69, 70, 71, 72, 73, 74, 75, 76, 77, 78, 79, 80, 81, 82] (by decide +kernel) (by decide +kernel)
set_option maxRecDepth 20000 in
theorem gX10_resolve_X10_isStep : GoodIn wsX10_resolve (wsV RX10 201 RX10 yX10_isStep wsX10_isStep) := goodIn_app (goodIn_of _ (by decide +kernel)) ggX10_resolve_X10_isStep
set_option maxRecDepth 20000 in
theorem ggX10_resolve_X10_isLetter : GoodIn wsX10_resolve wsX10_isLetter := goodIn_r _ [15, 16, 10, 11, 8, 12] (by decide +kernel) (by decide +kernel)
set_option maxRecDepth 20000 in
theorem gX10_resolve_X10_isLetter : GoodIn wsX10_resolve (va_wsS RX10 166 yX10_isLetter wsX10_isLetter) := goodIn_app (goodIn_of _ (by decide +kernel)) ggX10_resolve_X10_isLetter
set_option maxRecDepth 20000 in
theorem ggX10_resolve_X10_canMake : GoodIn wsX10_resolve wsX10_canMake := goodIn_r _ [20, 21, 22, 23, 24, 8, 25, 45, 46, 47, 48, 49, 50, 51, 52, 53, 54, 55, 56, 57, 58, 59, 60, 61, 62, 63, 64, 65, 66, 67, 68, 69, 70, 71, 72, 73, 74, 75, 76, 77, 78, 79, 80, 81, 82] (by decide +kernel) (by decide +kernel)
set_option maxRecDepth 20000 in
theorem gX10_resolve_X10_canMake : GoodIn wsX10_resolve (wsV RX10 207 RX10 yX10_canMake wsX10_canMake) := goodIn_app (goodIn_of _ (by decide +kernel)) ggX10_resolve_X10_canMake
set_option maxRecDepth 20000 in
theorem ggX10_resolve_X10_isFull : GoodIn wsX10_resolve wsX10_isFull := goodIn_r _ [29, 4, 30, 45, 46, 47, 48, 49, 50, 51, 52, 53, 54, 55, 56, 57, 58, 59, 60, 61, 62, 63, 64, 65, 66, 67, 68, 69, 70, 71, 72, 73, 74, 75, 76, 77, 78, 79, 80, 81, 82] (by decide +kernel) (by decide +kernel)
set_option maxRecDepth 20000 in
theorem gX10_resolve_X10_isFull : GoodIn wsX10_resolve (wsV RX10 212 RX10 yX10_isFull wsX10_isFull) := goodIn_app (goodIn_of _ (by decide +kernel)) ggX10_resolve_X10_isFull
set_option maxRecDepth 20000 in
theorem ggX10_resolve_X10_remember : GoodIn wsX10_resolve wsX10_remember := goodIn_r _ [34, 35, 36, 45, 46, 47, 48, 49, 50, 51, 52, 53, 54, 55, 56, 57, 58, 59, 60, 61, 62, 63, 64, 65, 66, 67, 68, 69, 70, 71, 72, 73, 74, 75, 76, 77, 78, 79, 80, 81, 82] (by decide +kernel) (by decide +kernel)
set_option maxRecDepth 20000 in
theorem gX10_resolve_X10_remember : GoodIn wsX10_resolve (wsV RX10 216 RX10 yX10_remember wsX10_remember) := goodIn_app (goodIn_of _ (by decide +kernel)) ggX10_resolve_X10_remember
set_option maxRecDepth 20000 in
theorem ggX10_resolve_X10_make : GoodIn wsX10_resolve wsX10_make := goodIn_r _ [40, 21, 4, 22, 41, 42, 43, 44, 45, 46, 47, 48, 49, 50, 51, 52, 53, 54, 55, 56, 57, 58, 59, 60, 61, 62, 63, 64, 65, 66, 67, 68, 69, 70, 71, 72, 73, 74, 75, 76, 77, 78, 79, 80, 81, 82] (by decide +kernel) (by decide +kernel)
set_option maxRecDepth 20000 in
theorem gX10_resolve_X10_make : GoodIn wsX10_resolve (wsV RX10 220 RX10 yX10_make wsX10_make) := goodIn_app (goodIn_of _ (by decide +kernel)) ggX10_resolve_X10_make
theorem dX10_resolve_0 : decode cX10_resolve 0 = .ok (.aload_n 0, 1) := by decide +kernel
theorem dX10_resolve_1 : decode cX10_resolve 1 = .ok (.iload_n 1, 1) := by decide +kernel
theorem dX10_resolve_2 : decode cX10_resolve 2 = .ok (.invokevirtual 201, 3) := by decide +kernel
theorem dX10_resolve_5 : decode cX10_resolve 5 = .ok (.ifCond .eq 23, 3) := by decide +kernel
theorem dX10_resolve_8 : decode cX10_resolve 8 = .ok (.aload_n 0, 1) := by decide +kernel
theorem dX10_resolve_9 : decode cX10_resolve 9 = .ok (.iload_n 2, 1) := by decide +kernel
theorem dX10_resolve_10 : decode cX10_resolve 10 = .ok (.invokevirtual 201, 3) := by decide +kernel
theorem dX10_resolve_13 : decode cX10_resolve 13 = .ok (.ifCond .eq 15, 3) := by decide +kernel
theorem dX10_resolve_16 : decode cX10_resolve 16 = .ok (.iload_n 1, 1) := by decide +kernel
theorem dX10_resolve_17 : decode cX10_resolve 17 = .ok (.iload_n 2, 1) := by decide +kernel
theorem dX10_resolve_18 : decode cX10_resolve 18 = .ok (.if_icmp .eq 10, 3) := by decide +kernel
theorem dX10_resolve_21 : decode cX10_resolve 21 = .ok (.iload_n 3, 1) := by decide +kernel
theorem dX10_resolve_22 : decode cX10_resolve 22 = .ok (.invokestatic 166, 3) := by decide +kernel
theorem dX10_resolve_25 : decode cX10_resolve 25 = .ok (.ifCond .ne 6, 3) := by decide +kernel
theorem dX10_resolve_28 : decode cX10_resolve 28 = .ok (.ldc 173, 2) := by decide +kernel
theorem dX10_resolve_30 : decode cX10_resolve 30 = .ok (.ireturn, 1) := by decide +kernel
theorem dX10_resolve_31 : decode cX10_resolve 31 = .ok (.aload_n 0, 1) := by decide +kernel
theorem dX10_resolve_32 : decode cX10_resolve 32 = .ok (.iload_n 1, 1) := by decide +kernel
theorem dX10_resolve_33 : decode cX10_resolve 33 = .ok (.iload_n 2, 1) := by decide +kernel
theorem dX10_resolve_34 : decode cX10_resolve 34 = .ok (.iload_n 3, 1) := by decide +kernel
theorem dX10_resolve_35 : decode cX10_resolve 35 = .ok (.invokevirtual 207, 3) := by decide +kernel
theorem dX10_resolve_38 : decode cX10_resolve 38 = .ok (.ifCond .ne 6, 3) := by decide +kernel
theorem dX10_resolve_41 : decode cX10_resolve 41 = .ok (.ldc 211, 2) := by decide +kernel
theorem dX10_resolve_43 : decode cX10_resolve 43 = .ok (.ireturn, 1) := by decide +kernel
theorem dX10_resolve_44 : decode cX10_resolve 44 = .ok (.aload_n 0, 1) := by decide +kernel
theorem dX10_resolve_45 : decode cX10_resolve 45 = .ok (.invokevirtual 212, 3) := by decide +kernel
theorem dX10_resolve_48 : decode cX10_resolve 48 = .ok (.ifCond .eq 6, 3) := by decide +kernel
theorem dX10_resolve_51 : decode cX10_resolve 51 = .ok (.ldc 108, 2) := by decide +kernel
theorem dX10_resolve_53 : decode cX10_resolve 53 = .ok (.ireturn, 1) := by decide +kernel
theorem dX10_resolve_54 : decode cX10_resolve 54 = .ok (.aload_n 0, 1) := by decide +kernel
theorem dX10_resolve_55 : decode cX10_resolve 55 = .ok (.aload_n 0, 1) := by decide +kernel
theorem dX10_resolve_56 : decode cX10_resolve 56 = .ok (.getfield 93, 3) := by decide +kernel
theorem dX10_resolve_59 : decode cX10_resolve 59 = .ok (.invokevirtual 216, 3) := by decide +kernel
theorem dX10_resolve_62 : decode cX10_resolve 62 = .ok (.aload_n 0, 1) := by decide +kernel
theorem dX10_resolve_63 : decode cX10_resolve 63 = .ok (.iload_n 1, 1) := by decide +kernel
theorem dX10_resolve_64 : decode cX10_resolve 64 = .ok (.iload_n 2, 1) := by decide +kernel
theorem dX10_resolve_65 : decode cX10_resolve 65 = .ok (.iload_n 3, 1) := by decide +kernel
theorem dX10_resolve_66 : decode cX10_resolve 66 = .ok (.invokevirtual 220, 3) := by decide +kernel
theorem dX10_resolve_69 : decode cX10_resolve 69 = .ok (.aload_n 0, 1) := by decide +kernel
theorem dX10_resolve_70 : decode cX10_resolve 70 = .ok (.getfield 93, 3) := by decide +kernel
theorem dX10_resolve_73 : decode cX10_resolve 73 = .ok (.iconst 1, 1) := by decide +kernel
theorem dX10_resolve_74 : decode cX10_resolve 74 = .ok (.isub, 1) := by decide +kernel
theorem dX10_resolve_75 : decode cX10_resolve 75 = .ok (.ireturn, 1) := by decide +kernel
theorem dX10_isWithin_0 : decode cX10_isWithin 0 = .ok (.aload_n 0, 1) := by decide +kernel
theorem dX10_isWithin_1 : decode cX10_isWithin 1 = .ok (.getfield 7, 3) := by decide +kernel
theorem dX10_isWithin_4 : decode cX10_isWithin 4 = .ok (.iload_n 1, 1) := by decide +kernel
theorem dX10_isWithin_5 : decode cX10_isWithin 5 = .ok (.iaload, 1) := by decide +kernel
theorem dX10_isWithin_6 : decode cX10_isWithin 6 = .ok (.aload_n 0, 1) := by decide +kernel
theorem dX10_isWithin_7 : decode cX10_isWithin 7 = .ok (.getfield 7, 3) := by decide +kernel
theorem dX10_isWithin_10 : decode cX10_isWithin 10 = .ok (.iload_n 2, 1) := by decide +kernel
theorem dX10_isWithin_11 : decode cX10_isWithin 11 = .ok (.iaload, 1) := by decide +kernel
theorem dX10_isWithin_12 : decode cX10_isWithin 12 = .ok (.ior, 1) := by decide +kernel
theorem dX10_isWithin_13 : decode cX10_isWithin 13 = .ok (.iconst 1, 1) := by decide +kernel
theorem dX10_isWithin_14 : decode cX10_isWithin 14 = .ok (.iload_n 3, 1) := by decide +kernel
theorem dX10_isWithin_15 : decode cX10_isWithin 15 = .ok (.ishl, 1) := by decide +kernel
theorem dX10_isWithin_16 : decode cX10_isWithin 16 = .ok (.iconst (-1), 1) := by decide +kernel
theorem dX10_isWithin_17 : decode cX10_isWithin 17 = .ok (.ixor, 1) := by decide +kernel
theorem dX10_isWithin_18 : decode cX10_isWithin 18 = .ok (.iand, 1) := by decide +kernel
theorem dX10_isWithin_19 : decode cX10_isWithin 19 = .ok (.istore 4, 2) := by decide +kernel
theorem dX10_isWithin_21 : decode cX10_isWithin 21 = .ok (.aload_n 0, 1) := by decide +kernel
theorem dX10_isWithin_22 : decode cX10_isWithin 22 = .ok (.getfield 13, 3) := by decide +kernel
theorem dX10_isWithin_25 : decode cX10_isWithin 25 = .ok (.iload_n 1, 1) := by decide +kernel
theorem dX10_isWithin_26 : decode cX10_isWithin 26 = .ok (.iaload, 1) := by decide +kernel
theorem dX10_isWithin_27 : decode cX10_isWithin 27 = .ok (.aload_n 0, 1) := by decide +kernel
theorem dX10_isWithin_28 : decode cX10_isWithin 28 = .ok (.getfield 13, 3) := by decide +kernel
theorem dX10_isWithin_31 : decode cX10_isWithin 31 = .ok (.iload_n 2, 1) := by decide +kernel
theorem dX10_isWithin_32 : decode cX10_isWithin 32 = .ok (.iaload, 1) := by decide +kernel
theorem dX10_isWithin_33 : decode cX10_isWithin 33 = .ok (.ior, 1) := by decide +kernel
theorem dX10_isWithin_34 : decode cX10_isWithin 34 = .ok (.iconst 1, 1) := by decide +kernel
theorem dX10_isWithin_35 : decode cX10_isWithin 35 = .ok (.iload_n 3, 1) := by decide +kernel
theorem dX10_isWithin_36 : decode cX10_isWithin 36 = .ok (.ishl, 1) := by decide +kernel
theorem dX10_isWithin_37 : decode cX10_isWithin 37 = .ok (.iconst (-1), 1) := by decide +kernel
theorem dX10_isWithin_38 : decode cX10_isWithin 38 = .ok (.ixor, 1) := by decide +kernel
theorem dX10_isWithin_39 : decode cX10_isWithin 39 = .ok (.iand, 1) := by decide +kernel
theorem dX10_isWithin_40 : decode cX10_isWithin 40 = .ok (.istore 5, 2) := by decide +kernel
theorem dX10_isWithin_42 : decode cX10_isWithin 42 = .ok (.iconst 0, 1) := by decide +kernel
theorem dX10_isWithin_43 : decode cX10_isWithin 43 = .ok (.istore 6, 2) := by decide +kernel
theorem dX10_isWithin_45 : decode cX10_isWithin 45 = .ok (.iconst 0, 1) := by decide +kernel
theorem dX10_isWithin_46 : decode cX10_isWithin 46 = .ok (.istore 7, 2) := by decide +kernel
theorem dX10_isWithin_48 : decode cX10_isWithin 48 = .ok (.iload 7, 2) := by decide +kernel
theorem dX10_isWithin_50 : decode cX10_isWithin 50 = .ok (.aload_n 0, 1) := by decide +kernel
theorem dX10_isWithin_51 : decode cX10_isWithin 51 = .ok (.getfield 93, 3) := by decide +kernel
theorem dX10_isWithin_54 : decode cX10_isWithin 54 = .ok (.if_icmp .ge 51, 3) := by decide +kernel
theorem dX10_isWithin_57 : decode cX10_isWithin 57 = .ok (.iload 6, 2) := by decide +kernel
theorem dX10_isWithin_59 : decode cX10_isWithin 59 = .ok (.ifCond .ne 33, 3) := by decide +kernel
theorem dX10_isWithin_62 : decode cX10_isWithin 62 = .ok (.aload_n 0, 1) := by decide +kernel
theorem dX10_isWithin_63 : decode cX10_isWithin 63 = .ok (.getfield 7, 3) := by decide +kernel
theorem dX10_isWithin_66 : decode cX10_isWithin 66 = .ok (.iload 7, 2) := by decide +kernel
theorem dX10_isWithin_68 : decode cX10_isWithin 68 = .ok (.iaload, 1) := by decide +kernel
theorem dX10_isWithin_69 : decode cX10_isWithin 69 = .ok (.iload 4, 2) := by decide +kernel
theorem dX10_isWithin_71 : decode cX10_isWithin 71 = .ok (.iconst (-1), 1) := by decide +kernel
theorem dX10_isWithin_72 : decode cX10_isWithin 72 = .ok (.ixor, 1) := by decide +kernel
theorem dX10_isWithin_73 : decode cX10_isWithin 73 = .ok (.iand, 1) := by decide +kernel
theorem dX10_isWithin_74 : decode cX10_isWithin 74 = .ok (.ifCond .ne 22, 3) := by decide +kernel
theorem dX10_isWithin_77 : decode cX10_isWithin 77 = .ok (.aload_n 0, 1) := by decide +kernel
theorem dX10_isWithin_78 : decode cX10_isWithin 78 = .ok (.getfield 13, 3) := by decide +kernel
theorem dX10_isWithin_81 : decode cX10_isWithin 81 = .ok (.iload 7, 2) := by decide +kernel
theorem dX10_isWithin_83 : decode cX10_isWithin 83 = .ok (.iaload, 1) := by decide +kernel
theorem dX10_isWithin_84 : decode cX10_isWithin 84 = .ok (.iload 5, 2) := by decide +kernel
theorem dX10_isWithin_86 : decode cX10_isWithin 86 = .ok (.iconst (-1), 1) := by decide +kernel
theorem dX10_isWithin_87 : decode cX10_isWithin 87 = .ok (.ixor, 1) := by decide +kernel
theorem dX10_isWithin_88 : decode cX10_isWithin 88 = .ok (.iand, 1) := by decide +kernel
theorem dX10_isWithin_89 : decode cX10_isWithin 89 = .ok (.ifCond .ne 7, 3) := by decide +kernel
theorem dX10_isWithin_92 : decode cX10_isWithin 92 = .ok (.iconst 1, 1) := by decide +kernel
theorem dX10_isWithin_93 : decode cX10_isWithin 93 = .ok (.goto 4, 3) := by decide +kernel
theorem dX10_isWithin_96 : decode cX10_isWithin 96 = .ok (.iconst 0, 1) := by decide +kernel
theorem dX10_isWithin_97 : decode cX10_isWithin 97 = .ok (.istore 6, 2) := by decide +kernel
theorem dX10_isWithin_99 : decode cX10_isWithin 99 = .ok (.iinc 7 1, 3) := by decide +kernel
theorem dX10_isWithin_102 : decode cX10_isWithin 102 = .ok (.goto (-54), 3) := by decide +kernel
theorem dX10_isWithin_105 : decode cX10_isWithin 105 = .ok (.iload 6, 2) := by decide +kernel
theorem dX10_isWithin_107 : decode cX10_isWithin 107 = .ok (.ireturn, 1) := by decide +kernel
set_option maxRecDepth 20000 in
theorem ggX10_tryMake_X10_canMake : GoodIn wsX10_tryMake wsX10_canMake := goodIn_r _ [9, 2, 4, 10, 11, 8, 12, 30, 31, 32, 33, 34, 35, 36, 37, 38, 39, 40, 41, 42, 43, 44, 45, 46, 47, 48, 49, 50, 51, 52, 53, 54, 55, 56, 57, 58, 59, 60, 61, 62, 63, 64, 65, 66, 67] (by decide +kernel) (by decide +kernel)
set_option maxRecDepth 20000 in
theorem gX10_tryMake_X10_canMake : GoodIn wsX10_tryMake (wsV RX10 207 RX10 yX10_canMake wsX10_canMake) := goodIn_app (goodIn_of _ (by decide +kernel)) ggX10_tryMake_X10_canMake
set_option maxRecDepth 20000 in
theorem ggX10_tryMake_X10_isWithin : GoodIn wsX10_tryMake wsX10_isWithin := goodIn_r _ [16, 2, 4, 3, 30, 31, 32, 33, 34, 35, 36, 37, 38, 39, 40, 41, 42, 43, 44, 45, 46, 47, 48, 49, 50, 51, 52, 53, 54, 55, 56, 57, 58, 59, 60, 61, 62, 63, 64, 65, 66, 67] (by decide +kernel) (by decide +kernel)
set_option maxRecDepth 20000 in
theorem gX10_tryMake_X10_isWithin : GoodIn wsX10_tryMake (wsV RX10 228 RX10 yX10_isWithin wsX10_isWithin) := goodIn_app (goodIn_of _ (by decide +kernel)) ggX10_tryMake_X10_isWithin
set_option maxRecDepth 20000 in
theorem ggX10_tryMake_X10_make : GoodIn wsX10_tryMake wsX10_make := goodIn_r _ [20, 2, 3, 4, 21, 22, 23, 24, 30, 31, 32, 33, 34, 35, 36, 37, 38, 39, 40, 41, 42, 43, 44, 45, 46, 47, 48, 49, 50, 51, 52, 53, 54, 55, 56, 57, 58, 59, 60, 61, 62, 63, 64, 65, 66, 67] (by decide +kernel) (by decide +kernel)
set_option maxRecDepth 20000 in
theorem gX10_tryMake_X10_make : GoodIn wsX10_tryMake (wsV RX10 220 RX10 yX10_make wsX10_make) := goodIn_app (goodIn_of _ (by decide +kernel)) ggX10_tryMake_X10_make
set_option maxRecDepth 20000 in
theorem ggX10_tryMake_X10_isFull : GoodIn wsX10_tryMake wsX10_isFull := goodIn_r _ [28, 3, 29, 30, 31, 32, 33, 34, 35, 36, 37, 38, 39, 40, 41, 42, 43, 44, 45, 46, 47, 48, 49, 50, 51, 52, 53, 54, 55, 56, 57, 58, 59, 60, 61, 62, 63, 64, 65, 66, 67] (by decide +kernel) (by decide +kernel)
set_option maxRecDepth 20000 in
theorem gX10_tryMake_X10_isFull : GoodIn wsX10_tryMake (wsV RX10 212 RX10 yX10_isFull wsX10_isFull) := goodIn_app (goodIn_of _ (by decide +kernel)) ggX10_tryMake_X10_isFull
theorem dX10_tryMake_0 : decode cX10_tryMake 0 = .ok (.aload_n 0, 1) := by decide +kernel
theorem dX10_tryMake_1 : decode cX10_tryMake 1 = .ok (.getfield 224, 3) := by decide +kernel
theorem dX10_tryMake_4 : decode cX10_tryMake 4 = .ok (.ifCond .ne 72, 3) := by decide +kernel
theorem dX10_tryMake_7 : decode cX10_tryMake 7 = .ok (.aload_n 0, 1) := by decide +kernel
theorem dX10_tryMake_8 : decode cX10_tryMake 8 = .ok (.iload_n 1, 1) := by decide +kernel
theorem dX10_tryMake_9 : decode cX10_tryMake 9 = .ok (.iload_n 2, 1) := by decide +kernel
theorem dX10_tryMake_10 : decode cX10_tryMake 10 = .ok (.iload_n 3, 1) := by decide +kernel
theorem dX10_tryMake_11 : decode cX10_tryMake 11 = .ok (.invokevirtual 207, 3) := by decide +kernel
theorem dX10_tryMake_14 : decode cX10_tryMake 14 = .ok (.ifCond .eq 62, 3) := by decide +kernel
theorem dX10_tryMake_17 : decode cX10_tryMake 17 = .ok (.aload_n 0, 1) := by decide +kernel
theorem dX10_tryMake_18 : decode cX10_tryMake 18 = .ok (.iload_n 1, 1) := by decide +kernel
theorem dX10_tryMake_19 : decode cX10_tryMake 19 = .ok (.iload_n 2, 1) := by decide +kernel
theorem dX10_tryMake_20 : decode cX10_tryMake 20 = .ok (.iload_n 3, 1) := by decide +kernel
theorem dX10_tryMake_21 : decode cX10_tryMake 21 = .ok (.invokevirtual 228, 3) := by decide +kernel
theorem dX10_tryMake_24 : decode cX10_tryMake 24 = .ok (.ifCond .ne 52, 3) := by decide +kernel
theorem dX10_tryMake_27 : decode cX10_tryMake 27 = .ok (.aload_n 0, 1) := by decide +kernel
theorem dX10_tryMake_28 : decode cX10_tryMake 28 = .ok (.iload_n 1, 1) := by decide +kernel
theorem dX10_tryMake_29 : decode cX10_tryMake 29 = .ok (.iload_n 2, 1) := by decide +kernel
theorem dX10_tryMake_30 : decode cX10_tryMake 30 = .ok (.iload_n 3, 1) := by decide +kernel
theorem dX10_tryMake_31 : decode cX10_tryMake 31 = .ok (.invokevirtual 220, 3) := by decide +kernel
theorem dX10_tryMake_34 : decode cX10_tryMake 34 = .ok (.aload_n 0, 1) := by decide +kernel
theorem dX10_tryMake_35 : decode cX10_tryMake 35 = .ok (.aload_n 0, 1) := by decide +kernel
theorem dX10_tryMake_36 : decode cX10_tryMake 36 = .ok (.invokevirtual 212, 3) := by decide +kernel
theorem dX10_tryMake_39 : decode cX10_tryMake 39 = .ok (.ifCond .ne 29, 3) := by decide +kernel
theorem dX10_tryMake_42 : decode cX10_tryMake 42 = .ok (.aload_n 0, 1) := by decide +kernel
theorem dX10_tryMake_43 : decode cX10_tryMake 43 = .ok (.getfield 7, 3) := by decide +kernel
theorem dX10_tryMake_46 : decode cX10_tryMake 46 = .ok (.aload_n 0, 1) := by decide +kernel
theorem dX10_tryMake_47 : decode cX10_tryMake 47 = .ok (.getfield 93, 3) := by decide +kernel
theorem dX10_tryMake_50 : decode cX10_tryMake 50 = .ok (.iconst 1, 1) := by decide +kernel
theorem dX10_tryMake_51 : decode cX10_tryMake 51 = .ok (.isub, 1) := by decide +kernel
theorem dX10_tryMake_52 : decode cX10_tryMake 52 = .ok (.iaload, 1) := by decide +kernel
theorem dX10_tryMake_53 : decode cX10_tryMake 53 = .ok (.aload_n 0, 1) := by decide +kernel
theorem dX10_tryMake_54 : decode cX10_tryMake 54 = .ok (.getfield 13, 3) := by decide +kernel
theorem dX10_tryMake_57 : decode cX10_tryMake 57 = .ok (.aload_n 0, 1) := by decide +kernel
theorem dX10_tryMake_58 : decode cX10_tryMake 58 = .ok (.getfield 93, 3) := by decide +kernel
theorem dX10_tryMake_61 : decode cX10_tryMake 61 = .ok (.iconst 1, 1) := by decide +kernel
theorem dX10_tryMake_62 : decode cX10_tryMake 62 = .ok (.isub, 1) := by decide +kernel
theorem dX10_tryMake_63 : decode cX10_tryMake 63 = .ok (.iaload, 1) := by decide +kernel
theorem dX10_tryMake_64 : decode cX10_tryMake 64 = .ok (.ior, 1) := by decide +kernel
theorem dX10_tryMake_65 : decode cX10_tryMake 65 = .ok (.ifCond .ne 7, 3) := by decide +kernel
theorem dX10_tryMake_68 : decode cX10_tryMake 68 = .ok (.iconst 1, 1) := by decide +kernel
theorem dX10_tryMake_69 : decode cX10_tryMake 69 = .ok (.goto 4, 3) := by decide +kernel
theorem dX10_tryMake_72 : decode cX10_tryMake 72 = .ok (.iconst 0, 1) := by decide +kernel
theorem dX10_tryMake_73 : decode cX10_tryMake 73 = .ok (.putfield 224, 3) := by decide +kernel
theorem dX10_tryMake_76 : decode cX10_tryMake 76 = .ok (.return_, 1) := by decide +kernel
set_option maxRecDepth 20000 in
theorem ggX10_seek_X10_isFull : GoodIn wsX10_seek wsX10_isFull := goodIn_r _ [7, 1, 8, 40, 41, 42, 43, 44, 45, 46, 47, 48, 49, 50, 51, 52, 53, 54, 55, 56, 57, 58, 59, 60, 61, 62, 63, 64, 65, 66, 67, 68, 69, 70, 71, 72, 73, 74, 75, 76, 77] (by decide +kernel) (by decide +kernel)
set_option maxRecDepth 20000 in
theorem gX10_seek_X10_isFull : GoodIn wsX10_seek (wsV RX10 212 RX10 yX10_isFull wsX10_isFull) := goodIn_app (goodIn_of _ (by decide +kernel)) ggX10_seek_X10_isFull
set_option maxRecDepth 20000 in
theorem ggX10_seek_X10_tryMake : GoodIn wsX10_seek wsX10_tryMake := goodIn_r _ [12, 2, 13, 1, 14, 15, 16, 17, 6, 18, 19, 20, 21, 22, 23, 24, 25, 26, 27, 28, 29, 30, 31, 32, 33, 3, 4, 5, 7, 8, 40, 41, 42, 43, 44, 45, 46, 47, 48, 49, 50, 51, 52, 53, 54, 55, 56, 57, 58, 59, 60, 61, 62, 63, 64, 65, 66, 67, 68, 69, 70, 71, 72, 73, 74, 75, 76, 77] (by decide +kernel) (by decide +kernel)
set_option maxRecDepth 20000 in
theorem gX10_seek_X10_tryMake : GoodIn wsX10_seek (wsV RX10 231 RX10 yX10_tryMake wsX10_tryMake) := goodIn_app (goodIn_of _ (by decide +kernel)) ggX10_seek_X10_tryMake
set_option maxRecDepth 20000 in
theorem ggX10_seek_X10_remember : GoodIn wsX10_seek wsX10_remember := goodIn_r _ [37, 38, 39, 40, 41, 42, 43, 44, 45, 46, 47, 48, 49, 50, 51, 52, 53, 54, 55, 56, 57, 58, 59, 60, 61, 62, 63, 64, 65, 66, 67, 68, 69, 70, 71, 72, 73, 74, 75, 76, 77] (by decide +kernel) (by decide +kernel)
set_option maxRecDepth 20000 in
theorem gX10_seek_X10_remember : GoodIn wsX10_seek (wsV RX10 216 RX10 yX10_remember wsX10_remember) := goodIn_app (goodIn_of _ (by decide +kernel)) ggX10_seek_X10_remember
theorem dX10_seek_0 : decode cX10_seek 0 = .ok (.aload_n 0, 1) := by decide +kernel
theorem dX10_seek_1 : decode cX10_seek 1 = .ok (.getfield 93, 3) := by decide +kernel
theorem dX10_seek_4 : decode cX10_seek 4 = .ok (.istore_n 1, 1) := by decide +kernel
theorem dX10_seek_5 : decode cX10_seek 5 = .ok (.aload_n 0, 1) := by decide +kernel
theorem dX10_seek_6 : decode cX10_seek 6 = .ok (.aload_n 0, 1) := by decide +kernel
theorem dX10_seek_7 : decode cX10_seek 7 = .ok (.invokevirtual 212, 3) := by decide +kernel
theorem dX10_seek_10 : decode cX10_seek 10 = .ok (.putfield 224, 3) := by decide +kernel
theorem dX10_seek_13 : decode cX10_seek 13 = .ok (.iconst 0, 1) := by decide +kernel
theorem dX10_seek_14 : decode cX10_seek 14 = .ok (.istore_n 2, 1) := by decide +kernel
theorem dX10_seek_15 : decode cX10_seek 15 = .ok (.iload_n 2, 1) := by decide +kernel
theorem dX10_seek_16 : decode cX10_seek 16 = .ok (.aload_n 0, 1) := by decide +kernel
theorem dX10_seek_17 : decode cX10_seek 17 = .ok (.getfield 93, 3) := by decide +kernel
theorem dX10_seek_20 : decode cX10_seek 20 = .ok (.if_icmp .ge 68, 3) := by decide +kernel
theorem dX10_seek_23 : decode cX10_seek 23 = .ok (.aload_n 0, 1) := by decide +kernel
theorem dX10_seek_24 : decode cX10_seek 24 = .ok (.getfield 224, 3) := by decide +kernel
theorem dX10_seek_27 : decode cX10_seek 27 = .ok (.ifCond .ne 61, 3) := by decide +kernel
theorem dX10_seek_30 : decode cX10_seek 30 = .ok (.iconst 0, 1) := by decide +kernel
theorem dX10_seek_31 : decode cX10_seek 31 = .ok (.istore_n 3, 1) := by decide +kernel
theorem dX10_seek_32 : decode cX10_seek 32 = .ok (.iload_n 3, 1) := by decide +kernel
theorem dX10_seek_33 : decode cX10_seek 33 = .ok (.iload_n 2, 1) := by decide +kernel
theorem dX10_seek_34 : decode cX10_seek 34 = .ok (.if_icmp .ge 48, 3) := by decide +kernel
theorem dX10_seek_37 : decode cX10_seek 37 = .ok (.aload_n 0, 1) := by decide +kernel
theorem dX10_seek_38 : decode cX10_seek 38 = .ok (.getfield 224, 3) := by decide +kernel
theorem dX10_seek_41 : decode cX10_seek 41 = .ok (.ifCond .ne 41, 3) := by decide +kernel
theorem dX10_seek_44 : decode cX10_seek 44 = .ok (.iconst 0, 1) := by decide +kernel
theorem dX10_seek_45 : decode cX10_seek 45 = .ok (.istore 4, 2) := by decide +kernel
theorem dX10_seek_47 : decode cX10_seek 47 = .ok (.iload 4, 2) := by decide +kernel
theorem dX10_seek_49 : decode cX10_seek 49 = .ok (.bipush 8, 2) := by decide +kernel
theorem dX10_seek_51 : decode cX10_seek 51 = .ok (.if_icmp .ge 25, 3) := by decide +kernel
theorem dX10_seek_54 : decode cX10_seek 54 = .ok (.aload_n 0, 1) := by decide +kernel
theorem dX10_seek_55 : decode cX10_seek 55 = .ok (.iload_n 3, 1) := by decide +kernel
theorem dX10_seek_56 : decode cX10_seek 56 = .ok (.iload_n 2, 1) := by decide +kernel
theorem dX10_seek_57 : decode cX10_seek 57 = .ok (.iload 4, 2) := by decide +kernel
theorem dX10_seek_59 : decode cX10_seek 59 = .ok (.invokevirtual 231, 3) := by decide +kernel
theorem dX10_seek_62 : decode cX10_seek 62 = .ok (.aload_n 0, 1) := by decide +kernel
theorem dX10_seek_63 : decode cX10_seek 63 = .ok (.iload_n 2, 1) := by decide +kernel
theorem dX10_seek_64 : decode cX10_seek 64 = .ok (.iload_n 3, 1) := by decide +kernel
theorem dX10_seek_65 : decode cX10_seek 65 = .ok (.iload 4, 2) := by decide +kernel
theorem dX10_seek_67 : decode cX10_seek 67 = .ok (.invokevirtual 231, 3) := by decide +kernel
theorem dX10_seek_70 : decode cX10_seek 70 = .ok (.iinc 4 1, 3) := by decide +kernel
theorem dX10_seek_73 : decode cX10_seek 73 = .ok (.goto (-26), 3) := by decide +kernel
theorem dX10_seek_76 : decode cX10_seek 76 = .ok (.iinc 3 1, 3) := by decide +kernel
theorem dX10_seek_79 : decode cX10_seek 79 = .ok (.goto (-47), 3) := by decide +kernel
theorem dX10_seek_82 : decode cX10_seek 82 = .ok (.iinc 2 1, 3) := by decide +kernel
theorem dX10_seek_85 : decode cX10_seek 85 = .ok (.goto (-70), 3) := by decide +kernel
theorem dX10_seek_88 : decode cX10_seek 88 = .ok (.aload_n 0, 1) := by decide +kernel
theorem dX10_seek_89 : decode cX10_seek 89 = .ok (.getfield 93, 3) := by decide +kernel
theorem dX10_seek_92 : decode cX10_seek 92 = .ok (.iload_n 1, 1) := by decide +kernel
theorem dX10_seek_93 : decode cX10_seek 93 = .ok (.if_icmp .le 8, 3) := by decide +kernel
theorem dX10_seek_96 : decode cX10_seek 96 = .ok (.aload_n 0, 1) := by decide +kernel
theorem dX10_seek_97 : decode cX10_seek 97 = .ok (.iload_n 1, 1) := by decide +kernel
theorem dX10_seek_98 : decode cX10_seek 98 = .ok (.invokevirtual 216, 3) := by decide +kernel
theorem dX10_seek_101 : decode cX10_seek 101 = .ok (.aload_n 0, 1) := by decide +kernel
theorem dX10_seek_102 : decode cX10_seek 102 = .ok (.getfield 93, 3) := by decide +kernel
theorem dX10_seek_105 : decode cX10_seek 105 = .ok (.iload_n 1, 1) := by decide +kernel
theorem dX10_seek_106 : decode cX10_seek 106 = .ok (.isub, 1) := by decide +kernel
theorem dX10_seek_107 : decode cX10_seek 107 = .ok (.ireturn, 1) := by decide +kernel
theorem dX10_undo_0 : decode cX10_undo 0 = .ok (.aload_n 0, 1) := by decide +kernel
theorem dX10_undo_1 : decode cX10_undo 1 = .ok (.getfield 160, 3) := by decide +kernel
theorem dX10_undo_4 : decode cX10_undo 4 = .ok (.ifCond .ne 6, 3) := by decide +kernel
theorem dX10_undo_7 : decode cX10_undo 7 = .ok (.ldc 211, 2) := by decide +kernel
theorem dX10_undo_9 : decode cX10_undo 9 = .ok (.ireturn, 1) := by decide +kernel
theorem dX10_undo_10 : decode cX10_undo 10 = .ok (.aload_n 0, 1) := by decide +kernel
theorem dX10_undo_11 : decode cX10_undo 11 = .ok (.dup, 1) := by decide +kernel
theorem dX10_undo_12 : decode cX10_undo 12 = .ok (.getfield 160, 3) := by decide +kernel
theorem dX10_undo_15 : decode cX10_undo 15 = .ok (.iconst 1, 1) := by decide +kernel
theorem dX10_undo_16 : decode cX10_undo 16 = .ok (.isub, 1) := by decide +kernel
theorem dX10_undo_17 : decode cX10_undo 17 = .ok (.putfield 160, 3) := by decide +kernel
theorem dX10_undo_20 : decode cX10_undo 20 = .ok (.aload_n 0, 1) := by decide +kernel
theorem dX10_undo_21 : decode cX10_undo 21 = .ok (.aload_n 0, 1) := by decide +kernel
theorem dX10_undo_22 : decode cX10_undo 22 = .ok (.getfield 59, 3) := by decide +kernel
theorem dX10_undo_25 : decode cX10_undo 25 = .ok (.aload_n 0, 1) := by decide +kernel
theorem dX10_undo_26 : decode cX10_undo 26 = .ok (.getfield 160, 3) := by decide +kernel
theorem dX10_undo_29 : decode cX10_undo 29 = .ok (.iaload, 1) := by decide +kernel
theorem dX10_undo_30 : decode cX10_undo 30 = .ok (.putfield 93, 3) := by decide +kernel
theorem dX10_undo_33 : decode cX10_undo 33 = .ok (.aload_n 0, 1) := by decide +kernel
theorem dX10_undo_34 : decode cX10_undo 34 = .ok (.getfield 160, 3) := by decide +kernel
theorem dX10_undo_37 : decode cX10_undo 37 = .ok (.ireturn, 1) := by decide +kernel
set_option maxRecDepth 20000 in
theorem ggX10_clauseSays_X10_shared : GoodIn wsX10_clauseSays wsX10_shared := goodIn_r _ [8, 9, 10, 11, 7, 12, 13, 1, 2, 3, 14, 15, 16, 17, 18, 19, 20, 21, 22, 23, 24, 25, 26, 27, 28, 29, 30, 31, 32, 33, 34, 35, 36, 37, 38, 39, 40, 41, 42, 43, 44, 45, 46, 47, 48, 49, 50, 51] (by decide +kernel) (by decide +kernel)
set_option maxRecDepth 20000 in
theorem gX10_clauseSays_X10_shared : GoodIn wsX10_clauseSays (wsV RX10 189 RX10 yX10_shared wsX10_shared) := goodIn_app (goodIn_of _ (by decide +kernel)) ggX10_clauseSays_X10_shared
theorem dX10_clauseSays_0 : decode cX10_clauseSays 0 = .ok (.aload_n 0, 1) := by decide +kernel
theorem dX10_clauseSays_1 : decode cX10_clauseSays 1 = .ok (.getfield 16, 3) := by decide +kernel
theorem dX10_clauseSays_4 : decode cX10_clauseSays 4 = .ok (.iload_n 2, 1) := by decide +kernel
theorem dX10_clauseSays_5 : decode cX10_clauseSays 5 = .ok (.iaload, 1) := by decide +kernel
theorem dX10_clauseSays_6 : decode cX10_clauseSays 6 = .ok (.ifCond .ne 47, 3) := by decide +kernel
theorem dX10_clauseSays_9 : decode cX10_clauseSays 9 = .ok (.iload_n 1, 1) := by decide +kernel
theorem dX10_clauseSays_10 : decode cX10_clauseSays 10 = .ok (.ifCond .ne 41, 3) := by decide +kernel
theorem dX10_clauseSays_13 : decode cX10_clauseSays 13 = .ok (.aload_n 0, 1) := by decide +kernel
theorem dX10_clauseSays_14 : decode cX10_clauseSays 14 = .ok (.getfield 7, 3) := by decide +kernel
theorem dX10_clauseSays_17 : decode cX10_clauseSays 17 = .ok (.iload_n 2, 1) := by decide +kernel
theorem dX10_clauseSays_18 : decode cX10_clauseSays 18 = .ok (.iaload, 1) := by decide +kernel
theorem dX10_clauseSays_19 : decode cX10_clauseSays 19 = .ok (.aload_n 0, 1) := by decide +kernel
theorem dX10_clauseSays_20 : decode cX10_clauseSays 20 = .ok (.invokevirtual 189, 3) := by decide +kernel
theorem dX10_clauseSays_23 : decode cX10_clauseSays 23 = .ok (.iand, 1) := by decide +kernel
theorem dX10_clauseSays_24 : decode cX10_clauseSays 24 = .ok (.iload_n 3, 1) := by decide +kernel
theorem dX10_clauseSays_25 : decode cX10_clauseSays 25 = .ok (.iand, 1) := by decide +kernel
theorem dX10_clauseSays_26 : decode cX10_clauseSays 26 = .ok (.ifCond .ne 21, 3) := by decide +kernel
theorem dX10_clauseSays_29 : decode cX10_clauseSays 29 = .ok (.aload_n 0, 1) := by decide +kernel
theorem dX10_clauseSays_30 : decode cX10_clauseSays 30 = .ok (.getfield 13, 3) := by decide +kernel
theorem dX10_clauseSays_33 : decode cX10_clauseSays 33 = .ok (.iload_n 2, 1) := by decide +kernel
theorem dX10_clauseSays_34 : decode cX10_clauseSays 34 = .ok (.iaload, 1) := by decide +kernel
theorem dX10_clauseSays_35 : decode cX10_clauseSays 35 = .ok (.aload_n 0, 1) := by decide +kernel
theorem dX10_clauseSays_36 : decode cX10_clauseSays 36 = .ok (.invokevirtual 189, 3) := by decide +kernel
theorem dX10_clauseSays_39 : decode cX10_clauseSays 39 = .ok (.iand, 1) := by decide +kernel
theorem dX10_clauseSays_40 : decode cX10_clauseSays 40 = .ok (.iload_n 3, 1) := by decide +kernel
theorem dX10_clauseSays_41 : decode cX10_clauseSays 41 = .ok (.iconst (-1), 1) := by decide +kernel
theorem dX10_clauseSays_42 : decode cX10_clauseSays 42 = .ok (.ixor, 1) := by decide +kernel
theorem dX10_clauseSays_43 : decode cX10_clauseSays 43 = .ok (.iand, 1) := by decide +kernel
theorem dX10_clauseSays_44 : decode cX10_clauseSays 44 = .ok (.ifCond .eq 7, 3) := by decide +kernel
theorem dX10_clauseSays_47 : decode cX10_clauseSays 47 = .ok (.iconst 1, 1) := by decide +kernel
theorem dX10_clauseSays_48 : decode cX10_clauseSays 48 = .ok (.goto 4, 3) := by decide +kernel
theorem dX10_clauseSays_51 : decode cX10_clauseSays 51 = .ok (.iconst 0, 1) := by decide +kernel
theorem dX10_clauseSays_52 : decode cX10_clauseSays 52 = .ok (.ireturn, 1) := by decide +kernel
theorem dX10_clauseSays_53 : decode cX10_clauseSays 53 = .ok (.iload_n 1, 1) := by decide +kernel
theorem dX10_clauseSays_54 : decode cX10_clauseSays 54 = .ok (.iconst 2, 1) := by decide +kernel
theorem dX10_clauseSays_55 : decode cX10_clauseSays 55 = .ok (.if_icmp .lt 37, 3) := by decide +kernel
theorem dX10_clauseSays_58 : decode cX10_clauseSays 58 = .ok (.aload_n 0, 1) := by decide +kernel
theorem dX10_clauseSays_59 : decode cX10_clauseSays 59 = .ok (.getfield 7, 3) := by decide +kernel
theorem dX10_clauseSays_62 : decode cX10_clauseSays 62 = .ok (.iload_n 2, 1) := by decide +kernel
theorem dX10_clauseSays_63 : decode cX10_clauseSays 63 = .ok (.iaload, 1) := by decide +kernel
theorem dX10_clauseSays_64 : decode cX10_clauseSays 64 = .ok (.aload_n 0, 1) := by decide +kernel
theorem dX10_clauseSays_65 : decode cX10_clauseSays 65 = .ok (.invokevirtual 189, 3) := by decide +kernel
theorem dX10_clauseSays_68 : decode cX10_clauseSays 68 = .ok (.iand, 1) := by decide +kernel
theorem dX10_clauseSays_69 : decode cX10_clauseSays 69 = .ok (.iload_n 3, 1) := by decide +kernel
theorem dX10_clauseSays_70 : decode cX10_clauseSays 70 = .ok (.iand, 1) := by decide +kernel
theorem dX10_clauseSays_71 : decode cX10_clauseSays 71 = .ok (.ifCond .ne 25, 3) := by decide +kernel
theorem dX10_clauseSays_74 : decode cX10_clauseSays 74 = .ok (.aload_n 0, 1) := by decide +kernel
theorem dX10_clauseSays_75 : decode cX10_clauseSays 75 = .ok (.getfield 13, 3) := by decide +kernel
theorem dX10_clauseSays_78 : decode cX10_clauseSays 78 = .ok (.iload_n 2, 1) := by decide +kernel
theorem dX10_clauseSays_79 : decode cX10_clauseSays 79 = .ok (.iaload, 1) := by decide +kernel
theorem dX10_clauseSays_80 : decode cX10_clauseSays 80 = .ok (.aload_n 0, 1) := by decide +kernel
theorem dX10_clauseSays_81 : decode cX10_clauseSays 81 = .ok (.invokevirtual 189, 3) := by decide +kernel
theorem dX10_clauseSays_84 : decode cX10_clauseSays 84 = .ok (.iand, 1) := by decide +kernel
theorem dX10_clauseSays_85 : decode cX10_clauseSays 85 = .ok (.iload_n 3, 1) := by decide +kernel
theorem dX10_clauseSays_86 : decode cX10_clauseSays 86 = .ok (.iconst (-1), 1) := by decide +kernel
theorem dX10_clauseSays_87 : decode cX10_clauseSays 87 = .ok (.ixor, 1) := by decide +kernel
theorem dX10_clauseSays_88 : decode cX10_clauseSays 88 = .ok (.iand, 1) := by decide +kernel
theorem dX10_clauseSays_89 : decode cX10_clauseSays 89 = .ok (.ifCond .ne 7, 3) := by decide +kernel
theorem dX10_clauseSays_92 : decode cX10_clauseSays 92 = .ok (.iconst 1, 1) := by decide +kernel
theorem dX10_clauseSays_93 : decode cX10_clauseSays 93 = .ok (.goto 4, 3) := by decide +kernel
theorem dX10_clauseSays_96 : decode cX10_clauseSays 96 = .ok (.iconst 0, 1) := by decide +kernel
theorem dX10_clauseSays_97 : decode cX10_clauseSays 97 = .ok (.ireturn, 1) := by decide +kernel
set_option maxRecDepth 20000 in
theorem ggX10_madeSays_X10_has : GoodIn wsX10_madeSays wsX10_has := goodIn_r _ [8] (by decide +kernel) (by decide +kernel)
set_option maxRecDepth 20000 in
theorem gX10_madeSays_X10_has : GoodIn wsX10_madeSays (va_wsS RX10 139 yX10_has wsX10_has) := goodIn_app (goodIn_of _ (by decide +kernel)) ggX10_madeSays_X10_has
theorem dX10_madeSays_0 : decode cX10_madeSays 0 = .ok (.aload_n 0, 1) := by decide +kernel
theorem dX10_madeSays_1 : decode cX10_madeSays 1 = .ok (.getfield 62, 3) := by decide +kernel
theorem dX10_madeSays_4 : decode cX10_madeSays 4 = .ok (.sipush 256, 3) := by decide +kernel
theorem dX10_madeSays_7 : decode cX10_madeSays 7 = .ok (.aload_n 0, 1) := by decide +kernel
theorem dX10_madeSays_8 : decode cX10_madeSays 8 = .ok (.getfield 19, 3) := by decide +kernel
theorem dX10_madeSays_11 : decode cX10_madeSays 11 = .ok (.iload_n 2, 1) := by decide +kernel
theorem dX10_madeSays_12 : decode cX10_madeSays 12 = .ok (.iaload, 1) := by decide +kernel
theorem dX10_madeSays_13 : decode cX10_madeSays 13 = .ok (.imul, 1) := by decide +kernel
theorem dX10_madeSays_14 : decode cX10_madeSays 14 = .ok (.iload_n 3, 1) := by decide +kernel
theorem dX10_madeSays_15 : decode cX10_madeSays 15 = .ok (.iadd, 1) := by decide +kernel
theorem dX10_madeSays_16 : decode cX10_madeSays 16 = .ok (.baload, 1) := by decide +kernel
theorem dX10_madeSays_17 : decode cX10_madeSays 17 = .ok (.istore 5, 2) := by decide +kernel
theorem dX10_madeSays_19 : decode cX10_madeSays 19 = .ok (.aload_n 0, 1) := by decide +kernel
theorem dX10_madeSays_20 : decode cX10_madeSays 20 = .ok (.getfield 62, 3) := by decide +kernel
theorem dX10_madeSays_23 : decode cX10_madeSays 23 = .ok (.sipush 256, 3) := by decide +kernel
theorem dX10_madeSays_26 : decode cX10_madeSays 26 = .ok (.aload_n 0, 1) := by decide +kernel
theorem dX10_madeSays_27 : decode cX10_madeSays 27 = .ok (.getfield 22, 3) := by decide +kernel
theorem dX10_madeSays_30 : decode cX10_madeSays 30 = .ok (.iload_n 2, 1) := by decide +kernel
theorem dX10_madeSays_31 : decode cX10_madeSays 31 = .ok (.iaload, 1) := by decide +kernel
theorem dX10_madeSays_32 : decode cX10_madeSays 32 = .ok (.imul, 1) := by decide +kernel
theorem dX10_madeSays_33 : decode cX10_madeSays 33 = .ok (.iload_n 3, 1) := by decide +kernel
theorem dX10_madeSays_34 : decode cX10_madeSays 34 = .ok (.iadd, 1) := by decide +kernel
theorem dX10_madeSays_35 : decode cX10_madeSays 35 = .ok (.baload, 1) := by decide +kernel
theorem dX10_madeSays_36 : decode cX10_madeSays 36 = .ok (.istore 6, 2) := by decide +kernel
theorem dX10_madeSays_38 : decode cX10_madeSays 38 = .ok (.iload_n 1, 1) := by decide +kernel
theorem dX10_madeSays_39 : decode cX10_madeSays 39 = .ok (.iconst 1, 1) := by decide +kernel
theorem dX10_madeSays_40 : decode cX10_madeSays 40 = .ok (.if_icmp .ne 30, 3) := by decide +kernel
theorem dX10_madeSays_43 : decode cX10_madeSays 43 = .ok (.iload 4, 2) := by decide +kernel
theorem dX10_madeSays_45 : decode cX10_madeSays 45 = .ok (.iconst 2, 1) := by decide +kernel
theorem dX10_madeSays_46 : decode cX10_madeSays 46 = .ok (.if_icmp .ne 24, 3) := by decide +kernel
theorem dX10_madeSays_49 : decode cX10_madeSays 49 = .ok (.iload_n 3, 1) := by decide +kernel
theorem dX10_madeSays_50 : decode cX10_madeSays 50 = .ok (.aload_n 0, 1) := by decide +kernel
theorem dX10_madeSays_51 : decode cX10_madeSays 51 = .ok (.getfield 25, 3) := by decide +kernel
theorem dX10_madeSays_54 : decode cX10_madeSays 54 = .ok (.iload_n 2, 1) := by decide +kernel
theorem dX10_madeSays_55 : decode cX10_madeSays 55 = .ok (.iaload, 1) := by decide +kernel
theorem dX10_madeSays_56 : decode cX10_madeSays 56 = .ok (.invokestatic 139, 3) := by decide +kernel
theorem dX10_madeSays_59 : decode cX10_madeSays 59 = .ok (.ifCond .eq 8, 3) := by decide +kernel
theorem dX10_madeSays_62 : decode cX10_madeSays 62 = .ok (.iload 6, 2) := by decide +kernel
theorem dX10_madeSays_64 : decode cX10_madeSays 64 = .ok (.goto 5, 3) := by decide +kernel
theorem dX10_madeSays_67 : decode cX10_madeSays 67 = .ok (.iload 5, 2) := by decide +kernel
theorem dX10_madeSays_69 : decode cX10_madeSays 69 = .ok (.ireturn, 1) := by decide +kernel
theorem dX10_madeSays_70 : decode cX10_madeSays 70 = .ok (.iload_n 1, 1) := by decide +kernel
theorem dX10_madeSays_71 : decode cX10_madeSays 71 = .ok (.iconst 2, 1) := by decide +kernel
theorem dX10_madeSays_72 : decode cX10_madeSays 72 = .ok (.if_icmp .ne 17, 3) := by decide +kernel
theorem dX10_madeSays_75 : decode cX10_madeSays 75 = .ok (.iload 4, 2) := by decide +kernel
theorem dX10_madeSays_77 : decode cX10_madeSays 77 = .ok (.iconst 1, 1) := by decide +kernel
theorem dX10_madeSays_78 : decode cX10_madeSays 78 = .ok (.if_icmp .eq 7, 3) := by decide +kernel
theorem dX10_madeSays_81 : decode cX10_madeSays 81 = .ok (.iconst 1, 1) := by decide +kernel
theorem dX10_madeSays_82 : decode cX10_madeSays 82 = .ok (.goto 17, 3) := by decide +kernel
theorem dX10_madeSays_85 : decode cX10_madeSays 85 = .ok (.iconst 0, 1) := by decide +kernel
theorem dX10_madeSays_86 : decode cX10_madeSays 86 = .ok (.goto 13, 3) := by decide +kernel
theorem dX10_madeSays_89 : decode cX10_madeSays 89 = .ok (.iload 4, 2) := by decide +kernel
theorem dX10_madeSays_91 : decode cX10_madeSays 91 = .ok (.ifCond .ne 7, 3) := by decide +kernel
theorem dX10_madeSays_94 : decode cX10_madeSays 94 = .ok (.iconst 1, 1) := by decide +kernel
theorem dX10_madeSays_95 : decode cX10_madeSays 95 = .ok (.goto 4, 3) := by decide +kernel
theorem dX10_madeSays_98 : decode cX10_madeSays 98 = .ok (.iconst 0, 1) := by decide +kernel
theorem dX10_madeSays_99 : decode cX10_madeSays 99 = .ok (.istore 7, 2) := by decide +kernel
theorem dX10_madeSays_101 : decode cX10_madeSays 101 = .ok (.iload 7, 2) := by decide +kernel
theorem dX10_madeSays_103 : decode cX10_madeSays 103 = .ok (.ifCond .eq 21, 3) := by decide +kernel
theorem dX10_madeSays_106 : decode cX10_madeSays 106 = .ok (.iload 5, 2) := by decide +kernel
theorem dX10_madeSays_108 : decode cX10_madeSays 108 = .ok (.ifCond .ne 8, 3) := by decide +kernel
theorem dX10_madeSays_111 : decode cX10_madeSays 111 = .ok (.iload 6, 2) := by decide +kernel
theorem dX10_madeSays_113 : decode cX10_madeSays 113 = .ok (.ifCond .eq 7, 3) := by decide +kernel
theorem dX10_madeSays_116 : decode cX10_madeSays 116 = .ok (.iconst 1, 1) := by decide +kernel
theorem dX10_madeSays_117 : decode cX10_madeSays 117 = .ok (.goto 22, 3) := by decide +kernel
theorem dX10_madeSays_120 : decode cX10_madeSays 120 = .ok (.iconst 0, 1) := by decide +kernel
theorem dX10_madeSays_121 : decode cX10_madeSays 121 = .ok (.goto 18, 3) := by decide +kernel
theorem dX10_madeSays_124 : decode cX10_madeSays 124 = .ok (.iload 5, 2) := by decide +kernel
theorem dX10_madeSays_126 : decode cX10_madeSays 126 = .ok (.ifCond .eq 12, 3) := by decide +kernel
theorem dX10_madeSays_129 : decode cX10_madeSays 129 = .ok (.iload 6, 2) := by decide +kernel
theorem dX10_madeSays_131 : decode cX10_madeSays 131 = .ok (.ifCond .eq 7, 3) := by decide +kernel
theorem dX10_madeSays_134 : decode cX10_madeSays 134 = .ok (.iconst 1, 1) := by decide +kernel
theorem dX10_madeSays_135 : decode cX10_madeSays 135 = .ok (.goto 4, 3) := by decide +kernel
theorem dX10_madeSays_138 : decode cX10_madeSays 138 = .ok (.iconst 0, 1) := by decide +kernel
theorem dX10_madeSays_139 : decode cX10_madeSays 139 = .ok (.ireturn, 1) := by decide +kernel
set_option maxRecDepth 20000 in
theorem ggX10_laySentences_X10_colourOf : GoodIn wsX10_laySentences wsX10_colourOf := goodIn_r _ [8, 9, 10, 11, 7, 12, 1, 13, 14, 15, 16, 17, 18, 33, 34, 35, 36, 37, 38, 39, 40, 41, 42, 43, 44, 45, 46, 47, 48, 49, 50, 51, 52, 53, 54, 55, 56, 57, 58, 59, 60, 61, 62, 63, 64, 65, 66, 67, 68, 69, 70] (by decide +kernel) (by decide +kernel)
set_option maxRecDepth 20000 in
theorem gX10_laySentences_X10_colourOf : GoodIn wsX10_laySentences (wsV RX10 170 RX10 yX10_colourOf wsX10_colourOf) := goodIn_app (goodIn_of _ (by decide +kernel)) ggX10_laySentences_X10_colourOf
set_option maxRecDepth 20000 in
theorem ggX10_laySentences_X10_clauseSays : GoodIn wsX10_laySentences wsX10_clauseSays := goodIn_r _ [22, 13, 14, 15, 23, 24, 25, 7, 26, 9, 10, 11, 12, 1, 33, 34, 35, 36, 37, 38, 39, 40, 41, 42, 43, 44, 45, 46, 47, 48, 49, 50, 51, 52, 53, 54, 55, 56, 57, 58, 59, 60, 61, 62, 63, 64, 65, 66, 67, 68, 69, 70] (by decide +kernel) (by decide +kernel)
set_option maxRecDepth 20000 in
theorem gX10_laySentences_X10_clauseSays : GoodIn wsX10_laySentences (wsV RX10 234 RX10 yX10_clauseSays wsX10_clauseSays) := goodIn_app (goodIn_of _ (by decide +kernel)) ggX10_laySentences_X10_clauseSays
set_option maxRecDepth 20000 in
theorem ggX10_laySentences_X10_madeSays : GoodIn wsX10_laySentences wsX10_madeSays := goodIn_r _ [30, 3, 31, 32, 2, 16, 17, 7, 18, 33, 34, 35, 36, 37, 38, 39, 40, 41, 42, 43, 44, 45, 46, 47, 48, 49, 50, 51, 52, 53, 54, 55, 56, 57, 58, 59, 60, 61, 62, 63, 64, 65, 66, 67, 68, 69, 70] (by decide +kernel) (by decide +kernel)
set_option maxRecDepth 20000 in
theorem gX10_laySentences_X10_madeSays : GoodIn wsX10_laySentences (wsV RX10 237 RX10 yX10_madeSays wsX10_madeSays) := goodIn_app (goodIn_of _ (by decide +kernel)) ggX10_laySentences_X10_madeSays
theorem dX10_laySentences_0 : decode cX10_laySentences 0 = .ok (.iconst 0, 1) := by decide +kernel
theorem dX10_laySentences_1 : decode cX10_laySentences 1 = .ok (.istore_n 3, 1) := by decide +kernel
theorem dX10_laySentences_2 : decode cX10_laySentences 2 = .ok (.iload_n 3, 1) := by decide +kernel
theorem dX10_laySentences_3 : decode cX10_laySentences 3 = .ok (.iload_n 2, 1) := by decide +kernel
theorem dX10_laySentences_4 : decode cX10_laySentences 4 = .ok (.if_icmp .gt 92, 3) := by decide +kernel
theorem dX10_laySentences_7 : decode cX10_laySentences 7 = .ok (.iload_n 3, 1) := by decide +kernel
theorem dX10_laySentences_8 : decode cX10_laySentences 8 = .ok (.aload_n 0, 1) := by decide +kernel
theorem dX10_laySentences_9 : decode cX10_laySentences 9 = .ok (.getfield 153, 3) := by decide +kernel
theorem dX10_laySentences_12 : decode cX10_laySentences 12 = .ok (.if_icmp .ge 7, 3) := by decide +kernel
theorem dX10_laySentences_15 : decode cX10_laySentences 15 = .ok (.iconst (-1), 1) := by decide +kernel
theorem dX10_laySentences_16 : decode cX10_laySentences 16 = .ok (.goto 13, 3) := by decide +kernel
theorem dX10_laySentences_19 : decode cX10_laySentences 19 = .ok (.aload_n 0, 1) := by decide +kernel
theorem dX10_laySentences_20 : decode cX10_laySentences 20 = .ok (.aload_n 0, 1) := by decide +kernel
theorem dX10_laySentences_21 : decode cX10_laySentences 21 = .ok (.getfield 25, 3) := by decide +kernel
theorem dX10_laySentences_24 : decode cX10_laySentences 24 = .ok (.iload_n 3, 1) := by decide +kernel
theorem dX10_laySentences_25 : decode cX10_laySentences 25 = .ok (.iaload, 1) := by decide +kernel
theorem dX10_laySentences_26 : decode cX10_laySentences 26 = .ok (.invokevirtual 170, 3) := by decide +kernel
theorem dX10_laySentences_29 : decode cX10_laySentences 29 = .ok (.istore 4, 2) := by decide +kernel
theorem dX10_laySentences_31 : decode cX10_laySentences 31 = .ok (.iconst 0, 1) := by decide +kernel
theorem dX10_laySentences_32 : decode cX10_laySentences 32 = .ok (.istore 5, 2) := by decide +kernel
theorem dX10_laySentences_34 : decode cX10_laySentences 34 = .ok (.iload 5, 2) := by decide +kernel
theorem dX10_laySentences_36 : decode cX10_laySentences 36 = .ok (.sipush 256, 3) := by decide +kernel
theorem dX10_laySentences_39 : decode cX10_laySentences 39 = .ok (.if_icmp .ge 51, 3) := by decide +kernel
theorem dX10_laySentences_42 : decode cX10_laySentences 42 = .ok (.aload_n 0, 1) := by decide +kernel
theorem dX10_laySentences_43 : decode cX10_laySentences 43 = .ok (.getfield 62, 3) := by decide +kernel
theorem dX10_laySentences_46 : decode cX10_laySentences 46 = .ok (.sipush 256, 3) := by decide +kernel
theorem dX10_laySentences_49 : decode cX10_laySentences 49 = .ok (.iload_n 3, 1) := by decide +kernel
theorem dX10_laySentences_50 : decode cX10_laySentences 50 = .ok (.imul, 1) := by decide +kernel
theorem dX10_laySentences_51 : decode cX10_laySentences 51 = .ok (.iload 5, 2) := by decide +kernel
theorem dX10_laySentences_53 : decode cX10_laySentences 53 = .ok (.iadd, 1) := by decide +kernel
theorem dX10_laySentences_54 : decode cX10_laySentences 54 = .ok (.iload_n 3, 1) := by decide +kernel
theorem dX10_laySentences_55 : decode cX10_laySentences 55 = .ok (.aload_n 0, 1) := by decide +kernel
theorem dX10_laySentences_56 : decode cX10_laySentences 56 = .ok (.getfield 153, 3) := by decide +kernel
theorem dX10_laySentences_59 : decode cX10_laySentences 59 = .ok (.if_icmp .ge 14, 3) := by decide +kernel
theorem dX10_laySentences_62 : decode cX10_laySentences 62 = .ok (.aload_n 0, 1) := by decide +kernel
theorem dX10_laySentences_63 : decode cX10_laySentences 63 = .ok (.iload_n 1, 1) := by decide +kernel
theorem dX10_laySentences_64 : decode cX10_laySentences 64 = .ok (.iload_n 3, 1) := by decide +kernel
theorem dX10_laySentences_65 : decode cX10_laySentences 65 = .ok (.iload 5, 2) := by decide +kernel
theorem dX10_laySentences_67 : decode cX10_laySentences 67 = .ok (.invokevirtual 234, 3) := by decide +kernel
theorem dX10_laySentences_70 : decode cX10_laySentences 70 = .ok (.goto 13, 3) := by decide +kernel
theorem dX10_laySentences_73 : decode cX10_laySentences 73 = .ok (.aload_n 0, 1) := by decide +kernel
theorem dX10_laySentences_74 : decode cX10_laySentences 74 = .ok (.iload_n 1, 1) := by decide +kernel
theorem dX10_laySentences_75 : decode cX10_laySentences 75 = .ok (.iload_n 3, 1) := by decide +kernel
theorem dX10_laySentences_76 : decode cX10_laySentences 76 = .ok (.iload 5, 2) := by decide +kernel
theorem dX10_laySentences_78 : decode cX10_laySentences 78 = .ok (.iload 4, 2) := by decide +kernel
theorem dX10_laySentences_80 : decode cX10_laySentences 80 = .ok (.invokevirtual 237, 3) := by decide +kernel
theorem dX10_laySentences_83 : decode cX10_laySentences 83 = .ok (.bastore, 1) := by decide +kernel
theorem dX10_laySentences_84 : decode cX10_laySentences 84 = .ok (.iinc 5 1, 3) := by decide +kernel
theorem dX10_laySentences_87 : decode cX10_laySentences 87 = .ok (.goto (-53), 3) := by decide +kernel
theorem dX10_laySentences_90 : decode cX10_laySentences 90 = .ok (.iinc 3 1, 3) := by decide +kernel
theorem dX10_laySentences_93 : decode cX10_laySentences 93 = .ok (.goto (-91), 3) := by decide +kernel
theorem dX10_laySentences_96 : decode cX10_laySentences 96 = .ok (.return_, 1) := by decide +kernel
set_option maxRecDepth 20000 in
theorem ggX10_isSystem_X10_in : GoodIn wsX10_isSystem wsX10_in := goodIn_r _ [5] (by decide +kernel) (by decide +kernel)
set_option maxRecDepth 20000 in
theorem gX10_isSystem_X10_in : GoodIn wsX10_isSystem (va_wsS RX10 96 yX10_in wsX10_in) := goodIn_app (goodIn_of _ (by decide +kernel)) ggX10_isSystem_X10_in
theorem dX10_isSystem_0 : decode cX10_isSystem 0 = .ok (.iload_n 0, 1) := by decide +kernel
theorem dX10_isSystem_1 : decode cX10_isSystem 1 = .ok (.i2l, 1) := by decide +kernel
theorem dX10_isSystem_2 : decode cX10_isSystem 2 = .ok (.lconst 0, 1) := by decide +kernel
theorem dX10_isSystem_3 : decode cX10_isSystem 3 = .ok (.ldc2_w 241, 3) := by decide +kernel
theorem dX10_isSystem_6 : decode cX10_isSystem 6 = .ok (.invokestatic 96, 3) := by decide +kernel
theorem dX10_isSystem_9 : decode cX10_isSystem 9 = .ok (.ireturn, 1) := by decide +kernel
set_option maxRecDepth 20000 in
theorem ggX10_sentence_X10_isStep : GoodIn wsX10_sentence wsX10_isStep := goodIn_r _ [9, 10, 11, 12, 8, 13, 52, 53, 54, 55, 56, 57, 58, 59, 60, 61, 62, 63, 64, 65, 66, 67, 68, 69, 70, 71, 72, 73, 74, 75, 76, 77, 78, 79, 80, 81, 82, 83, 84, 85, 86, 87, 88, 89] (by decide +kernel) (by decide +kernel)
set_option maxRecDepth 20000 in
theorem gX10_sentence_X10_isStep : GoodIn wsX10_sentence (wsV RX10 201 RX10 yX10_isStep wsX10_isStep) := goodIn_app (goodIn_of _ (by decide +kernel)) ggX10_sentence_X10_isStep
set_option maxRecDepth 20000 in
theorem ggX10_sentence_X10_isSystem : GoodIn wsX10_sentence wsX10_isSystem := goodIn_r _ [16, 17, 11, 12, 8, 13] (by decide +kernel) (by decide +kernel)
set_option maxRecDepth 20000 in
theorem gX10_sentence_X10_isSystem : GoodIn wsX10_sentence (va_wsS RX10 243 yX10_isSystem wsX10_isSystem) := goodIn_app (goodIn_of _ (by decide +kernel)) ggX10_sentence_X10_isSystem
set_option maxRecDepth 20000 in
theorem ggX10_sentence_X10_in : GoodIn wsX10_sentence wsX10_in := goodIn_r _ [13] (by decide +kernel) (by decide +kernel)
set_option maxRecDepth 20000 in
theorem gX10_sentence_X10_in : GoodIn wsX10_sentence (va_wsS RX10 96 yX10_in wsX10_in) := goodIn_app (goodIn_of _ (by decide +kernel)) ggX10_sentence_X10_in
set_option maxRecDepth 20000 in
theorem ggX10_sentence_X10_laySentences : GoodIn wsX10_sentence wsX10_laySentences := goodIn_r _ [21, 22, 23, 4, 24, 25, 26, 8, 27, 28, 29, 30, 31, 32, 33, 34, 35, 36, 37, 38, 39, 40, 41, 42, 43, 44, 45, 46, 47, 48, 49, 50, 51, 52, 53, 54, 55, 56, 57, 58, 59, 60, 61, 62, 63, 64, 65, 66, 67, 68, 69, 70, 71, 72, 73, 74, 75, 76, 77, 78, 79, 80, 81, 82, 83, 84, 85, 86, 87, 88, 89] (by decide +kernel) (by decide +kernel)
set_option maxRecDepth 20000 in
theorem gX10_sentence_X10_laySentences : GoodIn wsX10_sentence (wsV RX10 246 RX10 yX10_laySentences wsX10_laySentences) := goodIn_app (goodIn_of _ (by decide +kernel)) ggX10_sentence_X10_laySentences
theorem dX10_sentence_0 : decode cX10_sentence 0 = .ok (.aload_n 0, 1) := by decide +kernel
theorem dX10_sentence_1 : decode cX10_sentence 1 = .ok (.iload_n 2, 1) := by decide +kernel
theorem dX10_sentence_2 : decode cX10_sentence 2 = .ok (.invokevirtual 201, 3) := by decide +kernel
theorem dX10_sentence_5 : decode cX10_sentence 5 = .ok (.ifCond .ne 6, 3) := by decide +kernel
theorem dX10_sentence_8 : decode cX10_sentence 8 = .ok (.ldc 173, 2) := by decide +kernel
theorem dX10_sentence_10 : decode cX10_sentence 10 = .ok (.ireturn, 1) := by decide +kernel
theorem dX10_sentence_11 : decode cX10_sentence 11 = .ok (.iload_n 1, 1) := by decide +kernel
theorem dX10_sentence_12 : decode cX10_sentence 12 = .ok (.invokestatic 243, 3) := by decide +kernel
theorem dX10_sentence_15 : decode cX10_sentence 15 = .ok (.ifCond .eq 15, 3) := by decide +kernel
theorem dX10_sentence_18 : decode cX10_sentence 18 = .ok (.iload_n 3, 1) := by decide +kernel
theorem dX10_sentence_19 : decode cX10_sentence 19 = .ok (.i2l, 1) := by decide +kernel
theorem dX10_sentence_20 : decode cX10_sentence 20 = .ok (.lconst 0, 1) := by decide +kernel
theorem dX10_sentence_21 : decode cX10_sentence 21 = .ok (.ldc2_w 102, 3) := by decide +kernel
theorem dX10_sentence_24 : decode cX10_sentence 24 = .ok (.invokestatic 96, 3) := by decide +kernel
theorem dX10_sentence_27 : decode cX10_sentence 27 = .ok (.ifCond .ne 6, 3) := by decide +kernel
theorem dX10_sentence_30 : decode cX10_sentence 30 = .ok (.ldc 104, 2) := by decide +kernel
theorem dX10_sentence_32 : decode cX10_sentence 32 = .ok (.ireturn, 1) := by decide +kernel
theorem dX10_sentence_33 : decode cX10_sentence 33 = .ok (.aload_n 0, 1) := by decide +kernel
theorem dX10_sentence_34 : decode cX10_sentence 34 = .ok (.iload_n 1, 1) := by decide +kernel
theorem dX10_sentence_35 : decode cX10_sentence 35 = .ok (.iload_n 2, 1) := by decide +kernel
theorem dX10_sentence_36 : decode cX10_sentence 36 = .ok (.invokevirtual 246, 3) := by decide +kernel
theorem dX10_sentence_39 : decode cX10_sentence 39 = .ok (.aload_n 0, 1) := by decide +kernel
theorem dX10_sentence_40 : decode cX10_sentence 40 = .ok (.getfield 62, 3) := by decide +kernel
theorem dX10_sentence_43 : decode cX10_sentence 43 = .ok (.sipush 256, 3) := by decide +kernel
theorem dX10_sentence_46 : decode cX10_sentence 46 = .ok (.iload_n 2, 1) := by decide +kernel
theorem dX10_sentence_47 : decode cX10_sentence 47 = .ok (.imul, 1) := by decide +kernel
theorem dX10_sentence_48 : decode cX10_sentence 48 = .ok (.iload_n 3, 1) := by decide +kernel
theorem dX10_sentence_49 : decode cX10_sentence 49 = .ok (.iadd, 1) := by decide +kernel
theorem dX10_sentence_50 : decode cX10_sentence 50 = .ok (.baload, 1) := by decide +kernel
theorem dX10_sentence_51 : decode cX10_sentence 51 = .ok (.ifCond .eq 7, 3) := by decide +kernel
theorem dX10_sentence_54 : decode cX10_sentence 54 = .ok (.iconst 1, 1) := by decide +kernel
theorem dX10_sentence_55 : decode cX10_sentence 55 = .ok (.goto 4, 3) := by decide +kernel
theorem dX10_sentence_58 : decode cX10_sentence 58 = .ok (.iconst 0, 1) := by decide +kernel
theorem dX10_sentence_59 : decode cX10_sentence 59 = .ok (.ireturn, 1) := by decide +kernel
theorem dX10_worldsSo_0 : decode cX10_worldsSo 0 = .ok (.iconst 0, 1) := by decide +kernel
theorem dX10_worldsSo_1 : decode cX10_worldsSo 1 = .ok (.istore_n 2, 1) := by decide +kernel
theorem dX10_worldsSo_2 : decode cX10_worldsSo 2 = .ok (.iconst 0, 1) := by decide +kernel
theorem dX10_worldsSo_3 : decode cX10_worldsSo 3 = .ok (.istore_n 3, 1) := by decide +kernel
theorem dX10_worldsSo_4 : decode cX10_worldsSo 4 = .ok (.iload_n 3, 1) := by decide +kernel
theorem dX10_worldsSo_5 : decode cX10_worldsSo 5 = .ok (.sipush 256, 3) := by decide +kernel
theorem dX10_worldsSo_8 : decode cX10_worldsSo 8 = .ok (.if_icmp .ge 32, 3) := by decide +kernel
theorem dX10_worldsSo_11 : decode cX10_worldsSo 11 = .ok (.iload_n 2, 1) := by decide +kernel
theorem dX10_worldsSo_12 : decode cX10_worldsSo 12 = .ok (.aload_n 0, 1) := by decide +kernel
theorem dX10_worldsSo_13 : decode cX10_worldsSo 13 = .ok (.getfield 62, 3) := by decide +kernel
theorem dX10_worldsSo_16 : decode cX10_worldsSo 16 = .ok (.sipush 256, 3) := by decide +kernel
theorem dX10_worldsSo_19 : decode cX10_worldsSo 19 = .ok (.iload_n 1, 1) := by decide +kernel
theorem dX10_worldsSo_20 : decode cX10_worldsSo 20 = .ok (.imul, 1) := by decide +kernel
theorem dX10_worldsSo_21 : decode cX10_worldsSo 21 = .ok (.iload_n 3, 1) := by decide +kernel
theorem dX10_worldsSo_22 : decode cX10_worldsSo 22 = .ok (.iadd, 1) := by decide +kernel
theorem dX10_worldsSo_23 : decode cX10_worldsSo 23 = .ok (.baload, 1) := by decide +kernel
theorem dX10_worldsSo_24 : decode cX10_worldsSo 24 = .ok (.ifCond .eq 7, 3) := by decide +kernel
theorem dX10_worldsSo_27 : decode cX10_worldsSo 27 = .ok (.iconst 1, 1) := by decide +kernel
theorem dX10_worldsSo_28 : decode cX10_worldsSo 28 = .ok (.goto 4, 3) := by decide +kernel
theorem dX10_worldsSo_31 : decode cX10_worldsSo 31 = .ok (.iconst 0, 1) := by decide +kernel
theorem dX10_worldsSo_32 : decode cX10_worldsSo 32 = .ok (.iadd, 1) := by decide +kernel
theorem dX10_worldsSo_33 : decode cX10_worldsSo 33 = .ok (.istore_n 2, 1) := by decide +kernel
theorem dX10_worldsSo_34 : decode cX10_worldsSo 34 = .ok (.iinc 3 1, 3) := by decide +kernel
theorem dX10_worldsSo_37 : decode cX10_worldsSo 37 = .ok (.goto (-33), 3) := by decide +kernel
theorem dX10_worldsSo_40 : decode cX10_worldsSo 40 = .ok (.iload_n 2, 1) := by decide +kernel
theorem dX10_worldsSo_41 : decode cX10_worldsSo 41 = .ok (.ireturn, 1) := by decide +kernel
theorem dX10_speaksOf_0 : decode cX10_speaksOf 0 = .ok (.iconst 0, 1) := by decide +kernel
theorem dX10_speaksOf_1 : decode cX10_speaksOf 1 = .ok (.istore_n 2, 1) := by decide +kernel
theorem dX10_speaksOf_2 : decode cX10_speaksOf 2 = .ok (.iconst 0, 1) := by decide +kernel
theorem dX10_speaksOf_3 : decode cX10_speaksOf 3 = .ok (.istore_n 3, 1) := by decide +kernel
theorem dX10_speaksOf_4 : decode cX10_speaksOf 4 = .ok (.iload_n 3, 1) := by decide +kernel
theorem dX10_speaksOf_5 : decode cX10_speaksOf 5 = .ok (.sipush 256, 3) := by decide +kernel
theorem dX10_speaksOf_8 : decode cX10_speaksOf 8 = .ok (.if_icmp .ge 68, 3) := by decide +kernel
theorem dX10_speaksOf_11 : decode cX10_speaksOf 11 = .ok (.iconst 0, 1) := by decide +kernel
theorem dX10_speaksOf_12 : decode cX10_speaksOf 12 = .ok (.istore 4, 2) := by decide +kernel
theorem dX10_speaksOf_14 : decode cX10_speaksOf 14 = .ok (.iload 4, 2) := by decide +kernel
theorem dX10_speaksOf_16 : decode cX10_speaksOf 16 = .ok (.bipush 8, 2) := by decide +kernel
theorem dX10_speaksOf_18 : decode cX10_speaksOf 18 = .ok (.if_icmp .ge 52, 3) := by decide +kernel
theorem dX10_speaksOf_21 : decode cX10_speaksOf 21 = .ok (.iload_n 2, 1) := by decide +kernel
theorem dX10_speaksOf_22 : decode cX10_speaksOf 22 = .ok (.aload_n 0, 1) := by decide +kernel
theorem dX10_speaksOf_23 : decode cX10_speaksOf 23 = .ok (.getfield 62, 3) := by decide +kernel
theorem dX10_speaksOf_26 : decode cX10_speaksOf 26 = .ok (.sipush 256, 3) := by decide +kernel
theorem dX10_speaksOf_29 : decode cX10_speaksOf 29 = .ok (.iload_n 1, 1) := by decide +kernel
theorem dX10_speaksOf_30 : decode cX10_speaksOf 30 = .ok (.imul, 1) := by decide +kernel
theorem dX10_speaksOf_31 : decode cX10_speaksOf 31 = .ok (.iload_n 3, 1) := by decide +kernel
theorem dX10_speaksOf_32 : decode cX10_speaksOf 32 = .ok (.iadd, 1) := by decide +kernel
theorem dX10_speaksOf_33 : decode cX10_speaksOf 33 = .ok (.baload, 1) := by decide +kernel
theorem dX10_speaksOf_34 : decode cX10_speaksOf 34 = .ok (.aload_n 0, 1) := by decide +kernel
theorem dX10_speaksOf_35 : decode cX10_speaksOf 35 = .ok (.getfield 62, 3) := by decide +kernel
theorem dX10_speaksOf_38 : decode cX10_speaksOf 38 = .ok (.sipush 256, 3) := by decide +kernel
theorem dX10_speaksOf_41 : decode cX10_speaksOf 41 = .ok (.iload_n 1, 1) := by decide +kernel
theorem dX10_speaksOf_42 : decode cX10_speaksOf 42 = .ok (.imul, 1) := by decide +kernel
theorem dX10_speaksOf_43 : decode cX10_speaksOf 43 = .ok (.iload_n 3, 1) := by decide +kernel
theorem dX10_speaksOf_44 : decode cX10_speaksOf 44 = .ok (.iconst 1, 1) := by decide +kernel
