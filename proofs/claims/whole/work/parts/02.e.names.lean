theorem dX7_goYears_151 : decode cX7_goYears 151 = .ok (.istore_n 1, 1) := by decide +kernel
theorem dX7_goYears_152 : decode cX7_goYears 152 = .ok (.aload_n 0, 1) := by decide +kernel
theorem dX7_goYears_153 : decode cX7_goYears 153 = .ok (.getfield 111, 3) := by decide +kernel
theorem dX7_goYears_156 : decode cX7_goYears 156 = .ok (.ifCond .le 8, 3) := by decide +kernel
theorem dX7_goYears_159 : decode cX7_goYears 159 = .ok (.aload_n 0, 1) := by decide +kernel
theorem dX7_goYears_160 : decode cX7_goYears 160 = .ok (.getfield 105, 3) := by decide +kernel
theorem dX7_goYears_163 : decode cX7_goYears 163 = .ok (.ireturn, 1) := by decide +kernel
theorem dX7_goYears_164 : decode cX7_goYears 164 = .ok (.aload_n 0, 1) := by decide +kernel
theorem dX7_goYears_165 : decode cX7_goYears 165 = .ok (.invokevirtual 120, 3) := by decide +kernel
theorem dX7_goYears_168 : decode cX7_goYears 168 = .ok (.istore_n 3, 1) := by decide +kernel
theorem dX7_goYears_169 : decode cX7_goYears 169 = .ok (.iload_n 3, 1) := by decide +kernel
theorem dX7_goYears_170 : decode cX7_goYears 170 = .ok (.ifCond .lt 23, 3) := by decide +kernel
theorem dX7_goYears_173 : decode cX7_goYears 173 = .ok (.aload_n 0, 1) := by decide +kernel
theorem dX7_goYears_174 : decode cX7_goYears 174 = .ok (.getfield 79, 3) := by decide +kernel
theorem dX7_goYears_177 : decode cX7_goYears 177 = .ok (.ifCond .ge 16, 3) := by decide +kernel
theorem dX7_goYears_180 : decode cX7_goYears 180 = .ok (.aload_n 0, 1) := by decide +kernel
theorem dX7_goYears_181 : decode cX7_goYears 181 = .ok (.aload_n 0, 1) := by decide +kernel
theorem dX7_goYears_182 : decode cX7_goYears 182 = .ok (.getfield 105, 3) := by decide +kernel
theorem dX7_goYears_185 : decode cX7_goYears 185 = .ok (.putfield 79, 3) := by decide +kernel
theorem dX7_goYears_188 : decode cX7_goYears 188 = .ok (.aload_n 0, 1) := by decide +kernel
theorem dX7_goYears_189 : decode cX7_goYears 189 = .ok (.iload_n 3, 1) := by decide +kernel
theorem dX7_goYears_190 : decode cX7_goYears 190 = .ok (.putfield 82, 3) := by decide +kernel
theorem dX7_goYears_193 : decode cX7_goYears 193 = .ok (.aload_n 0, 1) := by decide +kernel
theorem dX7_goYears_194 : decode cX7_goYears 194 = .ok (.dup, 1) := by decide +kernel
theorem dX7_goYears_195 : decode cX7_goYears 195 = .ok (.getfield 105, 3) := by decide +kernel
theorem dX7_goYears_198 : decode cX7_goYears 198 = .ok (.iconst 1, 1) := by decide +kernel
theorem dX7_goYears_199 : decode cX7_goYears 199 = .ok (.iadd, 1) := by decide +kernel
theorem dX7_goYears_200 : decode cX7_goYears 200 = .ok (.putfield 105, 3) := by decide +kernel
theorem dX7_goYears_203 : decode cX7_goYears 203 = .ok (.goto (-192), 3) := by decide +kernel
theorem dX7_goYears_206 : decode cX7_goYears 206 = .ok (.bipush (-6), 2) := by decide +kernel
theorem dX7_goYears_208 : decode cX7_goYears 208 = .ok (.ireturn, 1) := by decide +kernel
set_option maxRecDepth 20000 in
theorem ggX7_judge_X7_in : GoodIn wsX7_judge wsX7_in := goodIn_r _ [5] (by decide +kernel) (by decide +kernel)
set_option maxRecDepth 20000 in
theorem gX7_judge_X7_in : GoodIn wsX7_judge (va_wsS RX7 55 yX7_in wsX7_in) := goodIn_app (goodIn_of _ (by decide +kernel)) ggX7_judge_X7_in
set_option maxRecDepth 20000 in
theorem ggX7_judge_X7_faultOf : GoodIn wsX7_judge wsX7_faultOf := goodIn_r _ [9, 10, 11, 12, 13, 4, 14, 2, 3, 5, 71, 72, 73, 74, 75, 76, 77, 78, 79, 80, 81, 82, 83, 84, 85, 86, 87, 88, 89, 90] (by decide +kernel) (by decide +kernel)
set_option maxRecDepth 20000 in
theorem gX7_judge_X7_faultOf : GoodIn wsX7_judge (wsV RX7 76 RX7 yX7_faultOf wsX7_faultOf) := goodIn_app (goodIn_of _ (by decide +kernel)) ggX7_judge_X7_faultOf
set_option maxRecDepth 20000 in
theorem ggX7_judge_X7_goYears : GoodIn wsX7_judge wsX7_goYears := goodIn_r _ [18, 19, 10, 11, 20, 21, 1, 22, 23, 24, 25, 26, 4, 27, 28, 29, 30, 31, 32, 33, 34, 35, 36, 37, 38, 39, 40, 41, 42, 43, 44, 45, 46, 47, 48, 49, 50, 51, 52, 53, 54, 55, 56, 57, 58, 2, 3, 5, 59, 60, 61, 62, 63, 64, 65, 66, 67, 68, 69, 70, 71, 72, 73, 74, 75, 76, 77, 78, 79, 80, 81, 82, 83, 84, 85, 86, 87, 88, 89, 90] (by decide +kernel) (by decide +kernel)
set_option maxRecDepth 20000 in
theorem gX7_judge_X7_goYears : GoodIn wsX7_judge (wsV RX7 123 RX7 yX7_goYears wsX7_goYears) := goodIn_app (goodIn_of _ (by decide +kernel)) ggX7_judge_X7_goYears
theorem dX7_judge_0 : decode cX7_judge 0 = .ok (.iload_n 1, 1) := by decide +kernel
theorem dX7_judge_1 : decode cX7_judge 1 = .ok (.iconst 0, 1) := by decide +kernel
theorem dX7_judge_2 : decode cX7_judge 2 = .ok (.iconst 1, 1) := by decide +kernel
theorem dX7_judge_3 : decode cX7_judge 3 = .ok (.invokestatic 55, 3) := by decide +kernel
theorem dX7_judge_6 : decode cX7_judge 6 = .ok (.ifCond .ne 6, 3) := by decide +kernel
theorem dX7_judge_9 : decode cX7_judge 9 = .ok (.bipush (-2), 2) := by decide +kernel
theorem dX7_judge_11 : decode cX7_judge 11 = .ok (.ireturn, 1) := by decide +kernel
theorem dX7_judge_12 : decode cX7_judge 12 = .ok (.aload_n 0, 1) := by decide +kernel
theorem dX7_judge_13 : decode cX7_judge 13 = .ok (.invokevirtual 76, 3) := by decide +kernel
theorem dX7_judge_16 : decode cX7_judge 16 = .ok (.ifCond .lt 6, 3) := by decide +kernel
theorem dX7_judge_19 : decode cX7_judge 19 = .ok (.bipush (-5), 2) := by decide +kernel
theorem dX7_judge_21 : decode cX7_judge 21 = .ok (.ireturn, 1) := by decide +kernel
theorem dX7_judge_22 : decode cX7_judge 22 = .ok (.aload_n 0, 1) := by decide +kernel
theorem dX7_judge_23 : decode cX7_judge 23 = .ok (.invokevirtual 123, 3) := by decide +kernel
theorem dX7_judge_26 : decode cX7_judge 26 = .ok (.istore_n 2, 1) := by decide +kernel
theorem dX7_judge_27 : decode cX7_judge 27 = .ok (.iload_n 2, 1) := by decide +kernel
theorem dX7_judge_28 : decode cX7_judge 28 = .ok (.ifCond .lt 7, 3) := by decide +kernel
theorem dX7_judge_31 : decode cX7_judge 31 = .ok (.iload_n 1, 1) := by decide +kernel
theorem dX7_judge_32 : decode cX7_judge 32 = .ok (.ifCond .ne 7, 3) := by decide +kernel
theorem dX7_judge_35 : decode cX7_judge 35 = .ok (.iload_n 2, 1) := by decide +kernel
theorem dX7_judge_36 : decode cX7_judge 36 = .ok (.goto 7, 3) := by decide +kernel
theorem dX7_judge_39 : decode cX7_judge 39 = .ok (.aload_n 0, 1) := by decide +kernel
theorem dX7_judge_40 : decode cX7_judge 40 = .ok (.getfield 111, 3) := by decide +kernel
theorem dX7_judge_43 : decode cX7_judge 43 = .ok (.ireturn, 1) := by decide +kernel
set_option maxRecDepth 20000 in
theorem ggX7_barOfYears_X7_faultOf : GoodIn wsX7_barOfYears wsX7_faultOf := goodIn_r _ [5, 6, 7, 8, 9, 4, 10, 11, 12, 13, 71, 72, 73, 74, 75, 76, 77, 78, 79, 80, 81, 82, 83, 84, 85, 86, 87, 88, 89, 90] (by decide +kernel) (by decide +kernel)
set_option maxRecDepth 20000 in
theorem gX7_barOfYears_X7_faultOf : GoodIn wsX7_barOfYears (wsV RX7 76 RX7 yX7_faultOf wsX7_faultOf) := goodIn_app (goodIn_of _ (by decide +kernel)) ggX7_barOfYears_X7_faultOf
set_option maxRecDepth 20000 in
theorem ggX7_barOfYears_X7_goYears : GoodIn wsX7_barOfYears wsX7_goYears := goodIn_r _ [17, 18, 6, 7, 19, 20, 21, 22, 23, 24, 25, 26, 4, 27, 28, 29, 30, 31, 32, 33, 34, 35, 36, 37, 38, 39, 40, 41, 42, 43, 44, 45, 46, 47, 48, 49, 50, 51, 52, 53, 54, 55, 56, 57, 58, 11, 12, 13, 59, 60, 61, 62, 63, 64, 65, 66, 67, 68, 69, 70, 71, 72, 73, 74, 75, 76, 77, 78, 79, 80, 81, 82, 83, 84, 85, 86, 87, 88, 89, 90] (by decide +kernel) (by decide +kernel)
set_option maxRecDepth 20000 in
theorem gX7_barOfYears_X7_goYears : GoodIn wsX7_barOfYears (wsV RX7 123 RX7 yX7_goYears wsX7_goYears) := goodIn_app (goodIn_of _ (by decide +kernel)) ggX7_barOfYears_X7_goYears
theorem dX7_barOfYears_0 : decode cX7_barOfYears 0 = .ok (.aload_n 0, 1) := by decide +kernel
theorem dX7_barOfYears_1 : decode cX7_barOfYears 1 = .ok (.invokevirtual 76, 3) := by decide +kernel
theorem dX7_barOfYears_4 : decode cX7_barOfYears 4 = .ok (.ifCond .ge 10, 3) := by decide +kernel
theorem dX7_barOfYears_7 : decode cX7_barOfYears 7 = .ok (.aload_n 0, 1) := by decide +kernel
theorem dX7_barOfYears_8 : decode cX7_barOfYears 8 = .ok (.invokevirtual 123, 3) := by decide +kernel
theorem dX7_barOfYears_11 : decode cX7_barOfYears 11 = .ok (.ifCond .lt 8, 3) := by decide +kernel
theorem dX7_barOfYears_14 : decode cX7_barOfYears 14 = .ok (.bipush (-5), 2) := by decide +kernel
theorem dX7_barOfYears_16 : decode cX7_barOfYears 16 = .ok (.goto 4, 3) := by decide +kernel
theorem dX7_barOfYears_19 : decode cX7_barOfYears 19 = .ok (.iconst 0, 1) := by decide +kernel
theorem dX7_barOfYears_20 : decode cX7_barOfYears 20 = .ok (.ireturn, 1) := by decide +kernel
set_option maxRecDepth 20000 in
theorem ggX7_done_X7_barOfYears : GoodIn wsX7_done wsX7_barOfYears := goodIn_r _ [9, 10, 11, 12, 8, 13, 3, 14, 15, 16, 17, 18, 19, 20, 21, 22, 23, 24, 4, 25, 2, 26, 27, 28, 29, 30, 31, 32, 1, 33, 34, 35, 36, 37, 38, 39, 40, 41, 42, 43, 44, 45, 46, 47, 48, 49, 50, 51, 52, 53, 54, 55, 56, 57, 58, 59, 60, 61, 62, 63, 64, 65, 66, 67, 68, 69, 70, 71, 72, 73, 74, 75, 76, 77, 78, 79, 80, 81, 82, 83, 84, 85, 86, 87, 88, 89, 90, 91, 92, 93, 94] (by decide +kernel) (by decide +kernel)
set_option maxRecDepth 20000 in
theorem gX7_done_X7_barOfYears : GoodIn wsX7_done (wsV RX7 126 RX7 yX7_barOfYears wsX7_barOfYears) := goodIn_app (goodIn_of _ (by decide +kernel)) ggX7_done_X7_barOfYears
theorem dX7_done_0 : decode cX7_done 0 = .ok (.aload_n 0, 1) := by decide +kernel
theorem dX7_done_1 : decode cX7_done 1 = .ok (.invokevirtual 126, 3) := by decide +kernel
theorem dX7_done_4 : decode cX7_done 4 = .ok (.ifCond .ge 6, 3) := by decide +kernel
theorem dX7_done_7 : decode cX7_done 7 = .ok (.bipush (-5), 2) := by decide +kernel
theorem dX7_done_9 : decode cX7_done 9 = .ok (.ireturn, 1) := by decide +kernel
theorem dX7_done_10 : decode cX7_done 10 = .ok (.iconst 0, 1) := by decide +kernel
theorem dX7_done_11 : decode cX7_done 11 = .ok (.istore_n 1, 1) := by decide +kernel
theorem dX7_done_12 : decode cX7_done 12 = .ok (.iload_n 1, 1) := by decide +kernel
theorem dX7_done_13 : decode cX7_done 13 = .ok (.bipush 45, 2) := by decide +kernel
theorem dX7_done_15 : decode cX7_done 15 = .ok (.if_icmp .ge 21, 3) := by decide +kernel
theorem dX7_done_18 : decode cX7_done 18 = .ok (.aload_n 0, 1) := by decide +kernel
theorem dX7_done_19 : decode cX7_done 19 = .ok (.getfield 7, 3) := by decide +kernel
theorem dX7_done_22 : decode cX7_done 22 = .ok (.iload_n 1, 1) := by decide +kernel
theorem dX7_done_23 : decode cX7_done 23 = .ok (.aload_n 0, 1) := by decide +kernel
theorem dX7_done_24 : decode cX7_done 24 = .ok (.getfield 13, 3) := by decide +kernel
theorem dX7_done_27 : decode cX7_done 27 = .ok (.iload_n 1, 1) := by decide +kernel
theorem dX7_done_28 : decode cX7_done 28 = .ok (.iaload, 1) := by decide +kernel
theorem dX7_done_29 : decode cX7_done 29 = .ok (.iastore, 1) := by decide +kernel
theorem dX7_done_30 : decode cX7_done 30 = .ok (.iinc 1 1, 3) := by decide +kernel
theorem dX7_done_33 : decode cX7_done 33 = .ok (.goto (-21), 3) := by decide +kernel
theorem dX7_done_36 : decode cX7_done 36 = .ok (.aload_n 0, 1) := by decide +kernel
theorem dX7_done_37 : decode cX7_done 37 = .ok (.iconst 0, 1) := by decide +kernel
theorem dX7_done_38 : decode cX7_done 38 = .ok (.putfield 69, 3) := by decide +kernel
theorem dX7_done_41 : decode cX7_done 41 = .ok (.aload_n 0, 1) := by decide +kernel
theorem dX7_done_42 : decode cX7_done 42 = .ok (.getfield 105, 3) := by decide +kernel
theorem dX7_done_45 : decode cX7_done 45 = .ok (.ireturn, 1) := by decide +kernel
set_option maxRecDepth 20000 in
theorem ggX7_behind_X7_in : GoodIn wsX7_behind wsX7_in := goodIn_r _ [5] (by decide +kernel) (by decide +kernel)
set_option maxRecDepth 20000 in
theorem gX7_behind_X7_in : GoodIn wsX7_behind (va_wsS RX7 55 yX7_in wsX7_in) := goodIn_app (goodIn_of _ (by decide +kernel)) ggX7_behind_X7_in
set_option maxRecDepth 20000 in
theorem ggX7_behind_X7_barOfYears : GoodIn wsX7_behind wsX7_barOfYears := goodIn_r _ [9, 10, 11, 12, 4, 13, 14, 15, 16, 17, 18, 2, 3, 5, 19, 20, 21, 22, 23, 24, 1, 25, 26, 27, 28, 29, 30, 31, 32, 33, 34, 35, 36, 37, 38, 39, 40, 41, 42, 43, 44, 45, 46, 47, 48, 49, 50, 51, 52, 53, 54, 55, 56, 57, 58, 59, 60, 61, 62, 63, 64, 65, 66, 67, 68, 69, 70, 71, 72, 73, 74, 75, 76, 77, 78, 79, 80, 81, 82, 83, 84, 85, 86, 87, 88, 89, 90, 91, 92, 93, 94] (by decide +kernel) (by decide +kernel)
set_option maxRecDepth 20000 in
theorem gX7_behind_X7_barOfYears : GoodIn wsX7_behind (wsV RX7 126 RX7 yX7_barOfYears wsX7_barOfYears) := goodIn_app (goodIn_of _ (by decide +kernel)) ggX7_behind_X7_barOfYears
theorem dX7_behind_0 : decode cX7_behind 0 = .ok (.iload_n 1, 1) := by decide +kernel
theorem dX7_behind_1 : decode cX7_behind 1 = .ok (.iconst 0, 1) := by decide +kernel
theorem dX7_behind_2 : decode cX7_behind 2 = .ok (.iconst 5, 1) := by decide +kernel
theorem dX7_behind_3 : decode cX7_behind 3 = .ok (.invokestatic 55, 3) := by decide +kernel
theorem dX7_behind_6 : decode cX7_behind 6 = .ok (.ifCond .ne 5, 3) := by decide +kernel
theorem dX7_behind_9 : decode cX7_behind 9 = .ok (.iconst (-1), 1) := by decide +kernel
theorem dX7_behind_10 : decode cX7_behind 10 = .ok (.ireturn, 1) := by decide +kernel
theorem dX7_behind_11 : decode cX7_behind 11 = .ok (.iload_n 2, 1) := by decide +kernel
theorem dX7_behind_12 : decode cX7_behind 12 = .ok (.iconst 0, 1) := by decide +kernel
theorem dX7_behind_13 : decode cX7_behind 13 = .ok (.iconst 1, 1) := by decide +kernel
theorem dX7_behind_14 : decode cX7_behind 14 = .ok (.invokestatic 55, 3) := by decide +kernel
theorem dX7_behind_17 : decode cX7_behind 17 = .ok (.ifCond .ne 6, 3) := by decide +kernel
theorem dX7_behind_20 : decode cX7_behind 20 = .ok (.bipush (-2), 2) := by decide +kernel
theorem dX7_behind_22 : decode cX7_behind 22 = .ok (.ireturn, 1) := by decide +kernel
theorem dX7_behind_23 : decode cX7_behind 23 = .ok (.aload_n 0, 1) := by decide +kernel
theorem dX7_behind_24 : decode cX7_behind 24 = .ok (.invokevirtual 126, 3) := by decide +kernel
theorem dX7_behind_27 : decode cX7_behind 27 = .ok (.ifCond .ge 8, 3) := by decide +kernel
theorem dX7_behind_30 : decode cX7_behind 30 = .ok (.bipush (-5), 2) := by decide +kernel
theorem dX7_behind_32 : decode cX7_behind 32 = .ok (.goto 14, 3) := by decide +kernel
theorem dX7_behind_35 : decode cX7_behind 35 = .ok (.aload_n 0, 1) := by decide +kernel
theorem dX7_behind_36 : decode cX7_behind 36 = .ok (.getfield 13, 3) := by decide +kernel
theorem dX7_behind_39 : decode cX7_behind 39 = .ok (.bipush 6, 2) := by decide +kernel
theorem dX7_behind_41 : decode cX7_behind 41 = .ok (.iload_n 2, 1) := by decide +kernel
theorem dX7_behind_42 : decode cX7_behind 42 = .ok (.imul, 1) := by decide +kernel
theorem dX7_behind_43 : decode cX7_behind 43 = .ok (.iload_n 1, 1) := by decide +kernel
theorem dX7_behind_44 : decode cX7_behind 44 = .ok (.iadd, 1) := by decide +kernel
theorem dX7_behind_45 : decode cX7_behind 45 = .ok (.iaload, 1) := by decide +kernel
theorem dX7_behind_46 : decode cX7_behind 46 = .ok (.ireturn, 1) := by decide +kernel
set_option maxRecDepth 20000 in
theorem ggX7_lies_X7_in : GoodIn wsX7_lies wsX7_in := goodIn_r _ [5] (by decide +kernel) (by decide +kernel)
set_option maxRecDepth 20000 in
theorem gX7_lies_X7_in : GoodIn wsX7_lies (va_wsS RX7 55 yX7_in wsX7_in) := goodIn_app (goodIn_of _ (by decide +kernel)) ggX7_lies_X7_in
set_option maxRecDepth 20000 in
theorem ggX7_lies_X7_barOfYears : GoodIn wsX7_lies wsX7_barOfYears := goodIn_r _ [9, 10, 11, 12, 4, 13, 14, 15, 16, 17, 18, 2, 3, 5, 19, 20, 21, 22, 23, 24, 1, 25, 26, 27, 28, 29, 30, 31, 32, 33, 34, 35, 36, 37, 38, 39, 40, 41, 42, 43, 44, 45, 46, 47, 48, 49, 50, 51, 52, 53, 54, 55, 56, 57, 58, 59, 60, 61, 62, 63, 64, 65, 66, 67, 68, 69, 70, 71, 72, 73, 74, 75, 76, 77, 78, 79, 80, 81, 82, 83, 84, 85, 86, 87, 88, 89, 90, 91, 92, 93, 94] (by decide +kernel) (by decide +kernel)
set_option maxRecDepth 20000 in
theorem gX7_lies_X7_barOfYears : GoodIn wsX7_lies (wsV RX7 126 RX7 yX7_barOfYears wsX7_barOfYears) := goodIn_app (goodIn_of _ (by decide +kernel)) ggX7_lies_X7_barOfYears
theorem dX7_lies_0 : decode cX7_lies 0 = .ok (.iload_n 1, 1) := by decide +kernel
theorem dX7_lies_1 : decode cX7_lies 1 = .ok (.iconst 0, 1) := by decide +kernel
theorem dX7_lies_2 : decode cX7_lies 2 = .ok (.bipush 29, 2) := by decide +kernel
theorem dX7_lies_4 : decode cX7_lies 4 = .ok (.invokestatic 55, 3) := by decide +kernel
theorem dX7_lies_7 : decode cX7_lies 7 = .ok (.ifCond .ne 6, 3) := by decide +kernel
theorem dX7_lies_10 : decode cX7_lies 10 = .ok (.bipush (-2), 2) := by decide +kernel
theorem dX7_lies_12 : decode cX7_lies 12 = .ok (.ireturn, 1) := by decide +kernel
theorem dX7_lies_13 : decode cX7_lies 13 = .ok (.aload_n 0, 1) := by decide +kernel
theorem dX7_lies_14 : decode cX7_lies 14 = .ok (.invokevirtual 126, 3) := by decide +kernel
theorem dX7_lies_17 : decode cX7_lies 17 = .ok (.ifCond .ge 8, 3) := by decide +kernel
theorem dX7_lies_20 : decode cX7_lies 20 = .ok (.bipush (-5), 2) := by decide +kernel
theorem dX7_lies_22 : decode cX7_lies 22 = .ok (.goto 12, 3) := by decide +kernel
theorem dX7_lies_25 : decode cX7_lies 25 = .ok (.aload_n 0, 1) := by decide +kernel
theorem dX7_lies_26 : decode cX7_lies 26 = .ok (.getfield 13, 3) := by decide +kernel
theorem dX7_lies_29 : decode cX7_lies 29 = .ok (.bipush 12, 2) := by decide +kernel
theorem dX7_lies_31 : decode cX7_lies 31 = .ok (.iload_n 1, 1) := by decide +kernel
theorem dX7_lies_32 : decode cX7_lies 32 = .ok (.iadd, 1) := by decide +kernel
theorem dX7_lies_33 : decode cX7_lies 33 = .ok (.iaload, 1) := by decide +kernel
theorem dX7_lies_34 : decode cX7_lies 34 = .ok (.ireturn, 1) := by decide +kernel
set_option maxRecDepth 20000 in
theorem ggX7_then_X7_in : GoodIn wsX7_then wsX7_in := goodIn_r _ [8] (by decide +kernel) (by decide +kernel)
set_option maxRecDepth 20000 in
theorem gX7_then_X7_in : GoodIn wsX7_then (va_wsS RX7 55 yX7_in wsX7_in) := goodIn_app (goodIn_of _ (by decide +kernel)) ggX7_then_X7_in
set_option maxRecDepth 20000 in
theorem ggX7_then_X7_barOfYears : GoodIn wsX7_then wsX7_barOfYears := goodIn_r _ [12, 13, 14, 15, 7, 16, 17, 18, 19, 20, 21, 5, 6, 8, 22, 23, 24, 25, 26, 27, 1, 28, 3, 4, 29, 30, 31, 32, 33, 34, 35, 36, 37, 38, 39, 40, 41, 42, 43, 44, 45, 46, 47, 48, 49, 50, 2, 51, 52, 53, 54, 55, 56, 57, 58, 59, 60, 61, 62, 63, 64, 65, 66, 67, 68, 69, 70, 71, 72, 73, 74, 83, 84, 85, 86, 87, 88, 89, 90, 91, 92, 93, 94, 95, 96, 97, 98, 99, 100, 101, 102] (by decide +kernel) (by decide +kernel)
set_option maxRecDepth 20000 in
theorem gX7_then_X7_barOfYears : GoodIn wsX7_then (wsV RX7 126 RX7 yX7_barOfYears wsX7_barOfYears) := goodIn_app (goodIn_of _ (by decide +kernel)) ggX7_then_X7_barOfYears
set_option maxRecDepth 20000 in
theorem ggX7_then_X7_within : GoodIn wsX7_then wsX7_within := goodIn_r _ [78, 1, 83, 84, 85, 86, 87, 88, 89, 90, 91, 92, 93, 94, 95, 96, 97, 98, 99, 100, 101, 102] (by decide +kernel) (by decide +kernel)
set_option maxRecDepth 20000 in
theorem gX7_then_X7_within : GoodIn wsX7_then (wsV RX7 62 RX7 yX7_within wsX7_within) := goodIn_app (goodIn_of _ (by decide +kernel)) ggX7_then_X7_within
set_option maxRecDepth 20000 in
theorem ggX7_then_X7_lying : GoodIn wsX7_then wsX7_lying := goodIn_r _ [82, 1, 83, 84, 85, 86, 87, 88, 89, 90, 91, 92, 93, 94, 95, 96, 97, 98, 99, 100, 101, 102] (by decide +kernel) (by decide +kernel)
set_option maxRecDepth 20000 in
theorem gX7_then_X7_lying : GoodIn wsX7_then (wsV RX7 66 RX7 yX7_lying wsX7_lying) := goodIn_app (goodIn_of _ (by decide +kernel)) ggX7_then_X7_lying
theorem dX7_then_0 : decode cX7_then 0 = .ok (.iload_n 1, 1) := by decide +kernel
theorem dX7_then_1 : decode cX7_then 1 = .ok (.iconst 0, 1) := by decide +kernel
theorem dX7_then_2 : decode cX7_then 2 = .ok (.bipush 7, 2) := by decide +kernel
theorem dX7_then_4 : decode cX7_then 4 = .ok (.invokestatic 55, 3) := by decide +kernel
theorem dX7_then_7 : decode cX7_then 7 = .ok (.ifCond .ne 6, 3) := by decide +kernel
theorem dX7_then_10 : decode cX7_then 10 = .ok (.bipush (-2), 2) := by decide +kernel
theorem dX7_then_12 : decode cX7_then 12 = .ok (.ireturn, 1) := by decide +kernel
theorem dX7_then_13 : decode cX7_then 13 = .ok (.aload_n 0, 1) := by decide +kernel
theorem dX7_then_14 : decode cX7_then 14 = .ok (.invokevirtual 126, 3) := by decide +kernel
theorem dX7_then_17 : decode cX7_then 17 = .ok (.ifCond .ge 6, 3) := by decide +kernel
theorem dX7_then_20 : decode cX7_then 20 = .ok (.bipush (-5), 2) := by decide +kernel
theorem dX7_then_22 : decode cX7_then 22 = .ok (.ireturn, 1) := by decide +kernel
theorem dX7_then_23 : decode cX7_then 23 = .ok (.iload_n 1, 1) := by decide +kernel
theorem dX7_then_24 : decode cX7_then 24 = .ok (.tableswitch 85 0 5 #[40, 48, 65, 65, 75, 80], 40) := by decide +kernel
theorem dX7_then_64 : decode cX7_then 64 = .ok (.aload_n 0, 1) := by decide +kernel
theorem dX7_then_65 : decode cX7_then 65 = .ok (.getfield 13, 3) := by decide +kernel
theorem dX7_then_68 : decode cX7_then 68 = .ok (.bipush 42, 2) := by decide +kernel
theorem dX7_then_70 : decode cX7_then 70 = .ok (.iaload, 1) := by decide +kernel
theorem dX7_then_71 : decode cX7_then 71 = .ok (.ireturn, 1) := by decide +kernel
theorem dX7_then_72 : decode cX7_then 72 = .ok (.aload_n 0, 1) := by decide +kernel
theorem dX7_then_73 : decode cX7_then 73 = .ok (.getfield 13, 3) := by decide +kernel
theorem dX7_then_76 : decode cX7_then 76 = .ok (.bipush 42, 2) := by decide +kernel
theorem dX7_then_78 : decode cX7_then 78 = .ok (.iaload, 1) := by decide +kernel
theorem dX7_then_79 : decode cX7_then 79 = .ok (.aload_n 0, 1) := by decide +kernel
theorem dX7_then_80 : decode cX7_then 80 = .ok (.getfield 16, 3) := by decide +kernel
theorem dX7_then_83 : decode cX7_then 83 = .ok (.iadd, 1) := by decide +kernel
theorem dX7_then_84 : decode cX7_then 84 = .ok (.sipush 365, 3) := by decide +kernel
theorem dX7_then_87 : decode cX7_then 87 = .ok (.irem, 1) := by decide +kernel
theorem dX7_then_88 : decode cX7_then 88 = .ok (.ireturn, 1) := by decide +kernel
theorem dX7_then_89 : decode cX7_then 89 = .ok (.aload_n 0, 1) := by decide +kernel
theorem dX7_then_90 : decode cX7_then 90 = .ok (.getfield 13, 3) := by decide +kernel
theorem dX7_then_93 : decode cX7_then 93 = .ok (.bipush 41, 2) := by decide +kernel
theorem dX7_then_95 : decode cX7_then 95 = .ok (.iload_n 1, 1) := by decide +kernel
theorem dX7_then_96 : decode cX7_then 96 = .ok (.iadd, 1) := by decide +kernel
theorem dX7_then_97 : decode cX7_then 97 = .ok (.iaload, 1) := by decide +kernel
theorem dX7_then_98 : decode cX7_then 98 = .ok (.ireturn, 1) := by decide +kernel
theorem dX7_then_99 : decode cX7_then 99 = .ok (.aload_n 0, 1) := by decide +kernel
theorem dX7_then_100 : decode cX7_then 100 = .ok (.invokevirtual 62, 3) := by decide +kernel
theorem dX7_then_103 : decode cX7_then 103 = .ok (.ireturn, 1) := by decide +kernel
theorem dX7_then_104 : decode cX7_then 104 = .ok (.aload_n 0, 1) := by decide +kernel
theorem dX7_then_105 : decode cX7_then 105 = .ok (.invokevirtual 66, 3) := by decide +kernel
theorem dX7_then_108 : decode cX7_then 108 = .ok (.ireturn, 1) := by decide +kernel
theorem dX7_then_109 : decode cX7_then 109 = .ok (.iload_n 1, 1) := by decide +kernel
theorem dX7_then_110 : decode cX7_then 110 = .ok (.bipush 6, 2) := by decide +kernel
theorem dX7_then_112 : decode cX7_then 112 = .ok (.if_icmp .ne 10, 3) := by decide +kernel
theorem dX7_then_115 : decode cX7_then 115 = .ok (.aload_n 0, 1) := by decide +kernel
theorem dX7_then_116 : decode cX7_then 116 = .ok (.getfield 79, 3) := by decide +kernel
theorem dX7_then_119 : decode cX7_then 119 = .ok (.goto 7, 3) := by decide +kernel
theorem dX7_then_122 : decode cX7_then 122 = .ok (.aload_n 0, 1) := by decide +kernel
theorem dX7_then_123 : decode cX7_then 123 = .ok (.getfield 82, 3) := by decide +kernel
theorem dX7_then_126 : decode cX7_then 126 = .ok (.ireturn, 1) := by decide +kernel
set_option maxRecDepth 20000 in
theorem ggX7_agree_X7_in : GoodIn wsX7_agree wsX7_in := goodIn_r _ [4] (by decide +kernel) (by decide +kernel)
set_option maxRecDepth 20000 in
theorem gX7_agree_X7_in : GoodIn wsX7_agree (va_wsS RX7 55 yX7_in wsX7_in) := goodIn_app (goodIn_of _ (by decide +kernel)) ggX7_agree_X7_in
theorem dX7_agree_0 : decode cX7_agree 0 = .ok (.iload_n 1, 1) := by decide +kernel
theorem dX7_agree_1 : decode cX7_agree 1 = .ok (.iconst 1, 1) := by decide +kernel
theorem dX7_agree_2 : decode cX7_agree 2 = .ok (.sipush 999, 3) := by decide +kernel
theorem dX7_agree_5 : decode cX7_agree 5 = .ok (.invokestatic 55, 3) := by decide +kernel
theorem dX7_agree_8 : decode cX7_agree 8 = .ok (.ifCond .eq 37, 3) := by decide +kernel
theorem dX7_agree_11 : decode cX7_agree 11 = .ok (.iload_n 3, 1) := by decide +kernel
theorem dX7_agree_12 : decode cX7_agree 12 = .ok (.iconst 1, 1) := by decide +kernel
theorem dX7_agree_13 : decode cX7_agree 13 = .ok (.sipush 999, 3) := by decide +kernel
theorem dX7_agree_16 : decode cX7_agree 16 = .ok (.invokestatic 55, 3) := by decide +kernel
theorem dX7_agree_19 : decode cX7_agree 19 = .ok (.ifCond .eq 26, 3) := by decide +kernel
theorem dX7_agree_22 : decode cX7_agree 22 = .ok (.iload_n 2, 1) := by decide +kernel
theorem dX7_agree_23 : decode cX7_agree 23 = .ok (.iconst 0, 1) := by decide +kernel
theorem dX7_agree_24 : decode cX7_agree 24 = .ok (.iload_n 1, 1) := by decide +kernel
theorem dX7_agree_25 : decode cX7_agree 25 = .ok (.iconst 1, 1) := by decide +kernel
theorem dX7_agree_26 : decode cX7_agree 26 = .ok (.isub, 1) := by decide +kernel
theorem dX7_agree_27 : decode cX7_agree 27 = .ok (.invokestatic 55, 3) := by decide +kernel
theorem dX7_agree_30 : decode cX7_agree 30 = .ok (.ifCond .eq 15, 3) := by decide +kernel
theorem dX7_agree_33 : decode cX7_agree 33 = .ok (.iload 4, 2) := by decide +kernel
theorem dX7_agree_35 : decode cX7_agree 35 = .ok (.iconst 0, 1) := by decide +kernel
theorem dX7_agree_36 : decode cX7_agree 36 = .ok (.iload_n 3, 1) := by decide +kernel
theorem dX7_agree_37 : decode cX7_agree 37 = .ok (.iconst 1, 1) := by decide +kernel
theorem dX7_agree_38 : decode cX7_agree 38 = .ok (.isub, 1) := by decide +kernel
theorem dX7_agree_39 : decode cX7_agree 39 = .ok (.invokestatic 55, 3) := by decide +kernel
theorem dX7_agree_42 : decode cX7_agree 42 = .ok (.ifCond .ne 6, 3) := by decide +kernel
theorem dX7_agree_45 : decode cX7_agree 45 = .ok (.bipush (-2), 2) := by decide +kernel
theorem dX7_agree_47 : decode cX7_agree 47 = .ok (.ireturn, 1) := by decide +kernel
theorem dX7_agree_48 : decode cX7_agree 48 = .ok (.iload_n 2, 1) := by decide +kernel
theorem dX7_agree_49 : decode cX7_agree 49 = .ok (.istore 5, 2) := by decide +kernel
theorem dX7_agree_51 : decode cX7_agree 51 = .ok (.iload 5, 2) := by decide +kernel
theorem dX7_agree_53 : decode cX7_agree 53 = .ok (.iload_n 1, 1) := by decide +kernel
theorem dX7_agree_54 : decode cX7_agree 54 = .ok (.iload_n 3, 1) := by decide +kernel
theorem dX7_agree_55 : decode cX7_agree 55 = .ok (.imul, 1) := by decide +kernel
theorem dX7_agree_56 : decode cX7_agree 56 = .ok (.if_icmp .ge 24, 3) := by decide +kernel
theorem dX7_agree_59 : decode cX7_agree 59 = .ok (.iload 5, 2) := by decide +kernel
theorem dX7_agree_61 : decode cX7_agree 61 = .ok (.iload_n 3, 1) := by decide +kernel
theorem dX7_agree_62 : decode cX7_agree 62 = .ok (.irem, 1) := by decide +kernel
theorem dX7_agree_63 : decode cX7_agree 63 = .ok (.iload 4, 2) := by decide +kernel
theorem dX7_agree_65 : decode cX7_agree 65 = .ok (.if_icmp .ne 6, 3) := by decide +kernel
theorem dX7_agree_68 : decode cX7_agree 68 = .ok (.iload 5, 2) := by decide +kernel
theorem dX7_agree_70 : decode cX7_agree 70 = .ok (.ireturn, 1) := by decide +kernel
theorem dX7_agree_71 : decode cX7_agree 71 = .ok (.iload 5, 2) := by decide +kernel
theorem dX7_agree_73 : decode cX7_agree 73 = .ok (.iload_n 1, 1) := by decide +kernel
theorem dX7_agree_74 : decode cX7_agree 74 = .ok (.iadd, 1) := by decide +kernel
theorem dX7_agree_75 : decode cX7_agree 75 = .ok (.istore 5, 2) := by decide +kernel
theorem dX7_agree_77 : decode cX7_agree 77 = .ok (.goto (-26), 3) := by decide +kernel
theorem dX7_agree_80 : decode cX7_agree 80 = .ok (.bipush (-6), 2) := by decide +kernel
theorem dX7_agree_82 : decode cX7_agree 82 = .ok (.ireturn, 1) := by decide +kernel
theorem dX7_long1_0 : decode cX7_long1 0 = .ok (.iload_n 1, 1) := by decide +kernel
theorem dX7_long1_1 : decode cX7_long1 1 = .ok (.iconst 2, 1) := by decide +kernel
theorem dX7_long1_2 : decode cX7_long1 2 = .ok (.if_icmp .ne 19, 3) := by decide +kernel
theorem dX7_long1_5 : decode cX7_long1 5 = .ok (.iload_n 0, 1) := by decide +kernel
theorem dX7_long1_6 : decode cX7_long1 6 = .ok (.iconst 4, 1) := by decide +kernel
theorem dX7_long1_7 : decode cX7_long1 7 = .ok (.irem, 1) := by decide +kernel
theorem dX7_long1_8 : decode cX7_long1 8 = .ok (.ifCond .ne 8, 3) := by decide +kernel
theorem dX7_long1_11 : decode cX7_long1 11 = .ok (.bipush 29, 2) := by decide +kernel
theorem dX7_long1_13 : decode cX7_long1 13 = .ok (.goto 38, 3) := by decide +kernel
theorem dX7_long1_16 : decode cX7_long1 16 = .ok (.bipush 28, 2) := by decide +kernel
theorem dX7_long1_18 : decode cX7_long1 18 = .ok (.goto 33, 3) := by decide +kernel
theorem dX7_long1_21 : decode cX7_long1 21 = .ok (.iload_n 1, 1) := by decide +kernel
theorem dX7_long1_22 : decode cX7_long1 22 = .ok (.iconst 4, 1) := by decide +kernel
theorem dX7_long1_23 : decode cX7_long1 23 = .ok (.if_icmp .eq 21, 3) := by decide +kernel
theorem dX7_long1_26 : decode cX7_long1 26 = .ok (.iload_n 1, 1) := by decide +kernel
theorem dX7_long1_27 : decode cX7_long1 27 = .ok (.bipush 6, 2) := by decide +kernel
theorem dX7_long1_29 : decode cX7_long1 29 = .ok (.if_icmp .eq 15, 3) := by decide +kernel
theorem dX7_long1_32 : decode cX7_long1 32 = .ok (.iload_n 1, 1) := by decide +kernel
theorem dX7_long1_33 : decode cX7_long1 33 = .ok (.bipush 9, 2) := by decide +kernel
theorem dX7_long1_35 : decode cX7_long1 35 = .ok (.if_icmp .eq 9, 3) := by decide +kernel
theorem dX7_long1_38 : decode cX7_long1 38 = .ok (.iload_n 1, 1) := by decide +kernel
theorem dX7_long1_39 : decode cX7_long1 39 = .ok (.bipush 11, 2) := by decide +kernel
theorem dX7_long1_41 : decode cX7_long1 41 = .ok (.if_icmp .ne 8, 3) := by decide +kernel
theorem dX7_long1_44 : decode cX7_long1 44 = .ok (.bipush 30, 2) := by decide +kernel
theorem dX7_long1_46 : decode cX7_long1 46 = .ok (.goto 5, 3) := by decide +kernel
theorem dX7_long1_49 : decode cX7_long1 49 = .ok (.bipush 31, 2) := by decide +kernel
theorem dX7_long1_51 : decode cX7_long1 51 = .ok (.ireturn, 1) := by decide +kernel
theorem dX7_count_0 : decode cX7_count 0 = .ok (.iload_n 1, 1) := by decide +kernel
theorem dX7_count_1 : decode cX7_count 1 = .ok (.iconst 3, 1) := by decide +kernel
theorem dX7_count_2 : decode cX7_count 2 = .ok (.if_icmp .ge 9, 3) := by decide +kernel
theorem dX7_count_5 : decode cX7_count 5 = .ok (.iload_n 0, 1) := by decide +kernel
theorem dX7_count_6 : decode cX7_count 6 = .ok (.iconst 1, 1) := by decide +kernel
theorem dX7_count_7 : decode cX7_count 7 = .ok (.isub, 1) := by decide +kernel
theorem dX7_count_8 : decode cX7_count 8 = .ok (.goto 4, 3) := by decide +kernel
theorem dX7_count_11 : decode cX7_count 11 = .ok (.iload_n 0, 1) := by decide +kernel
theorem dX7_count_12 : decode cX7_count 12 = .ok (.istore 4, 2) := by decide +kernel
theorem dX7_count_14 : decode cX7_count 14 = .ok (.iload_n 1, 1) := by decide +kernel
theorem dX7_count_15 : decode cX7_count 15 = .ok (.bipush 9, 2) := by decide +kernel
theorem dX7_count_17 : decode cX7_count 17 = .ok (.iadd, 1) := by decide +kernel
theorem dX7_count_18 : decode cX7_count 18 = .ok (.bipush 12, 2) := by decide +kernel
theorem dX7_count_20 : decode cX7_count 20 = .ok (.irem, 1) := by decide +kernel
theorem dX7_count_21 : decode cX7_count 21 = .ok (.istore 5, 2) := by decide +kernel
theorem dX7_count_23 : decode cX7_count 23 = .ok (.sipush 365, 3) := by decide +kernel
theorem dX7_count_26 : decode cX7_count 26 = .ok (.iload 4, 2) := by decide +kernel
theorem dX7_count_28 : decode cX7_count 28 = .ok (.imul, 1) := by decide +kernel
theorem dX7_count_29 : decode cX7_count 29 = .ok (.iload 4, 2) := by decide +kernel
theorem dX7_count_31 : decode cX7_count 31 = .ok (.iconst 4, 1) := by decide +kernel
theorem dX7_count_32 : decode cX7_count 32 = .ok (.idiv, 1) := by decide +kernel
theorem dX7_count_33 : decode cX7_count 33 = .ok (.iadd, 1) := by decide +kernel
theorem dX7_count_34 : decode cX7_count 34 = .ok (.sipush 153, 3) := by decide +kernel
theorem dX7_count_37 : decode cX7_count 37 = .ok (.iload 5, 2) := by decide +kernel
theorem dX7_count_39 : decode cX7_count 39 = .ok (.imul, 1) := by decide +kernel
theorem dX7_count_40 : decode cX7_count 40 = .ok (.iconst 2, 1) := by decide +kernel
theorem dX7_count_41 : decode cX7_count 41 = .ok (.iadd, 1) := by decide +kernel
theorem dX7_count_42 : decode cX7_count 42 = .ok (.iconst 5, 1) := by decide +kernel
theorem dX7_count_43 : decode cX7_count 43 = .ok (.idiv, 1) := by decide +kernel
theorem dX7_count_44 : decode cX7_count 44 = .ok (.iadd, 1) := by decide +kernel
theorem dX7_count_45 : decode cX7_count 45 = .ok (.iload_n 2, 1) := by decide +kernel
theorem dX7_count_46 : decode cX7_count 46 = .ok (.iadd, 1) := by decide +kernel
theorem dX7_count_47 : decode cX7_count 47 = .ok (.istore 6, 2) := by decide +kernel
theorem dX7_count_49 : decode cX7_count 49 = .ok (.iload_n 3, 1) := by decide +kernel
theorem dX7_count_50 : decode cX7_count 50 = .ok (.ifCond .eq 21, 3) := by decide +kernel
theorem dX7_count_53 : decode cX7_count 53 = .ok (.iload 6, 2) := by decide +kernel
theorem dX7_count_55 : decode cX7_count 55 = .ok (.iload 4, 2) := by decide +kernel
theorem dX7_count_57 : decode cX7_count 57 = .ok (.bipush 100, 2) := by decide +kernel
theorem dX7_count_59 : decode cX7_count 59 = .ok (.idiv, 1) := by decide +kernel
theorem dX7_count_60 : decode cX7_count 60 = .ok (.isub, 1) := by decide +kernel
theorem dX7_count_61 : decode cX7_count 61 = .ok (.iload 4, 2) := by decide +kernel
theorem dX7_count_63 : decode cX7_count 63 = .ok (.sipush 400, 3) := by decide +kernel
theorem dX7_count_66 : decode cX7_count 66 = .ok (.idiv, 1) := by decide +kernel
theorem dX7_count_67 : decode cX7_count 67 = .ok (.iadd, 1) := by decide +kernel
theorem dX7_count_68 : decode cX7_count 68 = .ok (.goto 5, 3) := by decide +kernel
theorem dX7_count_71 : decode cX7_count 71 = .ok (.iload 6, 2) := by decide +kernel
theorem dX7_count_73 : decode cX7_count 73 = .ok (.ireturn, 1) := by decide +kernel
set_option maxRecDepth 20000 in
theorem ggX7_style_X7_in : GoodIn wsX7_style wsX7_in := goodIn_r _ [4] (by decide +kernel) (by decide +kernel)
set_option maxRecDepth 20000 in
theorem gX7_style_X7_in : GoodIn wsX7_style (va_wsS RX7 55 yX7_in wsX7_in) := goodIn_app (goodIn_of _ (by decide +kernel)) ggX7_style_X7_in
set_option maxRecDepth 20000 in
theorem ggX7_style_X7_long1 : GoodIn wsX7_style wsX7_long1 := goodIn_r _ [7] (by decide +kernel) (by decide +kernel)
set_option maxRecDepth 20000 in
theorem gX7_style_X7_long1 : GoodIn wsX7_style (va_wsS RX7 129 yX7_long1 wsX7_long1) := goodIn_app (goodIn_of _ (by decide +kernel)) ggX7_style_X7_long1
set_option maxRecDepth 20000 in
theorem ggX7_style_X7_count : GoodIn wsX7_style wsX7_count := goodIn_r _ [10] (by decide +kernel) (by decide +kernel)
set_option maxRecDepth 20000 in
theorem gX7_style_X7_count : GoodIn wsX7_style (va_wsS RX7 132 yX7_count wsX7_count) := goodIn_app (goodIn_of _ (by decide +kernel)) ggX7_style_X7_count
theorem dX7_style_0 : decode cX7_style 0 = .ok (.iload_n 1, 1) := by decide +kernel
theorem dX7_style_1 : decode cX7_style 1 = .ok (.sipush 1000, 3) := by decide +kernel
theorem dX7_style_4 : decode cX7_style 4 = .ok (.sipush 3000, 3) := by decide +kernel
theorem dX7_style_7 : decode cX7_style 7 = .ok (.invokestatic 55, 3) := by decide +kernel
theorem dX7_style_10 : decode cX7_style 10 = .ok (.ifCond .eq 36, 3) := by decide +kernel
theorem dX7_style_13 : decode cX7_style 13 = .ok (.iload_n 2, 1) := by decide +kernel
theorem dX7_style_14 : decode cX7_style 14 = .ok (.iconst 1, 1) := by decide +kernel
theorem dX7_style_15 : decode cX7_style 15 = .ok (.bipush 12, 2) := by decide +kernel
theorem dX7_style_17 : decode cX7_style 17 = .ok (.invokestatic 55, 3) := by decide +kernel
theorem dX7_style_20 : decode cX7_style 20 = .ok (.ifCond .eq 26, 3) := by decide +kernel
theorem dX7_style_23 : decode cX7_style 23 = .ok (.iload_n 3, 1) := by decide +kernel
theorem dX7_style_24 : decode cX7_style 24 = .ok (.iconst 1, 1) := by decide +kernel
theorem dX7_style_25 : decode cX7_style 25 = .ok (.iload_n 1, 1) := by decide +kernel
theorem dX7_style_26 : decode cX7_style 26 = .ok (.iload_n 2, 1) := by decide +kernel
theorem dX7_style_27 : decode cX7_style 27 = .ok (.invokestatic 129, 3) := by decide +kernel
theorem dX7_style_30 : decode cX7_style 30 = .ok (.invokestatic 55, 3) := by decide +kernel
theorem dX7_style_33 : decode cX7_style 33 = .ok (.ifCond .eq 13, 3) := by decide +kernel
theorem dX7_style_36 : decode cX7_style 36 = .ok (.iload 4, 2) := by decide +kernel
theorem dX7_style_38 : decode cX7_style 38 = .ok (.iconst 0, 1) := by decide +kernel
theorem dX7_style_39 : decode cX7_style 39 = .ok (.iconst 2, 1) := by decide +kernel
theorem dX7_style_40 : decode cX7_style 40 = .ok (.invokestatic 55, 3) := by decide +kernel
theorem dX7_style_43 : decode cX7_style 43 = .ok (.ifCond .ne 6, 3) := by decide +kernel
theorem dX7_style_46 : decode cX7_style 46 = .ok (.bipush (-2), 2) := by decide +kernel
theorem dX7_style_48 : decode cX7_style 48 = .ok (.ireturn, 1) := by decide +kernel
theorem dX7_style_49 : decode cX7_style 49 = .ok (.iload_n 1, 1) := by decide +kernel
theorem dX7_style_50 : decode cX7_style 50 = .ok (.iload_n 2, 1) := by decide +kernel
theorem dX7_style_51 : decode cX7_style 51 = .ok (.iload_n 3, 1) := by decide +kernel
theorem dX7_style_52 : decode cX7_style 52 = .ok (.iconst 0, 1) := by decide +kernel
theorem dX7_style_53 : decode cX7_style 53 = .ok (.invokestatic 132, 3) := by decide +kernel
theorem dX7_style_56 : decode cX7_style 56 = .ok (.sipush 1752, 3) := by decide +kernel
theorem dX7_style_59 : decode cX7_style 59 = .ok (.bipush 9, 2) := by decide +kernel
theorem dX7_style_61 : decode cX7_style 61 = .ok (.iconst 2, 1) := by decide +kernel
theorem dX7_style_62 : decode cX7_style 62 = .ok (.iconst 0, 1) := by decide +kernel
theorem dX7_style_63 : decode cX7_style 63 = .ok (.invokestatic 132, 3) := by decide +kernel
theorem dX7_style_66 : decode cX7_style 66 = .ok (.isub, 1) := by decide +kernel
theorem dX7_style_67 : decode cX7_style 67 = .ok (.istore 5, 2) := by decide +kernel
theorem dX7_style_69 : decode cX7_style 69 = .ok (.iload 4, 2) := by decide +kernel
theorem dX7_style_71 : decode cX7_style 71 = .ok (.iconst 1, 1) := by decide +kernel
theorem dX7_style_72 : decode cX7_style 72 = .ok (.if_icmp .ne 17, 3) := by decide +kernel
theorem dX7_style_75 : decode cX7_style 75 = .ok (.iload 5, 2) := by decide +kernel
theorem dX7_style_77 : decode cX7_style 77 = .ok (.iconst 2, 1) := by decide +kernel
theorem dX7_style_78 : decode cX7_style 78 = .ok (.iadd, 1) := by decide +kernel
theorem dX7_style_79 : decode cX7_style 79 = .ok (.bipush 7, 2) := by decide +kernel
theorem dX7_style_81 : decode cX7_style 81 = .ok (.irem, 1) := by decide +kernel
theorem dX7_style_82 : decode cX7_style 82 = .ok (.bipush 7, 2) := by decide +kernel
theorem dX7_style_84 : decode cX7_style 84 = .ok (.iadd, 1) := by decide +kernel
theorem dX7_style_85 : decode cX7_style 85 = .ok (.bipush 7, 2) := by decide +kernel
theorem dX7_style_87 : decode cX7_style 87 = .ok (.irem, 1) := by decide +kernel
theorem dX7_style_88 : decode cX7_style 88 = .ok (.ireturn, 1) := by decide +kernel
theorem dX7_style_89 : decode cX7_style 89 = .ok (.sipush 1752, 3) := by decide +kernel
theorem dX7_style_92 : decode cX7_style 92 = .ok (.bipush 9, 2) := by decide +kernel
theorem dX7_style_94 : decode cX7_style 94 = .ok (.bipush 13, 2) := by decide +kernel
theorem dX7_style_96 : decode cX7_style 96 = .ok (.iconst 1, 1) := by decide +kernel
theorem dX7_style_97 : decode cX7_style 97 = .ok (.invokestatic 132, 3) := by decide +kernel
theorem dX7_style_100 : decode cX7_style 100 = .ok (.iload 5, 2) := by decide +kernel
theorem dX7_style_102 : decode cX7_style 102 = .ok (.iadd, 1) := by decide +kernel
theorem dX7_style_103 : decode cX7_style 103 = .ok (.istore 6, 2) := by decide +kernel
theorem dX7_style_105 : decode cX7_style 105 = .ok (.iload_n 1, 1) := by decide +kernel
theorem dX7_style_106 : decode cX7_style 106 = .ok (.iconst 1, 1) := by decide +kernel
theorem dX7_style_107 : decode cX7_style 107 = .ok (.iadd, 1) := by decide +kernel
theorem dX7_style_108 : decode cX7_style 108 = .ok (.istore 7, 2) := by decide +kernel
theorem dX7_style_110 : decode cX7_style 110 = .ok (.iload 7, 2) := by decide +kernel
theorem dX7_style_112 : decode cX7_style 112 = .ok (.iconst 1, 1) := by decide +kernel
theorem dX7_style_113 : decode cX7_style 113 = .ok (.iconst 1, 1) := by decide +kernel
theorem dX7_style_114 : decode cX7_style 114 = .ok (.iconst 1, 1) := by decide +kernel
theorem dX7_style_115 : decode cX7_style 115 = .ok (.invokestatic 132, 3) := by decide +kernel
theorem dX7_style_118 : decode cX7_style 118 = .ok (.iload 6, 2) := by decide +kernel
theorem dX7_style_120 : decode cX7_style 120 = .ok (.if_icmp .le 9, 3) := by decide +kernel
theorem dX7_style_123 : decode cX7_style 123 = .ok (.iinc 7 (-1), 3) := by decide +kernel
theorem dX7_style_126 : decode cX7_style 126 = .ok (.goto (-16), 3) := by decide +kernel
theorem dX7_style_129 : decode cX7_style 129 = .ok (.iload 4, 2) := by decide +kernel
theorem dX7_style_131 : decode cX7_style 131 = .ok (.iconst 2, 1) := by decide +kernel
theorem dX7_style_132 : decode cX7_style 132 = .ok (.if_icmp .ne 17, 3) := by decide +kernel
theorem dX7_style_135 : decode cX7_style 135 = .ok (.iload 6, 2) := by decide +kernel
theorem dX7_style_137 : decode cX7_style 137 = .ok (.iload 7, 2) := by decide +kernel
theorem dX7_style_139 : decode cX7_style 139 = .ok (.iconst 1, 1) := by decide +kernel
theorem dX7_style_140 : decode cX7_style 140 = .ok (.iconst 1, 1) := by decide +kernel
theorem dX7_style_141 : decode cX7_style 141 = .ok (.iconst 1, 1) := by decide +kernel
theorem dX7_style_142 : decode cX7_style 142 = .ok (.invokestatic 132, 3) := by decide +kernel
theorem dX7_style_145 : decode cX7_style 145 = .ok (.isub, 1) := by decide +kernel
theorem dX7_style_146 : decode cX7_style 146 = .ok (.iconst 1, 1) := by decide +kernel
theorem dX7_style_147 : decode cX7_style 147 = .ok (.iadd, 1) := by decide +kernel
theorem dX7_style_148 : decode cX7_style 148 = .ok (.ireturn, 1) := by decide +kernel
theorem dX7_style_149 : decode cX7_style 149 = .ok (.bipush 12, 2) := by decide +kernel
theorem dX7_style_151 : decode cX7_style 151 = .ok (.istore 8, 2) := by decide +kernel
theorem dX7_style_153 : decode cX7_style 153 = .ok (.iload 7, 2) := by decide +kernel
theorem dX7_style_155 : decode cX7_style 155 = .ok (.iload 8, 2) := by decide +kernel
theorem dX7_style_157 : decode cX7_style 157 = .ok (.iconst 1, 1) := by decide +kernel
theorem dX7_style_158 : decode cX7_style 158 = .ok (.iconst 1, 1) := by decide +kernel
theorem dX7_style_159 : decode cX7_style 159 = .ok (.invokestatic 132, 3) := by decide +kernel
theorem dX7_style_162 : decode cX7_style 162 = .ok (.iload 6, 2) := by decide +kernel
theorem dX7_style_164 : decode cX7_style 164 = .ok (.if_icmp .le 9, 3) := by decide +kernel
theorem dX7_style_167 : decode cX7_style 167 = .ok (.iinc 8 (-1), 3) := by decide +kernel
theorem dX7_style_170 : decode cX7_style 170 = .ok (.goto (-17), 3) := by decide +kernel
theorem dX7_style_173 : decode cX7_style 173 = .ok (.sipush 10000, 3) := by decide +kernel
theorem dX7_style_176 : decode cX7_style 176 = .ok (.iload 7, 2) := by decide +kernel
theorem dX7_style_178 : decode cX7_style 178 = .ok (.imul, 1) := by decide +kernel
theorem dX7_style_179 : decode cX7_style 179 = .ok (.bipush 100, 2) := by decide +kernel
theorem dX7_style_181 : decode cX7_style 181 = .ok (.iload 8, 2) := by decide +kernel
theorem dX7_style_183 : decode cX7_style 183 = .ok (.imul, 1) := by decide +kernel
theorem dX7_style_184 : decode cX7_style 184 = .ok (.iadd, 1) := by decide +kernel
theorem dX7_style_185 : decode cX7_style 185 = .ok (.iload 6, 2) := by decide +kernel
theorem dX7_style_187 : decode cX7_style 187 = .ok (.iadd, 1) := by decide +kernel
theorem dX7_style_188 : decode cX7_style 188 = .ok (.iload 7, 2) := by decide +kernel
theorem dX7_style_190 : decode cX7_style 190 = .ok (.iload 8, 2) := by decide +kernel
theorem dX7_style_192 : decode cX7_style 192 = .ok (.iconst 1, 1) := by decide +kernel
theorem dX7_style_193 : decode cX7_style 193 = .ok (.iconst 1, 1) := by decide +kernel
theorem dX7_style_194 : decode cX7_style 194 = .ok (.invokestatic 132, 3) := by decide +kernel
theorem dX7_style_197 : decode cX7_style 197 = .ok (.isub, 1) := by decide +kernel
theorem dX7_style_198 : decode cX7_style 198 = .ok (.iconst 1, 1) := by decide +kernel
theorem dX7_style_199 : decode cX7_style 199 = .ok (.iadd, 1) := by decide +kernel
theorem dX7_style_200 : decode cX7_style 200 = .ok (.ireturn, 1) := by decide +kernel
set_option maxRecDepth 20000 in
theorem ggX7_pack_X7_in : GoodIn wsX7_pack wsX7_in := goodIn_r _ [6] (by decide +kernel) (by decide +kernel)
set_option maxRecDepth 20000 in
theorem gX7_pack_X7_in : GoodIn wsX7_pack (va_wsS RX7 55 yX7_in wsX7_in) := goodIn_app (goodIn_of _ (by decide +kernel)) ggX7_pack_X7_in
set_option maxRecDepth 20000 in
theorem ggX7_pack_X7_has : GoodIn wsX7_pack wsX7_has := goodIn_r _ [9] (by decide +kernel) (by decide +kernel)
set_option maxRecDepth 20000 in
theorem gX7_pack_X7_has : GoodIn wsX7_pack (va_wsS RX7 136 yX7_has wsX7_has) := goodIn_app (goodIn_of _ (by decide +kernel)) ggX7_pack_X7_has
theorem dX7_pack_0 : decode cX7_pack 0 = .ok (.iload_n 3, 1) := by decide +kernel
theorem dX7_pack_1 : decode cX7_pack 1 = .ok (.iconst 1, 1) := by decide +kernel
theorem dX7_pack_2 : decode cX7_pack 2 = .ok (.bipush 9, 2) := by decide +kernel
theorem dX7_pack_4 : decode cX7_pack 4 = .ok (.invokestatic 55, 3) := by decide +kernel
theorem dX7_pack_7 : decode cX7_pack 7 = .ok (.ifCond .eq 36, 3) := by decide +kernel
theorem dX7_pack_10 : decode cX7_pack 10 = .ok (.iload_n 1, 1) := by decide +kernel
theorem dX7_pack_11 : decode cX7_pack 11 = .ok (.ifCond .le 32, 3) := by decide +kernel
theorem dX7_pack_14 : decode cX7_pack 14 = .ok (.iload_n 2, 1) := by decide +kernel
theorem dX7_pack_15 : decode cX7_pack 15 = .ok (.ifCond .le 28, 3) := by decide +kernel
theorem dX7_pack_18 : decode cX7_pack 18 = .ok (.iload 4, 2) := by decide +kernel
theorem dX7_pack_20 : decode cX7_pack 20 = .ok (.iconst 0, 1) := by decide +kernel
theorem dX7_pack_21 : decode cX7_pack 21 = .ok (.bipush 99, 2) := by decide +kernel
theorem dX7_pack_23 : decode cX7_pack 23 = .ok (.invokestatic 55, 3) := by decide +kernel
theorem dX7_pack_26 : decode cX7_pack 26 = .ok (.ifCond .eq 17, 3) := by decide +kernel
theorem dX7_pack_29 : decode cX7_pack 29 = .ok (.iload 5, 2) := by decide +kernel
theorem dX7_pack_31 : decode cX7_pack 31 = .ok (.iconst 0, 1) := by decide +kernel
theorem dX7_pack_32 : decode cX7_pack 32 = .ok (.iconst 1, 1) := by decide +kernel
theorem dX7_pack_33 : decode cX7_pack 33 = .ok (.invokestatic 55, 3) := by decide +kernel
theorem dX7_pack_36 : decode cX7_pack 36 = .ok (.ifCond .eq 7, 3) := by decide +kernel
theorem dX7_pack_39 : decode cX7_pack 39 = .ok (.iconst 1, 1) := by decide +kernel
theorem dX7_pack_40 : decode cX7_pack 40 = .ok (.goto 4, 3) := by decide +kernel
theorem dX7_pack_43 : decode cX7_pack 43 = .ok (.iconst 0, 1) := by decide +kernel
theorem dX7_pack_44 : decode cX7_pack 44 = .ok (.istore 6, 2) := by decide +kernel
theorem dX7_pack_46 : decode cX7_pack 46 = .ok (.iload_n 1, 1) := by decide +kernel
theorem dX7_pack_47 : decode cX7_pack 47 = .ok (.istore 7, 2) := by decide +kernel
theorem dX7_pack_49 : decode cX7_pack 49 = .ok (.iload_n 2, 1) := by decide +kernel
theorem dX7_pack_50 : decode cX7_pack 50 = .ok (.istore 8, 2) := by decide +kernel
theorem dX7_pack_52 : decode cX7_pack 52 = .ok (.iload_n 3, 1) := by decide +kernel
theorem dX7_pack_53 : decode cX7_pack 53 = .ok (.iconst 1, 1) := by decide +kernel
theorem dX7_pack_54 : decode cX7_pack 54 = .ok (.isub, 1) := by decide +kernel
theorem dX7_pack_55 : decode cX7_pack 55 = .ok (.istore 9, 2) := by decide +kernel
theorem dX7_pack_57 : decode cX7_pack 57 = .ok (.iload 9, 2) := by decide +kernel
theorem dX7_pack_59 : decode cX7_pack 59 = .ok (.ifCond .lt 79, 3) := by decide +kernel
theorem dX7_pack_62 : decode cX7_pack 62 = .ok (.iload 6, 2) := by decide +kernel
theorem dX7_pack_64 : decode cX7_pack 64 = .ok (.ifCond .eq 74, 3) := by decide +kernel
theorem dX7_pack_67 : decode cX7_pack 67 = .ok (.aload_n 0, 1) := by decide +kernel
theorem dX7_pack_68 : decode cX7_pack 68 = .ok (.getfield 32, 3) := by decide +kernel
theorem dX7_pack_71 : decode cX7_pack 71 = .ok (.iload 9, 2) := by decide +kernel
theorem dX7_pack_73 : decode cX7_pack 73 = .ok (.iload 7, 2) := by decide +kernel
theorem dX7_pack_75 : decode cX7_pack 75 = .ok (.bipush 10, 2) := by decide +kernel
theorem dX7_pack_77 : decode cX7_pack 77 = .ok (.irem, 1) := by decide +kernel
theorem dX7_pack_78 : decode cX7_pack 78 = .ok (.iastore, 1) := by decide +kernel
theorem dX7_pack_79 : decode cX7_pack 79 = .ok (.aload_n 0, 1) := by decide +kernel
theorem dX7_pack_80 : decode cX7_pack 80 = .ok (.getfield 35, 3) := by decide +kernel
theorem dX7_pack_83 : decode cX7_pack 83 = .ok (.iload 9, 2) := by decide +kernel
theorem dX7_pack_85 : decode cX7_pack 85 = .ok (.iload 8, 2) := by decide +kernel
theorem dX7_pack_87 : decode cX7_pack 87 = .ok (.bipush 10, 2) := by decide +kernel
theorem dX7_pack_89 : decode cX7_pack 89 = .ok (.irem, 1) := by decide +kernel
theorem dX7_pack_90 : decode cX7_pack 90 = .ok (.iastore, 1) := by decide +kernel
theorem dX7_pack_91 : decode cX7_pack 91 = .ok (.aload_n 0, 1) := by decide +kernel
theorem dX7_pack_92 : decode cX7_pack 92 = .ok (.getfield 32, 3) := by decide +kernel
theorem dX7_pack_95 : decode cX7_pack 95 = .ok (.iload 9, 2) := by decide +kernel
theorem dX7_pack_97 : decode cX7_pack 97 = .ok (.iaload, 1) := by decide +kernel
theorem dX7_pack_98 : decode cX7_pack 98 = .ok (.ifCond .le 17, 3) := by decide +kernel
theorem dX7_pack_101 : decode cX7_pack 101 = .ok (.aload_n 0, 1) := by decide +kernel
theorem dX7_pack_102 : decode cX7_pack 102 = .ok (.getfield 35, 3) := by decide +kernel
theorem dX7_pack_105 : decode cX7_pack 105 = .ok (.iload 9, 2) := by decide +kernel
theorem dX7_pack_107 : decode cX7_pack 107 = .ok (.iaload, 1) := by decide +kernel
theorem dX7_pack_108 : decode cX7_pack 108 = .ok (.ifCond .le 7, 3) := by decide +kernel
theorem dX7_pack_111 : decode cX7_pack 111 = .ok (.iconst 1, 1) := by decide +kernel
theorem dX7_pack_112 : decode cX7_pack 112 = .ok (.goto 4, 3) := by decide +kernel
theorem dX7_pack_115 : decode cX7_pack 115 = .ok (.iconst 0, 1) := by decide +kernel
theorem dX7_pack_116 : decode cX7_pack 116 = .ok (.istore 6, 2) := by decide +kernel
theorem dX7_pack_118 : decode cX7_pack 118 = .ok (.iload 7, 2) := by decide +kernel
theorem dX7_pack_120 : decode cX7_pack 120 = .ok (.bipush 10, 2) := by decide +kernel
theorem dX7_pack_122 : decode cX7_pack 122 = .ok (.idiv, 1) := by decide +kernel
theorem dX7_pack_123 : decode cX7_pack 123 = .ok (.istore 7, 2) := by decide +kernel
theorem dX7_pack_125 : decode cX7_pack 125 = .ok (.iload 8, 2) := by decide +kernel
theorem dX7_pack_127 : decode cX7_pack 127 = .ok (.bipush 10, 2) := by decide +kernel
theorem dX7_pack_129 : decode cX7_pack 129 = .ok (.idiv, 1) := by decide +kernel
theorem dX7_pack_130 : decode cX7_pack 130 = .ok (.istore 8, 2) := by decide +kernel
theorem dX7_pack_132 : decode cX7_pack 132 = .ok (.iinc 9 (-1), 3) := by decide +kernel
theorem dX7_pack_135 : decode cX7_pack 135 = .ok (.goto (-78), 3) := by decide +kernel
theorem dX7_pack_138 : decode cX7_pack 138 = .ok (.iload 6, 2) := by decide +kernel
theorem dX7_pack_140 : decode cX7_pack 140 = .ok (.ifCond .eq 13, 3) := by decide +kernel
theorem dX7_pack_143 : decode cX7_pack 143 = .ok (.iload 7, 2) := by decide +kernel
theorem dX7_pack_145 : decode cX7_pack 145 = .ok (.ifCond .ne 8, 3) := by decide +kernel
theorem dX7_pack_148 : decode cX7_pack 148 = .ok (.iload 8, 2) := by decide +kernel
theorem dX7_pack_150 : decode cX7_pack 150 = .ok (.ifCond .eq 6, 3) := by decide +kernel
theorem dX7_pack_153 : decode cX7_pack 153 = .ok (.bipush (-2), 2) := by decide +kernel
theorem dX7_pack_155 : decode cX7_pack 155 = .ok (.ireturn, 1) := by decide +kernel
theorem dX7_pack_156 : decode cX7_pack 156 = .ok (.iconst 0, 1) := by decide +kernel
theorem dX7_pack_157 : decode cX7_pack 157 = .ok (.istore 9, 2) := by decide +kernel
theorem dX7_pack_159 : decode cX7_pack 159 = .ok (.iconst 0, 1) := by decide +kernel
theorem dX7_pack_160 : decode cX7_pack 160 = .ok (.istore 10, 2) := by decide +kernel
theorem dX7_pack_162 : decode cX7_pack 162 = .ok (.iconst 1, 1) := by decide +kernel
theorem dX7_pack_163 : decode cX7_pack 163 = .ok (.istore 11, 2) := by decide +kernel
theorem dX7_pack_165 : decode cX7_pack 165 = .ok (.iload 11, 2) := by decide +kernel
theorem dX7_pack_167 : decode cX7_pack 167 = .ok (.iconst 1, 1) := by decide +kernel
theorem dX7_pack_168 : decode cX7_pack 168 = .ok (.iload_n 3, 1) := by decide +kernel
theorem dX7_pack_169 : decode cX7_pack 169 = .ok (.ishl, 1) := by decide +kernel
theorem dX7_pack_170 : decode cX7_pack 170 = .ok (.if_icmp .ge 131, 3) := by decide +kernel
theorem dX7_pack_173 : decode cX7_pack 173 = .ok (.iconst 0, 1) := by decide +kernel
theorem dX7_pack_174 : decode cX7_pack 174 = .ok (.istore 12, 2) := by decide +kernel
theorem dX7_pack_176 : decode cX7_pack 176 = .ok (.iconst 0, 1) := by decide +kernel
theorem dX7_pack_177 : decode cX7_pack 177 = .ok (.istore 13, 2) := by decide +kernel
theorem dX7_pack_179 : decode cX7_pack 179 = .ok (.iconst 0, 1) := by decide +kernel
theorem dX7_pack_180 : decode cX7_pack 180 = .ok (.istore 14, 2) := by decide +kernel
theorem dX7_pack_182 : decode cX7_pack 182 = .ok (.iload 14, 2) := by decide +kernel
theorem dX7_pack_184 : decode cX7_pack 184 = .ok (.iload_n 3, 1) := by decide +kernel
theorem dX7_pack_185 : decode cX7_pack 185 = .ok (.if_icmp .ge 61, 3) := by decide +kernel
theorem dX7_pack_188 : decode cX7_pack 188 = .ok (.iload 12, 2) := by decide +kernel
theorem dX7_pack_190 : decode cX7_pack 190 = .ok (.iload 11, 2) := by decide +kernel
theorem dX7_pack_192 : decode cX7_pack 192 = .ok (.iload 14, 2) := by decide +kernel
theorem dX7_pack_194 : decode cX7_pack 194 = .ok (.invokestatic 136, 3) := by decide +kernel
theorem dX7_pack_197 : decode cX7_pack 197 = .ok (.ifCond .eq 13, 3) := by decide +kernel
theorem dX7_pack_200 : decode cX7_pack 200 = .ok (.aload_n 0, 1) := by decide +kernel
theorem dX7_pack_201 : decode cX7_pack 201 = .ok (.getfield 32, 3) := by decide +kernel
theorem dX7_pack_204 : decode cX7_pack 204 = .ok (.iload 14, 2) := by decide +kernel
theorem dX7_pack_206 : decode cX7_pack 206 = .ok (.iaload, 1) := by decide +kernel
theorem dX7_pack_207 : decode cX7_pack 207 = .ok (.goto 4, 3) := by decide +kernel
theorem dX7_pack_210 : decode cX7_pack 210 = .ok (.iconst 0, 1) := by decide +kernel
theorem dX7_pack_211 : decode cX7_pack 211 = .ok (.iadd, 1) := by decide +kernel
theorem dX7_pack_212 : decode cX7_pack 212 = .ok (.istore 12, 2) := by decide +kernel
theorem dX7_pack_214 : decode cX7_pack 214 = .ok (.iload 13, 2) := by decide +kernel
theorem dX7_pack_216 : decode cX7_pack 216 = .ok (.iload 11, 2) := by decide +kernel
theorem dX7_pack_218 : decode cX7_pack 218 = .ok (.iload 14, 2) := by decide +kernel
theorem dX7_pack_220 : decode cX7_pack 220 = .ok (.invokestatic 136, 3) := by decide +kernel
theorem dX7_pack_223 : decode cX7_pack 223 = .ok (.ifCond .eq 13, 3) := by decide +kernel
theorem dX7_pack_226 : decode cX7_pack 226 = .ok (.aload_n 0, 1) := by decide +kernel
theorem dX7_pack_227 : decode cX7_pack 227 = .ok (.getfield 35, 3) := by decide +kernel
theorem dX7_pack_230 : decode cX7_pack 230 = .ok (.iload 14, 2) := by decide +kernel
theorem dX7_pack_232 : decode cX7_pack 232 = .ok (.iaload, 1) := by decide +kernel
theorem dX7_pack_233 : decode cX7_pack 233 = .ok (.goto 4, 3) := by decide +kernel
theorem dX7_pack_236 : decode cX7_pack 236 = .ok (.iconst 0, 1) := by decide +kernel
theorem dX7_pack_237 : decode cX7_pack 237 = .ok (.iadd, 1) := by decide +kernel
theorem dX7_pack_238 : decode cX7_pack 238 = .ok (.istore 13, 2) := by decide +kernel
theorem dX7_pack_240 : decode cX7_pack 240 = .ok (.iinc 14 1, 3) := by decide +kernel
theorem dX7_pack_243 : decode cX7_pack 243 = .ok (.goto (-61), 3) := by decide +kernel
theorem dX7_pack_246 : decode cX7_pack 246 = .ok (.iload 12, 2) := by decide +kernel
theorem dX7_pack_248 : decode cX7_pack 248 = .ok (.iload 4, 2) := by decide +kernel
theorem dX7_pack_250 : decode cX7_pack 250 = .ok (.if_icmp .gt 14, 3) := by decide +kernel
theorem dX7_pack_253 : decode cX7_pack 253 = .ok (.iload 13, 2) := by decide +kernel
theorem dX7_pack_255 : decode cX7_pack 255 = .ok (.iload 9, 2) := by decide +kernel
theorem dX7_pack_257 : decode cX7_pack 257 = .ok (.if_icmp .le 7, 3) := by decide +kernel
theorem dX7_pack_260 : decode cX7_pack 260 = .ok (.iconst 1, 1) := by decide +kernel
theorem dX7_pack_261 : decode cX7_pack 261 = .ok (.goto 4, 3) := by decide +kernel
theorem dX7_pack_264 : decode cX7_pack 264 = .ok (.iconst 0, 1) := by decide +kernel
theorem dX7_pack_265 : decode cX7_pack 265 = .ok (.istore 14, 2) := by decide +kernel
theorem dX7_pack_267 : decode cX7_pack 267 = .ok (.iload 14, 2) := by decide +kernel
theorem dX7_pack_269 : decode cX7_pack 269 = .ok (.ifCond .eq 8, 3) := by decide +kernel
theorem dX7_pack_272 : decode cX7_pack 272 = .ok (.iload 11, 2) := by decide +kernel
theorem dX7_pack_274 : decode cX7_pack 274 = .ok (.goto 5, 3) := by decide +kernel
theorem dX7_pack_277 : decode cX7_pack 277 = .ok (.iload 10, 2) := by decide +kernel
theorem dX7_pack_279 : decode cX7_pack 279 = .ok (.istore 10, 2) := by decide +kernel
theorem dX7_pack_281 : decode cX7_pack 281 = .ok (.iload 14, 2) := by decide +kernel
theorem dX7_pack_283 : decode cX7_pack 283 = .ok (.ifCond .eq 8, 3) := by decide +kernel
theorem dX7_pack_286 : decode cX7_pack 286 = .ok (.iload 13, 2) := by decide +kernel
theorem dX7_pack_288 : decode cX7_pack 288 = .ok (.goto 5, 3) := by decide +kernel
theorem dX7_pack_291 : decode cX7_pack 291 = .ok (.iload 9, 2) := by decide +kernel
theorem dX7_pack_293 : decode cX7_pack 293 = .ok (.istore 9, 2) := by decide +kernel
theorem dX7_pack_295 : decode cX7_pack 295 = .ok (.iinc 11 1, 3) := by decide +kernel
theorem dX7_pack_298 : decode cX7_pack 298 = .ok (.goto (-133), 3) := by decide +kernel
theorem dX7_pack_301 : decode cX7_pack 301 = .ok (.iload 5, 2) := by decide +kernel
theorem dX7_pack_303 : decode cX7_pack 303 = .ok (.ifCond .ne 8, 3) := by decide +kernel
theorem dX7_pack_306 : decode cX7_pack 306 = .ok (.iload 9, 2) := by decide +kernel
theorem dX7_pack_308 : decode cX7_pack 308 = .ok (.goto 5, 3) := by decide +kernel
theorem dX7_pack_311 : decode cX7_pack 311 = .ok (.iload 10, 2) := by decide +kernel
theorem dX7_pack_313 : decode cX7_pack 313 = .ok (.ireturn, 1) := by decide +kernel
set_option maxRecDepth 20000 in
theorem ggX7_seen_X7_in : GoodIn wsX7_seen wsX7_in := goodIn_r _ [6] (by decide +kernel) (by decide +kernel)
set_option maxRecDepth 20000 in
theorem gX7_seen_X7_in : GoodIn wsX7_seen (va_wsS RX7 55 yX7_in wsX7_in) := goodIn_app (goodIn_of _ (by decide +kernel)) ggX7_seen_X7_in
theorem dX7_seen_0 : decode cX7_seen 0 = .ok (.iload_n 1, 1) := by decide +kernel
theorem dX7_seen_1 : decode cX7_seen 1 = .ok (.iconst 0, 1) := by decide +kernel
theorem dX7_seen_2 : decode cX7_seen 2 = .ok (.bipush 99, 2) := by decide +kernel
theorem dX7_seen_4 : decode cX7_seen 4 = .ok (.invokestatic 55, 3) := by decide +kernel
theorem dX7_seen_7 : decode cX7_seen 7 = .ok (.ifCond .ne 6, 3) := by decide +kernel
theorem dX7_seen_10 : decode cX7_seen 10 = .ok (.bipush (-2), 2) := by decide +kernel
theorem dX7_seen_12 : decode cX7_seen 12 = .ok (.ireturn, 1) := by decide +kernel
theorem dX7_seen_13 : decode cX7_seen 13 = .ok (.aload_n 0, 1) := by decide +kernel
theorem dX7_seen_14 : decode cX7_seen 14 = .ok (.getfield 140, 3) := by decide +kernel
theorem dX7_seen_17 : decode cX7_seen 17 = .ok (.bipush 8, 2) := by decide +kernel
theorem dX7_seen_19 : decode cX7_seen 19 = .ok (.if_icmp .ne 6, 3) := by decide +kernel
theorem dX7_seen_22 : decode cX7_seen 22 = .ok (.bipush (-4), 2) := by decide +kernel
theorem dX7_seen_24 : decode cX7_seen 24 = .ok (.ireturn, 1) := by decide +kernel
theorem dX7_seen_25 : decode cX7_seen 25 = .ok (.aload_n 0, 1) := by decide +kernel
theorem dX7_seen_26 : decode cX7_seen 26 = .ok (.getfield 23, 3) := by decide +kernel
theorem dX7_seen_29 : decode cX7_seen 29 = .ok (.iconst 2, 1) := by decide +kernel
theorem dX7_seen_30 : decode cX7_seen 30 = .ok (.aload_n 0, 1) := by decide +kernel
theorem dX7_seen_31 : decode cX7_seen 31 = .ok (.getfield 140, 3) := by decide +kernel
theorem dX7_seen_34 : decode cX7_seen 34 = .ok (.imul, 1) := by decide +kernel
theorem dX7_seen_35 : decode cX7_seen 35 = .ok (.iload_n 1, 1) := by decide +kernel
theorem dX7_seen_36 : decode cX7_seen 36 = .ok (.iastore, 1) := by decide +kernel
theorem dX7_seen_37 : decode cX7_seen 37 = .ok (.aload_n 0, 1) := by decide +kernel
theorem dX7_seen_38 : decode cX7_seen 38 = .ok (.getfield 23, 3) := by decide +kernel
theorem dX7_seen_41 : decode cX7_seen 41 = .ok (.iconst 2, 1) := by decide +kernel
theorem dX7_seen_42 : decode cX7_seen 42 = .ok (.aload_n 0, 1) := by decide +kernel
theorem dX7_seen_43 : decode cX7_seen 43 = .ok (.getfield 140, 3) := by decide +kernel
theorem dX7_seen_46 : decode cX7_seen 46 = .ok (.imul, 1) := by decide +kernel
theorem dX7_seen_47 : decode cX7_seen 47 = .ok (.iconst 1, 1) := by decide +kernel
theorem dX7_seen_48 : decode cX7_seen 48 = .ok (.iadd, 1) := by decide +kernel
theorem dX7_seen_49 : decode cX7_seen 49 = .ok (.iload_n 2, 1) := by decide +kernel
theorem dX7_seen_50 : decode cX7_seen 50 = .ok (.ifCond .eq 7, 3) := by decide +kernel
theorem dX7_seen_53 : decode cX7_seen 53 = .ok (.iconst 1, 1) := by decide +kernel
theorem dX7_seen_54 : decode cX7_seen 54 = .ok (.goto 4, 3) := by decide +kernel
theorem dX7_seen_57 : decode cX7_seen 57 = .ok (.iconst 0, 1) := by decide +kernel
theorem dX7_seen_58 : decode cX7_seen 58 = .ok (.iastore, 1) := by decide +kernel
theorem dX7_seen_59 : decode cX7_seen 59 = .ok (.aload_n 0, 1) := by decide +kernel
theorem dX7_seen_60 : decode cX7_seen 60 = .ok (.dup, 1) := by decide +kernel
theorem dX7_seen_61 : decode cX7_seen 61 = .ok (.getfield 140, 3) := by decide +kernel
theorem dX7_seen_64 : decode cX7_seen 64 = .ok (.iconst 1, 1) := by decide +kernel
theorem dX7_seen_65 : decode cX7_seen 65 = .ok (.iadd, 1) := by decide +kernel
theorem dX7_seen_66 : decode cX7_seen 66 = .ok (.putfield 140, 3) := by decide +kernel
theorem dX7_seen_69 : decode cX7_seen 69 = .ok (.aload_n 0, 1) := by decide +kernel
theorem dX7_seen_70 : decode cX7_seen 70 = .ok (.getfield 140, 3) := by decide +kernel
theorem dX7_seen_73 : decode cX7_seen 73 = .ok (.ireturn, 1) := by decide +kernel
theorem dX7_forget_0 : decode cX7_forget 0 = .ok (.aload_n 0, 1) := by decide +kernel
theorem dX7_forget_1 : decode cX7_forget 1 = .ok (.getfield 140, 3) := by decide +kernel
theorem dX7_forget_4 : decode cX7_forget 4 = .ok (.istore_n 1, 1) := by decide +kernel
theorem dX7_forget_5 : decode cX7_forget 5 = .ok (.aload_n 0, 1) := by decide +kernel
theorem dX7_forget_6 : decode cX7_forget 6 = .ok (.iconst 0, 1) := by decide +kernel
theorem dX7_forget_7 : decode cX7_forget 7 = .ok (.putfield 140, 3) := by decide +kernel
theorem dX7_forget_10 : decode cX7_forget 10 = .ok (.iload_n 1, 1) := by decide +kernel
theorem dX7_forget_11 : decode cX7_forget 11 = .ok (.ireturn, 1) := by decide +kernel
theorem dX7_rings_0 : decode cX7_rings 0 = .ok (.iload_n 1, 1) := by decide +kernel
theorem dX7_rings_1 : decode cX7_rings 1 = .ok (.iload_n 0, 1) := by decide +kernel
theorem dX7_rings_2 : decode cX7_rings 2 = .ok (.bipush 100, 2) := by decide +kernel
theorem dX7_rings_4 : decode cX7_rings 4 = .ok (.idiv, 1) := by decide +kernel
theorem dX7_rings_5 : decode cX7_rings 5 = .ok (.irem, 1) := by decide +kernel
theorem dX7_rings_6 : decode cX7_rings 6 = .ok (.iload_n 0, 1) := by decide +kernel
theorem dX7_rings_7 : decode cX7_rings 7 = .ok (.bipush 100, 2) := by decide +kernel
theorem dX7_rings_9 : decode cX7_rings 9 = .ok (.irem, 1) := by decide +kernel
theorem dX7_rings_10 : decode cX7_rings 10 = .ok (.if_icmp .ne 7, 3) := by decide +kernel
theorem dX7_rings_13 : decode cX7_rings 13 = .ok (.iconst 1, 1) := by decide +kernel
theorem dX7_rings_14 : decode cX7_rings 14 = .ok (.goto 4, 3) := by decide +kernel
theorem dX7_rings_17 : decode cX7_rings 17 = .ok (.iconst 0, 1) := by decide +kernel
theorem dX7_rings_18 : decode cX7_rings 18 = .ok (.ireturn, 1) := by decide +kernel
set_option maxRecDepth 20000 in
theorem ggX7_isFit_X7_rings : GoodIn wsX7_isFit wsX7_rings := goodIn_r _ [6] (by decide +kernel) (by decide +kernel)
set_option maxRecDepth 20000 in
theorem gX7_isFit_X7_rings : GoodIn wsX7_isFit (va_wsS RX7 143 yX7_rings wsX7_rings) := goodIn_app (goodIn_of _ (by decide +kernel)) ggX7_isFit_X7_rings
theorem dX7_isFit_0 : decode cX7_isFit 0 = .ok (.iload_n 1, 1) := by decide +kernel
theorem dX7_isFit_1 : decode cX7_isFit 1 = .ok (.bipush 100, 2) := by decide +kernel
theorem dX7_isFit_3 : decode cX7_isFit 3 = .ok (.irem, 1) := by decide +kernel
theorem dX7_isFit_4 : decode cX7_isFit 4 = .ok (.iload_n 1, 1) := by decide +kernel
theorem dX7_isFit_5 : decode cX7_isFit 5 = .ok (.bipush 100, 2) := by decide +kernel
theorem dX7_isFit_7 : decode cX7_isFit 7 = .ok (.idiv, 1) := by decide +kernel
theorem dX7_isFit_8 : decode cX7_isFit 8 = .ok (.if_icmp .ge 7, 3) := by decide +kernel
theorem dX7_isFit_11 : decode cX7_isFit 11 = .ok (.iconst 1, 1) := by decide +kernel
theorem dX7_isFit_12 : decode cX7_isFit 12 = .ok (.goto 4, 3) := by decide +kernel
theorem dX7_isFit_15 : decode cX7_isFit 15 = .ok (.iconst 0, 1) := by decide +kernel
theorem dX7_isFit_16 : decode cX7_isFit 16 = .ok (.istore_n 2, 1) := by decide +kernel
theorem dX7_isFit_17 : decode cX7_isFit 17 = .ok (.iconst 0, 1) := by decide +kernel
theorem dX7_isFit_18 : decode cX7_isFit 18 = .ok (.istore_n 3, 1) := by decide +kernel
theorem dX7_isFit_19 : decode cX7_isFit 19 = .ok (.iload_n 3, 1) := by decide +kernel
theorem dX7_isFit_20 : decode cX7_isFit 20 = .ok (.aload_n 0, 1) := by decide +kernel
theorem dX7_isFit_21 : decode cX7_isFit 21 = .ok (.getfield 140, 3) := by decide +kernel
theorem dX7_isFit_24 : decode cX7_isFit 24 = .ok (.if_icmp .ge 53, 3) := by decide +kernel
theorem dX7_isFit_27 : decode cX7_isFit 27 = .ok (.iload_n 2, 1) := by decide +kernel
theorem dX7_isFit_28 : decode cX7_isFit 28 = .ok (.ifCond .eq 49, 3) := by decide +kernel
theorem dX7_isFit_31 : decode cX7_isFit 31 = .ok (.iload_n 1, 1) := by decide +kernel
theorem dX7_isFit_32 : decode cX7_isFit 32 = .ok (.aload_n 0, 1) := by decide +kernel
theorem dX7_isFit_33 : decode cX7_isFit 33 = .ok (.getfield 23, 3) := by decide +kernel
theorem dX7_isFit_36 : decode cX7_isFit 36 = .ok (.iconst 2, 1) := by decide +kernel
theorem dX7_isFit_37 : decode cX7_isFit 37 = .ok (.iload_n 3, 1) := by decide +kernel
theorem dX7_isFit_38 : decode cX7_isFit 38 = .ok (.imul, 1) := by decide +kernel
theorem dX7_isFit_39 : decode cX7_isFit 39 = .ok (.iaload, 1) := by decide +kernel
theorem dX7_isFit_40 : decode cX7_isFit 40 = .ok (.invokestatic 143, 3) := by decide +kernel
theorem dX7_isFit_43 : decode cX7_isFit 43 = .ok (.aload_n 0, 1) := by decide +kernel
theorem dX7_isFit_44 : decode cX7_isFit 44 = .ok (.getfield 23, 3) := by decide +kernel
theorem dX7_isFit_47 : decode cX7_isFit 47 = .ok (.iconst 2, 1) := by decide +kernel
theorem dX7_isFit_48 : decode cX7_isFit 48 = .ok (.iload_n 3, 1) := by decide +kernel
theorem dX7_isFit_49 : decode cX7_isFit 49 = .ok (.imul, 1) := by decide +kernel
theorem dX7_isFit_50 : decode cX7_isFit 50 = .ok (.iconst 1, 1) := by decide +kernel
theorem dX7_isFit_51 : decode cX7_isFit 51 = .ok (.iadd, 1) := by decide +kernel
theorem dX7_isFit_52 : decode cX7_isFit 52 = .ok (.iaload, 1) := by decide +kernel
theorem dX7_isFit_53 : decode cX7_isFit 53 = .ok (.iconst 1, 1) := by decide +kernel
theorem dX7_isFit_54 : decode cX7_isFit 54 = .ok (.if_icmp .ne 7, 3) := by decide +kernel
theorem dX7_isFit_57 : decode cX7_isFit 57 = .ok (.iconst 1, 1) := by decide +kernel
theorem dX7_isFit_58 : decode cX7_isFit 58 = .ok (.goto 4, 3) := by decide +kernel
theorem dX7_isFit_61 : decode cX7_isFit 61 = .ok (.iconst 0, 1) := by decide +kernel
theorem dX7_isFit_62 : decode cX7_isFit 62 = .ok (.if_icmp .ne 7, 3) := by decide +kernel
theorem dX7_isFit_65 : decode cX7_isFit 65 = .ok (.iconst 1, 1) := by decide +kernel
theorem dX7_isFit_66 : decode cX7_isFit 66 = .ok (.goto 4, 3) := by decide +kernel
theorem dX7_isFit_69 : decode cX7_isFit 69 = .ok (.iconst 0, 1) := by decide +kernel
theorem dX7_isFit_70 : decode cX7_isFit 70 = .ok (.istore_n 2, 1) := by decide +kernel
theorem dX7_isFit_71 : decode cX7_isFit 71 = .ok (.iinc 3 1, 3) := by decide +kernel
theorem dX7_isFit_74 : decode cX7_isFit 74 = .ok (.goto (-55), 3) := by decide +kernel
theorem dX7_isFit_77 : decode cX7_isFit 77 = .ok (.iload_n 2, 1) := by decide +kernel
theorem dX7_isFit_78 : decode cX7_isFit 78 = .ok (.ireturn, 1) := by decide +kernel
set_option maxRecDepth 20000 in
theorem ggX7_rounds_X7_isFit : GoodIn wsX7_rounds wsX7_isFit := goodIn_r _ [5, 6, 7, 8, 9, 4, 10, 11, 12, 13, 14, 15, 16, 17, 18, 19, 20, 21, 22, 23, 24, 25, 26, 27, 28, 29, 30] (by decide +kernel) (by decide +kernel)
set_option maxRecDepth 20000 in
theorem gX7_rounds_X7_isFit : GoodIn wsX7_rounds (wsV RX7 146 RX7 yX7_isFit wsX7_isFit) := goodIn_app (goodIn_of _ (by decide +kernel)) ggX7_rounds_X7_isFit
theorem dX7_rounds_0 : decode cX7_rounds 0 = .ok (.iconst 0, 1) := by decide +kernel
theorem dX7_rounds_1 : decode cX7_rounds 1 = .ok (.istore_n 2, 1) := by decide +kernel
theorem dX7_rounds_2 : decode cX7_rounds 2 = .ok (.sipush 200, 3) := by decide +kernel
theorem dX7_rounds_5 : decode cX7_rounds 5 = .ok (.istore_n 3, 1) := by decide +kernel
theorem dX7_rounds_6 : decode cX7_rounds 6 = .ok (.iload_n 3, 1) := by decide +kernel
theorem dX7_rounds_7 : decode cX7_rounds 7 = .ok (.sipush 2100, 3) := by decide +kernel
theorem dX7_rounds_10 : decode cX7_rounds 10 = .ok (.if_icmp .ge 27, 3) := by decide +kernel
theorem dX7_rounds_13 : decode cX7_rounds 13 = .ok (.aload_n 0, 1) := by decide +kernel
theorem dX7_rounds_14 : decode cX7_rounds 14 = .ok (.iload_n 3, 1) := by decide +kernel
theorem dX7_rounds_15 : decode cX7_rounds 15 = .ok (.invokevirtual 146, 3) := by decide +kernel
theorem dX7_rounds_18 : decode cX7_rounds 18 = .ok (.ifCond .eq 13, 3) := by decide +kernel
theorem dX7_rounds_21 : decode cX7_rounds 21 = .ok (.iload_n 2, 1) := by decide +kernel
theorem dX7_rounds_22 : decode cX7_rounds 22 = .ok (.iload_n 1, 1) := by decide +kernel
theorem dX7_rounds_23 : decode cX7_rounds 23 = .ok (.if_icmp .ne 5, 3) := by decide +kernel
theorem dX7_rounds_26 : decode cX7_rounds 26 = .ok (.iload_n 3, 1) := by decide +kernel
theorem dX7_rounds_27 : decode cX7_rounds 27 = .ok (.ireturn, 1) := by decide +kernel
theorem dX7_rounds_28 : decode cX7_rounds 28 = .ok (.iinc 2 1, 3) := by decide +kernel
theorem dX7_rounds_31 : decode cX7_rounds 31 = .ok (.iinc 3 1, 3) := by decide +kernel
theorem dX7_rounds_34 : decode cX7_rounds 34 = .ok (.goto (-28), 3) := by decide +kernel
theorem dX7_rounds_37 : decode cX7_rounds 37 = .ok (.iload_n 1, 1) := by decide +kernel
theorem dX7_rounds_38 : decode cX7_rounds 38 = .ok (.iconst (-1), 1) := by decide +kernel
theorem dX7_rounds_39 : decode cX7_rounds 39 = .ok (.if_icmp .ne 7, 3) := by decide +kernel
theorem dX7_rounds_42 : decode cX7_rounds 42 = .ok (.iload_n 2, 1) := by decide +kernel
theorem dX7_rounds_43 : decode cX7_rounds 43 = .ok (.goto 5, 3) := by decide +kernel
theorem dX7_rounds_46 : decode cX7_rounds 46 = .ok (.bipush (-6), 2) := by decide +kernel
theorem dX7_rounds_48 : decode cX7_rounds 48 = .ok (.ireturn, 1) := by decide +kernel
set_option maxRecDepth 20000 in
theorem ggX7_ask_X7_in : GoodIn wsX7_ask wsX7_in := goodIn_r _ [6] (by decide +kernel) (by decide +kernel)
set_option maxRecDepth 20000 in
theorem gX7_ask_X7_in : GoodIn wsX7_ask (va_wsS RX7 55 yX7_in wsX7_in) := goodIn_app (goodIn_of _ (by decide +kernel)) ggX7_ask_X7_in
set_option maxRecDepth 20000 in
theorem ggX7_ask_X7_isFit : GoodIn wsX7_ask wsX7_isFit := goodIn_r _ [10, 11, 12, 13, 14, 5, 15, 16, 17, 18, 19, 20, 21, 22, 23, 24, 25, 26, 27, 28, 29, 30, 31, 32, 33, 34, 35] (by decide +kernel) (by decide +kernel)
set_option maxRecDepth 20000 in
theorem gX7_ask_X7_isFit : GoodIn wsX7_ask (wsV RX7 146 RX7 yX7_isFit wsX7_isFit) := goodIn_app (goodIn_of _ (by decide +kernel)) ggX7_ask_X7_isFit
set_option maxRecDepth 20000 in
theorem ggX7_ask_X7_rings : GoodIn wsX7_ask wsX7_rings := goodIn_r _ [15] (by decide +kernel) (by decide +kernel)
set_option maxRecDepth 20000 in
theorem gX7_ask_X7_rings : GoodIn wsX7_ask (va_wsS RX7 143 yX7_rings wsX7_rings) := goodIn_app (goodIn_of _ (by decide +kernel)) ggX7_ask_X7_rings
theorem dX7_ask_0 : decode cX7_ask 0 = .ok (.iload_n 1, 1) := by decide +kernel
theorem dX7_ask_1 : decode cX7_ask 1 = .ok (.iconst 0, 1) := by decide +kernel
theorem dX7_ask_2 : decode cX7_ask 2 = .ok (.iconst 1, 1) := by decide +kernel
theorem dX7_ask_3 : decode cX7_ask 3 = .ok (.invokestatic 55, 3) := by decide +kernel
theorem dX7_ask_6 : decode cX7_ask 6 = .ok (.ifCond .ne 6, 3) := by decide +kernel
theorem dX7_ask_9 : decode cX7_ask 9 = .ok (.bipush (-2), 2) := by decide +kernel
theorem dX7_ask_11 : decode cX7_ask 11 = .ok (.ireturn, 1) := by decide +kernel
theorem dX7_ask_12 : decode cX7_ask 12 = .ok (.iconst 0, 1) := by decide +kernel
theorem dX7_ask_13 : decode cX7_ask 13 = .ok (.istore_n 2, 1) := by decide +kernel
theorem dX7_ask_14 : decode cX7_ask 14 = .ok (.sipush 200, 3) := by decide +kernel
theorem dX7_ask_17 : decode cX7_ask 17 = .ok (.istore_n 3, 1) := by decide +kernel
theorem dX7_ask_18 : decode cX7_ask 18 = .ok (.iload_n 3, 1) := by decide +kernel
theorem dX7_ask_19 : decode cX7_ask 19 = .ok (.sipush 2100, 3) := by decide +kernel
theorem dX7_ask_22 : decode cX7_ask 22 = .ok (.if_icmp .ge 27, 3) := by decide +kernel
theorem dX7_ask_25 : decode cX7_ask 25 = .ok (.aload_n 0, 1) := by decide +kernel
theorem dX7_ask_26 : decode cX7_ask 26 = .ok (.iload_n 3, 1) := by decide +kernel
theorem dX7_ask_27 : decode cX7_ask 27 = .ok (.invokevirtual 146, 3) := by decide +kernel
theorem dX7_ask_30 : decode cX7_ask 30 = .ok (.ifCond .eq 13, 3) := by decide +kernel
theorem dX7_ask_33 : decode cX7_ask 33 = .ok (.aload_n 0, 1) := by decide +kernel
theorem dX7_ask_34 : decode cX7_ask 34 = .ok (.getfield 38, 3) := by decide +kernel
theorem dX7_ask_37 : decode cX7_ask 37 = .ok (.iload_n 2, 1) := by decide +kernel
theorem dX7_ask_38 : decode cX7_ask 38 = .ok (.iload_n 3, 1) := by decide +kernel
theorem dX7_ask_39 : decode cX7_ask 39 = .ok (.iastore, 1) := by decide +kernel
theorem dX7_ask_40 : decode cX7_ask 40 = .ok (.iinc 2 1, 3) := by decide +kernel
theorem dX7_ask_43 : decode cX7_ask 43 = .ok (.iinc 3 1, 3) := by decide +kernel
theorem dX7_ask_46 : decode cX7_ask 46 = .ok (.goto (-28), 3) := by decide +kernel
theorem dX7_ask_49 : decode cX7_ask 49 = .ok (.bipush (-6), 2) := by decide +kernel
theorem dX7_ask_51 : decode cX7_ask 51 = .ok (.istore_n 3, 1) := by decide +kernel
theorem dX7_ask_52 : decode cX7_ask 52 = .ok (.ldc 150, 2) := by decide +kernel
theorem dX7_ask_54 : decode cX7_ask 54 = .ok (.istore 4, 2) := by decide +kernel
theorem dX7_ask_56 : decode cX7_ask 56 = .ok (.iconst 0, 1) := by decide +kernel
theorem dX7_ask_57 : decode cX7_ask 57 = .ok (.istore 5, 2) := by decide +kernel
theorem dX7_ask_59 : decode cX7_ask 59 = .ok (.iload 5, 2) := by decide +kernel
theorem dX7_ask_61 : decode cX7_ask 61 = .ok (.bipush 100, 2) := by decide +kernel
theorem dX7_ask_63 : decode cX7_ask 63 = .ok (.if_icmp .ge 106, 3) := by decide +kernel
theorem dX7_ask_66 : decode cX7_ask 66 = .ok (.iload_n 2, 1) := by decide +kernel
theorem dX7_ask_67 : decode cX7_ask 67 = .ok (.ifCond .le 102, 3) := by decide +kernel
theorem dX7_ask_70 : decode cX7_ask 70 = .ok (.iconst 0, 1) := by decide +kernel
theorem dX7_ask_71 : decode cX7_ask 71 = .ok (.istore 6, 2) := by decide +kernel
theorem dX7_ask_73 : decode cX7_ask 73 = .ok (.iconst 0, 1) := by decide +kernel
theorem dX7_ask_74 : decode cX7_ask 74 = .ok (.istore 7, 2) := by decide +kernel
theorem dX7_ask_76 : decode cX7_ask 76 = .ok (.iload 7, 2) := by decide +kernel
theorem dX7_ask_78 : decode cX7_ask 78 = .ok (.iload_n 2, 1) := by decide +kernel
theorem dX7_ask_79 : decode cX7_ask 79 = .ok (.if_icmp .ge 34, 3) := by decide +kernel
theorem dX7_ask_82 : decode cX7_ask 82 = .ok (.iload 6, 2) := by decide +kernel
theorem dX7_ask_84 : decode cX7_ask 84 = .ok (.aload_n 0, 1) := by decide +kernel
theorem dX7_ask_85 : decode cX7_ask 85 = .ok (.getfield 38, 3) := by decide +kernel
theorem dX7_ask_88 : decode cX7_ask 88 = .ok (.iload 7, 2) := by decide +kernel
theorem dX7_ask_90 : decode cX7_ask 90 = .ok (.iaload, 1) := by decide +kernel
theorem dX7_ask_91 : decode cX7_ask 91 = .ok (.iload 5, 2) := by decide +kernel
theorem dX7_ask_93 : decode cX7_ask 93 = .ok (.invokestatic 143, 3) := by decide +kernel
theorem dX7_ask_96 : decode cX7_ask 96 = .ok (.ifCond .eq 7, 3) := by decide +kernel
theorem dX7_ask_99 : decode cX7_ask 99 = .ok (.iconst 1, 1) := by decide +kernel
theorem dX7_ask_100 : decode cX7_ask 100 = .ok (.goto 4, 3) := by decide +kernel
theorem dX7_ask_103 : decode cX7_ask 103 = .ok (.iconst 0, 1) := by decide +kernel
theorem dX7_ask_104 : decode cX7_ask 104 = .ok (.iadd, 1) := by decide +kernel
theorem dX7_ask_105 : decode cX7_ask 105 = .ok (.istore 6, 2) := by decide +kernel
theorem dX7_ask_107 : decode cX7_ask 107 = .ok (.iinc 7 1, 3) := by decide +kernel
theorem dX7_ask_110 : decode cX7_ask 110 = .ok (.goto (-34), 3) := by decide +kernel
theorem dX7_ask_113 : decode cX7_ask 113 = .ok (.iload 6, 2) := by decide +kernel
theorem dX7_ask_115 : decode cX7_ask 115 = .ok (.iload_n 2, 1) := by decide +kernel
theorem dX7_ask_116 : decode cX7_ask 116 = .ok (.iload 6, 2) := by decide +kernel
theorem dX7_ask_118 : decode cX7_ask 118 = .ok (.isub, 1) := by decide +kernel
theorem dX7_ask_119 : decode cX7_ask 119 = .ok (.if_icmp .le 8, 3) := by decide +kernel
theorem dX7_ask_122 : decode cX7_ask 122 = .ok (.iload 6, 2) := by decide +kernel
theorem dX7_ask_124 : decode cX7_ask 124 = .ok (.goto 7, 3) := by decide +kernel
theorem dX7_ask_127 : decode cX7_ask 127 = .ok (.iload_n 2, 1) := by decide +kernel
theorem dX7_ask_128 : decode cX7_ask 128 = .ok (.iload 6, 2) := by decide +kernel
theorem dX7_ask_130 : decode cX7_ask 130 = .ok (.isub, 1) := by decide +kernel
theorem dX7_ask_131 : decode cX7_ask 131 = .ok (.istore 7, 2) := by decide +kernel
theorem dX7_ask_133 : decode cX7_ask 133 = .ok (.iload 7, 2) := by decide +kernel
theorem dX7_ask_135 : decode cX7_ask 135 = .ok (.iload 4, 2) := by decide +kernel
theorem dX7_ask_137 : decode cX7_ask 137 = .ok (.if_icmp .ge 8, 3) := by decide +kernel
theorem dX7_ask_140 : decode cX7_ask 140 = .ok (.iload 5, 2) := by decide +kernel
theorem dX7_ask_142 : decode cX7_ask 142 = .ok (.goto 4, 3) := by decide +kernel
theorem dX7_ask_145 : decode cX7_ask 145 = .ok (.iload_n 3, 1) := by decide +kernel
theorem dX7_ask_146 : decode cX7_ask 146 = .ok (.istore_n 3, 1) := by decide +kernel
theorem dX7_ask_147 : decode cX7_ask 147 = .ok (.iload 7, 2) := by decide +kernel
theorem dX7_ask_149 : decode cX7_ask 149 = .ok (.iload 4, 2) := by decide +kernel
theorem dX7_ask_151 : decode cX7_ask 151 = .ok (.if_icmp .ge 8, 3) := by decide +kernel
theorem dX7_ask_154 : decode cX7_ask 154 = .ok (.iload 7, 2) := by decide +kernel
theorem dX7_ask_156 : decode cX7_ask 156 = .ok (.goto 5, 3) := by decide +kernel
theorem dX7_ask_159 : decode cX7_ask 159 = .ok (.iload 4, 2) := by decide +kernel
theorem dX7_ask_161 : decode cX7_ask 161 = .ok (.istore 4, 2) := by decide +kernel
theorem dX7_ask_163 : decode cX7_ask 163 = .ok (.iinc 5 1, 3) := by decide +kernel
theorem dX7_ask_166 : decode cX7_ask 166 = .ok (.goto (-107), 3) := by decide +kernel
theorem dX7_ask_169 : decode cX7_ask 169 = .ok (.iload_n 3, 1) := by decide +kernel
theorem dX7_ask_170 : decode cX7_ask 170 = .ok (.ifCond .lt 7, 3) := by decide +kernel
theorem dX7_ask_173 : decode cX7_ask 173 = .ok (.iload_n 1, 1) := by decide +kernel
theorem dX7_ask_174 : decode cX7_ask 174 = .ok (.ifCond .ne 7, 3) := by decide +kernel
theorem dX7_ask_177 : decode cX7_ask 177 = .ok (.iload_n 3, 1) := by decide +kernel
theorem dX7_ask_178 : decode cX7_ask 178 = .ok (.goto 5, 3) := by decide +kernel
theorem dX7_ask_181 : decode cX7_ask 181 = .ok (.iload 4, 2) := by decide +kernel
theorem dX7_ask_183 : decode cX7_ask 183 = .ok (.ireturn, 1) := by decide +kernel
set_option maxRecDepth 20000 in
theorem ggX7_halves_X7_in : GoodIn wsX7_halves wsX7_in := goodIn_r _ [5] (by decide +kernel) (by decide +kernel)
set_option maxRecDepth 20000 in
theorem gX7_halves_X7_in : GoodIn wsX7_halves (va_wsS RX7 55 yX7_in wsX7_in) := goodIn_app (goodIn_of _ (by decide +kernel)) ggX7_halves_X7_in
theorem dX7_halves_0 : decode cX7_halves 0 = .ok (.iload_n 1, 1) := by decide +kernel
theorem dX7_halves_1 : decode cX7_halves 1 = .ok (.iconst 0, 1) := by decide +kernel
theorem dX7_halves_2 : decode cX7_halves 2 = .ok (.sipush 9999, 3) := by decide +kernel
theorem dX7_halves_5 : decode cX7_halves 5 = .ok (.invokestatic 55, 3) := by decide +kernel
theorem dX7_halves_8 : decode cX7_halves 8 = .ok (.ifCond .eq 12, 3) := by decide +kernel
theorem dX7_halves_11 : decode cX7_halves 11 = .ok (.iload_n 2, 1) := by decide +kernel
theorem dX7_halves_12 : decode cX7_halves 12 = .ok (.iconst 0, 1) := by decide +kernel
theorem dX7_halves_13 : decode cX7_halves 13 = .ok (.iconst 1, 1) := by decide +kernel
theorem dX7_halves_14 : decode cX7_halves 14 = .ok (.invokestatic 55, 3) := by decide +kernel
theorem dX7_halves_17 : decode cX7_halves 17 = .ok (.ifCond .ne 6, 3) := by decide +kernel
theorem dX7_halves_20 : decode cX7_halves 20 = .ok (.bipush (-2), 2) := by decide +kernel
theorem dX7_halves_22 : decode cX7_halves 22 = .ok (.ireturn, 1) := by decide +kernel
theorem dX7_halves_23 : decode cX7_halves 23 = .ok (.iconst 1, 1) := by decide +kernel
theorem dX7_halves_24 : decode cX7_halves 24 = .ok (.istore_n 3, 1) := by decide +kernel
theorem dX7_halves_25 : decode cX7_halves 25 = .ok (.iload_n 3, 1) := by decide +kernel
theorem dX7_halves_26 : decode cX7_halves 26 = .ok (.iload_n 1, 1) := by decide +kernel
theorem dX7_halves_27 : decode cX7_halves 27 = .ok (.if_icmp .gt 42, 3) := by decide +kernel
theorem dX7_halves_30 : decode cX7_halves 30 = .ok (.aload_n 0, 1) := by decide +kernel
theorem dX7_halves_31 : decode cX7_halves 31 = .ok (.getfield 41, 3) := by decide +kernel
theorem dX7_halves_34 : decode cX7_halves 34 = .ok (.iload_n 3, 1) := by decide +kernel
theorem dX7_halves_35 : decode cX7_halves 35 = .ok (.aload_n 0, 1) := by decide +kernel
theorem dX7_halves_36 : decode cX7_halves 36 = .ok (.getfield 41, 3) := by decide +kernel
theorem dX7_halves_39 : decode cX7_halves 39 = .ok (.iload_n 3, 1) := by decide +kernel
theorem dX7_halves_40 : decode cX7_halves 40 = .ok (.iconst 1, 1) := by decide +kernel
theorem dX7_halves_41 : decode cX7_halves 41 = .ok (.isub, 1) := by decide +kernel
theorem dX7_halves_42 : decode cX7_halves 42 = .ok (.baload, 1) := by decide +kernel
theorem dX7_halves_43 : decode cX7_halves 43 = .ok (.ifCond .eq 14, 3) := by decide +kernel
theorem dX7_halves_46 : decode cX7_halves 46 = .ok (.aload_n 0, 1) := by decide +kernel
theorem dX7_halves_47 : decode cX7_halves 47 = .ok (.getfield 41, 3) := by decide +kernel
theorem dX7_halves_50 : decode cX7_halves 50 = .ok (.iload_n 3, 1) := by decide +kernel
theorem dX7_halves_51 : decode cX7_halves 51 = .ok (.iconst 2, 1) := by decide +kernel
theorem dX7_halves_52 : decode cX7_halves 52 = .ok (.idiv, 1) := by decide +kernel
theorem dX7_halves_53 : decode cX7_halves 53 = .ok (.baload, 1) := by decide +kernel
theorem dX7_halves_54 : decode cX7_halves 54 = .ok (.ifCond .ne 7, 3) := by decide +kernel
theorem dX7_halves_57 : decode cX7_halves 57 = .ok (.iconst 1, 1) := by decide +kernel
theorem dX7_halves_58 : decode cX7_halves 58 = .ok (.goto 4, 3) := by decide +kernel
theorem dX7_halves_61 : decode cX7_halves 61 = .ok (.iconst 0, 1) := by decide +kernel
theorem dX7_halves_62 : decode cX7_halves 62 = .ok (.bastore, 1) := by decide +kernel
theorem dX7_halves_63 : decode cX7_halves 63 = .ok (.iinc 3 1, 3) := by decide +kernel
theorem dX7_halves_66 : decode cX7_halves 66 = .ok (.goto (-41), 3) := by decide +kernel
theorem dX7_halves_69 : decode cX7_halves 69 = .ok (.iload_n 2, 1) := by decide +kernel
theorem dX7_halves_70 : decode cX7_halves 70 = .ok (.ifCond .ne 18, 3) := by decide +kernel
theorem dX7_halves_73 : decode cX7_halves 73 = .ok (.aload_n 0, 1) := by decide +kernel
theorem dX7_halves_74 : decode cX7_halves 74 = .ok (.getfield 41, 3) := by decide +kernel
theorem dX7_halves_77 : decode cX7_halves 77 = .ok (.iload_n 1, 1) := by decide +kernel
theorem dX7_halves_78 : decode cX7_halves 78 = .ok (.baload, 1) := by decide +kernel
theorem dX7_halves_79 : decode cX7_halves 79 = .ok (.ifCond .eq 7, 3) := by decide +kernel
theorem dX7_halves_82 : decode cX7_halves 82 = .ok (.iconst 1, 1) := by decide +kernel
theorem dX7_halves_83 : decode cX7_halves 83 = .ok (.goto 4, 3) := by decide +kernel
theorem dX7_halves_86 : decode cX7_halves 86 = .ok (.iconst 0, 1) := by decide +kernel
theorem dX7_halves_87 : decode cX7_halves 87 = .ok (.ireturn, 1) := by decide +kernel
theorem dX7_halves_88 : decode cX7_halves 88 = .ok (.aload_n 0, 1) := by decide +kernel
theorem dX7_halves_89 : decode cX7_halves 89 = .ok (.getfield 41, 3) := by decide +kernel
theorem dX7_halves_92 : decode cX7_halves 92 = .ok (.iload_n 1, 1) := by decide +kernel
theorem dX7_halves_93 : decode cX7_halves 93 = .ok (.baload, 1) := by decide +kernel
theorem dX7_halves_94 : decode cX7_halves 94 = .ok (.ifCond .ne 8, 3) := by decide +kernel
theorem dX7_halves_97 : decode cX7_halves 97 = .ok (.bipush (-6), 2) := by decide +kernel
theorem dX7_halves_99 : decode cX7_halves 99 = .ok (.goto 23, 3) := by decide +kernel
theorem dX7_halves_102 : decode cX7_halves 102 = .ok (.aload_n 0, 1) := by decide +kernel
theorem dX7_halves_103 : decode cX7_halves 103 = .ok (.getfield 41, 3) := by decide +kernel
theorem dX7_halves_106 : decode cX7_halves 106 = .ok (.iload_n 1, 1) := by decide +kernel
theorem dX7_halves_107 : decode cX7_halves 107 = .ok (.iconst 2, 1) := by decide +kernel
theorem dX7_halves_108 : decode cX7_halves 108 = .ok (.idiv, 1) := by decide +kernel
theorem dX7_halves_109 : decode cX7_halves 109 = .ok (.baload, 1) := by decide +kernel
theorem dX7_halves_110 : decode cX7_halves 110 = .ok (.ifCond .ne 9, 3) := by decide +kernel
theorem dX7_halves_113 : decode cX7_halves 113 = .ok (.iload_n 1, 1) := by decide +kernel
theorem dX7_halves_114 : decode cX7_halves 114 = .ok (.iconst 2, 1) := by decide +kernel
theorem dX7_halves_115 : decode cX7_halves 115 = .ok (.idiv, 1) := by decide +kernel
theorem dX7_halves_116 : decode cX7_halves 116 = .ok (.goto 6, 3) := by decide +kernel
theorem dX7_halves_119 : decode cX7_halves 119 = .ok (.iload_n 1, 1) := by decide +kernel
theorem dX7_halves_120 : decode cX7_halves 120 = .ok (.iconst 1, 1) := by decide +kernel
theorem dX7_halves_121 : decode cX7_halves 121 = .ok (.isub, 1) := by decide +kernel
theorem dX7_halves_122 : decode cX7_halves 122 = .ok (.ireturn, 1) := by decide +kernel
theorem dX7_lowest_0 : decode cX7_lowest 0 = .ok (.lload_n 0, 1) := by decide +kernel
theorem dX7_lowest_1 : decode cX7_lowest 1 = .ok (.lstore 5, 2) := by decide +kernel
theorem dX7_lowest_3 : decode cX7_lowest 3 = .ok (.lload_n 2, 1) := by decide +kernel
theorem dX7_lowest_4 : decode cX7_lowest 4 = .ok (.lstore 7, 2) := by decide +kernel
theorem dX7_lowest_6 : decode cX7_lowest 6 = .ok (.lload 7, 2) := by decide +kernel
theorem dX7_lowest_8 : decode cX7_lowest 8 = .ok (.lconst 0, 1) := by decide +kernel
theorem dX7_lowest_9 : decode cX7_lowest 9 = .ok (.lcmp, 1) := by decide +kernel
theorem dX7_lowest_10 : decode cX7_lowest 10 = .ok (.ifCond .eq 21, 3) := by decide +kernel
theorem dX7_lowest_13 : decode cX7_lowest 13 = .ok (.lload 5, 2) := by decide +kernel
theorem dX7_lowest_15 : decode cX7_lowest 15 = .ok (.lload 7, 2) := by decide +kernel
theorem dX7_lowest_17 : decode cX7_lowest 17 = .ok (.lrem, 1) := by decide +kernel
theorem dX7_lowest_18 : decode cX7_lowest 18 = .ok (.lstore 9, 2) := by decide +kernel
theorem dX7_lowest_20 : decode cX7_lowest 20 = .ok (.lload 7, 2) := by decide +kernel
theorem dX7_lowest_22 : decode cX7_lowest 22 = .ok (.lstore 5, 2) := by decide +kernel
theorem dX7_lowest_24 : decode cX7_lowest 24 = .ok (.lload 9, 2) := by decide +kernel
theorem dX7_lowest_26 : decode cX7_lowest 26 = .ok (.lstore 7, 2) := by decide +kernel
theorem dX7_lowest_28 : decode cX7_lowest 28 = .ok (.goto (-22), 3) := by decide +kernel
theorem dX7_lowest_31 : decode cX7_lowest 31 = .ok (.iload 4, 2) := by decide +kernel
theorem dX7_lowest_33 : decode cX7_lowest 33 = .ok (.ifCond .ne 10, 3) := by decide +kernel
theorem dX7_lowest_36 : decode cX7_lowest 36 = .ok (.lload_n 0, 1) := by decide +kernel
theorem dX7_lowest_37 : decode cX7_lowest 37 = .ok (.lload 5, 2) := by decide +kernel
theorem dX7_lowest_39 : decode cX7_lowest 39 = .ok (.ldiv, 1) := by decide +kernel
theorem dX7_lowest_40 : decode cX7_lowest 40 = .ok (.goto 7, 3) := by decide +kernel
theorem dX7_lowest_43 : decode cX7_lowest 43 = .ok (.lload_n 2, 1) := by decide +kernel
theorem dX7_lowest_44 : decode cX7_lowest 44 = .ok (.lload 5, 2) := by decide +kernel
theorem dX7_lowest_46 : decode cX7_lowest 46 = .ok (.ldiv, 1) := by decide +kernel
theorem dX7_lowest_47 : decode cX7_lowest 47 = .ok (.lreturn, 1) := by decide +kernel
set_option maxRecDepth 20000 in
theorem ggX7_knelt_X7_in : GoodIn wsX7_knelt wsX7_in := goodIn_r _ [7] (by decide +kernel) (by decide +kernel)
set_option maxRecDepth 20000 in
theorem gX7_knelt_X7_in : GoodIn wsX7_knelt (va_wsS RX7 55 yX7_in wsX7_in) := goodIn_app (goodIn_of _ (by decide +kernel)) ggX7_knelt_X7_in
set_option maxRecDepth 20000 in
theorem ggX7_knelt_X7_lowest : GoodIn wsX7_knelt wsX7_lowest := goodIn_r _ [10] (by decide +kernel) (by decide +kernel)
set_option maxRecDepth 20000 in
theorem gX7_knelt_X7_lowest : GoodIn wsX7_knelt (va_wsS RX7 155 yX7_lowest wsX7_lowest) := goodIn_app (goodIn_of _ (by decide +kernel)) ggX7_knelt_X7_lowest
theorem dX7_knelt_0 : decode cX7_knelt 0 = .ok (.iload_n 1, 1) := by decide +kernel
theorem dX7_knelt_1 : decode cX7_knelt 1 = .ok (.iconst 0, 1) := by decide +kernel
theorem dX7_knelt_2 : decode cX7_knelt 2 = .ok (.bipush 16, 2) := by decide +kernel
theorem dX7_knelt_4 : decode cX7_knelt 4 = .ok (.invokestatic 55, 3) := by decide +kernel
theorem dX7_knelt_7 : decode cX7_knelt 7 = .ok (.ifCond .eq 42, 3) := by decide +kernel
theorem dX7_knelt_10 : decode cX7_knelt 10 = .ok (.iload_n 2, 1) := by decide +kernel
theorem dX7_knelt_11 : decode cX7_knelt 11 = .ok (.iconst 0, 1) := by decide +kernel
theorem dX7_knelt_12 : decode cX7_knelt 12 = .ok (.iload_n 1, 1) := by decide +kernel
theorem dX7_knelt_13 : decode cX7_knelt 13 = .ok (.invokestatic 55, 3) := by decide +kernel
theorem dX7_knelt_16 : decode cX7_knelt 16 = .ok (.ifCond .eq 33, 3) := by decide +kernel
theorem dX7_knelt_19 : decode cX7_knelt 19 = .ok (.iload_n 3, 1) := by decide +kernel
theorem dX7_knelt_20 : decode cX7_knelt 20 = .ok (.iconst 0, 1) := by decide +kernel
theorem dX7_knelt_21 : decode cX7_knelt 21 = .ok (.bipush 10, 2) := by decide +kernel
theorem dX7_knelt_23 : decode cX7_knelt 23 = .ok (.invokestatic 55, 3) := by decide +kernel
theorem dX7_knelt_26 : decode cX7_knelt 26 = .ok (.ifCond .eq 23, 3) := by decide +kernel
theorem dX7_knelt_29 : decode cX7_knelt 29 = .ok (.iload 4, 2) := by decide +kernel
theorem dX7_knelt_31 : decode cX7_knelt 31 = .ok (.iconst 0, 1) := by decide +kernel
theorem dX7_knelt_32 : decode cX7_knelt 32 = .ok (.iconst 1, 1) := by decide +kernel
theorem dX7_knelt_33 : decode cX7_knelt 33 = .ok (.invokestatic 55, 3) := by decide +kernel
theorem dX7_knelt_36 : decode cX7_knelt 36 = .ok (.ifCond .eq 13, 3) := by decide +kernel
theorem dX7_knelt_39 : decode cX7_knelt 39 = .ok (.iload 5, 2) := by decide +kernel
theorem dX7_knelt_41 : decode cX7_knelt 41 = .ok (.iconst 0, 1) := by decide +kernel
theorem dX7_knelt_42 : decode cX7_knelt 42 = .ok (.iconst 1, 1) := by decide +kernel
theorem dX7_knelt_43 : decode cX7_knelt 43 = .ok (.invokestatic 55, 3) := by decide +kernel
theorem dX7_knelt_46 : decode cX7_knelt 46 = .ok (.ifCond .ne 7, 3) := by decide +kernel
theorem dX7_knelt_49 : decode cX7_knelt 49 = .ok (.ldc2_w 151, 3) := by decide +kernel
theorem dX7_knelt_52 : decode cX7_knelt 52 = .ok (.lreturn, 1) := by decide +kernel
theorem dX7_knelt_53 : decode cX7_knelt 53 = .ok (.iload 4, 2) := by decide +kernel
theorem dX7_knelt_55 : decode cX7_knelt 55 = .ok (.iconst 1, 1) := by decide +kernel
theorem dX7_knelt_56 : decode cX7_knelt 56 = .ok (.if_icmp .ne 17, 3) := by decide +kernel
theorem dX7_knelt_59 : decode cX7_knelt 59 = .ok (.iload_n 1, 1) := by decide +kernel
theorem dX7_knelt_60 : decode cX7_knelt 60 = .ok (.i2l, 1) := by decide +kernel
theorem dX7_knelt_61 : decode cX7_knelt 61 = .ok (.iload_n 3, 1) := by decide +kernel
theorem dX7_knelt_62 : decode cX7_knelt 62 = .ok (.i2l, 1) := by decide +kernel
theorem dX7_knelt_63 : decode cX7_knelt 63 = .ok (.lmul, 1) := by decide +kernel
theorem dX7_knelt_64 : decode cX7_knelt 64 = .ok (.ldc2_w 153, 3) := by decide +kernel
theorem dX7_knelt_67 : decode cX7_knelt 67 = .ok (.iload 5, 2) := by decide +kernel
theorem dX7_knelt_69 : decode cX7_knelt 69 = .ok (.invokestatic 155, 3) := by decide +kernel
theorem dX7_knelt_72 : decode cX7_knelt 72 = .ok (.lreturn, 1) := by decide +kernel
theorem dX7_knelt_73 : decode cX7_knelt 73 = .ok (.lconst 1, 1) := by decide +kernel
theorem dX7_knelt_74 : decode cX7_knelt 74 = .ok (.lstore 6, 2) := by decide +kernel
theorem dX7_knelt_76 : decode cX7_knelt 76 = .ok (.iconst 0, 1) := by decide +kernel
theorem dX7_knelt_77 : decode cX7_knelt 77 = .ok (.istore 8, 2) := by decide +kernel
theorem dX7_knelt_79 : decode cX7_knelt 79 = .ok (.iload 8, 2) := by decide +kernel
theorem dX7_knelt_81 : decode cX7_knelt 81 = .ok (.bipush 18, 2) := by decide +kernel
theorem dX7_knelt_83 : decode cX7_knelt 83 = .ok (.if_icmp .ge 26, 3) := by decide +kernel
theorem dX7_knelt_86 : decode cX7_knelt 86 = .ok (.aload_n 0, 1) := by decide +kernel
theorem dX7_knelt_87 : decode cX7_knelt 87 = .ok (.getfield 45, 3) := by decide +kernel
theorem dX7_knelt_90 : decode cX7_knelt 90 = .ok (.iload 8, 2) := by decide +kernel
theorem dX7_knelt_92 : decode cX7_knelt 92 = .ok (.iload 8, 2) := by decide +kernel
theorem dX7_knelt_94 : decode cX7_knelt 94 = .ok (.ifCond .ne 7, 3) := by decide +kernel
theorem dX7_knelt_97 : decode cX7_knelt 97 = .ok (.lconst 1, 1) := by decide +kernel
theorem dX7_knelt_98 : decode cX7_knelt 98 = .ok (.goto 4, 3) := by decide +kernel
theorem dX7_knelt_101 : decode cX7_knelt 101 = .ok (.lconst 0, 1) := by decide +kernel
theorem dX7_knelt_102 : decode cX7_knelt 102 = .ok (.lastore, 1) := by decide +kernel
theorem dX7_knelt_103 : decode cX7_knelt 103 = .ok (.iinc 8 1, 3) := by decide +kernel
theorem dX7_knelt_106 : decode cX7_knelt 106 = .ok (.goto (-27), 3) := by decide +kernel
theorem dX7_knelt_109 : decode cX7_knelt 109 = .ok (.iconst 0, 1) := by decide +kernel
theorem dX7_knelt_110 : decode cX7_knelt 110 = .ok (.istore 8, 2) := by decide +kernel
theorem dX7_knelt_112 : decode cX7_knelt 112 = .ok (.iload 8, 2) := by decide +kernel
theorem dX7_knelt_114 : decode cX7_knelt 114 = .ok (.iload_n 1, 1) := by decide +kernel
theorem dX7_knelt_115 : decode cX7_knelt 115 = .ok (.if_icmp .ge 74, 3) := by decide +kernel
theorem dX7_knelt_118 : decode cX7_knelt 118 = .ok (.lload 6, 2) := by decide +kernel
theorem dX7_knelt_120 : decode cX7_knelt 120 = .ok (.ldc2_w 153, 3) := by decide +kernel
theorem dX7_knelt_123 : decode cX7_knelt 123 = .ok (.lmul, 1) := by decide +kernel
theorem dX7_knelt_124 : decode cX7_knelt 124 = .ok (.lstore 6, 2) := by decide +kernel
theorem dX7_knelt_126 : decode cX7_knelt 126 = .ok (.bipush 17, 2) := by decide +kernel
theorem dX7_knelt_128 : decode cX7_knelt 128 = .ok (.istore 9, 2) := by decide +kernel
theorem dX7_knelt_130 : decode cX7_knelt 130 = .ok (.iload 9, 2) := by decide +kernel
theorem dX7_knelt_132 : decode cX7_knelt 132 = .ok (.ifCond .lt 51, 3) := by decide +kernel
theorem dX7_knelt_135 : decode cX7_knelt 135 = .ok (.aload_n 0, 1) := by decide +kernel
theorem dX7_knelt_136 : decode cX7_knelt 136 = .ok (.getfield 45, 3) := by decide +kernel
theorem dX7_knelt_139 : decode cX7_knelt 139 = .ok (.iload 9, 2) := by decide +kernel
theorem dX7_knelt_141 : decode cX7_knelt 141 = .ok (.aload_n 0, 1) := by decide +kernel
theorem dX7_knelt_142 : decode cX7_knelt 142 = .ok (.getfield 45, 3) := by decide +kernel
theorem dX7_knelt_145 : decode cX7_knelt 145 = .ok (.iload 9, 2) := by decide +kernel
theorem dX7_knelt_147 : decode cX7_knelt 147 = .ok (.laload, 1) := by decide +kernel
theorem dX7_knelt_148 : decode cX7_knelt 148 = .ok (.bipush 10, 2) := by decide +kernel
theorem dX7_knelt_150 : decode cX7_knelt 150 = .ok (.iload_n 3, 1) := by decide +kernel
theorem dX7_knelt_151 : decode cX7_knelt 151 = .ok (.isub, 1) := by decide +kernel
theorem dX7_knelt_152 : decode cX7_knelt 152 = .ok (.i2l, 1) := by decide +kernel
theorem dX7_knelt_153 : decode cX7_knelt 153 = .ok (.lmul, 1) := by decide +kernel
theorem dX7_knelt_154 : decode cX7_knelt 154 = .ok (.iload 9, 2) := by decide +kernel
theorem dX7_knelt_156 : decode cX7_knelt 156 = .ok (.ifCond .le 18, 3) := by decide +kernel
theorem dX7_knelt_159 : decode cX7_knelt 159 = .ok (.aload_n 0, 1) := by decide +kernel
theorem dX7_knelt_160 : decode cX7_knelt 160 = .ok (.getfield 45, 3) := by decide +kernel
theorem dX7_knelt_163 : decode cX7_knelt 163 = .ok (.iload 9, 2) := by decide +kernel
theorem dX7_knelt_165 : decode cX7_knelt 165 = .ok (.iconst 1, 1) := by decide +kernel
theorem dX7_knelt_166 : decode cX7_knelt 166 = .ok (.isub, 1) := by decide +kernel
theorem dX7_knelt_167 : decode cX7_knelt 167 = .ok (.laload, 1) := by decide +kernel
theorem dX7_knelt_168 : decode cX7_knelt 168 = .ok (.iload_n 3, 1) := by decide +kernel
theorem dX7_knelt_169 : decode cX7_knelt 169 = .ok (.i2l, 1) := by decide +kernel
theorem dX7_knelt_170 : decode cX7_knelt 170 = .ok (.lmul, 1) := by decide +kernel
theorem dX7_knelt_171 : decode cX7_knelt 171 = .ok (.goto 4, 3) := by decide +kernel
theorem dX7_knelt_174 : decode cX7_knelt 174 = .ok (.lconst 0, 1) := by decide +kernel
theorem dX7_knelt_175 : decode cX7_knelt 175 = .ok (.ladd, 1) := by decide +kernel
theorem dX7_knelt_176 : decode cX7_knelt 176 = .ok (.lastore, 1) := by decide +kernel
theorem dX7_knelt_177 : decode cX7_knelt 177 = .ok (.iinc 9 (-1), 3) := by decide +kernel
theorem dX7_knelt_180 : decode cX7_knelt 180 = .ok (.goto (-50), 3) := by decide +kernel
theorem dX7_knelt_183 : decode cX7_knelt 183 = .ok (.iinc 8 1, 3) := by decide +kernel
theorem dX7_knelt_186 : decode cX7_knelt 186 = .ok (.goto (-74), 3) := by decide +kernel
theorem dX7_knelt_189 : decode cX7_knelt 189 = .ok (.lconst 0, 1) := by decide +kernel
theorem dX7_knelt_190 : decode cX7_knelt 190 = .ok (.lstore 8, 2) := by decide +kernel
theorem dX7_knelt_192 : decode cX7_knelt 192 = .ok (.iload_n 2, 1) := by decide +kernel
theorem dX7_knelt_193 : decode cX7_knelt 193 = .ok (.istore 10, 2) := by decide +kernel
theorem dX7_knelt_195 : decode cX7_knelt 195 = .ok (.iload 10, 2) := by decide +kernel
theorem dX7_knelt_197 : decode cX7_knelt 197 = .ok (.bipush 18, 2) := by decide +kernel
theorem dX7_knelt_199 : decode cX7_knelt 199 = .ok (.if_icmp .ge 21, 3) := by decide +kernel
theorem dX7_knelt_202 : decode cX7_knelt 202 = .ok (.lload 8, 2) := by decide +kernel
theorem dX7_knelt_204 : decode cX7_knelt 204 = .ok (.aload_n 0, 1) := by decide +kernel
theorem dX7_knelt_205 : decode cX7_knelt 205 = .ok (.getfield 45, 3) := by decide +kernel
theorem dX7_knelt_208 : decode cX7_knelt 208 = .ok (.iload 10, 2) := by decide +kernel
theorem dX7_knelt_210 : decode cX7_knelt 210 = .ok (.laload, 1) := by decide +kernel
theorem dX7_knelt_211 : decode cX7_knelt 211 = .ok (.ladd, 1) := by decide +kernel
theorem dX7_knelt_212 : decode cX7_knelt 212 = .ok (.lstore 8, 2) := by decide +kernel
theorem dX7_knelt_214 : decode cX7_knelt 214 = .ok (.iinc 10 1, 3) := by decide +kernel
theorem dX7_knelt_217 : decode cX7_knelt 217 = .ok (.goto (-22), 3) := by decide +kernel
theorem dX7_knelt_220 : decode cX7_knelt 220 = .ok (.lload 8, 2) := by decide +kernel
theorem dX7_knelt_222 : decode cX7_knelt 222 = .ok (.lload 6, 2) := by decide +kernel
theorem dX7_knelt_224 : decode cX7_knelt 224 = .ok (.iload 5, 2) := by decide +kernel
theorem dX7_knelt_226 : decode cX7_knelt 226 = .ok (.invokestatic 155, 3) := by decide +kernel
theorem dX7_knelt_229 : decode cX7_knelt 229 = .ok (.lreturn, 1) := by decide +kernel
set_option maxRecDepth 20000 in
theorem ggX7_year_X7_in : GoodIn wsX7_year wsX7_in := goodIn_r _ [7] (by decide +kernel) (by decide +kernel)
set_option maxRecDepth 20000 in
theorem gX7_year_X7_in : GoodIn wsX7_year (va_wsS RX7 55 yX7_in wsX7_in) := goodIn_app (goodIn_of _ (by decide +kernel)) ggX7_year_X7_in
set_option maxRecDepth 20000 in
theorem ggX7_year_X7_asNow : GoodIn wsX7_year wsX7_asNow := goodIn_r _ [11, 3, 12, 13, 14, 60, 61, 62, 63, 64, 65, 66, 67, 68, 69, 70, 71, 72, 73, 74, 75, 76, 77, 78, 79] (by decide +kernel) (by decide +kernel)
set_option maxRecDepth 20000 in
theorem gX7_year_X7_asNow : GoodIn wsX7_year (wsV RX7 59 RX7 yX7_asNow wsX7_asNow) := goodIn_app (goodIn_of _ (by decide +kernel)) ggX7_year_X7_asNow
set_option maxRecDepth 20000 in
theorem ggX7_year_X7_stepOver : GoodIn wsX7_year wsX7_stepOver := goodIn_r _ [18, 3, 19, 20, 21, 22, 6, 23, 24, 60, 61, 62, 63, 64, 65, 66, 67, 68, 69, 70, 71, 72, 73, 74, 75, 76, 77, 78, 79] (by decide +kernel) (by decide +kernel)
set_option maxRecDepth 20000 in
theorem gX7_year_X7_stepOver : GoodIn wsX7_year (wsV RX7 89 RX7 yX7_stepOver wsX7_stepOver) := goodIn_app (goodIn_of _ (by decide +kernel)) ggX7_year_X7_stepOver
set_option maxRecDepth 20000 in
theorem ggX7_year_X7_comeOut : GoodIn wsX7_year wsX7_comeOut := goodIn_r _ [28, 3, 20, 21, 22, 6, 23, 24, 60, 61, 62, 63, 64, 65, 66, 67, 68, 69, 70, 71, 72, 73, 74, 75, 76, 77, 78, 79] (by decide +kernel) (by decide +kernel)
set_option maxRecDepth 20000 in
theorem gX7_year_X7_comeOut : GoodIn wsX7_year (wsV RX7 93 RX7 yX7_comeOut wsX7_comeOut) := goodIn_app (goodIn_of _ (by decide +kernel)) ggX7_year_X7_comeOut
set_option maxRecDepth 20000 in
theorem ggX7_year_X7_walk : GoodIn wsX7_year wsX7_walk := goodIn_r _ [32, 3, 19, 4, 5, 6, 7, 60, 61, 62, 63, 64, 65, 66, 67, 68, 69, 70, 71, 72, 73, 74, 75, 76, 77, 78, 79] (by decide +kernel) (by decide +kernel)
set_option maxRecDepth 20000 in
theorem gX7_year_X7_walk : GoodIn wsX7_year (wsV RX7 96 RX7 yX7_walk wsX7_walk) := goodIn_app (goodIn_of _ (by decide +kernel)) ggX7_year_X7_walk
set_option maxRecDepth 20000 in
theorem ggX7_year_X7_leave : GoodIn wsX7_year wsX7_leave := goodIn_r _ [36, 3, 60, 61, 62, 63, 64, 65, 66, 67, 68, 69, 70, 71, 72, 73, 74, 75, 76, 77, 78, 79] (by decide +kernel) (by decide +kernel)
set_option maxRecDepth 20000 in
theorem gX7_year_X7_leave : GoodIn wsX7_year (wsV RX7 99 RX7 yX7_leave wsX7_leave) := goodIn_app (goodIn_of _ (by decide +kernel)) ggX7_year_X7_leave
set_option maxRecDepth 20000 in
theorem ggX7_year_X7_find : GoodIn wsX7_year wsX7_find := goodIn_r _ [40, 3, 60, 61, 62, 63, 64, 65, 66, 67, 68, 69, 70, 71, 72, 73, 74, 75, 76, 77, 78, 79] (by decide +kernel) (by decide +kernel)
set_option maxRecDepth 20000 in
theorem gX7_year_X7_find : GoodIn wsX7_year (wsV RX7 102 RX7 yX7_find wsX7_find) := goodIn_app (goodIn_of _ (by decide +kernel)) ggX7_year_X7_find
set_option maxRecDepth 20000 in
theorem ggX7_year_X7_pass : GoodIn wsX7_year wsX7_pass := goodIn_r _ [44, 3, 60, 61, 62, 63, 64, 65, 66, 67, 68, 69, 70, 71, 72, 73, 74, 75, 76, 77, 78, 79] (by decide +kernel) (by decide +kernel)
set_option maxRecDepth 20000 in
theorem gX7_year_X7_pass : GoodIn wsX7_year (wsV RX7 114 RX7 yX7_pass wsX7_pass) := goodIn_app (goodIn_of _ (by decide +kernel)) ggX7_year_X7_pass
set_option maxRecDepth 20000 in
theorem ggX7_year_X7_nextTime : GoodIn wsX7_year wsX7_nextTime := goodIn_r _ [48, 3, 24, 60, 61, 62, 63, 64, 65, 66, 67, 68, 69, 70, 71, 72, 73, 74, 75, 76, 77, 78, 79] (by decide +kernel) (by decide +kernel)
set_option maxRecDepth 20000 in
theorem gX7_year_X7_nextTime : GoodIn wsX7_year (wsV RX7 108 RX7 yX7_nextTime wsX7_nextTime) := goodIn_app (goodIn_of _ (by decide +kernel)) ggX7_year_X7_nextTime
set_option maxRecDepth 20000 in
theorem ggX7_year_X7_within : GoodIn wsX7_year wsX7_within := goodIn_r _ [52, 3, 60, 61, 62, 63, 64, 65, 66, 67, 68, 69, 70, 71, 72, 73, 74, 75, 76, 77, 78, 79] (by decide +kernel) (by decide +kernel)
set_option maxRecDepth 20000 in
theorem gX7_year_X7_within : GoodIn wsX7_year (wsV RX7 62 RX7 yX7_within wsX7_within) := goodIn_app (goodIn_of _ (by decide +kernel)) ggX7_year_X7_within
set_option maxRecDepth 20000 in
theorem ggX7_year_X7_bits : GoodIn wsX7_year wsX7_bits := goodIn_r _ [55] (by decide +kernel) (by decide +kernel)
set_option maxRecDepth 20000 in
theorem gX7_year_X7_bits : GoodIn wsX7_year (va_wsS RX7 160 yX7_bits wsX7_bits) := goodIn_app (goodIn_of _ (by decide +kernel)) ggX7_year_X7_bits
set_option maxRecDepth 20000 in
theorem ggX7_year_X7_lying : GoodIn wsX7_year wsX7_lying := goodIn_r _ [59, 3, 60, 61, 62, 63, 64, 65, 66, 67, 68, 69, 70, 71, 72, 73, 74, 75, 76, 77, 78, 79] (by decide +kernel) (by decide +kernel)
set_option maxRecDepth 20000 in
theorem gX7_year_X7_lying : GoodIn wsX7_year (wsV RX7 66 RX7 yX7_lying wsX7_lying) := goodIn_app (goodIn_of _ (by decide +kernel)) ggX7_year_X7_lying
theorem dX7_year_0 : decode cX7_year 0 = .ok (.iload_n 1, 1) := by decide +kernel
theorem dX7_year_1 : decode cX7_year 1 = .ok (.iconst 0, 1) := by decide +kernel
theorem dX7_year_2 : decode cX7_year 2 = .ok (.sipush 9999, 3) := by decide +kernel
theorem dX7_year_5 : decode cX7_year 5 = .ok (.invokestatic 55, 3) := by decide +kernel
theorem dX7_year_8 : decode cX7_year 8 = .ok (.ifCond .eq 22, 3) := by decide +kernel
theorem dX7_year_11 : decode cX7_year 11 = .ok (.iload_n 2, 1) := by decide +kernel
theorem dX7_year_12 : decode cX7_year 12 = .ok (.iconst 1, 1) := by decide +kernel
theorem dX7_year_13 : decode cX7_year 13 = .ok (.bipush 99, 2) := by decide +kernel
theorem dX7_year_15 : decode cX7_year 15 = .ok (.invokestatic 55, 3) := by decide +kernel
theorem dX7_year_18 : decode cX7_year 18 = .ok (.ifCond .eq 12, 3) := by decide +kernel
theorem dX7_year_21 : decode cX7_year 21 = .ok (.iload_n 3, 1) := by decide +kernel
theorem dX7_year_22 : decode cX7_year 22 = .ok (.iconst 0, 1) := by decide +kernel
theorem dX7_year_23 : decode cX7_year 23 = .ok (.iconst 2, 1) := by decide +kernel
theorem dX7_year_24 : decode cX7_year 24 = .ok (.invokestatic 55, 3) := by decide +kernel
theorem dX7_year_27 : decode cX7_year 27 = .ok (.ifCond .ne 6, 3) := by decide +kernel
theorem dX7_year_30 : decode cX7_year 30 = .ok (.bipush (-2), 2) := by decide +kernel
theorem dX7_year_32 : decode cX7_year 32 = .ok (.ireturn, 1) := by decide +kernel
theorem dX7_year_33 : decode cX7_year 33 = .ok (.aload_n 0, 1) := by decide +kernel
theorem dX7_year_34 : decode cX7_year 34 = .ok (.invokevirtual 59, 3) := by decide +kernel
theorem dX7_year_37 : decode cX7_year 37 = .ok (.iload_n 1, 1) := by decide +kernel
theorem dX7_year_38 : decode cX7_year 38 = .ok (.istore 4, 2) := by decide +kernel
theorem dX7_year_40 : decode cX7_year 40 = .ok (.iconst 0, 1) := by decide +kernel
theorem dX7_year_41 : decode cX7_year 41 = .ok (.istore 5, 2) := by decide +kernel
theorem dX7_year_43 : decode cX7_year 43 = .ok (.iload 5, 2) := by decide +kernel
theorem dX7_year_45 : decode cX7_year 45 = .ok (.iload_n 2, 1) := by decide +kernel
theorem dX7_year_46 : decode cX7_year 46 = .ok (.if_icmp .ge 223, 3) := by decide +kernel
theorem dX7_year_49 : decode cX7_year 49 = .ok (.bipush 75, 2) := by decide +kernel
theorem dX7_year_51 : decode cX7_year 51 = .ok (.iload 4, 2) := by decide +kernel
theorem dX7_year_53 : decode cX7_year 53 = .ok (.imul, 1) := by decide +kernel
theorem dX7_year_54 : decode cX7_year 54 = .ok (.bipush 74, 2) := by decide +kernel
theorem dX7_year_56 : decode cX7_year 56 = .ok (.iadd, 1) := by decide +kernel
theorem dX7_year_57 : decode cX7_year 57 = .ok (.ldc 159, 2) := by decide +kernel
theorem dX7_year_59 : decode cX7_year 59 = .ok (.irem, 1) := by decide +kernel
theorem dX7_year_60 : decode cX7_year 60 = .ok (.istore 4, 2) := by decide +kernel
theorem dX7_year_62 : decode cX7_year 62 = .ok (.iload 4, 2) := by decide +kernel
theorem dX7_year_64 : decode cX7_year 64 = .ok (.bipush 6, 2) := by decide +kernel
theorem dX7_year_66 : decode cX7_year 66 = .ok (.irem, 1) := by decide +kernel
theorem dX7_year_67 : decode cX7_year 67 = .ok (.istore 6, 2) := by decide +kernel
theorem dX7_year_69 : decode cX7_year 69 = .ok (.iload 4, 2) := by decide +kernel
theorem dX7_year_71 : decode cX7_year 71 = .ok (.bipush 48, 2) := by decide +kernel
theorem dX7_year_73 : decode cX7_year 73 = .ok (.idiv, 1) := by decide +kernel
theorem dX7_year_74 : decode cX7_year 74 = .ok (.istore 7, 2) := by decide +kernel
theorem dX7_year_76 : decode cX7_year 76 = .ok (.iload 4, 2) := by decide +kernel
theorem dX7_year_78 : decode cX7_year 78 = .ok (.bipush 6, 2) := by decide +kernel
theorem dX7_year_80 : decode cX7_year 80 = .ok (.idiv, 1) := by decide +kernel
theorem dX7_year_81 : decode cX7_year 81 = .ok (.bipush 8, 2) := by decide +kernel
theorem dX7_year_83 : decode cX7_year 83 = .ok (.irem, 1) := by decide +kernel
theorem dX7_year_84 : decode cX7_year 84 = .ok (.tableswitch 171 0 6 #[44, 57, 87, 101, 121, 134, 134], 44) := by decide +kernel
theorem dX7_year_128 : decode cX7_year 128 = .ok (.aload_n 0, 1) := by decide +kernel
theorem dX7_year_129 : decode cX7_year 129 = .ok (.aload_n 0, 1) := by decide +kernel
theorem dX7_year_130 : decode cX7_year 130 = .ok (.iload 6, 2) := by decide +kernel
theorem dX7_year_132 : decode cX7_year 132 = .ok (.invokevirtual 89, 3) := by decide +kernel
theorem dX7_year_135 : decode cX7_year 135 = .ok (.putfield 111, 3) := by decide +kernel
theorem dX7_year_138 : decode cX7_year 138 = .ok (.goto 125, 3) := by decide +kernel
theorem dX7_year_141 : decode cX7_year 141 = .ok (.aload_n 0, 1) := by decide +kernel
theorem dX7_year_142 : decode cX7_year 142 = .ok (.iload 7, 2) := by decide +kernel
theorem dX7_year_144 : decode cX7_year 144 = .ok (.iconst 4, 1) := by decide +kernel
theorem dX7_year_145 : decode cX7_year 145 = .ok (.irem, 1) := by decide +kernel
theorem dX7_year_146 : decode cX7_year 146 = .ok (.ifCond .ne 12, 3) := by decide +kernel
theorem dX7_year_149 : decode cX7_year 149 = .ok (.aload_n 0, 1) := by decide +kernel
theorem dX7_year_150 : decode cX7_year 150 = .ok (.iload 6, 2) := by decide +kernel
theorem dX7_year_152 : decode cX7_year 152 = .ok (.invokevirtual 93, 3) := by decide +kernel
theorem dX7_year_155 : decode cX7_year 155 = .ok (.goto 10, 3) := by decide +kernel
theorem dX7_year_158 : decode cX7_year 158 = .ok (.aload_n 0, 1) := by decide +kernel
theorem dX7_year_159 : decode cX7_year 159 = .ok (.iload 6, 2) := by decide +kernel
theorem dX7_year_161 : decode cX7_year 161 = .ok (.iconst 1, 1) := by decide +kernel
theorem dX7_year_162 : decode cX7_year 162 = .ok (.invokevirtual 96, 3) := by decide +kernel
theorem dX7_year_165 : decode cX7_year 165 = .ok (.putfield 111, 3) := by decide +kernel
theorem dX7_year_168 : decode cX7_year 168 = .ok (.goto 95, 3) := by decide +kernel
theorem dX7_year_171 : decode cX7_year 171 = .ok (.aload_n 0, 1) := by decide +kernel
theorem dX7_year_172 : decode cX7_year 172 = .ok (.aload_n 0, 1) := by decide +kernel
theorem dX7_year_173 : decode cX7_year 173 = .ok (.iload 6, 2) := by decide +kernel
theorem dX7_year_175 : decode cX7_year 175 = .ok (.iconst (-1), 1) := by decide +kernel
theorem dX7_year_176 : decode cX7_year 176 = .ok (.invokevirtual 96, 3) := by decide +kernel
theorem dX7_year_179 : decode cX7_year 179 = .ok (.putfield 111, 3) := by decide +kernel
theorem dX7_year_182 : decode cX7_year 182 = .ok (.goto 81, 3) := by decide +kernel
theorem dX7_year_185 : decode cX7_year 185 = .ok (.aload_n 0, 1) := by decide +kernel
theorem dX7_year_186 : decode cX7_year 186 = .ok (.aload_n 0, 1) := by decide +kernel
theorem dX7_year_187 : decode cX7_year 187 = .ok (.iload 6, 2) := by decide +kernel
theorem dX7_year_189 : decode cX7_year 189 = .ok (.iconst 1, 1) := by decide +kernel
theorem dX7_year_190 : decode cX7_year 190 = .ok (.iload 7, 2) := by decide +kernel
theorem dX7_year_192 : decode cX7_year 192 = .ok (.bipush 9, 2) := by decide +kernel
theorem dX7_year_194 : decode cX7_year 194 = .ok (.irem, 1) := by decide +kernel
theorem dX7_year_195 : decode cX7_year 195 = .ok (.iadd, 1) := by decide +kernel
theorem dX7_year_196 : decode cX7_year 196 = .ok (.invokevirtual 99, 3) := by decide +kernel
theorem dX7_year_199 : decode cX7_year 199 = .ok (.putfield 111, 3) := by decide +kernel
theorem dX7_year_202 : decode cX7_year 202 = .ok (.goto 61, 3) := by decide +kernel
theorem dX7_year_205 : decode cX7_year 205 = .ok (.aload_n 0, 1) := by decide +kernel
theorem dX7_year_206 : decode cX7_year 206 = .ok (.aload_n 0, 1) := by decide +kernel
theorem dX7_year_207 : decode cX7_year 207 = .ok (.iload 6, 2) := by decide +kernel
theorem dX7_year_209 : decode cX7_year 209 = .ok (.invokevirtual 102, 3) := by decide +kernel
theorem dX7_year_212 : decode cX7_year 212 = .ok (.putfield 111, 3) := by decide +kernel
theorem dX7_year_215 : decode cX7_year 215 = .ok (.goto 48, 3) := by decide +kernel
theorem dX7_year_218 : decode cX7_year 218 = .ok (.aload_n 0, 1) := by decide +kernel
theorem dX7_year_219 : decode cX7_year 219 = .ok (.aload_n 0, 1) := by decide +kernel
theorem dX7_year_220 : decode cX7_year 220 = .ok (.iconst 1, 1) := by decide +kernel
theorem dX7_year_221 : decode cX7_year 221 = .ok (.iload 7, 2) := by decide +kernel
theorem dX7_year_223 : decode cX7_year 223 = .ok (.bipush 9, 2) := by decide +kernel
theorem dX7_year_225 : decode cX7_year 225 = .ok (.irem, 1) := by decide +kernel
theorem dX7_year_226 : decode cX7_year 226 = .ok (.iadd, 1) := by decide +kernel
theorem dX7_year_227 : decode cX7_year 227 = .ok (.iload 4, 2) := by decide +kernel
theorem dX7_year_229 : decode cX7_year 229 = .ok (.bipush 6, 2) := by decide +kernel
theorem dX7_year_231 : decode cX7_year 231 = .ok (.idiv, 1) := by decide +kernel
theorem dX7_year_232 : decode cX7_year 232 = .ok (.bipush 8, 2) := by decide +kernel
theorem dX7_year_234 : decode cX7_year 234 = .ok (.irem, 1) := by decide +kernel
theorem dX7_year_235 : decode cX7_year 235 = .ok (.iconst 5, 1) := by decide +kernel
theorem dX7_year_236 : decode cX7_year 236 = .ok (.if_icmp .ne 7, 3) := by decide +kernel
theorem dX7_year_239 : decode cX7_year 239 = .ok (.iconst 1, 1) := by decide +kernel
theorem dX7_year_240 : decode cX7_year 240 = .ok (.goto 5, 3) := by decide +kernel
theorem dX7_year_243 : decode cX7_year 243 = .ok (.bipush 24, 2) := by decide +kernel
theorem dX7_year_245 : decode cX7_year 245 = .ok (.imul, 1) := by decide +kernel
theorem dX7_year_246 : decode cX7_year 246 = .ok (.invokevirtual 114, 3) := by decide +kernel
theorem dX7_year_249 : decode cX7_year 249 = .ok (.putfield 111, 3) := by decide +kernel
theorem dX7_year_252 : decode cX7_year 252 = .ok (.goto 11, 3) := by decide +kernel
theorem dX7_year_255 : decode cX7_year 255 = .ok (.aload_n 0, 1) := by decide +kernel
theorem dX7_year_256 : decode cX7_year 256 = .ok (.aload_n 0, 1) := by decide +kernel
theorem dX7_year_257 : decode cX7_year 257 = .ok (.invokevirtual 108, 3) := by decide +kernel
theorem dX7_year_260 : decode cX7_year 260 = .ok (.putfield 111, 3) := by decide +kernel
theorem dX7_year_263 : decode cX7_year 263 = .ok (.iinc 5 1, 3) := by decide +kernel
theorem dX7_year_266 : decode cX7_year 266 = .ok (.goto (-223), 3) := by decide +kernel
theorem dX7_year_269 : decode cX7_year 269 = .ok (.iload_n 3, 1) := by decide +kernel
theorem dX7_year_270 : decode cX7_year 270 = .ok (.ifCond .ne 13, 3) := by decide +kernel
theorem dX7_year_273 : decode cX7_year 273 = .ok (.aload_n 0, 1) := by decide +kernel
theorem dX7_year_274 : decode cX7_year 274 = .ok (.invokevirtual 62, 3) := by decide +kernel
theorem dX7_year_277 : decode cX7_year 277 = .ok (.invokestatic 160, 3) := by decide +kernel
theorem dX7_year_280 : decode cX7_year 280 = .ok (.goto 22, 3) := by decide +kernel
theorem dX7_year_283 : decode cX7_year 283 = .ok (.iload_n 3, 1) := by decide +kernel
theorem dX7_year_284 : decode cX7_year 284 = .ok (.iconst 1, 1) := by decide +kernel
theorem dX7_year_285 : decode cX7_year 285 = .ok (.if_icmp .ne 10, 3) := by decide +kernel
theorem dX7_year_288 : decode cX7_year 288 = .ok (.aload_n 0, 1) := by decide +kernel
theorem dX7_year_289 : decode cX7_year 289 = .ok (.invokevirtual 66, 3) := by decide +kernel
theorem dX7_year_292 : decode cX7_year 292 = .ok (.goto 10, 3) := by decide +kernel
theorem dX7_year_295 : decode cX7_year 295 = .ok (.aload_n 0, 1) := by decide +kernel
theorem dX7_year_296 : decode cX7_year 296 = .ok (.getfield 13, 3) := by decide +kernel
theorem dX7_year_299 : decode cX7_year 299 = .ok (.bipush 44, 2) := by decide +kernel
theorem dX7_year_301 : decode cX7_year 301 = .ok (.iaload, 1) := by decide +kernel
theorem dX7_year_302 : decode cX7_year 302 = .ok (.ireturn, 1) := by decide +kernel
set_option maxRecDepth 20000 in
theorem ggX7_image_X7_in : GoodIn wsX7_image wsX7_in := goodIn_r _ [11] (by decide +kernel) (by decide +kernel)
set_option maxRecDepth 20000 in
theorem gX7_image_X7_in : GoodIn wsX7_image (va_wsS RX7 55 yX7_in wsX7_in) := goodIn_app (goodIn_of _ (by decide +kernel)) ggX7_image_X7_in
theorem dX7_image_0 : decode cX7_image 0 = .ok (.iload_n 1, 1) := by decide +kernel
theorem dX7_image_1 : decode cX7_image 1 = .ok (.iconst 0, 1) := by decide +kernel
theorem dX7_image_2 : decode cX7_image 2 = .ok (.iconst 1, 1) := by decide +kernel
theorem dX7_image_3 : decode cX7_image 3 = .ok (.invokestatic 55, 3) := by decide +kernel
theorem dX7_image_6 : decode cX7_image 6 = .ok (.ifCond .ne 6, 3) := by decide +kernel
theorem dX7_image_9 : decode cX7_image 9 = .ok (.bipush (-2), 2) := by decide +kernel
theorem dX7_image_11 : decode cX7_image 11 = .ok (.ireturn, 1) := by decide +kernel
theorem dX7_image_12 : decode cX7_image 12 = .ok (.bipush 70, 2) := by decide +kernel
theorem dX7_image_14 : decode cX7_image 14 = .ok (.iload_n 1, 1) := by decide +kernel
theorem dX7_image_15 : decode cX7_image 15 = .ok (.imul, 1) := by decide +kernel
theorem dX7_image_16 : decode cX7_image 16 = .ok (.istore_n 2, 1) := by decide +kernel
theorem dX7_image_17 : decode cX7_image 17 = .ok (.iconst 0, 1) := by decide +kernel
theorem dX7_image_18 : decode cX7_image 18 = .ok (.istore_n 3, 1) := by decide +kernel
theorem dX7_image_19 : decode cX7_image 19 = .ok (.iload_n 3, 1) := by decide +kernel
theorem dX7_image_20 : decode cX7_image 20 = .ok (.bipush 45, 2) := by decide +kernel
theorem dX7_image_22 : decode cX7_image 22 = .ok (.if_icmp .ge 23, 3) := by decide +kernel
theorem dX7_image_25 : decode cX7_image 25 = .ok (.aload_n 0, 1) := by decide +kernel
theorem dX7_image_26 : decode cX7_image 26 = .ok (.getfield 49, 3) := by decide +kernel
theorem dX7_image_29 : decode cX7_image 29 = .ok (.iload_n 2, 1) := by decide +kernel
theorem dX7_image_30 : decode cX7_image 30 = .ok (.iload_n 3, 1) := by decide +kernel
theorem dX7_image_31 : decode cX7_image 31 = .ok (.iadd, 1) := by decide +kernel
theorem dX7_image_32 : decode cX7_image 32 = .ok (.aload_n 0, 1) := by decide +kernel
theorem dX7_image_33 : decode cX7_image 33 = .ok (.getfield 7, 3) := by decide +kernel
theorem dX7_image_36 : decode cX7_image 36 = .ok (.iload_n 3, 1) := by decide +kernel
theorem dX7_image_37 : decode cX7_image 37 = .ok (.iaload, 1) := by decide +kernel
theorem dX7_image_38 : decode cX7_image 38 = .ok (.iastore, 1) := by decide +kernel
theorem dX7_image_39 : decode cX7_image 39 = .ok (.iinc 3 1, 3) := by decide +kernel
theorem dX7_image_42 : decode cX7_image 42 = .ok (.goto (-23), 3) := by decide +kernel
theorem dX7_image_45 : decode cX7_image 45 = .ok (.iconst 0, 1) := by decide +kernel
theorem dX7_image_46 : decode cX7_image 46 = .ok (.istore_n 3, 1) := by decide +kernel
theorem dX7_image_47 : decode cX7_image 47 = .ok (.iload_n 3, 1) := by decide +kernel
theorem dX7_image_48 : decode cX7_image 48 = .ok (.bipush 16, 2) := by decide +kernel
theorem dX7_image_50 : decode cX7_image 50 = .ok (.if_icmp .ge 26, 3) := by decide +kernel
theorem dX7_image_53 : decode cX7_image 53 = .ok (.aload_n 0, 1) := by decide +kernel
theorem dX7_image_54 : decode cX7_image 54 = .ok (.getfield 49, 3) := by decide +kernel
theorem dX7_image_57 : decode cX7_image 57 = .ok (.iload_n 2, 1) := by decide +kernel
theorem dX7_image_58 : decode cX7_image 58 = .ok (.bipush 45, 2) := by decide +kernel
theorem dX7_image_60 : decode cX7_image 60 = .ok (.iadd, 1) := by decide +kernel
theorem dX7_image_61 : decode cX7_image 61 = .ok (.iload_n 3, 1) := by decide +kernel
theorem dX7_image_62 : decode cX7_image 62 = .ok (.iadd, 1) := by decide +kernel
theorem dX7_image_63 : decode cX7_image 63 = .ok (.aload_n 0, 1) := by decide +kernel
theorem dX7_image_64 : decode cX7_image 64 = .ok (.getfield 23, 3) := by decide +kernel
theorem dX7_image_67 : decode cX7_image 67 = .ok (.iload_n 3, 1) := by decide +kernel
theorem dX7_image_68 : decode cX7_image 68 = .ok (.iaload, 1) := by decide +kernel
theorem dX7_image_69 : decode cX7_image 69 = .ok (.iastore, 1) := by decide +kernel
theorem dX7_image_70 : decode cX7_image 70 = .ok (.iinc 3 1, 3) := by decide +kernel
theorem dX7_image_73 : decode cX7_image 73 = .ok (.goto (-26), 3) := by decide +kernel
theorem dX7_image_76 : decode cX7_image 76 = .ok (.aload_n 0, 1) := by decide +kernel
theorem dX7_image_77 : decode cX7_image 77 = .ok (.getfield 49, 3) := by decide +kernel
theorem dX7_image_80 : decode cX7_image 80 = .ok (.iload_n 2, 1) := by decide +kernel
theorem dX7_image_81 : decode cX7_image 81 = .ok (.bipush 62, 2) := by decide +kernel
theorem dX7_image_83 : decode cX7_image 83 = .ok (.iadd, 1) := by decide +kernel
theorem dX7_image_84 : decode cX7_image 84 = .ok (.aload_n 0, 1) := by decide +kernel
theorem dX7_image_85 : decode cX7_image 85 = .ok (.getfield 16, 3) := by decide +kernel
theorem dX7_image_88 : decode cX7_image 88 = .ok (.iastore, 1) := by decide +kernel
theorem dX7_image_89 : decode cX7_image 89 = .ok (.aload_n 0, 1) := by decide +kernel
theorem dX7_image_90 : decode cX7_image 90 = .ok (.getfield 49, 3) := by decide +kernel
theorem dX7_image_93 : decode cX7_image 93 = .ok (.iload_n 2, 1) := by decide +kernel
theorem dX7_image_94 : decode cX7_image 94 = .ok (.bipush 63, 2) := by decide +kernel
theorem dX7_image_96 : decode cX7_image 96 = .ok (.iadd, 1) := by decide +kernel
theorem dX7_image_97 : decode cX7_image 97 = .ok (.aload_n 0, 1) := by decide +kernel
theorem dX7_image_98 : decode cX7_image 98 = .ok (.getfield 20, 3) := by decide +kernel
theorem dX7_image_101 : decode cX7_image 101 = .ok (.iastore, 1) := by decide +kernel
theorem dX7_image_102 : decode cX7_image 102 = .ok (.aload_n 0, 1) := by decide +kernel
theorem dX7_image_103 : decode cX7_image 103 = .ok (.getfield 49, 3) := by decide +kernel
theorem dX7_image_106 : decode cX7_image 106 = .ok (.iload_n 2, 1) := by decide +kernel
theorem dX7_image_107 : decode cX7_image 107 = .ok (.bipush 64, 2) := by decide +kernel
theorem dX7_image_109 : decode cX7_image 109 = .ok (.iadd, 1) := by decide +kernel
theorem dX7_image_110 : decode cX7_image 110 = .ok (.aload_n 0, 1) := by decide +kernel
theorem dX7_image_111 : decode cX7_image 111 = .ok (.getfield 140, 3) := by decide +kernel
theorem dX7_image_114 : decode cX7_image 114 = .ok (.iastore, 1) := by decide +kernel
theorem dX7_image_115 : decode cX7_image 115 = .ok (.aload_n 0, 1) := by decide +kernel
theorem dX7_image_116 : decode cX7_image 116 = .ok (.getfield 52, 3) := by decide +kernel
theorem dX7_image_119 : decode cX7_image 119 = .ok (.iload_n 1, 1) := by decide +kernel
theorem dX7_image_120 : decode cX7_image 120 = .ok (.iconst 1, 1) := by decide +kernel
theorem dX7_image_121 : decode cX7_image 121 = .ok (.bastore, 1) := by decide +kernel
theorem dX7_image_122 : decode cX7_image 122 = .ok (.iconst 1, 1) := by decide +kernel
theorem dX7_image_123 : decode cX7_image 123 = .ok (.ireturn, 1) := by decide +kernel
set_option maxRecDepth 20000 in
theorem ggX7_restore_X7_in : GoodIn wsX7_restore wsX7_in := goodIn_r _ [11] (by decide +kernel) (by decide +kernel)
set_option maxRecDepth 20000 in
theorem gX7_restore_X7_in : GoodIn wsX7_restore (va_wsS RX7 55 yX7_in wsX7_in) := goodIn_app (goodIn_of _ (by decide +kernel)) ggX7_restore_X7_in
theorem dX7_restore_0 : decode cX7_restore 0 = .ok (.iload_n 1, 1) := by decide +kernel
theorem dX7_restore_1 : decode cX7_restore 1 = .ok (.iconst 0, 1) := by decide +kernel
theorem dX7_restore_2 : decode cX7_restore 2 = .ok (.iconst 1, 1) := by decide +kernel
theorem dX7_restore_3 : decode cX7_restore 3 = .ok (.invokestatic 55, 3) := by decide +kernel
theorem dX7_restore_6 : decode cX7_restore 6 = .ok (.ifCond .ne 6, 3) := by decide +kernel
theorem dX7_restore_9 : decode cX7_restore 9 = .ok (.bipush (-2), 2) := by decide +kernel
theorem dX7_restore_11 : decode cX7_restore 11 = .ok (.ireturn, 1) := by decide +kernel
theorem dX7_restore_12 : decode cX7_restore 12 = .ok (.aload_n 0, 1) := by decide +kernel
theorem dX7_restore_13 : decode cX7_restore 13 = .ok (.getfield 52, 3) := by decide +kernel
theorem dX7_restore_16 : decode cX7_restore 16 = .ok (.iload_n 1, 1) := by decide +kernel
theorem dX7_restore_17 : decode cX7_restore 17 = .ok (.baload, 1) := by decide +kernel
theorem dX7_restore_18 : decode cX7_restore 18 = .ok (.ifCond .ne 6, 3) := by decide +kernel
theorem dX7_restore_21 : decode cX7_restore 21 = .ok (.bipush (-3), 2) := by decide +kernel
theorem dX7_restore_23 : decode cX7_restore 23 = .ok (.ireturn, 1) := by decide +kernel
theorem dX7_restore_24 : decode cX7_restore 24 = .ok (.bipush 70, 2) := by decide +kernel
theorem dX7_restore_26 : decode cX7_restore 26 = .ok (.iload_n 1, 1) := by decide +kernel
theorem dX7_restore_27 : decode cX7_restore 27 = .ok (.imul, 1) := by decide +kernel
theorem dX7_restore_28 : decode cX7_restore 28 = .ok (.istore_n 2, 1) := by decide +kernel
theorem dX7_restore_29 : decode cX7_restore 29 = .ok (.iconst 0, 1) := by decide +kernel
theorem dX7_restore_30 : decode cX7_restore 30 = .ok (.istore_n 3, 1) := by decide +kernel
theorem dX7_restore_31 : decode cX7_restore 31 = .ok (.iload_n 3, 1) := by decide +kernel
theorem dX7_restore_32 : decode cX7_restore 32 = .ok (.bipush 45, 2) := by decide +kernel
theorem dX7_restore_34 : decode cX7_restore 34 = .ok (.if_icmp .ge 23, 3) := by decide +kernel
theorem dX7_restore_37 : decode cX7_restore 37 = .ok (.aload_n 0, 1) := by decide +kernel
theorem dX7_restore_38 : decode cX7_restore 38 = .ok (.getfield 7, 3) := by decide +kernel
theorem dX7_restore_41 : decode cX7_restore 41 = .ok (.iload_n 3, 1) := by decide +kernel
theorem dX7_restore_42 : decode cX7_restore 42 = .ok (.aload_n 0, 1) := by decide +kernel
theorem dX7_restore_43 : decode cX7_restore 43 = .ok (.getfield 49, 3) := by decide +kernel
theorem dX7_restore_46 : decode cX7_restore 46 = .ok (.iload_n 2, 1) := by decide +kernel
theorem dX7_restore_47 : decode cX7_restore 47 = .ok (.iload_n 3, 1) := by decide +kernel
theorem dX7_restore_48 : decode cX7_restore 48 = .ok (.iadd, 1) := by decide +kernel
theorem dX7_restore_49 : decode cX7_restore 49 = .ok (.iaload, 1) := by decide +kernel
theorem dX7_restore_50 : decode cX7_restore 50 = .ok (.iastore, 1) := by decide +kernel
theorem dX7_restore_51 : decode cX7_restore 51 = .ok (.iinc 3 1, 3) := by decide +kernel
theorem dX7_restore_54 : decode cX7_restore 54 = .ok (.goto (-23), 3) := by decide +kernel
theorem dX7_restore_57 : decode cX7_restore 57 = .ok (.iconst 0, 1) := by decide +kernel
theorem dX7_restore_58 : decode cX7_restore 58 = .ok (.istore_n 3, 1) := by decide +kernel
theorem dX7_restore_59 : decode cX7_restore 59 = .ok (.iload_n 3, 1) := by decide +kernel
theorem dX7_restore_60 : decode cX7_restore 60 = .ok (.bipush 16, 2) := by decide +kernel
theorem dX7_restore_62 : decode cX7_restore 62 = .ok (.if_icmp .ge 26, 3) := by decide +kernel
theorem dX7_restore_65 : decode cX7_restore 65 = .ok (.aload_n 0, 1) := by decide +kernel
theorem dX7_restore_66 : decode cX7_restore 66 = .ok (.getfield 23, 3) := by decide +kernel
theorem dX7_restore_69 : decode cX7_restore 69 = .ok (.iload_n 3, 1) := by decide +kernel
theorem dX7_restore_70 : decode cX7_restore 70 = .ok (.aload_n 0, 1) := by decide +kernel
theorem dX7_restore_71 : decode cX7_restore 71 = .ok (.getfield 49, 3) := by decide +kernel
theorem dX7_restore_74 : decode cX7_restore 74 = .ok (.iload_n 2, 1) := by decide +kernel
theorem dX7_restore_75 : decode cX7_restore 75 = .ok (.bipush 45, 2) := by decide +kernel
theorem dX7_restore_77 : decode cX7_restore 77 = .ok (.iadd, 1) := by decide +kernel
theorem dX7_restore_78 : decode cX7_restore 78 = .ok (.iload_n 3, 1) := by decide +kernel
theorem dX7_restore_79 : decode cX7_restore 79 = .ok (.iadd, 1) := by decide +kernel
theorem dX7_restore_80 : decode cX7_restore 80 = .ok (.iaload, 1) := by decide +kernel
theorem dX7_restore_81 : decode cX7_restore 81 = .ok (.iastore, 1) := by decide +kernel
theorem dX7_restore_82 : decode cX7_restore 82 = .ok (.iinc 3 1, 3) := by decide +kernel
theorem dX7_restore_85 : decode cX7_restore 85 = .ok (.goto (-26), 3) := by decide +kernel
theorem dX7_restore_88 : decode cX7_restore 88 = .ok (.aload_n 0, 1) := by decide +kernel
theorem dX7_restore_89 : decode cX7_restore 89 = .ok (.aload_n 0, 1) := by decide +kernel
theorem dX7_restore_90 : decode cX7_restore 90 = .ok (.getfield 49, 3) := by decide +kernel
theorem dX7_restore_93 : decode cX7_restore 93 = .ok (.iload_n 2, 1) := by decide +kernel
theorem dX7_restore_94 : decode cX7_restore 94 = .ok (.bipush 62, 2) := by decide +kernel
theorem dX7_restore_96 : decode cX7_restore 96 = .ok (.iadd, 1) := by decide +kernel
theorem dX7_restore_97 : decode cX7_restore 97 = .ok (.iaload, 1) := by decide +kernel
theorem dX7_restore_98 : decode cX7_restore 98 = .ok (.putfield 16, 3) := by decide +kernel
theorem dX7_restore_101 : decode cX7_restore 101 = .ok (.aload_n 0, 1) := by decide +kernel
theorem dX7_restore_102 : decode cX7_restore 102 = .ok (.aload_n 0, 1) := by decide +kernel
theorem dX7_restore_103 : decode cX7_restore 103 = .ok (.getfield 49, 3) := by decide +kernel
theorem dX7_restore_106 : decode cX7_restore 106 = .ok (.iload_n 2, 1) := by decide +kernel
theorem dX7_restore_107 : decode cX7_restore 107 = .ok (.bipush 63, 2) := by decide +kernel
theorem dX7_restore_109 : decode cX7_restore 109 = .ok (.iadd, 1) := by decide +kernel
theorem dX7_restore_110 : decode cX7_restore 110 = .ok (.iaload, 1) := by decide +kernel
theorem dX7_restore_111 : decode cX7_restore 111 = .ok (.putfield 20, 3) := by decide +kernel
theorem dX7_restore_114 : decode cX7_restore 114 = .ok (.aload_n 0, 1) := by decide +kernel
theorem dX7_restore_115 : decode cX7_restore 115 = .ok (.aload_n 0, 1) := by decide +kernel
theorem dX7_restore_116 : decode cX7_restore 116 = .ok (.getfield 49, 3) := by decide +kernel
theorem dX7_restore_119 : decode cX7_restore 119 = .ok (.iload_n 2, 1) := by decide +kernel
theorem dX7_restore_120 : decode cX7_restore 120 = .ok (.bipush 64, 2) := by decide +kernel
theorem dX7_restore_122 : decode cX7_restore 122 = .ok (.iadd, 1) := by decide +kernel
theorem dX7_restore_123 : decode cX7_restore 123 = .ok (.iaload, 1) := by decide +kernel
theorem dX7_restore_124 : decode cX7_restore 124 = .ok (.putfield 140, 3) := by decide +kernel
theorem dX7_restore_127 : decode cX7_restore 127 = .ok (.iconst 1, 1) := by decide +kernel
theorem dX7_restore_128 : decode cX7_restore 128 = .ok (.ireturn, 1) := by decide +kernel
set_option maxRecDepth 20000 in
theorem ggX7_told_X7_asNow : GoodIn wsX7_told wsX7_asNow := goodIn_r _ [10, 11, 1, 12, 13, 18, 19, 20, 21, 22, 23, 24, 25, 26, 27, 28, 29, 30, 31, 32, 33, 34, 35, 36, 37] (by decide +kernel) (by decide +kernel)
set_option maxRecDepth 20000 in
theorem gX7_told_X7_asNow : GoodIn wsX7_told (wsV RX7 59 RX7 yX7_asNow wsX7_asNow) := goodIn_app (goodIn_of _ (by decide +kernel)) ggX7_told_X7_asNow
set_option maxRecDepth 20000 in
theorem ggX7_told_X7_within : GoodIn wsX7_told wsX7_within := goodIn_r _ [17, 11, 18, 19, 20, 21, 22, 23, 24, 25, 26, 27, 28, 29, 30, 31, 32, 33, 34, 35, 36, 37] (by decide +kernel) (by decide +kernel)
set_option maxRecDepth 20000 in
theorem gX7_told_X7_within : GoodIn wsX7_told (wsV RX7 62 RX7 yX7_within wsX7_within) := goodIn_app (goodIn_of _ (by decide +kernel)) ggX7_told_X7_within
theorem dX7_told_0 : decode cX7_told 0 = .ok (.iload_n 1, 1) := by decide +kernel
theorem dX7_told_1 : decode cX7_told 1 = .ok (.bipush 30, 2) := by decide +kernel
theorem dX7_told_3 : decode cX7_told 3 = .ok (.if_icmp .lt 24, 3) := by decide +kernel
theorem dX7_told_6 : decode cX7_told 6 = .ok (.iload_n 1, 1) := by decide +kernel
theorem dX7_told_7 : decode cX7_told 7 = .ok (.bipush 60, 2) := by decide +kernel
theorem dX7_told_9 : decode cX7_told 9 = .ok (.if_icmp .ge 15, 3) := by decide +kernel
theorem dX7_told_12 : decode cX7_told 12 = .ok (.aload_n 0, 1) := by decide +kernel
theorem dX7_told_13 : decode cX7_told 13 = .ok (.getfield 7, 3) := by decide +kernel
theorem dX7_told_16 : decode cX7_told 16 = .ok (.iload_n 1, 1) := by decide +kernel
theorem dX7_told_17 : decode cX7_told 17 = .ok (.bipush 18, 2) := by decide +kernel
theorem dX7_told_19 : decode cX7_told 19 = .ok (.isub, 1) := by decide +kernel
theorem dX7_told_20 : decode cX7_told 20 = .ok (.iaload, 1) := by decide +kernel
theorem dX7_told_21 : decode cX7_told 21 = .ok (.goto 5, 3) := by decide +kernel
theorem dX7_told_24 : decode cX7_told 24 = .ok (.bipush (-2), 2) := by decide +kernel
theorem dX7_told_26 : decode cX7_told 26 = .ok (.ireturn, 1) := by decide +kernel
theorem dX7_told_27 : decode cX7_told 27 = .ok (.iload_n 1, 1) := by decide +kernel
theorem dX7_told_28 : decode cX7_told 28 = .ok (.bipush 10, 2) := by decide +kernel
theorem dX7_told_30 : decode cX7_told 30 = .ok (.if_icmp .lt 43, 3) := by decide +kernel
theorem dX7_told_33 : decode cX7_told 33 = .ok (.iload_n 1, 1) := by decide +kernel
theorem dX7_told_34 : decode cX7_told 34 = .ok (.bipush 10, 2) := by decide +kernel
theorem dX7_told_36 : decode cX7_told 36 = .ok (.irem, 1) := by decide +kernel
theorem dX7_told_37 : decode cX7_told 37 = .ok (.istore_n 2, 1) := by decide +kernel
theorem dX7_told_38 : decode cX7_told 38 = .ok (.iload_n 2, 1) := by decide +kernel
theorem dX7_told_39 : decode cX7_told 39 = .ok (.iconst 5, 1) := by decide +kernel
theorem dX7_told_40 : decode cX7_told 40 = .ok (.if_icmp .le 8, 3) := by decide +kernel
theorem dX7_told_43 : decode cX7_told 43 = .ok (.bipush (-2), 2) := by decide +kernel
theorem dX7_told_45 : decode cX7_told 45 = .ok (.goto 27, 3) := by decide +kernel
theorem dX7_told_48 : decode cX7_told 48 = .ok (.iload_n 1, 1) := by decide +kernel
theorem dX7_told_49 : decode cX7_told 49 = .ok (.bipush 20, 2) := by decide +kernel
theorem dX7_told_51 : decode cX7_told 51 = .ok (.if_icmp .ge 12, 3) := by decide +kernel
theorem dX7_told_54 : decode cX7_told 54 = .ok (.aload_n 0, 1) := by decide +kernel
theorem dX7_told_55 : decode cX7_told 55 = .ok (.getfield 7, 3) := by decide +kernel
theorem dX7_told_58 : decode cX7_told 58 = .ok (.iload_n 2, 1) := by decide +kernel
theorem dX7_told_59 : decode cX7_told 59 = .ok (.iaload, 1) := by decide +kernel
theorem dX7_told_60 : decode cX7_told 60 = .ok (.goto 12, 3) := by decide +kernel
theorem dX7_told_63 : decode cX7_told 63 = .ok (.aload_n 0, 1) := by decide +kernel
theorem dX7_told_64 : decode cX7_told 64 = .ok (.getfield 7, 3) := by decide +kernel
theorem dX7_told_67 : decode cX7_told 67 = .ok (.bipush 6, 2) := by decide +kernel
theorem dX7_told_69 : decode cX7_told 69 = .ok (.iload_n 2, 1) := by decide +kernel
theorem dX7_told_70 : decode cX7_told 70 = .ok (.iadd, 1) := by decide +kernel
theorem dX7_told_71 : decode cX7_told 71 = .ok (.iaload, 1) := by decide +kernel
theorem dX7_told_72 : decode cX7_told 72 = .ok (.ireturn, 1) := by decide +kernel
theorem dX7_told_73 : decode cX7_told 73 = .ok (.iload_n 1, 1) := by decide +kernel
theorem dX7_told_74 : decode cX7_told 74 = .ok (.tableswitch 72 0 6 #[42, 47, 47, 47, 57, 62, 67], 42) := by decide +kernel
theorem dX7_told_116 : decode cX7_told 116 = .ok (.aload_n 0, 1) := by decide +kernel
theorem dX7_told_117 : decode cX7_told 117 = .ok (.getfield 69, 3) := by decide +kernel
theorem dX7_told_120 : decode cX7_told 120 = .ok (.ireturn, 1) := by decide +kernel
theorem dX7_told_121 : decode cX7_told 121 = .ok (.aload_n 0, 1) := by decide +kernel
theorem dX7_told_122 : decode cX7_told 122 = .ok (.getfield 7, 3) := by decide +kernel
theorem dX7_told_125 : decode cX7_told 125 = .ok (.bipush 41, 2) := by decide +kernel
theorem dX7_told_127 : decode cX7_told 127 = .ok (.iload_n 1, 1) := by decide +kernel
theorem dX7_told_128 : decode cX7_told 128 = .ok (.iadd, 1) := by decide +kernel
theorem dX7_told_129 : decode cX7_told 129 = .ok (.iaload, 1) := by decide +kernel
theorem dX7_told_130 : decode cX7_told 130 = .ok (.ireturn, 1) := by decide +kernel
theorem dX7_told_131 : decode cX7_told 131 = .ok (.aload_n 0, 1) := by decide +kernel
theorem dX7_told_132 : decode cX7_told 132 = .ok (.getfield 16, 3) := by decide +kernel
theorem dX7_told_135 : decode cX7_told 135 = .ok (.ireturn, 1) := by decide +kernel
theorem dX7_told_136 : decode cX7_told 136 = .ok (.aload_n 0, 1) := by decide +kernel
theorem dX7_told_137 : decode cX7_told 137 = .ok (.getfield 20, 3) := by decide +kernel
theorem dX7_told_140 : decode cX7_told 140 = .ok (.ireturn, 1) := by decide +kernel
theorem dX7_told_141 : decode cX7_told 141 = .ok (.aload_n 0, 1) := by decide +kernel
theorem dX7_told_142 : decode cX7_told 142 = .ok (.getfield 140, 3) := by decide +kernel
theorem dX7_told_145 : decode cX7_told 145 = .ok (.ireturn, 1) := by decide +kernel
theorem dX7_told_146 : decode cX7_told 146 = .ok (.aload_n 0, 1) := by decide +kernel
theorem dX7_told_147 : decode cX7_told 147 = .ok (.invokevirtual 59, 3) := by decide +kernel
theorem dX7_told_150 : decode cX7_told 150 = .ok (.iload_n 1, 1) := by decide +kernel
theorem dX7_told_151 : decode cX7_told 151 = .ok (.bipush 7, 2) := by decide +kernel
theorem dX7_told_153 : decode cX7_told 153 = .ok (.if_icmp .ne 10, 3) := by decide +kernel
theorem dX7_told_156 : decode cX7_told 156 = .ok (.aload_n 0, 1) := by decide +kernel
theorem dX7_told_157 : decode cX7_told 157 = .ok (.invokevirtual 62, 3) := by decide +kernel
theorem dX7_told_160 : decode cX7_told 160 = .ok (.goto 5, 3) := by decide +kernel
theorem dX7_told_163 : decode cX7_told 163 = .ok (.bipush (-2), 2) := by decide +kernel
theorem dX7_told_165 : decode cX7_told 165 = .ok (.ireturn, 1) := by decide +kernel
theorem dJ6_bitCount_0f7a4_0 : decode cJ6_bitCount_0f7a4 0 = .ok (.iload_n 0, 1) := by decide +kernel
theorem dJ6_bitCount_0f7a4_1 : decode cJ6_bitCount_0f7a4 1 = .ok (.iload_n 0, 1) := by decide +kernel
theorem dJ6_bitCount_0f7a4_2 : decode cJ6_bitCount_0f7a4 2 = .ok (.iconst 1, 1) := by decide +kernel
theorem dJ6_bitCount_0f7a4_3 : decode cJ6_bitCount_0f7a4 3 = .ok (.iushr, 1) := by decide +kernel
theorem dJ6_bitCount_0f7a4_4 : decode cJ6_bitCount_0f7a4 4 = .ok (.ldc_w 265, 3) := by decide +kernel
theorem dJ6_bitCount_0f7a4_7 : decode cJ6_bitCount_0f7a4 7 = .ok (.iand, 1) := by decide +kernel
theorem dJ6_bitCount_0f7a4_8 : decode cJ6_bitCount_0f7a4 8 = .ok (.isub, 1) := by decide +kernel
theorem dJ6_bitCount_0f7a4_9 : decode cJ6_bitCount_0f7a4 9 = .ok (.istore_n 0, 1) := by decide +kernel
theorem dJ6_bitCount_0f7a4_10 : decode cJ6_bitCount_0f7a4 10 = .ok (.iload_n 0, 1) := by decide +kernel
theorem dJ6_bitCount_0f7a4_11 : decode cJ6_bitCount_0f7a4 11 = .ok (.ldc_w 266, 3) := by decide +kernel
theorem dJ6_bitCount_0f7a4_14 : decode cJ6_bitCount_0f7a4 14 = .ok (.iand, 1) := by decide +kernel
theorem dJ6_bitCount_0f7a4_15 : decode cJ6_bitCount_0f7a4 15 = .ok (.iload_n 0, 1) := by decide +kernel
theorem dJ6_bitCount_0f7a4_16 : decode cJ6_bitCount_0f7a4 16 = .ok (.iconst 2, 1) := by decide +kernel
theorem dJ6_bitCount_0f7a4_17 : decode cJ6_bitCount_0f7a4 17 = .ok (.iushr, 1) := by decide +kernel
theorem dJ6_bitCount_0f7a4_18 : decode cJ6_bitCount_0f7a4 18 = .ok (.ldc_w 266, 3) := by decide +kernel
theorem dJ6_bitCount_0f7a4_21 : decode cJ6_bitCount_0f7a4 21 = .ok (.iand, 1) := by decide +kernel
theorem dJ6_bitCount_0f7a4_22 : decode cJ6_bitCount_0f7a4 22 = .ok (.iadd, 1) := by decide +kernel
theorem dJ6_bitCount_0f7a4_23 : decode cJ6_bitCount_0f7a4 23 = .ok (.istore_n 0, 1) := by decide +kernel
theorem dJ6_bitCount_0f7a4_24 : decode cJ6_bitCount_0f7a4 24 = .ok (.iload_n 0, 1) := by decide +kernel
theorem dJ6_bitCount_0f7a4_25 : decode cJ6_bitCount_0f7a4 25 = .ok (.iload_n 0, 1) := by decide +kernel
theorem dJ6_bitCount_0f7a4_26 : decode cJ6_bitCount_0f7a4 26 = .ok (.iconst 4, 1) := by decide +kernel
theorem dJ6_bitCount_0f7a4_27 : decode cJ6_bitCount_0f7a4 27 = .ok (.iushr, 1) := by decide +kernel
theorem dJ6_bitCount_0f7a4_28 : decode cJ6_bitCount_0f7a4 28 = .ok (.iadd, 1) := by decide +kernel
theorem dJ6_bitCount_0f7a4_29 : decode cJ6_bitCount_0f7a4 29 = .ok (.ldc_w 267, 3) := by decide +kernel
theorem dJ6_bitCount_0f7a4_32 : decode cJ6_bitCount_0f7a4 32 = .ok (.iand, 1) := by decide +kernel
theorem dJ6_bitCount_0f7a4_33 : decode cJ6_bitCount_0f7a4 33 = .ok (.istore_n 0, 1) := by decide +kernel
theorem dJ6_bitCount_0f7a4_34 : decode cJ6_bitCount_0f7a4 34 = .ok (.iload_n 0, 1) := by decide +kernel
theorem dJ6_bitCount_0f7a4_35 : decode cJ6_bitCount_0f7a4 35 = .ok (.iload_n 0, 1) := by decide +kernel
theorem dJ6_bitCount_0f7a4_36 : decode cJ6_bitCount_0f7a4 36 = .ok (.bipush 8, 2) := by decide +kernel
theorem dJ6_bitCount_0f7a4_38 : decode cJ6_bitCount_0f7a4 38 = .ok (.iushr, 1) := by decide +kernel
theorem dJ6_bitCount_0f7a4_39 : decode cJ6_bitCount_0f7a4 39 = .ok (.iadd, 1) := by decide +kernel
theorem dJ6_bitCount_0f7a4_40 : decode cJ6_bitCount_0f7a4 40 = .ok (.istore_n 0, 1) := by decide +kernel
theorem dJ6_bitCount_0f7a4_41 : decode cJ6_bitCount_0f7a4 41 = .ok (.iload_n 0, 1) := by decide +kernel
theorem dJ6_bitCount_0f7a4_42 : decode cJ6_bitCount_0f7a4 42 = .ok (.iload_n 0, 1) := by decide +kernel
theorem dJ6_bitCount_0f7a4_43 : decode cJ6_bitCount_0f7a4 43 = .ok (.bipush 16, 2) := by decide +kernel
theorem dJ6_bitCount_0f7a4_45 : decode cJ6_bitCount_0f7a4 45 = .ok (.iushr, 1) := by decide +kernel
theorem dJ6_bitCount_0f7a4_46 : decode cJ6_bitCount_0f7a4 46 = .ok (.iadd, 1) := by decide +kernel
theorem dJ6_bitCount_0f7a4_47 : decode cJ6_bitCount_0f7a4 47 = .ok (.istore_n 0, 1) := by decide +kernel
theorem dJ6_bitCount_0f7a4_48 : decode cJ6_bitCount_0f7a4 48 = .ok (.iload_n 0, 1) := by decide +kernel
theorem dJ6_bitCount_0f7a4_49 : decode cJ6_bitCount_0f7a4 49 = .ok (.bipush 63, 2) := by decide +kernel
theorem dJ6_bitCount_0f7a4_51 : decode cJ6_bitCount_0f7a4 51 = .ok (.iand, 1) := by decide +kernel
theorem dJ6_bitCount_0f7a4_52 : decode cJ6_bitCount_0f7a4 52 = .ok (.ireturn, 1) := by decide +kernel
theorem dJ9_max_7cf53_0 : decode cJ9_max_7cf53 0 = .ok (.iload_n 0, 1) := by decide +kernel
theorem dJ9_max_7cf53_1 : decode cJ9_max_7cf53 1 = .ok (.iload_n 1, 1) := by decide +kernel
theorem dJ9_max_7cf53_2 : decode cJ9_max_7cf53 2 = .ok (.if_icmp .lt 7, 3) := by decide +kernel
theorem dJ9_max_7cf53_5 : decode cJ9_max_7cf53 5 = .ok (.iload_n 0, 1) := by decide +kernel
theorem dJ9_max_7cf53_6 : decode cJ9_max_7cf53 6 = .ok (.goto 4, 3) := by decide +kernel
theorem dJ9_max_7cf53_9 : decode cJ9_max_7cf53 9 = .ok (.iload_n 1, 1) := by decide +kernel
theorem dJ9_max_7cf53_10 : decode cJ9_max_7cf53 10 = .ok (.ireturn, 1) := by decide +kernel
theorem dJ9_min_7cf53_0 : decode cJ9_min_7cf53 0 = .ok (.iload_n 0, 1) := by decide +kernel
theorem dJ9_min_7cf53_1 : decode cJ9_min_7cf53 1 = .ok (.iload_n 1, 1) := by decide +kernel
theorem dJ9_min_7cf53_2 : decode cJ9_min_7cf53 2 = .ok (.if_icmp .gt 7, 3) := by decide +kernel
theorem dJ9_min_7cf53_5 : decode cJ9_min_7cf53 5 = .ok (.iload_n 0, 1) := by decide +kernel
theorem dJ9_min_7cf53_6 : decode cJ9_min_7cf53 6 = .ok (.goto 4, 3) := by decide +kernel
theorem dJ9_min_7cf53_9 : decode cJ9_min_7cf53 9 = .ok (.iload_n 1, 1) := by decide +kernel
theorem dJ9_min_7cf53_10 : decode cJ9_min_7cf53 10 = .ok (.ireturn, 1) := by decide +kernel
