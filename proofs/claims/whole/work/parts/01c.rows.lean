theorem dX0_init_0 : decode cX0_init 0 = .ok (.aload_n 0, 1) := by decide +kernel
theorem dX0_init_1 : decode cX0_init 1 = .ok (.invokespecial 1, 3) := by decide +kernel
theorem dX0_init_4 : decode cX0_init 4 = .ok (.aload_n 0, 1) := by decide +kernel
theorem dX0_init_5 : decode cX0_init 5 = .ok (.sipush 3120, 3) := by decide +kernel
theorem dX0_init_8 : decode cX0_init 8 = .ok (.newarray .int, 2) := by decide +kernel
theorem dX0_init_10 : decode cX0_init 10 = .ok (.putfield 11, 3) := by decide +kernel
theorem dX0_init_13 : decode cX0_init 13 = .ok (.aload_n 0, 1) := by decide +kernel
theorem dX0_init_14 : decode cX0_init 14 = .ok (.iconst 0, 1) := by decide +kernel
theorem dX0_init_15 : decode cX0_init 15 = .ok (.putfield 15, 3) := by decide +kernel
theorem dX0_init_18 : decode cX0_init 18 = .ok (.aload_n 0, 1) := by decide +kernel
theorem dX0_init_19 : decode cX0_init 19 = .ok (.iconst 0, 1) := by decide +kernel
theorem dX0_init_20 : decode cX0_init 20 = .ok (.putfield 19, 3) := by decide +kernel
theorem dX0_init_23 : decode cX0_init 23 = .ok (.return_, 1) := by decide +kernel
theorem dX0_clear_0 : decode cX0_clear 0 = .ok (.aload_n 0, 1) := by decide +kernel
theorem dX0_clear_1 : decode cX0_clear 1 = .ok (.iconst 0, 1) := by decide +kernel
theorem dX0_clear_2 : decode cX0_clear 2 = .ok (.putfield 15, 3) := by decide +kernel
theorem dX0_clear_5 : decode cX0_clear 5 = .ok (.aload_n 0, 1) := by decide +kernel
theorem dX0_clear_6 : decode cX0_clear 6 = .ok (.iconst 0, 1) := by decide +kernel
theorem dX0_clear_7 : decode cX0_clear 7 = .ok (.putfield 19, 3) := by decide +kernel
theorem dX0_clear_10 : decode cX0_clear 10 = .ok (.return_, 1) := by decide +kernel
theorem dX0_size_0 : decode cX0_size 0 = .ok (.aload_n 0, 1) := by decide +kernel
theorem dX0_size_1 : decode cX0_size 1 = .ok (.getfield 19, 3) := by decide +kernel
theorem dX0_size_4 : decode cX0_size 4 = .ok (.ireturn, 1) := by decide +kernel
set_option maxRecDepth 100000 in
theorem ggX0_push_X0_startOf : GoodIn wsX0_push wsX0_startOf := goodIn_r _ [12, 2, 13, 14, 15] rfl (by decide +kernel)
set_option maxRecDepth 100000 in
theorem gX0_push_X0_startOf : GoodIn wsX0_push (wsV RX0 25 RX0 yX0_startOf wsX0_startOf) := goodIn_app (goodIn_of _ (by decide +kernel)) ggX0_push_X0_startOf
theorem dX0_push_0 : decode cX0_push 0 = .ok (.aload_n 0, 1) := by decide +kernel
theorem dX0_push_1 : decode cX0_push 1 = .ok (.getfield 19, 3) := by decide +kernel
theorem dX0_push_4 : decode cX0_push 4 = .ok (.bipush 40, 2) := by decide +kernel
theorem dX0_push_6 : decode cX0_push 6 = .ok (.if_icmp .ne 26, 3) := by decide +kernel
theorem dX0_push_9 : decode cX0_push 9 = .ok (.aload_n 0, 1) := by decide +kernel
theorem dX0_push_10 : decode cX0_push 10 = .ok (.aload_n 0, 1) := by decide +kernel
theorem dX0_push_11 : decode cX0_push 11 = .ok (.getfield 15, 3) := by decide +kernel
theorem dX0_push_14 : decode cX0_push 14 = .ok (.iconst 1, 1) := by decide +kernel
theorem dX0_push_15 : decode cX0_push 15 = .ok (.iadd, 1) := by decide +kernel
theorem dX0_push_16 : decode cX0_push 16 = .ok (.bipush 40, 2) := by decide +kernel
theorem dX0_push_18 : decode cX0_push 18 = .ok (.irem, 1) := by decide +kernel
theorem dX0_push_19 : decode cX0_push 19 = .ok (.putfield 15, 3) := by decide +kernel
theorem dX0_push_22 : decode cX0_push 22 = .ok (.aload_n 0, 1) := by decide +kernel
theorem dX0_push_23 : decode cX0_push 23 = .ok (.dup, 1) := by decide +kernel
theorem dX0_push_24 : decode cX0_push 24 = .ok (.getfield 19, 3) := by decide +kernel
theorem dX0_push_27 : decode cX0_push 27 = .ok (.iconst 1, 1) := by decide +kernel
theorem dX0_push_28 : decode cX0_push 28 = .ok (.isub, 1) := by decide +kernel
theorem dX0_push_29 : decode cX0_push 29 = .ok (.putfield 19, 3) := by decide +kernel
theorem dX0_push_32 : decode cX0_push 32 = .ok (.aload_n 1, 1) := by decide +kernel
theorem dX0_push_33 : decode cX0_push 33 = .ok (.getfield 22, 3) := by decide +kernel
theorem dX0_push_36 : decode cX0_push 36 = .ok (.iconst 0, 1) := by decide +kernel
theorem dX0_push_37 : decode cX0_push 37 = .ok (.aload_n 0, 1) := by decide +kernel
theorem dX0_push_38 : decode cX0_push 38 = .ok (.getfield 11, 3) := by decide +kernel
theorem dX0_push_41 : decode cX0_push 41 = .ok (.aload_n 0, 1) := by decide +kernel
theorem dX0_push_42 : decode cX0_push 42 = .ok (.aload_n 0, 1) := by decide +kernel
theorem dX0_push_43 : decode cX0_push 43 = .ok (.getfield 19, 3) := by decide +kernel
theorem dX0_push_46 : decode cX0_push 46 = .ok (.invokevirtual 25, 3) := by decide +kernel
theorem dX0_push_49 : decode cX0_push 49 = .ok (.bipush 78, 2) := by decide +kernel
theorem dX0_push_51 : decode cX0_push 51 = .ok (.invokestatic 29, 3) := by decide +kernel
theorem dX0_push_54 : decode cX0_push 54 = .ok (.aload_n 0, 1) := by decide +kernel
theorem dX0_push_55 : decode cX0_push 55 = .ok (.dup, 1) := by decide +kernel
theorem dX0_push_56 : decode cX0_push 56 = .ok (.getfield 19, 3) := by decide +kernel
theorem dX0_push_59 : decode cX0_push 59 = .ok (.iconst 1, 1) := by decide +kernel
theorem dX0_push_60 : decode cX0_push 60 = .ok (.iadd, 1) := by decide +kernel
theorem dX0_push_61 : decode cX0_push 61 = .ok (.putfield 19, 3) := by decide +kernel
theorem dX0_push_64 : decode cX0_push 64 = .ok (.return_, 1) := by decide +kernel
set_option maxRecDepth 100000 in
theorem ggX0_pop_X0_startOf : GoodIn wsX0_pop wsX0_startOf := goodIn_r _ [11, 12, 13, 14, 15] rfl (by decide +kernel)
set_option maxRecDepth 100000 in
theorem gX0_pop_X0_startOf : GoodIn wsX0_pop (wsV RX0 25 RX0 yX0_startOf wsX0_startOf) := goodIn_app (goodIn_of _ (by decide +kernel)) ggX0_pop_X0_startOf
theorem dX0_pop_0 : decode cX0_pop 0 = .ok (.aload_n 0, 1) := by decide +kernel
theorem dX0_pop_1 : decode cX0_pop 1 = .ok (.getfield 19, 3) := by decide +kernel
theorem dX0_pop_4 : decode cX0_pop 4 = .ok (.ifCond .le 35, 3) := by decide +kernel
theorem dX0_pop_7 : decode cX0_pop 7 = .ok (.aload_n 0, 1) := by decide +kernel
theorem dX0_pop_8 : decode cX0_pop 8 = .ok (.dup, 1) := by decide +kernel
theorem dX0_pop_9 : decode cX0_pop 9 = .ok (.getfield 19, 3) := by decide +kernel
theorem dX0_pop_12 : decode cX0_pop 12 = .ok (.iconst 1, 1) := by decide +kernel
theorem dX0_pop_13 : decode cX0_pop 13 = .ok (.isub, 1) := by decide +kernel
theorem dX0_pop_14 : decode cX0_pop 14 = .ok (.putfield 19, 3) := by decide +kernel
theorem dX0_pop_17 : decode cX0_pop 17 = .ok (.aload_n 0, 1) := by decide +kernel
theorem dX0_pop_18 : decode cX0_pop 18 = .ok (.getfield 11, 3) := by decide +kernel
theorem dX0_pop_21 : decode cX0_pop 21 = .ok (.aload_n 0, 1) := by decide +kernel
theorem dX0_pop_22 : decode cX0_pop 22 = .ok (.aload_n 0, 1) := by decide +kernel
theorem dX0_pop_23 : decode cX0_pop 23 = .ok (.getfield 19, 3) := by decide +kernel
theorem dX0_pop_26 : decode cX0_pop 26 = .ok (.invokevirtual 25, 3) := by decide +kernel
theorem dX0_pop_29 : decode cX0_pop 29 = .ok (.aload_n 1, 1) := by decide +kernel
theorem dX0_pop_30 : decode cX0_pop 30 = .ok (.getfield 22, 3) := by decide +kernel
theorem dX0_pop_33 : decode cX0_pop 33 = .ok (.iconst 0, 1) := by decide +kernel
theorem dX0_pop_34 : decode cX0_pop 34 = .ok (.bipush 78, 2) := by decide +kernel
theorem dX0_pop_36 : decode cX0_pop 36 = .ok (.invokestatic 29, 3) := by decide +kernel
theorem dX0_pop_39 : decode cX0_pop 39 = .ok (.return_, 1) := by decide +kernel
theorem dX0_startOf_0 : decode cX0_startOf 0 = .ok (.aload_n 0, 1) := by decide +kernel
theorem dX0_startOf_1 : decode cX0_startOf 1 = .ok (.getfield 15, 3) := by decide +kernel
theorem dX0_startOf_4 : decode cX0_startOf 4 = .ok (.iload_n 1, 1) := by decide +kernel
theorem dX0_startOf_5 : decode cX0_startOf 5 = .ok (.iadd, 1) := by decide +kernel
theorem dX0_startOf_6 : decode cX0_startOf 6 = .ok (.bipush 40, 2) := by decide +kernel
theorem dX0_startOf_8 : decode cX0_startOf 8 = .ok (.irem, 1) := by decide +kernel
theorem dX0_startOf_9 : decode cX0_startOf 9 = .ok (.bipush 78, 2) := by decide +kernel
theorem dX0_startOf_11 : decode cX0_startOf 11 = .ok (.imul, 1) := by decide +kernel
theorem dX0_startOf_12 : decode cX0_startOf 12 = .ok (.ireturn, 1) := by decide +kernel
theorem dX0_copyFrom_0 : decode cX0_copyFrom 0 = .ok (.aload_n 0, 1) := by decide +kernel
theorem dX0_copyFrom_1 : decode cX0_copyFrom 1 = .ok (.aload_n 1, 1) := by decide +kernel
theorem dX0_copyFrom_2 : decode cX0_copyFrom 2 = .ok (.getfield 15, 3) := by decide +kernel
theorem dX0_copyFrom_5 : decode cX0_copyFrom 5 = .ok (.putfield 15, 3) := by decide +kernel
theorem dX0_copyFrom_8 : decode cX0_copyFrom 8 = .ok (.aload_n 0, 1) := by decide +kernel
theorem dX0_copyFrom_9 : decode cX0_copyFrom 9 = .ok (.aload_n 1, 1) := by decide +kernel
theorem dX0_copyFrom_10 : decode cX0_copyFrom 10 = .ok (.getfield 19, 3) := by decide +kernel
theorem dX0_copyFrom_13 : decode cX0_copyFrom 13 = .ok (.putfield 19, 3) := by decide +kernel
theorem dX0_copyFrom_16 : decode cX0_copyFrom 16 = .ok (.aload_n 1, 1) := by decide +kernel
theorem dX0_copyFrom_17 : decode cX0_copyFrom 17 = .ok (.getfield 11, 3) := by decide +kernel
theorem dX0_copyFrom_20 : decode cX0_copyFrom 20 = .ok (.iconst 0, 1) := by decide +kernel
theorem dX0_copyFrom_21 : decode cX0_copyFrom 21 = .ok (.aload_n 0, 1) := by decide +kernel
theorem dX0_copyFrom_22 : decode cX0_copyFrom 22 = .ok (.getfield 11, 3) := by decide +kernel
theorem dX0_copyFrom_25 : decode cX0_copyFrom 25 = .ok (.iconst 0, 1) := by decide +kernel
theorem dX0_copyFrom_26 : decode cX0_copyFrom 26 = .ok (.aload_n 0, 1) := by decide +kernel
theorem dX0_copyFrom_27 : decode cX0_copyFrom 27 = .ok (.getfield 11, 3) := by decide +kernel
theorem dX0_copyFrom_30 : decode cX0_copyFrom 30 = .ok (.arraylength, 1) := by decide +kernel
theorem dX0_copyFrom_31 : decode cX0_copyFrom 31 = .ok (.invokestatic 29, 3) := by decide +kernel
theorem dX0_copyFrom_34 : decode cX0_copyFrom 34 = .ok (.return_, 1) := by decide +kernel
set_option maxRecDepth 100000 in
theorem ggX1_init_X6_init : GoodIn wsX1_init wsX6_init := goodIn_r _ [15, 16, 2, 3, 17, 18, 19, 20, 21] rfl (by decide +kernel)
set_option maxRecDepth 100000 in
theorem gX1_init_X6_init_n11 : GoodIn wsX1_init (wsX6_init) := ggX1_init_X6_init
theorem dX1_init_0 : decode cX1_init 0 = .ok (.aload_n 0, 1) := by decide +kernel
theorem dX1_init_1 : decode cX1_init 1 = .ok (.invokespecial 3, 3) := by decide +kernel
theorem dX1_init_4 : decode cX1_init 4 = .ok (.aload_n 0, 1) := by decide +kernel
theorem dX1_init_5 : decode cX1_init 5 = .ok (.new 9, 3) := by decide +kernel
theorem dX1_init_8 : decode cX1_init 8 = .ok (.dup, 1) := by decide +kernel
theorem dX1_init_9 : decode cX1_init 9 = .ok (.invokespecial 11, 3) := by decide +kernel
theorem dX1_init_12 : decode cX1_init 12 = .ok (.putfield 12, 3) := by decide +kernel
theorem dX1_init_15 : decode cX1_init 15 = .ok (.aload_n 0, 1) := by decide +kernel
theorem dX1_init_16 : decode cX1_init 16 = .ok (.iconst 0, 1) := by decide +kernel
theorem dX1_init_17 : decode cX1_init 17 = .ok (.putfield 18, 3) := by decide +kernel
theorem dX1_init_20 : decode cX1_init 20 = .ok (.aload_n 0, 1) := by decide +kernel
theorem dX1_init_21 : decode cX1_init 21 = .ok (.iconst 0, 1) := by decide +kernel
theorem dX1_init_22 : decode cX1_init 22 = .ok (.putfield 22, 3) := by decide +kernel
theorem dX1_init_25 : decode cX1_init 25 = .ok (.aload_n 0, 1) := by decide +kernel
theorem dX1_init_26 : decode cX1_init 26 = .ok (.iconst (-1), 1) := by decide +kernel
theorem dX1_init_27 : decode cX1_init 27 = .ok (.putfield 25, 3) := by decide +kernel
theorem dX1_init_30 : decode cX1_init 30 = .ok (.aload_n 0, 1) := by decide +kernel
theorem dX1_init_31 : decode cX1_init 31 = .ok (.iconst 0, 1) := by decide +kernel
theorem dX1_init_32 : decode cX1_init 32 = .ok (.putfield 28, 3) := by decide +kernel
theorem dX1_init_35 : decode cX1_init 35 = .ok (.aload_n 0, 1) := by decide +kernel
theorem dX1_init_36 : decode cX1_init 36 = .ok (.iconst 0, 1) := by decide +kernel
theorem dX1_init_37 : decode cX1_init 37 = .ok (.putfield 31, 3) := by decide +kernel
theorem dX1_init_40 : decode cX1_init 40 = .ok (.aload_n 0, 1) := by decide +kernel
theorem dX1_init_41 : decode cX1_init 41 = .ok (.aload_n 1, 1) := by decide +kernel
theorem dX1_init_42 : decode cX1_init 42 = .ok (.putfield 34, 3) := by decide +kernel
theorem dX1_init_45 : decode cX1_init 45 = .ok (.return_, 1) := by decide +kernel
theorem dX1_countAnew_0 : decode cX1_countAnew 0 = .ok (.aload_n 0, 1) := by decide +kernel
theorem dX1_countAnew_1 : decode cX1_countAnew 1 = .ok (.iconst 0, 1) := by decide +kernel
theorem dX1_countAnew_2 : decode cX1_countAnew 2 = .ok (.putfield 18, 3) := by decide +kernel
theorem dX1_countAnew_5 : decode cX1_countAnew 5 = .ok (.aload_n 0, 1) := by decide +kernel
theorem dX1_countAnew_6 : decode cX1_countAnew 6 = .ok (.iconst 0, 1) := by decide +kernel
theorem dX1_countAnew_7 : decode cX1_countAnew 7 = .ok (.putfield 22, 3) := by decide +kernel
theorem dX1_countAnew_10 : decode cX1_countAnew 10 = .ok (.return_, 1) := by decide +kernel
theorem dX1_pretend_0 : decode cX1_pretend 0 = .ok (.aload_n 0, 1) := by decide +kernel
theorem dX1_pretend_1 : decode cX1_pretend 1 = .ok (.iload_n 1, 1) := by decide +kernel
theorem dX1_pretend_2 : decode cX1_pretend 2 = .ok (.putfield 25, 3) := by decide +kernel
theorem dX1_pretend_5 : decode cX1_pretend 5 = .ok (.aload_n 0, 1) := by decide +kernel
theorem dX1_pretend_6 : decode cX1_pretend 6 = .ok (.iload_n 2, 1) := by decide +kernel
theorem dX1_pretend_7 : decode cX1_pretend 7 = .ok (.putfield 28, 3) := by decide +kernel
theorem dX1_pretend_10 : decode cX1_pretend 10 = .ok (.return_, 1) := by decide +kernel
theorem dX1_memoryOf_0 : decode cX1_memoryOf 0 = .ok (.iload_n 1, 1) := by decide +kernel
theorem dX1_memoryOf_1 : decode cX1_memoryOf 1 = .ok (.aload_n 0, 1) := by decide +kernel
theorem dX1_memoryOf_2 : decode cX1_memoryOf 2 = .ok (.getfield 25, 3) := by decide +kernel
theorem dX1_memoryOf_5 : decode cX1_memoryOf 5 = .ok (.if_icmp .ne 10, 3) := by decide +kernel
theorem dX1_memoryOf_8 : decode cX1_memoryOf 8 = .ok (.aload_n 0, 1) := by decide +kernel
theorem dX1_memoryOf_9 : decode cX1_memoryOf 9 = .ok (.getfield 28, 3) := by decide +kernel
theorem dX1_memoryOf_12 : decode cX1_memoryOf 12 = .ok (.goto 12, 3) := by decide +kernel
theorem dX1_memoryOf_15 : decode cX1_memoryOf 15 = .ok (.aload_n 0, 1) := by decide +kernel
theorem dX1_memoryOf_16 : decode cX1_memoryOf 16 = .ok (.getfield 34, 3) := by decide +kernel
theorem dX1_memoryOf_19 : decode cX1_memoryOf 19 = .ok (.getfield 38, 3) := by decide +kernel
theorem dX1_memoryOf_22 : decode cX1_memoryOf 22 = .ok (.iload_n 1, 1) := by decide +kernel
theorem dX1_memoryOf_23 : decode cX1_memoryOf 23 = .ok (.iaload, 1) := by decide +kernel
theorem dX1_memoryOf_24 : decode cX1_memoryOf 24 = .ok (.ireturn, 1) := by decide +kernel
set_option maxRecDepth 100000 in
theorem ggX1_passDay_X7_holds : GoodIn wsX1_passDay wsX7_holds := goodIn_r _ [5, 6, 7, 8, 3, 9, 10, 134] rfl (by decide +kernel)
set_option maxRecDepth 100000 in
theorem gX1_passDay_X7_holds_n50 : GoodIn wsX1_passDay (wsX7_holds) := ggX1_passDay_X7_holds
set_option maxRecDepth 100000 in
theorem ggX1_passDay_X1_forgetOneNote : GoodIn wsX1_passDay wsX1_forgetOneNote := goodIn_r _ [15, 1, 16, 17, 18, 19, 14, 20, 21, 22, 23, 24, 25, 26, 27, 3, 28, 29, 10, 7, 8, 9, 30, 31, 32, 33, 34, 35, 36, 37, 38, 39, 40, 41, 42, 43, 44, 45, 46, 47, 48, 49, 50, 51, 52, 53, 54, 55, 2, 4, 5, 6, 56, 57, 58, 59, 60, 61, 62, 63, 64, 65, 66, 67, 68, 69, 70, 71, 72, 73, 74, 75, 76, 115, 116, 117, 118, 119, 120, 121, 122, 123, 124, 125, 126, 127, 128, 129, 130, 131, 132, 133, 134, 135, 136] rfl (by decide +kernel)
set_option maxRecDepth 100000 in
theorem gX1_passDay_X1_forgetOneNote : GoodIn wsX1_passDay (wsV RX1 56 RX1 yX1_forgetOneNote wsX1_forgetOneNote) := goodIn_app (goodIn_of _ (by decide +kernel)) ggX1_passDay_X1_forgetOneNote
set_option maxRecDepth 100000 in
theorem ggX1_passDay_X1_teachSeekers : GoodIn wsX1_passDay wsX1_teachSeekers := goodIn_r _ [80, 1, 81, 82, 3, 83, 84, 10, 85, 86, 87, 88, 89, 90, 91, 2, 4, 5, 6, 7, 8, 9, 38, 39, 40, 14, 41, 42, 31, 43, 44, 30, 32, 45, 46, 47, 48, 49, 50, 51, 92, 93, 94, 95, 96, 97, 98, 99, 100, 65, 62, 66, 101, 102, 103, 104, 37, 105, 61, 63, 27, 28, 29, 56, 57, 58, 59, 60, 64, 67, 68, 69, 70, 71, 72, 73, 106, 107, 108, 109, 110, 111, 115, 116, 117, 118, 119, 120, 121, 122, 123, 124, 125, 126, 127, 128, 129, 130, 131, 132, 133, 134, 135, 136] rfl (by decide +kernel)
set_option maxRecDepth 100000 in
theorem gX1_passDay_X1_teachSeekers : GoodIn wsX1_passDay (wsV RX1 60 RX1 yX1_teachSeekers wsX1_teachSeekers) := goodIn_app (goodIn_of _ (by decide +kernel)) ggX1_passDay_X1_teachSeekers
set_option maxRecDepth 100000 in
theorem ggX1_passDay_X7_nextDay : GoodIn wsX1_passDay wsX7_nextDay := goodIn_r _ [114, 10, 134] rfl (by decide +kernel)
set_option maxRecDepth 100000 in
theorem gX1_passDay_X7_nextDay_n64 : GoodIn wsX1_passDay (wsX7_nextDay) := ggX1_passDay_X7_nextDay
theorem dX1_passDay_0 : decode cX1_passDay 0 = .ok (.iconst 0, 1) := by decide +kernel
theorem dX1_passDay_1 : decode cX1_passDay 1 = .ok (.istore_n 3, 1) := by decide +kernel
theorem dX1_passDay_2 : decode cX1_passDay 2 = .ok (.iload_n 2, 1) := by decide +kernel
theorem dX1_passDay_3 : decode cX1_passDay 3 = .ok (.ifCond .ne 59, 3) := by decide +kernel
theorem dX1_passDay_6 : decode cX1_passDay 6 = .ok (.iload_n 3, 1) := by decide +kernel
theorem dX1_passDay_7 : decode cX1_passDay 7 = .ok (.aload_n 0, 1) := by decide +kernel
theorem dX1_passDay_8 : decode cX1_passDay 8 = .ok (.getfield 34, 3) := by decide +kernel
theorem dX1_passDay_11 : decode cX1_passDay 11 = .ok (.getfield 44, 3) := by decide +kernel
theorem dX1_passDay_14 : decode cX1_passDay 14 = .ok (.if_icmp .ge 48, 3) := by decide +kernel
theorem dX1_passDay_17 : decode cX1_passDay 17 = .ok (.iconst 0, 1) := by decide +kernel
theorem dX1_passDay_18 : decode cX1_passDay 18 = .ok (.istore 4, 2) := by decide +kernel
theorem dX1_passDay_20 : decode cX1_passDay 20 = .ok (.iload 4, 2) := by decide +kernel
theorem dX1_passDay_22 : decode cX1_passDay 22 = .ok (.aload_n 0, 1) := by decide +kernel
theorem dX1_passDay_23 : decode cX1_passDay 23 = .ok (.getfield 34, 3) := by decide +kernel
theorem dX1_passDay_26 : decode cX1_passDay 26 = .ok (.getfield 47, 3) := by decide +kernel
theorem dX1_passDay_29 : decode cX1_passDay 29 = .ok (.if_icmp .ge 27, 3) := by decide +kernel
theorem dX1_passDay_32 : decode cX1_passDay 32 = .ok (.aload_n 1, 1) := by decide +kernel
theorem dX1_passDay_33 : decode cX1_passDay 33 = .ok (.iload_n 3, 1) := by decide +kernel
theorem dX1_passDay_34 : decode cX1_passDay 34 = .ok (.iload 4, 2) := by decide +kernel
theorem dX1_passDay_36 : decode cX1_passDay 36 = .ok (.invokevirtual 50, 3) := by decide +kernel
theorem dX1_passDay_39 : decode cX1_passDay 39 = .ok (.ifCond .eq 11, 3) := by decide +kernel
theorem dX1_passDay_42 : decode cX1_passDay 42 = .ok (.aload_n 0, 1) := by decide +kernel
theorem dX1_passDay_43 : decode cX1_passDay 43 = .ok (.aload_n 1, 1) := by decide +kernel
theorem dX1_passDay_44 : decode cX1_passDay 44 = .ok (.iload_n 3, 1) := by decide +kernel
theorem dX1_passDay_45 : decode cX1_passDay 45 = .ok (.iload 4, 2) := by decide +kernel
theorem dX1_passDay_47 : decode cX1_passDay 47 = .ok (.invokevirtual 56, 3) := by decide +kernel
theorem dX1_passDay_50 : decode cX1_passDay 50 = .ok (.iinc 4 1, 3) := by decide +kernel
theorem dX1_passDay_53 : decode cX1_passDay 53 = .ok (.goto (-33), 3) := by decide +kernel
theorem dX1_passDay_56 : decode cX1_passDay 56 = .ok (.iinc 3 1, 3) := by decide +kernel
theorem dX1_passDay_59 : decode cX1_passDay 59 = .ok (.goto (-57), 3) := by decide +kernel
theorem dX1_passDay_62 : decode cX1_passDay 62 = .ok (.aload_n 0, 1) := by decide +kernel
theorem dX1_passDay_63 : decode cX1_passDay 63 = .ok (.aload_n 1, 1) := by decide +kernel
theorem dX1_passDay_64 : decode cX1_passDay 64 = .ok (.invokevirtual 60, 3) := by decide +kernel
theorem dX1_passDay_67 : decode cX1_passDay 67 = .ok (.aload_n 1, 1) := by decide +kernel
theorem dX1_passDay_68 : decode cX1_passDay 68 = .ok (.invokevirtual 64, 3) := by decide +kernel
theorem dX1_passDay_71 : decode cX1_passDay 71 = .ok (.return_, 1) := by decide +kernel
set_option maxRecDepth 100000 in
theorem ggX1_forgetOneNote_X1_placeByMemory : GoodIn wsX1_forgetOneNote wsX1_placeByMemory := goodIn_r _ [7, 1, 8, 9, 10, 6, 11, 12, 13, 14, 15, 16, 17, 18, 19, 20, 21, 22, 23, 24, 73, 74, 75, 76, 77, 78, 79, 80, 81, 82, 83, 84, 85, 86, 87, 88, 89, 90, 91, 92] rfl (by decide +kernel)
set_option maxRecDepth 100000 in
theorem gX1_forgetOneNote_X1_placeByMemory : GoodIn wsX1_forgetOneNote (wsV RX1 70 RX1 yX1_placeByMemory wsX1_placeByMemory) := goodIn_app (goodIn_of _ (by decide +kernel)) ggX1_forgetOneNote_X1_placeByMemory
set_option maxRecDepth 100000 in
theorem ggX1_forgetOneNote_X1_placeByRule : GoodIn wsX1_forgetOneNote wsX1_placeByRule := goodIn_r _ [28, 29, 1, 19, 15, 20, 21, 18, 8, 9, 10, 6, 11, 12, 13, 30, 31, 32, 33, 34, 23, 35, 36, 22, 24, 37, 38, 39, 40, 41, 42, 43, 44, 45, 46, 47, 48, 49, 50, 51, 14, 16, 17, 52, 53, 54, 55, 56, 57, 58, 59, 60, 61, 62, 63, 64, 65, 66, 67, 73, 74, 75, 76, 77, 78, 79, 93, 94, 80, 81, 82, 83, 84, 85, 86, 87, 88, 89, 90, 91, 92] rfl (by decide +kernel)
set_option maxRecDepth 100000 in
theorem gX1_forgetOneNote_X1_placeByRule : GoodIn wsX1_forgetOneNote (wsV RX1 74 RX1 yX1_placeByRule wsX1_placeByRule) := goodIn_app (goodIn_of _ (by decide +kernel)) ggX1_forgetOneNote_X1_placeByRule
set_option maxRecDepth 100000 in
theorem ggX1_forgetOneNote_X7_notes : GoodIn wsX1_forgetOneNote wsX7_notes := goodIn_r _ [21, 18, 92] rfl (by decide +kernel)
set_option maxRecDepth 100000 in
theorem gX1_forgetOneNote_X7_notes_n77 : GoodIn wsX1_forgetOneNote (wsX7_notes) := ggX1_forgetOneNote_X7_notes
set_option maxRecDepth 100000 in
theorem ggX1_forgetOneNote_X11_withNote : GoodIn wsX1_forgetOneNote wsX11_withNote := goodIn_r _ [69] rfl (by decide +kernel)
set_option maxRecDepth 100000 in
theorem gX1_forgetOneNote_X11_withNote_n81 : GoodIn wsX1_forgetOneNote (wsX11_withNote) := ggX1_forgetOneNote_X11_withNote
set_option maxRecDepth 100000 in
theorem ggX1_forgetOneNote_X7_setNotes : GoodIn wsX1_forgetOneNote wsX7_setNotes := goodIn_r _ [72, 18, 92] rfl (by decide +kernel)
set_option maxRecDepth 100000 in
theorem gX1_forgetOneNote_X7_setNotes_n85 : GoodIn wsX1_forgetOneNote (wsX7_setNotes) := ggX1_forgetOneNote_X7_setNotes
theorem dX1_forgetOneNote_0 : decode cX1_forgetOneNote 0 = .ok (.aload_n 0, 1) := by decide +kernel
theorem dX1_forgetOneNote_1 : decode cX1_forgetOneNote 1 = .ok (.getfield 34, 3) := by decide +kernel
theorem dX1_forgetOneNote_4 : decode cX1_forgetOneNote 4 = .ok (.getfield 67, 3) := by decide +kernel
theorem dX1_forgetOneNote_7 : decode cX1_forgetOneNote 7 = .ok (.iconst (-1), 1) := by decide +kernel
theorem dX1_forgetOneNote_8 : decode cX1_forgetOneNote 8 = .ok (.if_icmp .ne 13, 3) := by decide +kernel
theorem dX1_forgetOneNote_11 : decode cX1_forgetOneNote 11 = .ok (.aload_n 0, 1) := by decide +kernel
theorem dX1_forgetOneNote_12 : decode cX1_forgetOneNote 12 = .ok (.aload_n 1, 1) := by decide +kernel
theorem dX1_forgetOneNote_13 : decode cX1_forgetOneNote 13 = .ok (.iload_n 2, 1) := by decide +kernel
theorem dX1_forgetOneNote_14 : decode cX1_forgetOneNote 14 = .ok (.iload_n 3, 1) := by decide +kernel
theorem dX1_forgetOneNote_15 : decode cX1_forgetOneNote 15 = .ok (.invokevirtual 70, 3) := by decide +kernel
theorem dX1_forgetOneNote_18 : decode cX1_forgetOneNote 18 = .ok (.goto 10, 3) := by decide +kernel
theorem dX1_forgetOneNote_21 : decode cX1_forgetOneNote 21 = .ok (.aload_n 0, 1) := by decide +kernel
theorem dX1_forgetOneNote_22 : decode cX1_forgetOneNote 22 = .ok (.aload_n 1, 1) := by decide +kernel
theorem dX1_forgetOneNote_23 : decode cX1_forgetOneNote 23 = .ok (.iload_n 2, 1) := by decide +kernel
theorem dX1_forgetOneNote_24 : decode cX1_forgetOneNote 24 = .ok (.iload_n 3, 1) := by decide +kernel
theorem dX1_forgetOneNote_25 : decode cX1_forgetOneNote 25 = .ok (.invokevirtual 74, 3) := by decide +kernel
theorem dX1_forgetOneNote_28 : decode cX1_forgetOneNote 28 = .ok (.istore 4, 2) := by decide +kernel
theorem dX1_forgetOneNote_30 : decode cX1_forgetOneNote 30 = .ok (.iload 4, 2) := by decide +kernel
theorem dX1_forgetOneNote_32 : decode cX1_forgetOneNote 32 = .ok (.iconst (-1), 1) := by decide +kernel
theorem dX1_forgetOneNote_33 : decode cX1_forgetOneNote 33 = .ok (.if_icmp .eq 31, 3) := by decide +kernel
theorem dX1_forgetOneNote_36 : decode cX1_forgetOneNote 36 = .ok (.aload_n 1, 1) := by decide +kernel
theorem dX1_forgetOneNote_37 : decode cX1_forgetOneNote 37 = .ok (.iload_n 2, 1) := by decide +kernel
theorem dX1_forgetOneNote_38 : decode cX1_forgetOneNote 38 = .ok (.iload_n 3, 1) := by decide +kernel
theorem dX1_forgetOneNote_39 : decode cX1_forgetOneNote 39 = .ok (.aload_n 1, 1) := by decide +kernel
theorem dX1_forgetOneNote_40 : decode cX1_forgetOneNote 40 = .ok (.iload_n 2, 1) := by decide +kernel
theorem dX1_forgetOneNote_41 : decode cX1_forgetOneNote 41 = .ok (.iload_n 3, 1) := by decide +kernel
theorem dX1_forgetOneNote_42 : decode cX1_forgetOneNote 42 = .ok (.invokevirtual 77, 3) := by decide +kernel
theorem dX1_forgetOneNote_45 : decode cX1_forgetOneNote 45 = .ok (.iload 4, 2) := by decide +kernel
theorem dX1_forgetOneNote_47 : decode cX1_forgetOneNote 47 = .ok (.iconst (-1), 1) := by decide +kernel
theorem dX1_forgetOneNote_48 : decode cX1_forgetOneNote 48 = .ok (.invokestatic 81, 3) := by decide +kernel
theorem dX1_forgetOneNote_51 : decode cX1_forgetOneNote 51 = .ok (.invokevirtual 85, 3) := by decide +kernel
theorem dX1_forgetOneNote_54 : decode cX1_forgetOneNote 54 = .ok (.aload_n 0, 1) := by decide +kernel
theorem dX1_forgetOneNote_55 : decode cX1_forgetOneNote 55 = .ok (.dup, 1) := by decide +kernel
theorem dX1_forgetOneNote_56 : decode cX1_forgetOneNote 56 = .ok (.getfield 22, 3) := by decide +kernel
theorem dX1_forgetOneNote_59 : decode cX1_forgetOneNote 59 = .ok (.iconst 1, 1) := by decide +kernel
theorem dX1_forgetOneNote_60 : decode cX1_forgetOneNote 60 = .ok (.iadd, 1) := by decide +kernel
theorem dX1_forgetOneNote_61 : decode cX1_forgetOneNote 61 = .ok (.putfield 22, 3) := by decide +kernel
theorem dX1_forgetOneNote_64 : decode cX1_forgetOneNote 64 = .ok (.return_, 1) := by decide +kernel
set_option maxRecDepth 100000 in
theorem ggX1_placeByMemory_X1_memoryOf : GoodIn wsX1_placeByMemory wsX1_memoryOf := goodIn_r _ [6, 7, 8, 1, 20, 21, 22, 23, 24, 25, 26, 27, 28, 29, 30, 31, 32, 33, 34, 35, 36, 37, 38] rfl (by decide +kernel)
set_option maxRecDepth 100000 in
theorem gX1_placeByMemory_X1_memoryOf : GoodIn wsX1_placeByMemory (wsV RX1 89 RX1 yX1_memoryOf wsX1_memoryOf) := goodIn_app (goodIn_of _ (by decide +kernel)) ggX1_placeByMemory_X1_memoryOf
set_option maxRecDepth 100000 in
theorem ggX1_placeByMemory_X7_day : GoodIn wsX1_placeByMemory wsX7_day := goodIn_r _ [12, 13, 39] rfl (by decide +kernel)
set_option maxRecDepth 100000 in
theorem gX1_placeByMemory_X7_day_n93 : GoodIn wsX1_placeByMemory (wsX7_day) := ggX1_placeByMemory_X7_day
set_option maxRecDepth 100000 in
theorem ggX1_placeByMemory_X7_notes : GoodIn wsX1_placeByMemory wsX7_notes := goodIn_r _ [16, 13, 39] rfl (by decide +kernel)
set_option maxRecDepth 100000 in
theorem gX1_placeByMemory_X7_notes_n77 : GoodIn wsX1_placeByMemory (wsX7_notes) := ggX1_placeByMemory_X7_notes
set_option maxRecDepth 100000 in
theorem ggX1_placeByMemory_X11_noteAt : GoodIn wsX1_placeByMemory wsX11_noteAt := goodIn_r _ [19] rfl (by decide +kernel)
set_option maxRecDepth 100000 in
theorem gX1_placeByMemory_X11_noteAt_n100 : GoodIn wsX1_placeByMemory (wsX11_noteAt) := ggX1_placeByMemory_X11_noteAt
theorem dX1_placeByMemory_0 : decode cX1_placeByMemory 0 = .ok (.aload_n 0, 1) := by decide +kernel
theorem dX1_placeByMemory_1 : decode cX1_placeByMemory 1 = .ok (.iload_n 2, 1) := by decide +kernel
theorem dX1_placeByMemory_2 : decode cX1_placeByMemory 2 = .ok (.invokevirtual 89, 3) := by decide +kernel
theorem dX1_placeByMemory_5 : decode cX1_placeByMemory 5 = .ok (.iconst 1, 1) := by decide +kernel
theorem dX1_placeByMemory_6 : decode cX1_placeByMemory 6 = .ok (.iadd, 1) := by decide +kernel
theorem dX1_placeByMemory_7 : decode cX1_placeByMemory 7 = .ok (.istore 4, 2) := by decide +kernel
theorem dX1_placeByMemory_9 : decode cX1_placeByMemory 9 = .ok (.iload 4, 2) := by decide +kernel
theorem dX1_placeByMemory_11 : decode cX1_placeByMemory 11 = .ok (.ifCond .le 13, 3) := by decide +kernel
theorem dX1_placeByMemory_14 : decode cX1_placeByMemory 14 = .ok (.aload_n 1, 1) := by decide +kernel
theorem dX1_placeByMemory_15 : decode cX1_placeByMemory 15 = .ok (.invokevirtual 93, 3) := by decide +kernel
theorem dX1_placeByMemory_18 : decode cX1_placeByMemory 18 = .ok (.iload 4, 2) := by decide +kernel
theorem dX1_placeByMemory_20 : decode cX1_placeByMemory 20 = .ok (.irem, 1) := by decide +kernel
theorem dX1_placeByMemory_21 : decode cX1_placeByMemory 21 = .ok (.ifCond .eq 5, 3) := by decide +kernel
theorem dX1_placeByMemory_24 : decode cX1_placeByMemory 24 = .ok (.iconst (-1), 1) := by decide +kernel
theorem dX1_placeByMemory_25 : decode cX1_placeByMemory 25 = .ok (.ireturn, 1) := by decide +kernel
theorem dX1_placeByMemory_26 : decode cX1_placeByMemory 26 = .ok (.aload_n 1, 1) := by decide +kernel
theorem dX1_placeByMemory_27 : decode cX1_placeByMemory 27 = .ok (.iload_n 2, 1) := by decide +kernel
theorem dX1_placeByMemory_28 : decode cX1_placeByMemory 28 = .ok (.iload_n 3, 1) := by decide +kernel
theorem dX1_placeByMemory_29 : decode cX1_placeByMemory 29 = .ok (.invokevirtual 77, 3) := by decide +kernel
theorem dX1_placeByMemory_32 : decode cX1_placeByMemory 32 = .ok (.istore 5, 2) := by decide +kernel
theorem dX1_placeByMemory_34 : decode cX1_placeByMemory 34 = .ok (.iconst 0, 1) := by decide +kernel
theorem dX1_placeByMemory_35 : decode cX1_placeByMemory 35 = .ok (.istore 6, 2) := by decide +kernel
theorem dX1_placeByMemory_37 : decode cX1_placeByMemory 37 = .ok (.iload 6, 2) := by decide +kernel
theorem dX1_placeByMemory_39 : decode cX1_placeByMemory 39 = .ok (.aload_n 0, 1) := by decide +kernel
theorem dX1_placeByMemory_40 : decode cX1_placeByMemory 40 = .ok (.getfield 34, 3) := by decide +kernel
theorem dX1_placeByMemory_43 : decode cX1_placeByMemory 43 = .ok (.getfield 97, 3) := by decide +kernel
theorem dX1_placeByMemory_46 : decode cX1_placeByMemory 46 = .ok (.iload_n 3, 1) := by decide +kernel
theorem dX1_placeByMemory_47 : decode cX1_placeByMemory 47 = .ok (.iaload, 1) := by decide +kernel
theorem dX1_placeByMemory_48 : decode cX1_placeByMemory 48 = .ok (.if_icmp .ge 23, 3) := by decide +kernel
theorem dX1_placeByMemory_51 : decode cX1_placeByMemory 51 = .ok (.iload 5, 2) := by decide +kernel
theorem dX1_placeByMemory_53 : decode cX1_placeByMemory 53 = .ok (.iload 6, 2) := by decide +kernel
theorem dX1_placeByMemory_55 : decode cX1_placeByMemory 55 = .ok (.invokestatic 100, 3) := by decide +kernel
theorem dX1_placeByMemory_58 : decode cX1_placeByMemory 58 = .ok (.iconst (-1), 1) := by decide +kernel
theorem dX1_placeByMemory_59 : decode cX1_placeByMemory 59 = .ok (.if_icmp .eq 6, 3) := by decide +kernel
theorem dX1_placeByMemory_62 : decode cX1_placeByMemory 62 = .ok (.iload 6, 2) := by decide +kernel
theorem dX1_placeByMemory_64 : decode cX1_placeByMemory 64 = .ok (.ireturn, 1) := by decide +kernel
theorem dX1_placeByMemory_65 : decode cX1_placeByMemory 65 = .ok (.iinc 6 1, 3) := by decide +kernel
theorem dX1_placeByMemory_68 : decode cX1_placeByMemory 68 = .ok (.goto (-31), 3) := by decide +kernel
theorem dX1_placeByMemory_71 : decode cX1_placeByMemory 71 = .ok (.iconst (-1), 1) := by decide +kernel
theorem dX1_placeByMemory_72 : decode cX1_placeByMemory 72 = .ok (.ireturn, 1) := by decide +kernel
set_option maxRecDepth 100000 in
theorem ggX1_placeByRule_X7_notes : GoodIn wsX1_placeByRule wsX7_notes := goodIn_r _ [6, 7, 80] rfl (by decide +kernel)
set_option maxRecDepth 100000 in
theorem gX1_placeByRule_X7_notes_n77 : GoodIn wsX1_placeByRule (wsX7_notes) := ggX1_placeByRule_X7_notes
set_option maxRecDepth 100000 in
theorem ggX1_placeByRule_X1_memoryOf : GoodIn wsX1_placeByRule wsX1_memoryOf := goodIn_r _ [12, 13, 14, 2, 59, 60, 61, 62, 63, 64, 65, 68, 69, 70, 71, 72, 73, 74, 75, 76, 77, 78, 79] rfl (by decide +kernel)
set_option maxRecDepth 100000 in
theorem gX1_placeByRule_X1_memoryOf : GoodIn wsX1_placeByRule (wsV RX1 89 RX1 yX1_memoryOf wsX1_memoryOf) := goodIn_app (goodIn_of _ (by decide +kernel)) ggX1_placeByRule_X1_memoryOf
set_option maxRecDepth 100000 in
theorem ggX1_placeByRule_X1_gapsIn : GoodIn wsX1_placeByRule wsX1_gapsIn := goodIn_r _ [18, 2, 19, 20, 21, 22, 23, 24, 25, 26, 27, 28, 29, 30, 31, 59, 60, 61, 62, 63, 64, 65, 68, 69, 70, 71, 72, 73, 74, 75, 76, 77, 78, 79] rfl (by decide +kernel)
set_option maxRecDepth 100000 in
theorem gX1_placeByRule_X1_gapsIn : GoodIn wsX1_placeByRule (wsV RX1 109 RX1 yX1_gapsIn wsX1_gapsIn) := goodIn_app (goodIn_of _ (by decide +kernel)) ggX1_placeByRule_X1_gapsIn
set_option maxRecDepth 100000 in
theorem ggX1_placeByRule_X1_othersWith : GoodIn wsX1_placeByRule wsX1_othersWith := goodIn_r _ [35, 2, 36, 4, 37, 38, 39, 3, 5, 6, 7, 59, 60, 61, 62, 63, 64, 65, 68, 69, 70, 71, 72, 73, 74, 75, 76, 77, 78, 79, 80] rfl (by decide +kernel)
set_option maxRecDepth 100000 in
theorem gX1_placeByRule_X1_othersWith : GoodIn wsX1_placeByRule (wsV RX1 112 RX1 yX1_othersWith wsX1_othersWith) := goodIn_app (goodIn_of _ (by decide +kernel)) ggX1_placeByRule_X1_othersWith
set_option maxRecDepth 100000 in
theorem ggX1_placeByRule_X7_day : GoodIn wsX1_placeByRule wsX7_day := goodIn_r _ [42, 7, 80] rfl (by decide +kernel)
set_option maxRecDepth 100000 in
theorem gX1_placeByRule_X7_day_n93 : GoodIn wsX1_placeByRule (wsX7_day) := ggX1_placeByRule_X7_day
set_option maxRecDepth 100000 in
theorem ggX1_placeByRule_X11_noteAt : GoodIn wsX1_placeByRule wsX11_noteAt := goodIn_r _ [24] rfl (by decide +kernel)
set_option maxRecDepth 100000 in
theorem gX1_placeByRule_X11_noteAt_n100 : GoodIn wsX1_placeByRule (wsX11_noteAt) := ggX1_placeByRule_X11_noteAt
set_option maxRecDepth 100000 in
theorem ggX1_placeByRule_X6_reckon : GoodIn wsX1_placeByRule wsX6_reckon := goodIn_r _ [46, 47, 48, 49, 50, 51, 52, 53, 54, 55, 56, 57, 44, 58, 66, 67] rfl (by decide +kernel)
set_option maxRecDepth 100000 in
theorem gX1_placeByRule_X6_reckon_n121 : GoodIn wsX1_placeByRule (wsX6_reckon) := ggX1_placeByRule_X6_reckon
theorem dX1_placeByRule_0 : decode cX1_placeByRule 0 = .ok (.aload_n 1, 1) := by decide +kernel
theorem dX1_placeByRule_1 : decode cX1_placeByRule 1 = .ok (.iload_n 2, 1) := by decide +kernel
theorem dX1_placeByRule_2 : decode cX1_placeByRule 2 = .ok (.iload_n 3, 1) := by decide +kernel
theorem dX1_placeByRule_3 : decode cX1_placeByRule 3 = .ok (.invokevirtual 77, 3) := by decide +kernel
theorem dX1_placeByRule_6 : decode cX1_placeByRule 6 = .ok (.istore 4, 2) := by decide +kernel
theorem dX1_placeByRule_8 : decode cX1_placeByRule 8 = .ok (.aload_n 0, 1) := by decide +kernel
theorem dX1_placeByRule_9 : decode cX1_placeByRule 9 = .ok (.getfield 12, 3) := by decide +kernel
theorem dX1_placeByRule_12 : decode cX1_placeByRule 12 = .ok (.getfield 103, 3) := by decide +kernel
theorem dX1_placeByRule_15 : decode cX1_placeByRule 15 = .ok (.astore 5, 2) := by decide +kernel
theorem dX1_placeByRule_17 : decode cX1_placeByRule 17 = .ok (.aload 5, 2) := by decide +kernel
theorem dX1_placeByRule_19 : decode cX1_placeByRule 19 = .ok (.iconst 0, 1) := by decide +kernel
theorem dX1_placeByRule_20 : decode cX1_placeByRule 20 = .ok (.aload_n 0, 1) := by decide +kernel
theorem dX1_placeByRule_21 : decode cX1_placeByRule 21 = .ok (.iload_n 2, 1) := by decide +kernel
theorem dX1_placeByRule_22 : decode cX1_placeByRule 22 = .ok (.invokevirtual 89, 3) := by decide +kernel
theorem dX1_placeByRule_25 : decode cX1_placeByRule 25 = .ok (.iastore, 1) := by decide +kernel
theorem dX1_placeByRule_26 : decode cX1_placeByRule 26 = .ok (.aload 5, 2) := by decide +kernel
theorem dX1_placeByRule_28 : decode cX1_placeByRule 28 = .ok (.iconst 1, 1) := by decide +kernel
theorem dX1_placeByRule_29 : decode cX1_placeByRule 29 = .ok (.aload_n 0, 1) := by decide +kernel
theorem dX1_placeByRule_30 : decode cX1_placeByRule 30 = .ok (.getfield 34, 3) := by decide +kernel
theorem dX1_placeByRule_33 : decode cX1_placeByRule 33 = .ok (.getfield 106, 3) := by decide +kernel
theorem dX1_placeByRule_36 : decode cX1_placeByRule 36 = .ok (.iload_n 2, 1) := by decide +kernel
theorem dX1_placeByRule_37 : decode cX1_placeByRule 37 = .ok (.iaload, 1) := by decide +kernel
theorem dX1_placeByRule_38 : decode cX1_placeByRule 38 = .ok (.iastore, 1) := by decide +kernel
theorem dX1_placeByRule_39 : decode cX1_placeByRule 39 = .ok (.aload 5, 2) := by decide +kernel
theorem dX1_placeByRule_41 : decode cX1_placeByRule 41 = .ok (.iconst 4, 1) := by decide +kernel
theorem dX1_placeByRule_42 : decode cX1_placeByRule 42 = .ok (.aload_n 0, 1) := by decide +kernel
theorem dX1_placeByRule_43 : decode cX1_placeByRule 43 = .ok (.iload_n 3, 1) := by decide +kernel
theorem dX1_placeByRule_44 : decode cX1_placeByRule 44 = .ok (.iload 4, 2) := by decide +kernel
theorem dX1_placeByRule_46 : decode cX1_placeByRule 46 = .ok (.invokevirtual 109, 3) := by decide +kernel
theorem dX1_placeByRule_49 : decode cX1_placeByRule 49 = .ok (.iastore, 1) := by decide +kernel
theorem dX1_placeByRule_50 : decode cX1_placeByRule 50 = .ok (.aload 5, 2) := by decide +kernel
theorem dX1_placeByRule_52 : decode cX1_placeByRule 52 = .ok (.iconst 5, 1) := by decide +kernel
theorem dX1_placeByRule_53 : decode cX1_placeByRule 53 = .ok (.aload_n 0, 1) := by decide +kernel
theorem dX1_placeByRule_54 : decode cX1_placeByRule 54 = .ok (.aload_n 1, 1) := by decide +kernel
theorem dX1_placeByRule_55 : decode cX1_placeByRule 55 = .ok (.iload_n 2, 1) := by decide +kernel
theorem dX1_placeByRule_56 : decode cX1_placeByRule 56 = .ok (.iload_n 3, 1) := by decide +kernel
theorem dX1_placeByRule_57 : decode cX1_placeByRule 57 = .ok (.invokevirtual 112, 3) := by decide +kernel
theorem dX1_placeByRule_60 : decode cX1_placeByRule 60 = .ok (.iastore, 1) := by decide +kernel
theorem dX1_placeByRule_61 : decode cX1_placeByRule 61 = .ok (.aload 5, 2) := by decide +kernel
theorem dX1_placeByRule_63 : decode cX1_placeByRule 63 = .ok (.bipush 6, 2) := by decide +kernel
theorem dX1_placeByRule_65 : decode cX1_placeByRule 65 = .ok (.aload_n 1, 1) := by decide +kernel
theorem dX1_placeByRule_66 : decode cX1_placeByRule 66 = .ok (.invokevirtual 93, 3) := by decide +kernel
theorem dX1_placeByRule_69 : decode cX1_placeByRule 69 = .ok (.iastore, 1) := by decide +kernel
theorem dX1_placeByRule_70 : decode cX1_placeByRule 70 = .ok (.iconst 0, 1) := by decide +kernel
theorem dX1_placeByRule_71 : decode cX1_placeByRule 71 = .ok (.istore 6, 2) := by decide +kernel
theorem dX1_placeByRule_73 : decode cX1_placeByRule 73 = .ok (.iload 6, 2) := by decide +kernel
theorem dX1_placeByRule_75 : decode cX1_placeByRule 75 = .ok (.aload_n 0, 1) := by decide +kernel
theorem dX1_placeByRule_76 : decode cX1_placeByRule 76 = .ok (.getfield 34, 3) := by decide +kernel
theorem dX1_placeByRule_79 : decode cX1_placeByRule 79 = .ok (.getfield 97, 3) := by decide +kernel
theorem dX1_placeByRule_82 : decode cX1_placeByRule 82 = .ok (.iload_n 3, 1) := by decide +kernel
theorem dX1_placeByRule_83 : decode cX1_placeByRule 83 = .ok (.iaload, 1) := by decide +kernel
theorem dX1_placeByRule_84 : decode cX1_placeByRule 84 = .ok (.if_icmp .ge 70, 3) := by decide +kernel
theorem dX1_placeByRule_87 : decode cX1_placeByRule 87 = .ok (.iload 4, 2) := by decide +kernel
theorem dX1_placeByRule_89 : decode cX1_placeByRule 89 = .ok (.iload 6, 2) := by decide +kernel
theorem dX1_placeByRule_91 : decode cX1_placeByRule 91 = .ok (.invokestatic 100, 3) := by decide +kernel
theorem dX1_placeByRule_94 : decode cX1_placeByRule 94 = .ok (.istore 7, 2) := by decide +kernel
theorem dX1_placeByRule_96 : decode cX1_placeByRule 96 = .ok (.iload 7, 2) := by decide +kernel
theorem dX1_placeByRule_98 : decode cX1_placeByRule 98 = .ok (.iconst (-1), 1) := by decide +kernel
theorem dX1_placeByRule_99 : decode cX1_placeByRule 99 = .ok (.if_icmp .eq 49, 3) := by decide +kernel
theorem dX1_placeByRule_102 : decode cX1_placeByRule 102 = .ok (.aload 5, 2) := by decide +kernel
theorem dX1_placeByRule_104 : decode cX1_placeByRule 104 = .ok (.iconst 2, 1) := by decide +kernel
theorem dX1_placeByRule_105 : decode cX1_placeByRule 105 = .ok (.iload 7, 2) := by decide +kernel
theorem dX1_placeByRule_107 : decode cX1_placeByRule 107 = .ok (.iastore, 1) := by decide +kernel
theorem dX1_placeByRule_108 : decode cX1_placeByRule 108 = .ok (.aload 5, 2) := by decide +kernel
theorem dX1_placeByRule_110 : decode cX1_placeByRule 110 = .ok (.iconst 3, 1) := by decide +kernel
theorem dX1_placeByRule_111 : decode cX1_placeByRule 111 = .ok (.iload 6, 2) := by decide +kernel
theorem dX1_placeByRule_113 : decode cX1_placeByRule 113 = .ok (.iastore, 1) := by decide +kernel
theorem dX1_placeByRule_114 : decode cX1_placeByRule 114 = .ok (.aload_n 0, 1) := by decide +kernel
theorem dX1_placeByRule_115 : decode cX1_placeByRule 115 = .ok (.getfield 12, 3) := by decide +kernel
theorem dX1_placeByRule_118 : decode cX1_placeByRule 118 = .ok (.aload_n 0, 1) := by decide +kernel
theorem dX1_placeByRule_119 : decode cX1_placeByRule 119 = .ok (.getfield 34, 3) := by decide +kernel
theorem dX1_placeByRule_122 : decode cX1_placeByRule 122 = .ok (.getfield 115, 3) := by decide +kernel
theorem dX1_placeByRule_125 : decode cX1_placeByRule 125 = .ok (.aload_n 0, 1) := by decide +kernel
theorem dX1_placeByRule_126 : decode cX1_placeByRule 126 = .ok (.getfield 34, 3) := by decide +kernel
theorem dX1_placeByRule_129 : decode cX1_placeByRule 129 = .ok (.getfield 67, 3) := by decide +kernel
theorem dX1_placeByRule_132 : decode cX1_placeByRule 132 = .ok (.aload_n 0, 1) := by decide +kernel
theorem dX1_placeByRule_133 : decode cX1_placeByRule 133 = .ok (.getfield 34, 3) := by decide +kernel
theorem dX1_placeByRule_136 : decode cX1_placeByRule 136 = .ok (.getfield 118, 3) := by decide +kernel
theorem dX1_placeByRule_139 : decode cX1_placeByRule 139 = .ok (.invokevirtual 121, 3) := by decide +kernel
theorem dX1_placeByRule_142 : decode cX1_placeByRule 142 = .ok (.ifCond .le 6, 3) := by decide +kernel
theorem dX1_placeByRule_145 : decode cX1_placeByRule 145 = .ok (.iload 6, 2) := by decide +kernel
theorem dX1_placeByRule_147 : decode cX1_placeByRule 147 = .ok (.ireturn, 1) := by decide +kernel
theorem dX1_placeByRule_148 : decode cX1_placeByRule 148 = .ok (.iinc 6 1, 3) := by decide +kernel
theorem dX1_placeByRule_151 : decode cX1_placeByRule 151 = .ok (.goto (-78), 3) := by decide +kernel
theorem dX1_placeByRule_154 : decode cX1_placeByRule 154 = .ok (.iconst (-1), 1) := by decide +kernel
theorem dX1_placeByRule_155 : decode cX1_placeByRule 155 = .ok (.ireturn, 1) := by decide +kernel
set_option maxRecDepth 100000 in
theorem ggX1_gapsIn_X11_gapsAmong : GoodIn wsX1_gapsIn wsX11_gapsAmong := goodIn_r _ [4, 5, 6, 3, 7] rfl (by decide +kernel)
set_option maxRecDepth 100000 in
theorem gX1_gapsIn_X11_gapsAmong_n125 : GoodIn wsX1_gapsIn (wsX11_gapsAmong) := ggX1_gapsIn_X11_gapsAmong
set_option maxRecDepth 100000 in
theorem ggX1_gapsIn_J6_bitCount_0f7a4 : GoodIn wsX1_gapsIn wsJ6_bitCount_0f7a4 := goodIn_r _ [11, 12, 13, 14] rfl (by decide +kernel)
set_option maxRecDepth 100000 in
theorem gX1_gapsIn_J6_bitCount_0f7a4 : GoodIn wsX1_gapsIn (va_wsS RX1 128 yJ6_bitCount_0f7a4 wsJ6_bitCount_0f7a4) := goodIn_app (goodIn_of _ (by decide +kernel)) ggX1_gapsIn_J6_bitCount_0f7a4
theorem dX1_gapsIn_0 : decode cX1_gapsIn 0 = .ok (.iload_n 2, 1) := by decide +kernel
theorem dX1_gapsIn_1 : decode cX1_gapsIn 1 = .ok (.aload_n 0, 1) := by decide +kernel
theorem dX1_gapsIn_2 : decode cX1_gapsIn 2 = .ok (.getfield 34, 3) := by decide +kernel
theorem dX1_gapsIn_5 : decode cX1_gapsIn 5 = .ok (.getfield 97, 3) := by decide +kernel
theorem dX1_gapsIn_8 : decode cX1_gapsIn 8 = .ok (.iload_n 1, 1) := by decide +kernel
theorem dX1_gapsIn_9 : decode cX1_gapsIn 9 = .ok (.iaload, 1) := by decide +kernel
theorem dX1_gapsIn_10 : decode cX1_gapsIn 10 = .ok (.invokestatic 125, 3) := by decide +kernel
theorem dX1_gapsIn_13 : decode cX1_gapsIn 13 = .ok (.invokestatic 128, 3) := by decide +kernel
theorem dX1_gapsIn_16 : decode cX1_gapsIn 16 = .ok (.ireturn, 1) := by decide +kernel
set_option maxRecDepth 100000 in
theorem ggX1_othersWith_X7_holds : GoodIn wsX1_othersWith wsX7_holds := goodIn_r _ [5, 6, 7, 8, 3, 9, 10, 30] rfl (by decide +kernel)
set_option maxRecDepth 100000 in
theorem gX1_othersWith_X7_holds_n50 : GoodIn wsX1_othersWith (wsX7_holds) := ggX1_othersWith_X7_holds
theorem dX1_othersWith_0 : decode cX1_othersWith 0 = .ok (.iconst 0, 1) := by decide +kernel
theorem dX1_othersWith_1 : decode cX1_othersWith 1 = .ok (.istore 4, 2) := by decide +kernel
theorem dX1_othersWith_3 : decode cX1_othersWith 3 = .ok (.iconst 0, 1) := by decide +kernel
theorem dX1_othersWith_4 : decode cX1_othersWith 4 = .ok (.istore 5, 2) := by decide +kernel
theorem dX1_othersWith_6 : decode cX1_othersWith 6 = .ok (.iload 5, 2) := by decide +kernel
theorem dX1_othersWith_8 : decode cX1_othersWith 8 = .ok (.aload_n 0, 1) := by decide +kernel
theorem dX1_othersWith_9 : decode cX1_othersWith 9 = .ok (.getfield 34, 3) := by decide +kernel
theorem dX1_othersWith_12 : decode cX1_othersWith 12 = .ok (.getfield 44, 3) := by decide +kernel
theorem dX1_othersWith_15 : decode cX1_othersWith 15 = .ok (.if_icmp .ge 28, 3) := by decide +kernel
theorem dX1_othersWith_18 : decode cX1_othersWith 18 = .ok (.iload 5, 2) := by decide +kernel
theorem dX1_othersWith_20 : decode cX1_othersWith 20 = .ok (.iload_n 2, 1) := by decide +kernel
theorem dX1_othersWith_21 : decode cX1_othersWith 21 = .ok (.if_icmp .eq 16, 3) := by decide +kernel
theorem dX1_othersWith_24 : decode cX1_othersWith 24 = .ok (.aload_n 1, 1) := by decide +kernel
theorem dX1_othersWith_25 : decode cX1_othersWith 25 = .ok (.iload 5, 2) := by decide +kernel
theorem dX1_othersWith_27 : decode cX1_othersWith 27 = .ok (.iload_n 3, 1) := by decide +kernel
theorem dX1_othersWith_28 : decode cX1_othersWith 28 = .ok (.invokevirtual 50, 3) := by decide +kernel
theorem dX1_othersWith_31 : decode cX1_othersWith 31 = .ok (.ifCond .eq 6, 3) := by decide +kernel
theorem dX1_othersWith_34 : decode cX1_othersWith 34 = .ok (.iinc 4 1, 3) := by decide +kernel
theorem dX1_othersWith_37 : decode cX1_othersWith 37 = .ok (.iinc 5 1, 3) := by decide +kernel
theorem dX1_othersWith_40 : decode cX1_othersWith 40 = .ok (.goto (-34), 3) := by decide +kernel
theorem dX1_othersWith_43 : decode cX1_othersWith 43 = .ok (.iload 4, 2) := by decide +kernel
theorem dX1_othersWith_45 : decode cX1_othersWith 45 = .ok (.ireturn, 1) := by decide +kernel
set_option maxRecDepth 100000 in
theorem ggX1_teachSeekers_X7_seeks : GoodIn wsX1_teachSeekers wsX7_seeks := goodIn_r _ [6, 7, 101] rfl (by decide +kernel)
set_option maxRecDepth 100000 in
theorem gX1_teachSeekers_X7_seeks_n133 : GoodIn wsX1_teachSeekers (wsX7_seeks) := ggX1_teachSeekers_X7_seeks
set_option maxRecDepth 100000 in
theorem ggX1_teachSeekers_X7_soughtSong : GoodIn wsX1_teachSeekers wsX7_soughtSong := goodIn_r _ [10, 7, 11, 3, 5, 4, 6, 101] rfl (by decide +kernel)
set_option maxRecDepth 100000 in
theorem gX1_teachSeekers_X7_soughtSong_n137 : GoodIn wsX1_teachSeekers (wsX7_soughtSong) := ggX1_teachSeekers_X7_soughtSong
set_option maxRecDepth 100000 in
theorem ggX1_teachSeekers_X7_soughtOf : GoodIn wsX1_teachSeekers wsX7_soughtOf := goodIn_r _ [14, 7, 11, 3, 5, 4, 6, 101] rfl (by decide +kernel)
set_option maxRecDepth 100000 in
theorem gX1_teachSeekers_X7_soughtOf_n140 : GoodIn wsX1_teachSeekers (wsX7_soughtOf) := ggX1_teachSeekers_X7_soughtOf
set_option maxRecDepth 100000 in
theorem ggX1_teachSeekers_X7_holds : GoodIn wsX1_teachSeekers wsX7_holds := goodIn_r _ [17, 18, 19, 20, 4, 21, 7, 101] rfl (by decide +kernel)
set_option maxRecDepth 100000 in
theorem gX1_teachSeekers_X7_holds_n50 : GoodIn wsX1_teachSeekers (wsX7_holds) := ggX1_teachSeekers_X7_holds
set_option maxRecDepth 100000 in
theorem ggX1_teachSeekers_X7_notes : GoodIn wsX1_teachSeekers wsX7_notes := goodIn_r _ [21, 7, 101] rfl (by decide +kernel)
set_option maxRecDepth 100000 in
theorem gX1_teachSeekers_X7_notes_n77 : GoodIn wsX1_teachSeekers (wsX7_notes) := ggX1_teachSeekers_X7_notes
set_option maxRecDepth 100000 in
theorem ggX1_teachSeekers_X1_gapsIn : GoodIn wsX1_teachSeekers wsX1_gapsIn := goodIn_r _ [26, 1, 27, 28, 29, 30, 31, 32, 33, 34, 35, 36, 37, 38, 39, 82, 83, 84, 85, 86, 87, 88, 89, 90, 91, 92, 93, 94, 95, 96, 97, 98, 99, 100] rfl (by decide +kernel)
set_option maxRecDepth 100000 in
theorem gX1_teachSeekers_X1_gapsIn : GoodIn wsX1_teachSeekers (wsV RX1 109 RX1 yX1_gapsIn wsX1_gapsIn) := goodIn_app (goodIn_of _ (by decide +kernel)) ggX1_teachSeekers_X1_gapsIn
set_option maxRecDepth 100000 in
theorem ggX1_teachSeekers_X1_learntNotes : GoodIn wsX1_teachSeekers wsX1_learntNotes := goodIn_r _ [43, 1, 19, 4, 20, 21, 7, 31, 28, 32, 44, 45, 46, 25, 47, 48, 49, 50, 51, 52, 53, 54, 55, 56, 57, 58, 59, 60, 61, 62, 63, 64, 65, 66, 67, 68, 69, 70, 71, 72, 73, 74, 75, 82, 83, 84, 85, 86, 87, 88, 89, 90, 91, 92, 93, 94, 95, 96, 97, 98, 99, 100, 101, 102, 103] rfl (by decide +kernel)
set_option maxRecDepth 100000 in
theorem gX1_teachSeekers_X1_learntNotes : GoodIn wsX1_teachSeekers (wsV RX1 143 RX1 yX1_learntNotes wsX1_learntNotes) := goodIn_app (goodIn_of _ (by decide +kernel)) ggX1_teachSeekers_X1_learntNotes
set_option maxRecDepth 100000 in
theorem ggX1_teachSeekers_X7_setLearnt : GoodIn wsX1_teachSeekers wsX7_setLearnt := goodIn_r _ [78, 7, 101] rfl (by decide +kernel)
set_option maxRecDepth 100000 in
theorem gX1_teachSeekers_X7_setLearnt_n147 : GoodIn wsX1_teachSeekers (wsX7_setLearnt) := ggX1_teachSeekers_X7_setLearnt
set_option maxRecDepth 100000 in
theorem ggX1_teachSeekers_X7_seekNothing : GoodIn wsX1_teachSeekers wsX7_seekNothing := goodIn_r _ [81, 7, 101] rfl (by decide +kernel)
set_option maxRecDepth 100000 in
theorem gX1_teachSeekers_X7_seekNothing_n151 : GoodIn wsX1_teachSeekers (wsX7_seekNothing) := ggX1_teachSeekers_X7_seekNothing
theorem dX1_teachSeekers_0 : decode cX1_teachSeekers 0 = .ok (.iconst 0, 1) := by decide +kernel
theorem dX1_teachSeekers_1 : decode cX1_teachSeekers 1 = .ok (.istore_n 2, 1) := by decide +kernel
theorem dX1_teachSeekers_2 : decode cX1_teachSeekers 2 = .ok (.iload_n 2, 1) := by decide +kernel
theorem dX1_teachSeekers_3 : decode cX1_teachSeekers 3 = .ok (.aload_n 0, 1) := by decide +kernel
theorem dX1_teachSeekers_4 : decode cX1_teachSeekers 4 = .ok (.getfield 34, 3) := by decide +kernel
theorem dX1_teachSeekers_7 : decode cX1_teachSeekers 7 = .ok (.getfield 44, 3) := by decide +kernel
theorem dX1_teachSeekers_10 : decode cX1_teachSeekers 10 = .ok (.if_icmp .ge 108, 3) := by decide +kernel
theorem dX1_teachSeekers_13 : decode cX1_teachSeekers 13 = .ok (.aload_n 1, 1) := by decide +kernel
theorem dX1_teachSeekers_14 : decode cX1_teachSeekers 14 = .ok (.iload_n 2, 1) := by decide +kernel
theorem dX1_teachSeekers_15 : decode cX1_teachSeekers 15 = .ok (.invokevirtual 133, 3) := by decide +kernel
theorem dX1_teachSeekers_18 : decode cX1_teachSeekers 18 = .ok (.ifCond .eq 94, 3) := by decide +kernel
theorem dX1_teachSeekers_21 : decode cX1_teachSeekers 21 = .ok (.aload_n 1, 1) := by decide +kernel
theorem dX1_teachSeekers_22 : decode cX1_teachSeekers 22 = .ok (.iload_n 2, 1) := by decide +kernel
theorem dX1_teachSeekers_23 : decode cX1_teachSeekers 23 = .ok (.invokevirtual 137, 3) := by decide +kernel
theorem dX1_teachSeekers_26 : decode cX1_teachSeekers 26 = .ok (.istore_n 3, 1) := by decide +kernel
theorem dX1_teachSeekers_27 : decode cX1_teachSeekers 27 = .ok (.aload_n 1, 1) := by decide +kernel
theorem dX1_teachSeekers_28 : decode cX1_teachSeekers 28 = .ok (.iload_n 2, 1) := by decide +kernel
theorem dX1_teachSeekers_29 : decode cX1_teachSeekers 29 = .ok (.invokevirtual 140, 3) := by decide +kernel
theorem dX1_teachSeekers_32 : decode cX1_teachSeekers 32 = .ok (.istore 4, 2) := by decide +kernel
theorem dX1_teachSeekers_34 : decode cX1_teachSeekers 34 = .ok (.aload_n 1, 1) := by decide +kernel
theorem dX1_teachSeekers_35 : decode cX1_teachSeekers 35 = .ok (.iload 4, 2) := by decide +kernel
theorem dX1_teachSeekers_37 : decode cX1_teachSeekers 37 = .ok (.iload_n 3, 1) := by decide +kernel
theorem dX1_teachSeekers_38 : decode cX1_teachSeekers 38 = .ok (.invokevirtual 50, 3) := by decide +kernel
theorem dX1_teachSeekers_41 : decode cX1_teachSeekers 41 = .ok (.ifCond .eq 22, 3) := by decide +kernel
theorem dX1_teachSeekers_44 : decode cX1_teachSeekers 44 = .ok (.aload_n 0, 1) := by decide +kernel
theorem dX1_teachSeekers_45 : decode cX1_teachSeekers 45 = .ok (.iload_n 3, 1) := by decide +kernel
theorem dX1_teachSeekers_46 : decode cX1_teachSeekers 46 = .ok (.aload_n 1, 1) := by decide +kernel
theorem dX1_teachSeekers_47 : decode cX1_teachSeekers 47 = .ok (.iload 4, 2) := by decide +kernel
theorem dX1_teachSeekers_49 : decode cX1_teachSeekers 49 = .ok (.iload_n 3, 1) := by decide +kernel
theorem dX1_teachSeekers_50 : decode cX1_teachSeekers 50 = .ok (.invokevirtual 77, 3) := by decide +kernel
theorem dX1_teachSeekers_53 : decode cX1_teachSeekers 53 = .ok (.invokevirtual 109, 3) := by decide +kernel
theorem dX1_teachSeekers_56 : decode cX1_teachSeekers 56 = .ok (.ifCond .le 7, 3) := by decide +kernel
theorem dX1_teachSeekers_59 : decode cX1_teachSeekers 59 = .ok (.iconst 1, 1) := by decide +kernel
theorem dX1_teachSeekers_60 : decode cX1_teachSeekers 60 = .ok (.goto 4, 3) := by decide +kernel
theorem dX1_teachSeekers_63 : decode cX1_teachSeekers 63 = .ok (.iconst 0, 1) := by decide +kernel
theorem dX1_teachSeekers_64 : decode cX1_teachSeekers 64 = .ok (.istore 5, 2) := by decide +kernel
theorem dX1_teachSeekers_66 : decode cX1_teachSeekers 66 = .ok (.iload 5, 2) := by decide +kernel
theorem dX1_teachSeekers_68 : decode cX1_teachSeekers 68 = .ok (.ifCond .eq 44, 3) := by decide +kernel
theorem dX1_teachSeekers_71 : decode cX1_teachSeekers 71 = .ok (.aload_n 1, 1) := by decide +kernel
theorem dX1_teachSeekers_72 : decode cX1_teachSeekers 72 = .ok (.iload_n 2, 1) := by decide +kernel
theorem dX1_teachSeekers_73 : decode cX1_teachSeekers 73 = .ok (.iload_n 3, 1) := by decide +kernel
theorem dX1_teachSeekers_74 : decode cX1_teachSeekers 74 = .ok (.invokevirtual 50, 3) := by decide +kernel
theorem dX1_teachSeekers_77 : decode cX1_teachSeekers 77 = .ok (.ifCond .ne 35, 3) := by decide +kernel
theorem dX1_teachSeekers_80 : decode cX1_teachSeekers 80 = .ok (.aload_n 1, 1) := by decide +kernel
theorem dX1_teachSeekers_81 : decode cX1_teachSeekers 81 = .ok (.iload_n 2, 1) := by decide +kernel
theorem dX1_teachSeekers_82 : decode cX1_teachSeekers 82 = .ok (.iload_n 3, 1) := by decide +kernel
theorem dX1_teachSeekers_83 : decode cX1_teachSeekers 83 = .ok (.aload_n 0, 1) := by decide +kernel
theorem dX1_teachSeekers_84 : decode cX1_teachSeekers 84 = .ok (.aload_n 1, 1) := by decide +kernel
theorem dX1_teachSeekers_85 : decode cX1_teachSeekers 85 = .ok (.iload_n 2, 1) := by decide +kernel
theorem dX1_teachSeekers_86 : decode cX1_teachSeekers 86 = .ok (.iload_n 3, 1) := by decide +kernel
theorem dX1_teachSeekers_87 : decode cX1_teachSeekers 87 = .ok (.iload 4, 2) := by decide +kernel
theorem dX1_teachSeekers_89 : decode cX1_teachSeekers 89 = .ok (.invokevirtual 143, 3) := by decide +kernel
theorem dX1_teachSeekers_92 : decode cX1_teachSeekers 92 = .ok (.iload 4, 2) := by decide +kernel
theorem dX1_teachSeekers_94 : decode cX1_teachSeekers 94 = .ok (.invokevirtual 147, 3) := by decide +kernel
theorem dX1_teachSeekers_97 : decode cX1_teachSeekers 97 = .ok (.aload_n 1, 1) := by decide +kernel
theorem dX1_teachSeekers_98 : decode cX1_teachSeekers 98 = .ok (.iload_n 2, 1) := by decide +kernel
theorem dX1_teachSeekers_99 : decode cX1_teachSeekers 99 = .ok (.invokevirtual 151, 3) := by decide +kernel
theorem dX1_teachSeekers_102 : decode cX1_teachSeekers 102 = .ok (.aload_n 0, 1) := by decide +kernel
theorem dX1_teachSeekers_103 : decode cX1_teachSeekers 103 = .ok (.dup, 1) := by decide +kernel
theorem dX1_teachSeekers_104 : decode cX1_teachSeekers 104 = .ok (.getfield 18, 3) := by decide +kernel
theorem dX1_teachSeekers_107 : decode cX1_teachSeekers 107 = .ok (.iconst 1, 1) := by decide +kernel
theorem dX1_teachSeekers_108 : decode cX1_teachSeekers 108 = .ok (.iadd, 1) := by decide +kernel
theorem dX1_teachSeekers_109 : decode cX1_teachSeekers 109 = .ok (.putfield 18, 3) := by decide +kernel
theorem dX1_teachSeekers_112 : decode cX1_teachSeekers 112 = .ok (.iinc 2 1, 3) := by decide +kernel
theorem dX1_teachSeekers_115 : decode cX1_teachSeekers 115 = .ok (.goto (-113), 3) := by decide +kernel
theorem dX1_teachSeekers_118 : decode cX1_teachSeekers 118 = .ok (.return_, 1) := by decide +kernel
set_option maxRecDepth 100000 in
theorem ggX1_learntNotes_X7_notes : GoodIn wsX1_learntNotes wsX7_notes := goodIn_r _ [5, 6, 62] rfl (by decide +kernel)
set_option maxRecDepth 100000 in
theorem gX1_learntNotes_X7_notes_n77 : GoodIn wsX1_learntNotes (wsX7_notes) := ggX1_learntNotes_X7_notes
set_option maxRecDepth 100000 in
theorem ggX1_learntNotes_X11_noteAt : GoodIn wsX1_learntNotes wsX11_noteAt := goodIn_r _ [9] rfl (by decide +kernel)
set_option maxRecDepth 100000 in
theorem gX1_learntNotes_X11_noteAt_n100 : GoodIn wsX1_learntNotes (wsX11_noteAt) := ggX1_learntNotes_X11_noteAt
set_option maxRecDepth 100000 in
theorem ggX1_learntNotes_X1_noteBehind : GoodIn wsX1_learntNotes wsX1_noteBehind := goodIn_r _ [14, 1, 15, 16, 17, 18, 7, 8, 9, 43, 44, 45, 46, 47, 48, 49, 50, 51, 52, 53, 54, 55, 56, 57, 58, 59, 60, 61] rfl (by decide +kernel)
set_option maxRecDepth 100000 in
theorem gX1_learntNotes_X1_noteBehind : GoodIn wsX1_learntNotes (wsV RX1 155 RX1 yX1_noteBehind wsX1_noteBehind) := goodIn_app (goodIn_of _ (by decide +kernel)) ggX1_learntNotes_X1_noteBehind
set_option maxRecDepth 100000 in
theorem ggX1_learntNotes_X1_filled : GoodIn wsX1_learntNotes wsX1_filled := goodIn_r _ [22, 1, 23, 24, 25, 17, 26, 15, 16, 18, 27, 3, 28, 29, 6, 30, 31, 32, 33, 34, 35, 36, 37, 38, 39, 40, 43, 44, 45, 46, 47, 48, 49, 50, 51, 52, 53, 54, 55, 56, 57, 58, 59, 60, 61, 63, 64, 62] rfl (by decide +kernel)
set_option maxRecDepth 100000 in
theorem gX1_learntNotes_X1_filled : GoodIn wsX1_learntNotes (wsV RX1 158 RX1 yX1_filled wsX1_filled) := goodIn_app (goodIn_of _ (by decide +kernel)) ggX1_learntNotes_X1_filled
set_option maxRecDepth 100000 in
theorem ggX1_learntNotes_X11_withNote : GoodIn wsX1_learntNotes wsX11_withNote := goodIn_r _ [42] rfl (by decide +kernel)
set_option maxRecDepth 100000 in
theorem gX1_learntNotes_X11_withNote_n81 : GoodIn wsX1_learntNotes (wsX11_withNote) := ggX1_learntNotes_X11_withNote
theorem dX1_learntNotes_0 : decode cX1_learntNotes 0 = .ok (.aload_n 1, 1) := by decide +kernel
theorem dX1_learntNotes_1 : decode cX1_learntNotes 1 = .ok (.iload 4, 2) := by decide +kernel
theorem dX1_learntNotes_3 : decode cX1_learntNotes 3 = .ok (.iload_n 3, 1) := by decide +kernel
theorem dX1_learntNotes_4 : decode cX1_learntNotes 4 = .ok (.invokevirtual 77, 3) := by decide +kernel
theorem dX1_learntNotes_7 : decode cX1_learntNotes 7 = .ok (.istore 5, 2) := by decide +kernel
theorem dX1_learntNotes_9 : decode cX1_learntNotes 9 = .ok (.iconst (-1), 1) := by decide +kernel
theorem dX1_learntNotes_10 : decode cX1_learntNotes 10 = .ok (.istore 6, 2) := by decide +kernel
theorem dX1_learntNotes_12 : decode cX1_learntNotes 12 = .ok (.iconst 0, 1) := by decide +kernel
theorem dX1_learntNotes_13 : decode cX1_learntNotes 13 = .ok (.istore 7, 2) := by decide +kernel
theorem dX1_learntNotes_15 : decode cX1_learntNotes 15 = .ok (.iconst 0, 1) := by decide +kernel
theorem dX1_learntNotes_16 : decode cX1_learntNotes 16 = .ok (.istore 8, 2) := by decide +kernel
theorem dX1_learntNotes_18 : decode cX1_learntNotes 18 = .ok (.iload 8, 2) := by decide +kernel
theorem dX1_learntNotes_20 : decode cX1_learntNotes 20 = .ok (.aload_n 0, 1) := by decide +kernel
theorem dX1_learntNotes_21 : decode cX1_learntNotes 21 = .ok (.getfield 34, 3) := by decide +kernel
theorem dX1_learntNotes_24 : decode cX1_learntNotes 24 = .ok (.getfield 97, 3) := by decide +kernel
theorem dX1_learntNotes_27 : decode cX1_learntNotes 27 = .ok (.iload_n 3, 1) := by decide +kernel
theorem dX1_learntNotes_28 : decode cX1_learntNotes 28 = .ok (.iaload, 1) := by decide +kernel
theorem dX1_learntNotes_29 : decode cX1_learntNotes 29 = .ok (.if_icmp .ge 60, 3) := by decide +kernel
theorem dX1_learntNotes_32 : decode cX1_learntNotes 32 = .ok (.iload 5, 2) := by decide +kernel
theorem dX1_learntNotes_34 : decode cX1_learntNotes 34 = .ok (.iload 8, 2) := by decide +kernel
theorem dX1_learntNotes_36 : decode cX1_learntNotes 36 = .ok (.invokestatic 100, 3) := by decide +kernel
theorem dX1_learntNotes_39 : decode cX1_learntNotes 39 = .ok (.istore 9, 2) := by decide +kernel
theorem dX1_learntNotes_41 : decode cX1_learntNotes 41 = .ok (.iload 9, 2) := by decide +kernel
theorem dX1_learntNotes_43 : decode cX1_learntNotes 43 = .ok (.iconst (-1), 1) := by decide +kernel
theorem dX1_learntNotes_44 : decode cX1_learntNotes 44 = .ok (.if_icmp .ne 24, 3) := by decide +kernel
theorem dX1_learntNotes_47 : decode cX1_learntNotes 47 = .ok (.aload_n 0, 1) := by decide +kernel
theorem dX1_learntNotes_48 : decode cX1_learntNotes 48 = .ok (.aload_n 1, 1) := by decide +kernel
theorem dX1_learntNotes_49 : decode cX1_learntNotes 49 = .ok (.iload_n 2, 1) := by decide +kernel
theorem dX1_learntNotes_50 : decode cX1_learntNotes 50 = .ok (.iload 8, 2) := by decide +kernel
theorem dX1_learntNotes_52 : decode cX1_learntNotes 52 = .ok (.iload 7, 2) := by decide +kernel
theorem dX1_learntNotes_54 : decode cX1_learntNotes 54 = .ok (.aload_n 0, 1) := by decide +kernel
theorem dX1_learntNotes_55 : decode cX1_learntNotes 55 = .ok (.iload_n 3, 1) := by decide +kernel
theorem dX1_learntNotes_56 : decode cX1_learntNotes 56 = .ok (.iload 5, 2) := by decide +kernel
theorem dX1_learntNotes_58 : decode cX1_learntNotes 58 = .ok (.iload 8, 2) := by decide +kernel
theorem dX1_learntNotes_60 : decode cX1_learntNotes 60 = .ok (.invokevirtual 155, 3) := by decide +kernel
theorem dX1_learntNotes_63 : decode cX1_learntNotes 63 = .ok (.invokevirtual 158, 3) := by decide +kernel
theorem dX1_learntNotes_66 : decode cX1_learntNotes 66 = .ok (.istore 9, 2) := by decide +kernel
theorem dX1_learntNotes_68 : decode cX1_learntNotes 68 = .ok (.iload 6, 2) := by decide +kernel
theorem dX1_learntNotes_70 : decode cX1_learntNotes 70 = .ok (.iload 8, 2) := by decide +kernel
theorem dX1_learntNotes_72 : decode cX1_learntNotes 72 = .ok (.iload 9, 2) := by decide +kernel
theorem dX1_learntNotes_74 : decode cX1_learntNotes 74 = .ok (.invokestatic 81, 3) := by decide +kernel
theorem dX1_learntNotes_77 : decode cX1_learntNotes 77 = .ok (.istore 6, 2) := by decide +kernel
theorem dX1_learntNotes_79 : decode cX1_learntNotes 79 = .ok (.iload 9, 2) := by decide +kernel
theorem dX1_learntNotes_81 : decode cX1_learntNotes 81 = .ok (.istore 7, 2) := by decide +kernel
theorem dX1_learntNotes_83 : decode cX1_learntNotes 83 = .ok (.iinc 8 1, 3) := by decide +kernel
theorem dX1_learntNotes_86 : decode cX1_learntNotes 86 = .ok (.goto (-68), 3) := by decide +kernel
theorem dX1_learntNotes_89 : decode cX1_learntNotes 89 = .ok (.iload 6, 2) := by decide +kernel
theorem dX1_learntNotes_91 : decode cX1_learntNotes 91 = .ok (.ireturn, 1) := by decide +kernel
set_option maxRecDepth 100000 in
theorem ggX1_noteBehind_X11_noteAt : GoodIn wsX1_noteBehind wsX11_noteAt := goodIn_r _ [8] rfl (by decide +kernel)
set_option maxRecDepth 100000 in
theorem gX1_noteBehind_X11_noteAt_n100 : GoodIn wsX1_noteBehind (wsX11_noteAt) := ggX1_noteBehind_X11_noteAt
theorem dX1_noteBehind_0 : decode cX1_noteBehind 0 = .ok (.iload_n 3, 1) := by decide +kernel
theorem dX1_noteBehind_1 : decode cX1_noteBehind 1 = .ok (.iconst 1, 1) := by decide +kernel
theorem dX1_noteBehind_2 : decode cX1_noteBehind 2 = .ok (.iadd, 1) := by decide +kernel
theorem dX1_noteBehind_3 : decode cX1_noteBehind 3 = .ok (.aload_n 0, 1) := by decide +kernel
theorem dX1_noteBehind_4 : decode cX1_noteBehind 4 = .ok (.getfield 34, 3) := by decide +kernel
theorem dX1_noteBehind_7 : decode cX1_noteBehind 7 = .ok (.getfield 97, 3) := by decide +kernel
theorem dX1_noteBehind_10 : decode cX1_noteBehind 10 = .ok (.iload_n 1, 1) := by decide +kernel
theorem dX1_noteBehind_11 : decode cX1_noteBehind 11 = .ok (.iaload, 1) := by decide +kernel
theorem dX1_noteBehind_12 : decode cX1_noteBehind 12 = .ok (.if_icmp .lt 5, 3) := by decide +kernel
theorem dX1_noteBehind_15 : decode cX1_noteBehind 15 = .ok (.iconst 0, 1) := by decide +kernel
theorem dX1_noteBehind_16 : decode cX1_noteBehind 16 = .ok (.ireturn, 1) := by decide +kernel
theorem dX1_noteBehind_17 : decode cX1_noteBehind 17 = .ok (.iconst 0, 1) := by decide +kernel
theorem dX1_noteBehind_18 : decode cX1_noteBehind 18 = .ok (.iload_n 2, 1) := by decide +kernel
theorem dX1_noteBehind_19 : decode cX1_noteBehind 19 = .ok (.iload_n 3, 1) := by decide +kernel
theorem dX1_noteBehind_20 : decode cX1_noteBehind 20 = .ok (.iconst 1, 1) := by decide +kernel
theorem dX1_noteBehind_21 : decode cX1_noteBehind 21 = .ok (.iadd, 1) := by decide +kernel
theorem dX1_noteBehind_22 : decode cX1_noteBehind 22 = .ok (.invokestatic 100, 3) := by decide +kernel
theorem dX1_noteBehind_25 : decode cX1_noteBehind 25 = .ok (.invokestatic 162, 3) := by decide +kernel
theorem dX1_noteBehind_28 : decode cX1_noteBehind 28 = .ok (.ireturn, 1) := by decide +kernel
set_option maxRecDepth 100000 in
theorem ggX1_filled_X7_day : GoodIn wsX1_filled wsX7_day := goodIn_r _ [13, 14, 47] rfl (by decide +kernel)
set_option maxRecDepth 100000 in
theorem gX1_filled_X7_day_n93 : GoodIn wsX1_filled (wsX7_day) := ggX1_filled_X7_day
set_option maxRecDepth 100000 in
theorem ggX1_filled_X6_reckon : GoodIn wsX1_filled wsX6_reckon := goodIn_r _ [18, 19, 4, 5, 6, 20, 8, 9, 21, 22, 23, 24, 16, 25, 45, 46] rfl (by decide +kernel)
set_option maxRecDepth 100000 in
theorem gX1_filled_X6_reckon_n121 : GoodIn wsX1_filled (wsX6_reckon) := ggX1_filled_X6_reckon
theorem dX1_filled_0 : decode cX1_filled 0 = .ok (.aload_n 0, 1) := by decide +kernel
theorem dX1_filled_1 : decode cX1_filled 1 = .ok (.getfield 34, 3) := by decide +kernel
theorem dX1_filled_4 : decode cX1_filled 4 = .ok (.getfield 167, 3) := by decide +kernel
theorem dX1_filled_7 : decode cX1_filled 7 = .ok (.iconst (-1), 1) := by decide +kernel
theorem dX1_filled_8 : decode cX1_filled 8 = .ok (.if_icmp .ne 6, 3) := by decide +kernel
theorem dX1_filled_11 : decode cX1_filled 11 = .ok (.iload 4, 2) := by decide +kernel
theorem dX1_filled_13 : decode cX1_filled 13 = .ok (.ireturn, 1) := by decide +kernel
theorem dX1_filled_14 : decode cX1_filled 14 = .ok (.aload_n 0, 1) := by decide +kernel
theorem dX1_filled_15 : decode cX1_filled 15 = .ok (.getfield 12, 3) := by decide +kernel
theorem dX1_filled_18 : decode cX1_filled 18 = .ok (.getfield 103, 3) := by decide +kernel
theorem dX1_filled_21 : decode cX1_filled 21 = .ok (.astore 6, 2) := by decide +kernel
theorem dX1_filled_23 : decode cX1_filled 23 = .ok (.aload 6, 2) := by decide +kernel
theorem dX1_filled_25 : decode cX1_filled 25 = .ok (.iconst 1, 1) := by decide +kernel
theorem dX1_filled_26 : decode cX1_filled 26 = .ok (.aload_n 0, 1) := by decide +kernel
theorem dX1_filled_27 : decode cX1_filled 27 = .ok (.getfield 34, 3) := by decide +kernel
theorem dX1_filled_30 : decode cX1_filled 30 = .ok (.getfield 106, 3) := by decide +kernel
theorem dX1_filled_33 : decode cX1_filled 33 = .ok (.iload_n 2, 1) := by decide +kernel
theorem dX1_filled_34 : decode cX1_filled 34 = .ok (.iaload, 1) := by decide +kernel
theorem dX1_filled_35 : decode cX1_filled 35 = .ok (.iastore, 1) := by decide +kernel
theorem dX1_filled_36 : decode cX1_filled 36 = .ok (.aload 6, 2) := by decide +kernel
theorem dX1_filled_38 : decode cX1_filled 38 = .ok (.iconst 3, 1) := by decide +kernel
theorem dX1_filled_39 : decode cX1_filled 39 = .ok (.iload_n 3, 1) := by decide +kernel
theorem dX1_filled_40 : decode cX1_filled 40 = .ok (.iastore, 1) := by decide +kernel
theorem dX1_filled_41 : decode cX1_filled 41 = .ok (.aload 6, 2) := by decide +kernel
theorem dX1_filled_43 : decode cX1_filled 43 = .ok (.bipush 7, 2) := by decide +kernel
theorem dX1_filled_45 : decode cX1_filled 45 = .ok (.iload 4, 2) := by decide +kernel
theorem dX1_filled_47 : decode cX1_filled 47 = .ok (.iastore, 1) := by decide +kernel
theorem dX1_filled_48 : decode cX1_filled 48 = .ok (.aload 6, 2) := by decide +kernel
theorem dX1_filled_50 : decode cX1_filled 50 = .ok (.bipush 8, 2) := by decide +kernel
theorem dX1_filled_52 : decode cX1_filled 52 = .ok (.iload 5, 2) := by decide +kernel
theorem dX1_filled_54 : decode cX1_filled 54 = .ok (.iastore, 1) := by decide +kernel
theorem dX1_filled_55 : decode cX1_filled 55 = .ok (.aload 6, 2) := by decide +kernel
theorem dX1_filled_57 : decode cX1_filled 57 = .ok (.bipush 6, 2) := by decide +kernel
theorem dX1_filled_59 : decode cX1_filled 59 = .ok (.aload_n 1, 1) := by decide +kernel
theorem dX1_filled_60 : decode cX1_filled 60 = .ok (.invokevirtual 93, 3) := by decide +kernel
theorem dX1_filled_63 : decode cX1_filled 63 = .ok (.iastore, 1) := by decide +kernel
theorem dX1_filled_64 : decode cX1_filled 64 = .ok (.aload_n 0, 1) := by decide +kernel
theorem dX1_filled_65 : decode cX1_filled 65 = .ok (.getfield 12, 3) := by decide +kernel
theorem dX1_filled_68 : decode cX1_filled 68 = .ok (.aload_n 0, 1) := by decide +kernel
theorem dX1_filled_69 : decode cX1_filled 69 = .ok (.getfield 34, 3) := by decide +kernel
theorem dX1_filled_72 : decode cX1_filled 72 = .ok (.getfield 115, 3) := by decide +kernel
theorem dX1_filled_75 : decode cX1_filled 75 = .ok (.aload_n 0, 1) := by decide +kernel
theorem dX1_filled_76 : decode cX1_filled 76 = .ok (.getfield 34, 3) := by decide +kernel
theorem dX1_filled_79 : decode cX1_filled 79 = .ok (.getfield 167, 3) := by decide +kernel
theorem dX1_filled_82 : decode cX1_filled 82 = .ok (.aload_n 0, 1) := by decide +kernel
theorem dX1_filled_83 : decode cX1_filled 83 = .ok (.getfield 34, 3) := by decide +kernel
theorem dX1_filled_86 : decode cX1_filled 86 = .ok (.getfield 170, 3) := by decide +kernel
theorem dX1_filled_89 : decode cX1_filled 89 = .ok (.invokevirtual 121, 3) := by decide +kernel
theorem dX1_filled_92 : decode cX1_filled 92 = .ok (.istore 7, 2) := by decide +kernel
theorem dX1_filled_94 : decode cX1_filled 94 = .ok (.iconst 0, 1) := by decide +kernel
theorem dX1_filled_95 : decode cX1_filled 95 = .ok (.bipush 9, 2) := by decide +kernel
theorem dX1_filled_97 : decode cX1_filled 97 = .ok (.iload 7, 2) := by decide +kernel
theorem dX1_filled_99 : decode cX1_filled 99 = .ok (.invokestatic 173, 3) := by decide +kernel
theorem dX1_filled_102 : decode cX1_filled 102 = .ok (.invokestatic 162, 3) := by decide +kernel
theorem dX1_filled_105 : decode cX1_filled 105 = .ok (.ireturn, 1) := by decide +kernel
theorem dX1_sow_0 : decode cX1_sow 0 = .ok (.aload_n 0, 1) := by decide +kernel
theorem dX1_sow_1 : decode cX1_sow 1 = .ok (.iload_n 1, 1) := by decide +kernel
theorem dX1_sow_2 : decode cX1_sow 2 = .ok (.putfield 31, 3) := by decide +kernel
theorem dX1_sow_5 : decode cX1_sow 5 = .ok (.return_, 1) := by decide +kernel
theorem dX1_draw_0 : decode cX1_draw 0 = .ok (.aload_n 0, 1) := by decide +kernel
theorem dX1_draw_1 : decode cX1_draw 1 = .ok (.aload_n 0, 1) := by decide +kernel
theorem dX1_draw_2 : decode cX1_draw 2 = .ok (.getfield 31, 3) := by decide +kernel
theorem dX1_draw_5 : decode cX1_draw 5 = .ok (.ldc 176, 2) := by decide +kernel
theorem dX1_draw_7 : decode cX1_draw 7 = .ok (.imul, 1) := by decide +kernel
theorem dX1_draw_8 : decode cX1_draw 8 = .ok (.sipush 12345, 3) := by decide +kernel
theorem dX1_draw_11 : decode cX1_draw 11 = .ok (.iadd, 1) := by decide +kernel
theorem dX1_draw_12 : decode cX1_draw 12 = .ok (.putfield 31, 3) := by decide +kernel
theorem dX1_draw_15 : decode cX1_draw 15 = .ok (.iload_n 1, 1) := by decide +kernel
theorem dX1_draw_16 : decode cX1_draw 16 = .ok (.ifCond .le 19, 3) := by decide +kernel
theorem dX1_draw_19 : decode cX1_draw 19 = .ok (.aload_n 0, 1) := by decide +kernel
theorem dX1_draw_20 : decode cX1_draw 20 = .ok (.getfield 31, 3) := by decide +kernel
theorem dX1_draw_23 : decode cX1_draw 23 = .ok (.bipush 16, 2) := by decide +kernel
theorem dX1_draw_25 : decode cX1_draw 25 = .ok (.iushr, 1) := by decide +kernel
theorem dX1_draw_26 : decode cX1_draw 26 = .ok (.sipush 32767, 3) := by decide +kernel
theorem dX1_draw_29 : decode cX1_draw 29 = .ok (.iand, 1) := by decide +kernel
theorem dX1_draw_30 : decode cX1_draw 30 = .ok (.iload_n 1, 1) := by decide +kernel
theorem dX1_draw_31 : decode cX1_draw 31 = .ok (.irem, 1) := by decide +kernel
theorem dX1_draw_32 : decode cX1_draw 32 = .ok (.goto 4, 3) := by decide +kernel
theorem dX1_draw_35 : decode cX1_draw 35 = .ok (.iconst 0, 1) := by decide +kernel
theorem dX1_draw_36 : decode cX1_draw 36 = .ok (.ireturn, 1) := by decide +kernel
set_option maxRecDepth 100000 in
theorem ggX1_chance_X1_draw : GoodIn wsX1_chance wsX1_draw := goodIn_r _ [6, 7, 8, 24, 25, 26, 27, 28, 29, 30] rfl (by decide +kernel)
set_option maxRecDepth 100000 in
theorem gX1_chance_X1_draw : GoodIn wsX1_chance (wsV RX1 177 RX1 yX1_draw wsX1_draw) := goodIn_app (goodIn_of _ (by decide +kernel)) ggX1_chance_X1_draw
set_option maxRecDepth 100000 in
theorem ggX1_chance_X7_drop : GoodIn wsX1_chance wsX7_drop := goodIn_r _ [12, 13, 14, 15, 10, 16, 17, 43] rfl (by decide +kernel)
set_option maxRecDepth 100000 in
theorem gX1_chance_X7_drop_n180 : GoodIn wsX1_chance (wsX7_drop) := ggX1_chance_X7_drop
set_option maxRecDepth 100000 in
theorem ggX1_chance_X7_seekNothing : GoodIn wsX1_chance wsX7_seekNothing := goodIn_r _ [20, 17, 43] rfl (by decide +kernel)
set_option maxRecDepth 100000 in
theorem gX1_chance_X7_seekNothing_n151 : GoodIn wsX1_chance (wsX7_seekNothing) := ggX1_chance_X7_seekNothing
set_option maxRecDepth 100000 in
theorem ggX1_chance_X7_setSought : GoodIn wsX1_chance wsX7_setSought := goodIn_r _ [23, 17, 43] rfl (by decide +kernel)
set_option maxRecDepth 100000 in
theorem gX1_chance_X7_setSought_n184 : GoodIn wsX1_chance (wsX7_setSought) := ggX1_chance_X7_setSought
theorem dX1_chance_0 : decode cX1_chance 0 = .ok (.aload_n 0, 1) := by decide +kernel
theorem dX1_chance_1 : decode cX1_chance 1 = .ok (.iconst 5, 1) := by decide +kernel
theorem dX1_chance_2 : decode cX1_chance 2 = .ok (.invokevirtual 177, 3) := by decide +kernel
theorem dX1_chance_5 : decode cX1_chance 5 = .ok (.istore_n 2, 1) := by decide +kernel
theorem dX1_chance_6 : decode cX1_chance 6 = .ok (.iload_n 2, 1) := by decide +kernel
theorem dX1_chance_7 : decode cX1_chance 7 = .ok (.iconst 1, 1) := by decide +kernel
theorem dX1_chance_8 : decode cX1_chance 8 = .ok (.if_icmp .gt 23, 3) := by decide +kernel
theorem dX1_chance_11 : decode cX1_chance 11 = .ok (.aload_n 0, 1) := by decide +kernel
theorem dX1_chance_12 : decode cX1_chance 12 = .ok (.getfield 34, 3) := by decide +kernel
theorem dX1_chance_15 : decode cX1_chance 15 = .ok (.getfield 44, 3) := by decide +kernel
theorem dX1_chance_18 : decode cX1_chance 18 = .ok (.ifCond .eq 13, 3) := by decide +kernel
theorem dX1_chance_21 : decode cX1_chance 21 = .ok (.aload_n 0, 1) := by decide +kernel
theorem dX1_chance_22 : decode cX1_chance 22 = .ok (.getfield 34, 3) := by decide +kernel
theorem dX1_chance_25 : decode cX1_chance 25 = .ok (.getfield 47, 3) := by decide +kernel
theorem dX1_chance_28 : decode cX1_chance 28 = .ok (.ifCond .ne 4, 3) := by decide +kernel
theorem dX1_chance_31 : decode cX1_chance 31 = .ok (.return_, 1) := by decide +kernel
theorem dX1_chance_32 : decode cX1_chance 32 = .ok (.aload_n 0, 1) := by decide +kernel
theorem dX1_chance_33 : decode cX1_chance 33 = .ok (.aload_n 0, 1) := by decide +kernel
theorem dX1_chance_34 : decode cX1_chance 34 = .ok (.getfield 34, 3) := by decide +kernel
theorem dX1_chance_37 : decode cX1_chance 37 = .ok (.getfield 44, 3) := by decide +kernel
theorem dX1_chance_40 : decode cX1_chance 40 = .ok (.invokevirtual 177, 3) := by decide +kernel
theorem dX1_chance_43 : decode cX1_chance 43 = .ok (.istore_n 3, 1) := by decide +kernel
theorem dX1_chance_44 : decode cX1_chance 44 = .ok (.aload_n 0, 1) := by decide +kernel
theorem dX1_chance_45 : decode cX1_chance 45 = .ok (.aload_n 0, 1) := by decide +kernel
theorem dX1_chance_46 : decode cX1_chance 46 = .ok (.getfield 34, 3) := by decide +kernel
theorem dX1_chance_49 : decode cX1_chance 49 = .ok (.getfield 47, 3) := by decide +kernel
theorem dX1_chance_52 : decode cX1_chance 52 = .ok (.invokevirtual 177, 3) := by decide +kernel
theorem dX1_chance_55 : decode cX1_chance 55 = .ok (.istore 4, 2) := by decide +kernel
theorem dX1_chance_57 : decode cX1_chance 57 = .ok (.iload_n 2, 1) := by decide +kernel
theorem dX1_chance_58 : decode cX1_chance 58 = .ok (.iconst 1, 1) := by decide +kernel
theorem dX1_chance_59 : decode cX1_chance 59 = .ok (.if_icmp .ne 11, 3) := by decide +kernel
theorem dX1_chance_62 : decode cX1_chance 62 = .ok (.aload_n 1, 1) := by decide +kernel
theorem dX1_chance_63 : decode cX1_chance 63 = .ok (.iload_n 3, 1) := by decide +kernel
theorem dX1_chance_64 : decode cX1_chance 64 = .ok (.iload 4, 2) := by decide +kernel
theorem dX1_chance_66 : decode cX1_chance 66 = .ok (.invokevirtual 180, 3) := by decide +kernel
theorem dX1_chance_69 : decode cX1_chance 69 = .ok (.return_, 1) := by decide +kernel
theorem dX1_chance_70 : decode cX1_chance 70 = .ok (.aload_n 0, 1) := by decide +kernel
theorem dX1_chance_71 : decode cX1_chance 71 = .ok (.aload_n 0, 1) := by decide +kernel
theorem dX1_chance_72 : decode cX1_chance 72 = .ok (.getfield 34, 3) := by decide +kernel
theorem dX1_chance_75 : decode cX1_chance 75 = .ok (.getfield 44, 3) := by decide +kernel
theorem dX1_chance_78 : decode cX1_chance 78 = .ok (.invokevirtual 177, 3) := by decide +kernel
theorem dX1_chance_81 : decode cX1_chance 81 = .ok (.istore 5, 2) := by decide +kernel
theorem dX1_chance_83 : decode cX1_chance 83 = .ok (.iload 5, 2) := by decide +kernel
theorem dX1_chance_85 : decode cX1_chance 85 = .ok (.iload_n 3, 1) := by decide +kernel
theorem dX1_chance_86 : decode cX1_chance 86 = .ok (.if_icmp .ne 11, 3) := by decide +kernel
theorem dX1_chance_89 : decode cX1_chance 89 = .ok (.aload_n 1, 1) := by decide +kernel
theorem dX1_chance_90 : decode cX1_chance 90 = .ok (.iload_n 3, 1) := by decide +kernel
theorem dX1_chance_91 : decode cX1_chance 91 = .ok (.invokevirtual 151, 3) := by decide +kernel
theorem dX1_chance_94 : decode cX1_chance 94 = .ok (.goto 12, 3) := by decide +kernel
theorem dX1_chance_97 : decode cX1_chance 97 = .ok (.aload_n 1, 1) := by decide +kernel
theorem dX1_chance_98 : decode cX1_chance 98 = .ok (.iload_n 3, 1) := by decide +kernel
theorem dX1_chance_99 : decode cX1_chance 99 = .ok (.iload 4, 2) := by decide +kernel
theorem dX1_chance_101 : decode cX1_chance 101 = .ok (.iload 5, 2) := by decide +kernel
theorem dX1_chance_103 : decode cX1_chance 103 = .ok (.invokevirtual 184, 3) := by decide +kernel
theorem dX1_chance_106 : decode cX1_chance 106 = .ok (.return_, 1) := by decide +kernel
theorem dX2_init_0 : decode cX2_init 0 = .ok (.aload_n 0, 1) := by decide +kernel
theorem dX2_init_1 : decode cX2_init 1 = .ok (.invokespecial 3, 3) := by decide +kernel
theorem dX2_init_4 : decode cX2_init 4 = .ok (.aload_n 0, 1) := by decide +kernel
theorem dX2_init_5 : decode cX2_init 5 = .ok (.iconst 0, 1) := by decide +kernel
theorem dX2_init_6 : decode cX2_init 6 = .ok (.putfield 9, 3) := by decide +kernel
theorem dX2_init_9 : decode cX2_init 9 = .ok (.aload_n 0, 1) := by decide +kernel
theorem dX2_init_10 : decode cX2_init 10 = .ok (.aload_n 1, 1) := by decide +kernel
theorem dX2_init_11 : decode cX2_init 11 = .ok (.putfield 15, 3) := by decide +kernel
theorem dX2_init_14 : decode cX2_init 14 = .ok (.aload_n 0, 1) := by decide +kernel
theorem dX2_init_15 : decode cX2_init 15 = .ok (.aload_n 2, 1) := by decide +kernel
theorem dX2_init_16 : decode cX2_init 16 = .ok (.putfield 19, 3) := by decide +kernel
theorem dX2_init_19 : decode cX2_init 19 = .ok (.return_, 1) := by decide +kernel
set_option maxRecDepth 100000 in
theorem ggX2_readExpr_X8_isNumber : GoodIn wsX2_readExpr wsX8_isNumber := goodIn_r _ [6, 7, 216, 217, 218, 219, 220, 221, 222, 223, 224] rfl (by decide +kernel)
set_option maxRecDepth 100000 in
theorem gX2_readExpr_X8_isNumber_n23 : GoodIn wsX2_readExpr (wsX8_isNumber) := ggX2_readExpr_X8_isNumber
set_option maxRecDepth 100000 in
theorem ggX2_readExpr_X8_isSign : GoodIn wsX2_readExpr wsX8_isSign := goodIn_r _ [10, 7, 11, 216, 217, 218, 219, 220, 221, 222, 223, 224] rfl (by decide +kernel)
set_option maxRecDepth 100000 in
theorem gX2_readExpr_X8_isSign_n33 : GoodIn wsX2_readExpr (wsX8_isSign) := ggX2_readExpr_X8_isSign
set_option maxRecDepth 100000 in
theorem ggX2_readExpr_X8_fail : GoodIn wsX2_readExpr wsX8_fail := goodIn_r _ [14, 15, 16, 17, 7, 216, 217, 218, 219, 220, 221, 222, 223, 224] rfl (by decide +kernel)
set_option maxRecDepth 100000 in
theorem gX2_readExpr_X8_fail_n39 : GoodIn wsX2_readExpr (wsX8_fail) := ggX2_readExpr_X8_fail
set_option maxRecDepth 100000 in
theorem ggX2_readExpr_X2_readAnd : GoodIn wsX2_readExpr wsX2_readAnd := goodIn_r _ [166, 1, 2, 167, 168, 169, 21, 22, 4, 23, 24, 7, 25, 16, 26, 27, 28, 29, 30, 31, 32, 33, 34, 35, 36, 37, 38, 39, 40, 41, 42, 43, 44, 45, 46, 47, 48, 49, 50, 51, 52, 53, 54, 55, 56, 57, 58, 59, 60, 61, 62, 63, 64, 65, 66, 67, 68, 69, 70, 71, 72, 73, 74, 75, 76, 77, 78, 79, 80, 81, 82, 83, 84, 85, 86, 87, 88, 89, 90, 91, 92, 93, 94, 95, 96, 97, 98, 11, 99, 100, 101, 102, 103, 104, 105, 106, 107, 108, 109, 110, 111, 112, 113, 114, 115, 116, 117, 118, 119, 120, 121, 122, 123, 124, 125, 126, 127, 128, 129, 130, 131, 132, 133, 134, 135, 136, 137, 138, 139, 140, 141, 142, 143, 144, 145, 146, 147, 148, 149, 150, 151, 152, 153, 154, 155, 156, 157, 158, 159, 160, 161, 162, 163, 164, 165, 0, 3, 5, 6, 8, 9, 10, 12, 13, 14, 15, 17, 18, 19, 20, 170, 171, 172, 173, 174, 175, 176, 177, 178, 179, 180, 181, 182, 183, 184, 185, 186, 187, 188, 189, 190, 191, 192, 193, 194, 195, 196, 197, 198, 199, 200, 201, 202, 203, 204, 205, 206, 207, 208, 209, 210, 211, 212, 213, 214, 215, 216, 217, 218, 219, 220, 221, 222, 223, 224, 225, 226, 227, 228, 229, 230, 231, 232, 233, 234, 235, 236] rfl (by decide +kernel)
set_option maxRecDepth 100000 in
theorem gX2_readExpr_X2_readAnd : GoodIn wsX2_readExpr (wsV RX2 43 RX2 yX2_readAnd wsX2_readAnd) := goodIn_app (goodIn_of _ (by decide +kernel)) ggX2_readExpr_X2_readAnd
set_option maxRecDepth 100000 in
theorem ggX2_readExpr_X8_isWord : GoodIn wsX2_readExpr wsX8_isWord := goodIn_r _ [24, 7, 25, 16, 26, 27, 28, 29, 30, 31, 32, 33, 34, 35, 36, 37, 38, 39, 40, 41, 42, 43, 44, 45, 46, 47, 48, 49, 50, 51, 52, 53, 54, 55, 56, 57, 58, 59, 60, 61, 62, 63, 64, 65, 66, 67, 68, 69, 70, 71, 72, 73, 74, 75, 216, 217, 218, 219, 220, 221, 222, 223, 224] rfl (by decide +kernel)
set_option maxRecDepth 100000 in
theorem gX2_readExpr_X8_isWord_n48 : GoodIn wsX2_readExpr (wsX8_isWord) := ggX2_readExpr_X8_isWord
set_option maxRecDepth 100000 in
theorem ggX2_readExpr_X8_next : GoodIn wsX2_readExpr wsX8_next := goodIn_r _ [78, 7, 25, 79, 26, 16, 80, 81, 4, 82, 83, 84, 85, 86, 87, 88, 89, 90, 91, 92, 93, 94, 95, 96, 97, 98, 11, 99, 100, 101, 30, 102, 103, 104, 105, 106, 32, 43, 44, 45, 46, 37, 38, 107, 28, 29, 31, 33, 34, 35, 36, 108, 109, 49, 110, 111, 112, 113, 114, 115, 116, 117, 118, 119, 120, 121, 122, 123, 124, 125, 61, 126, 127, 128, 129, 130, 131, 132, 133, 134, 135, 66, 67, 68, 136, 137, 138, 54, 139, 140, 57, 141, 142, 143, 144, 70, 71, 72, 73, 74, 75, 145, 146, 147, 148, 149, 150, 151, 152, 153, 154, 155, 156, 157, 158, 159, 216, 217, 218, 219, 220, 221, 222, 223, 224] rfl (by decide +kernel)
set_option maxRecDepth 100000 in
theorem gX2_readExpr_X8_next_n52 : GoodIn wsX2_readExpr (wsX8_next) := ggX2_readExpr_X8_next
set_option maxRecDepth 100000 in
theorem ggX2_readExpr_X9_emit : GoodIn wsX2_readExpr wsX9_emit := goodIn_r _ [163, 164, 165, 225, 226, 227, 228, 229, 230, 231, 232, 233, 234, 235, 236] rfl (by decide +kernel)
set_option maxRecDepth 100000 in
theorem gX2_readExpr_X9_emit_n57 : GoodIn wsX2_readExpr (wsX9_emit) := ggX2_readExpr_X9_emit
theorem dX2_readExpr_0 : decode cX2_readExpr 0 = .ok (.iload_n 1, 1) := by decide +kernel
theorem dX2_readExpr_1 : decode cX2_readExpr 1 = .ok (.bipush 6, 2) := by decide +kernel
theorem dX2_readExpr_3 : decode cX2_readExpr 3 = .ok (.if_icmp .lt 59, 3) := by decide +kernel
theorem dX2_readExpr_6 : decode cX2_readExpr 6 = .ok (.aload_n 0, 1) := by decide +kernel
theorem dX2_readExpr_7 : decode cX2_readExpr 7 = .ok (.getfield 15, 3) := by decide +kernel
theorem dX2_readExpr_10 : decode cX2_readExpr 10 = .ok (.invokevirtual 23, 3) := by decide +kernel
theorem dX2_readExpr_13 : decode cX2_readExpr 13 = .ok (.ifCond .ne 26, 3) := by decide +kernel
theorem dX2_readExpr_16 : decode cX2_readExpr 16 = .ok (.aload_n 0, 1) := by decide +kernel
theorem dX2_readExpr_17 : decode cX2_readExpr 17 = .ok (.getfield 15, 3) := by decide +kernel
theorem dX2_readExpr_20 : decode cX2_readExpr 20 = .ok (.getfield 29, 3) := by decide +kernel
theorem dX2_readExpr_23 : decode cX2_readExpr 23 = .ok (.iconst 1, 1) := by decide +kernel
theorem dX2_readExpr_24 : decode cX2_readExpr 24 = .ok (.if_icmp .eq 15, 3) := by decide +kernel
theorem dX2_readExpr_27 : decode cX2_readExpr 27 = .ok (.aload_n 0, 1) := by decide +kernel
theorem dX2_readExpr_28 : decode cX2_readExpr 28 = .ok (.getfield 15, 3) := by decide +kernel
theorem dX2_readExpr_31 : decode cX2_readExpr 31 = .ok (.bipush 40, 2) := by decide +kernel
theorem dX2_readExpr_33 : decode cX2_readExpr 33 = .ok (.invokevirtual 33, 3) := by decide +kernel
theorem dX2_readExpr_36 : decode cX2_readExpr 36 = .ok (.ifCond .eq 7, 3) := by decide +kernel
theorem dX2_readExpr_39 : decode cX2_readExpr 39 = .ok (.iconst 1, 1) := by decide +kernel
theorem dX2_readExpr_40 : decode cX2_readExpr 40 = .ok (.goto 4, 3) := by decide +kernel
theorem dX2_readExpr_43 : decode cX2_readExpr 43 = .ok (.iconst 0, 1) := by decide +kernel
theorem dX2_readExpr_44 : decode cX2_readExpr 44 = .ok (.istore_n 2, 1) := by decide +kernel
theorem dX2_readExpr_45 : decode cX2_readExpr 45 = .ok (.aload_n 0, 1) := by decide +kernel
theorem dX2_readExpr_46 : decode cX2_readExpr 46 = .ok (.getfield 15, 3) := by decide +kernel
theorem dX2_readExpr_49 : decode cX2_readExpr 49 = .ok (.iload_n 2, 1) := by decide +kernel
theorem dX2_readExpr_50 : decode cX2_readExpr 50 = .ok (.ifCond .eq 7, 3) := by decide +kernel
theorem dX2_readExpr_53 : decode cX2_readExpr 53 = .ok (.iconst 2, 1) := by decide +kernel
theorem dX2_readExpr_54 : decode cX2_readExpr 54 = .ok (.goto 4, 3) := by decide +kernel
theorem dX2_readExpr_57 : decode cX2_readExpr 57 = .ok (.iconst 1, 1) := by decide +kernel
theorem dX2_readExpr_58 : decode cX2_readExpr 58 = .ok (.invokevirtual 39, 3) := by decide +kernel
theorem dX2_readExpr_61 : decode cX2_readExpr 61 = .ok (.return_, 1) := by decide +kernel
theorem dX2_readExpr_62 : decode cX2_readExpr 62 = .ok (.aload_n 0, 1) := by decide +kernel
theorem dX2_readExpr_63 : decode cX2_readExpr 63 = .ok (.iload_n 1, 1) := by decide +kernel
theorem dX2_readExpr_64 : decode cX2_readExpr 64 = .ok (.invokevirtual 43, 3) := by decide +kernel
theorem dX2_readExpr_67 : decode cX2_readExpr 67 = .ok (.iconst 0, 1) := by decide +kernel
theorem dX2_readExpr_68 : decode cX2_readExpr 68 = .ok (.istore_n 2, 1) := by decide +kernel
theorem dX2_readExpr_69 : decode cX2_readExpr 69 = .ok (.iload_n 2, 1) := by decide +kernel
theorem dX2_readExpr_70 : decode cX2_readExpr 70 = .ok (.sipush 700, 3) := by decide +kernel
theorem dX2_readExpr_73 : decode cX2_readExpr 73 = .ok (.if_icmp .ge 42, 3) := by decide +kernel
theorem dX2_readExpr_76 : decode cX2_readExpr 76 = .ok (.aload_n 0, 1) := by decide +kernel
theorem dX2_readExpr_77 : decode cX2_readExpr 77 = .ok (.getfield 15, 3) := by decide +kernel
theorem dX2_readExpr_80 : decode cX2_readExpr 80 = .ok (.ldc 46, 2) := by decide +kernel
theorem dX2_readExpr_82 : decode cX2_readExpr 82 = .ok (.invokevirtual 48, 3) := by decide +kernel
theorem dX2_readExpr_85 : decode cX2_readExpr 85 = .ok (.ifCond .eq 30, 3) := by decide +kernel
theorem dX2_readExpr_88 : decode cX2_readExpr 88 = .ok (.aload_n 0, 1) := by decide +kernel
theorem dX2_readExpr_89 : decode cX2_readExpr 89 = .ok (.getfield 15, 3) := by decide +kernel
theorem dX2_readExpr_92 : decode cX2_readExpr 92 = .ok (.invokevirtual 52, 3) := by decide +kernel
theorem dX2_readExpr_95 : decode cX2_readExpr 95 = .ok (.aload_n 0, 1) := by decide +kernel
theorem dX2_readExpr_96 : decode cX2_readExpr 96 = .ok (.iload_n 1, 1) := by decide +kernel
theorem dX2_readExpr_97 : decode cX2_readExpr 97 = .ok (.invokevirtual 43, 3) := by decide +kernel
theorem dX2_readExpr_100 : decode cX2_readExpr 100 = .ok (.aload_n 0, 1) := by decide +kernel
theorem dX2_readExpr_101 : decode cX2_readExpr 101 = .ok (.getfield 19, 3) := by decide +kernel
theorem dX2_readExpr_104 : decode cX2_readExpr 104 = .ok (.bipush (-20), 2) := by decide +kernel
theorem dX2_readExpr_106 : decode cX2_readExpr 106 = .ok (.invokevirtual 57, 3) := by decide +kernel
theorem dX2_readExpr_109 : decode cX2_readExpr 109 = .ok (.iinc 2 1, 3) := by decide +kernel
theorem dX2_readExpr_112 : decode cX2_readExpr 112 = .ok (.goto (-43), 3) := by decide +kernel
theorem dX2_readExpr_115 : decode cX2_readExpr 115 = .ok (.return_, 1) := by decide +kernel
set_option maxRecDepth 100000 in
theorem ggX2_readAnd_X2_readNot : GoodIn wsX2_readAnd wsX2_readNot := goodIn_r _ [170, 1, 2, 7, 8, 9, 10, 11, 12, 13, 14, 15, 16, 17, 18, 19, 20, 21, 22, 23, 24, 25, 26, 27, 28, 29, 30, 31, 32, 33, 34, 35, 36, 37, 38, 39, 40, 41, 42, 43, 44, 45, 46, 47, 48, 49, 50, 51, 52, 53, 54, 55, 56, 57, 58, 59, 60, 61, 62, 63, 64, 65, 66, 67, 68, 69, 70, 71, 72, 73, 74, 75, 76, 77, 78, 79, 80, 81, 82, 83, 84, 85, 86, 87, 88, 89, 90, 91, 92, 93, 94, 95, 96, 97, 98, 99, 100, 101, 102, 103, 104, 105, 106, 107, 108, 109, 110, 111, 112, 113, 114, 115, 116, 117, 118, 119, 120, 121, 122, 123, 124, 125, 126, 127, 128, 129, 130, 131, 132, 133, 134, 135, 136, 137, 138, 139, 140, 141, 142, 143, 144, 145, 146, 147, 148, 162, 163, 164, 165, 166, 171, 172, 173, 6, 149, 150, 151, 152, 153, 154, 0, 3, 4, 5, 155, 156, 157, 158, 159, 160, 161, 167, 168, 169, 174, 175, 176, 177, 178, 179, 180, 181, 182, 183, 184, 185, 186, 187, 188, 189, 190, 191, 192, 193, 194, 195, 196, 197, 198, 199, 200, 201, 202, 203, 204, 205, 206, 207, 208, 209, 210, 211, 212, 213, 214, 215, 216, 217, 218, 219, 220, 221, 222, 223, 224, 225, 226, 227, 228, 229, 230, 231, 232, 233, 234, 235, 236] rfl (by decide +kernel)
set_option maxRecDepth 100000 in
theorem gX2_readAnd_X2_readNot : GoodIn wsX2_readAnd (wsV RX2 62 RX2 yX2_readNot wsX2_readNot) := goodIn_app (goodIn_of _ (by decide +kernel)) ggX2_readAnd_X2_readNot
set_option maxRecDepth 100000 in
theorem ggX2_readAnd_X8_isWord : GoodIn wsX2_readAnd wsX8_isWord := goodIn_r _ [10, 11, 12, 13, 14, 15, 16, 17, 18, 19, 20, 21, 22, 23, 24, 25, 26, 27, 28, 29, 30, 31, 32, 33, 34, 35, 36, 37, 38, 39, 40, 41, 42, 43, 44, 45, 46, 47, 48, 49, 50, 51, 52, 53, 54, 55, 56, 57, 58, 59, 60, 61, 62, 63, 216, 217, 218, 219, 220, 221, 222, 223, 224] rfl (by decide +kernel)
set_option maxRecDepth 100000 in
theorem gX2_readAnd_X8_isWord_n48 : GoodIn wsX2_readAnd (wsX8_isWord) := ggX2_readAnd_X8_isWord
set_option maxRecDepth 100000 in
theorem ggX2_readAnd_X8_next : GoodIn wsX2_readAnd wsX8_next := goodIn_r _ [66, 11, 12, 67, 14, 13, 68, 69, 8, 70, 71, 72, 73, 74, 75, 76, 77, 78, 79, 80, 81, 82, 83, 84, 85, 86, 87, 88, 89, 90, 18, 91, 92, 93, 94, 95, 20, 31, 32, 33, 34, 25, 26, 96, 16, 17, 19, 21, 22, 23, 24, 97, 98, 37, 99, 100, 101, 102, 103, 104, 105, 106, 107, 108, 109, 110, 111, 112, 113, 114, 49, 115, 116, 117, 118, 119, 120, 121, 122, 123, 124, 54, 55, 56, 125, 126, 127, 42, 128, 129, 45, 130, 131, 132, 133, 58, 59, 60, 61, 62, 63, 134, 135, 136, 137, 138, 139, 140, 141, 142, 143, 144, 145, 146, 147, 148, 216, 217, 218, 219, 220, 221, 222, 223, 224] rfl (by decide +kernel)
set_option maxRecDepth 100000 in
theorem gX2_readAnd_X8_next_n52 : GoodIn wsX2_readAnd (wsX8_next) := ggX2_readAnd_X8_next
set_option maxRecDepth 100000 in
theorem ggX2_readAnd_X9_emit : GoodIn wsX2_readAnd wsX9_emit := goodIn_r _ [152, 153, 154, 225, 226, 227, 228, 229, 230, 231, 232, 233, 234, 235, 236] rfl (by decide +kernel)
set_option maxRecDepth 100000 in
theorem gX2_readAnd_X9_emit_n57 : GoodIn wsX2_readAnd (wsX9_emit) := ggX2_readAnd_X9_emit
theorem dX2_readAnd_0 : decode cX2_readAnd 0 = .ok (.aload_n 0, 1) := by decide +kernel
theorem dX2_readAnd_1 : decode cX2_readAnd 1 = .ok (.iload_n 1, 1) := by decide +kernel
theorem dX2_readAnd_2 : decode cX2_readAnd 2 = .ok (.invokevirtual 62, 3) := by decide +kernel
theorem dX2_readAnd_5 : decode cX2_readAnd 5 = .ok (.iconst 0, 1) := by decide +kernel
theorem dX2_readAnd_6 : decode cX2_readAnd 6 = .ok (.istore_n 2, 1) := by decide +kernel
theorem dX2_readAnd_7 : decode cX2_readAnd 7 = .ok (.iload_n 2, 1) := by decide +kernel
theorem dX2_readAnd_8 : decode cX2_readAnd 8 = .ok (.sipush 700, 3) := by decide +kernel
theorem dX2_readAnd_11 : decode cX2_readAnd 11 = .ok (.if_icmp .ge 42, 3) := by decide +kernel
theorem dX2_readAnd_14 : decode cX2_readAnd 14 = .ok (.aload_n 0, 1) := by decide +kernel
theorem dX2_readAnd_15 : decode cX2_readAnd 15 = .ok (.getfield 15, 3) := by decide +kernel
theorem dX2_readAnd_18 : decode cX2_readAnd 18 = .ok (.ldc 65, 2) := by decide +kernel
theorem dX2_readAnd_20 : decode cX2_readAnd 20 = .ok (.invokevirtual 48, 3) := by decide +kernel
theorem dX2_readAnd_23 : decode cX2_readAnd 23 = .ok (.ifCond .eq 30, 3) := by decide +kernel
theorem dX2_readAnd_26 : decode cX2_readAnd 26 = .ok (.aload_n 0, 1) := by decide +kernel
theorem dX2_readAnd_27 : decode cX2_readAnd 27 = .ok (.getfield 15, 3) := by decide +kernel
theorem dX2_readAnd_30 : decode cX2_readAnd 30 = .ok (.invokevirtual 52, 3) := by decide +kernel
theorem dX2_readAnd_33 : decode cX2_readAnd 33 = .ok (.aload_n 0, 1) := by decide +kernel
theorem dX2_readAnd_34 : decode cX2_readAnd 34 = .ok (.iload_n 1, 1) := by decide +kernel
theorem dX2_readAnd_35 : decode cX2_readAnd 35 = .ok (.invokevirtual 62, 3) := by decide +kernel
theorem dX2_readAnd_38 : decode cX2_readAnd 38 = .ok (.aload_n 0, 1) := by decide +kernel
theorem dX2_readAnd_39 : decode cX2_readAnd 39 = .ok (.getfield 19, 3) := by decide +kernel
theorem dX2_readAnd_42 : decode cX2_readAnd 42 = .ok (.bipush (-21), 2) := by decide +kernel
theorem dX2_readAnd_44 : decode cX2_readAnd 44 = .ok (.invokevirtual 57, 3) := by decide +kernel
theorem dX2_readAnd_47 : decode cX2_readAnd 47 = .ok (.iinc 2 1, 3) := by decide +kernel
theorem dX2_readAnd_50 : decode cX2_readAnd 50 = .ok (.goto (-43), 3) := by decide +kernel
theorem dX2_readAnd_53 : decode cX2_readAnd 53 = .ok (.return_, 1) := by decide +kernel
set_option maxRecDepth 100000 in
theorem ggX2_readNot_X8_isWord : GoodIn wsX2_readNot wsX8_isWord := goodIn_r _ [6, 7, 8, 9, 10, 11, 12, 13, 14, 15, 16, 17, 18, 19, 20, 21, 22, 23, 24, 25, 26, 27, 28, 29, 30, 31, 32, 33, 34, 35, 36, 37, 38, 39, 40, 41, 42, 43, 44, 45, 46, 47, 48, 49, 50, 51, 52, 53, 54, 55, 56, 57, 58, 59, 216, 217, 218, 219, 220, 221, 222, 223, 224] rfl (by decide +kernel)
set_option maxRecDepth 100000 in
theorem gX2_readNot_X8_isWord_n48 : GoodIn wsX2_readNot (wsX8_isWord) := ggX2_readNot_X8_isWord
set_option maxRecDepth 100000 in
theorem ggX2_readNot_X8_next : GoodIn wsX2_readNot wsX8_next := goodIn_r _ [62, 7, 8, 63, 10, 9, 64, 65, 4, 66, 67, 68, 69, 70, 71, 72, 73, 74, 75, 76, 77, 78, 79, 80, 81, 82, 83, 84, 85, 86, 14, 87, 88, 89, 90, 91, 16, 27, 28, 29, 30, 21, 22, 92, 12, 13, 15, 17, 18, 19, 20, 93, 94, 33, 95, 96, 97, 98, 99, 100, 101, 102, 103, 104, 105, 106, 107, 108, 109, 110, 45, 111, 112, 113, 114, 115, 116, 117, 118, 119, 120, 50, 51, 52, 121, 122, 123, 38, 124, 125, 41, 126, 127, 128, 129, 54, 55, 56, 57, 58, 59, 130, 131, 132, 133, 134, 135, 136, 137, 138, 139, 140, 141, 142, 143, 144, 216, 217, 218, 219, 220, 221, 222, 223, 224] rfl (by decide +kernel)
set_option maxRecDepth 100000 in
theorem gX2_readNot_X8_next_n52 : GoodIn wsX2_readNot (wsX8_next) := ggX2_readNot_X8_next
set_option maxRecDepth 100000 in
theorem ggX2_readNot_X8_fail : GoodIn wsX2_readNot wsX8_fail := goodIn_r _ [147, 148, 9, 149, 7, 216, 217, 218, 219, 220, 221, 222, 223, 224] rfl (by decide +kernel)
set_option maxRecDepth 100000 in
theorem gX2_readNot_X8_fail_n39 : GoodIn wsX2_readNot (wsX8_fail) := ggX2_readNot_X8_fail
set_option maxRecDepth 100000 in
theorem ggX2_readNot_X2_readTest : GoodIn wsX2_readNot wsX2_readTest := goodIn_r _ [209, 1, 2, 210, 211, 212, 153, 168, 4, 169, 170, 7, 83, 60, 61, 62, 8, 63, 10, 9, 64, 65, 66, 67, 68, 69, 70, 71, 72, 73, 74, 75, 76, 77, 78, 79, 80, 81, 82, 84, 85, 86, 14, 87, 88, 89, 90, 91, 16, 27, 28, 29, 30, 21, 22, 92, 12, 13, 15, 17, 18, 19, 20, 93, 94, 33, 95, 96, 97, 98, 99, 100, 101, 102, 103, 104, 105, 106, 107, 108, 109, 110, 45, 111, 112, 113, 114, 115, 116, 117, 118, 119, 120, 50, 51, 52, 121, 122, 123, 38, 124, 125, 41, 126, 127, 128, 129, 54, 55, 56, 57, 58, 59, 130, 131, 132, 133, 134, 135, 136, 137, 138, 139, 140, 141, 142, 143, 144, 154, 155, 156, 157, 158, 159, 160, 161, 162, 163, 3, 5, 6, 11, 23, 24, 25, 26, 31, 32, 34, 35, 36, 37, 39, 40, 42, 43, 44, 46, 47, 48, 49, 53, 164, 165, 166, 167, 145, 146, 147, 148, 149, 171, 172, 173, 0, 150, 151, 152, 174, 175, 176, 177, 178, 179, 180, 181, 182, 183, 184, 185, 186, 187, 188, 189, 190, 191, 192, 193, 194, 195, 196, 197, 198, 199, 200, 201, 202, 203, 204, 205, 206, 207, 208, 213, 214, 215, 216, 217, 218, 219, 220, 221, 222, 223, 224, 225, 226, 227, 228, 229, 230, 231, 232, 233, 234, 235, 236] rfl (by decide +kernel)
set_option maxRecDepth 100000 in
theorem gX2_readNot_X2_readTest : GoodIn wsX2_readNot (wsV RX2 69 RX2 yX2_readTest wsX2_readTest) := goodIn_app (goodIn_of _ (by decide +kernel)) ggX2_readNot_X2_readTest
set_option maxRecDepth 100000 in
theorem ggX2_readNot_X9_emit : GoodIn wsX2_readNot wsX9_emit := goodIn_r _ [157, 158, 159, 225, 226, 227, 228, 229, 230, 231, 232, 233, 234, 235, 236] rfl (by decide +kernel)
set_option maxRecDepth 100000 in
theorem gX2_readNot_X9_emit_n57 : GoodIn wsX2_readNot (wsX9_emit) := ggX2_readNot_X9_emit
theorem dX2_readNot_0 : decode cX2_readNot 0 = .ok (.iconst 0, 1) := by decide +kernel
theorem dX2_readNot_1 : decode cX2_readNot 1 = .ok (.istore_n 2, 1) := by decide +kernel
theorem dX2_readNot_2 : decode cX2_readNot 2 = .ok (.iload_n 2, 1) := by decide +kernel
theorem dX2_readNot_3 : decode cX2_readNot 3 = .ok (.bipush 6, 2) := by decide +kernel
theorem dX2_readNot_5 : decode cX2_readNot 5 = .ok (.if_icmp .ge 28, 3) := by decide +kernel
theorem dX2_readNot_8 : decode cX2_readNot 8 = .ok (.aload_n 0, 1) := by decide +kernel
theorem dX2_readNot_9 : decode cX2_readNot 9 = .ok (.getfield 15, 3) := by decide +kernel
theorem dX2_readNot_12 : decode cX2_readNot 12 = .ok (.ldc 67, 2) := by decide +kernel
theorem dX2_readNot_14 : decode cX2_readNot 14 = .ok (.invokevirtual 48, 3) := by decide +kernel
theorem dX2_readNot_17 : decode cX2_readNot 17 = .ok (.ifCond .eq 16, 3) := by decide +kernel
theorem dX2_readNot_20 : decode cX2_readNot 20 = .ok (.iinc 2 1, 3) := by decide +kernel
theorem dX2_readNot_23 : decode cX2_readNot 23 = .ok (.aload_n 0, 1) := by decide +kernel
theorem dX2_readNot_24 : decode cX2_readNot 24 = .ok (.getfield 15, 3) := by decide +kernel
theorem dX2_readNot_27 : decode cX2_readNot 27 = .ok (.invokevirtual 52, 3) := by decide +kernel
theorem dX2_readNot_30 : decode cX2_readNot 30 = .ok (.goto (-28), 3) := by decide +kernel
theorem dX2_readNot_33 : decode cX2_readNot 33 = .ok (.aload_n 0, 1) := by decide +kernel
theorem dX2_readNot_34 : decode cX2_readNot 34 = .ok (.getfield 15, 3) := by decide +kernel
theorem dX2_readNot_37 : decode cX2_readNot 37 = .ok (.ldc 67, 2) := by decide +kernel
theorem dX2_readNot_39 : decode cX2_readNot 39 = .ok (.invokevirtual 48, 3) := by decide +kernel
theorem dX2_readNot_42 : decode cX2_readNot 42 = .ok (.ifCond .eq 12, 3) := by decide +kernel
theorem dX2_readNot_45 : decode cX2_readNot 45 = .ok (.aload_n 0, 1) := by decide +kernel
theorem dX2_readNot_46 : decode cX2_readNot 46 = .ok (.getfield 15, 3) := by decide +kernel
theorem dX2_readNot_49 : decode cX2_readNot 49 = .ok (.iconst 2, 1) := by decide +kernel
theorem dX2_readNot_50 : decode cX2_readNot 50 = .ok (.invokevirtual 39, 3) := by decide +kernel
theorem dX2_readNot_53 : decode cX2_readNot 53 = .ok (.return_, 1) := by decide +kernel
theorem dX2_readNot_54 : decode cX2_readNot 54 = .ok (.aload_n 0, 1) := by decide +kernel
theorem dX2_readNot_55 : decode cX2_readNot 55 = .ok (.iload_n 1, 1) := by decide +kernel
theorem dX2_readNot_56 : decode cX2_readNot 56 = .ok (.invokevirtual 69, 3) := by decide +kernel
theorem dX2_readNot_59 : decode cX2_readNot 59 = .ok (.iconst 0, 1) := by decide +kernel
theorem dX2_readNot_60 : decode cX2_readNot 60 = .ok (.istore_n 3, 1) := by decide +kernel
theorem dX2_readNot_61 : decode cX2_readNot 61 = .ok (.iload_n 3, 1) := by decide +kernel
theorem dX2_readNot_62 : decode cX2_readNot 62 = .ok (.iload_n 2, 1) := by decide +kernel
theorem dX2_readNot_63 : decode cX2_readNot 63 = .ok (.if_icmp .ge 18, 3) := by decide +kernel
theorem dX2_readNot_66 : decode cX2_readNot 66 = .ok (.aload_n 0, 1) := by decide +kernel
theorem dX2_readNot_67 : decode cX2_readNot 67 = .ok (.getfield 19, 3) := by decide +kernel
theorem dX2_readNot_70 : decode cX2_readNot 70 = .ok (.bipush (-22), 2) := by decide +kernel
theorem dX2_readNot_72 : decode cX2_readNot 72 = .ok (.invokevirtual 57, 3) := by decide +kernel
theorem dX2_readNot_75 : decode cX2_readNot 75 = .ok (.iinc 3 1, 3) := by decide +kernel
theorem dX2_readNot_78 : decode cX2_readNot 78 = .ok (.goto (-17), 3) := by decide +kernel
theorem dX2_readNot_81 : decode cX2_readNot 81 = .ok (.return_, 1) := by decide +kernel
set_option maxRecDepth 100000 in
theorem ggX2_readTest_X2_readSum : GoodIn wsX2_readTest wsX2_readSum := goodIn_r _ [209, 1, 2, 210, 211, 212, 6, 7, 8, 9, 10, 11, 12, 13, 14, 15, 16, 17, 18, 19, 20, 21, 22, 23, 24, 25, 26, 27, 28, 29, 30, 31, 32, 33, 34, 35, 36, 37, 38, 39, 40, 41, 42, 43, 44, 45, 46, 47, 48, 49, 50, 51, 52, 53, 54, 55, 56, 57, 58, 59, 60, 61, 62, 63, 64, 65, 66, 67, 68, 69, 70, 71, 72, 73, 74, 75, 76, 77, 78, 79, 80, 81, 82, 83, 84, 85, 86, 87, 88, 89, 90, 91, 92, 93, 94, 95, 96, 97, 98, 99, 100, 101, 102, 103, 104, 105, 106, 107, 108, 109, 110, 111, 112, 113, 114, 115, 116, 117, 118, 119, 120, 121, 122, 123, 124, 125, 126, 127, 128, 129, 130, 131, 132, 133, 134, 135, 136, 137, 138, 139, 140, 141, 142, 143, 144, 145, 146, 147, 148, 149, 150, 151, 152, 153, 154, 155, 156, 157, 158, 159, 160, 161, 162, 163, 164, 165, 166, 167, 168, 169, 170, 171, 172, 173, 174, 175, 176, 177, 178, 179, 180, 181, 182, 183, 184, 185, 186, 187, 188, 189, 190, 191, 192, 193, 194, 195, 196, 197, 198, 199, 200, 201, 202, 203, 204, 205, 206, 207, 208, 0, 3, 4, 5, 213, 214, 215, 216, 217, 218, 219, 220, 221, 222, 223, 224, 225, 226, 227, 228, 229, 230, 231, 232, 233, 234, 235, 236] rfl (by decide +kernel)
set_option maxRecDepth 100000 in
theorem gX2_readTest_X2_readSum : GoodIn wsX2_readTest (wsV RX2 72 RX2 yX2_readSum wsX2_readSum) := goodIn_app (goodIn_of _ (by decide +kernel)) ggX2_readTest_X2_readSum
set_option maxRecDepth 100000 in
theorem ggX2_readTest_X8_isSign : GoodIn wsX2_readTest wsX8_isSign := goodIn_r _ [10, 11, 12, 216, 217, 218, 219, 220, 221, 222, 223, 224] rfl (by decide +kernel)
set_option maxRecDepth 100000 in
theorem gX2_readTest_X8_isSign_n33 : GoodIn wsX2_readTest (wsX8_isSign) := ggX2_readTest_X8_isSign
set_option maxRecDepth 100000 in
theorem ggX2_readTest_X8_next : GoodIn wsX2_readTest wsX8_next := goodIn_r _ [15, 11, 16, 17, 18, 19, 20, 21, 8, 22, 23, 24, 25, 26, 27, 28, 29, 30, 31, 32, 33, 34, 35, 36, 37, 38, 12, 39, 40, 41, 42, 43, 44, 45, 46, 47, 48, 49, 50, 51, 52, 53, 54, 55, 56, 57, 58, 59, 60, 61, 62, 63, 64, 65, 66, 67, 68, 69, 70, 71, 72, 73, 74, 75, 76, 77, 78, 79, 80, 81, 82, 83, 84, 85, 86, 87, 88, 89, 90, 91, 92, 93, 94, 95, 96, 97, 98, 99, 100, 101, 102, 103, 104, 105, 106, 107, 108, 109, 110, 111, 112, 113, 114, 115, 116, 117, 118, 119, 120, 121, 122, 123, 124, 125, 126, 127, 216, 217, 218, 219, 220, 221, 222, 223, 224] rfl (by decide +kernel)
set_option maxRecDepth 100000 in
theorem gX2_readTest_X8_next_n52 : GoodIn wsX2_readTest (wsX8_next) := ggX2_readTest_X8_next
set_option maxRecDepth 100000 in
theorem ggX2_readTest_X9_emit : GoodIn wsX2_readTest wsX9_emit := goodIn_r _ [131, 132, 133, 225, 226, 227, 228, 229, 230, 231, 232, 233, 234, 235, 236] rfl (by decide +kernel)
set_option maxRecDepth 100000 in
theorem gX2_readTest_X9_emit_n57 : GoodIn wsX2_readTest (wsX9_emit) := ggX2_readTest_X9_emit
theorem dX2_readTest_0 : decode cX2_readTest 0 = .ok (.aload_n 0, 1) := by decide +kernel
theorem dX2_readTest_1 : decode cX2_readTest 1 = .ok (.iload_n 1, 1) := by decide +kernel
theorem dX2_readTest_2 : decode cX2_readTest 2 = .ok (.invokevirtual 72, 3) := by decide +kernel
theorem dX2_readTest_5 : decode cX2_readTest 5 = .ok (.aload_n 0, 1) := by decide +kernel
theorem dX2_readTest_6 : decode cX2_readTest 6 = .ok (.getfield 15, 3) := by decide +kernel
theorem dX2_readTest_9 : decode cX2_readTest 9 = .ok (.bipush 60, 2) := by decide +kernel
theorem dX2_readTest_11 : decode cX2_readTest 11 = .ok (.invokevirtual 33, 3) := by decide +kernel
theorem dX2_readTest_14 : decode cX2_readTest 14 = .ok (.ifCond .ne 15, 3) := by decide +kernel
theorem dX2_readTest_17 : decode cX2_readTest 17 = .ok (.aload_n 0, 1) := by decide +kernel
theorem dX2_readTest_18 : decode cX2_readTest 18 = .ok (.getfield 15, 3) := by decide +kernel
theorem dX2_readTest_21 : decode cX2_readTest 21 = .ok (.bipush 61, 2) := by decide +kernel
theorem dX2_readTest_23 : decode cX2_readTest 23 = .ok (.invokevirtual 33, 3) := by decide +kernel
theorem dX2_readTest_26 : decode cX2_readTest 26 = .ok (.ifCond .eq 43, 3) := by decide +kernel
theorem dX2_readTest_29 : decode cX2_readTest 29 = .ok (.aload_n 0, 1) := by decide +kernel
theorem dX2_readTest_30 : decode cX2_readTest 30 = .ok (.getfield 15, 3) := by decide +kernel
theorem dX2_readTest_33 : decode cX2_readTest 33 = .ok (.bipush 60, 2) := by decide +kernel
theorem dX2_readTest_35 : decode cX2_readTest 35 = .ok (.invokevirtual 33, 3) := by decide +kernel
theorem dX2_readTest_38 : decode cX2_readTest 38 = .ok (.ifCond .eq 8, 3) := by decide +kernel
theorem dX2_readTest_41 : decode cX2_readTest 41 = .ok (.bipush (-23), 2) := by decide +kernel
theorem dX2_readTest_43 : decode cX2_readTest 43 = .ok (.goto 5, 3) := by decide +kernel
theorem dX2_readTest_46 : decode cX2_readTest 46 = .ok (.bipush (-24), 2) := by decide +kernel
theorem dX2_readTest_48 : decode cX2_readTest 48 = .ok (.istore_n 2, 1) := by decide +kernel
theorem dX2_readTest_49 : decode cX2_readTest 49 = .ok (.aload_n 0, 1) := by decide +kernel
theorem dX2_readTest_50 : decode cX2_readTest 50 = .ok (.getfield 15, 3) := by decide +kernel
theorem dX2_readTest_53 : decode cX2_readTest 53 = .ok (.invokevirtual 52, 3) := by decide +kernel
theorem dX2_readTest_56 : decode cX2_readTest 56 = .ok (.aload_n 0, 1) := by decide +kernel
theorem dX2_readTest_57 : decode cX2_readTest 57 = .ok (.iload_n 1, 1) := by decide +kernel
theorem dX2_readTest_58 : decode cX2_readTest 58 = .ok (.invokevirtual 72, 3) := by decide +kernel
theorem dX2_readTest_61 : decode cX2_readTest 61 = .ok (.aload_n 0, 1) := by decide +kernel
theorem dX2_readTest_62 : decode cX2_readTest 62 = .ok (.getfield 19, 3) := by decide +kernel
theorem dX2_readTest_65 : decode cX2_readTest 65 = .ok (.iload_n 2, 1) := by decide +kernel
theorem dX2_readTest_66 : decode cX2_readTest 66 = .ok (.invokevirtual 57, 3) := by decide +kernel
theorem dX2_readTest_69 : decode cX2_readTest 69 = .ok (.return_, 1) := by decide +kernel
set_option maxRecDepth 100000 in
theorem ggX2_readSum_X2_readProduct : GoodIn wsX2_readSum wsX2_readProduct := goodIn_r _ [205, 1, 2, 206, 207, 208, 6, 7, 8, 9, 10, 11, 12, 13, 14, 15, 16, 17, 18, 19, 20, 21, 22, 23, 24, 25, 26, 27, 28, 29, 30, 31, 32, 33, 34, 35, 36, 37, 38, 39, 40, 41, 42, 43, 44, 45, 46, 47, 48, 49, 50, 51, 52, 53, 54, 55, 56, 57, 58, 59, 60, 61, 62, 63, 64, 65, 66, 67, 68, 69, 70, 71, 72, 73, 74, 75, 76, 77, 78, 79, 80, 81, 82, 83, 84, 85, 86, 87, 88, 89, 90, 91, 92, 93, 94, 95, 96, 97, 98, 99, 100, 101, 102, 103, 104, 105, 106, 107, 108, 109, 110, 111, 112, 113, 114, 115, 116, 117, 118, 119, 120, 121, 122, 123, 124, 125, 126, 127, 128, 129, 130, 131, 132, 133, 134, 135, 136, 137, 138, 139, 140, 141, 142, 143, 144, 145, 146, 147, 148, 149, 150, 151, 152, 153, 154, 155, 156, 157, 158, 159, 160, 161, 162, 163, 164, 165, 166, 167, 168, 169, 170, 171, 172, 173, 174, 175, 176, 177, 178, 179, 180, 181, 182, 183, 184, 185, 186, 187, 188, 189, 190, 191, 192, 193, 194, 195, 196, 197, 198, 199, 200, 201, 202, 203, 204, 0, 3, 4, 5, 209, 210, 211, 212, 213, 214, 215, 216, 217, 218, 219, 220, 221, 222, 223, 224, 225, 226, 227, 228, 229, 230, 231, 232, 233, 234, 235, 236] rfl (by decide +kernel)
set_option maxRecDepth 100000 in
theorem gX2_readSum_X2_readProduct : GoodIn wsX2_readSum (wsV RX2 75 RX2 yX2_readProduct wsX2_readProduct) := goodIn_app (goodIn_of _ (by decide +kernel)) ggX2_readSum_X2_readProduct
set_option maxRecDepth 100000 in
theorem ggX2_readSum_X8_isSign : GoodIn wsX2_readSum wsX8_isSign := goodIn_r _ [10, 11, 12, 216, 217, 218, 219, 220, 221, 222, 223, 224] rfl (by decide +kernel)
set_option maxRecDepth 100000 in
theorem gX2_readSum_X8_isSign_n33 : GoodIn wsX2_readSum (wsX8_isSign) := ggX2_readSum_X8_isSign
set_option maxRecDepth 100000 in
theorem ggX2_readSum_X8_next : GoodIn wsX2_readSum wsX8_next := goodIn_r _ [15, 11, 16, 17, 18, 19, 20, 21, 8, 22, 23, 24, 25, 26, 27, 28, 29, 30, 31, 32, 33, 34, 35, 36, 37, 38, 12, 39, 40, 41, 42, 43, 44, 45, 46, 47, 48, 49, 50, 51, 52, 53, 54, 55, 56, 57, 58, 59, 60, 61, 62, 63, 64, 65, 66, 67, 68, 69, 70, 71, 72, 73, 74, 75, 76, 77, 78, 79, 80, 81, 82, 83, 84, 85, 86, 87, 88, 89, 90, 91, 92, 93, 94, 95, 96, 97, 98, 99, 100, 101, 102, 103, 104, 105, 106, 107, 108, 109, 110, 111, 112, 113, 114, 115, 116, 117, 118, 119, 120, 121, 122, 123, 124, 125, 126, 127, 216, 217, 218, 219, 220, 221, 222, 223, 224] rfl (by decide +kernel)
set_option maxRecDepth 100000 in
theorem gX2_readSum_X8_next_n52 : GoodIn wsX2_readSum (wsX8_next) := ggX2_readSum_X8_next
set_option maxRecDepth 100000 in
theorem ggX2_readSum_X9_emit : GoodIn wsX2_readSum wsX9_emit := goodIn_r _ [131, 132, 133, 225, 226, 227, 228, 229, 230, 231, 232, 233, 234, 235, 236] rfl (by decide +kernel)
set_option maxRecDepth 100000 in
theorem gX2_readSum_X9_emit_n57 : GoodIn wsX2_readSum (wsX9_emit) := ggX2_readSum_X9_emit
theorem dX2_readSum_0 : decode cX2_readSum 0 = .ok (.aload_n 0, 1) := by decide +kernel
theorem dX2_readSum_1 : decode cX2_readSum 1 = .ok (.iload_n 1, 1) := by decide +kernel
theorem dX2_readSum_2 : decode cX2_readSum 2 = .ok (.invokevirtual 75, 3) := by decide +kernel
theorem dX2_readSum_5 : decode cX2_readSum 5 = .ok (.iconst 0, 1) := by decide +kernel
theorem dX2_readSum_6 : decode cX2_readSum 6 = .ok (.istore_n 2, 1) := by decide +kernel
theorem dX2_readSum_7 : decode cX2_readSum 7 = .ok (.iload_n 2, 1) := by decide +kernel
theorem dX2_readSum_8 : decode cX2_readSum 8 = .ok (.sipush 700, 3) := by decide +kernel
theorem dX2_readSum_11 : decode cX2_readSum 11 = .ok (.if_icmp .ge 73, 3) := by decide +kernel
theorem dX2_readSum_14 : decode cX2_readSum 14 = .ok (.aload_n 0, 1) := by decide +kernel
theorem dX2_readSum_15 : decode cX2_readSum 15 = .ok (.getfield 15, 3) := by decide +kernel
theorem dX2_readSum_18 : decode cX2_readSum 18 = .ok (.bipush 43, 2) := by decide +kernel
theorem dX2_readSum_20 : decode cX2_readSum 20 = .ok (.invokevirtual 33, 3) := by decide +kernel
theorem dX2_readSum_23 : decode cX2_readSum 23 = .ok (.ifCond .ne 15, 3) := by decide +kernel
theorem dX2_readSum_26 : decode cX2_readSum 26 = .ok (.aload_n 0, 1) := by decide +kernel
theorem dX2_readSum_27 : decode cX2_readSum 27 = .ok (.getfield 15, 3) := by decide +kernel
theorem dX2_readSum_30 : decode cX2_readSum 30 = .ok (.bipush 45, 2) := by decide +kernel
theorem dX2_readSum_32 : decode cX2_readSum 32 = .ok (.invokevirtual 33, 3) := by decide +kernel
theorem dX2_readSum_35 : decode cX2_readSum 35 = .ok (.ifCond .eq 49, 3) := by decide +kernel
theorem dX2_readSum_38 : decode cX2_readSum 38 = .ok (.aload_n 0, 1) := by decide +kernel
theorem dX2_readSum_39 : decode cX2_readSum 39 = .ok (.getfield 15, 3) := by decide +kernel
theorem dX2_readSum_42 : decode cX2_readSum 42 = .ok (.bipush 43, 2) := by decide +kernel
theorem dX2_readSum_44 : decode cX2_readSum 44 = .ok (.invokevirtual 33, 3) := by decide +kernel
theorem dX2_readSum_47 : decode cX2_readSum 47 = .ok (.ifCond .eq 8, 3) := by decide +kernel
theorem dX2_readSum_50 : decode cX2_readSum 50 = .ok (.bipush (-25), 2) := by decide +kernel
theorem dX2_readSum_52 : decode cX2_readSum 52 = .ok (.goto 5, 3) := by decide +kernel
theorem dX2_readSum_55 : decode cX2_readSum 55 = .ok (.bipush (-26), 2) := by decide +kernel
theorem dX2_readSum_57 : decode cX2_readSum 57 = .ok (.istore_n 3, 1) := by decide +kernel
theorem dX2_readSum_58 : decode cX2_readSum 58 = .ok (.aload_n 0, 1) := by decide +kernel
theorem dX2_readSum_59 : decode cX2_readSum 59 = .ok (.getfield 15, 3) := by decide +kernel
theorem dX2_readSum_62 : decode cX2_readSum 62 = .ok (.invokevirtual 52, 3) := by decide +kernel
theorem dX2_readSum_65 : decode cX2_readSum 65 = .ok (.aload_n 0, 1) := by decide +kernel
theorem dX2_readSum_66 : decode cX2_readSum 66 = .ok (.iload_n 1, 1) := by decide +kernel
theorem dX2_readSum_67 : decode cX2_readSum 67 = .ok (.invokevirtual 75, 3) := by decide +kernel
theorem dX2_readSum_70 : decode cX2_readSum 70 = .ok (.aload_n 0, 1) := by decide +kernel
theorem dX2_readSum_71 : decode cX2_readSum 71 = .ok (.getfield 19, 3) := by decide +kernel
theorem dX2_readSum_74 : decode cX2_readSum 74 = .ok (.iload_n 3, 1) := by decide +kernel
theorem dX2_readSum_75 : decode cX2_readSum 75 = .ok (.invokevirtual 57, 3) := by decide +kernel
theorem dX2_readSum_78 : decode cX2_readSum 78 = .ok (.iinc 2 1, 3) := by decide +kernel
theorem dX2_readSum_81 : decode cX2_readSum 81 = .ok (.goto (-74), 3) := by decide +kernel
theorem dX2_readSum_84 : decode cX2_readSum 84 = .ok (.return_, 1) := by decide +kernel
set_option maxRecDepth 100000 in
theorem ggX2_readProduct_X2_readPart : GoodIn wsX2_readProduct wsX2_readPart := goodIn_r _ [178, 1, 2, 163, 8, 164, 165, 11, 179, 180, 181, 16, 19, 166, 167, 168, 169, 170, 128, 129, 130, 131, 132, 133, 13, 14, 15, 17, 18, 20, 21, 22, 23, 24, 25, 26, 27, 28, 29, 30, 31, 32, 33, 34, 35, 36, 37, 38, 12, 39, 40, 41, 42, 43, 44, 45, 46, 47, 48, 49, 50, 51, 52, 53, 54, 55, 56, 57, 58, 59, 60, 61, 62, 63, 64, 65, 66, 67, 68, 69, 70, 71, 72, 73, 74, 75, 76, 77, 78, 79, 80, 81, 82, 83, 84, 85, 86, 87, 88, 89, 90, 91, 92, 93, 94, 95, 96, 97, 98, 99, 100, 101, 102, 103, 104, 105, 106, 107, 108, 109, 110, 111, 112, 113, 114, 115, 116, 117, 118, 119, 120, 121, 122, 123, 124, 125, 126, 127, 182, 183, 184, 6, 185, 186, 187, 188, 189, 190, 138, 139, 140, 141, 142, 143, 144, 145, 146, 147, 148, 149, 150, 151, 152, 153, 154, 155, 156, 157, 158, 159, 160, 161, 191, 192, 193, 194, 195, 196, 197, 198, 199, 200, 201, 7, 9, 10, 202, 203, 204, 134, 135, 136, 137, 162, 171, 172, 173, 174, 175, 176, 177, 0, 3, 4, 5, 205, 206, 207, 208, 209, 210, 211, 212, 213, 214, 215, 216, 217, 218, 219, 220, 221, 222, 223, 224, 225, 226, 227, 228, 229, 230, 231, 232, 233, 234, 235, 236] rfl (by decide +kernel)
set_option maxRecDepth 100000 in
theorem gX2_readProduct_X2_readPart : GoodIn wsX2_readProduct (wsV RX2 78 RX2 yX2_readPart wsX2_readPart) := goodIn_app (goodIn_of _ (by decide +kernel)) ggX2_readProduct_X2_readPart
set_option maxRecDepth 100000 in
theorem ggX2_readProduct_X8_isSign : GoodIn wsX2_readProduct wsX8_isSign := goodIn_r _ [10, 11, 12, 216, 217, 218, 219, 220, 221, 222, 223, 224] rfl (by decide +kernel)
set_option maxRecDepth 100000 in
theorem gX2_readProduct_X8_isSign_n33 : GoodIn wsX2_readProduct (wsX8_isSign) := ggX2_readProduct_X8_isSign
set_option maxRecDepth 100000 in
theorem ggX2_readProduct_X8_next : GoodIn wsX2_readProduct wsX8_next := goodIn_r _ [15, 11, 16, 17, 18, 19, 20, 21, 8, 22, 23, 24, 25, 26, 27, 28, 29, 30, 31, 32, 33, 34, 35, 36, 37, 38, 12, 39, 40, 41, 42, 43, 44, 45, 46, 47, 48, 49, 50, 51, 52, 53, 54, 55, 56, 57, 58, 59, 60, 61, 62, 63, 64, 65, 66, 67, 68, 69, 70, 71, 72, 73, 74, 75, 76, 77, 78, 79, 80, 81, 82, 83, 84, 85, 86, 87, 88, 89, 90, 91, 92, 93, 94, 95, 96, 97, 98, 99, 100, 101, 102, 103, 104, 105, 106, 107, 108, 109, 110, 111, 112, 113, 114, 115, 116, 117, 118, 119, 120, 121, 122, 123, 124, 125, 126, 127, 216, 217, 218, 219, 220, 221, 222, 223, 224] rfl (by decide +kernel)
set_option maxRecDepth 100000 in
theorem gX2_readProduct_X8_next_n52 : GoodIn wsX2_readProduct (wsX8_next) := ggX2_readProduct_X8_next
set_option maxRecDepth 100000 in
theorem ggX2_readProduct_X9_emit : GoodIn wsX2_readProduct wsX9_emit := goodIn_r _ [131, 132, 133, 225, 226, 227, 228, 229, 230, 231, 232, 233, 234, 235, 236] rfl (by decide +kernel)
set_option maxRecDepth 100000 in
theorem gX2_readProduct_X9_emit_n57 : GoodIn wsX2_readProduct (wsX9_emit) := ggX2_readProduct_X9_emit
theorem dX2_readProduct_0 : decode cX2_readProduct 0 = .ok (.aload_n 0, 1) := by decide +kernel
theorem dX2_readProduct_1 : decode cX2_readProduct 1 = .ok (.iload_n 1, 1) := by decide +kernel
theorem dX2_readProduct_2 : decode cX2_readProduct 2 = .ok (.invokevirtual 78, 3) := by decide +kernel
theorem dX2_readProduct_5 : decode cX2_readProduct 5 = .ok (.iconst 0, 1) := by decide +kernel
theorem dX2_readProduct_6 : decode cX2_readProduct 6 = .ok (.istore_n 2, 1) := by decide +kernel
theorem dX2_readProduct_7 : decode cX2_readProduct 7 = .ok (.iload_n 2, 1) := by decide +kernel
theorem dX2_readProduct_8 : decode cX2_readProduct 8 = .ok (.sipush 700, 3) := by decide +kernel
theorem dX2_readProduct_11 : decode cX2_readProduct 11 = .ok (.if_icmp .ge 73, 3) := by decide +kernel
theorem dX2_readProduct_14 : decode cX2_readProduct 14 = .ok (.aload_n 0, 1) := by decide +kernel
theorem dX2_readProduct_15 : decode cX2_readProduct 15 = .ok (.getfield 15, 3) := by decide +kernel
theorem dX2_readProduct_18 : decode cX2_readProduct 18 = .ok (.bipush 42, 2) := by decide +kernel
theorem dX2_readProduct_20 : decode cX2_readProduct 20 = .ok (.invokevirtual 33, 3) := by decide +kernel
theorem dX2_readProduct_23 : decode cX2_readProduct 23 = .ok (.ifCond .ne 15, 3) := by decide +kernel
theorem dX2_readProduct_26 : decode cX2_readProduct 26 = .ok (.aload_n 0, 1) := by decide +kernel
theorem dX2_readProduct_27 : decode cX2_readProduct 27 = .ok (.getfield 15, 3) := by decide +kernel
theorem dX2_readProduct_30 : decode cX2_readProduct 30 = .ok (.bipush 47, 2) := by decide +kernel
theorem dX2_readProduct_32 : decode cX2_readProduct 32 = .ok (.invokevirtual 33, 3) := by decide +kernel
theorem dX2_readProduct_35 : decode cX2_readProduct 35 = .ok (.ifCond .eq 49, 3) := by decide +kernel
theorem dX2_readProduct_38 : decode cX2_readProduct 38 = .ok (.aload_n 0, 1) := by decide +kernel
theorem dX2_readProduct_39 : decode cX2_readProduct 39 = .ok (.getfield 15, 3) := by decide +kernel
theorem dX2_readProduct_42 : decode cX2_readProduct 42 = .ok (.bipush 42, 2) := by decide +kernel
theorem dX2_readProduct_44 : decode cX2_readProduct 44 = .ok (.invokevirtual 33, 3) := by decide +kernel
theorem dX2_readProduct_47 : decode cX2_readProduct 47 = .ok (.ifCond .eq 8, 3) := by decide +kernel
theorem dX2_readProduct_50 : decode cX2_readProduct 50 = .ok (.bipush (-27), 2) := by decide +kernel
theorem dX2_readProduct_52 : decode cX2_readProduct 52 = .ok (.goto 5, 3) := by decide +kernel
theorem dX2_readProduct_55 : decode cX2_readProduct 55 = .ok (.bipush (-28), 2) := by decide +kernel
theorem dX2_readProduct_57 : decode cX2_readProduct 57 = .ok (.istore_n 3, 1) := by decide +kernel
theorem dX2_readProduct_58 : decode cX2_readProduct 58 = .ok (.aload_n 0, 1) := by decide +kernel
theorem dX2_readProduct_59 : decode cX2_readProduct 59 = .ok (.getfield 15, 3) := by decide +kernel
theorem dX2_readProduct_62 : decode cX2_readProduct 62 = .ok (.invokevirtual 52, 3) := by decide +kernel
theorem dX2_readProduct_65 : decode cX2_readProduct 65 = .ok (.aload_n 0, 1) := by decide +kernel
theorem dX2_readProduct_66 : decode cX2_readProduct 66 = .ok (.iload_n 1, 1) := by decide +kernel
theorem dX2_readProduct_67 : decode cX2_readProduct 67 = .ok (.invokevirtual 78, 3) := by decide +kernel
theorem dX2_readProduct_70 : decode cX2_readProduct 70 = .ok (.aload_n 0, 1) := by decide +kernel
theorem dX2_readProduct_71 : decode cX2_readProduct 71 = .ok (.getfield 19, 3) := by decide +kernel
theorem dX2_readProduct_74 : decode cX2_readProduct 74 = .ok (.iload_n 3, 1) := by decide +kernel
theorem dX2_readProduct_75 : decode cX2_readProduct 75 = .ok (.invokevirtual 57, 3) := by decide +kernel
theorem dX2_readProduct_78 : decode cX2_readProduct 78 = .ok (.iinc 2 1, 3) := by decide +kernel
theorem dX2_readProduct_81 : decode cX2_readProduct 81 = .ok (.goto (-74), 3) := by decide +kernel
theorem dX2_readProduct_84 : decode cX2_readProduct 84 = .ok (.return_, 1) := by decide +kernel
set_option maxRecDepth 100000 in
theorem ggX2_readPart_X8_isNumber : GoodIn wsX2_readPart wsX8_isNumber := goodIn_r _ [6, 7, 216, 217, 218, 219, 220, 221, 222, 223, 224] rfl (by decide +kernel)
set_option maxRecDepth 100000 in
theorem gX2_readPart_X8_isNumber_n23 : GoodIn wsX2_readPart (wsX8_isNumber) := ggX2_readPart_X8_isNumber
set_option maxRecDepth 100000 in
theorem ggX2_readPart_X8_isTooLong : GoodIn wsX2_readPart wsX8_isTooLong := goodIn_r _ [10, 11, 12, 216, 217, 218, 219, 220, 221, 222, 223, 224] rfl (by decide +kernel)
set_option maxRecDepth 100000 in
theorem gX2_readPart_X8_isTooLong_n81 : GoodIn wsX2_readPart (wsX8_isTooLong) := ggX2_readPart_X8_isTooLong
set_option maxRecDepth 100000 in
theorem ggX2_readPart_X8_fail : GoodIn wsX2_readPart wsX8_fail := goodIn_r _ [15, 16, 12, 17, 7, 216, 217, 218, 219, 220, 221, 222, 223, 224] rfl (by decide +kernel)
set_option maxRecDepth 100000 in
theorem gX2_readPart_X8_fail_n39 : GoodIn wsX2_readPart (wsX8_fail) := ggX2_readPart_X8_fail
set_option maxRecDepth 100000 in
theorem ggX2_readPart_X9_emit : GoodIn wsX2_readPart wsX9_emit := goodIn_r _ [21, 22, 23, 225, 226, 227, 228, 229, 230, 231, 232, 233, 234, 235, 236] rfl (by decide +kernel)
set_option maxRecDepth 100000 in
theorem gX2_readPart_X9_emit_n57 : GoodIn wsX2_readPart (wsX9_emit) := ggX2_readPart_X9_emit
set_option maxRecDepth 100000 in
theorem ggX2_readPart_X8_next : GoodIn wsX2_readPart wsX8_next := goodIn_r _ [26, 7, 11, 27, 28, 12, 29, 30, 4, 31, 32, 33, 34, 35, 36, 37, 38, 39, 40, 41, 42, 43, 44, 45, 46, 47, 48, 49, 50, 51, 52, 53, 54, 55, 56, 57, 58, 59, 60, 61, 62, 63, 64, 65, 66, 67, 68, 69, 70, 71, 72, 73, 74, 75, 76, 77, 78, 79, 80, 81, 82, 83, 84, 85, 86, 87, 88, 89, 90, 91, 92, 93, 94, 95, 96, 97, 98, 99, 100, 101, 102, 103, 104, 105, 106, 107, 108, 109, 110, 111, 112, 113, 114, 115, 116, 117, 118, 119, 120, 121, 122, 123, 124, 125, 126, 127, 128, 129, 130, 131, 132, 133, 134, 135, 136, 137, 216, 217, 218, 219, 220, 221, 222, 223, 224] rfl (by decide +kernel)
set_option maxRecDepth 100000 in
theorem gX2_readPart_X8_next_n52 : GoodIn wsX2_readPart (wsX8_next) := ggX2_readPart_X8_next
set_option maxRecDepth 100000 in
theorem ggX2_readPart_X2_emitValue : GoodIn wsX2_readPart wsX2_emitValue := goodIn_r _ [142, 143, 1, 2, 144, 145, 146, 141, 147, 148, 4, 149, 150, 7, 11, 12, 28, 151, 66, 67, 52, 68, 58, 69, 70, 71, 72, 63, 64, 152, 153, 154, 155, 59, 60, 61, 62, 156, 157, 75, 158, 159, 160, 161, 109, 162, 163, 112, 164, 165, 166, 92, 167, 168, 169, 170, 103, 104, 105, 171, 117, 118, 119, 120, 121, 122, 172, 173, 174, 175, 176, 177, 178, 179, 13, 14, 15, 16, 17, 180, 181, 182, 18, 19, 20, 21, 22, 23, 213, 214, 215, 216, 217, 218, 219, 220, 221, 222, 223, 224, 225, 226, 227, 228, 229, 230, 231, 232, 233, 234, 235, 236] rfl (by decide +kernel)
set_option maxRecDepth 100000 in
theorem gX2_readPart_X2_emitValue : GoodIn wsX2_readPart (wsV RX2 87 RX2 yX2_emitValue wsX2_emitValue) := goodIn_app (goodIn_of _ (by decide +kernel)) ggX2_readPart_X2_emitValue
set_option maxRecDepth 100000 in
theorem ggX2_readPart_X8_isSign : GoodIn wsX2_readPart wsX8_isSign := goodIn_r _ [185, 7, 48, 216, 217, 218, 219, 220, 221, 222, 223, 224] rfl (by decide +kernel)
set_option maxRecDepth 100000 in
theorem gX2_readPart_X8_isSign_n33 : GoodIn wsX2_readPart (wsX8_isSign) := ggX2_readPart_X8_isSign
set_option maxRecDepth 100000 in
theorem ggX2_readPart_X2_readExpr : GoodIn wsX2_readPart wsX2_readExpr := goodIn_r _ [193, 1, 2, 3, 4, 5, 6, 7, 183, 184, 185, 48, 13, 14, 15, 16, 12, 17, 194, 195, 196, 141, 148, 149, 150, 11, 28, 151, 66, 67, 52, 68, 58, 69, 70, 71, 72, 63, 64, 152, 153, 154, 155, 59, 60, 61, 62, 156, 157, 75, 158, 159, 160, 161, 109, 162, 163, 112, 164, 165, 166, 92, 167, 168, 169, 170, 103, 104, 105, 171, 117, 118, 119, 120, 121, 122, 24, 25, 26, 27, 29, 30, 31, 32, 33, 34, 35, 36, 37, 38, 39, 40, 41, 42, 43, 44, 45, 46, 47, 49, 50, 51, 53, 54, 55, 56, 57, 65, 73, 74, 76, 77, 78, 79, 80, 81, 82, 83, 84, 85, 86, 87, 88, 89, 90, 91, 93, 94, 95, 96, 97, 98, 99, 100, 101, 102, 106, 107, 108, 110, 111, 113, 114, 115, 116, 123, 124, 125, 126, 127, 128, 129, 130, 131, 132, 133, 134, 135, 136, 137, 18, 19, 20, 21, 22, 23, 189, 190, 191, 192, 197, 198, 199, 200, 0, 8, 9, 10, 138, 139, 140, 142, 143, 144, 145, 146, 147, 172, 173, 174, 175, 176, 177, 178, 179, 180, 181, 182, 186, 187, 188, 201, 202, 203, 204, 205, 206, 207, 208, 209, 210, 211, 212, 213, 214, 215, 216, 217, 218, 219, 220, 221, 222, 223, 224, 225, 226, 227, 228, 229, 230, 231, 232, 233, 234, 235, 236] rfl (by decide +kernel)
set_option maxRecDepth 100000 in
theorem gX2_readPart_X2_readExpr : GoodIn wsX2_readPart (wsV RX2 90 RX2 yX2_readExpr wsX2_readExpr) := goodIn_app (goodIn_of _ (by decide +kernel)) ggX2_readPart_X2_readExpr
theorem dX2_readPart_0 : decode cX2_readPart 0 = .ok (.aload_n 0, 1) := by decide +kernel
theorem dX2_readPart_1 : decode cX2_readPart 1 = .ok (.getfield 15, 3) := by decide +kernel
theorem dX2_readPart_4 : decode cX2_readPart 4 = .ok (.invokevirtual 23, 3) := by decide +kernel
theorem dX2_readPart_7 : decode cX2_readPart 7 = .ok (.ifCond .eq 45, 3) := by decide +kernel
theorem dX2_readPart_10 : decode cX2_readPart 10 = .ok (.aload_n 0, 1) := by decide +kernel
theorem dX2_readPart_11 : decode cX2_readPart 11 = .ok (.getfield 15, 3) := by decide +kernel
theorem dX2_readPart_14 : decode cX2_readPart 14 = .ok (.invokevirtual 81, 3) := by decide +kernel
theorem dX2_readPart_17 : decode cX2_readPart 17 = .ok (.ifCond .eq 11, 3) := by decide +kernel
theorem dX2_readPart_20 : decode cX2_readPart 20 = .ok (.aload_n 0, 1) := by decide +kernel
theorem dX2_readPart_21 : decode cX2_readPart 21 = .ok (.getfield 15, 3) := by decide +kernel
theorem dX2_readPart_24 : decode cX2_readPart 24 = .ok (.iconst 2, 1) := by decide +kernel
theorem dX2_readPart_25 : decode cX2_readPart 25 = .ok (.invokevirtual 39, 3) := by decide +kernel
theorem dX2_readPart_28 : decode cX2_readPart 28 = .ok (.aload_n 0, 1) := by decide +kernel
theorem dX2_readPart_29 : decode cX2_readPart 29 = .ok (.getfield 19, 3) := by decide +kernel
theorem dX2_readPart_32 : decode cX2_readPart 32 = .ok (.aload_n 0, 1) := by decide +kernel
theorem dX2_readPart_33 : decode cX2_readPart 33 = .ok (.getfield 15, 3) := by decide +kernel
theorem dX2_readPart_36 : decode cX2_readPart 36 = .ok (.getfield 84, 3) := by decide +kernel
theorem dX2_readPart_39 : decode cX2_readPart 39 = .ok (.invokevirtual 57, 3) := by decide +kernel
theorem dX2_readPart_42 : decode cX2_readPart 42 = .ok (.aload_n 0, 1) := by decide +kernel
theorem dX2_readPart_43 : decode cX2_readPart 43 = .ok (.getfield 15, 3) := by decide +kernel
theorem dX2_readPart_46 : decode cX2_readPart 46 = .ok (.invokevirtual 52, 3) := by decide +kernel
theorem dX2_readPart_49 : decode cX2_readPart 49 = .ok (.goto 92, 3) := by decide +kernel
theorem dX2_readPart_52 : decode cX2_readPart 52 = .ok (.aload_n 0, 1) := by decide +kernel
theorem dX2_readPart_53 : decode cX2_readPart 53 = .ok (.getfield 15, 3) := by decide +kernel
theorem dX2_readPart_56 : decode cX2_readPart 56 = .ok (.getfield 29, 3) := by decide +kernel
theorem dX2_readPart_59 : decode cX2_readPart 59 = .ok (.iconst 1, 1) := by decide +kernel
theorem dX2_readPart_60 : decode cX2_readPart 60 = .ok (.if_icmp .ne 17, 3) := by decide +kernel
theorem dX2_readPart_63 : decode cX2_readPart 63 = .ok (.aload_n 0, 1) := by decide +kernel
theorem dX2_readPart_64 : decode cX2_readPart 64 = .ok (.invokevirtual 87, 3) := by decide +kernel
theorem dX2_readPart_67 : decode cX2_readPart 67 = .ok (.aload_n 0, 1) := by decide +kernel
theorem dX2_readPart_68 : decode cX2_readPart 68 = .ok (.getfield 15, 3) := by decide +kernel
theorem dX2_readPart_71 : decode cX2_readPart 71 = .ok (.invokevirtual 52, 3) := by decide +kernel
theorem dX2_readPart_74 : decode cX2_readPart 74 = .ok (.goto 67, 3) := by decide +kernel
theorem dX2_readPart_77 : decode cX2_readPart 77 = .ok (.aload_n 0, 1) := by decide +kernel
theorem dX2_readPart_78 : decode cX2_readPart 78 = .ok (.getfield 15, 3) := by decide +kernel
theorem dX2_readPart_81 : decode cX2_readPart 81 = .ok (.bipush 40, 2) := by decide +kernel
theorem dX2_readPart_83 : decode cX2_readPart 83 = .ok (.invokevirtual 33, 3) := by decide +kernel
theorem dX2_readPart_86 : decode cX2_readPart 86 = .ok (.ifCond .eq 47, 3) := by decide +kernel
theorem dX2_readPart_89 : decode cX2_readPart 89 = .ok (.aload_n 0, 1) := by decide +kernel
theorem dX2_readPart_90 : decode cX2_readPart 90 = .ok (.getfield 15, 3) := by decide +kernel
theorem dX2_readPart_93 : decode cX2_readPart 93 = .ok (.invokevirtual 52, 3) := by decide +kernel
theorem dX2_readPart_96 : decode cX2_readPart 96 = .ok (.aload_n 0, 1) := by decide +kernel
theorem dX2_readPart_97 : decode cX2_readPart 97 = .ok (.iload_n 1, 1) := by decide +kernel
theorem dX2_readPart_98 : decode cX2_readPart 98 = .ok (.iconst 1, 1) := by decide +kernel
theorem dX2_readPart_99 : decode cX2_readPart 99 = .ok (.iadd, 1) := by decide +kernel
theorem dX2_readPart_100 : decode cX2_readPart 100 = .ok (.invokevirtual 90, 3) := by decide +kernel
theorem dX2_readPart_103 : decode cX2_readPart 103 = .ok (.aload_n 0, 1) := by decide +kernel
theorem dX2_readPart_104 : decode cX2_readPart 104 = .ok (.getfield 15, 3) := by decide +kernel
theorem dX2_readPart_107 : decode cX2_readPart 107 = .ok (.bipush 41, 2) := by decide +kernel
theorem dX2_readPart_109 : decode cX2_readPart 109 = .ok (.invokevirtual 33, 3) := by decide +kernel
theorem dX2_readPart_112 : decode cX2_readPart 112 = .ok (.ifCond .ne 11, 3) := by decide +kernel
theorem dX2_readPart_115 : decode cX2_readPart 115 = .ok (.aload_n 0, 1) := by decide +kernel
theorem dX2_readPart_116 : decode cX2_readPart 116 = .ok (.getfield 15, 3) := by decide +kernel
theorem dX2_readPart_119 : decode cX2_readPart 119 = .ok (.iconst 1, 1) := by decide +kernel
theorem dX2_readPart_120 : decode cX2_readPart 120 = .ok (.invokevirtual 39, 3) := by decide +kernel
theorem dX2_readPart_123 : decode cX2_readPart 123 = .ok (.aload_n 0, 1) := by decide +kernel
theorem dX2_readPart_124 : decode cX2_readPart 124 = .ok (.getfield 15, 3) := by decide +kernel
theorem dX2_readPart_127 : decode cX2_readPart 127 = .ok (.invokevirtual 52, 3) := by decide +kernel
theorem dX2_readPart_130 : decode cX2_readPart 130 = .ok (.goto 11, 3) := by decide +kernel
theorem dX2_readPart_133 : decode cX2_readPart 133 = .ok (.aload_n 0, 1) := by decide +kernel
theorem dX2_readPart_134 : decode cX2_readPart 134 = .ok (.getfield 15, 3) := by decide +kernel
theorem dX2_readPart_137 : decode cX2_readPart 137 = .ok (.iconst 1, 1) := by decide +kernel
theorem dX2_readPart_138 : decode cX2_readPart 138 = .ok (.invokevirtual 39, 3) := by decide +kernel
theorem dX2_readPart_141 : decode cX2_readPart 141 = .ok (.return_, 1) := by decide +kernel
set_option maxRecDepth 100000 in
theorem ggX2_emitValue_X2_commonValue : GoodIn wsX2_emitValue wsX2_commonValue := goodIn_r _ [8, 2, 9, 10, 11, 12, 13, 14, 15, 16, 17, 18, 19, 20, 21, 22, 23, 24, 25, 26, 27, 28, 29, 30, 31, 32, 33, 34, 35, 36, 37, 38, 39, 40, 41, 42, 43, 44, 45, 46, 47, 48, 49, 50, 51, 52, 53, 54, 55, 56, 57, 58, 59, 60, 61, 62, 63, 64, 65, 88, 89, 90, 91, 92, 93, 94, 95, 96, 97, 98, 99] rfl (by decide +kernel)
set_option maxRecDepth 100000 in
theorem gX2_emitValue_X2_commonValue : GoodIn wsX2_emitValue (wsV RX2 93 RX2 yX2_commonValue wsX2_commonValue) := goodIn_app (goodIn_of _ (by decide +kernel)) ggX2_emitValue_X2_commonValue
set_option maxRecDepth 100000 in
theorem ggX2_emitValue_X2_forgetsValue : GoodIn wsX2_emitValue wsX2_forgetsValue := goodIn_r _ [69, 2, 9, 10, 11, 12, 13, 14, 15, 16, 17, 18, 19, 20, 21, 22, 23, 24, 25, 26, 27, 28, 29, 30, 31, 32, 33, 34, 35, 36, 37, 38, 39, 40, 41, 42, 43, 44, 45, 46, 47, 48, 49, 50, 51, 52, 53, 54, 55, 56, 57, 58, 59, 60, 61, 62, 63, 64, 65, 88, 89, 90, 91, 92, 93, 94, 95, 96, 97, 98, 99] rfl (by decide +kernel)
set_option maxRecDepth 100000 in
theorem gX2_emitValue_X2_forgetsValue : GoodIn wsX2_emitValue (wsV RX2 97 RX2 yX2_forgetsValue wsX2_forgetsValue) := goodIn_app (goodIn_of _ (by decide +kernel)) ggX2_emitValue_X2_forgetsValue
set_option maxRecDepth 100000 in
theorem ggX2_emitValue_X2_fillsValue : GoodIn wsX2_emitValue wsX2_fillsValue := goodIn_r _ [73, 2, 9, 10, 11, 12, 13, 14, 15, 16, 17, 18, 19, 20, 21, 22, 23, 24, 25, 26, 27, 28, 29, 30, 31, 32, 33, 34, 35, 36, 37, 38, 39, 40, 41, 42, 43, 44, 45, 46, 47, 48, 49, 50, 51, 52, 53, 54, 55, 56, 57, 58, 59, 60, 61, 62, 63, 64, 65, 88, 89, 90, 91, 92, 93, 94, 95, 96, 97, 98, 99] rfl (by decide +kernel)
set_option maxRecDepth 100000 in
theorem gX2_emitValue_X2_fillsValue : GoodIn wsX2_emitValue (wsV RX2 100 RX2 yX2_fillsValue wsX2_fillsValue) := goodIn_app (goodIn_of _ (by decide +kernel)) ggX2_emitValue_X2_fillsValue
set_option maxRecDepth 100000 in
theorem ggX2_emitValue_X8_fail : GoodIn wsX2_emitValue wsX8_fail := goodIn_r _ [76, 77, 15, 78, 13, 91, 92, 93, 94, 95, 96, 97, 98, 99] rfl (by decide +kernel)
set_option maxRecDepth 100000 in
theorem gX2_emitValue_X8_fail_n39 : GoodIn wsX2_emitValue (wsX8_fail) := ggX2_emitValue_X8_fail
set_option maxRecDepth 100000 in
theorem ggX2_emitValue_X6_stepOfValue : GoodIn wsX2_emitValue wsX6_stepOfValue := goodIn_r _ [81] rfl (by decide +kernel)
set_option maxRecDepth 100000 in
theorem gX2_emitValue_X6_stepOfValue_n103 : GoodIn wsX2_emitValue (wsX6_stepOfValue) := ggX2_emitValue_X6_stepOfValue
set_option maxRecDepth 100000 in
theorem ggX2_emitValue_X9_emit : GoodIn wsX2_emitValue wsX9_emit := goodIn_r _ [85, 86, 87, 100, 101, 102, 103, 104, 105, 106, 107, 108, 109, 110, 111] rfl (by decide +kernel)
set_option maxRecDepth 100000 in
theorem gX2_emitValue_X9_emit_n57 : GoodIn wsX2_emitValue (wsX9_emit) := ggX2_emitValue_X9_emit
theorem dX2_emitValue_0 : decode cX2_emitValue 0 = .ok (.aload_n 0, 1) := by decide +kernel
theorem dX2_emitValue_1 : decode cX2_emitValue 1 = .ok (.invokevirtual 93, 3) := by decide +kernel
theorem dX2_emitValue_4 : decode cX2_emitValue 4 = .ok (.istore_n 1, 1) := by decide +kernel
theorem dX2_emitValue_5 : decode cX2_emitValue 5 = .ok (.iload_n 1, 1) := by decide +kernel
theorem dX2_emitValue_6 : decode cX2_emitValue 6 = .ok (.iconst (-1), 1) := by decide +kernel
theorem dX2_emitValue_7 : decode cX2_emitValue 7 = .ok (.if_icmp .ne 22, 3) := by decide +kernel
theorem dX2_emitValue_10 : decode cX2_emitValue 10 = .ok (.aload_n 0, 1) := by decide +kernel
theorem dX2_emitValue_11 : decode cX2_emitValue 11 = .ok (.getfield 9, 3) := by decide +kernel
theorem dX2_emitValue_14 : decode cX2_emitValue 14 = .ok (.ifCond .eq 10, 3) := by decide +kernel
theorem dX2_emitValue_17 : decode cX2_emitValue 17 = .ok (.aload_n 0, 1) := by decide +kernel
theorem dX2_emitValue_18 : decode cX2_emitValue 18 = .ok (.invokevirtual 97, 3) := by decide +kernel
theorem dX2_emitValue_21 : decode cX2_emitValue 21 = .ok (.goto 7, 3) := by decide +kernel
theorem dX2_emitValue_24 : decode cX2_emitValue 24 = .ok (.aload_n 0, 1) := by decide +kernel
theorem dX2_emitValue_25 : decode cX2_emitValue 25 = .ok (.invokevirtual 100, 3) := by decide +kernel
theorem dX2_emitValue_28 : decode cX2_emitValue 28 = .ok (.istore_n 1, 1) := by decide +kernel
theorem dX2_emitValue_29 : decode cX2_emitValue 29 = .ok (.iload_n 1, 1) := by decide +kernel
theorem dX2_emitValue_30 : decode cX2_emitValue 30 = .ok (.iconst (-1), 1) := by decide +kernel
theorem dX2_emitValue_31 : decode cX2_emitValue 31 = .ok (.if_icmp .ne 12, 3) := by decide +kernel
theorem dX2_emitValue_34 : decode cX2_emitValue 34 = .ok (.aload_n 0, 1) := by decide +kernel
theorem dX2_emitValue_35 : decode cX2_emitValue 35 = .ok (.getfield 15, 3) := by decide +kernel
theorem dX2_emitValue_38 : decode cX2_emitValue 38 = .ok (.iconst 3, 1) := by decide +kernel
theorem dX2_emitValue_39 : decode cX2_emitValue 39 = .ok (.invokevirtual 39, 3) := by decide +kernel
theorem dX2_emitValue_42 : decode cX2_emitValue 42 = .ok (.return_, 1) := by decide +kernel
theorem dX2_emitValue_43 : decode cX2_emitValue 43 = .ok (.aload_n 0, 1) := by decide +kernel
theorem dX2_emitValue_44 : decode cX2_emitValue 44 = .ok (.getfield 19, 3) := by decide +kernel
theorem dX2_emitValue_47 : decode cX2_emitValue 47 = .ok (.iload_n 1, 1) := by decide +kernel
theorem dX2_emitValue_48 : decode cX2_emitValue 48 = .ok (.invokestatic 103, 3) := by decide +kernel
theorem dX2_emitValue_51 : decode cX2_emitValue 51 = .ok (.invokevirtual 57, 3) := by decide +kernel
theorem dX2_emitValue_54 : decode cX2_emitValue 54 = .ok (.return_, 1) := by decide +kernel
set_option maxRecDepth 100000 in
theorem ggX2_commonValue_X8_isWord : GoodIn wsX2_commonValue wsX8_isWord := goodIn_r _ [5, 6, 7, 8, 9, 10, 11, 12, 13, 14, 15, 16, 17, 18, 19, 20, 21, 22, 23, 24, 25, 26, 27, 28, 29, 30, 31, 32, 33, 34, 35, 36, 37, 38, 39, 40, 41, 42, 43, 44, 45, 46, 47, 48, 49, 50, 51, 52, 53, 54, 55, 56, 57, 58, 62, 63, 64, 65, 66, 67, 68, 69, 70] rfl (by decide +kernel)
set_option maxRecDepth 100000 in
theorem gX2_commonValue_X8_isWord_n48 : GoodIn wsX2_commonValue (wsX8_isWord) := ggX2_commonValue_X8_isWord
theorem dX2_commonValue_0 : decode cX2_commonValue 0 = .ok (.aload_n 0, 1) := by decide +kernel
theorem dX2_commonValue_1 : decode cX2_commonValue 1 = .ok (.getfield 15, 3) := by decide +kernel
theorem dX2_commonValue_4 : decode cX2_commonValue 4 = .ok (.ldc 107, 2) := by decide +kernel
theorem dX2_commonValue_6 : decode cX2_commonValue 6 = .ok (.invokevirtual 48, 3) := by decide +kernel
theorem dX2_commonValue_9 : decode cX2_commonValue 9 = .ok (.ifCond .eq 5, 3) := by decide +kernel
theorem dX2_commonValue_12 : decode cX2_commonValue 12 = .ok (.iconst 1, 1) := by decide +kernel
theorem dX2_commonValue_13 : decode cX2_commonValue 13 = .ok (.ireturn, 1) := by decide +kernel
theorem dX2_commonValue_14 : decode cX2_commonValue 14 = .ok (.aload_n 0, 1) := by decide +kernel
theorem dX2_commonValue_15 : decode cX2_commonValue 15 = .ok (.getfield 15, 3) := by decide +kernel
theorem dX2_commonValue_18 : decode cX2_commonValue 18 = .ok (.ldc 109, 2) := by decide +kernel
theorem dX2_commonValue_20 : decode cX2_commonValue 20 = .ok (.invokevirtual 48, 3) := by decide +kernel
theorem dX2_commonValue_23 : decode cX2_commonValue 23 = .ok (.ifCond .eq 5, 3) := by decide +kernel
theorem dX2_commonValue_26 : decode cX2_commonValue 26 = .ok (.iconst 3, 1) := by decide +kernel
theorem dX2_commonValue_27 : decode cX2_commonValue 27 = .ok (.ireturn, 1) := by decide +kernel
theorem dX2_commonValue_28 : decode cX2_commonValue 28 = .ok (.aload_n 0, 1) := by decide +kernel
theorem dX2_commonValue_29 : decode cX2_commonValue 29 = .ok (.getfield 15, 3) := by decide +kernel
theorem dX2_commonValue_32 : decode cX2_commonValue 32 = .ok (.ldc 111, 2) := by decide +kernel
theorem dX2_commonValue_34 : decode cX2_commonValue 34 = .ok (.invokevirtual 48, 3) := by decide +kernel
theorem dX2_commonValue_37 : decode cX2_commonValue 37 = .ok (.ifCond .eq 8, 3) := by decide +kernel
theorem dX2_commonValue_40 : decode cX2_commonValue 40 = .ok (.bipush 6, 2) := by decide +kernel
theorem dX2_commonValue_42 : decode cX2_commonValue 42 = .ok (.goto 4, 3) := by decide +kernel
theorem dX2_commonValue_45 : decode cX2_commonValue 45 = .ok (.iconst (-1), 1) := by decide +kernel
theorem dX2_commonValue_46 : decode cX2_commonValue 46 = .ok (.ireturn, 1) := by decide +kernel
set_option maxRecDepth 100000 in
theorem ggX2_forgetsValue_X8_isWord : GoodIn wsX2_forgetsValue wsX8_isWord := goodIn_r _ [5, 6, 7, 8, 9, 10, 11, 12, 13, 14, 15, 16, 17, 18, 19, 20, 21, 22, 23, 24, 25, 26, 27, 28, 29, 30, 31, 32, 33, 34, 35, 36, 37, 38, 39, 40, 41, 42, 43, 44, 45, 46, 47, 48, 49, 50, 51, 52, 53, 54, 55, 56, 57, 58, 62, 63, 64, 65, 66, 67, 68, 69, 70] rfl (by decide +kernel)
set_option maxRecDepth 100000 in
theorem gX2_forgetsValue_X8_isWord_n48 : GoodIn wsX2_forgetsValue (wsX8_isWord) := ggX2_forgetsValue_X8_isWord
theorem dX2_forgetsValue_0 : decode cX2_forgetsValue 0 = .ok (.aload_n 0, 1) := by decide +kernel
theorem dX2_forgetsValue_1 : decode cX2_forgetsValue 1 = .ok (.getfield 15, 3) := by decide +kernel
theorem dX2_forgetsValue_4 : decode cX2_forgetsValue 4 = .ok (.ldc 113, 2) := by decide +kernel
theorem dX2_forgetsValue_6 : decode cX2_forgetsValue 6 = .ok (.invokevirtual 48, 3) := by decide +kernel
theorem dX2_forgetsValue_9 : decode cX2_forgetsValue 9 = .ok (.ifCond .eq 5, 3) := by decide +kernel
theorem dX2_forgetsValue_12 : decode cX2_forgetsValue 12 = .ok (.iconst 0, 1) := by decide +kernel
theorem dX2_forgetsValue_13 : decode cX2_forgetsValue 13 = .ok (.ireturn, 1) := by decide +kernel
theorem dX2_forgetsValue_14 : decode cX2_forgetsValue 14 = .ok (.aload_n 0, 1) := by decide +kernel
theorem dX2_forgetsValue_15 : decode cX2_forgetsValue 15 = .ok (.getfield 15, 3) := by decide +kernel
theorem dX2_forgetsValue_18 : decode cX2_forgetsValue 18 = .ok (.ldc 115, 2) := by decide +kernel
theorem dX2_forgetsValue_20 : decode cX2_forgetsValue 20 = .ok (.invokevirtual 48, 3) := by decide +kernel
theorem dX2_forgetsValue_23 : decode cX2_forgetsValue 23 = .ok (.ifCond .eq 5, 3) := by decide +kernel
theorem dX2_forgetsValue_26 : decode cX2_forgetsValue 26 = .ok (.iconst 2, 1) := by decide +kernel
theorem dX2_forgetsValue_27 : decode cX2_forgetsValue 27 = .ok (.ireturn, 1) := by decide +kernel
theorem dX2_forgetsValue_28 : decode cX2_forgetsValue 28 = .ok (.aload_n 0, 1) := by decide +kernel
theorem dX2_forgetsValue_29 : decode cX2_forgetsValue 29 = .ok (.getfield 15, 3) := by decide +kernel
theorem dX2_forgetsValue_32 : decode cX2_forgetsValue 32 = .ok (.ldc 117, 2) := by decide +kernel
theorem dX2_forgetsValue_34 : decode cX2_forgetsValue 34 = .ok (.invokevirtual 48, 3) := by decide +kernel
theorem dX2_forgetsValue_37 : decode cX2_forgetsValue 37 = .ok (.ifCond .eq 5, 3) := by decide +kernel
theorem dX2_forgetsValue_40 : decode cX2_forgetsValue 40 = .ok (.iconst 4, 1) := by decide +kernel
theorem dX2_forgetsValue_41 : decode cX2_forgetsValue 41 = .ok (.ireturn, 1) := by decide +kernel
theorem dX2_forgetsValue_42 : decode cX2_forgetsValue 42 = .ok (.aload_n 0, 1) := by decide +kernel
theorem dX2_forgetsValue_43 : decode cX2_forgetsValue 43 = .ok (.getfield 15, 3) := by decide +kernel
theorem dX2_forgetsValue_46 : decode cX2_forgetsValue 46 = .ok (.ldc 119, 2) := by decide +kernel
theorem dX2_forgetsValue_48 : decode cX2_forgetsValue 48 = .ok (.invokevirtual 48, 3) := by decide +kernel
theorem dX2_forgetsValue_51 : decode cX2_forgetsValue 51 = .ok (.ifCond .eq 7, 3) := by decide +kernel
theorem dX2_forgetsValue_54 : decode cX2_forgetsValue 54 = .ok (.iconst 5, 1) := by decide +kernel
theorem dX2_forgetsValue_55 : decode cX2_forgetsValue 55 = .ok (.goto 4, 3) := by decide +kernel
theorem dX2_forgetsValue_58 : decode cX2_forgetsValue 58 = .ok (.iconst (-1), 1) := by decide +kernel
theorem dX2_forgetsValue_59 : decode cX2_forgetsValue 59 = .ok (.ireturn, 1) := by decide +kernel
set_option maxRecDepth 100000 in
theorem ggX2_fillsValue_X8_isWord : GoodIn wsX2_fillsValue wsX8_isWord := goodIn_r _ [5, 6, 7, 8, 9, 10, 11, 12, 13, 14, 15, 16, 17, 18, 19, 20, 21, 22, 23, 24, 25, 26, 27, 28, 29, 30, 31, 32, 33, 34, 35, 36, 37, 38, 39, 40, 41, 42, 43, 44, 45, 46, 47, 48, 49, 50, 51, 52, 53, 54, 55, 56, 57, 58, 62, 63, 64, 65, 66, 67, 68, 69, 70] rfl (by decide +kernel)
set_option maxRecDepth 100000 in
theorem gX2_fillsValue_X8_isWord_n48 : GoodIn wsX2_fillsValue (wsX8_isWord) := ggX2_fillsValue_X8_isWord
theorem dX2_fillsValue_0 : decode cX2_fillsValue 0 = .ok (.aload_n 0, 1) := by decide +kernel
theorem dX2_fillsValue_1 : decode cX2_fillsValue 1 = .ok (.getfield 15, 3) := by decide +kernel
theorem dX2_fillsValue_4 : decode cX2_fillsValue 4 = .ok (.ldc 121, 2) := by decide +kernel
theorem dX2_fillsValue_6 : decode cX2_fillsValue 6 = .ok (.invokevirtual 48, 3) := by decide +kernel
theorem dX2_fillsValue_9 : decode cX2_fillsValue 9 = .ok (.ifCond .eq 6, 3) := by decide +kernel
theorem dX2_fillsValue_12 : decode cX2_fillsValue 12 = .ok (.bipush 7, 2) := by decide +kernel
theorem dX2_fillsValue_14 : decode cX2_fillsValue 14 = .ok (.ireturn, 1) := by decide +kernel
theorem dX2_fillsValue_15 : decode cX2_fillsValue 15 = .ok (.aload_n 0, 1) := by decide +kernel
theorem dX2_fillsValue_16 : decode cX2_fillsValue 16 = .ok (.getfield 15, 3) := by decide +kernel
theorem dX2_fillsValue_19 : decode cX2_fillsValue 19 = .ok (.ldc 123, 2) := by decide +kernel
theorem dX2_fillsValue_21 : decode cX2_fillsValue 21 = .ok (.invokevirtual 48, 3) := by decide +kernel
theorem dX2_fillsValue_24 : decode cX2_fillsValue 24 = .ok (.ifCond .eq 8, 3) := by decide +kernel
theorem dX2_fillsValue_27 : decode cX2_fillsValue 27 = .ok (.bipush 8, 2) := by decide +kernel
theorem dX2_fillsValue_29 : decode cX2_fillsValue 29 = .ok (.goto 4, 3) := by decide +kernel
theorem dX2_fillsValue_32 : decode cX2_fillsValue 32 = .ok (.iconst (-1), 1) := by decide +kernel
theorem dX2_fillsValue_33 : decode cX2_fillsValue 33 = .ok (.ireturn, 1) := by decide +kernel
theorem dX3_init_0 : decode cX3_init 0 = .ok (.aload_n 0, 1) := by decide +kernel
theorem dX3_init_1 : decode cX3_init 1 = .ok (.invokespecial 1, 3) := by decide +kernel
theorem dX3_init_4 : decode cX3_init 4 = .ok (.aload_n 0, 1) := by decide +kernel
theorem dX3_init_5 : decode cX3_init 5 = .ok (.bipush 40, 2) := by decide +kernel
theorem dX3_init_7 : decode cX3_init 7 = .ok (.newarray .int, 2) := by decide +kernel
theorem dX3_init_9 : decode cX3_init 9 = .ok (.putfield 9, 3) := by decide +kernel
theorem dX3_init_12 : decode cX3_init 12 = .ok (.aload_n 0, 1) := by decide +kernel
theorem dX3_init_13 : decode cX3_init 13 = .ok (.iconst 0, 1) := by decide +kernel
theorem dX3_init_14 : decode cX3_init 14 = .ok (.putfield 13, 3) := by decide +kernel
theorem dX3_init_17 : decode cX3_init 17 = .ok (.return_, 1) := by decide +kernel
theorem dX3_clear_0 : decode cX3_clear 0 = .ok (.aload_n 0, 1) := by decide +kernel
theorem dX3_clear_1 : decode cX3_clear 1 = .ok (.iconst 0, 1) := by decide +kernel
theorem dX3_clear_2 : decode cX3_clear 2 = .ok (.putfield 13, 3) := by decide +kernel
theorem dX3_clear_5 : decode cX3_clear 5 = .ok (.return_, 1) := by decide +kernel
theorem dX3_size_0 : decode cX3_size 0 = .ok (.aload_n 0, 1) := by decide +kernel
theorem dX3_size_1 : decode cX3_size 1 = .ok (.getfield 13, 3) := by decide +kernel
theorem dX3_size_4 : decode cX3_size 4 = .ok (.ireturn, 1) := by decide +kernel
theorem dX3_put_0 : decode cX3_put 0 = .ok (.aload_n 0, 1) := by decide +kernel
theorem dX3_put_1 : decode cX3_put 1 = .ok (.getfield 13, 3) := by decide +kernel
theorem dX3_put_4 : decode cX3_put 4 = .ok (.bipush 8, 2) := by decide +kernel
theorem dX3_put_6 : decode cX3_put 6 = .ok (.if_icmp .lt 5, 3) := by decide +kernel
theorem dX3_put_9 : decode cX3_put 9 = .ok (.iconst 0, 1) := by decide +kernel
theorem dX3_put_10 : decode cX3_put 10 = .ok (.ireturn, 1) := by decide +kernel
theorem dX3_put_11 : decode cX3_put 11 = .ok (.aload_n 0, 1) := by decide +kernel
theorem dX3_put_12 : decode cX3_put 12 = .ok (.getfield 13, 3) := by decide +kernel
theorem dX3_put_15 : decode cX3_put 15 = .ok (.iconst 5, 1) := by decide +kernel
theorem dX3_put_16 : decode cX3_put 16 = .ok (.imul, 1) := by decide +kernel
theorem dX3_put_17 : decode cX3_put 17 = .ok (.istore 6, 2) := by decide +kernel
theorem dX3_put_19 : decode cX3_put 19 = .ok (.aload_n 0, 1) := by decide +kernel
theorem dX3_put_20 : decode cX3_put 20 = .ok (.getfield 9, 3) := by decide +kernel
theorem dX3_put_23 : decode cX3_put 23 = .ok (.iload 6, 2) := by decide +kernel
theorem dX3_put_25 : decode cX3_put 25 = .ok (.iload_n 1, 1) := by decide +kernel
theorem dX3_put_26 : decode cX3_put 26 = .ok (.iastore, 1) := by decide +kernel
theorem dX3_put_27 : decode cX3_put 27 = .ok (.aload_n 0, 1) := by decide +kernel
theorem dX3_put_28 : decode cX3_put 28 = .ok (.getfield 9, 3) := by decide +kernel
theorem dX3_put_31 : decode cX3_put 31 = .ok (.iload 6, 2) := by decide +kernel
theorem dX3_put_33 : decode cX3_put 33 = .ok (.iconst 1, 1) := by decide +kernel
theorem dX3_put_34 : decode cX3_put 34 = .ok (.iadd, 1) := by decide +kernel
theorem dX3_put_35 : decode cX3_put 35 = .ok (.iload_n 2, 1) := by decide +kernel
theorem dX3_put_36 : decode cX3_put 36 = .ok (.iastore, 1) := by decide +kernel
theorem dX3_put_37 : decode cX3_put 37 = .ok (.aload_n 0, 1) := by decide +kernel
theorem dX3_put_38 : decode cX3_put 38 = .ok (.getfield 9, 3) := by decide +kernel
theorem dX3_put_41 : decode cX3_put 41 = .ok (.iload 6, 2) := by decide +kernel
theorem dX3_put_43 : decode cX3_put 43 = .ok (.iconst 2, 1) := by decide +kernel
theorem dX3_put_44 : decode cX3_put 44 = .ok (.iadd, 1) := by decide +kernel
theorem dX3_put_45 : decode cX3_put 45 = .ok (.iload_n 3, 1) := by decide +kernel
theorem dX3_put_46 : decode cX3_put 46 = .ok (.iastore, 1) := by decide +kernel
theorem dX3_put_47 : decode cX3_put 47 = .ok (.aload_n 0, 1) := by decide +kernel
theorem dX3_put_48 : decode cX3_put 48 = .ok (.getfield 9, 3) := by decide +kernel
theorem dX3_put_51 : decode cX3_put 51 = .ok (.iload 6, 2) := by decide +kernel
theorem dX3_put_53 : decode cX3_put 53 = .ok (.iconst 3, 1) := by decide +kernel
theorem dX3_put_54 : decode cX3_put 54 = .ok (.iadd, 1) := by decide +kernel
theorem dX3_put_55 : decode cX3_put 55 = .ok (.iload 4, 2) := by decide +kernel
theorem dX3_put_57 : decode cX3_put 57 = .ok (.iastore, 1) := by decide +kernel
theorem dX3_put_58 : decode cX3_put 58 = .ok (.aload_n 0, 1) := by decide +kernel
theorem dX3_put_59 : decode cX3_put 59 = .ok (.getfield 9, 3) := by decide +kernel
theorem dX3_put_62 : decode cX3_put 62 = .ok (.iload 6, 2) := by decide +kernel
theorem dX3_put_64 : decode cX3_put 64 = .ok (.iconst 4, 1) := by decide +kernel
theorem dX3_put_65 : decode cX3_put 65 = .ok (.iadd, 1) := by decide +kernel
theorem dX3_put_66 : decode cX3_put 66 = .ok (.iload 5, 2) := by decide +kernel
theorem dX3_put_68 : decode cX3_put 68 = .ok (.iastore, 1) := by decide +kernel
theorem dX3_put_69 : decode cX3_put 69 = .ok (.aload_n 0, 1) := by decide +kernel
theorem dX3_put_70 : decode cX3_put 70 = .ok (.dup, 1) := by decide +kernel
theorem dX3_put_71 : decode cX3_put 71 = .ok (.getfield 13, 3) := by decide +kernel
theorem dX3_put_74 : decode cX3_put 74 = .ok (.iconst 1, 1) := by decide +kernel
theorem dX3_put_75 : decode cX3_put 75 = .ok (.iadd, 1) := by decide +kernel
theorem dX3_put_76 : decode cX3_put 76 = .ok (.putfield 13, 3) := by decide +kernel
theorem dX3_put_79 : decode cX3_put 79 = .ok (.iconst 1, 1) := by decide +kernel
theorem dX3_put_80 : decode cX3_put 80 = .ok (.ireturn, 1) := by decide +kernel
theorem dX3_copyFrom_0 : decode cX3_copyFrom 0 = .ok (.aload_n 0, 1) := by decide +kernel
theorem dX3_copyFrom_1 : decode cX3_copyFrom 1 = .ok (.aload_n 1, 1) := by decide +kernel
theorem dX3_copyFrom_2 : decode cX3_copyFrom 2 = .ok (.getfield 13, 3) := by decide +kernel
theorem dX3_copyFrom_5 : decode cX3_copyFrom 5 = .ok (.putfield 13, 3) := by decide +kernel
theorem dX3_copyFrom_8 : decode cX3_copyFrom 8 = .ok (.aload_n 1, 1) := by decide +kernel
theorem dX3_copyFrom_9 : decode cX3_copyFrom 9 = .ok (.getfield 9, 3) := by decide +kernel
theorem dX3_copyFrom_12 : decode cX3_copyFrom 12 = .ok (.iconst 0, 1) := by decide +kernel
theorem dX3_copyFrom_13 : decode cX3_copyFrom 13 = .ok (.aload_n 0, 1) := by decide +kernel
theorem dX3_copyFrom_14 : decode cX3_copyFrom 14 = .ok (.getfield 9, 3) := by decide +kernel
theorem dX3_copyFrom_17 : decode cX3_copyFrom 17 = .ok (.iconst 0, 1) := by decide +kernel
theorem dX3_copyFrom_18 : decode cX3_copyFrom 18 = .ok (.aload_n 0, 1) := by decide +kernel
theorem dX3_copyFrom_19 : decode cX3_copyFrom 19 = .ok (.getfield 9, 3) := by decide +kernel
theorem dX3_copyFrom_22 : decode cX3_copyFrom 22 = .ok (.arraylength, 1) := by decide +kernel
theorem dX3_copyFrom_23 : decode cX3_copyFrom 23 = .ok (.invokestatic 17, 3) := by decide +kernel
theorem dX3_copyFrom_26 : decode cX3_copyFrom 26 = .ok (.return_, 1) := by decide +kernel
theorem dX3_lastDays_0 : decode cX3_lastDays 0 = .ok (.iconst 0, 1) := by decide +kernel
theorem dX3_lastDays_1 : decode cX3_lastDays 1 = .ok (.istore_n 1, 1) := by decide +kernel
theorem dX3_lastDays_2 : decode cX3_lastDays 2 = .ok (.iconst 0, 1) := by decide +kernel
theorem dX3_lastDays_3 : decode cX3_lastDays 3 = .ok (.istore_n 2, 1) := by decide +kernel
theorem dX3_lastDays_4 : decode cX3_lastDays 4 = .ok (.iload_n 2, 1) := by decide +kernel
theorem dX3_lastDays_5 : decode cX3_lastDays 5 = .ok (.aload_n 0, 1) := by decide +kernel
theorem dX3_lastDays_6 : decode cX3_lastDays 6 = .ok (.getfield 13, 3) := by decide +kernel
theorem dX3_lastDays_9 : decode cX3_lastDays 9 = .ok (.if_icmp .ge 24, 3) := by decide +kernel
theorem dX3_lastDays_12 : decode cX3_lastDays 12 = .ok (.iload_n 1, 1) := by decide +kernel
theorem dX3_lastDays_13 : decode cX3_lastDays 13 = .ok (.aload_n 0, 1) := by decide +kernel
theorem dX3_lastDays_14 : decode cX3_lastDays 14 = .ok (.getfield 9, 3) := by decide +kernel
theorem dX3_lastDays_17 : decode cX3_lastDays 17 = .ok (.iload_n 2, 1) := by decide +kernel
theorem dX3_lastDays_18 : decode cX3_lastDays 18 = .ok (.iconst 5, 1) := by decide +kernel
theorem dX3_lastDays_19 : decode cX3_lastDays 19 = .ok (.imul, 1) := by decide +kernel
theorem dX3_lastDays_20 : decode cX3_lastDays 20 = .ok (.iconst 3, 1) := by decide +kernel
theorem dX3_lastDays_21 : decode cX3_lastDays 21 = .ok (.iadd, 1) := by decide +kernel
theorem dX3_lastDays_22 : decode cX3_lastDays 22 = .ok (.iaload, 1) := by decide +kernel
theorem dX3_lastDays_23 : decode cX3_lastDays 23 = .ok (.invokestatic 23, 3) := by decide +kernel
theorem dX3_lastDays_26 : decode cX3_lastDays 26 = .ok (.istore_n 1, 1) := by decide +kernel
theorem dX3_lastDays_27 : decode cX3_lastDays 27 = .ok (.iinc 2 1, 3) := by decide +kernel
theorem dX3_lastDays_30 : decode cX3_lastDays 30 = .ok (.goto (-26), 3) := by decide +kernel
theorem dX3_lastDays_33 : decode cX3_lastDays 33 = .ok (.iload_n 1, 1) := by decide +kernel
theorem dX3_lastDays_34 : decode cX3_lastDays 34 = .ok (.ireturn, 1) := by decide +kernel
set_option maxRecDepth 100000 in
theorem ggX3_agrees_X7_notes : GoodIn wsX3_agrees wsX7_notes := goodIn_r _ [6, 7, 13] rfl (by decide +kernel)
set_option maxRecDepth 100000 in
theorem gX3_agrees_X7_notes_n29 : GoodIn wsX3_agrees (wsX7_notes) := ggX3_agrees_X7_notes
set_option maxRecDepth 100000 in
theorem ggX3_agrees_X11_noteAt : GoodIn wsX3_agrees wsX11_noteAt := goodIn_r _ [10] rfl (by decide +kernel)
set_option maxRecDepth 100000 in
theorem gX3_agrees_X11_noteAt_n34 : GoodIn wsX3_agrees (wsX11_noteAt) := ggX3_agrees_X11_noteAt
theorem dX3_agrees_0 : decode cX3_agrees 0 = .ok (.iconst 0, 1) := by decide +kernel
theorem dX3_agrees_1 : decode cX3_agrees 1 = .ok (.istore_n 3, 1) := by decide +kernel
theorem dX3_agrees_2 : decode cX3_agrees 2 = .ok (.iload_n 3, 1) := by decide +kernel
theorem dX3_agrees_3 : decode cX3_agrees 3 = .ok (.aload_n 0, 1) := by decide +kernel
theorem dX3_agrees_4 : decode cX3_agrees 4 = .ok (.getfield 13, 3) := by decide +kernel
theorem dX3_agrees_7 : decode cX3_agrees 7 = .ok (.if_icmp .ge 77, 3) := by decide +kernel
theorem dX3_agrees_10 : decode cX3_agrees 10 = .ok (.iload_n 3, 1) := by decide +kernel
theorem dX3_agrees_11 : decode cX3_agrees 11 = .ok (.iconst 5, 1) := by decide +kernel
theorem dX3_agrees_12 : decode cX3_agrees 12 = .ok (.imul, 1) := by decide +kernel
theorem dX3_agrees_13 : decode cX3_agrees 13 = .ok (.istore 4, 2) := by decide +kernel
theorem dX3_agrees_15 : decode cX3_agrees 15 = .ok (.aload_n 1, 1) := by decide +kernel
theorem dX3_agrees_16 : decode cX3_agrees 16 = .ok (.aload_n 0, 1) := by decide +kernel
theorem dX3_agrees_17 : decode cX3_agrees 17 = .ok (.getfield 9, 3) := by decide +kernel
theorem dX3_agrees_20 : decode cX3_agrees 20 = .ok (.iload 4, 2) := by decide +kernel
theorem dX3_agrees_22 : decode cX3_agrees 22 = .ok (.iaload, 1) := by decide +kernel
theorem dX3_agrees_23 : decode cX3_agrees 23 = .ok (.aload_n 0, 1) := by decide +kernel
theorem dX3_agrees_24 : decode cX3_agrees 24 = .ok (.getfield 9, 3) := by decide +kernel
theorem dX3_agrees_27 : decode cX3_agrees 27 = .ok (.iload 4, 2) := by decide +kernel
theorem dX3_agrees_29 : decode cX3_agrees 29 = .ok (.iconst 1, 1) := by decide +kernel
theorem dX3_agrees_30 : decode cX3_agrees 30 = .ok (.iadd, 1) := by decide +kernel
theorem dX3_agrees_31 : decode cX3_agrees 31 = .ok (.iaload, 1) := by decide +kernel
theorem dX3_agrees_32 : decode cX3_agrees 32 = .ok (.invokevirtual 29, 3) := by decide +kernel
theorem dX3_agrees_35 : decode cX3_agrees 35 = .ok (.istore 5, 2) := by decide +kernel
theorem dX3_agrees_37 : decode cX3_agrees 37 = .ok (.aload_n 0, 1) := by decide +kernel
theorem dX3_agrees_38 : decode cX3_agrees 38 = .ok (.getfield 9, 3) := by decide +kernel
theorem dX3_agrees_41 : decode cX3_agrees 41 = .ok (.iload 4, 2) := by decide +kernel
theorem dX3_agrees_43 : decode cX3_agrees 43 = .ok (.iconst 3, 1) := by decide +kernel
theorem dX3_agrees_44 : decode cX3_agrees 44 = .ok (.iadd, 1) := by decide +kernel
theorem dX3_agrees_45 : decode cX3_agrees 45 = .ok (.iaload, 1) := by decide +kernel
theorem dX3_agrees_46 : decode cX3_agrees 46 = .ok (.iload_n 2, 1) := by decide +kernel
theorem dX3_agrees_47 : decode cX3_agrees 47 = .ok (.if_icmp .ne 31, 3) := by decide +kernel
theorem dX3_agrees_50 : decode cX3_agrees 50 = .ok (.iload 5, 2) := by decide +kernel
theorem dX3_agrees_52 : decode cX3_agrees 52 = .ok (.aload_n 0, 1) := by decide +kernel
theorem dX3_agrees_53 : decode cX3_agrees 53 = .ok (.getfield 9, 3) := by decide +kernel
theorem dX3_agrees_56 : decode cX3_agrees 56 = .ok (.iload 4, 2) := by decide +kernel
theorem dX3_agrees_58 : decode cX3_agrees 58 = .ok (.iconst 2, 1) := by decide +kernel
theorem dX3_agrees_59 : decode cX3_agrees 59 = .ok (.iadd, 1) := by decide +kernel
theorem dX3_agrees_60 : decode cX3_agrees 60 = .ok (.iaload, 1) := by decide +kernel
theorem dX3_agrees_61 : decode cX3_agrees 61 = .ok (.invokestatic 34, 3) := by decide +kernel
theorem dX3_agrees_64 : decode cX3_agrees 64 = .ok (.aload_n 0, 1) := by decide +kernel
theorem dX3_agrees_65 : decode cX3_agrees 65 = .ok (.getfield 9, 3) := by decide +kernel
theorem dX3_agrees_68 : decode cX3_agrees 68 = .ok (.iload 4, 2) := by decide +kernel
theorem dX3_agrees_70 : decode cX3_agrees 70 = .ok (.iconst 4, 1) := by decide +kernel
theorem dX3_agrees_71 : decode cX3_agrees 71 = .ok (.iadd, 1) := by decide +kernel
theorem dX3_agrees_72 : decode cX3_agrees 72 = .ok (.iaload, 1) := by decide +kernel
theorem dX3_agrees_73 : decode cX3_agrees 73 = .ok (.if_icmp .eq 5, 3) := by decide +kernel
theorem dX3_agrees_76 : decode cX3_agrees 76 = .ok (.iconst 0, 1) := by decide +kernel
theorem dX3_agrees_77 : decode cX3_agrees 77 = .ok (.ireturn, 1) := by decide +kernel
theorem dX3_agrees_78 : decode cX3_agrees 78 = .ok (.iinc 3 1, 3) := by decide +kernel
theorem dX3_agrees_81 : decode cX3_agrees 81 = .ok (.goto (-79), 3) := by decide +kernel
theorem dX3_agrees_84 : decode cX3_agrees 84 = .ok (.iconst 1, 1) := by decide +kernel
theorem dX3_agrees_85 : decode cX3_agrees 85 = .ok (.ireturn, 1) := by decide +kernel
theorem dX4_init_0 : decode cX4_init 0 = .ok (.aload_n 0, 1) := by decide +kernel
theorem dX4_init_1 : decode cX4_init 1 = .ok (.invokespecial 3, 3) := by decide +kernel
theorem dX4_init_4 : decode cX4_init 4 = .ok (.aload_n 0, 1) := by decide +kernel
theorem dX4_init_5 : decode cX4_init 5 = .ok (.bipush 49, 2) := by decide +kernel
theorem dX4_init_7 : decode cX4_init 7 = .ok (.newarray .int, 2) := by decide +kernel
theorem dX4_init_9 : decode cX4_init 9 = .ok (.putfield 9, 3) := by decide +kernel
theorem dX4_init_12 : decode cX4_init 12 = .ok (.aload_n 0, 1) := by decide +kernel
theorem dX4_init_13 : decode cX4_init 13 = .ok (.bipush 7, 2) := by decide +kernel
theorem dX4_init_15 : decode cX4_init 15 = .ok (.newarray .int, 2) := by decide +kernel
theorem dX4_init_17 : decode cX4_init 17 = .ok (.putfield 15, 3) := by decide +kernel
theorem dX4_init_20 : decode cX4_init 20 = .ok (.aload_n 0, 1) := by decide +kernel
theorem dX4_init_21 : decode cX4_init 21 = .ok (.bipush 7, 2) := by decide +kernel
theorem dX4_init_23 : decode cX4_init 23 = .ok (.newarray .int, 2) := by decide +kernel
theorem dX4_init_25 : decode cX4_init 25 = .ok (.putfield 18, 3) := by decide +kernel
theorem dX4_init_28 : decode cX4_init 28 = .ok (.aload_n 0, 1) := by decide +kernel
theorem dX4_init_29 : decode cX4_init 29 = .ok (.iconst 0, 1) := by decide +kernel
theorem dX4_init_30 : decode cX4_init 30 = .ok (.putfield 21, 3) := by decide +kernel
theorem dX4_init_33 : decode cX4_init 33 = .ok (.aload_n 0, 1) := by decide +kernel
theorem dX4_init_34 : decode cX4_init 34 = .ok (.iconst 0, 1) := by decide +kernel
theorem dX4_init_35 : decode cX4_init 35 = .ok (.putfield 25, 3) := by decide +kernel
theorem dX4_init_38 : decode cX4_init 38 = .ok (.aload_n 0, 1) := by decide +kernel
theorem dX4_init_39 : decode cX4_init 39 = .ok (.aload_n 1, 1) := by decide +kernel
theorem dX4_init_40 : decode cX4_init 40 = .ok (.putfield 28, 3) := by decide +kernel
theorem dX4_init_43 : decode cX4_init 43 = .ok (.return_, 1) := by decide +kernel
set_option maxRecDepth 100000 in
theorem ggX4_clear_J7_fill_53178 : GoodIn wsX4_clear wsJ7_fill_53178 := goodIn_r _ [5] rfl (by decide +kernel)
set_option maxRecDepth 100000 in
theorem gX4_clear_J7_fill_53178 : GoodIn wsX4_clear (va_wsS RX4 32 yJ7_fill_53178 wsJ7_fill_53178) := goodIn_app (goodIn_of _ (by decide +kernel)) ggX4_clear_J7_fill_53178
theorem dX4_clear_0 : decode cX4_clear 0 = .ok (.aload_n 0, 1) := by decide +kernel
theorem dX4_clear_1 : decode cX4_clear 1 = .ok (.getfield 9, 3) := by decide +kernel
theorem dX4_clear_4 : decode cX4_clear 4 = .ok (.iconst (-1), 1) := by decide +kernel
theorem dX4_clear_5 : decode cX4_clear 5 = .ok (.invokestatic 32, 3) := by decide +kernel
theorem dX4_clear_8 : decode cX4_clear 8 = .ok (.return_, 1) := by decide +kernel
theorem dX4_offer_0 : decode cX4_offer 0 = .ok (.aload_n 0, 1) := by decide +kernel
theorem dX4_offer_1 : decode cX4_offer 1 = .ok (.getfield 9, 3) := by decide +kernel
theorem dX4_offer_4 : decode cX4_offer 4 = .ok (.iload_n 1, 1) := by decide +kernel
theorem dX4_offer_5 : decode cX4_offer 5 = .ok (.bipush 7, 2) := by decide +kernel
theorem dX4_offer_7 : decode cX4_offer 7 = .ok (.imul, 1) := by decide +kernel
theorem dX4_offer_8 : decode cX4_offer 8 = .ok (.iload_n 2, 1) := by decide +kernel
theorem dX4_offer_9 : decode cX4_offer 9 = .ok (.iadd, 1) := by decide +kernel
theorem dX4_offer_10 : decode cX4_offer 10 = .ok (.iload_n 3, 1) := by decide +kernel
theorem dX4_offer_11 : decode cX4_offer 11 = .ok (.iastore, 1) := by decide +kernel
theorem dX4_offer_12 : decode cX4_offer 12 = .ok (.return_, 1) := by decide +kernel
set_option maxRecDepth 100000 in
theorem ggX4_solve_J7_fill_53178 : GoodIn wsX4_solve wsJ7_fill_53178 := goodIn_r _ [8] rfl (by decide +kernel)
set_option maxRecDepth 100000 in
theorem gX4_solve_J7_fill_53178 : GoodIn wsX4_solve (va_wsS RX4 32 yJ7_fill_53178 wsJ7_fill_53178) := goodIn_app (goodIn_of _ (by decide +kernel)) ggX4_solve_J7_fill_53178
set_option maxRecDepth 100000 in
theorem ggX4_solve_X4_assign : GoodIn wsX4_solve wsX4_assign := goodIn_r _ [13, 14, 3, 4, 1, 2, 15, 16, 17, 18, 19, 9, 10, 11, 12, 20, 21, 22, 23, 24, 25, 26, 27, 28, 29, 30, 31, 32, 33, 34, 35, 36, 37] rfl (by decide +kernel)
set_option maxRecDepth 100000 in
theorem gX4_solve_X4_assign : GoodIn wsX4_solve (wsV RX4 38 RX4 yX4_assign wsX4_assign) := goodIn_app (goodIn_of _ (by decide +kernel)) ggX4_solve_X4_assign
theorem dX4_solve_0 : decode cX4_solve 0 = .ok (.aload_n 0, 1) := by decide +kernel
theorem dX4_solve_1 : decode cX4_solve 1 = .ok (.getfield 15, 3) := by decide +kernel
theorem dX4_solve_4 : decode cX4_solve 4 = .ok (.iconst (-1), 1) := by decide +kernel
theorem dX4_solve_5 : decode cX4_solve 5 = .ok (.invokestatic 32, 3) := by decide +kernel
theorem dX4_solve_8 : decode cX4_solve 8 = .ok (.aload_n 0, 1) := by decide +kernel
theorem dX4_solve_9 : decode cX4_solve 9 = .ok (.getfield 18, 3) := by decide +kernel
theorem dX4_solve_12 : decode cX4_solve 12 = .ok (.iconst (-1), 1) := by decide +kernel
theorem dX4_solve_13 : decode cX4_solve 13 = .ok (.invokestatic 32, 3) := by decide +kernel
theorem dX4_solve_16 : decode cX4_solve 16 = .ok (.aload_n 0, 1) := by decide +kernel
theorem dX4_solve_17 : decode cX4_solve 17 = .ok (.iconst 0, 1) := by decide +kernel
theorem dX4_solve_18 : decode cX4_solve 18 = .ok (.putfield 21, 3) := by decide +kernel
theorem dX4_solve_21 : decode cX4_solve 21 = .ok (.aload_n 0, 1) := by decide +kernel
theorem dX4_solve_22 : decode cX4_solve 22 = .ok (.iconst 0, 1) := by decide +kernel
theorem dX4_solve_23 : decode cX4_solve 23 = .ok (.putfield 25, 3) := by decide +kernel
theorem dX4_solve_26 : decode cX4_solve 26 = .ok (.aload_n 0, 1) := by decide +kernel
theorem dX4_solve_27 : decode cX4_solve 27 = .ok (.iconst 0, 1) := by decide +kernel
theorem dX4_solve_28 : decode cX4_solve 28 = .ok (.iconst 0, 1) := by decide +kernel
theorem dX4_solve_29 : decode cX4_solve 29 = .ok (.iconst 0, 1) := by decide +kernel
theorem dX4_solve_30 : decode cX4_solve 30 = .ok (.iconst 0, 1) := by decide +kernel
theorem dX4_solve_31 : decode cX4_solve 31 = .ok (.invokevirtual 38, 3) := by decide +kernel
theorem dX4_solve_34 : decode cX4_solve 34 = .ok (.return_, 1) := by decide +kernel
theorem dX4_bestMany_0 : decode cX4_bestMany 0 = .ok (.aload_n 0, 1) := by decide +kernel
theorem dX4_bestMany_1 : decode cX4_bestMany 1 = .ok (.getfield 21, 3) := by decide +kernel
theorem dX4_bestMany_4 : decode cX4_bestMany 4 = .ok (.ireturn, 1) := by decide +kernel
theorem dX4_bestLike_0 : decode cX4_bestLike 0 = .ok (.aload_n 0, 1) := by decide +kernel
theorem dX4_bestLike_1 : decode cX4_bestLike 1 = .ok (.getfield 25, 3) := by decide +kernel
theorem dX4_bestLike_4 : decode cX4_bestLike 4 = .ok (.ireturn, 1) := by decide +kernel
theorem dX4_bestTeacher_0 : decode cX4_bestTeacher 0 = .ok (.aload_n 0, 1) := by decide +kernel
theorem dX4_bestTeacher_1 : decode cX4_bestTeacher 1 = .ok (.getfield 18, 3) := by decide +kernel
theorem dX4_bestTeacher_4 : decode cX4_bestTeacher 4 = .ok (.iload_n 1, 1) := by decide +kernel
theorem dX4_bestTeacher_5 : decode cX4_bestTeacher 5 = .ok (.iaload, 1) := by decide +kernel
theorem dX4_bestTeacher_6 : decode cX4_bestTeacher 6 = .ok (.ireturn, 1) := by decide +kernel
set_option maxRecDepth 100000 in
theorem ggX4_assign_X4_assign : GoodIn wsX4_assign wsX4_assign := goodIn_r _ [0, 1, 2, 3, 4, 5, 6, 7, 8, 9, 10, 11, 12, 13, 14, 15, 16, 17, 18, 19, 20, 21, 22, 23, 24, 25, 26, 27, 28, 29, 30, 31, 32] rfl (by decide +kernel)
set_option maxRecDepth 100000 in
theorem gX4_assign_X4_assign : GoodIn wsX4_assign (wsV RX4 38 RX4 yX4_assign wsX4_assign) := goodIn_app (goodIn_of _ (by decide +kernel)) ggX4_assign_X4_assign
theorem dX4_assign_0 : decode cX4_assign 0 = .ok (.iload_n 1, 1) := by decide +kernel
theorem dX4_assign_1 : decode cX4_assign 1 = .ok (.aload_n 0, 1) := by decide +kernel
theorem dX4_assign_2 : decode cX4_assign 2 = .ok (.getfield 28, 3) := by decide +kernel
theorem dX4_assign_5 : decode cX4_assign 5 = .ok (.getfield 42, 3) := by decide +kernel
theorem dX4_assign_8 : decode cX4_assign 8 = .ok (.if_icmp .ge 9, 3) := by decide +kernel
theorem dX4_assign_11 : decode cX4_assign 11 = .ok (.iload_n 1, 1) := by decide +kernel
theorem dX4_assign_12 : decode cX4_assign 12 = .ok (.bipush 7, 2) := by decide +kernel
theorem dX4_assign_14 : decode cX4_assign 14 = .ok (.if_icmp .lt 55, 3) := by decide +kernel
theorem dX4_assign_17 : decode cX4_assign 17 = .ok (.iload_n 3, 1) := by decide +kernel
theorem dX4_assign_18 : decode cX4_assign 18 = .ok (.aload_n 0, 1) := by decide +kernel
theorem dX4_assign_19 : decode cX4_assign 19 = .ok (.getfield 21, 3) := by decide +kernel
theorem dX4_assign_22 : decode cX4_assign 22 = .ok (.if_icmp .gt 20, 3) := by decide +kernel
theorem dX4_assign_25 : decode cX4_assign 25 = .ok (.iload_n 3, 1) := by decide +kernel
theorem dX4_assign_26 : decode cX4_assign 26 = .ok (.aload_n 0, 1) := by decide +kernel
theorem dX4_assign_27 : decode cX4_assign 27 = .ok (.getfield 21, 3) := by decide +kernel
theorem dX4_assign_30 : decode cX4_assign 30 = .ok (.if_icmp .ne 38, 3) := by decide +kernel
theorem dX4_assign_33 : decode cX4_assign 33 = .ok (.iload 4, 2) := by decide +kernel
theorem dX4_assign_35 : decode cX4_assign 35 = .ok (.aload_n 0, 1) := by decide +kernel
theorem dX4_assign_36 : decode cX4_assign 36 = .ok (.getfield 25, 3) := by decide +kernel
theorem dX4_assign_39 : decode cX4_assign 39 = .ok (.if_icmp .le 29, 3) := by decide +kernel
theorem dX4_assign_42 : decode cX4_assign 42 = .ok (.aload_n 0, 1) := by decide +kernel
theorem dX4_assign_43 : decode cX4_assign 43 = .ok (.iload_n 3, 1) := by decide +kernel
theorem dX4_assign_44 : decode cX4_assign 44 = .ok (.putfield 21, 3) := by decide +kernel
theorem dX4_assign_47 : decode cX4_assign 47 = .ok (.aload_n 0, 1) := by decide +kernel
theorem dX4_assign_48 : decode cX4_assign 48 = .ok (.iload 4, 2) := by decide +kernel
theorem dX4_assign_50 : decode cX4_assign 50 = .ok (.putfield 25, 3) := by decide +kernel
theorem dX4_assign_53 : decode cX4_assign 53 = .ok (.aload_n 0, 1) := by decide +kernel
theorem dX4_assign_54 : decode cX4_assign 54 = .ok (.getfield 15, 3) := by decide +kernel
theorem dX4_assign_57 : decode cX4_assign 57 = .ok (.iconst 0, 1) := by decide +kernel
theorem dX4_assign_58 : decode cX4_assign 58 = .ok (.aload_n 0, 1) := by decide +kernel
theorem dX4_assign_59 : decode cX4_assign 59 = .ok (.getfield 18, 3) := by decide +kernel
theorem dX4_assign_62 : decode cX4_assign 62 = .ok (.iconst 0, 1) := by decide +kernel
theorem dX4_assign_63 : decode cX4_assign 63 = .ok (.bipush 7, 2) := by decide +kernel
theorem dX4_assign_65 : decode cX4_assign 65 = .ok (.invokestatic 47, 3) := by decide +kernel
theorem dX4_assign_68 : decode cX4_assign 68 = .ok (.return_, 1) := by decide +kernel
theorem dX4_assign_69 : decode cX4_assign 69 = .ok (.iconst 0, 1) := by decide +kernel
theorem dX4_assign_70 : decode cX4_assign 70 = .ok (.istore 5, 2) := by decide +kernel
theorem dX4_assign_72 : decode cX4_assign 72 = .ok (.iload 5, 2) := by decide +kernel
theorem dX4_assign_74 : decode cX4_assign 74 = .ok (.aload_n 0, 1) := by decide +kernel
theorem dX4_assign_75 : decode cX4_assign 75 = .ok (.getfield 28, 3) := by decide +kernel
theorem dX4_assign_78 : decode cX4_assign 78 = .ok (.getfield 42, 3) := by decide +kernel
theorem dX4_assign_81 : decode cX4_assign 81 = .ok (.if_icmp .ge 67, 3) := by decide +kernel
theorem dX4_assign_84 : decode cX4_assign 84 = .ok (.aload_n 0, 1) := by decide +kernel
theorem dX4_assign_85 : decode cX4_assign 85 = .ok (.getfield 9, 3) := by decide +kernel
theorem dX4_assign_88 : decode cX4_assign 88 = .ok (.iload_n 1, 1) := by decide +kernel
theorem dX4_assign_89 : decode cX4_assign 89 = .ok (.bipush 7, 2) := by decide +kernel
theorem dX4_assign_91 : decode cX4_assign 91 = .ok (.imul, 1) := by decide +kernel
theorem dX4_assign_92 : decode cX4_assign 92 = .ok (.iload 5, 2) := by decide +kernel
theorem dX4_assign_94 : decode cX4_assign 94 = .ok (.iadd, 1) := by decide +kernel
theorem dX4_assign_95 : decode cX4_assign 95 = .ok (.iaload, 1) := by decide +kernel
theorem dX4_assign_96 : decode cX4_assign 96 = .ok (.istore 6, 2) := by decide +kernel
theorem dX4_assign_98 : decode cX4_assign 98 = .ok (.iload 6, 2) := by decide +kernel
theorem dX4_assign_100 : decode cX4_assign 100 = .ok (.iconst (-1), 1) := by decide +kernel
theorem dX4_assign_101 : decode cX4_assign 101 = .ok (.if_icmp .eq 41, 3) := by decide +kernel
theorem dX4_assign_104 : decode cX4_assign 104 = .ok (.iload_n 2, 1) := by decide +kernel
theorem dX4_assign_105 : decode cX4_assign 105 = .ok (.iload 5, 2) := by decide +kernel
theorem dX4_assign_107 : decode cX4_assign 107 = .ok (.ishr, 1) := by decide +kernel
theorem dX4_assign_108 : decode cX4_assign 108 = .ok (.iconst 1, 1) := by decide +kernel
theorem dX4_assign_109 : decode cX4_assign 109 = .ok (.iand, 1) := by decide +kernel
theorem dX4_assign_110 : decode cX4_assign 110 = .ok (.ifCond .ne 32, 3) := by decide +kernel
theorem dX4_assign_113 : decode cX4_assign 113 = .ok (.aload_n 0, 1) := by decide +kernel
theorem dX4_assign_114 : decode cX4_assign 114 = .ok (.getfield 15, 3) := by decide +kernel
theorem dX4_assign_117 : decode cX4_assign 117 = .ok (.iload_n 1, 1) := by decide +kernel
theorem dX4_assign_118 : decode cX4_assign 118 = .ok (.iload 5, 2) := by decide +kernel
theorem dX4_assign_120 : decode cX4_assign 120 = .ok (.iastore, 1) := by decide +kernel
theorem dX4_assign_121 : decode cX4_assign 121 = .ok (.aload_n 0, 1) := by decide +kernel
theorem dX4_assign_122 : decode cX4_assign 122 = .ok (.iload_n 1, 1) := by decide +kernel
theorem dX4_assign_123 : decode cX4_assign 123 = .ok (.iconst 1, 1) := by decide +kernel
theorem dX4_assign_124 : decode cX4_assign 124 = .ok (.iadd, 1) := by decide +kernel
theorem dX4_assign_125 : decode cX4_assign 125 = .ok (.iload_n 2, 1) := by decide +kernel
theorem dX4_assign_126 : decode cX4_assign 126 = .ok (.iconst 1, 1) := by decide +kernel
theorem dX4_assign_127 : decode cX4_assign 127 = .ok (.iload 5, 2) := by decide +kernel
theorem dX4_assign_129 : decode cX4_assign 129 = .ok (.ishl, 1) := by decide +kernel
theorem dX4_assign_130 : decode cX4_assign 130 = .ok (.ior, 1) := by decide +kernel
theorem dX4_assign_131 : decode cX4_assign 131 = .ok (.iload_n 3, 1) := by decide +kernel
theorem dX4_assign_132 : decode cX4_assign 132 = .ok (.iconst 1, 1) := by decide +kernel
theorem dX4_assign_133 : decode cX4_assign 133 = .ok (.iadd, 1) := by decide +kernel
theorem dX4_assign_134 : decode cX4_assign 134 = .ok (.iload 4, 2) := by decide +kernel
theorem dX4_assign_136 : decode cX4_assign 136 = .ok (.iload 6, 2) := by decide +kernel
theorem dX4_assign_138 : decode cX4_assign 138 = .ok (.iadd, 1) := by decide +kernel
theorem dX4_assign_139 : decode cX4_assign 139 = .ok (.invokevirtual 38, 3) := by decide +kernel
theorem dX4_assign_142 : decode cX4_assign 142 = .ok (.iinc 5 1, 3) := by decide +kernel
theorem dX4_assign_145 : decode cX4_assign 145 = .ok (.goto (-73), 3) := by decide +kernel
theorem dX4_assign_148 : decode cX4_assign 148 = .ok (.aload_n 0, 1) := by decide +kernel
theorem dX4_assign_149 : decode cX4_assign 149 = .ok (.getfield 15, 3) := by decide +kernel
theorem dX4_assign_152 : decode cX4_assign 152 = .ok (.iload_n 1, 1) := by decide +kernel
theorem dX4_assign_153 : decode cX4_assign 153 = .ok (.iconst (-1), 1) := by decide +kernel
theorem dX4_assign_154 : decode cX4_assign 154 = .ok (.iastore, 1) := by decide +kernel
theorem dX4_assign_155 : decode cX4_assign 155 = .ok (.aload_n 0, 1) := by decide +kernel
theorem dX4_assign_156 : decode cX4_assign 156 = .ok (.iload_n 1, 1) := by decide +kernel
theorem dX4_assign_157 : decode cX4_assign 157 = .ok (.iconst 1, 1) := by decide +kernel
theorem dX4_assign_158 : decode cX4_assign 158 = .ok (.iadd, 1) := by decide +kernel
theorem dX4_assign_159 : decode cX4_assign 159 = .ok (.iload_n 2, 1) := by decide +kernel
theorem dX4_assign_160 : decode cX4_assign 160 = .ok (.iload_n 3, 1) := by decide +kernel
theorem dX4_assign_161 : decode cX4_assign 161 = .ok (.iload 4, 2) := by decide +kernel
theorem dX4_assign_163 : decode cX4_assign 163 = .ok (.invokevirtual 38, 3) := by decide +kernel
theorem dX4_assign_166 : decode cX4_assign 166 = .ok (.return_, 1) := by decide +kernel
set_option maxRecDepth 100000 in
theorem ggX5_init_X9_init : GoodIn wsX5_init wsX9_init := goodIn_r _ [23, 24, 2, 3, 25, 26, 12, 27, 28, 29, 30, 31, 32, 33, 34, 35, 36, 67, 68, 69, 70, 71, 72, 73, 74, 75, 76, 77, 78] rfl (by decide +kernel)
set_option maxRecDepth 100000 in
theorem gX5_init_X9_init_n11 : GoodIn wsX5_init (wsX9_init) := ggX5_init_X9_init
set_option maxRecDepth 100000 in
theorem ggX5_init_X7_init : GoodIn wsX5_init wsX7_init := goodIn_r _ [38, 39, 2, 3, 12, 40, 41, 42, 43, 10, 44, 45, 46, 47, 48, 84] rfl (by decide +kernel)
set_option maxRecDepth 100000 in
theorem gX5_init_X7_init_n20 : GoodIn wsX5_init (wsX7_init) := ggX5_init_X7_init
set_option maxRecDepth 100000 in
theorem ggX5_init_X8_init : GoodIn wsX5_init wsX8_init := goodIn_r _ [50, 51, 2, 3, 52, 53, 54, 55, 56, 57, 58, 59, 60, 85, 86, 87, 88, 89, 90, 91, 92, 93] rfl (by decide +kernel)
set_option maxRecDepth 100000 in
theorem gX5_init_X8_init_n31 : GoodIn wsX5_init (wsX8_init) := ggX5_init_X8_init
set_option maxRecDepth 100000 in
theorem ggX5_init_X2_init : GoodIn wsX5_init wsX2_init := goodIn_r _ [62, 63, 2, 3, 64, 65, 66, 94, 95, 96] rfl (by decide +kernel)
set_option maxRecDepth 100000 in
theorem gX5_init_X2_init_n40 : GoodIn wsX5_init (wsX2_init) := ggX5_init_X2_init
theorem dX5_init_0 : decode cX5_init 0 = .ok (.aload_n 0, 1) := by decide +kernel
theorem dX5_init_1 : decode cX5_init 1 = .ok (.invokespecial 3, 3) := by decide +kernel
theorem dX5_init_4 : decode cX5_init 4 = .ok (.aload_n 0, 1) := by decide +kernel
theorem dX5_init_5 : decode cX5_init 5 = .ok (.new 9, 3) := by decide +kernel
theorem dX5_init_8 : decode cX5_init 8 = .ok (.dup, 1) := by decide +kernel
theorem dX5_init_9 : decode cX5_init 9 = .ok (.invokespecial 11, 3) := by decide +kernel
theorem dX5_init_12 : decode cX5_init 12 = .ok (.putfield 12, 3) := by decide +kernel
theorem dX5_init_15 : decode cX5_init 15 = .ok (.aload_n 0, 1) := by decide +kernel
theorem dX5_init_16 : decode cX5_init 16 = .ok (.new 18, 3) := by decide +kernel
theorem dX5_init_19 : decode cX5_init 19 = .ok (.dup, 1) := by decide +kernel
theorem dX5_init_20 : decode cX5_init 20 = .ok (.invokespecial 20, 3) := by decide +kernel
theorem dX5_init_23 : decode cX5_init 23 = .ok (.putfield 21, 3) := by decide +kernel
theorem dX5_init_26 : decode cX5_init 26 = .ok (.aload_n 0, 1) := by decide +kernel
theorem dX5_init_27 : decode cX5_init 27 = .ok (.bipush 7, 2) := by decide +kernel
theorem dX5_init_29 : decode cX5_init 29 = .ok (.newarray .int, 2) := by decide +kernel
theorem dX5_init_31 : decode cX5_init 31 = .ok (.putfield 25, 3) := by decide +kernel
theorem dX5_init_34 : decode cX5_init 34 = .ok (.aload_n 0, 1) := by decide +kernel
theorem dX5_init_35 : decode cX5_init 35 = .ok (.new 29, 3) := by decide +kernel
theorem dX5_init_38 : decode cX5_init 38 = .ok (.dup, 1) := by decide +kernel
theorem dX5_init_39 : decode cX5_init 39 = .ok (.aload_n 1, 1) := by decide +kernel
theorem dX5_init_40 : decode cX5_init 40 = .ok (.invokespecial 31, 3) := by decide +kernel
theorem dX5_init_43 : decode cX5_init 43 = .ok (.putfield 34, 3) := by decide +kernel
theorem dX5_init_46 : decode cX5_init 46 = .ok (.aload_n 0, 1) := by decide +kernel
theorem dX5_init_47 : decode cX5_init 47 = .ok (.new 38, 3) := by decide +kernel
theorem dX5_init_50 : decode cX5_init 50 = .ok (.dup, 1) := by decide +kernel
theorem dX5_init_51 : decode cX5_init 51 = .ok (.aload_n 0, 1) := by decide +kernel
theorem dX5_init_52 : decode cX5_init 52 = .ok (.getfield 34, 3) := by decide +kernel
theorem dX5_init_55 : decode cX5_init 55 = .ok (.aload_n 0, 1) := by decide +kernel
theorem dX5_init_56 : decode cX5_init 56 = .ok (.getfield 12, 3) := by decide +kernel
theorem dX5_init_59 : decode cX5_init 59 = .ok (.invokespecial 40, 3) := by decide +kernel
theorem dX5_init_62 : decode cX5_init 62 = .ok (.putfield 43, 3) := by decide +kernel
theorem dX5_init_65 : decode cX5_init 65 = .ok (.return_, 1) := by decide +kernel
set_option maxRecDepth 100000 in
theorem ggX5_readText_X9_clear : GoodIn wsX5_readText wsX9_clear := goodIn_r _ [8, 9, 10, 11, 12, 13, 14, 15, 309, 310, 311, 312, 313, 314, 315, 316, 317, 318, 319, 320] rfl (by decide +kernel)
set_option maxRecDepth 100000 in
theorem gX5_readText_X9_clear_n47 : GoodIn wsX5_readText (wsX9_clear) := ggX5_readText_X9_clear
set_option maxRecDepth 100000 in
theorem ggX5_readText_X7_clear : GoodIn wsX5_readText wsX7_clear := goodIn_r _ [19, 20, 21, 22, 23, 24, 321] rfl (by decide +kernel)
set_option maxRecDepth 100000 in
theorem gX5_readText_X7_clear_n50 : GoodIn wsX5_readText (wsX7_clear) := ggX5_readText_X7_clear
set_option maxRecDepth 100000 in
theorem ggX5_readText_J7_fill_53178 : GoodIn wsX5_readText wsJ7_fill_53178 := goodIn_r _ [24] rfl (by decide +kernel)
set_option maxRecDepth 100000 in
theorem gX5_readText_J7_fill_53178 : GoodIn wsX5_readText (va_wsS RX5 51 yJ7_fill_53178 wsJ7_fill_53178) := goodIn_app (goodIn_of _ (by decide +kernel)) ggX5_readText_J7_fill_53178
set_option maxRecDepth 100000 in
theorem ggX5_readText_X8_begin : GoodIn wsX5_readText wsX8_begin := goodIn_r _ [29, 30, 31, 32, 33, 34, 35, 36, 37, 38, 39, 40, 41, 42, 27, 43, 44, 45, 46, 47, 48, 49, 50, 51, 52, 53, 54, 55, 56, 57, 58, 59, 60, 61, 62, 63, 64, 65, 66, 67, 68, 69, 70, 71, 72, 73, 74, 75, 76, 77, 78, 79, 80, 81, 82, 83, 84, 85, 86, 87, 88, 89, 90, 91, 92, 93, 94, 95, 96, 97, 98, 99, 100, 101, 102, 103, 104, 105, 106, 107, 108, 109, 110, 111, 112, 113, 114, 115, 116, 117, 118, 119, 120, 121, 122, 123, 124, 125, 126, 127, 128, 129, 130, 131, 132, 133, 134, 135, 136, 137, 138, 139, 140, 141, 142, 143, 144, 145, 146, 147, 148, 149, 150, 300, 301, 302, 303, 304, 305, 306, 307, 308] rfl (by decide +kernel)
set_option maxRecDepth 100000 in
theorem gX5_readText_X8_begin_n57 : GoodIn wsX5_readText (wsX8_begin) := ggX5_readText_X8_begin
set_option maxRecDepth 100000 in
theorem ggX5_readText_X8_goesOn : GoodIn wsX5_readText wsX8_goesOn := goodIn_r _ [153, 37, 300, 301, 302, 303, 304, 305, 306, 307, 308] rfl (by decide +kernel)
set_option maxRecDepth 100000 in
theorem gX5_readText_X8_goesOn_n61 : GoodIn wsX5_readText (wsX8_goesOn) := ggX5_readText_X8_goesOn
set_option maxRecDepth 100000 in
theorem ggX5_readText_X5_readLine : GoodIn wsX5_readText wsX5_readLine := goodIn_r _ [158, 4, 159, 27, 160, 161, 37, 36, 44, 30, 162, 82, 83, 68, 84, 74, 85, 86, 87, 88, 79, 80, 163, 164, 165, 166, 75, 76, 77, 78, 167, 168, 91, 169, 170, 171, 172, 122, 173, 174, 125, 175, 176, 177, 105, 178, 179, 180, 181, 116, 117, 118, 182, 130, 131, 132, 133, 134, 135, 183, 184, 185, 157, 186, 1, 187, 188, 189, 38, 39, 41, 42, 43, 35, 45, 46, 47, 48, 49, 50, 51, 52, 53, 54, 55, 56, 57, 58, 59, 60, 61, 62, 63, 64, 65, 66, 67, 69, 70, 71, 72, 73, 81, 89, 90, 92, 93, 94, 33, 95, 96, 32, 34, 97, 98, 99, 100, 101, 102, 103, 104, 106, 107, 108, 109, 110, 111, 112, 113, 114, 115, 119, 120, 121, 123, 124, 126, 127, 128, 129, 136, 137, 138, 139, 140, 141, 142, 143, 144, 145, 146, 147, 148, 149, 150, 190, 191, 192, 193, 194, 195, 196, 197, 198, 199, 200, 201, 202, 203, 204, 205, 206, 207, 208, 209, 210, 3, 2, 211, 212, 213, 214, 215, 17, 216, 217, 20, 218, 219, 220, 221, 222, 223, 224, 225, 226, 227, 228, 229, 230, 231, 232, 233, 234, 235, 236, 237, 238, 239, 240, 241, 242, 243, 244, 245, 6, 246, 247, 11, 248, 249, 250, 251, 252, 253, 254, 255, 256, 257, 258, 259, 260, 261, 262, 263, 264, 265, 266, 267, 268, 269, 270, 271, 272, 273, 274, 275, 276, 277, 278, 279, 280, 281, 282, 283, 284, 285, 286, 287, 288, 289, 290, 291, 292, 293, 294, 295, 296, 297, 298, 299, 300, 301, 302, 303, 304, 305, 306, 307, 308, 309, 310, 311, 312, 313, 314, 315, 316, 317, 318, 319, 320, 321, 322, 323, 324] rfl (by decide +kernel)
set_option maxRecDepth 100000 in
theorem gX5_readText_X5_readLine : GoodIn wsX5_readText (wsV RX5 65 RX5 yX5_readLine wsX5_readLine) := goodIn_app (goodIn_of _ (by decide +kernel)) ggX5_readText_X5_readLine
theorem dX5_readText_0 : decode cX5_readText 0 = .ok (.aload_n 0, 1) := by decide +kernel
theorem dX5_readText_1 : decode cX5_readText 1 = .ok (.getfield 12, 3) := by decide +kernel
theorem dX5_readText_4 : decode cX5_readText 4 = .ok (.invokevirtual 47, 3) := by decide +kernel
theorem dX5_readText_7 : decode cX5_readText 7 = .ok (.aload_n 0, 1) := by decide +kernel
theorem dX5_readText_8 : decode cX5_readText 8 = .ok (.getfield 21, 3) := by decide +kernel
theorem dX5_readText_11 : decode cX5_readText 11 = .ok (.invokevirtual 50, 3) := by decide +kernel
theorem dX5_readText_14 : decode cX5_readText 14 = .ok (.aload_n 0, 1) := by decide +kernel
theorem dX5_readText_15 : decode cX5_readText 15 = .ok (.getfield 25, 3) := by decide +kernel
theorem dX5_readText_18 : decode cX5_readText 18 = .ok (.iconst 0, 1) := by decide +kernel
theorem dX5_readText_19 : decode cX5_readText 19 = .ok (.invokestatic 51, 3) := by decide +kernel
theorem dX5_readText_22 : decode cX5_readText 22 = .ok (.aload_n 0, 1) := by decide +kernel
theorem dX5_readText_23 : decode cX5_readText 23 = .ok (.getfield 34, 3) := by decide +kernel
theorem dX5_readText_26 : decode cX5_readText 26 = .ok (.iload_n 1, 1) := by decide +kernel
theorem dX5_readText_27 : decode cX5_readText 27 = .ok (.invokevirtual 57, 3) := by decide +kernel
theorem dX5_readText_30 : decode cX5_readText 30 = .ok (.iconst 0, 1) := by decide +kernel
theorem dX5_readText_31 : decode cX5_readText 31 = .ok (.istore_n 2, 1) := by decide +kernel
theorem dX5_readText_32 : decode cX5_readText 32 = .ok (.iload_n 2, 1) := by decide +kernel
theorem dX5_readText_33 : decode cX5_readText 33 = .ok (.sipush 700, 3) := by decide +kernel
theorem dX5_readText_36 : decode cX5_readText 36 = .ok (.if_icmp .ge 23, 3) := by decide +kernel
theorem dX5_readText_39 : decode cX5_readText 39 = .ok (.aload_n 0, 1) := by decide +kernel
theorem dX5_readText_40 : decode cX5_readText 40 = .ok (.getfield 34, 3) := by decide +kernel
theorem dX5_readText_43 : decode cX5_readText 43 = .ok (.invokevirtual 61, 3) := by decide +kernel
theorem dX5_readText_46 : decode cX5_readText 46 = .ok (.ifCond .eq 13, 3) := by decide +kernel
theorem dX5_readText_49 : decode cX5_readText 49 = .ok (.aload_n 0, 1) := by decide +kernel
theorem dX5_readText_50 : decode cX5_readText 50 = .ok (.invokevirtual 65, 3) := by decide +kernel
theorem dX5_readText_53 : decode cX5_readText 53 = .ok (.iinc 2 1, 3) := by decide +kernel
theorem dX5_readText_56 : decode cX5_readText 56 = .ok (.goto (-24), 3) := by decide +kernel
theorem dX5_readText_59 : decode cX5_readText 59 = .ok (.aload_n 0, 1) := by decide +kernel
theorem dX5_readText_60 : decode cX5_readText 60 = .ok (.getfield 34, 3) := by decide +kernel
theorem dX5_readText_63 : decode cX5_readText 63 = .ok (.getfield 68, 3) := by decide +kernel
theorem dX5_readText_66 : decode cX5_readText 66 = .ok (.ireturn, 1) := by decide +kernel
theorem dX5_faultPlace_0 : decode cX5_faultPlace 0 = .ok (.aload_n 0, 1) := by decide +kernel
theorem dX5_faultPlace_1 : decode cX5_faultPlace 1 = .ok (.getfield 34, 3) := by decide +kernel
theorem dX5_faultPlace_4 : decode cX5_faultPlace 4 = .ok (.getfield 72, 3) := by decide +kernel
theorem dX5_faultPlace_7 : decode cX5_faultPlace 7 = .ok (.ireturn, 1) := by decide +kernel
set_option maxRecDepth 100000 in
theorem ggX5_readLine_X8_isWord : GoodIn wsX5_readLine wsX8_isWord := goodIn_r _ [5, 6, 7, 8, 9, 10, 11, 12, 13, 14, 15, 16, 17, 18, 19, 20, 21, 22, 23, 24, 25, 26, 27, 28, 29, 30, 31, 32, 33, 34, 35, 36, 37, 38, 39, 40, 41, 42, 43, 44, 45, 46, 47, 48, 49, 50, 51, 52, 53, 54, 55, 56, 57, 58, 271, 272, 273, 274, 275, 276, 277, 278, 279] rfl (by decide +kernel)
set_option maxRecDepth 100000 in
theorem gX5_readLine_X8_isWord_n77 : GoodIn wsX5_readLine (wsX8_isWord) := ggX5_readLine_X8_isWord
set_option maxRecDepth 100000 in
theorem ggX5_readLine_X5_readSong : GoodIn wsX5_readLine wsX5_readSong := goodIn_r _ [63, 64, 1, 65, 3, 66, 67, 68, 8, 69, 6, 70, 71, 72, 7, 73, 9, 74, 75, 76, 77, 78, 79, 80, 81, 82, 83, 84, 85, 86, 87, 88, 89, 90, 91, 92, 93, 94, 95, 96, 13, 97, 98, 99, 100, 101, 15, 26, 27, 28, 29, 20, 21, 102, 11, 12, 14, 16, 17, 18, 19, 103, 104, 32, 105, 106, 107, 108, 109, 110, 111, 112, 113, 114, 115, 116, 117, 118, 119, 120, 44, 121, 122, 123, 124, 125, 126, 127, 128, 129, 130, 49, 50, 51, 131, 132, 133, 37, 134, 135, 40, 136, 137, 138, 139, 53, 54, 55, 56, 57, 58, 140, 141, 142, 143, 144, 145, 146, 147, 148, 149, 150, 151, 152, 153, 154, 155, 156, 157, 62, 158, 159, 160, 161, 162, 163, 164, 165, 166, 167, 266, 267, 268, 269, 270, 280, 281, 282, 283, 284, 285, 286, 287, 288, 289, 290, 291, 271, 272, 273, 274, 275, 276, 277, 278, 279] rfl (by decide +kernel)
set_option maxRecDepth 100000 in
theorem gX5_readLine_X5_readSong : GoodIn wsX5_readLine (wsV RX5 81 RX5 yX5_readSong wsX5_readSong) := goodIn_app (goodIn_of _ (by decide +kernel)) ggX5_readLine_X5_readSong
set_option maxRecDepth 100000 in
theorem ggX5_readLine_X5_readPerson : GoodIn wsX5_readLine wsX5_readPerson := goodIn_r _ [171, 64, 1, 65, 3, 66, 67, 68, 8, 69, 6, 70, 71, 72, 7, 73, 9, 74, 75, 76, 77, 78, 79, 80, 81, 82, 83, 84, 85, 86, 87, 88, 89, 90, 91, 92, 93, 94, 95, 96, 13, 97, 98, 99, 100, 101, 15, 26, 27, 28, 29, 20, 21, 102, 11, 12, 14, 16, 17, 18, 19, 103, 104, 32, 105, 106, 107, 108, 109, 110, 111, 112, 113, 114, 115, 116, 117, 118, 119, 120, 44, 121, 122, 123, 124, 125, 126, 127, 128, 129, 130, 49, 50, 51, 131, 132, 133, 37, 134, 135, 40, 136, 137, 138, 139, 53, 54, 55, 56, 57, 58, 140, 141, 142, 143, 144, 145, 146, 147, 148, 149, 150, 151, 152, 153, 154, 155, 156, 157, 62, 158, 159, 160, 161, 162, 163, 164, 266, 267, 268, 269, 270, 280, 281, 282, 283, 284, 285, 286, 287, 288, 289, 290, 291, 271, 272, 273, 274, 275, 276, 277, 278, 279] rfl (by decide +kernel)
set_option maxRecDepth 100000 in
theorem gX5_readLine_X5_readPerson : GoodIn wsX5_readLine (wsV RX5 86 RX5 yX5_readPerson wsX5_readPerson) := goodIn_app (goodIn_of _ (by decide +kernel)) ggX5_readLine_X5_readPerson
set_option maxRecDepth 100000 in
theorem ggX5_readLine_X5_readHas : GoodIn wsX5_readLine wsX5_readHas := goodIn_r _ [175, 1, 64, 176, 177, 70, 3, 71, 72, 6, 7, 73, 9, 8, 74, 75, 76, 77, 78, 79, 80, 81, 82, 83, 84, 85, 86, 87, 88, 89, 90, 91, 92, 93, 94, 95, 96, 13, 97, 98, 99, 100, 101, 15, 26, 27, 28, 29, 20, 21, 102, 11, 12, 14, 16, 17, 18, 19, 103, 104, 32, 105, 106, 107, 108, 109, 110, 111, 112, 113, 114, 115, 116, 117, 118, 119, 120, 44, 121, 122, 123, 124, 125, 126, 127, 128, 129, 130, 49, 50, 51, 131, 132, 133, 37, 134, 135, 40, 136, 137, 138, 139, 53, 54, 55, 56, 57, 58, 140, 141, 142, 143, 144, 145, 146, 147, 148, 149, 150, 151, 152, 153, 154, 178, 179, 180, 62, 181, 159, 160, 161, 65, 66, 67, 68, 69, 162, 163, 164, 155, 156, 157, 158, 165, 166, 167, 182, 183, 184, 185, 186, 266, 267, 268, 269, 270, 280, 281, 282, 283, 284, 285, 286, 287, 288, 289, 290, 291, 271, 272, 273, 274, 275, 276, 277, 278, 279, 292] rfl (by decide +kernel)
set_option maxRecDepth 100000 in
theorem gX5_readLine_X5_readHas : GoodIn wsX5_readLine (wsV RX5 91 RX5 yX5_readHas wsX5_readHas) := goodIn_app (goodIn_of _ (by decide +kernel)) ggX5_readLine_X5_readHas
set_option maxRecDepth 100000 in
theorem ggX5_readLine_X5_readSeeks : GoodIn wsX5_readLine wsX5_readSeeks := goodIn_r _ [190, 1, 64, 177, 70, 3, 71, 72, 6, 7, 73, 9, 8, 74, 75, 76, 77, 78, 79, 80, 81, 82, 83, 84, 85, 86, 87, 88, 89, 90, 91, 92, 93, 94, 95, 96, 13, 97, 98, 99, 100, 101, 15, 26, 27, 28, 29, 20, 21, 102, 11, 12, 14, 16, 17, 18, 19, 103, 104, 32, 105, 106, 107, 108, 109, 110, 111, 112, 113, 114, 115, 116, 117, 118, 119, 120, 44, 121, 122, 123, 124, 125, 126, 127, 128, 129, 130, 49, 50, 51, 131, 132, 133, 37, 134, 135, 40, 136, 137, 138, 139, 53, 54, 55, 56, 57, 58, 140, 141, 142, 143, 144, 145, 146, 147, 148, 149, 150, 151, 152, 153, 154, 178, 179, 180, 62, 181, 159, 160, 161, 65, 66, 67, 68, 69, 162, 163, 164, 191, 183, 192, 193, 186, 194, 195, 196, 266, 267, 268, 269, 270, 280, 281, 282, 283, 284, 285, 286, 287, 288, 289, 290, 291, 271, 272, 273, 274, 275, 276, 277, 278, 279, 292] rfl (by decide +kernel)
set_option maxRecDepth 100000 in
theorem gX5_readLine_X5_readSeeks : GoodIn wsX5_readLine (wsV RX5 96 RX5 yX5_readSeeks wsX5_readSeeks) := goodIn_app (goodIn_of _ (by decide +kernel)) ggX5_readLine_X5_readSeeks
set_option maxRecDepth 100000 in
theorem ggX5_readLine_X5_readForgets : GoodIn wsX5_readLine wsX5_readForgets := goodIn_r _ [200, 64, 1, 201, 65, 3, 66, 67, 68, 8, 69, 6, 70, 71, 72, 7, 73, 9, 74, 75, 76, 77, 78, 79, 80, 81, 82, 83, 84, 85, 86, 87, 88, 89, 90, 91, 92, 93, 94, 95, 96, 13, 97, 98, 99, 100, 101, 15, 26, 27, 28, 29, 20, 21, 102, 11, 12, 14, 16, 17, 18, 19, 103, 104, 32, 105, 106, 107, 108, 109, 110, 111, 112, 113, 114, 115, 116, 117, 118, 119, 120, 44, 121, 122, 123, 124, 125, 126, 127, 128, 129, 130, 49, 50, 51, 131, 132, 133, 37, 134, 135, 40, 136, 137, 138, 139, 53, 54, 55, 56, 57, 58, 140, 141, 142, 143, 144, 145, 146, 147, 148, 149, 150, 151, 152, 153, 154, 202, 203, 204, 205, 206, 207, 159, 160, 161, 208, 209, 210, 211, 212, 213, 2, 4, 5, 10, 22, 23, 24, 25, 30, 31, 33, 34, 35, 36, 38, 39, 41, 42, 43, 45, 46, 47, 48, 52, 214, 215, 216, 217, 218, 219, 220, 221, 222, 223, 224, 225, 226, 227, 228, 162, 163, 164, 229, 230, 231, 232, 233, 234, 235, 236, 237, 238, 239, 240, 241, 242, 243, 244, 245, 246, 247, 248, 249, 250, 251, 252, 253, 254, 255, 256, 257, 258, 259, 260, 261, 266, 267, 268, 269, 270, 280, 281, 282, 283, 284, 285, 286, 287, 288, 289, 290, 291, 293, 294, 295, 271, 272, 273, 274, 275, 276, 277, 278, 279] rfl (by decide +kernel)
set_option maxRecDepth 100000 in
theorem gX5_readLine_X5_readForgets : GoodIn wsX5_readLine (wsV RX5 101 RX5 yX5_readForgets wsX5_readForgets) := goodIn_app (goodIn_of _ (by decide +kernel)) ggX5_readLine_X5_readForgets
set_option maxRecDepth 100000 in
theorem ggX5_readLine_X5_readFills : GoodIn wsX5_readLine wsX5_readFills := goodIn_r _ [265, 64, 1, 201, 65, 3, 66, 67, 68, 8, 69, 6, 70, 71, 72, 7, 73, 9, 74, 75, 76, 77, 78, 79, 80, 81, 82, 83, 84, 85, 86, 87, 88, 89, 90, 91, 92, 93, 94, 95, 96, 13, 97, 98, 99, 100, 101, 15, 26, 27, 28, 29, 20, 21, 102, 11, 12, 14, 16, 17, 18, 19, 103, 104, 32, 105, 106, 107, 108, 109, 110, 111, 112, 113, 114, 115, 116, 117, 118, 119, 120, 44, 121, 122, 123, 124, 125, 126, 127, 128, 129, 130, 49, 50, 51, 131, 132, 133, 37, 134, 135, 40, 136, 137, 138, 139, 53, 54, 55, 56, 57, 58, 140, 141, 142, 143, 144, 145, 146, 147, 148, 149, 150, 151, 152, 153, 154, 202, 203, 204, 205, 206, 207, 159, 160, 161, 208, 209, 210, 211, 212, 213, 2, 4, 5, 10, 22, 23, 24, 25, 30, 31, 33, 34, 35, 36, 38, 39, 41, 42, 43, 45, 46, 47, 48, 52, 214, 215, 216, 217, 218, 219, 220, 221, 222, 223, 224, 225, 226, 227, 228, 162, 163, 164, 229, 230, 231, 232, 233, 234, 235, 236, 237, 238, 239, 240, 241, 242, 243, 244, 245, 246, 247, 248, 249, 250, 251, 252, 253, 254, 255, 256, 257, 258, 259, 260, 261, 266, 267, 268, 269, 270, 280, 281, 282, 283, 284, 285, 286, 287, 288, 289, 290, 291, 293, 294, 295, 271, 272, 273, 274, 275, 276, 277, 278, 279] rfl (by decide +kernel)
set_option maxRecDepth 100000 in
theorem gX5_readLine_X5_readFills : GoodIn wsX5_readLine (wsV RX5 106 RX5 yX5_readFills wsX5_readFills) := goodIn_app (goodIn_of _ (by decide +kernel)) ggX5_readLine_X5_readFills
set_option maxRecDepth 100000 in
theorem ggX5_readLine_X8_fail : GoodIn wsX5_readLine wsX8_fail := goodIn_r _ [67, 68, 8, 69, 6, 271, 272, 273, 274, 275, 276, 277, 278, 279] rfl (by decide +kernel)
set_option maxRecDepth 100000 in
theorem gX5_readLine_X8_fail_n109 : GoodIn wsX5_readLine (wsX8_fail) := ggX5_readLine_X8_fail
set_option maxRecDepth 100000 in
theorem ggX5_readLine_X8_isSign : GoodIn wsX5_readLine wsX8_isSign := goodIn_r _ [210, 6, 93, 271, 272, 273, 274, 275, 276, 277, 278, 279] rfl (by decide +kernel)
set_option maxRecDepth 100000 in
theorem gX5_readLine_X8_isSign_n112 : GoodIn wsX5_readLine (wsX8_isSign) := ggX5_readLine_X8_isSign
set_option maxRecDepth 100000 in
theorem ggX5_readLine_X8_next : GoodIn wsX5_readLine wsX8_next := goodIn_r _ [72, 6, 7, 73, 9, 8, 74, 75, 3, 76, 77, 78, 79, 80, 81, 82, 83, 84, 85, 86, 87, 88, 89, 90, 91, 92, 93, 94, 95, 96, 13, 97, 98, 99, 100, 101, 15, 26, 27, 28, 29, 20, 21, 102, 11, 12, 14, 16, 17, 18, 19, 103, 104, 32, 105, 106, 107, 108, 109, 110, 111, 112, 113, 114, 115, 116, 117, 118, 119, 120, 44, 121, 122, 123, 124, 125, 126, 127, 128, 129, 130, 49, 50, 51, 131, 132, 133, 37, 134, 135, 40, 136, 137, 138, 139, 53, 54, 55, 56, 57, 58, 140, 141, 142, 143, 144, 145, 146, 147, 148, 149, 150, 151, 152, 153, 154, 271, 272, 273, 274, 275, 276, 277, 278, 279] rfl (by decide +kernel)
set_option maxRecDepth 100000 in
theorem gX5_readLine_X8_next_n116 : GoodIn wsX5_readLine (wsX8_next) := ggX5_readLine_X8_next
theorem dX5_readLine_0 : decode cX5_readLine 0 = .ok (.aload_n 0, 1) := by decide +kernel
theorem dX5_readLine_1 : decode cX5_readLine 1 = .ok (.getfield 34, 3) := by decide +kernel
theorem dX5_readLine_4 : decode cX5_readLine 4 = .ok (.ldc 75, 2) := by decide +kernel
theorem dX5_readLine_6 : decode cX5_readLine 6 = .ok (.invokevirtual 77, 3) := by decide +kernel
theorem dX5_readLine_9 : decode cX5_readLine 9 = .ok (.ifCond .eq 10, 3) := by decide +kernel
theorem dX5_readLine_12 : decode cX5_readLine 12 = .ok (.aload_n 0, 1) := by decide +kernel
theorem dX5_readLine_13 : decode cX5_readLine 13 = .ok (.invokevirtual 81, 3) := by decide +kernel
theorem dX5_readLine_16 : decode cX5_readLine 16 = .ok (.goto 106, 3) := by decide +kernel
theorem dX5_readLine_19 : decode cX5_readLine 19 = .ok (.aload_n 0, 1) := by decide +kernel
theorem dX5_readLine_20 : decode cX5_readLine 20 = .ok (.getfield 34, 3) := by decide +kernel
theorem dX5_readLine_23 : decode cX5_readLine 23 = .ok (.ldc 84, 2) := by decide +kernel
theorem dX5_readLine_25 : decode cX5_readLine 25 = .ok (.invokevirtual 77, 3) := by decide +kernel
theorem dX5_readLine_28 : decode cX5_readLine 28 = .ok (.ifCond .eq 10, 3) := by decide +kernel
theorem dX5_readLine_31 : decode cX5_readLine 31 = .ok (.aload_n 0, 1) := by decide +kernel
theorem dX5_readLine_32 : decode cX5_readLine 32 = .ok (.invokevirtual 86, 3) := by decide +kernel
theorem dX5_readLine_35 : decode cX5_readLine 35 = .ok (.goto 87, 3) := by decide +kernel
theorem dX5_readLine_38 : decode cX5_readLine 38 = .ok (.aload_n 0, 1) := by decide +kernel
theorem dX5_readLine_39 : decode cX5_readLine 39 = .ok (.getfield 34, 3) := by decide +kernel
theorem dX5_readLine_42 : decode cX5_readLine 42 = .ok (.ldc 89, 2) := by decide +kernel
theorem dX5_readLine_44 : decode cX5_readLine 44 = .ok (.invokevirtual 77, 3) := by decide +kernel
theorem dX5_readLine_47 : decode cX5_readLine 47 = .ok (.ifCond .eq 10, 3) := by decide +kernel
theorem dX5_readLine_50 : decode cX5_readLine 50 = .ok (.aload_n 0, 1) := by decide +kernel
theorem dX5_readLine_51 : decode cX5_readLine 51 = .ok (.invokevirtual 91, 3) := by decide +kernel
theorem dX5_readLine_54 : decode cX5_readLine 54 = .ok (.goto 68, 3) := by decide +kernel
theorem dX5_readLine_57 : decode cX5_readLine 57 = .ok (.aload_n 0, 1) := by decide +kernel
theorem dX5_readLine_58 : decode cX5_readLine 58 = .ok (.getfield 34, 3) := by decide +kernel
theorem dX5_readLine_61 : decode cX5_readLine 61 = .ok (.ldc 94, 2) := by decide +kernel
theorem dX5_readLine_63 : decode cX5_readLine 63 = .ok (.invokevirtual 77, 3) := by decide +kernel
theorem dX5_readLine_66 : decode cX5_readLine 66 = .ok (.ifCond .eq 10, 3) := by decide +kernel
theorem dX5_readLine_69 : decode cX5_readLine 69 = .ok (.aload_n 0, 1) := by decide +kernel
theorem dX5_readLine_70 : decode cX5_readLine 70 = .ok (.invokevirtual 96, 3) := by decide +kernel
theorem dX5_readLine_73 : decode cX5_readLine 73 = .ok (.goto 49, 3) := by decide +kernel
theorem dX5_readLine_76 : decode cX5_readLine 76 = .ok (.aload_n 0, 1) := by decide +kernel
theorem dX5_readLine_77 : decode cX5_readLine 77 = .ok (.getfield 34, 3) := by decide +kernel
theorem dX5_readLine_80 : decode cX5_readLine 80 = .ok (.ldc 99, 2) := by decide +kernel
theorem dX5_readLine_82 : decode cX5_readLine 82 = .ok (.invokevirtual 77, 3) := by decide +kernel
theorem dX5_readLine_85 : decode cX5_readLine 85 = .ok (.ifCond .eq 10, 3) := by decide +kernel
theorem dX5_readLine_88 : decode cX5_readLine 88 = .ok (.aload_n 0, 1) := by decide +kernel
theorem dX5_readLine_89 : decode cX5_readLine 89 = .ok (.invokevirtual 101, 3) := by decide +kernel
theorem dX5_readLine_92 : decode cX5_readLine 92 = .ok (.goto 30, 3) := by decide +kernel
theorem dX5_readLine_95 : decode cX5_readLine 95 = .ok (.aload_n 0, 1) := by decide +kernel
theorem dX5_readLine_96 : decode cX5_readLine 96 = .ok (.getfield 34, 3) := by decide +kernel
theorem dX5_readLine_99 : decode cX5_readLine 99 = .ok (.ldc 104, 2) := by decide +kernel
theorem dX5_readLine_101 : decode cX5_readLine 101 = .ok (.invokevirtual 77, 3) := by decide +kernel
theorem dX5_readLine_104 : decode cX5_readLine 104 = .ok (.ifCond .eq 10, 3) := by decide +kernel
theorem dX5_readLine_107 : decode cX5_readLine 107 = .ok (.aload_n 0, 1) := by decide +kernel
theorem dX5_readLine_108 : decode cX5_readLine 108 = .ok (.invokevirtual 106, 3) := by decide +kernel
theorem dX5_readLine_111 : decode cX5_readLine 111 = .ok (.goto 11, 3) := by decide +kernel
theorem dX5_readLine_114 : decode cX5_readLine 114 = .ok (.aload_n 0, 1) := by decide +kernel
theorem dX5_readLine_115 : decode cX5_readLine 115 = .ok (.getfield 34, 3) := by decide +kernel
theorem dX5_readLine_118 : decode cX5_readLine 118 = .ok (.iconst 1, 1) := by decide +kernel
theorem dX5_readLine_119 : decode cX5_readLine 119 = .ok (.invokevirtual 109, 3) := by decide +kernel
theorem dX5_readLine_122 : decode cX5_readLine 122 = .ok (.aload_n 0, 1) := by decide +kernel
theorem dX5_readLine_123 : decode cX5_readLine 123 = .ok (.getfield 34, 3) := by decide +kernel
theorem dX5_readLine_126 : decode cX5_readLine 126 = .ok (.bipush 59, 2) := by decide +kernel
theorem dX5_readLine_128 : decode cX5_readLine 128 = .ok (.invokevirtual 112, 3) := by decide +kernel
theorem dX5_readLine_131 : decode cX5_readLine 131 = .ok (.ifCond .ne 11, 3) := by decide +kernel
theorem dX5_readLine_134 : decode cX5_readLine 134 = .ok (.aload_n 0, 1) := by decide +kernel
theorem dX5_readLine_135 : decode cX5_readLine 135 = .ok (.getfield 34, 3) := by decide +kernel
theorem dX5_readLine_138 : decode cX5_readLine 138 = .ok (.iconst 1, 1) := by decide +kernel
theorem dX5_readLine_139 : decode cX5_readLine 139 = .ok (.invokevirtual 109, 3) := by decide +kernel
theorem dX5_readLine_142 : decode cX5_readLine 142 = .ok (.aload_n 0, 1) := by decide +kernel
theorem dX5_readLine_143 : decode cX5_readLine 143 = .ok (.getfield 34, 3) := by decide +kernel
theorem dX5_readLine_146 : decode cX5_readLine 146 = .ok (.invokevirtual 116, 3) := by decide +kernel
theorem dX5_readLine_149 : decode cX5_readLine 149 = .ok (.return_, 1) := by decide +kernel
set_option maxRecDepth 100000 in
theorem ggX5_readSong_X8_fail : GoodIn wsX5_readSong wsX8_fail := goodIn_r _ [6, 7, 8, 9, 10, 157, 158, 159, 160, 161, 162, 163, 164, 165] rfl (by decide +kernel)
set_option maxRecDepth 100000 in
theorem gX5_readSong_X8_fail_n109 : GoodIn wsX5_readSong (wsX8_fail) := ggX5_readSong_X8_fail
set_option maxRecDepth 100000 in
theorem ggX5_readSong_X8_next : GoodIn wsX5_readSong wsX8_next := goodIn_r _ [13, 10, 14, 15, 16, 8, 17, 18, 4, 19, 20, 21, 22, 23, 24, 25, 26, 27, 28, 29, 30, 31, 32, 33, 34, 35, 36, 37, 38, 39, 40, 41, 42, 43, 44, 45, 46, 47, 48, 49, 50, 51, 52, 53, 54, 55, 56, 57, 58, 59, 60, 61, 62, 63, 64, 65, 66, 67, 68, 69, 70, 71, 72, 73, 74, 75, 76, 77, 78, 79, 80, 81, 82, 83, 84, 85, 86, 87, 88, 89, 90, 91, 92, 93, 94, 95, 96, 97, 98, 99, 100, 101, 102, 103, 104, 105, 106, 107, 108, 109, 110, 111, 112, 113, 114, 115, 116, 117, 118, 119, 120, 121, 122, 123, 124, 125, 157, 158, 159, 160, 161, 162, 163, 164, 165] rfl (by decide +kernel)
set_option maxRecDepth 100000 in
theorem gX5_readSong_X8_next_n116 : GoodIn wsX5_readSong (wsX8_next) := ggX5_readSong_X8_next
set_option maxRecDepth 100000 in
theorem ggX5_readSong_X5_readNumber : GoodIn wsX5_readSong wsX5_readNumber := goodIn_r _ [130, 2, 131, 4, 132, 133, 10, 3, 5, 6, 7, 8, 9, 134, 135, 136, 14, 11, 12, 13, 15, 16, 17, 18, 19, 20, 21, 22, 23, 24, 25, 26, 27, 28, 29, 30, 31, 32, 33, 34, 35, 36, 37, 38, 39, 40, 41, 42, 43, 44, 45, 46, 47, 48, 49, 50, 51, 52, 53, 54, 55, 56, 57, 58, 59, 60, 61, 62, 63, 64, 65, 66, 67, 68, 69, 70, 71, 72, 73, 74, 75, 76, 77, 78, 79, 80, 81, 82, 83, 84, 85, 86, 87, 88, 89, 90, 91, 92, 93, 94, 95, 96, 97, 98, 99, 100, 101, 102, 103, 104, 105, 106, 107, 108, 109, 110, 111, 112, 113, 114, 115, 116, 117, 118, 119, 120, 121, 122, 123, 124, 125, 140, 141, 142, 143, 144, 157, 158, 159, 160, 161, 162, 163, 164, 165] rfl (by decide +kernel)
set_option maxRecDepth 100000 in
theorem gX5_readSong_X5_readNumber : GoodIn wsX5_readSong (wsV RX5 122 RX5 yX5_readNumber wsX5_readNumber) := goodIn_app (goodIn_of _ (by decide +kernel)) ggX5_readSong_X5_readNumber
set_option maxRecDepth 100000 in
theorem ggX5_readSong_X11_withNote : GoodIn wsX5_readSong wsX11_withNote := goodIn_r _ [139] rfl (by decide +kernel)
set_option maxRecDepth 100000 in
theorem gX5_readSong_X11_withNote_n126 : GoodIn wsX5_readSong (wsX11_withNote) := ggX5_readSong_X11_withNote
set_option maxRecDepth 100000 in
theorem ggX5_readSong_X8_isNumber : GoodIn wsX5_readSong wsX8_isNumber := goodIn_r _ [133, 10, 157, 158, 159, 160, 161, 162, 163, 164, 165] rfl (by decide +kernel)
set_option maxRecDepth 100000 in
theorem gX5_readSong_X8_isNumber_n130 : GoodIn wsX5_readSong (wsX8_isNumber) := ggX5_readSong_X8_isNumber
theorem dX5_readSong_0 : decode cX5_readSong 0 = .ok (.aload_n 0, 1) := by decide +kernel
theorem dX5_readSong_1 : decode cX5_readSong 1 = .ok (.getfield 12, 3) := by decide +kernel
theorem dX5_readSong_4 : decode cX5_readSong 4 = .ok (.getfield 119, 3) := by decide +kernel
theorem dX5_readSong_7 : decode cX5_readSong 7 = .ok (.iconst 5, 1) := by decide +kernel
theorem dX5_readSong_8 : decode cX5_readSong 8 = .ok (.if_icmp .lt 12, 3) := by decide +kernel
theorem dX5_readSong_11 : decode cX5_readSong 11 = .ok (.aload_n 0, 1) := by decide +kernel
theorem dX5_readSong_12 : decode cX5_readSong 12 = .ok (.getfield 34, 3) := by decide +kernel
theorem dX5_readSong_15 : decode cX5_readSong 15 = .ok (.iconst 2, 1) := by decide +kernel
theorem dX5_readSong_16 : decode cX5_readSong 16 = .ok (.invokevirtual 109, 3) := by decide +kernel
theorem dX5_readSong_19 : decode cX5_readSong 19 = .ok (.return_, 1) := by decide +kernel
theorem dX5_readSong_20 : decode cX5_readSong 20 = .ok (.aload_n 0, 1) := by decide +kernel
theorem dX5_readSong_21 : decode cX5_readSong 21 = .ok (.getfield 34, 3) := by decide +kernel
theorem dX5_readSong_24 : decode cX5_readSong 24 = .ok (.invokevirtual 116, 3) := by decide +kernel
theorem dX5_readSong_27 : decode cX5_readSong 27 = .ok (.iconst (-1), 1) := by decide +kernel
theorem dX5_readSong_28 : decode cX5_readSong 28 = .ok (.iconst 0, 1) := by decide +kernel
theorem dX5_readSong_29 : decode cX5_readSong 29 = .ok (.aload_n 0, 1) := by decide +kernel
theorem dX5_readSong_30 : decode cX5_readSong 30 = .ok (.bipush 9, 2) := by decide +kernel
theorem dX5_readSong_32 : decode cX5_readSong 32 = .ok (.invokevirtual 122, 3) := by decide +kernel
theorem dX5_readSong_35 : decode cX5_readSong 35 = .ok (.invokestatic 126, 3) := by decide +kernel
theorem dX5_readSong_38 : decode cX5_readSong 38 = .ok (.istore_n 1, 1) := by decide +kernel
theorem dX5_readSong_39 : decode cX5_readSong 39 = .ok (.iconst 1, 1) := by decide +kernel
theorem dX5_readSong_40 : decode cX5_readSong 40 = .ok (.istore_n 2, 1) := by decide +kernel
theorem dX5_readSong_41 : decode cX5_readSong 41 = .ok (.iload_n 2, 1) := by decide +kernel
theorem dX5_readSong_42 : decode cX5_readSong 42 = .ok (.bipush 8, 2) := by decide +kernel
theorem dX5_readSong_44 : decode cX5_readSong 44 = .ok (.if_icmp .ge 31, 3) := by decide +kernel
theorem dX5_readSong_47 : decode cX5_readSong 47 = .ok (.aload_n 0, 1) := by decide +kernel
theorem dX5_readSong_48 : decode cX5_readSong 48 = .ok (.getfield 34, 3) := by decide +kernel
theorem dX5_readSong_51 : decode cX5_readSong 51 = .ok (.invokevirtual 130, 3) := by decide +kernel
theorem dX5_readSong_54 : decode cX5_readSong 54 = .ok (.ifCond .eq 21, 3) := by decide +kernel
theorem dX5_readSong_57 : decode cX5_readSong 57 = .ok (.iload_n 1, 1) := by decide +kernel
theorem dX5_readSong_58 : decode cX5_readSong 58 = .ok (.iload_n 2, 1) := by decide +kernel
theorem dX5_readSong_59 : decode cX5_readSong 59 = .ok (.aload_n 0, 1) := by decide +kernel
theorem dX5_readSong_60 : decode cX5_readSong 60 = .ok (.bipush 9, 2) := by decide +kernel
theorem dX5_readSong_62 : decode cX5_readSong 62 = .ok (.invokevirtual 122, 3) := by decide +kernel
theorem dX5_readSong_65 : decode cX5_readSong 65 = .ok (.invokestatic 126, 3) := by decide +kernel
theorem dX5_readSong_68 : decode cX5_readSong 68 = .ok (.istore_n 1, 1) := by decide +kernel
theorem dX5_readSong_69 : decode cX5_readSong 69 = .ok (.iinc 2 1, 3) := by decide +kernel
theorem dX5_readSong_72 : decode cX5_readSong 72 = .ok (.goto (-31), 3) := by decide +kernel
theorem dX5_readSong_75 : decode cX5_readSong 75 = .ok (.aload_n 0, 1) := by decide +kernel
theorem dX5_readSong_76 : decode cX5_readSong 76 = .ok (.getfield 34, 3) := by decide +kernel
theorem dX5_readSong_79 : decode cX5_readSong 79 = .ok (.invokevirtual 130, 3) := by decide +kernel
theorem dX5_readSong_82 : decode cX5_readSong 82 = .ok (.ifCond .eq 11, 3) := by decide +kernel
theorem dX5_readSong_85 : decode cX5_readSong 85 = .ok (.aload_n 0, 1) := by decide +kernel
theorem dX5_readSong_86 : decode cX5_readSong 86 = .ok (.getfield 34, 3) := by decide +kernel
theorem dX5_readSong_89 : decode cX5_readSong 89 = .ok (.iconst 2, 1) := by decide +kernel
theorem dX5_readSong_90 : decode cX5_readSong 90 = .ok (.invokevirtual 109, 3) := by decide +kernel
theorem dX5_readSong_93 : decode cX5_readSong 93 = .ok (.aload_n 0, 1) := by decide +kernel
theorem dX5_readSong_94 : decode cX5_readSong 94 = .ok (.getfield 12, 3) := by decide +kernel
theorem dX5_readSong_97 : decode cX5_readSong 97 = .ok (.getfield 133, 3) := by decide +kernel
theorem dX5_readSong_100 : decode cX5_readSong 100 = .ok (.aload_n 0, 1) := by decide +kernel
theorem dX5_readSong_101 : decode cX5_readSong 101 = .ok (.getfield 12, 3) := by decide +kernel
theorem dX5_readSong_104 : decode cX5_readSong 104 = .ok (.getfield 119, 3) := by decide +kernel
theorem dX5_readSong_107 : decode cX5_readSong 107 = .ok (.iload_n 2, 1) := by decide +kernel
theorem dX5_readSong_108 : decode cX5_readSong 108 = .ok (.iastore, 1) := by decide +kernel
theorem dX5_readSong_109 : decode cX5_readSong 109 = .ok (.aload_n 0, 1) := by decide +kernel
theorem dX5_readSong_110 : decode cX5_readSong 110 = .ok (.getfield 12, 3) := by decide +kernel
theorem dX5_readSong_113 : decode cX5_readSong 113 = .ok (.getfield 136, 3) := by decide +kernel
theorem dX5_readSong_116 : decode cX5_readSong 116 = .ok (.aload_n 0, 1) := by decide +kernel
theorem dX5_readSong_117 : decode cX5_readSong 117 = .ok (.getfield 12, 3) := by decide +kernel
theorem dX5_readSong_120 : decode cX5_readSong 120 = .ok (.getfield 119, 3) := by decide +kernel
theorem dX5_readSong_123 : decode cX5_readSong 123 = .ok (.iload_n 1, 1) := by decide +kernel
theorem dX5_readSong_124 : decode cX5_readSong 124 = .ok (.iastore, 1) := by decide +kernel
theorem dX5_readSong_125 : decode cX5_readSong 125 = .ok (.aload_n 0, 1) := by decide +kernel
theorem dX5_readSong_126 : decode cX5_readSong 126 = .ok (.getfield 12, 3) := by decide +kernel
theorem dX5_readSong_129 : decode cX5_readSong 129 = .ok (.dup, 1) := by decide +kernel
theorem dX5_readSong_130 : decode cX5_readSong 130 = .ok (.getfield 119, 3) := by decide +kernel
theorem dX5_readSong_133 : decode cX5_readSong 133 = .ok (.iconst 1, 1) := by decide +kernel
theorem dX5_readSong_134 : decode cX5_readSong 134 = .ok (.iadd, 1) := by decide +kernel
theorem dX5_readSong_135 : decode cX5_readSong 135 = .ok (.putfield 119, 3) := by decide +kernel
theorem dX5_readSong_138 : decode cX5_readSong 138 = .ok (.return_, 1) := by decide +kernel
set_option maxRecDepth 100000 in
theorem ggX5_readPerson_X8_fail : GoodIn wsX5_readPerson wsX8_fail := goodIn_r _ [6, 7, 8, 9, 10, 154, 155, 156, 157, 158, 159, 160, 161, 162] rfl (by decide +kernel)
set_option maxRecDepth 100000 in
theorem gX5_readPerson_X8_fail_n109 : GoodIn wsX5_readPerson (wsX8_fail) := ggX5_readPerson_X8_fail
set_option maxRecDepth 100000 in
theorem ggX5_readPerson_X8_next : GoodIn wsX5_readPerson wsX8_next := goodIn_r _ [13, 10, 14, 15, 16, 8, 17, 18, 4, 19, 20, 21, 22, 23, 24, 25, 26, 27, 28, 29, 30, 31, 32, 33, 34, 35, 36, 37, 38, 39, 40, 41, 42, 43, 44, 45, 46, 47, 48, 49, 50, 51, 52, 53, 54, 55, 56, 57, 58, 59, 60, 61, 62, 63, 64, 65, 66, 67, 68, 69, 70, 71, 72, 73, 74, 75, 76, 77, 78, 79, 80, 81, 82, 83, 84, 85, 86, 87, 88, 89, 90, 91, 92, 93, 94, 95, 96, 97, 98, 99, 100, 101, 102, 103, 104, 105, 106, 107, 108, 109, 110, 111, 112, 113, 114, 115, 116, 117, 118, 119, 120, 121, 122, 123, 124, 125, 154, 155, 156, 157, 158, 159, 160, 161, 162] rfl (by decide +kernel)
set_option maxRecDepth 100000 in
theorem gX5_readPerson_X8_next_n116 : GoodIn wsX5_readPerson (wsX8_next) := ggX5_readPerson_X8_next
set_option maxRecDepth 100000 in
theorem ggX5_readPerson_X5_readNumber : GoodIn wsX5_readPerson wsX5_readNumber := goodIn_r _ [130, 2, 131, 4, 132, 133, 10, 3, 5, 6, 7, 8, 9, 134, 135, 136, 14, 11, 12, 13, 15, 16, 17, 18, 19, 20, 21, 22, 23, 24, 25, 26, 27, 28, 29, 30, 31, 32, 33, 34, 35, 36, 37, 38, 39, 40, 41, 42, 43, 44, 45, 46, 47, 48, 49, 50, 51, 52, 53, 54, 55, 56, 57, 58, 59, 60, 61, 62, 63, 64, 65, 66, 67, 68, 69, 70, 71, 72, 73, 74, 75, 76, 77, 78, 79, 80, 81, 82, 83, 84, 85, 86, 87, 88, 89, 90, 91, 92, 93, 94, 95, 96, 97, 98, 99, 100, 101, 102, 103, 104, 105, 106, 107, 108, 109, 110, 111, 112, 113, 114, 115, 116, 117, 118, 119, 120, 121, 122, 123, 124, 125, 137, 138, 139, 140, 141, 154, 155, 156, 157, 158, 159, 160, 161, 162] rfl (by decide +kernel)
set_option maxRecDepth 100000 in
theorem gX5_readPerson_X5_readNumber : GoodIn wsX5_readPerson (wsV RX5 122 RX5 yX5_readNumber wsX5_readNumber) := goodIn_app (goodIn_of _ (by decide +kernel)) ggX5_readPerson_X5_readNumber
theorem dX5_readPerson_0 : decode cX5_readPerson 0 = .ok (.aload_n 0, 1) := by decide +kernel
theorem dX5_readPerson_1 : decode cX5_readPerson 1 = .ok (.getfield 12, 3) := by decide +kernel
theorem dX5_readPerson_4 : decode cX5_readPerson 4 = .ok (.getfield 139, 3) := by decide +kernel
theorem dX5_readPerson_7 : decode cX5_readPerson 7 = .ok (.bipush 7, 2) := by decide +kernel
theorem dX5_readPerson_9 : decode cX5_readPerson 9 = .ok (.if_icmp .lt 12, 3) := by decide +kernel
theorem dX5_readPerson_12 : decode cX5_readPerson 12 = .ok (.aload_n 0, 1) := by decide +kernel
theorem dX5_readPerson_13 : decode cX5_readPerson 13 = .ok (.getfield 34, 3) := by decide +kernel
theorem dX5_readPerson_16 : decode cX5_readPerson 16 = .ok (.iconst 2, 1) := by decide +kernel
theorem dX5_readPerson_17 : decode cX5_readPerson 17 = .ok (.invokevirtual 109, 3) := by decide +kernel
theorem dX5_readPerson_20 : decode cX5_readPerson 20 = .ok (.return_, 1) := by decide +kernel
theorem dX5_readPerson_21 : decode cX5_readPerson 21 = .ok (.aload_n 0, 1) := by decide +kernel
theorem dX5_readPerson_22 : decode cX5_readPerson 22 = .ok (.getfield 34, 3) := by decide +kernel
theorem dX5_readPerson_25 : decode cX5_readPerson 25 = .ok (.invokevirtual 116, 3) := by decide +kernel
theorem dX5_readPerson_28 : decode cX5_readPerson 28 = .ok (.aload_n 0, 1) := by decide +kernel
theorem dX5_readPerson_29 : decode cX5_readPerson 29 = .ok (.getfield 12, 3) := by decide +kernel
theorem dX5_readPerson_32 : decode cX5_readPerson 32 = .ok (.getfield 142, 3) := by decide +kernel
theorem dX5_readPerson_35 : decode cX5_readPerson 35 = .ok (.aload_n 0, 1) := by decide +kernel
theorem dX5_readPerson_36 : decode cX5_readPerson 36 = .ok (.getfield 12, 3) := by decide +kernel
theorem dX5_readPerson_39 : decode cX5_readPerson 39 = .ok (.getfield 139, 3) := by decide +kernel
theorem dX5_readPerson_42 : decode cX5_readPerson 42 = .ok (.aload_n 0, 1) := by decide +kernel
theorem dX5_readPerson_43 : decode cX5_readPerson 43 = .ok (.bipush 9, 2) := by decide +kernel
theorem dX5_readPerson_45 : decode cX5_readPerson 45 = .ok (.invokevirtual 122, 3) := by decide +kernel
theorem dX5_readPerson_48 : decode cX5_readPerson 48 = .ok (.iastore, 1) := by decide +kernel
theorem dX5_readPerson_49 : decode cX5_readPerson 49 = .ok (.aload_n 0, 1) := by decide +kernel
theorem dX5_readPerson_50 : decode cX5_readPerson 50 = .ok (.getfield 12, 3) := by decide +kernel
theorem dX5_readPerson_53 : decode cX5_readPerson 53 = .ok (.getfield 145, 3) := by decide +kernel
theorem dX5_readPerson_56 : decode cX5_readPerson 56 = .ok (.aload_n 0, 1) := by decide +kernel
theorem dX5_readPerson_57 : decode cX5_readPerson 57 = .ok (.getfield 12, 3) := by decide +kernel
theorem dX5_readPerson_60 : decode cX5_readPerson 60 = .ok (.getfield 139, 3) := by decide +kernel
theorem dX5_readPerson_63 : decode cX5_readPerson 63 = .ok (.aload_n 0, 1) := by decide +kernel
theorem dX5_readPerson_64 : decode cX5_readPerson 64 = .ok (.bipush 9, 2) := by decide +kernel
theorem dX5_readPerson_66 : decode cX5_readPerson 66 = .ok (.invokevirtual 122, 3) := by decide +kernel
theorem dX5_readPerson_69 : decode cX5_readPerson 69 = .ok (.iastore, 1) := by decide +kernel
theorem dX5_readPerson_70 : decode cX5_readPerson 70 = .ok (.aload_n 0, 1) := by decide +kernel
theorem dX5_readPerson_71 : decode cX5_readPerson 71 = .ok (.getfield 12, 3) := by decide +kernel
theorem dX5_readPerson_74 : decode cX5_readPerson 74 = .ok (.dup, 1) := by decide +kernel
theorem dX5_readPerson_75 : decode cX5_readPerson 75 = .ok (.getfield 139, 3) := by decide +kernel
theorem dX5_readPerson_78 : decode cX5_readPerson 78 = .ok (.iconst 1, 1) := by decide +kernel
theorem dX5_readPerson_79 : decode cX5_readPerson 79 = .ok (.iadd, 1) := by decide +kernel
theorem dX5_readPerson_80 : decode cX5_readPerson 80 = .ok (.putfield 139, 3) := by decide +kernel
theorem dX5_readPerson_83 : decode cX5_readPerson 83 = .ok (.return_, 1) := by decide +kernel
set_option maxRecDepth 100000 in
theorem ggX5_readHas_X8_next : GoodIn wsX5_readHas wsX8_next := goodIn_r _ [8, 9, 10, 11, 12, 13, 14, 15, 6, 16, 17, 18, 19, 20, 21, 22, 23, 24, 25, 26, 27, 28, 29, 30, 31, 32, 33, 34, 35, 36, 37, 38, 39, 40, 41, 42, 43, 44, 45, 46, 47, 48, 49, 50, 51, 52, 53, 54, 55, 56, 57, 58, 59, 60, 61, 62, 63, 64, 65, 66, 67, 68, 69, 70, 71, 72, 73, 74, 75, 76, 77, 78, 79, 80, 81, 82, 83, 84, 85, 86, 87, 88, 89, 90, 91, 92, 93, 94, 95, 96, 97, 98, 99, 100, 101, 102, 103, 104, 105, 106, 107, 108, 109, 110, 111, 112, 113, 114, 115, 116, 117, 118, 119, 120, 121, 122, 168, 169, 170, 171, 172, 173, 174, 175, 176] rfl (by decide +kernel)
set_option maxRecDepth 100000 in
theorem gX5_readHas_X8_next_n116 : GoodIn wsX5_readHas (wsX8_next) := ggX5_readHas_X8_next
set_option maxRecDepth 100000 in
theorem ggX5_readHas_X5_lookAtTold : GoodIn wsX5_readHas wsX5_lookAtTold := goodIn_r _ [127, 1, 128, 6, 129, 130, 9, 131, 132, 133, 134, 13, 135, 136, 137, 138, 10, 151, 152, 153, 154, 155, 168, 169, 170, 171, 172, 173, 174, 175, 176] rfl (by decide +kernel)
set_option maxRecDepth 100000 in
theorem gX5_readHas_X5_lookAtTold : GoodIn wsX5_readHas (wsV RX5 148 RX5 yX5_lookAtTold wsX5_lookAtTold) := goodIn_app (goodIn_of _ (by decide +kernel)) ggX5_readHas_X5_lookAtTold
set_option maxRecDepth 100000 in
theorem ggX5_readHas_X8_fail : GoodIn wsX5_readHas wsX8_fail := goodIn_r _ [133, 134, 13, 135, 9, 168, 169, 170, 171, 172, 173, 174, 175, 176] rfl (by decide +kernel)
set_option maxRecDepth 100000 in
theorem gX5_readHas_X8_fail_n109 : GoodIn wsX5_readHas (wsX8_fail) := ggX5_readHas_X8_fail
set_option maxRecDepth 100000 in
theorem ggX5_readHas_X5_readNumber : GoodIn wsX5_readHas wsX5_readNumber := goodIn_r _ [142, 1, 128, 6, 129, 130, 9, 131, 132, 133, 134, 13, 135, 136, 137, 138, 10, 5, 7, 8, 11, 12, 14, 15, 16, 17, 18, 19, 20, 21, 22, 23, 24, 25, 26, 27, 28, 29, 30, 31, 32, 33, 34, 35, 36, 37, 38, 39, 40, 41, 42, 43, 44, 45, 46, 47, 48, 49, 50, 51, 52, 53, 54, 55, 56, 57, 58, 59, 60, 61, 62, 63, 64, 65, 66, 67, 68, 69, 70, 71, 72, 73, 74, 75, 76, 77, 78, 79, 80, 81, 82, 83, 84, 85, 86, 87, 88, 89, 90, 91, 92, 93, 94, 95, 96, 97, 98, 99, 100, 101, 102, 103, 104, 105, 106, 107, 108, 109, 110, 111, 112, 113, 114, 115, 116, 117, 118, 119, 120, 121, 122, 151, 152, 153, 154, 155, 168, 169, 170, 171, 172, 173, 174, 175, 176] rfl (by decide +kernel)
set_option maxRecDepth 100000 in
theorem gX5_readHas_X5_readNumber : GoodIn wsX5_readHas (wsV RX5 122 RX5 yX5_readNumber wsX5_readNumber) := goodIn_app (goodIn_of _ (by decide +kernel)) ggX5_readHas_X5_readNumber
set_option maxRecDepth 100000 in
theorem ggX5_readHas_X11_withNote : GoodIn wsX5_readHas wsX11_withNote := goodIn_r _ [145] rfl (by decide +kernel)
set_option maxRecDepth 100000 in
theorem gX5_readHas_X11_withNote_n126 : GoodIn wsX5_readHas (wsX11_withNote) := ggX5_readHas_X11_withNote
set_option maxRecDepth 100000 in
theorem ggX5_readHas_X7_setNotes : GoodIn wsX5_readHas wsX7_setNotes := goodIn_r _ [149, 150, 177] rfl (by decide +kernel)
set_option maxRecDepth 100000 in
theorem gX5_readHas_X7_setNotes_n151 : GoodIn wsX5_readHas (wsX7_setNotes) := ggX5_readHas_X7_setNotes
theorem dX5_readHas_0 : decode cX5_readHas 0 = .ok (.aload_n 0, 1) := by decide +kernel
theorem dX5_readHas_1 : decode cX5_readHas 1 = .ok (.getfield 34, 3) := by decide +kernel
theorem dX5_readHas_4 : decode cX5_readHas 4 = .ok (.invokevirtual 116, 3) := by decide +kernel
theorem dX5_readHas_7 : decode cX5_readHas 7 = .ok (.aload_n 0, 1) := by decide +kernel
theorem dX5_readHas_8 : decode cX5_readHas 8 = .ok (.aload_n 0, 1) := by decide +kernel
theorem dX5_readHas_9 : decode cX5_readHas 9 = .ok (.getfield 12, 3) := by decide +kernel
theorem dX5_readHas_12 : decode cX5_readHas 12 = .ok (.getfield 139, 3) := by decide +kernel
theorem dX5_readHas_15 : decode cX5_readHas 15 = .ok (.invokevirtual 148, 3) := by decide +kernel
theorem dX5_readHas_18 : decode cX5_readHas 18 = .ok (.istore_n 1, 1) := by decide +kernel
theorem dX5_readHas_19 : decode cX5_readHas 19 = .ok (.aload_n 0, 1) := by decide +kernel
theorem dX5_readHas_20 : decode cX5_readHas 20 = .ok (.getfield 34, 3) := by decide +kernel
theorem dX5_readHas_23 : decode cX5_readHas 23 = .ok (.invokevirtual 116, 3) := by decide +kernel
theorem dX5_readHas_26 : decode cX5_readHas 26 = .ok (.aload_n 0, 1) := by decide +kernel
theorem dX5_readHas_27 : decode cX5_readHas 27 = .ok (.aload_n 0, 1) := by decide +kernel
theorem dX5_readHas_28 : decode cX5_readHas 28 = .ok (.getfield 12, 3) := by decide +kernel
theorem dX5_readHas_31 : decode cX5_readHas 31 = .ok (.getfield 119, 3) := by decide +kernel
theorem dX5_readHas_34 : decode cX5_readHas 34 = .ok (.invokevirtual 148, 3) := by decide +kernel
theorem dX5_readHas_37 : decode cX5_readHas 37 = .ok (.istore_n 2, 1) := by decide +kernel
theorem dX5_readHas_38 : decode cX5_readHas 38 = .ok (.aload_n 0, 1) := by decide +kernel
theorem dX5_readHas_39 : decode cX5_readHas 39 = .ok (.getfield 25, 3) := by decide +kernel
theorem dX5_readHas_42 : decode cX5_readHas 42 = .ok (.iload_n 1, 1) := by decide +kernel
theorem dX5_readHas_43 : decode cX5_readHas 43 = .ok (.iaload, 1) := by decide +kernel
theorem dX5_readHas_44 : decode cX5_readHas 44 = .ok (.iload_n 2, 1) := by decide +kernel
theorem dX5_readHas_45 : decode cX5_readHas 45 = .ok (.ishr, 1) := by decide +kernel
theorem dX5_readHas_46 : decode cX5_readHas 46 = .ok (.iconst 1, 1) := by decide +kernel
theorem dX5_readHas_47 : decode cX5_readHas 47 = .ok (.iand, 1) := by decide +kernel
theorem dX5_readHas_48 : decode cX5_readHas 48 = .ok (.iconst 1, 1) := by decide +kernel
theorem dX5_readHas_49 : decode cX5_readHas 49 = .ok (.if_icmp .ne 11, 3) := by decide +kernel
theorem dX5_readHas_52 : decode cX5_readHas 52 = .ok (.aload_n 0, 1) := by decide +kernel
theorem dX5_readHas_53 : decode cX5_readHas 53 = .ok (.getfield 34, 3) := by decide +kernel
theorem dX5_readHas_56 : decode cX5_readHas 56 = .ok (.iconst 4, 1) := by decide +kernel
theorem dX5_readHas_57 : decode cX5_readHas 57 = .ok (.invokevirtual 109, 3) := by decide +kernel
theorem dX5_readHas_60 : decode cX5_readHas 60 = .ok (.aload_n 0, 1) := by decide +kernel
theorem dX5_readHas_61 : decode cX5_readHas 61 = .ok (.getfield 34, 3) := by decide +kernel
theorem dX5_readHas_64 : decode cX5_readHas 64 = .ok (.invokevirtual 116, 3) := by decide +kernel
theorem dX5_readHas_67 : decode cX5_readHas 67 = .ok (.aload_n 0, 1) := by decide +kernel
theorem dX5_readHas_68 : decode cX5_readHas 68 = .ok (.sipush 255, 3) := by decide +kernel
theorem dX5_readHas_71 : decode cX5_readHas 71 = .ok (.invokevirtual 122, 3) := by decide +kernel
theorem dX5_readHas_74 : decode cX5_readHas 74 = .ok (.istore_n 3, 1) := by decide +kernel
theorem dX5_readHas_75 : decode cX5_readHas 75 = .ok (.aload_n 0, 1) := by decide +kernel
theorem dX5_readHas_76 : decode cX5_readHas 76 = .ok (.getfield 25, 3) := by decide +kernel
theorem dX5_readHas_79 : decode cX5_readHas 79 = .ok (.iload_n 1, 1) := by decide +kernel
theorem dX5_readHas_80 : decode cX5_readHas 80 = .ok (.dup2, 1) := by decide +kernel
theorem dX5_readHas_81 : decode cX5_readHas 81 = .ok (.iaload, 1) := by decide +kernel
theorem dX5_readHas_82 : decode cX5_readHas 82 = .ok (.iconst 1, 1) := by decide +kernel
theorem dX5_readHas_83 : decode cX5_readHas 83 = .ok (.iload_n 2, 1) := by decide +kernel
theorem dX5_readHas_84 : decode cX5_readHas 84 = .ok (.ishl, 1) := by decide +kernel
theorem dX5_readHas_85 : decode cX5_readHas 85 = .ok (.ior, 1) := by decide +kernel
theorem dX5_readHas_86 : decode cX5_readHas 86 = .ok (.iastore, 1) := by decide +kernel
theorem dX5_readHas_87 : decode cX5_readHas 87 = .ok (.aload_n 0, 1) := by decide +kernel
theorem dX5_readHas_88 : decode cX5_readHas 88 = .ok (.getfield 12, 3) := by decide +kernel
theorem dX5_readHas_91 : decode cX5_readHas 91 = .ok (.getfield 136, 3) := by decide +kernel
theorem dX5_readHas_94 : decode cX5_readHas 94 = .ok (.iload_n 2, 1) := by decide +kernel
theorem dX5_readHas_95 : decode cX5_readHas 95 = .ok (.iaload, 1) := by decide +kernel
theorem dX5_readHas_96 : decode cX5_readHas 96 = .ok (.istore 4, 2) := by decide +kernel
theorem dX5_readHas_98 : decode cX5_readHas 98 = .ok (.iconst 0, 1) := by decide +kernel
theorem dX5_readHas_99 : decode cX5_readHas 99 = .ok (.istore 5, 2) := by decide +kernel
theorem dX5_readHas_101 : decode cX5_readHas 101 = .ok (.iload 5, 2) := by decide +kernel
theorem dX5_readHas_103 : decode cX5_readHas 103 = .ok (.bipush 8, 2) := by decide +kernel
theorem dX5_readHas_105 : decode cX5_readHas 105 = .ok (.if_icmp .ge 29, 3) := by decide +kernel
theorem dX5_readHas_108 : decode cX5_readHas 108 = .ok (.iload_n 3, 1) := by decide +kernel
theorem dX5_readHas_109 : decode cX5_readHas 109 = .ok (.iload 5, 2) := by decide +kernel
theorem dX5_readHas_111 : decode cX5_readHas 111 = .ok (.ishr, 1) := by decide +kernel
theorem dX5_readHas_112 : decode cX5_readHas 112 = .ok (.iconst 1, 1) := by decide +kernel
theorem dX5_readHas_113 : decode cX5_readHas 113 = .ok (.iand, 1) := by decide +kernel
theorem dX5_readHas_114 : decode cX5_readHas 114 = .ok (.iconst 1, 1) := by decide +kernel
theorem dX5_readHas_115 : decode cX5_readHas 115 = .ok (.if_icmp .ne 13, 3) := by decide +kernel
theorem dX5_readHas_118 : decode cX5_readHas 118 = .ok (.iload 4, 2) := by decide +kernel
theorem dX5_readHas_120 : decode cX5_readHas 120 = .ok (.iload 5, 2) := by decide +kernel
theorem dX5_readHas_122 : decode cX5_readHas 122 = .ok (.iconst (-1), 1) := by decide +kernel
theorem dX5_readHas_123 : decode cX5_readHas 123 = .ok (.invokestatic 126, 3) := by decide +kernel
theorem dX5_readHas_126 : decode cX5_readHas 126 = .ok (.istore 4, 2) := by decide +kernel
theorem dX5_readHas_128 : decode cX5_readHas 128 = .ok (.iinc 5 1, 3) := by decide +kernel
theorem dX5_readHas_131 : decode cX5_readHas 131 = .ok (.goto (-30), 3) := by decide +kernel
theorem dX5_readHas_134 : decode cX5_readHas 134 = .ok (.aload_n 0, 1) := by decide +kernel
theorem dX5_readHas_135 : decode cX5_readHas 135 = .ok (.getfield 21, 3) := by decide +kernel
theorem dX5_readHas_138 : decode cX5_readHas 138 = .ok (.iload_n 1, 1) := by decide +kernel
theorem dX5_readHas_139 : decode cX5_readHas 139 = .ok (.iload_n 2, 1) := by decide +kernel
theorem dX5_readHas_140 : decode cX5_readHas 140 = .ok (.iload 4, 2) := by decide +kernel
theorem dX5_readHas_142 : decode cX5_readHas 142 = .ok (.invokevirtual 151, 3) := by decide +kernel
theorem dX5_readHas_145 : decode cX5_readHas 145 = .ok (.return_, 1) := by decide +kernel
set_option maxRecDepth 100000 in
theorem ggX5_readSeeks_X8_next : GoodIn wsX5_readSeeks wsX8_next := goodIn_r _ [7, 8, 9, 10, 11, 12, 13, 14, 5, 15, 16, 17, 18, 19, 20, 21, 22, 23, 24, 25, 26, 27, 28, 29, 30, 31, 32, 33, 34, 35, 36, 37, 38, 39, 40, 41, 42, 43, 44, 45, 46, 47, 48, 49, 50, 51, 52, 53, 54, 55, 56, 57, 58, 59, 60, 61, 62, 63, 64, 65, 66, 67, 68, 69, 70, 71, 72, 73, 74, 75, 76, 77, 78, 79, 80, 81, 82, 83, 84, 85, 86, 87, 88, 89, 90, 91, 92, 93, 94, 95, 96, 97, 98, 99, 100, 101, 102, 103, 104, 105, 106, 107, 108, 109, 110, 111, 112, 113, 114, 115, 116, 117, 118, 119, 120, 121, 163, 164, 165, 166, 167, 168, 169, 170, 171] rfl (by decide +kernel)
set_option maxRecDepth 100000 in
theorem gX5_readSeeks_X8_next_n116 : GoodIn wsX5_readSeeks (wsX8_next) := ggX5_readSeeks_X8_next
set_option maxRecDepth 100000 in
theorem ggX5_readSeeks_X5_lookAtTold : GoodIn wsX5_readSeeks wsX5_lookAtTold := goodIn_r _ [126, 1, 127, 5, 128, 129, 8, 130, 131, 132, 133, 12, 134, 135, 136, 137, 9, 146, 147, 148, 149, 150, 163, 164, 165, 166, 167, 168, 169, 170, 171] rfl (by decide +kernel)
set_option maxRecDepth 100000 in
theorem gX5_readSeeks_X5_lookAtTold : GoodIn wsX5_readSeeks (wsV RX5 148 RX5 yX5_lookAtTold wsX5_lookAtTold) := goodIn_app (goodIn_of _ (by decide +kernel)) ggX5_readSeeks_X5_lookAtTold
set_option maxRecDepth 100000 in
theorem ggX5_readSeeks_X7_seeks : GoodIn wsX5_readSeeks wsX7_seeks := goodIn_r _ [141, 142, 172] rfl (by decide +kernel)
set_option maxRecDepth 100000 in
theorem gX5_readSeeks_X7_seeks_n155 : GoodIn wsX5_readSeeks (wsX7_seeks) := ggX5_readSeeks_X7_seeks
set_option maxRecDepth 100000 in
theorem ggX5_readSeeks_X8_fail : GoodIn wsX5_readSeeks wsX8_fail := goodIn_r _ [132, 133, 12, 134, 8, 163, 164, 165, 166, 167, 168, 169, 170, 171] rfl (by decide +kernel)
set_option maxRecDepth 100000 in
theorem gX5_readSeeks_X8_fail_n109 : GoodIn wsX5_readSeeks (wsX8_fail) := ggX5_readSeeks_X8_fail
set_option maxRecDepth 100000 in
theorem ggX5_readSeeks_X7_setSought : GoodIn wsX5_readSeeks wsX7_setSought := goodIn_r _ [145, 142, 172] rfl (by decide +kernel)
set_option maxRecDepth 100000 in
theorem gX5_readSeeks_X7_setSought_n158 : GoodIn wsX5_readSeeks (wsX7_setSought) := ggX5_readSeeks_X7_setSought
theorem dX5_readSeeks_0 : decode cX5_readSeeks 0 = .ok (.aload_n 0, 1) := by decide +kernel
theorem dX5_readSeeks_1 : decode cX5_readSeeks 1 = .ok (.getfield 34, 3) := by decide +kernel
theorem dX5_readSeeks_4 : decode cX5_readSeeks 4 = .ok (.invokevirtual 116, 3) := by decide +kernel
theorem dX5_readSeeks_7 : decode cX5_readSeeks 7 = .ok (.aload_n 0, 1) := by decide +kernel
theorem dX5_readSeeks_8 : decode cX5_readSeeks 8 = .ok (.aload_n 0, 1) := by decide +kernel
theorem dX5_readSeeks_9 : decode cX5_readSeeks 9 = .ok (.getfield 12, 3) := by decide +kernel
theorem dX5_readSeeks_12 : decode cX5_readSeeks 12 = .ok (.getfield 139, 3) := by decide +kernel
theorem dX5_readSeeks_15 : decode cX5_readSeeks 15 = .ok (.invokevirtual 148, 3) := by decide +kernel
theorem dX5_readSeeks_18 : decode cX5_readSeeks 18 = .ok (.istore_n 1, 1) := by decide +kernel
theorem dX5_readSeeks_19 : decode cX5_readSeeks 19 = .ok (.aload_n 0, 1) := by decide +kernel
theorem dX5_readSeeks_20 : decode cX5_readSeeks 20 = .ok (.getfield 21, 3) := by decide +kernel
theorem dX5_readSeeks_23 : decode cX5_readSeeks 23 = .ok (.iload_n 1, 1) := by decide +kernel
theorem dX5_readSeeks_24 : decode cX5_readSeeks 24 = .ok (.invokevirtual 155, 3) := by decide +kernel
theorem dX5_readSeeks_27 : decode cX5_readSeeks 27 = .ok (.ifCond .eq 11, 3) := by decide +kernel
theorem dX5_readSeeks_30 : decode cX5_readSeeks 30 = .ok (.aload_n 0, 1) := by decide +kernel
theorem dX5_readSeeks_31 : decode cX5_readSeeks 31 = .ok (.getfield 34, 3) := by decide +kernel
theorem dX5_readSeeks_34 : decode cX5_readSeeks 34 = .ok (.iconst 4, 1) := by decide +kernel
theorem dX5_readSeeks_35 : decode cX5_readSeeks 35 = .ok (.invokevirtual 109, 3) := by decide +kernel
theorem dX5_readSeeks_38 : decode cX5_readSeeks 38 = .ok (.aload_n 0, 1) := by decide +kernel
theorem dX5_readSeeks_39 : decode cX5_readSeeks 39 = .ok (.getfield 34, 3) := by decide +kernel
theorem dX5_readSeeks_42 : decode cX5_readSeeks 42 = .ok (.invokevirtual 116, 3) := by decide +kernel
theorem dX5_readSeeks_45 : decode cX5_readSeeks 45 = .ok (.aload_n 0, 1) := by decide +kernel
theorem dX5_readSeeks_46 : decode cX5_readSeeks 46 = .ok (.aload_n 0, 1) := by decide +kernel
theorem dX5_readSeeks_47 : decode cX5_readSeeks 47 = .ok (.getfield 12, 3) := by decide +kernel
theorem dX5_readSeeks_50 : decode cX5_readSeeks 50 = .ok (.getfield 119, 3) := by decide +kernel
theorem dX5_readSeeks_53 : decode cX5_readSeeks 53 = .ok (.invokevirtual 148, 3) := by decide +kernel
theorem dX5_readSeeks_56 : decode cX5_readSeeks 56 = .ok (.istore_n 2, 1) := by decide +kernel
theorem dX5_readSeeks_57 : decode cX5_readSeeks 57 = .ok (.aload_n 0, 1) := by decide +kernel
theorem dX5_readSeeks_58 : decode cX5_readSeeks 58 = .ok (.getfield 34, 3) := by decide +kernel
theorem dX5_readSeeks_61 : decode cX5_readSeeks 61 = .ok (.invokevirtual 116, 3) := by decide +kernel
theorem dX5_readSeeks_64 : decode cX5_readSeeks 64 = .ok (.aload_n 0, 1) := by decide +kernel
theorem dX5_readSeeks_65 : decode cX5_readSeeks 65 = .ok (.aload_n 0, 1) := by decide +kernel
theorem dX5_readSeeks_66 : decode cX5_readSeeks 66 = .ok (.getfield 12, 3) := by decide +kernel
theorem dX5_readSeeks_69 : decode cX5_readSeeks 69 = .ok (.getfield 139, 3) := by decide +kernel
theorem dX5_readSeeks_72 : decode cX5_readSeeks 72 = .ok (.invokevirtual 148, 3) := by decide +kernel
theorem dX5_readSeeks_75 : decode cX5_readSeeks 75 = .ok (.istore_n 3, 1) := by decide +kernel
theorem dX5_readSeeks_76 : decode cX5_readSeeks 76 = .ok (.iload_n 3, 1) := by decide +kernel
theorem dX5_readSeeks_77 : decode cX5_readSeeks 77 = .ok (.iload_n 1, 1) := by decide +kernel
theorem dX5_readSeeks_78 : decode cX5_readSeeks 78 = .ok (.if_icmp .ne 11, 3) := by decide +kernel
theorem dX5_readSeeks_81 : decode cX5_readSeeks 81 = .ok (.aload_n 0, 1) := by decide +kernel
theorem dX5_readSeeks_82 : decode cX5_readSeeks 82 = .ok (.getfield 34, 3) := by decide +kernel
theorem dX5_readSeeks_85 : decode cX5_readSeeks 85 = .ok (.iconst 4, 1) := by decide +kernel
theorem dX5_readSeeks_86 : decode cX5_readSeeks 86 = .ok (.invokevirtual 109, 3) := by decide +kernel
theorem dX5_readSeeks_89 : decode cX5_readSeeks 89 = .ok (.aload_n 0, 1) := by decide +kernel
theorem dX5_readSeeks_90 : decode cX5_readSeeks 90 = .ok (.getfield 34, 3) := by decide +kernel
theorem dX5_readSeeks_93 : decode cX5_readSeeks 93 = .ok (.invokevirtual 116, 3) := by decide +kernel
theorem dX5_readSeeks_96 : decode cX5_readSeeks 96 = .ok (.aload_n 0, 1) := by decide +kernel
theorem dX5_readSeeks_97 : decode cX5_readSeeks 97 = .ok (.getfield 21, 3) := by decide +kernel
theorem dX5_readSeeks_100 : decode cX5_readSeeks 100 = .ok (.iload_n 1, 1) := by decide +kernel
theorem dX5_readSeeks_101 : decode cX5_readSeeks 101 = .ok (.iload_n 2, 1) := by decide +kernel
theorem dX5_readSeeks_102 : decode cX5_readSeeks 102 = .ok (.iload_n 3, 1) := by decide +kernel
theorem dX5_readSeeks_103 : decode cX5_readSeeks 103 = .ok (.invokevirtual 158, 3) := by decide +kernel
theorem dX5_readSeeks_106 : decode cX5_readSeeks 106 = .ok (.return_, 1) := by decide +kernel
set_option maxRecDepth 100000 in
theorem ggX5_readForgets_X8_fail : GoodIn wsX5_readForgets wsX8_fail := goodIn_r _ [7, 8, 9, 10, 11, 237, 238, 239, 240, 241, 242, 243, 244, 245] rfl (by decide +kernel)
set_option maxRecDepth 100000 in
theorem gX5_readForgets_X8_fail_n109 : GoodIn wsX5_readForgets (wsX8_fail) := ggX5_readForgets_X8_fail
set_option maxRecDepth 100000 in
theorem ggX5_readForgets_X8_next : GoodIn wsX5_readForgets wsX8_next := goodIn_r _ [14, 11, 15, 16, 17, 9, 18, 19, 5, 20, 21, 22, 23, 24, 25, 26, 27, 28, 29, 30, 31, 32, 33, 34, 35, 36, 37, 38, 39, 40, 41, 42, 43, 44, 45, 46, 47, 48, 49, 50, 51, 52, 53, 54, 55, 56, 57, 58, 59, 60, 61, 62, 63, 64, 65, 66, 67, 68, 69, 70, 71, 72, 73, 74, 75, 76, 77, 78, 79, 80, 81, 82, 83, 84, 85, 86, 87, 88, 89, 90, 91, 92, 93, 94, 95, 96, 97, 98, 99, 100, 101, 102, 103, 104, 105, 106, 107, 108, 109, 110, 111, 112, 113, 114, 115, 116, 117, 118, 119, 120, 121, 122, 123, 124, 125, 126, 237, 238, 239, 240, 241, 242, 243, 244, 245] rfl (by decide +kernel)
set_option maxRecDepth 100000 in
theorem gX5_readForgets_X8_next_n116 : GoodIn wsX5_readForgets (wsX8_next) := ggX5_readForgets_X8_next
set_option maxRecDepth 100000 in
theorem ggX5_readForgets_X2_readExpr : GoodIn wsX5_readForgets wsX2_readExpr := goodIn_r _ [130, 131, 132, 133, 5, 134, 135, 11, 136, 137, 138, 37, 4, 6, 7, 8, 9, 10, 139, 140, 141, 128, 142, 143, 144, 15, 17, 145, 55, 56, 41, 57, 47, 58, 59, 60, 61, 52, 53, 146, 147, 148, 149, 48, 49, 50, 51, 150, 151, 64, 152, 153, 154, 155, 98, 156, 157, 101, 158, 159, 160, 81, 161, 162, 163, 164, 92, 93, 94, 165, 106, 107, 108, 109, 110, 111, 12, 13, 14, 16, 18, 19, 20, 21, 22, 23, 24, 25, 26, 27, 28, 29, 30, 31, 32, 33, 34, 35, 36, 38, 39, 40, 42, 43, 44, 45, 46, 54, 62, 63, 65, 66, 67, 68, 69, 70, 71, 72, 73, 74, 75, 76, 77, 78, 79, 80, 82, 83, 84, 85, 86, 87, 88, 89, 90, 91, 95, 96, 97, 99, 100, 102, 103, 104, 105, 112, 113, 114, 115, 116, 117, 118, 119, 120, 121, 122, 123, 124, 125, 126, 166, 167, 168, 169, 170, 171, 172, 173, 174, 175, 176, 177, 178, 179, 180, 181, 182, 183, 184, 185, 186, 187, 188, 189, 190, 191, 192, 193, 194, 195, 196, 197, 198, 199, 200, 201, 202, 203, 204, 127, 129, 205, 206, 207, 208, 209, 210, 211, 212, 213, 214, 215, 216, 234, 235, 236, 237, 238, 239, 240, 241, 242, 243, 244, 245, 222, 223, 224, 225, 226, 227, 228, 229, 230, 231, 232, 233] rfl (by decide +kernel)
set_option maxRecDepth 100000 in
theorem gX5_readForgets_X2_readExpr_n171 : GoodIn wsX5_readForgets (wsX2_readExpr) := ggX5_readForgets_X2_readExpr
theorem dX5_readForgets_0 : decode cX5_readForgets 0 = .ok (.aload_n 0, 1) := by decide +kernel
theorem dX5_readForgets_1 : decode cX5_readForgets 1 = .ok (.getfield 12, 3) := by decide +kernel
theorem dX5_readForgets_4 : decode cX5_readForgets 4 = .ok (.getfield 161, 3) := by decide +kernel
theorem dX5_readForgets_7 : decode cX5_readForgets 7 = .ok (.iconst (-1), 1) := by decide +kernel
theorem dX5_readForgets_8 : decode cX5_readForgets 8 = .ok (.if_icmp .eq 12, 3) := by decide +kernel
theorem dX5_readForgets_11 : decode cX5_readForgets 11 = .ok (.aload_n 0, 1) := by decide +kernel
theorem dX5_readForgets_12 : decode cX5_readForgets 12 = .ok (.getfield 34, 3) := by decide +kernel
theorem dX5_readForgets_15 : decode cX5_readForgets 15 = .ok (.iconst 5, 1) := by decide +kernel
theorem dX5_readForgets_16 : decode cX5_readForgets 16 = .ok (.invokevirtual 109, 3) := by decide +kernel
theorem dX5_readForgets_19 : decode cX5_readForgets 19 = .ok (.return_, 1) := by decide +kernel
theorem dX5_readForgets_20 : decode cX5_readForgets 20 = .ok (.aload_n 0, 1) := by decide +kernel
theorem dX5_readForgets_21 : decode cX5_readForgets 21 = .ok (.getfield 34, 3) := by decide +kernel
theorem dX5_readForgets_24 : decode cX5_readForgets 24 = .ok (.invokevirtual 116, 3) := by decide +kernel
theorem dX5_readForgets_27 : decode cX5_readForgets 27 = .ok (.aload_n 0, 1) := by decide +kernel
theorem dX5_readForgets_28 : decode cX5_readForgets 28 = .ok (.getfield 12, 3) := by decide +kernel
theorem dX5_readForgets_31 : decode cX5_readForgets 31 = .ok (.aload_n 0, 1) := by decide +kernel
theorem dX5_readForgets_32 : decode cX5_readForgets 32 = .ok (.getfield 12, 3) := by decide +kernel
theorem dX5_readForgets_35 : decode cX5_readForgets 35 = .ok (.getfield 164, 3) := by decide +kernel
theorem dX5_readForgets_38 : decode cX5_readForgets 38 = .ok (.putfield 161, 3) := by decide +kernel
theorem dX5_readForgets_41 : decode cX5_readForgets 41 = .ok (.aload_n 0, 1) := by decide +kernel
theorem dX5_readForgets_42 : decode cX5_readForgets 42 = .ok (.getfield 43, 3) := by decide +kernel
theorem dX5_readForgets_45 : decode cX5_readForgets 45 = .ok (.iconst 1, 1) := by decide +kernel
theorem dX5_readForgets_46 : decode cX5_readForgets 46 = .ok (.putfield 167, 3) := by decide +kernel
theorem dX5_readForgets_49 : decode cX5_readForgets 49 = .ok (.aload_n 0, 1) := by decide +kernel
theorem dX5_readForgets_50 : decode cX5_readForgets 50 = .ok (.getfield 43, 3) := by decide +kernel
theorem dX5_readForgets_53 : decode cX5_readForgets 53 = .ok (.iconst 0, 1) := by decide +kernel
theorem dX5_readForgets_54 : decode cX5_readForgets 54 = .ok (.invokevirtual 171, 3) := by decide +kernel
theorem dX5_readForgets_57 : decode cX5_readForgets 57 = .ok (.aload_n 0, 1) := by decide +kernel
theorem dX5_readForgets_58 : decode cX5_readForgets 58 = .ok (.getfield 12, 3) := by decide +kernel
theorem dX5_readForgets_61 : decode cX5_readForgets 61 = .ok (.aload_n 0, 1) := by decide +kernel
theorem dX5_readForgets_62 : decode cX5_readForgets 62 = .ok (.getfield 12, 3) := by decide +kernel
theorem dX5_readForgets_65 : decode cX5_readForgets 65 = .ok (.getfield 164, 3) := by decide +kernel
theorem dX5_readForgets_68 : decode cX5_readForgets 68 = .ok (.putfield 174, 3) := by decide +kernel
theorem dX5_readForgets_71 : decode cX5_readForgets 71 = .ok (.return_, 1) := by decide +kernel
set_option maxRecDepth 100000 in
theorem ggX5_readFills_X8_fail : GoodIn wsX5_readFills wsX8_fail := goodIn_r _ [7, 8, 9, 10, 11, 237, 238, 239, 240, 241, 242, 243, 244, 245] rfl (by decide +kernel)
set_option maxRecDepth 100000 in
theorem gX5_readFills_X8_fail_n109 : GoodIn wsX5_readFills (wsX8_fail) := ggX5_readFills_X8_fail
set_option maxRecDepth 100000 in
theorem ggX5_readFills_X8_next : GoodIn wsX5_readFills wsX8_next := goodIn_r _ [14, 11, 15, 16, 17, 9, 18, 19, 5, 20, 21, 22, 23, 24, 25, 26, 27, 28, 29, 30, 31, 32, 33, 34, 35, 36, 37, 38, 39, 40, 41, 42, 43, 44, 45, 46, 47, 48, 49, 50, 51, 52, 53, 54, 55, 56, 57, 58, 59, 60, 61, 62, 63, 64, 65, 66, 67, 68, 69, 70, 71, 72, 73, 74, 75, 76, 77, 78, 79, 80, 81, 82, 83, 84, 85, 86, 87, 88, 89, 90, 91, 92, 93, 94, 95, 96, 97, 98, 99, 100, 101, 102, 103, 104, 105, 106, 107, 108, 109, 110, 111, 112, 113, 114, 115, 116, 117, 118, 119, 120, 121, 122, 123, 124, 125, 126, 237, 238, 239, 240, 241, 242, 243, 244, 245] rfl (by decide +kernel)
set_option maxRecDepth 100000 in
theorem gX5_readFills_X8_next_n116 : GoodIn wsX5_readFills (wsX8_next) := ggX5_readFills_X8_next
set_option maxRecDepth 100000 in
theorem ggX5_readFills_X2_readExpr : GoodIn wsX5_readFills wsX2_readExpr := goodIn_r _ [130, 131, 132, 133, 5, 134, 135, 11, 136, 137, 138, 37, 4, 6, 7, 8, 9, 10, 139, 140, 141, 128, 142, 143, 144, 15, 17, 145, 55, 56, 41, 57, 47, 58, 59, 60, 61, 52, 53, 146, 147, 148, 149, 48, 49, 50, 51, 150, 151, 64, 152, 153, 154, 155, 98, 156, 157, 101, 158, 159, 160, 81, 161, 162, 163, 164, 92, 93, 94, 165, 106, 107, 108, 109, 110, 111, 12, 13, 14, 16, 18, 19, 20, 21, 22, 23, 24, 25, 26, 27, 28, 29, 30, 31, 32, 33, 34, 35, 36, 38, 39, 40, 42, 43, 44, 45, 46, 54, 62, 63, 65, 66, 67, 68, 69, 70, 71, 72, 73, 74, 75, 76, 77, 78, 79, 80, 82, 83, 84, 85, 86, 87, 88, 89, 90, 91, 95, 96, 97, 99, 100, 102, 103, 104, 105, 112, 113, 114, 115, 116, 117, 118, 119, 120, 121, 122, 123, 124, 125, 126, 166, 167, 168, 169, 170, 171, 172, 173, 174, 175, 176, 177, 178, 179, 180, 181, 182, 183, 184, 185, 186, 187, 188, 189, 190, 191, 192, 193, 194, 195, 196, 197, 198, 199, 200, 201, 202, 203, 204, 127, 129, 205, 206, 207, 208, 209, 210, 211, 212, 213, 214, 215, 216, 234, 235, 236, 237, 238, 239, 240, 241, 242, 243, 244, 245, 222, 223, 224, 225, 226, 227, 228, 229, 230, 231, 232, 233] rfl (by decide +kernel)
set_option maxRecDepth 100000 in
theorem gX5_readFills_X2_readExpr_n171 : GoodIn wsX5_readFills (wsX2_readExpr) := ggX5_readFills_X2_readExpr
theorem dX5_readFills_0 : decode cX5_readFills 0 = .ok (.aload_n 0, 1) := by decide +kernel
theorem dX5_readFills_1 : decode cX5_readFills 1 = .ok (.getfield 12, 3) := by decide +kernel
theorem dX5_readFills_4 : decode cX5_readFills 4 = .ok (.getfield 177, 3) := by decide +kernel
theorem dX5_readFills_7 : decode cX5_readFills 7 = .ok (.iconst (-1), 1) := by decide +kernel
theorem dX5_readFills_8 : decode cX5_readFills 8 = .ok (.if_icmp .eq 12, 3) := by decide +kernel
theorem dX5_readFills_11 : decode cX5_readFills 11 = .ok (.aload_n 0, 1) := by decide +kernel
theorem dX5_readFills_12 : decode cX5_readFills 12 = .ok (.getfield 34, 3) := by decide +kernel
theorem dX5_readFills_15 : decode cX5_readFills 15 = .ok (.iconst 5, 1) := by decide +kernel
theorem dX5_readFills_16 : decode cX5_readFills 16 = .ok (.invokevirtual 109, 3) := by decide +kernel
theorem dX5_readFills_19 : decode cX5_readFills 19 = .ok (.return_, 1) := by decide +kernel
theorem dX5_readFills_20 : decode cX5_readFills 20 = .ok (.aload_n 0, 1) := by decide +kernel
theorem dX5_readFills_21 : decode cX5_readFills 21 = .ok (.getfield 34, 3) := by decide +kernel
theorem dX5_readFills_24 : decode cX5_readFills 24 = .ok (.invokevirtual 116, 3) := by decide +kernel
theorem dX5_readFills_27 : decode cX5_readFills 27 = .ok (.aload_n 0, 1) := by decide +kernel
theorem dX5_readFills_28 : decode cX5_readFills 28 = .ok (.getfield 12, 3) := by decide +kernel
theorem dX5_readFills_31 : decode cX5_readFills 31 = .ok (.aload_n 0, 1) := by decide +kernel
theorem dX5_readFills_32 : decode cX5_readFills 32 = .ok (.getfield 12, 3) := by decide +kernel
theorem dX5_readFills_35 : decode cX5_readFills 35 = .ok (.getfield 164, 3) := by decide +kernel
theorem dX5_readFills_38 : decode cX5_readFills 38 = .ok (.putfield 177, 3) := by decide +kernel
theorem dX5_readFills_41 : decode cX5_readFills 41 = .ok (.aload_n 0, 1) := by decide +kernel
theorem dX5_readFills_42 : decode cX5_readFills 42 = .ok (.getfield 43, 3) := by decide +kernel
theorem dX5_readFills_45 : decode cX5_readFills 45 = .ok (.iconst 0, 1) := by decide +kernel
theorem dX5_readFills_46 : decode cX5_readFills 46 = .ok (.putfield 167, 3) := by decide +kernel
theorem dX5_readFills_49 : decode cX5_readFills 49 = .ok (.aload_n 0, 1) := by decide +kernel
theorem dX5_readFills_50 : decode cX5_readFills 50 = .ok (.getfield 43, 3) := by decide +kernel
theorem dX5_readFills_53 : decode cX5_readFills 53 = .ok (.iconst 0, 1) := by decide +kernel
theorem dX5_readFills_54 : decode cX5_readFills 54 = .ok (.invokevirtual 171, 3) := by decide +kernel
theorem dX5_readFills_57 : decode cX5_readFills 57 = .ok (.aload_n 0, 1) := by decide +kernel
theorem dX5_readFills_58 : decode cX5_readFills 58 = .ok (.getfield 12, 3) := by decide +kernel
theorem dX5_readFills_61 : decode cX5_readFills 61 = .ok (.aload_n 0, 1) := by decide +kernel
theorem dX5_readFills_62 : decode cX5_readFills 62 = .ok (.getfield 12, 3) := by decide +kernel
theorem dX5_readFills_65 : decode cX5_readFills 65 = .ok (.getfield 164, 3) := by decide +kernel
theorem dX5_readFills_68 : decode cX5_readFills 68 = .ok (.putfield 180, 3) := by decide +kernel
theorem dX5_readFills_71 : decode cX5_readFills 71 = .ok (.return_, 1) := by decide +kernel
set_option maxRecDepth 100000 in
theorem ggX5_readNumber_X8_isNumber : GoodIn wsX5_readNumber wsX8_isNumber := goodIn_r _ [5, 6, 136, 137, 138, 139, 140, 141, 142, 143, 144] rfl (by decide +kernel)
set_option maxRecDepth 100000 in
theorem gX5_readNumber_X8_isNumber_n130 : GoodIn wsX5_readNumber (wsX8_isNumber) := ggX5_readNumber_X8_isNumber
set_option maxRecDepth 100000 in
theorem ggX5_readNumber_X8_fail : GoodIn wsX5_readNumber wsX8_fail := goodIn_r _ [9, 10, 11, 12, 6, 136, 137, 138, 139, 140, 141, 142, 143, 144] rfl (by decide +kernel)
set_option maxRecDepth 100000 in
theorem gX5_readNumber_X8_fail_n109 : GoodIn wsX5_readNumber (wsX8_fail) := ggX5_readNumber_X8_fail
set_option maxRecDepth 100000 in
theorem ggX5_readNumber_X8_isTooLong : GoodIn wsX5_readNumber wsX8_isTooLong := goodIn_r _ [15, 16, 11, 136, 137, 138, 139, 140, 141, 142, 143, 144] rfl (by decide +kernel)
set_option maxRecDepth 100000 in
theorem gX5_readNumber_X8_isTooLong_n183 : GoodIn wsX5_readNumber (wsX8_isTooLong) := ggX5_readNumber_X8_isTooLong
set_option maxRecDepth 100000 in
theorem ggX5_readNumber_X8_next : GoodIn wsX5_readNumber wsX8_next := goodIn_r _ [19, 6, 16, 20, 21, 11, 22, 23, 3, 24, 25, 26, 27, 28, 29, 30, 31, 32, 33, 34, 35, 36, 37, 38, 39, 40, 41, 42, 43, 44, 45, 46, 47, 48, 49, 50, 51, 52, 53, 54, 55, 56, 57, 58, 59, 60, 61, 62, 63, 64, 65, 66, 67, 68, 69, 70, 71, 72, 73, 74, 75, 76, 77, 78, 79, 80, 81, 82, 83, 84, 85, 86, 87, 88, 89, 90, 91, 92, 93, 94, 95, 96, 97, 98, 99, 100, 101, 102, 103, 104, 105, 106, 107, 108, 109, 110, 111, 112, 113, 114, 115, 116, 117, 118, 119, 120, 121, 122, 123, 124, 125, 126, 127, 128, 129, 130, 136, 137, 138, 139, 140, 141, 142, 143, 144] rfl (by decide +kernel)
set_option maxRecDepth 100000 in
theorem gX5_readNumber_X8_next_n116 : GoodIn wsX5_readNumber (wsX8_next) := ggX5_readNumber_X8_next
theorem dX5_readNumber_0 : decode cX5_readNumber 0 = .ok (.aload_n 0, 1) := by decide +kernel
theorem dX5_readNumber_1 : decode cX5_readNumber 1 = .ok (.getfield 34, 3) := by decide +kernel
theorem dX5_readNumber_4 : decode cX5_readNumber 4 = .ok (.invokevirtual 130, 3) := by decide +kernel
theorem dX5_readNumber_7 : decode cX5_readNumber 7 = .ok (.ifCond .ne 13, 3) := by decide +kernel
theorem dX5_readNumber_10 : decode cX5_readNumber 10 = .ok (.aload_n 0, 1) := by decide +kernel
theorem dX5_readNumber_11 : decode cX5_readNumber 11 = .ok (.getfield 34, 3) := by decide +kernel
theorem dX5_readNumber_14 : decode cX5_readNumber 14 = .ok (.iconst 1, 1) := by decide +kernel
theorem dX5_readNumber_15 : decode cX5_readNumber 15 = .ok (.invokevirtual 109, 3) := by decide +kernel
theorem dX5_readNumber_18 : decode cX5_readNumber 18 = .ok (.iconst 0, 1) := by decide +kernel
theorem dX5_readNumber_19 : decode cX5_readNumber 19 = .ok (.ireturn, 1) := by decide +kernel
theorem dX5_readNumber_20 : decode cX5_readNumber 20 = .ok (.aload_n 0, 1) := by decide +kernel
theorem dX5_readNumber_21 : decode cX5_readNumber 21 = .ok (.getfield 34, 3) := by decide +kernel
theorem dX5_readNumber_24 : decode cX5_readNumber 24 = .ok (.invokevirtual 183, 3) := by decide +kernel
theorem dX5_readNumber_27 : decode cX5_readNumber 27 = .ok (.ifCond .ne 14, 3) := by decide +kernel
theorem dX5_readNumber_30 : decode cX5_readNumber 30 = .ok (.aload_n 0, 1) := by decide +kernel
theorem dX5_readNumber_31 : decode cX5_readNumber 31 = .ok (.getfield 34, 3) := by decide +kernel
theorem dX5_readNumber_34 : decode cX5_readNumber 34 = .ok (.getfield 186, 3) := by decide +kernel
theorem dX5_readNumber_37 : decode cX5_readNumber 37 = .ok (.iload_n 1, 1) := by decide +kernel
theorem dX5_readNumber_38 : decode cX5_readNumber 38 = .ok (.if_icmp .le 13, 3) := by decide +kernel
theorem dX5_readNumber_41 : decode cX5_readNumber 41 = .ok (.aload_n 0, 1) := by decide +kernel
theorem dX5_readNumber_42 : decode cX5_readNumber 42 = .ok (.getfield 34, 3) := by decide +kernel
theorem dX5_readNumber_45 : decode cX5_readNumber 45 = .ok (.iconst 2, 1) := by decide +kernel
theorem dX5_readNumber_46 : decode cX5_readNumber 46 = .ok (.invokevirtual 109, 3) := by decide +kernel
theorem dX5_readNumber_49 : decode cX5_readNumber 49 = .ok (.iconst 0, 1) := by decide +kernel
theorem dX5_readNumber_50 : decode cX5_readNumber 50 = .ok (.ireturn, 1) := by decide +kernel
theorem dX5_readNumber_51 : decode cX5_readNumber 51 = .ok (.aload_n 0, 1) := by decide +kernel
theorem dX5_readNumber_52 : decode cX5_readNumber 52 = .ok (.getfield 34, 3) := by decide +kernel
theorem dX5_readNumber_55 : decode cX5_readNumber 55 = .ok (.getfield 186, 3) := by decide +kernel
theorem dX5_readNumber_58 : decode cX5_readNumber 58 = .ok (.istore_n 2, 1) := by decide +kernel
theorem dX5_readNumber_59 : decode cX5_readNumber 59 = .ok (.aload_n 0, 1) := by decide +kernel
theorem dX5_readNumber_60 : decode cX5_readNumber 60 = .ok (.getfield 34, 3) := by decide +kernel
theorem dX5_readNumber_63 : decode cX5_readNumber 63 = .ok (.invokevirtual 116, 3) := by decide +kernel
theorem dX5_readNumber_66 : decode cX5_readNumber 66 = .ok (.iload_n 2, 1) := by decide +kernel
theorem dX5_readNumber_67 : decode cX5_readNumber 67 = .ok (.ireturn, 1) := by decide +kernel
set_option maxRecDepth 100000 in
theorem ggX5_lookAtTold_X8_isNumber : GoodIn wsX5_lookAtTold wsX8_isNumber := goodIn_r _ [5, 6, 22, 23, 24, 25, 26, 27, 28, 29, 30] rfl (by decide +kernel)
set_option maxRecDepth 100000 in
theorem gX5_lookAtTold_X8_isNumber_n130 : GoodIn wsX5_lookAtTold (wsX8_isNumber) := ggX5_lookAtTold_X8_isNumber
set_option maxRecDepth 100000 in
theorem ggX5_lookAtTold_X8_fail : GoodIn wsX5_lookAtTold wsX8_fail := goodIn_r _ [9, 10, 11, 12, 6, 22, 23, 24, 25, 26, 27, 28, 29, 30] rfl (by decide +kernel)
set_option maxRecDepth 100000 in
theorem gX5_lookAtTold_X8_fail_n109 : GoodIn wsX5_lookAtTold (wsX8_fail) := ggX5_lookAtTold_X8_fail
set_option maxRecDepth 100000 in
theorem ggX5_lookAtTold_X8_isTooLong : GoodIn wsX5_lookAtTold wsX8_isTooLong := goodIn_r _ [15, 16, 11, 22, 23, 24, 25, 26, 27, 28, 29, 30] rfl (by decide +kernel)
set_option maxRecDepth 100000 in
theorem gX5_lookAtTold_X8_isTooLong_n183 : GoodIn wsX5_lookAtTold (wsX8_isTooLong) := ggX5_lookAtTold_X8_isTooLong
theorem dX5_lookAtTold_0 : decode cX5_lookAtTold 0 = .ok (.aload_n 0, 1) := by decide +kernel
theorem dX5_lookAtTold_1 : decode cX5_lookAtTold 1 = .ok (.getfield 34, 3) := by decide +kernel
theorem dX5_lookAtTold_4 : decode cX5_lookAtTold 4 = .ok (.invokevirtual 130, 3) := by decide +kernel
theorem dX5_lookAtTold_7 : decode cX5_lookAtTold 7 = .ok (.ifCond .ne 14, 3) := by decide +kernel
theorem dX5_lookAtTold_10 : decode cX5_lookAtTold 10 = .ok (.aload_n 0, 1) := by decide +kernel
theorem dX5_lookAtTold_11 : decode cX5_lookAtTold 11 = .ok (.getfield 34, 3) := by decide +kernel
theorem dX5_lookAtTold_14 : decode cX5_lookAtTold 14 = .ok (.iconst 1, 1) := by decide +kernel
theorem dX5_lookAtTold_15 : decode cX5_lookAtTold 15 = .ok (.invokevirtual 109, 3) := by decide +kernel
theorem dX5_lookAtTold_18 : decode cX5_lookAtTold 18 = .ok (.goto 54, 3) := by decide +kernel
theorem dX5_lookAtTold_21 : decode cX5_lookAtTold 21 = .ok (.aload_n 0, 1) := by decide +kernel
theorem dX5_lookAtTold_22 : decode cX5_lookAtTold 22 = .ok (.getfield 34, 3) := by decide +kernel
theorem dX5_lookAtTold_25 : decode cX5_lookAtTold 25 = .ok (.invokevirtual 183, 3) := by decide +kernel
theorem dX5_lookAtTold_28 : decode cX5_lookAtTold 28 = .ok (.ifCond .eq 14, 3) := by decide +kernel
theorem dX5_lookAtTold_31 : decode cX5_lookAtTold 31 = .ok (.aload_n 0, 1) := by decide +kernel
theorem dX5_lookAtTold_32 : decode cX5_lookAtTold 32 = .ok (.getfield 34, 3) := by decide +kernel
theorem dX5_lookAtTold_35 : decode cX5_lookAtTold 35 = .ok (.iconst 2, 1) := by decide +kernel
theorem dX5_lookAtTold_36 : decode cX5_lookAtTold 36 = .ok (.invokevirtual 109, 3) := by decide +kernel
theorem dX5_lookAtTold_39 : decode cX5_lookAtTold 39 = .ok (.goto 33, 3) := by decide +kernel
theorem dX5_lookAtTold_42 : decode cX5_lookAtTold 42 = .ok (.aload_n 0, 1) := by decide +kernel
theorem dX5_lookAtTold_43 : decode cX5_lookAtTold 43 = .ok (.getfield 34, 3) := by decide +kernel
theorem dX5_lookAtTold_46 : decode cX5_lookAtTold 46 = .ok (.getfield 186, 3) := by decide +kernel
theorem dX5_lookAtTold_49 : decode cX5_lookAtTold 49 = .ok (.iload_n 1, 1) := by decide +kernel
theorem dX5_lookAtTold_50 : decode cX5_lookAtTold 50 = .ok (.if_icmp .lt 14, 3) := by decide +kernel
theorem dX5_lookAtTold_53 : decode cX5_lookAtTold 53 = .ok (.aload_n 0, 1) := by decide +kernel
theorem dX5_lookAtTold_54 : decode cX5_lookAtTold 54 = .ok (.getfield 34, 3) := by decide +kernel
theorem dX5_lookAtTold_57 : decode cX5_lookAtTold 57 = .ok (.iconst 3, 1) := by decide +kernel
theorem dX5_lookAtTold_58 : decode cX5_lookAtTold 58 = .ok (.invokevirtual 109, 3) := by decide +kernel
theorem dX5_lookAtTold_61 : decode cX5_lookAtTold 61 = .ok (.goto 11, 3) := by decide +kernel
theorem dX5_lookAtTold_64 : decode cX5_lookAtTold 64 = .ok (.aload_n 0, 1) := by decide +kernel
theorem dX5_lookAtTold_65 : decode cX5_lookAtTold 65 = .ok (.getfield 34, 3) := by decide +kernel
theorem dX5_lookAtTold_68 : decode cX5_lookAtTold 68 = .ok (.getfield 186, 3) := by decide +kernel
theorem dX5_lookAtTold_71 : decode cX5_lookAtTold 71 = .ok (.ireturn, 1) := by decide +kernel
theorem dX5_lookAtTold_72 : decode cX5_lookAtTold 72 = .ok (.iconst 0, 1) := by decide +kernel
theorem dX5_lookAtTold_73 : decode cX5_lookAtTold 73 = .ok (.ireturn, 1) := by decide +kernel
theorem dX6_init_0 : decode cX6_init 0 = .ok (.aload_n 0, 1) := by decide +kernel
theorem dX6_init_1 : decode cX6_init 1 = .ok (.invokespecial 1, 3) := by decide +kernel
theorem dX6_init_4 : decode cX6_init 4 = .ok (.aload_n 0, 1) := by decide +kernel
theorem dX6_init_5 : decode cX6_init 5 = .ok (.bipush 9, 2) := by decide +kernel
theorem dX6_init_7 : decode cX6_init 7 = .ok (.newarray .int, 2) := by decide +kernel
theorem dX6_init_9 : decode cX6_init 9 = .ok (.putfield 9, 3) := by decide +kernel
theorem dX6_init_12 : decode cX6_init 12 = .ok (.aload_n 0, 1) := by decide +kernel
theorem dX6_init_13 : decode cX6_init 13 = .ok (.bipush 64, 2) := by decide +kernel
theorem dX6_init_15 : decode cX6_init 15 = .ok (.newarray .int, 2) := by decide +kernel
theorem dX6_init_17 : decode cX6_init 17 = .ok (.putfield 13, 3) := by decide +kernel
theorem dX6_init_20 : decode cX6_init 20 = .ok (.return_, 1) := by decide +kernel
theorem dX6_stepOfValue_0 : decode cX6_stepOfValue 0 = .ok (.iconst (-1), 1) := by decide +kernel
theorem dX6_stepOfValue_1 : decode cX6_stepOfValue 1 = .ok (.iload_n 0, 1) := by decide +kernel
theorem dX6_stepOfValue_2 : decode cX6_stepOfValue 2 = .ok (.isub, 1) := by decide +kernel
theorem dX6_stepOfValue_3 : decode cX6_stepOfValue 3 = .ok (.ireturn, 1) := by decide +kernel
set_option maxRecDepth 100000 in
theorem ggX6_reckon_X6_joined : GoodIn wsX6_reckon wsX6_joined := goodIn_r _ [13] rfl (by decide +kernel)
set_option maxRecDepth 100000 in
theorem gX6_reckon_X6_joined : GoodIn wsX6_reckon (va_wsS RX6 25 yX6_joined wsX6_joined) := goodIn_app (goodIn_of _ (by decide +kernel)) ggX6_reckon_X6_joined
theorem dX6_reckon_0 : decode cX6_reckon 0 = .ok (.iconst 0, 1) := by decide +kernel
theorem dX6_reckon_1 : decode cX6_reckon 1 = .ok (.istore 4, 2) := by decide +kernel
theorem dX6_reckon_3 : decode cX6_reckon 3 = .ok (.iload_n 3, 1) := by decide +kernel
theorem dX6_reckon_4 : decode cX6_reckon 4 = .ok (.aload_n 1, 1) := by decide +kernel
theorem dX6_reckon_5 : decode cX6_reckon 5 = .ok (.arraylength, 1) := by decide +kernel
theorem dX6_reckon_6 : decode cX6_reckon 6 = .ok (.invokestatic 16, 3) := by decide +kernel
theorem dX6_reckon_9 : decode cX6_reckon 9 = .ok (.istore 5, 2) := by decide +kernel
theorem dX6_reckon_11 : decode cX6_reckon 11 = .ok (.iload_n 2, 1) := by decide +kernel
theorem dX6_reckon_12 : decode cX6_reckon 12 = .ok (.iconst 0, 1) := by decide +kernel
theorem dX6_reckon_13 : decode cX6_reckon 13 = .ok (.invokestatic 22, 3) := by decide +kernel
theorem dX6_reckon_16 : decode cX6_reckon 16 = .ok (.istore 6, 2) := by decide +kernel
theorem dX6_reckon_18 : decode cX6_reckon 18 = .ok (.iload 6, 2) := by decide +kernel
theorem dX6_reckon_20 : decode cX6_reckon 20 = .ok (.iload 5, 2) := by decide +kernel
theorem dX6_reckon_22 : decode cX6_reckon 22 = .ok (.if_icmp .ge 148, 3) := by decide +kernel
theorem dX6_reckon_25 : decode cX6_reckon 25 = .ok (.aload_n 1, 1) := by decide +kernel
theorem dX6_reckon_26 : decode cX6_reckon 26 = .ok (.iload 6, 2) := by decide +kernel
theorem dX6_reckon_28 : decode cX6_reckon 28 = .ok (.iaload, 1) := by decide +kernel
theorem dX6_reckon_29 : decode cX6_reckon 29 = .ok (.istore 7, 2) := by decide +kernel
theorem dX6_reckon_31 : decode cX6_reckon 31 = .ok (.iconst (-1), 1) := by decide +kernel
theorem dX6_reckon_32 : decode cX6_reckon 32 = .ok (.iload 7, 2) := by decide +kernel
theorem dX6_reckon_34 : decode cX6_reckon 34 = .ok (.isub, 1) := by decide +kernel
theorem dX6_reckon_35 : decode cX6_reckon 35 = .ok (.istore 8, 2) := by decide +kernel
theorem dX6_reckon_37 : decode cX6_reckon 37 = .ok (.iload 8, 2) := by decide +kernel
theorem dX6_reckon_39 : decode cX6_reckon 39 = .ok (.bipush 9, 2) := by decide +kernel
theorem dX6_reckon_41 : decode cX6_reckon 41 = .ok (.if_icmp .ge 43, 3) := by decide +kernel
theorem dX6_reckon_44 : decode cX6_reckon 44 = .ok (.iload 4, 2) := by decide +kernel
theorem dX6_reckon_46 : decode cX6_reckon 46 = .ok (.aload_n 0, 1) := by decide +kernel
theorem dX6_reckon_47 : decode cX6_reckon 47 = .ok (.getfield 13, 3) := by decide +kernel
theorem dX6_reckon_50 : decode cX6_reckon 50 = .ok (.arraylength, 1) := by decide +kernel
theorem dX6_reckon_51 : decode cX6_reckon 51 = .ok (.if_icmp .ge 113, 3) := by decide +kernel
theorem dX6_reckon_54 : decode cX6_reckon 54 = .ok (.aload_n 0, 1) := by decide +kernel
theorem dX6_reckon_55 : decode cX6_reckon 55 = .ok (.getfield 13, 3) := by decide +kernel
theorem dX6_reckon_58 : decode cX6_reckon 58 = .ok (.iload 4, 2) := by decide +kernel
theorem dX6_reckon_60 : decode cX6_reckon 60 = .ok (.iload 8, 2) := by decide +kernel
theorem dX6_reckon_62 : decode cX6_reckon 62 = .ok (.ifCond .ge 8, 3) := by decide +kernel
theorem dX6_reckon_65 : decode cX6_reckon 65 = .ok (.iload 7, 2) := by decide +kernel
theorem dX6_reckon_67 : decode cX6_reckon 67 = .ok (.goto 10, 3) := by decide +kernel
theorem dX6_reckon_70 : decode cX6_reckon 70 = .ok (.aload_n 0, 1) := by decide +kernel
theorem dX6_reckon_71 : decode cX6_reckon 71 = .ok (.getfield 9, 3) := by decide +kernel
theorem dX6_reckon_74 : decode cX6_reckon 74 = .ok (.iload 8, 2) := by decide +kernel
theorem dX6_reckon_76 : decode cX6_reckon 76 = .ok (.iaload, 1) := by decide +kernel
theorem dX6_reckon_77 : decode cX6_reckon 77 = .ok (.iastore, 1) := by decide +kernel
theorem dX6_reckon_78 : decode cX6_reckon 78 = .ok (.iinc 4 1, 3) := by decide +kernel
theorem dX6_reckon_81 : decode cX6_reckon 81 = .ok (.goto 83, 3) := by decide +kernel
theorem dX6_reckon_84 : decode cX6_reckon 84 = .ok (.iload 7, 2) := by decide +kernel
theorem dX6_reckon_86 : decode cX6_reckon 86 = .ok (.bipush (-22), 2) := by decide +kernel
theorem dX6_reckon_88 : decode cX6_reckon 88 = .ok (.if_icmp .ne 37, 3) := by decide +kernel
theorem dX6_reckon_91 : decode cX6_reckon 91 = .ok (.iload 4, 2) := by decide +kernel
theorem dX6_reckon_93 : decode cX6_reckon 93 = .ok (.ifCond .le 71, 3) := by decide +kernel
theorem dX6_reckon_96 : decode cX6_reckon 96 = .ok (.aload_n 0, 1) := by decide +kernel
theorem dX6_reckon_97 : decode cX6_reckon 97 = .ok (.getfield 13, 3) := by decide +kernel
theorem dX6_reckon_100 : decode cX6_reckon 100 = .ok (.iload 4, 2) := by decide +kernel
theorem dX6_reckon_102 : decode cX6_reckon 102 = .ok (.iconst 1, 1) := by decide +kernel
theorem dX6_reckon_103 : decode cX6_reckon 103 = .ok (.isub, 1) := by decide +kernel
theorem dX6_reckon_104 : decode cX6_reckon 104 = .ok (.aload_n 0, 1) := by decide +kernel
theorem dX6_reckon_105 : decode cX6_reckon 105 = .ok (.getfield 13, 3) := by decide +kernel
theorem dX6_reckon_108 : decode cX6_reckon 108 = .ok (.iload 4, 2) := by decide +kernel
theorem dX6_reckon_110 : decode cX6_reckon 110 = .ok (.iconst 1, 1) := by decide +kernel
theorem dX6_reckon_111 : decode cX6_reckon 111 = .ok (.isub, 1) := by decide +kernel
theorem dX6_reckon_112 : decode cX6_reckon 112 = .ok (.iaload, 1) := by decide +kernel
theorem dX6_reckon_113 : decode cX6_reckon 113 = .ok (.ifCond .ne 7, 3) := by decide +kernel
theorem dX6_reckon_116 : decode cX6_reckon 116 = .ok (.iconst 1, 1) := by decide +kernel
theorem dX6_reckon_117 : decode cX6_reckon 117 = .ok (.goto 4, 3) := by decide +kernel
theorem dX6_reckon_120 : decode cX6_reckon 120 = .ok (.iconst 0, 1) := by decide +kernel
theorem dX6_reckon_121 : decode cX6_reckon 121 = .ok (.iastore, 1) := by decide +kernel
theorem dX6_reckon_122 : decode cX6_reckon 122 = .ok (.goto 42, 3) := by decide +kernel
theorem dX6_reckon_125 : decode cX6_reckon 125 = .ok (.iload 4, 2) := by decide +kernel
theorem dX6_reckon_127 : decode cX6_reckon 127 = .ok (.iconst 1, 1) := by decide +kernel
theorem dX6_reckon_128 : decode cX6_reckon 128 = .ok (.if_icmp .le 36, 3) := by decide +kernel
theorem dX6_reckon_131 : decode cX6_reckon 131 = .ok (.iinc 4 (-1), 3) := by decide +kernel
theorem dX6_reckon_134 : decode cX6_reckon 134 = .ok (.aload_n 0, 1) := by decide +kernel
theorem dX6_reckon_135 : decode cX6_reckon 135 = .ok (.getfield 13, 3) := by decide +kernel
theorem dX6_reckon_138 : decode cX6_reckon 138 = .ok (.iload 4, 2) := by decide +kernel
theorem dX6_reckon_140 : decode cX6_reckon 140 = .ok (.iconst 1, 1) := by decide +kernel
theorem dX6_reckon_141 : decode cX6_reckon 141 = .ok (.isub, 1) := by decide +kernel
theorem dX6_reckon_142 : decode cX6_reckon 142 = .ok (.iload 7, 2) := by decide +kernel
theorem dX6_reckon_144 : decode cX6_reckon 144 = .ok (.aload_n 0, 1) := by decide +kernel
theorem dX6_reckon_145 : decode cX6_reckon 145 = .ok (.getfield 13, 3) := by decide +kernel
theorem dX6_reckon_148 : decode cX6_reckon 148 = .ok (.iload 4, 2) := by decide +kernel
theorem dX6_reckon_150 : decode cX6_reckon 150 = .ok (.iconst 1, 1) := by decide +kernel
theorem dX6_reckon_151 : decode cX6_reckon 151 = .ok (.isub, 1) := by decide +kernel
theorem dX6_reckon_152 : decode cX6_reckon 152 = .ok (.iaload, 1) := by decide +kernel
theorem dX6_reckon_153 : decode cX6_reckon 153 = .ok (.aload_n 0, 1) := by decide +kernel
theorem dX6_reckon_154 : decode cX6_reckon 154 = .ok (.getfield 13, 3) := by decide +kernel
theorem dX6_reckon_157 : decode cX6_reckon 157 = .ok (.iload 4, 2) := by decide +kernel
theorem dX6_reckon_159 : decode cX6_reckon 159 = .ok (.iaload, 1) := by decide +kernel
theorem dX6_reckon_160 : decode cX6_reckon 160 = .ok (.invokestatic 25, 3) := by decide +kernel
theorem dX6_reckon_163 : decode cX6_reckon 163 = .ok (.iastore, 1) := by decide +kernel
theorem dX6_reckon_164 : decode cX6_reckon 164 = .ok (.iinc 6 1, 3) := by decide +kernel
theorem dX6_reckon_167 : decode cX6_reckon 167 = .ok (.goto (-149), 3) := by decide +kernel
theorem dX6_reckon_170 : decode cX6_reckon 170 = .ok (.iload 4, 2) := by decide +kernel
theorem dX6_reckon_172 : decode cX6_reckon 172 = .ok (.ifCond .le 15, 3) := by decide +kernel
theorem dX6_reckon_175 : decode cX6_reckon 175 = .ok (.aload_n 0, 1) := by decide +kernel
theorem dX6_reckon_176 : decode cX6_reckon 176 = .ok (.getfield 13, 3) := by decide +kernel
theorem dX6_reckon_179 : decode cX6_reckon 179 = .ok (.iload 4, 2) := by decide +kernel
theorem dX6_reckon_181 : decode cX6_reckon 181 = .ok (.iconst 1, 1) := by decide +kernel
theorem dX6_reckon_182 : decode cX6_reckon 182 = .ok (.isub, 1) := by decide +kernel
theorem dX6_reckon_183 : decode cX6_reckon 183 = .ok (.iaload, 1) := by decide +kernel
theorem dX6_reckon_184 : decode cX6_reckon 184 = .ok (.goto 4, 3) := by decide +kernel
theorem dX6_reckon_187 : decode cX6_reckon 187 = .ok (.iconst 0, 1) := by decide +kernel
theorem dX6_reckon_188 : decode cX6_reckon 188 = .ok (.ireturn, 1) := by decide +kernel
theorem dX6_joined_0 : decode cX6_joined 0 = .ok (.iload_n 0, 1) := by decide +kernel
theorem dX6_joined_1 : decode cX6_joined 1 = .ok (.tableswitch 109 (-27) (-20) #[105, 101, 97, 86, 75, 109, 61, 47], 47) := by decide +kernel
theorem dX6_joined_48 : decode cX6_joined 48 = .ok (.iload_n 1, 1) := by decide +kernel
theorem dX6_joined_49 : decode cX6_joined 49 = .ok (.ifCond .ne 7, 3) := by decide +kernel
theorem dX6_joined_52 : decode cX6_joined 52 = .ok (.iload_n 2, 1) := by decide +kernel
theorem dX6_joined_53 : decode cX6_joined 53 = .ok (.ifCond .eq 7, 3) := by decide +kernel
theorem dX6_joined_56 : decode cX6_joined 56 = .ok (.iconst 1, 1) := by decide +kernel
theorem dX6_joined_57 : decode cX6_joined 57 = .ok (.goto 4, 3) := by decide +kernel
theorem dX6_joined_60 : decode cX6_joined 60 = .ok (.iconst 0, 1) := by decide +kernel
theorem dX6_joined_61 : decode cX6_joined 61 = .ok (.ireturn, 1) := by decide +kernel
theorem dX6_joined_62 : decode cX6_joined 62 = .ok (.iload_n 1, 1) := by decide +kernel
theorem dX6_joined_63 : decode cX6_joined 63 = .ok (.ifCond .eq 11, 3) := by decide +kernel
theorem dX6_joined_66 : decode cX6_joined 66 = .ok (.iload_n 2, 1) := by decide +kernel
theorem dX6_joined_67 : decode cX6_joined 67 = .ok (.ifCond .eq 7, 3) := by decide +kernel
theorem dX6_joined_70 : decode cX6_joined 70 = .ok (.iconst 1, 1) := by decide +kernel
theorem dX6_joined_71 : decode cX6_joined 71 = .ok (.goto 4, 3) := by decide +kernel
theorem dX6_joined_74 : decode cX6_joined 74 = .ok (.iconst 0, 1) := by decide +kernel
theorem dX6_joined_75 : decode cX6_joined 75 = .ok (.ireturn, 1) := by decide +kernel
theorem dX6_joined_76 : decode cX6_joined 76 = .ok (.iload_n 1, 1) := by decide +kernel
theorem dX6_joined_77 : decode cX6_joined 77 = .ok (.iload_n 2, 1) := by decide +kernel
theorem dX6_joined_78 : decode cX6_joined 78 = .ok (.if_icmp .ge 7, 3) := by decide +kernel
theorem dX6_joined_81 : decode cX6_joined 81 = .ok (.iconst 1, 1) := by decide +kernel
theorem dX6_joined_82 : decode cX6_joined 82 = .ok (.goto 4, 3) := by decide +kernel
theorem dX6_joined_85 : decode cX6_joined 85 = .ok (.iconst 0, 1) := by decide +kernel
theorem dX6_joined_86 : decode cX6_joined 86 = .ok (.ireturn, 1) := by decide +kernel
theorem dX6_joined_87 : decode cX6_joined 87 = .ok (.iload_n 1, 1) := by decide +kernel
theorem dX6_joined_88 : decode cX6_joined 88 = .ok (.iload_n 2, 1) := by decide +kernel
theorem dX6_joined_89 : decode cX6_joined 89 = .ok (.if_icmp .ne 7, 3) := by decide +kernel
theorem dX6_joined_92 : decode cX6_joined 92 = .ok (.iconst 1, 1) := by decide +kernel
theorem dX6_joined_93 : decode cX6_joined 93 = .ok (.goto 4, 3) := by decide +kernel
theorem dX6_joined_96 : decode cX6_joined 96 = .ok (.iconst 0, 1) := by decide +kernel
theorem dX6_joined_97 : decode cX6_joined 97 = .ok (.ireturn, 1) := by decide +kernel
theorem dX6_joined_98 : decode cX6_joined 98 = .ok (.iload_n 1, 1) := by decide +kernel
theorem dX6_joined_99 : decode cX6_joined 99 = .ok (.iload_n 2, 1) := by decide +kernel
theorem dX6_joined_100 : decode cX6_joined 100 = .ok (.iadd, 1) := by decide +kernel
theorem dX6_joined_101 : decode cX6_joined 101 = .ok (.ireturn, 1) := by decide +kernel
theorem dX6_joined_102 : decode cX6_joined 102 = .ok (.iload_n 1, 1) := by decide +kernel
theorem dX6_joined_103 : decode cX6_joined 103 = .ok (.iload_n 2, 1) := by decide +kernel
theorem dX6_joined_104 : decode cX6_joined 104 = .ok (.isub, 1) := by decide +kernel
theorem dX6_joined_105 : decode cX6_joined 105 = .ok (.ireturn, 1) := by decide +kernel
theorem dX6_joined_106 : decode cX6_joined 106 = .ok (.iload_n 1, 1) := by decide +kernel
theorem dX6_joined_107 : decode cX6_joined 107 = .ok (.iload_n 2, 1) := by decide +kernel
theorem dX6_joined_108 : decode cX6_joined 108 = .ok (.imul, 1) := by decide +kernel
theorem dX6_joined_109 : decode cX6_joined 109 = .ok (.ireturn, 1) := by decide +kernel
theorem dX6_joined_110 : decode cX6_joined 110 = .ok (.iload_n 2, 1) := by decide +kernel
theorem dX6_joined_111 : decode cX6_joined 111 = .ok (.ifCond .ne 7, 3) := by decide +kernel
theorem dX6_joined_114 : decode cX6_joined 114 = .ok (.iconst 0, 1) := by decide +kernel
theorem dX6_joined_115 : decode cX6_joined 115 = .ok (.goto 6, 3) := by decide +kernel
theorem dX6_joined_118 : decode cX6_joined 118 = .ok (.iload_n 1, 1) := by decide +kernel
theorem dX6_joined_119 : decode cX6_joined 119 = .ok (.iload_n 2, 1) := by decide +kernel
theorem dX6_joined_120 : decode cX6_joined 120 = .ok (.idiv, 1) := by decide +kernel
theorem dX6_joined_121 : decode cX6_joined 121 = .ok (.ireturn, 1) := by decide +kernel
set_option maxRecDepth 100000 in
theorem ggX7_init_X7_clear : GoodIn wsX7_init wsX7_clear := goodIn_r _ [10, 5, 11, 12, 13, 14, 15] rfl (by decide +kernel)
set_option maxRecDepth 100000 in
theorem gX7_init_X7_clear : GoodIn wsX7_init (wsV RX7 15 RX7 yX7_clear wsX7_clear) := goodIn_app (goodIn_of _ (by decide +kernel)) ggX7_init_X7_clear
theorem dX7_init_0 : decode cX7_init 0 = .ok (.aload_n 0, 1) := by decide +kernel
theorem dX7_init_1 : decode cX7_init 1 = .ok (.invokespecial 5, 3) := by decide +kernel
theorem dX7_init_4 : decode cX7_init 4 = .ok (.aload_n 0, 1) := by decide +kernel
theorem dX7_init_5 : decode cX7_init 5 = .ok (.bipush 78, 2) := by decide +kernel
theorem dX7_init_7 : decode cX7_init 7 = .ok (.newarray .int, 2) := by decide +kernel
theorem dX7_init_9 : decode cX7_init 9 = .ok (.putfield 11, 3) := by decide +kernel
theorem dX7_init_12 : decode cX7_init 12 = .ok (.aload_n 0, 1) := by decide +kernel
theorem dX7_init_13 : decode cX7_init 13 = .ok (.invokevirtual 15, 3) := by decide +kernel
theorem dX7_init_16 : decode cX7_init 16 = .ok (.return_, 1) := by decide +kernel
set_option maxRecDepth 100000 in
theorem ggX7_clear_J7_fill_53178 : GoodIn wsX7_clear wsJ7_fill_53178 := goodIn_r _ [5] rfl (by decide +kernel)
set_option maxRecDepth 100000 in
theorem gX7_clear_J7_fill_53178 : GoodIn wsX7_clear (va_wsS RX7 18 yJ7_fill_53178 wsJ7_fill_53178) := goodIn_app (goodIn_of _ (by decide +kernel)) ggX7_clear_J7_fill_53178
theorem dX7_clear_0 : decode cX7_clear 0 = .ok (.aload_n 0, 1) := by decide +kernel
theorem dX7_clear_1 : decode cX7_clear 1 = .ok (.getfield 11, 3) := by decide +kernel
theorem dX7_clear_4 : decode cX7_clear 4 = .ok (.iconst (-1), 1) := by decide +kernel
theorem dX7_clear_5 : decode cX7_clear 5 = .ok (.invokestatic 18, 3) := by decide +kernel
theorem dX7_clear_8 : decode cX7_clear 8 = .ok (.aload_n 0, 1) := by decide +kernel
theorem dX7_clear_9 : decode cX7_clear 9 = .ok (.getfield 11, 3) := by decide +kernel
theorem dX7_clear_12 : decode cX7_clear 12 = .ok (.iconst 0, 1) := by decide +kernel
theorem dX7_clear_13 : decode cX7_clear 13 = .ok (.iconst 0, 1) := by decide +kernel
theorem dX7_clear_14 : decode cX7_clear 14 = .ok (.iastore, 1) := by decide +kernel
theorem dX7_clear_15 : decode cX7_clear 15 = .ok (.return_, 1) := by decide +kernel
theorem dX7_copyFrom_0 : decode cX7_copyFrom 0 = .ok (.aload_n 1, 1) := by decide +kernel
theorem dX7_copyFrom_1 : decode cX7_copyFrom 1 = .ok (.getfield 11, 3) := by decide +kernel
theorem dX7_copyFrom_4 : decode cX7_copyFrom 4 = .ok (.iconst 0, 1) := by decide +kernel
theorem dX7_copyFrom_5 : decode cX7_copyFrom 5 = .ok (.aload_n 0, 1) := by decide +kernel
theorem dX7_copyFrom_6 : decode cX7_copyFrom 6 = .ok (.getfield 11, 3) := by decide +kernel
theorem dX7_copyFrom_9 : decode cX7_copyFrom 9 = .ok (.iconst 0, 1) := by decide +kernel
theorem dX7_copyFrom_10 : decode cX7_copyFrom 10 = .ok (.bipush 78, 2) := by decide +kernel
theorem dX7_copyFrom_12 : decode cX7_copyFrom 12 = .ok (.invokestatic 24, 3) := by decide +kernel
theorem dX7_copyFrom_15 : decode cX7_copyFrom 15 = .ok (.return_, 1) := by decide +kernel
theorem dX7_day_0 : decode cX7_day 0 = .ok (.aload_n 0, 1) := by decide +kernel
theorem dX7_day_1 : decode cX7_day 1 = .ok (.getfield 11, 3) := by decide +kernel
theorem dX7_day_4 : decode cX7_day 4 = .ok (.iconst 0, 1) := by decide +kernel
theorem dX7_day_5 : decode cX7_day 5 = .ok (.iaload, 1) := by decide +kernel
theorem dX7_day_6 : decode cX7_day 6 = .ok (.ireturn, 1) := by decide +kernel
theorem dX7_nextDay_0 : decode cX7_nextDay 0 = .ok (.aload_n 0, 1) := by decide +kernel
theorem dX7_nextDay_1 : decode cX7_nextDay 1 = .ok (.getfield 11, 3) := by decide +kernel
theorem dX7_nextDay_4 : decode cX7_nextDay 4 = .ok (.iconst 0, 1) := by decide +kernel
theorem dX7_nextDay_5 : decode cX7_nextDay 5 = .ok (.dup2, 1) := by decide +kernel
theorem dX7_nextDay_6 : decode cX7_nextDay 6 = .ok (.iaload, 1) := by decide +kernel
theorem dX7_nextDay_7 : decode cX7_nextDay 7 = .ok (.iconst 1, 1) := by decide +kernel
theorem dX7_nextDay_8 : decode cX7_nextDay 8 = .ok (.iadd, 1) := by decide +kernel
theorem dX7_nextDay_9 : decode cX7_nextDay 9 = .ok (.iastore, 1) := by decide +kernel
theorem dX7_nextDay_10 : decode cX7_nextDay 10 = .ok (.return_, 1) := by decide +kernel
theorem dX7_notes_0 : decode cX7_notes 0 = .ok (.aload_n 0, 1) := by decide +kernel
theorem dX7_notes_1 : decode cX7_notes 1 = .ok (.getfield 11, 3) := by decide +kernel
theorem dX7_notes_4 : decode cX7_notes 4 = .ok (.bipush 8, 2) := by decide +kernel
theorem dX7_notes_6 : decode cX7_notes 6 = .ok (.iload_n 1, 1) := by decide +kernel
theorem dX7_notes_7 : decode cX7_notes 7 = .ok (.iconst 5, 1) := by decide +kernel
theorem dX7_notes_8 : decode cX7_notes 8 = .ok (.imul, 1) := by decide +kernel
theorem dX7_notes_9 : decode cX7_notes 9 = .ok (.iadd, 1) := by decide +kernel
theorem dX7_notes_10 : decode cX7_notes 10 = .ok (.iload_n 2, 1) := by decide +kernel
theorem dX7_notes_11 : decode cX7_notes 11 = .ok (.iadd, 1) := by decide +kernel
theorem dX7_notes_12 : decode cX7_notes 12 = .ok (.iaload, 1) := by decide +kernel
theorem dX7_notes_13 : decode cX7_notes 13 = .ok (.ireturn, 1) := by decide +kernel
theorem dX7_setNotes_0 : decode cX7_setNotes 0 = .ok (.aload_n 0, 1) := by decide +kernel
theorem dX7_setNotes_1 : decode cX7_setNotes 1 = .ok (.getfield 11, 3) := by decide +kernel
theorem dX7_setNotes_4 : decode cX7_setNotes 4 = .ok (.bipush 8, 2) := by decide +kernel
theorem dX7_setNotes_6 : decode cX7_setNotes 6 = .ok (.iload_n 1, 1) := by decide +kernel
theorem dX7_setNotes_7 : decode cX7_setNotes 7 = .ok (.iconst 5, 1) := by decide +kernel
theorem dX7_setNotes_8 : decode cX7_setNotes 8 = .ok (.imul, 1) := by decide +kernel
theorem dX7_setNotes_9 : decode cX7_setNotes 9 = .ok (.iadd, 1) := by decide +kernel
theorem dX7_setNotes_10 : decode cX7_setNotes 10 = .ok (.iload_n 2, 1) := by decide +kernel
theorem dX7_setNotes_11 : decode cX7_setNotes 11 = .ok (.iadd, 1) := by decide +kernel
theorem dX7_setNotes_12 : decode cX7_setNotes 12 = .ok (.iload_n 3, 1) := by decide +kernel
theorem dX7_setNotes_13 : decode cX7_setNotes 13 = .ok (.iastore, 1) := by decide +kernel
theorem dX7_setNotes_14 : decode cX7_setNotes 14 = .ok (.return_, 1) := by decide +kernel
set_option maxRecDepth 100000 in
theorem ggX7_holds_X7_notes : GoodIn wsX7_holds wsX7_notes := goodIn_r _ [5, 6, 7] rfl (by decide +kernel)
set_option maxRecDepth 100000 in
theorem gX7_holds_X7_notes : GoodIn wsX7_holds (wsV RX7 30 RX7 yX7_notes wsX7_notes) := goodIn_app (goodIn_of _ (by decide +kernel)) ggX7_holds_X7_notes
theorem dX7_holds_0 : decode cX7_holds 0 = .ok (.aload_n 0, 1) := by decide +kernel
theorem dX7_holds_1 : decode cX7_holds 1 = .ok (.iload_n 1, 1) := by decide +kernel
theorem dX7_holds_2 : decode cX7_holds 2 = .ok (.iload_n 2, 1) := by decide +kernel
theorem dX7_holds_3 : decode cX7_holds 3 = .ok (.invokevirtual 30, 3) := by decide +kernel
theorem dX7_holds_6 : decode cX7_holds 6 = .ok (.iconst (-1), 1) := by decide +kernel
theorem dX7_holds_7 : decode cX7_holds 7 = .ok (.if_icmp .eq 7, 3) := by decide +kernel
theorem dX7_holds_10 : decode cX7_holds 10 = .ok (.iconst 1, 1) := by decide +kernel
theorem dX7_holds_11 : decode cX7_holds 11 = .ok (.goto 4, 3) := by decide +kernel
theorem dX7_holds_14 : decode cX7_holds 14 = .ok (.iconst 0, 1) := by decide +kernel
theorem dX7_holds_15 : decode cX7_holds 15 = .ok (.ireturn, 1) := by decide +kernel
set_option maxRecDepth 100000 in
theorem ggX7_drop_X7_setNotes : GoodIn wsX7_drop wsX7_setNotes := goodIn_r _ [5, 6, 7] rfl (by decide +kernel)
set_option maxRecDepth 100000 in
theorem gX7_drop_X7_setNotes : GoodIn wsX7_drop (wsV RX7 34 RX7 yX7_setNotes wsX7_setNotes) := goodIn_app (goodIn_of _ (by decide +kernel)) ggX7_drop_X7_setNotes
theorem dX7_drop_0 : decode cX7_drop 0 = .ok (.aload_n 0, 1) := by decide +kernel
theorem dX7_drop_1 : decode cX7_drop 1 = .ok (.iload_n 1, 1) := by decide +kernel
theorem dX7_drop_2 : decode cX7_drop 2 = .ok (.iload_n 2, 1) := by decide +kernel
theorem dX7_drop_3 : decode cX7_drop 3 = .ok (.iconst (-1), 1) := by decide +kernel
theorem dX7_drop_4 : decode cX7_drop 4 = .ok (.invokevirtual 34, 3) := by decide +kernel
theorem dX7_drop_7 : decode cX7_drop 7 = .ok (.return_, 1) := by decide +kernel
theorem dX7_teacher_0 : decode cX7_teacher 0 = .ok (.aload_n 0, 1) := by decide +kernel
theorem dX7_teacher_1 : decode cX7_teacher 1 = .ok (.getfield 11, 3) := by decide +kernel
theorem dX7_teacher_4 : decode cX7_teacher 4 = .ok (.bipush 43, 2) := by decide +kernel
theorem dX7_teacher_6 : decode cX7_teacher 6 = .ok (.iload_n 1, 1) := by decide +kernel
theorem dX7_teacher_7 : decode cX7_teacher 7 = .ok (.iconst 5, 1) := by decide +kernel
theorem dX7_teacher_8 : decode cX7_teacher 8 = .ok (.imul, 1) := by decide +kernel
theorem dX7_teacher_9 : decode cX7_teacher 9 = .ok (.iadd, 1) := by decide +kernel
theorem dX7_teacher_10 : decode cX7_teacher 10 = .ok (.iload_n 2, 1) := by decide +kernel
theorem dX7_teacher_11 : decode cX7_teacher 11 = .ok (.iadd, 1) := by decide +kernel
theorem dX7_teacher_12 : decode cX7_teacher 12 = .ok (.iaload, 1) := by decide +kernel
theorem dX7_teacher_13 : decode cX7_teacher 13 = .ok (.ireturn, 1) := by decide +kernel
theorem dX7_setLearnt_0 : decode cX7_setLearnt 0 = .ok (.aload_n 0, 1) := by decide +kernel
theorem dX7_setLearnt_1 : decode cX7_setLearnt 1 = .ok (.getfield 11, 3) := by decide +kernel
theorem dX7_setLearnt_4 : decode cX7_setLearnt 4 = .ok (.bipush 8, 2) := by decide +kernel
theorem dX7_setLearnt_6 : decode cX7_setLearnt 6 = .ok (.iload_n 1, 1) := by decide +kernel
theorem dX7_setLearnt_7 : decode cX7_setLearnt 7 = .ok (.iconst 5, 1) := by decide +kernel
theorem dX7_setLearnt_8 : decode cX7_setLearnt 8 = .ok (.imul, 1) := by decide +kernel
theorem dX7_setLearnt_9 : decode cX7_setLearnt 9 = .ok (.iadd, 1) := by decide +kernel
theorem dX7_setLearnt_10 : decode cX7_setLearnt 10 = .ok (.iload_n 2, 1) := by decide +kernel
theorem dX7_setLearnt_11 : decode cX7_setLearnt 11 = .ok (.iadd, 1) := by decide +kernel
theorem dX7_setLearnt_12 : decode cX7_setLearnt 12 = .ok (.iload_n 3, 1) := by decide +kernel
theorem dX7_setLearnt_13 : decode cX7_setLearnt 13 = .ok (.iastore, 1) := by decide +kernel
theorem dX7_setLearnt_14 : decode cX7_setLearnt 14 = .ok (.aload_n 0, 1) := by decide +kernel
theorem dX7_setLearnt_15 : decode cX7_setLearnt 15 = .ok (.getfield 11, 3) := by decide +kernel
theorem dX7_setLearnt_18 : decode cX7_setLearnt 18 = .ok (.bipush 43, 2) := by decide +kernel
theorem dX7_setLearnt_20 : decode cX7_setLearnt 20 = .ok (.iload_n 1, 1) := by decide +kernel
theorem dX7_setLearnt_21 : decode cX7_setLearnt 21 = .ok (.iconst 5, 1) := by decide +kernel
theorem dX7_setLearnt_22 : decode cX7_setLearnt 22 = .ok (.imul, 1) := by decide +kernel
theorem dX7_setLearnt_23 : decode cX7_setLearnt 23 = .ok (.iadd, 1) := by decide +kernel
theorem dX7_setLearnt_24 : decode cX7_setLearnt 24 = .ok (.iload_n 2, 1) := by decide +kernel
theorem dX7_setLearnt_25 : decode cX7_setLearnt 25 = .ok (.iadd, 1) := by decide +kernel
theorem dX7_setLearnt_26 : decode cX7_setLearnt 26 = .ok (.iload 4, 2) := by decide +kernel
theorem dX7_setLearnt_28 : decode cX7_setLearnt 28 = .ok (.iastore, 1) := by decide +kernel
theorem dX7_setLearnt_29 : decode cX7_setLearnt 29 = .ok (.return_, 1) := by decide +kernel
theorem dX7_seeks_0 : decode cX7_seeks 0 = .ok (.aload_n 0, 1) := by decide +kernel
theorem dX7_seeks_1 : decode cX7_seeks 1 = .ok (.getfield 11, 3) := by decide +kernel
theorem dX7_seeks_4 : decode cX7_seeks 4 = .ok (.iconst 1, 1) := by decide +kernel
theorem dX7_seeks_5 : decode cX7_seeks 5 = .ok (.iload_n 1, 1) := by decide +kernel
theorem dX7_seeks_6 : decode cX7_seeks 6 = .ok (.iadd, 1) := by decide +kernel
theorem dX7_seeks_7 : decode cX7_seeks 7 = .ok (.iaload, 1) := by decide +kernel
theorem dX7_seeks_8 : decode cX7_seeks 8 = .ok (.iconst (-1), 1) := by decide +kernel
theorem dX7_seeks_9 : decode cX7_seeks 9 = .ok (.if_icmp .eq 7, 3) := by decide +kernel
theorem dX7_seeks_12 : decode cX7_seeks 12 = .ok (.iconst 1, 1) := by decide +kernel
theorem dX7_seeks_13 : decode cX7_seeks 13 = .ok (.goto 4, 3) := by decide +kernel
theorem dX7_seeks_16 : decode cX7_seeks 16 = .ok (.iconst 0, 1) := by decide +kernel
theorem dX7_seeks_17 : decode cX7_seeks 17 = .ok (.ireturn, 1) := by decide +kernel
set_option maxRecDepth 100000 in
theorem ggX7_soughtSong_X7_seeks : GoodIn wsX7_soughtSong wsX7_seeks := goodIn_r _ [6, 1, 7] rfl (by decide +kernel)
set_option maxRecDepth 100000 in
theorem gX7_soughtSong_X7_seeks : GoodIn wsX7_soughtSong (wsV RX7 38 RX7 yX7_seeks wsX7_seeks) := goodIn_app (goodIn_of _ (by decide +kernel)) ggX7_soughtSong_X7_seeks
theorem dX7_soughtSong_0 : decode cX7_soughtSong 0 = .ok (.aload_n 0, 1) := by decide +kernel
theorem dX7_soughtSong_1 : decode cX7_soughtSong 1 = .ok (.iload_n 1, 1) := by decide +kernel
theorem dX7_soughtSong_2 : decode cX7_soughtSong 2 = .ok (.invokevirtual 38, 3) := by decide +kernel
theorem dX7_soughtSong_5 : decode cX7_soughtSong 5 = .ok (.ifCond .eq 17, 3) := by decide +kernel
theorem dX7_soughtSong_8 : decode cX7_soughtSong 8 = .ok (.aload_n 0, 1) := by decide +kernel
theorem dX7_soughtSong_9 : decode cX7_soughtSong 9 = .ok (.getfield 11, 3) := by decide +kernel
theorem dX7_soughtSong_12 : decode cX7_soughtSong 12 = .ok (.iconst 1, 1) := by decide +kernel
theorem dX7_soughtSong_13 : decode cX7_soughtSong 13 = .ok (.iload_n 1, 1) := by decide +kernel
theorem dX7_soughtSong_14 : decode cX7_soughtSong 14 = .ok (.iadd, 1) := by decide +kernel
theorem dX7_soughtSong_15 : decode cX7_soughtSong 15 = .ok (.iaload, 1) := by decide +kernel
theorem dX7_soughtSong_16 : decode cX7_soughtSong 16 = .ok (.bipush 7, 2) := by decide +kernel
theorem dX7_soughtSong_18 : decode cX7_soughtSong 18 = .ok (.idiv, 1) := by decide +kernel
theorem dX7_soughtSong_19 : decode cX7_soughtSong 19 = .ok (.goto 4, 3) := by decide +kernel
theorem dX7_soughtSong_22 : decode cX7_soughtSong 22 = .ok (.iconst (-1), 1) := by decide +kernel
theorem dX7_soughtSong_23 : decode cX7_soughtSong 23 = .ok (.ireturn, 1) := by decide +kernel
set_option maxRecDepth 100000 in
theorem ggX7_soughtOf_X7_seeks : GoodIn wsX7_soughtOf wsX7_seeks := goodIn_r _ [6, 1, 7] rfl (by decide +kernel)
set_option maxRecDepth 100000 in
theorem gX7_soughtOf_X7_seeks : GoodIn wsX7_soughtOf (wsV RX7 38 RX7 yX7_seeks wsX7_seeks) := goodIn_app (goodIn_of _ (by decide +kernel)) ggX7_soughtOf_X7_seeks
theorem dX7_soughtOf_0 : decode cX7_soughtOf 0 = .ok (.aload_n 0, 1) := by decide +kernel
theorem dX7_soughtOf_1 : decode cX7_soughtOf 1 = .ok (.iload_n 1, 1) := by decide +kernel
theorem dX7_soughtOf_2 : decode cX7_soughtOf 2 = .ok (.invokevirtual 38, 3) := by decide +kernel
theorem dX7_soughtOf_5 : decode cX7_soughtOf 5 = .ok (.ifCond .eq 17, 3) := by decide +kernel
theorem dX7_soughtOf_8 : decode cX7_soughtOf 8 = .ok (.aload_n 0, 1) := by decide +kernel
theorem dX7_soughtOf_9 : decode cX7_soughtOf 9 = .ok (.getfield 11, 3) := by decide +kernel
theorem dX7_soughtOf_12 : decode cX7_soughtOf 12 = .ok (.iconst 1, 1) := by decide +kernel
theorem dX7_soughtOf_13 : decode cX7_soughtOf 13 = .ok (.iload_n 1, 1) := by decide +kernel
theorem dX7_soughtOf_14 : decode cX7_soughtOf 14 = .ok (.iadd, 1) := by decide +kernel
theorem dX7_soughtOf_15 : decode cX7_soughtOf 15 = .ok (.iaload, 1) := by decide +kernel
theorem dX7_soughtOf_16 : decode cX7_soughtOf 16 = .ok (.bipush 7, 2) := by decide +kernel
theorem dX7_soughtOf_18 : decode cX7_soughtOf 18 = .ok (.irem, 1) := by decide +kernel
theorem dX7_soughtOf_19 : decode cX7_soughtOf 19 = .ok (.goto 4, 3) := by decide +kernel
theorem dX7_soughtOf_22 : decode cX7_soughtOf 22 = .ok (.iconst (-1), 1) := by decide +kernel
theorem dX7_soughtOf_23 : decode cX7_soughtOf 23 = .ok (.ireturn, 1) := by decide +kernel
theorem dX7_setSought_0 : decode cX7_setSought 0 = .ok (.aload_n 0, 1) := by decide +kernel
theorem dX7_setSought_1 : decode cX7_setSought 1 = .ok (.getfield 11, 3) := by decide +kernel
theorem dX7_setSought_4 : decode cX7_setSought 4 = .ok (.iconst 1, 1) := by decide +kernel
theorem dX7_setSought_5 : decode cX7_setSought 5 = .ok (.iload_n 1, 1) := by decide +kernel
theorem dX7_setSought_6 : decode cX7_setSought 6 = .ok (.iadd, 1) := by decide +kernel
theorem dX7_setSought_7 : decode cX7_setSought 7 = .ok (.iload_n 2, 1) := by decide +kernel
theorem dX7_setSought_8 : decode cX7_setSought 8 = .ok (.bipush 7, 2) := by decide +kernel
theorem dX7_setSought_10 : decode cX7_setSought 10 = .ok (.imul, 1) := by decide +kernel
theorem dX7_setSought_11 : decode cX7_setSought 11 = .ok (.iload_n 3, 1) := by decide +kernel
theorem dX7_setSought_12 : decode cX7_setSought 12 = .ok (.iadd, 1) := by decide +kernel
theorem dX7_setSought_13 : decode cX7_setSought 13 = .ok (.iastore, 1) := by decide +kernel
theorem dX7_setSought_14 : decode cX7_setSought 14 = .ok (.return_, 1) := by decide +kernel
theorem dX7_seekNothing_0 : decode cX7_seekNothing 0 = .ok (.aload_n 0, 1) := by decide +kernel
theorem dX7_seekNothing_1 : decode cX7_seekNothing 1 = .ok (.getfield 11, 3) := by decide +kernel
theorem dX7_seekNothing_4 : decode cX7_seekNothing 4 = .ok (.iconst 1, 1) := by decide +kernel
theorem dX7_seekNothing_5 : decode cX7_seekNothing 5 = .ok (.iload_n 1, 1) := by decide +kernel
theorem dX7_seekNothing_6 : decode cX7_seekNothing 6 = .ok (.iadd, 1) := by decide +kernel
theorem dX7_seekNothing_7 : decode cX7_seekNothing 7 = .ok (.iconst (-1), 1) := by decide +kernel
theorem dX7_seekNothing_8 : decode cX7_seekNothing 8 = .ok (.iastore, 1) := by decide +kernel
theorem dX7_seekNothing_9 : decode cX7_seekNothing 9 = .ok (.return_, 1) := by decide +kernel
theorem dX8_init_0 : decode cX8_init 0 = .ok (.aload_n 0, 1) := by decide +kernel
theorem dX8_init_1 : decode cX8_init 1 = .ok (.invokespecial 3, 3) := by decide +kernel
theorem dX8_init_4 : decode cX8_init 4 = .ok (.aload_n 0, 1) := by decide +kernel
theorem dX8_init_5 : decode cX8_init 5 = .ok (.iconst 0, 1) := by decide +kernel
theorem dX8_init_6 : decode cX8_init 6 = .ok (.putfield 9, 3) := by decide +kernel
theorem dX8_init_9 : decode cX8_init 9 = .ok (.aload_n 0, 1) := by decide +kernel
theorem dX8_init_10 : decode cX8_init 10 = .ok (.iconst 0, 1) := by decide +kernel
theorem dX8_init_11 : decode cX8_init 11 = .ok (.putfield 15, 3) := by decide +kernel
theorem dX8_init_14 : decode cX8_init 14 = .ok (.aload_n 0, 1) := by decide +kernel
theorem dX8_init_15 : decode cX8_init 15 = .ok (.iconst 0, 1) := by decide +kernel
theorem dX8_init_16 : decode cX8_init 16 = .ok (.putfield 18, 3) := by decide +kernel
theorem dX8_init_19 : decode cX8_init 19 = .ok (.aload_n 0, 1) := by decide +kernel
theorem dX8_init_20 : decode cX8_init 20 = .ok (.iconst 0, 1) := by decide +kernel
theorem dX8_init_21 : decode cX8_init 21 = .ok (.putfield 21, 3) := by decide +kernel
theorem dX8_init_24 : decode cX8_init 24 = .ok (.aload_n 0, 1) := by decide +kernel
theorem dX8_init_25 : decode cX8_init 25 = .ok (.iconst 0, 1) := by decide +kernel
theorem dX8_init_26 : decode cX8_init 26 = .ok (.putfield 24, 3) := by decide +kernel
theorem dX8_init_29 : decode cX8_init 29 = .ok (.aload_n 0, 1) := by decide +kernel
theorem dX8_init_30 : decode cX8_init 30 = .ok (.bipush 32, 2) := by decide +kernel
theorem dX8_init_32 : decode cX8_init 32 = .ok (.putfield 27, 3) := by decide +kernel
theorem dX8_init_35 : decode cX8_init 35 = .ok (.aload_n 0, 1) := by decide +kernel
theorem dX8_init_36 : decode cX8_init 36 = .ok (.iconst 0, 1) := by decide +kernel
theorem dX8_init_37 : decode cX8_init 37 = .ok (.putfield 31, 3) := by decide +kernel
theorem dX8_init_40 : decode cX8_init 40 = .ok (.aload_n 0, 1) := by decide +kernel
theorem dX8_init_41 : decode cX8_init 41 = .ok (.iconst (-1), 1) := by decide +kernel
theorem dX8_init_42 : decode cX8_init 42 = .ok (.putfield 34, 3) := by decide +kernel
theorem dX8_init_45 : decode cX8_init 45 = .ok (.aload_n 0, 1) := by decide +kernel
theorem dX8_init_46 : decode cX8_init 46 = .ok (.aload_n 1, 1) := by decide +kernel
theorem dX8_init_47 : decode cX8_init 47 = .ok (.putfield 37, 3) := by decide +kernel
theorem dX8_init_50 : decode cX8_init 50 = .ok (.return_, 1) := by decide +kernel
set_option maxRecDepth 100000 in
theorem ggX8_begin_X8_next : GoodIn wsX8_begin wsX8_next := goodIn_r _ [15, 8, 7, 6, 1, 16, 17, 18, 14, 19, 20, 21, 22, 23, 24, 25, 26, 27, 28, 29, 30, 31, 32, 33, 34, 35, 36, 37, 38, 39, 40, 41, 42, 43, 44, 45, 46, 47, 48, 49, 50, 51, 52, 53, 54, 55, 56, 57, 58, 59, 60, 61, 62, 63, 64, 65, 66, 4, 67, 68, 3, 5, 69, 70, 71, 72, 73, 74, 75, 76, 77, 78, 79, 80, 81, 82, 83, 84, 85, 86, 87, 88, 89, 90, 91, 92, 93, 94, 95, 96, 97, 98, 99, 100, 101, 102, 103, 104, 105, 106, 107, 108, 109, 110, 111, 112, 113, 114, 115, 116, 117, 118, 119, 120, 121, 122, 123, 124, 125, 126, 127, 128, 129, 130, 131] rfl (by decide +kernel)
set_option maxRecDepth 100000 in
theorem gX8_begin_X8_next : GoodIn wsX8_begin (wsV RX8 47 RX8 yX8_next wsX8_next) := goodIn_app (goodIn_of _ (by decide +kernel)) ggX8_begin_X8_next
theorem dX8_begin_0 : decode cX8_begin 0 = .ok (.aload_n 0, 1) := by decide +kernel
theorem dX8_begin_1 : decode cX8_begin 1 = .ok (.iload_n 1, 1) := by decide +kernel
theorem dX8_begin_2 : decode cX8_begin 2 = .ok (.aload_n 0, 1) := by decide +kernel
theorem dX8_begin_3 : decode cX8_begin 3 = .ok (.getfield 37, 3) := by decide +kernel
theorem dX8_begin_6 : decode cX8_begin 6 = .ok (.arraylength, 1) := by decide +kernel
theorem dX8_begin_7 : decode cX8_begin 7 = .ok (.invokestatic 41, 3) := by decide +kernel
theorem dX8_begin_10 : decode cX8_begin 10 = .ok (.putfield 9, 3) := by decide +kernel
theorem dX8_begin_13 : decode cX8_begin 13 = .ok (.aload_n 0, 1) := by decide +kernel
theorem dX8_begin_14 : decode cX8_begin 14 = .ok (.iconst 0, 1) := by decide +kernel
theorem dX8_begin_15 : decode cX8_begin 15 = .ok (.putfield 15, 3) := by decide +kernel
theorem dX8_begin_18 : decode cX8_begin 18 = .ok (.aload_n 0, 1) := by decide +kernel
theorem dX8_begin_19 : decode cX8_begin 19 = .ok (.iconst 0, 1) := by decide +kernel
theorem dX8_begin_20 : decode cX8_begin 20 = .ok (.putfield 18, 3) := by decide +kernel
theorem dX8_begin_23 : decode cX8_begin 23 = .ok (.aload_n 0, 1) := by decide +kernel
theorem dX8_begin_24 : decode cX8_begin 24 = .ok (.iconst 0, 1) := by decide +kernel
theorem dX8_begin_25 : decode cX8_begin 25 = .ok (.putfield 31, 3) := by decide +kernel
theorem dX8_begin_28 : decode cX8_begin 28 = .ok (.aload_n 0, 1) := by decide +kernel
theorem dX8_begin_29 : decode cX8_begin 29 = .ok (.iconst (-1), 1) := by decide +kernel
theorem dX8_begin_30 : decode cX8_begin 30 = .ok (.putfield 34, 3) := by decide +kernel
theorem dX8_begin_33 : decode cX8_begin 33 = .ok (.aload_n 0, 1) := by decide +kernel
theorem dX8_begin_34 : decode cX8_begin 34 = .ok (.invokevirtual 47, 3) := by decide +kernel
theorem dX8_begin_37 : decode cX8_begin 37 = .ok (.return_, 1) := by decide +kernel
theorem dX8_fail_0 : decode cX8_fail 0 = .ok (.aload_n 0, 1) := by decide +kernel
theorem dX8_fail_1 : decode cX8_fail 1 = .ok (.getfield 31, 3) := by decide +kernel
theorem dX8_fail_4 : decode cX8_fail 4 = .ok (.ifCond .ne 21, 3) := by decide +kernel
theorem dX8_fail_7 : decode cX8_fail 7 = .ok (.aload_n 0, 1) := by decide +kernel
theorem dX8_fail_8 : decode cX8_fail 8 = .ok (.iload_n 1, 1) := by decide +kernel
theorem dX8_fail_9 : decode cX8_fail 9 = .ok (.putfield 31, 3) := by decide +kernel
theorem dX8_fail_12 : decode cX8_fail 12 = .ok (.aload_n 0, 1) := by decide +kernel
theorem dX8_fail_13 : decode cX8_fail 13 = .ok (.aload_n 0, 1) := by decide +kernel
theorem dX8_fail_14 : decode cX8_fail 14 = .ok (.getfield 21, 3) := by decide +kernel
theorem dX8_fail_17 : decode cX8_fail 17 = .ok (.putfield 34, 3) := by decide +kernel
theorem dX8_fail_20 : decode cX8_fail 20 = .ok (.aload_n 0, 1) := by decide +kernel
theorem dX8_fail_21 : decode cX8_fail 21 = .ok (.iconst 5, 1) := by decide +kernel
theorem dX8_fail_22 : decode cX8_fail 22 = .ok (.putfield 18, 3) := by decide +kernel
theorem dX8_fail_25 : decode cX8_fail 25 = .ok (.return_, 1) := by decide +kernel
theorem dX8_goesOn_0 : decode cX8_goesOn 0 = .ok (.aload_n 0, 1) := by decide +kernel
theorem dX8_goesOn_1 : decode cX8_goesOn 1 = .ok (.getfield 18, 3) := by decide +kernel
theorem dX8_goesOn_4 : decode cX8_goesOn 4 = .ok (.ifCond .eq 15, 3) := by decide +kernel
theorem dX8_goesOn_7 : decode cX8_goesOn 7 = .ok (.aload_n 0, 1) := by decide +kernel
theorem dX8_goesOn_8 : decode cX8_goesOn 8 = .ok (.getfield 18, 3) := by decide +kernel
theorem dX8_goesOn_11 : decode cX8_goesOn 11 = .ok (.iconst 5, 1) := by decide +kernel
theorem dX8_goesOn_12 : decode cX8_goesOn 12 = .ok (.if_icmp .eq 7, 3) := by decide +kernel
theorem dX8_goesOn_15 : decode cX8_goesOn 15 = .ok (.iconst 1, 1) := by decide +kernel
theorem dX8_goesOn_16 : decode cX8_goesOn 16 = .ok (.goto 4, 3) := by decide +kernel
theorem dX8_goesOn_19 : decode cX8_goesOn 19 = .ok (.iconst 0, 1) := by decide +kernel
theorem dX8_goesOn_20 : decode cX8_goesOn 20 = .ok (.ireturn, 1) := by decide +kernel
set_option maxRecDepth 100000 in
theorem ggX8_next_X8_isLetter : GoodIn wsX8_next wsX8_isLetter := goodIn_r _ [9] rfl (by decide +kernel)
set_option maxRecDepth 100000 in
theorem gX8_next_X8_isLetter : GoodIn wsX8_next (va_wsS RX8 50 yX8_isLetter wsX8_isLetter) := goodIn_app (goodIn_of _ (by decide +kernel)) ggX8_next_X8_isLetter
set_option maxRecDepth 100000 in
theorem ggX8_next_X8_takeWord : GoodIn wsX8_next wsX8_takeWord := goodIn_r _ [13, 1, 2, 3, 4, 6, 7, 8, 9, 116, 117, 118, 119, 120, 121, 122, 123, 124] rfl (by decide +kernel)
set_option maxRecDepth 100000 in
theorem gX8_next_X8_takeWord : GoodIn wsX8_next (wsV RX8 54 RX8 yX8_takeWord wsX8_takeWord) := goodIn_app (goodIn_of _ (by decide +kernel)) ggX8_next_X8_takeWord
set_option maxRecDepth 100000 in
theorem ggX8_next_X8_isDigit : GoodIn wsX8_next wsX8_isDigit := goodIn_r _ [16] rfl (by decide +kernel)
set_option maxRecDepth 100000 in
theorem gX8_next_X8_isDigit : GoodIn wsX8_next (va_wsS RX8 57 yX8_isDigit wsX8_isDigit) := goodIn_app (goodIn_of _ (by decide +kernel)) ggX8_next_X8_isDigit
set_option maxRecDepth 100000 in
theorem ggX8_next_X8_takeNumber : GoodIn wsX8_next wsX8_takeNumber := goodIn_r _ [20, 1, 21, 2, 3, 4, 5, 14, 15, 8, 16, 116, 117, 118, 119, 120, 121, 122, 123, 124] rfl (by decide +kernel)
set_option maxRecDepth 100000 in
theorem gX8_next_X8_takeNumber : GoodIn wsX8_next (wsV RX8 60 RX8 yX8_takeNumber wsX8_takeNumber) := goodIn_app (goodIn_of _ (by decide +kernel)) ggX8_next_X8_takeNumber
set_option maxRecDepth 100000 in
theorem ggX8_next_X8_takeSign : GoodIn wsX8_next wsX8_takeSign := goodIn_r _ [25, 4, 2, 26, 1, 27, 28, 29, 30, 31, 32, 33, 34, 35, 36, 37, 38, 39, 40, 41, 42, 43, 44, 45, 46, 47, 48, 49, 50, 51, 52, 53, 54, 55, 56, 57, 58, 59, 60, 61, 62, 63, 64, 65, 66, 67, 68, 69, 70, 71, 72, 73, 74, 75, 76, 77, 78, 79, 80, 81, 82, 83, 84, 85, 86, 87, 88, 89, 90, 91, 92, 93, 94, 95, 96, 97, 98, 99, 100, 101, 102, 103, 104, 105, 106, 107, 108, 109, 110, 111, 112, 113, 114, 115, 116, 117, 118, 119, 120, 121, 122, 123, 124] rfl (by decide +kernel)
set_option maxRecDepth 100000 in
theorem gX8_next_X8_takeSign : GoodIn wsX8_next (wsV RX8 63 RX8 yX8_takeSign wsX8_takeSign) := goodIn_app (goodIn_of _ (by decide +kernel)) ggX8_next_X8_takeSign
theorem dX8_next_0 : decode cX8_next 0 = .ok (.aload_n 0, 1) := by decide +kernel
theorem dX8_next_1 : decode cX8_next 1 = .ok (.getfield 18, 3) := by decide +kernel
theorem dX8_next_4 : decode cX8_next 4 = .ok (.iconst 5, 1) := by decide +kernel
theorem dX8_next_5 : decode cX8_next 5 = .ok (.if_icmp .ne 4, 3) := by decide +kernel
theorem dX8_next_8 : decode cX8_next 8 = .ok (.return_, 1) := by decide +kernel
theorem dX8_next_9 : decode cX8_next 9 = .ok (.aload_n 0, 1) := by decide +kernel
theorem dX8_next_10 : decode cX8_next 10 = .ok (.getfield 15, 3) := by decide +kernel
theorem dX8_next_13 : decode cX8_next 13 = .ok (.aload_n 0, 1) := by decide +kernel
theorem dX8_next_14 : decode cX8_next 14 = .ok (.getfield 9, 3) := by decide +kernel
theorem dX8_next_17 : decode cX8_next 17 = .ok (.if_icmp .ge 44, 3) := by decide +kernel
theorem dX8_next_20 : decode cX8_next 20 = .ok (.aload_n 0, 1) := by decide +kernel
theorem dX8_next_21 : decode cX8_next 21 = .ok (.getfield 37, 3) := by decide +kernel
theorem dX8_next_24 : decode cX8_next 24 = .ok (.aload_n 0, 1) := by decide +kernel
