theorem dX0_init_0 : decode cX0_init 0 = .ok (.aload_n 0, 1) := by decide +kernel
theorem dX0_init_1 : decode cX0_init 1 = .ok (.invokespecial 1, 3) := by decide +kernel
theorem dX0_init_4 : decode cX0_init 4 = .ok (.aload_n 0, 1) := by decide +kernel
theorem dX0_init_5 : decode cX0_init 5 = .ok (.aload_n 1, 1) := by decide +kernel
theorem dX0_init_6 : decode cX0_init 6 = .ok (.putfield 7, 3) := by decide +kernel
theorem dX0_init_9 : decode cX0_init 9 = .ok (.aload_n 0, 1) := by decide +kernel
theorem dX0_init_10 : decode cX0_init 10 = .ok (.iload_n 2, 1) := by decide +kernel
theorem dX0_init_11 : decode cX0_init 11 = .ok (.putfield 13, 3) := by decide +kernel
theorem dX0_init_14 : decode cX0_init 14 = .ok (.aload_n 0, 1) := by decide +kernel
theorem dX0_init_15 : decode cX0_init 15 = .ok (.iload_n 3, 1) := by decide +kernel
theorem dX0_init_16 : decode cX0_init 16 = .ok (.i2l, 1) := by decide +kernel
theorem dX0_init_17 : decode cX0_init 17 = .ok (.putfield 17, 3) := by decide +kernel
theorem dX0_init_20 : decode cX0_init 20 = .ok (.return_, 1) := by decide +kernel
set_option maxRecDepth 20000 in
theorem ggX1_init_Jx4a65c_init_da8c8 : GoodIn wsX1_init wsJx4a65c_init_da8c8 := goodIn_r _ [17, 18, 19, 20, 21, 22, 23, 24, 25, 26, 27, 28, 29, 2, 3, 43, 44, 45] (by decide +kernel) (by decide +kernel)
set_option maxRecDepth 20000 in
theorem gX1_init_Jx4a65c_init_da8c8 : GoodIn wsX1_init (wsJx4a65c_init_da8c8) := ggX1_init_Jx4a65c_init_da8c8
set_option maxRecDepth 20000 in
theorem ggX1_init_X5_init : GoodIn wsX1_init wsX5_init := goodIn_r _ [31, 32, 2, 3, 33, 5, 6, 34, 35, 36, 37, 38, 39, 16, 17, 18, 19, 20, 21, 22, 23, 24, 25, 26, 27, 28, 29, 40, 41, 42, 43, 44, 45, 52, 53, 54, 55, 56, 57, 58, 59] (by decide +kernel) (by decide +kernel)
set_option maxRecDepth 20000 in
theorem gX1_init_X5_init_n21 : GoodIn wsX1_init (wsX5_init) := ggX1_init_X5_init
theorem dX1_init_0 : decode cX1_init 0 = .ok (.aload_n 0, 1) := by decide +kernel
theorem dX1_init_1 : decode cX1_init 1 = .ok (.invokespecial 1, 3) := by decide +kernel
theorem dX1_init_4 : decode cX1_init 4 = .ok (.aload_n 0, 1) := by decide +kernel
theorem dX1_init_5 : decode cX1_init 5 = .ok (.new 7, 3) := by decide +kernel
theorem dX1_init_8 : decode cX1_init 8 = .ok (.dup, 1) := by decide +kernel
theorem dX1_init_9 : decode cX1_init 9 = .ok (.invokespecial 9, 3) := by decide +kernel
theorem dX1_init_12 : decode cX1_init 12 = .ok (.putfield 10, 3) := by decide +kernel
theorem dX1_init_15 : decode cX1_init 15 = .ok (.aload_n 0, 1) := by decide +kernel
theorem dX1_init_16 : decode cX1_init 16 = .ok (.new 7, 3) := by decide +kernel
theorem dX1_init_19 : decode cX1_init 19 = .ok (.dup, 1) := by decide +kernel
theorem dX1_init_20 : decode cX1_init 20 = .ok (.invokespecial 9, 3) := by decide +kernel
theorem dX1_init_23 : decode cX1_init 23 = .ok (.putfield 16, 3) := by decide +kernel
theorem dX1_init_26 : decode cX1_init 26 = .ok (.aload_n 0, 1) := by decide +kernel
theorem dX1_init_27 : decode cX1_init 27 = .ok (.new 19, 3) := by decide +kernel
theorem dX1_init_30 : decode cX1_init 30 = .ok (.dup, 1) := by decide +kernel
theorem dX1_init_31 : decode cX1_init 31 = .ok (.invokespecial 21, 3) := by decide +kernel
theorem dX1_init_34 : decode cX1_init 34 = .ok (.putfield 22, 3) := by decide +kernel
theorem dX1_init_37 : decode cX1_init 37 = .ok (.aload_n 0, 1) := by decide +kernel
theorem dX1_init_38 : decode cX1_init 38 = .ok (.iload_n 1, 1) := by decide +kernel
theorem dX1_init_39 : decode cX1_init 39 = .ok (.putfield 26, 3) := by decide +kernel
theorem dX1_init_42 : decode cX1_init 42 = .ok (.aload_n 0, 1) := by decide +kernel
theorem dX1_init_43 : decode cX1_init 43 = .ok (.iload_n 2, 1) := by decide +kernel
theorem dX1_init_44 : decode cX1_init 44 = .ok (.putfield 30, 3) := by decide +kernel
theorem dX1_init_47 : decode cX1_init 47 = .ok (.return_, 1) := by decide +kernel
set_option maxRecDepth 20000 in
theorem ggX2_init_Jx4a65c_init_da8c8 : GoodIn wsX2_init wsJx4a65c_init_da8c8 := goodIn_r _ [14, 15, 16, 17, 18, 19, 20, 21, 22, 23, 24, 25, 26, 2, 3, 30, 31, 32] (by decide +kernel) (by decide +kernel)
set_option maxRecDepth 20000 in
theorem gX2_init_Jx4a65c_init_da8c8 : GoodIn wsX2_init (wsJx4a65c_init_da8c8) := ggX2_init_Jx4a65c_init_da8c8
set_option maxRecDepth 20000 in
theorem ggX2_init_X6_init : GoodIn wsX2_init wsX6_init := goodIn_r _ [28, 29, 2, 3] (by decide +kernel) (by decide +kernel)
set_option maxRecDepth 20000 in
theorem gX2_init_X6_init_n18 : GoodIn wsX2_init (wsX6_init) := ggX2_init_X6_init
theorem dX2_init_0 : decode cX2_init 0 = .ok (.aload_n 0, 1) := by decide +kernel
theorem dX2_init_1 : decode cX2_init 1 = .ok (.invokespecial 1, 3) := by decide +kernel
theorem dX2_init_4 : decode cX2_init 4 = .ok (.aload_n 0, 1) := by decide +kernel
theorem dX2_init_5 : decode cX2_init 5 = .ok (.new 7, 3) := by decide +kernel
theorem dX2_init_8 : decode cX2_init 8 = .ok (.dup, 1) := by decide +kernel
theorem dX2_init_9 : decode cX2_init 9 = .ok (.invokespecial 9, 3) := by decide +kernel
theorem dX2_init_12 : decode cX2_init 12 = .ok (.putfield 10, 3) := by decide +kernel
theorem dX2_init_15 : decode cX2_init 15 = .ok (.aload_n 0, 1) := by decide +kernel
theorem dX2_init_16 : decode cX2_init 16 = .ok (.new 16, 3) := by decide +kernel
theorem dX2_init_19 : decode cX2_init 19 = .ok (.dup, 1) := by decide +kernel
theorem dX2_init_20 : decode cX2_init 20 = .ok (.invokespecial 18, 3) := by decide +kernel
theorem dX2_init_23 : decode cX2_init 23 = .ok (.putfield 19, 3) := by decide +kernel
theorem dX2_init_26 : decode cX2_init 26 = .ok (.return_, 1) := by decide +kernel
set_option maxRecDepth 20000 in
theorem ggX2_begin_Jx4a65c_clear_da8c8 : GoodIn wsX2_begin wsJx4a65c_clear_da8c8 := goodIn_r _ [12, 13, 14, 15, 16, 35, 36, 37] (by decide +kernel) (by decide +kernel)
set_option maxRecDepth 20000 in
theorem gX2_begin_Jx4a65c_clear_da8c8 : GoodIn wsX2_begin (wsV RX2 33 RJx4a65c yJx4a65c_clear_da8c8 wsJx4a65c_clear_da8c8) := goodIn_app (goodIn_of _ (by decide +kernel)) ggX2_begin_Jx4a65c_clear_da8c8
set_option maxRecDepth 20000 in
theorem ggX2_begin_X6_clear : GoodIn wsX2_begin wsX6_clear := goodIn_r _ [21, 22, 23, 24, 25, 38, 39, 40, 41] (by decide +kernel) (by decide +kernel)
set_option maxRecDepth 20000 in
theorem gX2_begin_X6_clear : GoodIn wsX2_begin (wsV RX2 36 RX6 yX6_clear wsX6_clear) := goodIn_app (goodIn_of _ (by decide +kernel)) ggX2_begin_X6_clear
theorem dX2_begin_0 : decode cX2_begin 0 = .ok (.aload_n 0, 1) := by decide +kernel
theorem dX2_begin_1 : decode cX2_begin 1 = .ok (.iload_n 1, 1) := by decide +kernel
theorem dX2_begin_2 : decode cX2_begin 2 = .ok (.putfield 23, 3) := by decide +kernel
theorem dX2_begin_5 : decode cX2_begin 5 = .ok (.aload_n 0, 1) := by decide +kernel
theorem dX2_begin_6 : decode cX2_begin 6 = .ok (.iload_n 2, 1) := by decide +kernel
theorem dX2_begin_7 : decode cX2_begin 7 = .ok (.putfield 27, 3) := by decide +kernel
theorem dX2_begin_10 : decode cX2_begin 10 = .ok (.aload_n 0, 1) := by decide +kernel
theorem dX2_begin_11 : decode cX2_begin 11 = .ok (.iload_n 3, 1) := by decide +kernel
theorem dX2_begin_12 : decode cX2_begin 12 = .ok (.putfield 30, 3) := by decide +kernel
theorem dX2_begin_15 : decode cX2_begin 15 = .ok (.aload_n 0, 1) := by decide +kernel
theorem dX2_begin_16 : decode cX2_begin 16 = .ok (.getfield 10, 3) := by decide +kernel
theorem dX2_begin_19 : decode cX2_begin 19 = .ok (.invokevirtual 33, 3) := by decide +kernel
theorem dX2_begin_22 : decode cX2_begin 22 = .ok (.aload_n 0, 1) := by decide +kernel
theorem dX2_begin_23 : decode cX2_begin 23 = .ok (.getfield 19, 3) := by decide +kernel
theorem dX2_begin_26 : decode cX2_begin 26 = .ok (.invokevirtual 36, 3) := by decide +kernel
theorem dX2_begin_29 : decode cX2_begin 29 = .ok (.aload_n 0, 1) := by decide +kernel
theorem dX2_begin_30 : decode cX2_begin 30 = .ok (.iconst (-1), 1) := by decide +kernel
theorem dX2_begin_31 : decode cX2_begin 31 = .ok (.putfield 37, 3) := by decide +kernel
theorem dX2_begin_34 : decode cX2_begin 34 = .ok (.aload_n 0, 1) := by decide +kernel
theorem dX2_begin_35 : decode cX2_begin 35 = .ok (.iconst 1, 1) := by decide +kernel
theorem dX2_begin_36 : decode cX2_begin 36 = .ok (.putfield 40, 3) := by decide +kernel
theorem dX2_begin_39 : decode cX2_begin 39 = .ok (.return_, 1) := by decide +kernel
set_option maxRecDepth 20000 in
theorem ggX2_add_Jx4a65c_add_9ea2d : GoodIn wsX2_add wsJx4a65c_add_9ea2d := goodIn_r _ [10, 11, 12, 13, 14, 15, 16, 17, 9, 18, 19, 20, 21, 22, 23, 24, 25, 26, 27, 28, 29, 30, 31, 32, 33, 34, 35, 36, 37, 38, 39, 40, 41, 42, 43, 44, 45, 46, 47, 48, 49, 50, 51, 52, 53, 54, 55, 56, 57, 58, 59, 60, 61, 92, 93, 94] (by decide +kernel) (by decide +kernel)
set_option maxRecDepth 20000 in
theorem gX2_add_Jx4a65c_add_9ea2d : GoodIn wsX2_add (wsV RX2 44 RJx4a65c yJx4a65c_add_9ea2d wsJx4a65c_add_9ea2d) := goodIn_app (goodIn_of _ (by decide +kernel)) ggX2_add_Jx4a65c_add_9ea2d
set_option maxRecDepth 20000 in
theorem ggX2_add_X6_add : GoodIn wsX2_add wsX6_add := goodIn_r _ [66, 67, 68, 69, 70, 71, 72, 73, 95, 96, 97, 98, 83, 84, 85, 86, 87, 88, 89, 90, 91] (by decide +kernel) (by decide +kernel)
set_option maxRecDepth 20000 in
theorem gX2_add_X6_add : GoodIn wsX2_add (wsV RX2 48 RX6 yX6_add wsX6_add) := goodIn_app (goodIn_of _ (by decide +kernel)) ggX2_add_X6_add
theorem dX2_add_0 : decode cX2_add 0 = .ok (.aload_n 0, 1) := by decide +kernel
theorem dX2_add_1 : decode cX2_add 1 = .ok (.getfield 10, 3) := by decide +kernel
theorem dX2_add_4 : decode cX2_add 4 = .ok (.aload_n 1, 1) := by decide +kernel
theorem dX2_add_5 : decode cX2_add 5 = .ok (.invokevirtual 44, 3) := by decide +kernel
theorem dX2_add_8 : decode cX2_add 8 = .ok (.pop, 1) := by decide +kernel
theorem dX2_add_9 : decode cX2_add 9 = .ok (.aload_n 0, 1) := by decide +kernel
theorem dX2_add_10 : decode cX2_add 10 = .ok (.getfield 19, 3) := by decide +kernel
theorem dX2_add_13 : decode cX2_add 13 = .ok (.aload_n 1, 1) := by decide +kernel
theorem dX2_add_14 : decode cX2_add 14 = .ok (.invokevirtual 48, 3) := by decide +kernel
theorem dX2_add_17 : decode cX2_add 17 = .ok (.aload_n 1, 1) := by decide +kernel
theorem dX2_add_18 : decode cX2_add 18 = .ok (.getfield 51, 3) := by decide +kernel
theorem dX2_add_21 : decode cX2_add 21 = .ok (.aload_n 0, 1) := by decide +kernel
theorem dX2_add_22 : decode cX2_add 22 = .ok (.getfield 37, 3) := by decide +kernel
theorem dX2_add_25 : decode cX2_add 25 = .ok (.if_icmp .gt 8, 3) := by decide +kernel
theorem dX2_add_28 : decode cX2_add 28 = .ok (.aload_n 0, 1) := by decide +kernel
theorem dX2_add_29 : decode cX2_add 29 = .ok (.iconst 0, 1) := by decide +kernel
theorem dX2_add_30 : decode cX2_add 30 = .ok (.putfield 40, 3) := by decide +kernel
theorem dX2_add_33 : decode cX2_add 33 = .ok (.aload_n 0, 1) := by decide +kernel
theorem dX2_add_34 : decode cX2_add 34 = .ok (.aload_n 1, 1) := by decide +kernel
theorem dX2_add_35 : decode cX2_add 35 = .ok (.getfield 51, 3) := by decide +kernel
theorem dX2_add_38 : decode cX2_add 38 = .ok (.putfield 37, 3) := by decide +kernel
theorem dX2_add_41 : decode cX2_add 41 = .ok (.return_, 1) := by decide +kernel
theorem dX3_init_0 : decode cX3_init 0 = .ok (.aload_n 0, 1) := by decide +kernel
theorem dX3_init_1 : decode cX3_init 1 = .ok (.invokespecial 1, 3) := by decide +kernel
theorem dX3_init_4 : decode cX3_init 4 = .ok (.return_, 1) := by decide +kernel
theorem dX3_goesBefore_0 : decode cX3_goesBefore 0 = .ok (.aload_n 0, 1) := by decide +kernel
theorem dX3_goesBefore_1 : decode cX3_goesBefore 1 = .ok (.getfield 7, 3) := by decide +kernel
theorem dX3_goesBefore_4 : decode cX3_goesBefore 4 = .ok (.aload_n 1, 1) := by decide +kernel
theorem dX3_goesBefore_5 : decode cX3_goesBefore 5 = .ok (.getfield 7, 3) := by decide +kernel
theorem dX3_goesBefore_8 : decode cX3_goesBefore 8 = .ok (.if_icmp .eq 20, 3) := by decide +kernel
theorem dX3_goesBefore_11 : decode cX3_goesBefore 11 = .ok (.aload_n 0, 1) := by decide +kernel
theorem dX3_goesBefore_12 : decode cX3_goesBefore 12 = .ok (.getfield 7, 3) := by decide +kernel
theorem dX3_goesBefore_15 : decode cX3_goesBefore 15 = .ok (.aload_n 1, 1) := by decide +kernel
theorem dX3_goesBefore_16 : decode cX3_goesBefore 16 = .ok (.getfield 7, 3) := by decide +kernel
theorem dX3_goesBefore_19 : decode cX3_goesBefore 19 = .ok (.if_icmp .ge 7, 3) := by decide +kernel
theorem dX3_goesBefore_22 : decode cX3_goesBefore 22 = .ok (.iconst 1, 1) := by decide +kernel
theorem dX3_goesBefore_23 : decode cX3_goesBefore 23 = .ok (.goto 4, 3) := by decide +kernel
theorem dX3_goesBefore_26 : decode cX3_goesBefore 26 = .ok (.iconst 0, 1) := by decide +kernel
theorem dX3_goesBefore_27 : decode cX3_goesBefore 27 = .ok (.ireturn, 1) := by decide +kernel
theorem dX3_goesBefore_28 : decode cX3_goesBefore 28 = .ok (.aload_n 0, 1) := by decide +kernel
theorem dX3_goesBefore_29 : decode cX3_goesBefore 29 = .ok (.getfield 13, 3) := by decide +kernel
theorem dX3_goesBefore_32 : decode cX3_goesBefore 32 = .ok (.getfield 17, 3) := by decide +kernel
theorem dX3_goesBefore_35 : decode cX3_goesBefore 35 = .ok (.aload_n 1, 1) := by decide +kernel
theorem dX3_goesBefore_36 : decode cX3_goesBefore 36 = .ok (.getfield 13, 3) := by decide +kernel
theorem dX3_goesBefore_39 : decode cX3_goesBefore 39 = .ok (.getfield 17, 3) := by decide +kernel
theorem dX3_goesBefore_42 : decode cX3_goesBefore 42 = .ok (.if_icmp .ge 7, 3) := by decide +kernel
theorem dX3_goesBefore_45 : decode cX3_goesBefore 45 = .ok (.iconst 1, 1) := by decide +kernel
theorem dX3_goesBefore_46 : decode cX3_goesBefore 46 = .ok (.goto 4, 3) := by decide +kernel
theorem dX3_goesBefore_49 : decode cX3_goesBefore 49 = .ok (.iconst 0, 1) := by decide +kernel
theorem dX3_goesBefore_50 : decode cX3_goesBefore 50 = .ok (.ireturn, 1) := by decide +kernel
set_option maxRecDepth 20000 in
theorem ggX4_init_X6_init : GoodIn wsX4_init wsX6_init := goodIn_r _ [14, 15, 2, 3] (by decide +kernel) (by decide +kernel)
set_option maxRecDepth 20000 in
theorem gX4_init_X6_init_n19 : GoodIn wsX4_init (wsX6_init) := ggX4_init_X6_init
set_option maxRecDepth 20000 in
theorem ggX4_init_X2_init : GoodIn wsX4_init wsX2_init := goodIn_r _ [17, 18, 2, 3, 19, 20, 21, 22, 23, 7, 8, 24, 25, 26, 27, 28, 29, 30, 31, 32, 33, 34, 35, 36, 37, 38, 39, 13, 14, 15, 61, 62, 63, 52, 53, 54, 55, 56, 57, 58, 59, 60, 48, 49, 50, 51] (by decide +kernel) (by decide +kernel)
set_option maxRecDepth 20000 in
theorem gX4_init_X2_init_n24 : GoodIn wsX4_init (wsX2_init) := ggX4_init_X2_init
theorem dX4_init_0 : decode cX4_init 0 = .ok (.aload_n 0, 1) := by decide +kernel
theorem dX4_init_1 : decode cX4_init 1 = .ok (.invokespecial 3, 3) := by decide +kernel
theorem dX4_init_4 : decode cX4_init 4 = .ok (.aload_n 0, 1) := by decide +kernel
theorem dX4_init_5 : decode cX4_init 5 = .ok (.iconst 4, 1) := by decide +kernel
theorem dX4_init_6 : decode cX4_init 6 = .ok (.anewarray 9, 3) := by decide +kernel
theorem dX4_init_9 : decode cX4_init 9 = .ok (.putfield 11, 3) := by decide +kernel
theorem dX4_init_12 : decode cX4_init 12 = .ok (.aload_n 0, 1) := by decide +kernel
theorem dX4_init_13 : decode cX4_init 13 = .ok (.new 17, 3) := by decide +kernel
theorem dX4_init_16 : decode cX4_init 16 = .ok (.dup, 1) := by decide +kernel
theorem dX4_init_17 : decode cX4_init 17 = .ok (.invokespecial 19, 3) := by decide +kernel
theorem dX4_init_20 : decode cX4_init 20 = .ok (.putfield 20, 3) := by decide +kernel
theorem dX4_init_23 : decode cX4_init 23 = .ok (.iconst 0, 1) := by decide +kernel
theorem dX4_init_24 : decode cX4_init 24 = .ok (.istore_n 1, 1) := by decide +kernel
theorem dX4_init_25 : decode cX4_init 25 = .ok (.iload_n 1, 1) := by decide +kernel
theorem dX4_init_26 : decode cX4_init 26 = .ok (.aload_n 0, 1) := by decide +kernel
theorem dX4_init_27 : decode cX4_init 27 = .ok (.getfield 11, 3) := by decide +kernel
theorem dX4_init_30 : decode cX4_init 30 = .ok (.arraylength, 1) := by decide +kernel
theorem dX4_init_31 : decode cX4_init 31 = .ok (.if_icmp .ge 22, 3) := by decide +kernel
theorem dX4_init_34 : decode cX4_init 34 = .ok (.aload_n 0, 1) := by decide +kernel
theorem dX4_init_35 : decode cX4_init 35 = .ok (.getfield 11, 3) := by decide +kernel
theorem dX4_init_38 : decode cX4_init 38 = .ok (.iload_n 1, 1) := by decide +kernel
theorem dX4_init_39 : decode cX4_init 39 = .ok (.new 9, 3) := by decide +kernel
theorem dX4_init_42 : decode cX4_init 42 = .ok (.dup, 1) := by decide +kernel
theorem dX4_init_43 : decode cX4_init 43 = .ok (.invokespecial 24, 3) := by decide +kernel
theorem dX4_init_46 : decode cX4_init 46 = .ok (.aastore, 1) := by decide +kernel
theorem dX4_init_47 : decode cX4_init 47 = .ok (.iinc 1 1, 3) := by decide +kernel
theorem dX4_init_50 : decode cX4_init 50 = .ok (.goto (-25), 3) := by decide +kernel
theorem dX4_init_53 : decode cX4_init 53 = .ok (.aload_n 0, 1) := by decide +kernel
theorem dX4_init_54 : decode cX4_init 54 = .ok (.aload_n 0, 1) := by decide +kernel
theorem dX4_init_55 : decode cX4_init 55 = .ok (.getfield 11, 3) := by decide +kernel
theorem dX4_init_58 : decode cX4_init 58 = .ok (.iconst 0, 1) := by decide +kernel
theorem dX4_init_59 : decode cX4_init 59 = .ok (.aaload, 1) := by decide +kernel
theorem dX4_init_60 : decode cX4_init 60 = .ok (.putfield 25, 3) := by decide +kernel
theorem dX4_init_63 : decode cX4_init 63 = .ok (.return_, 1) := by decide +kernel
theorem dX4_allows_0 : decode cX4_allows 0 = .ok (.aload_n 0, 1) := by decide +kernel
theorem dX4_allows_1 : decode cX4_allows 1 = .ok (.getfield 29, 3) := by decide +kernel
theorem dX4_allows_4 : decode cX4_allows 4 = .ok (.ifCond .ne 14, 3) := by decide +kernel
theorem dX4_allows_7 : decode cX4_allows 7 = .ok (.iload_n 1, 1) := by decide +kernel
theorem dX4_allows_8 : decode cX4_allows 8 = .ok (.iconst 1, 1) := by decide +kernel
theorem dX4_allows_9 : decode cX4_allows 9 = .ok (.if_icmp .ne 7, 3) := by decide +kernel
theorem dX4_allows_12 : decode cX4_allows 12 = .ok (.iconst 1, 1) := by decide +kernel
theorem dX4_allows_13 : decode cX4_allows 13 = .ok (.goto 4, 3) := by decide +kernel
theorem dX4_allows_16 : decode cX4_allows 16 = .ok (.iconst 0, 1) := by decide +kernel
theorem dX4_allows_17 : decode cX4_allows 17 = .ok (.ireturn, 1) := by decide +kernel
theorem dX4_allows_18 : decode cX4_allows 18 = .ok (.aload_n 0, 1) := by decide +kernel
theorem dX4_allows_19 : decode cX4_allows 19 = .ok (.getfield 33, 3) := by decide +kernel
theorem dX4_allows_22 : decode cX4_allows 22 = .ok (.ifCond .eq 21, 3) := by decide +kernel
theorem dX4_allows_25 : decode cX4_allows 25 = .ok (.iload_n 1, 1) := by decide +kernel
theorem dX4_allows_26 : decode cX4_allows 26 = .ok (.bipush 6, 2) := by decide +kernel
theorem dX4_allows_28 : decode cX4_allows 28 = .ok (.if_icmp .eq 9, 3) := by decide +kernel
theorem dX4_allows_31 : decode cX4_allows 31 = .ok (.iload_n 1, 1) := by decide +kernel
theorem dX4_allows_32 : decode cX4_allows 32 = .ok (.bipush 8, 2) := by decide +kernel
theorem dX4_allows_34 : decode cX4_allows 34 = .ok (.if_icmp .ne 7, 3) := by decide +kernel
theorem dX4_allows_37 : decode cX4_allows 37 = .ok (.iconst 1, 1) := by decide +kernel
theorem dX4_allows_38 : decode cX4_allows 38 = .ok (.goto 4, 3) := by decide +kernel
theorem dX4_allows_41 : decode cX4_allows 41 = .ok (.iconst 0, 1) := by decide +kernel
theorem dX4_allows_42 : decode cX4_allows 42 = .ok (.ireturn, 1) := by decide +kernel
theorem dX4_allows_43 : decode cX4_allows 43 = .ok (.iload_n 1, 1) := by decide +kernel
theorem dX4_allows_44 : decode cX4_allows 44 = .ok (.iconst 5, 1) := by decide +kernel
theorem dX4_allows_45 : decode cX4_allows 45 = .ok (.if_icmp .eq 9, 3) := by decide +kernel
theorem dX4_allows_48 : decode cX4_allows 48 = .ok (.iload_n 1, 1) := by decide +kernel
theorem dX4_allows_49 : decode cX4_allows 49 = .ok (.bipush 9, 2) := by decide +kernel
theorem dX4_allows_51 : decode cX4_allows 51 = .ok (.if_icmp .ne 7, 3) := by decide +kernel
theorem dX4_allows_54 : decode cX4_allows 54 = .ok (.iconst 1, 1) := by decide +kernel
theorem dX4_allows_55 : decode cX4_allows 55 = .ok (.goto 4, 3) := by decide +kernel
theorem dX4_allows_58 : decode cX4_allows 58 = .ok (.iconst 0, 1) := by decide +kernel
theorem dX4_allows_59 : decode cX4_allows 59 = .ok (.ireturn, 1) := by decide +kernel
set_option maxRecDepth 20000 in
theorem ggX4_begin_X6_clear : GoodIn wsX4_begin wsX6_clear := goodIn_r _ [11, 12, 13, 14, 15, 24, 25, 26, 27] (by decide +kernel) (by decide +kernel)
set_option maxRecDepth 20000 in
theorem gX4_begin_X6_clear : GoodIn wsX4_begin (wsV RX4 43 RX6 yX6_clear wsX6_clear) := goodIn_app (goodIn_of _ (by decide +kernel)) ggX4_begin_X6_clear
theorem dX4_begin_0 : decode cX4_begin 0 = .ok (.aload_n 0, 1) := by decide +kernel
theorem dX4_begin_1 : decode cX4_begin 1 = .ok (.iload_n 1, 1) := by decide +kernel
theorem dX4_begin_2 : decode cX4_begin 2 = .ok (.putfield 36, 3) := by decide +kernel
theorem dX4_begin_5 : decode cX4_begin 5 = .ok (.aload_n 0, 1) := by decide +kernel
theorem dX4_begin_6 : decode cX4_begin 6 = .ok (.iload_n 2, 1) := by decide +kernel
theorem dX4_begin_7 : decode cX4_begin 7 = .ok (.putfield 40, 3) := by decide +kernel
theorem dX4_begin_10 : decode cX4_begin 10 = .ok (.aload_n 0, 1) := by decide +kernel
theorem dX4_begin_11 : decode cX4_begin 11 = .ok (.getfield 20, 3) := by decide +kernel
theorem dX4_begin_14 : decode cX4_begin 14 = .ok (.invokevirtual 43, 3) := by decide +kernel
theorem dX4_begin_17 : decode cX4_begin 17 = .ok (.aload_n 0, 1) := by decide +kernel
theorem dX4_begin_18 : decode cX4_begin 18 = .ok (.iconst 0, 1) := by decide +kernel
theorem dX4_begin_19 : decode cX4_begin 19 = .ok (.putfield 46, 3) := by decide +kernel
theorem dX4_begin_22 : decode cX4_begin 22 = .ok (.aload_n 0, 1) := by decide +kernel
theorem dX4_begin_23 : decode cX4_begin 23 = .ok (.iconst 0, 1) := by decide +kernel
theorem dX4_begin_24 : decode cX4_begin 24 = .ok (.putfield 33, 3) := by decide +kernel
theorem dX4_begin_27 : decode cX4_begin 27 = .ok (.aload_n 0, 1) := by decide +kernel
theorem dX4_begin_28 : decode cX4_begin 28 = .ok (.iconst 1, 1) := by decide +kernel
theorem dX4_begin_29 : decode cX4_begin 29 = .ok (.putfield 29, 3) := by decide +kernel
theorem dX4_begin_32 : decode cX4_begin 32 = .ok (.return_, 1) := by decide +kernel
theorem dX4_end_0 : decode cX4_end 0 = .ok (.aload_n 0, 1) := by decide +kernel
theorem dX4_end_1 : decode cX4_end 1 = .ok (.iconst 0, 1) := by decide +kernel
theorem dX4_end_2 : decode cX4_end 2 = .ok (.putfield 29, 3) := by decide +kernel
theorem dX4_end_5 : decode cX4_end 5 = .ok (.return_, 1) := by decide +kernel
set_option maxRecDepth 20000 in
theorem ggX5_init_Jx4a65c_init_da8c8 : GoodIn wsX5_init wsJx4a65c_init_da8c8 := goodIn_r _ [14, 15, 16, 17, 18, 19, 20, 21, 22, 23, 24, 25, 26, 2, 3, 30, 31, 32] (by decide +kernel) (by decide +kernel)
set_option maxRecDepth 20000 in
theorem gX5_init_Jx4a65c_init_da8c8 : GoodIn wsX5_init (wsJx4a65c_init_da8c8) := ggX5_init_Jx4a65c_init_da8c8
set_option maxRecDepth 20000 in
theorem ggX5_init_X6_init : GoodIn wsX5_init wsX6_init := goodIn_r _ [28, 29, 2, 3] (by decide +kernel) (by decide +kernel)
set_option maxRecDepth 20000 in
theorem gX5_init_X6_init_n18 : GoodIn wsX5_init (wsX6_init) := ggX5_init_X6_init
theorem dX5_init_0 : decode cX5_init 0 = .ok (.aload_n 0, 1) := by decide +kernel
theorem dX5_init_1 : decode cX5_init 1 = .ok (.invokespecial 1, 3) := by decide +kernel
theorem dX5_init_4 : decode cX5_init 4 = .ok (.aload_n 0, 1) := by decide +kernel
theorem dX5_init_5 : decode cX5_init 5 = .ok (.new 7, 3) := by decide +kernel
theorem dX5_init_8 : decode cX5_init 8 = .ok (.dup, 1) := by decide +kernel
theorem dX5_init_9 : decode cX5_init 9 = .ok (.invokespecial 9, 3) := by decide +kernel
theorem dX5_init_12 : decode cX5_init 12 = .ok (.putfield 10, 3) := by decide +kernel
theorem dX5_init_15 : decode cX5_init 15 = .ok (.aload_n 0, 1) := by decide +kernel
theorem dX5_init_16 : decode cX5_init 16 = .ok (.new 16, 3) := by decide +kernel
theorem dX5_init_19 : decode cX5_init 19 = .ok (.dup, 1) := by decide +kernel
theorem dX5_init_20 : decode cX5_init 20 = .ok (.invokespecial 18, 3) := by decide +kernel
theorem dX5_init_23 : decode cX5_init 23 = .ok (.putfield 19, 3) := by decide +kernel
theorem dX5_init_26 : decode cX5_init 26 = .ok (.return_, 1) := by decide +kernel
set_option maxRecDepth 20000 in
theorem ggX5_clear_Jx4a65c_clear_da8c8 : GoodIn wsX5_clear wsJx4a65c_clear_da8c8 := goodIn_r _ [9, 10, 11, 12, 13, 27, 28, 29] (by decide +kernel) (by decide +kernel)
set_option maxRecDepth 20000 in
theorem gX5_clear_Jx4a65c_clear_da8c8 : GoodIn wsX5_clear (wsV RX5 23 RJx4a65c yJx4a65c_clear_da8c8 wsJx4a65c_clear_da8c8) := goodIn_app (goodIn_of _ (by decide +kernel)) ggX5_clear_Jx4a65c_clear_da8c8
set_option maxRecDepth 20000 in
theorem ggX5_clear_X6_clear : GoodIn wsX5_clear wsX6_clear := goodIn_r _ [18, 19, 20, 21, 22, 30, 31, 32, 33] (by decide +kernel) (by decide +kernel)
set_option maxRecDepth 20000 in
theorem gX5_clear_X6_clear : GoodIn wsX5_clear (wsV RX5 26 RX6 yX6_clear wsX6_clear) := goodIn_app (goodIn_of _ (by decide +kernel)) ggX5_clear_X6_clear
theorem dX5_clear_0 : decode cX5_clear 0 = .ok (.aload_n 0, 1) := by decide +kernel
theorem dX5_clear_1 : decode cX5_clear 1 = .ok (.getfield 10, 3) := by decide +kernel
theorem dX5_clear_4 : decode cX5_clear 4 = .ok (.invokevirtual 23, 3) := by decide +kernel
theorem dX5_clear_7 : decode cX5_clear 7 = .ok (.aload_n 0, 1) := by decide +kernel
theorem dX5_clear_8 : decode cX5_clear 8 = .ok (.getfield 19, 3) := by decide +kernel
theorem dX5_clear_11 : decode cX5_clear 11 = .ok (.invokevirtual 26, 3) := by decide +kernel
theorem dX5_clear_14 : decode cX5_clear 14 = .ok (.aload_n 0, 1) := by decide +kernel
theorem dX5_clear_15 : decode cX5_clear 15 = .ok (.iconst 0, 1) := by decide +kernel
theorem dX5_clear_16 : decode cX5_clear 16 = .ok (.putfield 27, 3) := by decide +kernel
theorem dX5_clear_19 : decode cX5_clear 19 = .ok (.aload_n 0, 1) := by decide +kernel
theorem dX5_clear_20 : decode cX5_clear 20 = .ok (.iconst 0, 1) := by decide +kernel
theorem dX5_clear_21 : decode cX5_clear 21 = .ok (.putfield 31, 3) := by decide +kernel
theorem dX5_clear_24 : decode cX5_clear 24 = .ok (.return_, 1) := by decide +kernel
set_option maxRecDepth 20000 in
theorem ggX5_size_Jx4a65c_size_8abf5 : GoodIn wsX5_size wsJx4a65c_size_8abf5 := goodIn_r _ [6, 7, 12, 13, 14] (by decide +kernel) (by decide +kernel)
set_option maxRecDepth 20000 in
theorem gX5_size_Jx4a65c_size_8abf5 : GoodIn wsX5_size (wsV RX5 34 RJx4a65c yJx4a65c_size_8abf5 wsJx4a65c_size_8abf5) := goodIn_app (goodIn_of _ (by decide +kernel)) ggX5_size_Jx4a65c_size_8abf5
theorem dX5_size_0 : decode cX5_size 0 = .ok (.aload_n 0, 1) := by decide +kernel
theorem dX5_size_1 : decode cX5_size 1 = .ok (.getfield 10, 3) := by decide +kernel
theorem dX5_size_4 : decode cX5_size 4 = .ok (.invokevirtual 34, 3) := by decide +kernel
theorem dX5_size_7 : decode cX5_size 7 = .ok (.ireturn, 1) := by decide +kernel
set_option maxRecDepth 20000 in
theorem ggX5_isDone_Jx4a65c_size_8abf5 : GoodIn wsX5_isDone wsJx4a65c_size_8abf5 := goodIn_r _ [7, 8, 13, 14, 15] (by decide +kernel) (by decide +kernel)
set_option maxRecDepth 20000 in
theorem gX5_isDone_Jx4a65c_size_8abf5 : GoodIn wsX5_isDone (wsV RX5 34 RJx4a65c yJx4a65c_size_8abf5 wsJx4a65c_size_8abf5) := goodIn_app (goodIn_of _ (by decide +kernel)) ggX5_isDone_Jx4a65c_size_8abf5
theorem dX5_isDone_0 : decode cX5_isDone 0 = .ok (.aload_n 0, 1) := by decide +kernel
theorem dX5_isDone_1 : decode cX5_isDone 1 = .ok (.getfield 31, 3) := by decide +kernel
theorem dX5_isDone_4 : decode cX5_isDone 4 = .ok (.aload_n 0, 1) := by decide +kernel
theorem dX5_isDone_5 : decode cX5_isDone 5 = .ok (.getfield 10, 3) := by decide +kernel
theorem dX5_isDone_8 : decode cX5_isDone 8 = .ok (.invokevirtual 34, 3) := by decide +kernel
theorem dX5_isDone_11 : decode cX5_isDone 11 = .ok (.if_icmp .lt 7, 3) := by decide +kernel
theorem dX5_isDone_14 : decode cX5_isDone 14 = .ok (.iconst 1, 1) := by decide +kernel
theorem dX5_isDone_15 : decode cX5_isDone 15 = .ok (.goto 4, 3) := by decide +kernel
theorem dX5_isDone_18 : decode cX5_isDone 18 = .ok (.iconst 0, 1) := by decide +kernel
theorem dX5_isDone_19 : decode cX5_isDone 19 = .ok (.ireturn, 1) := by decide +kernel
theorem dX5_isReturn_0 : decode cX5_isReturn 0 = .ok (.iload_n 1, 1) := by decide +kernel
theorem dX5_isReturn_1 : decode cX5_isReturn 1 = .ok (.aload_n 0, 1) := by decide +kernel
theorem dX5_isReturn_2 : decode cX5_isReturn 2 = .ok (.getfield 27, 3) := by decide +kernel
theorem dX5_isReturn_5 : decode cX5_isReturn 5 = .ok (.if_icmp .ge 7, 3) := by decide +kernel
theorem dX5_isReturn_8 : decode cX5_isReturn 8 = .ok (.iconst 1, 1) := by decide +kernel
theorem dX5_isReturn_9 : decode cX5_isReturn 9 = .ok (.goto 4, 3) := by decide +kernel
theorem dX5_isReturn_12 : decode cX5_isReturn 12 = .ok (.iconst 0, 1) := by decide +kernel
theorem dX5_isReturn_13 : decode cX5_isReturn 13 = .ok (.ireturn, 1) := by decide +kernel
set_option maxRecDepth 20000 in
theorem ggX5_stateOf_X5_isReturn : GoodIn wsX5_stateOf wsX5_isReturn := goodIn_r _ [9, 10, 30, 31, 32, 33] (by decide +kernel) (by decide +kernel)
set_option maxRecDepth 20000 in
theorem gX5_stateOf_X5_isReturn : GoodIn wsX5_stateOf (wsV RX5 38 RX5 yX5_isReturn wsX5_isReturn) := goodIn_app (goodIn_of _ (by decide +kernel)) ggX5_stateOf_X5_isReturn
set_option maxRecDepth 20000 in
theorem ggX5_stateOf_Jx4a65c_get_915e3 : GoodIn wsX5_stateOf wsJx4a65c_get_915e3 := goodIn_r _ [15, 16, 17, 18, 19, 20, 21, 22, 23, 24, 25, 26, 27, 14, 28, 29, 43, 44, 45] (by decide +kernel) (by decide +kernel)
set_option maxRecDepth 20000 in
theorem gX5_stateOf_Jx4a65c_get_915e3 : GoodIn wsX5_stateOf (wsV RX5 42 RJx4a65c yJx4a65c_get_915e3 wsJx4a65c_get_915e3) := goodIn_app (goodIn_of _ (by decide +kernel)) ggX5_stateOf_Jx4a65c_get_915e3
theorem dX5_stateOf_0 : decode cX5_stateOf 0 = .ok (.iload_n 1, 1) := by decide +kernel
theorem dX5_stateOf_1 : decode cX5_stateOf 1 = .ok (.aload_n 0, 1) := by decide +kernel
theorem dX5_stateOf_2 : decode cX5_stateOf 2 = .ok (.getfield 31, 3) := by decide +kernel
theorem dX5_stateOf_5 : decode cX5_stateOf 5 = .ok (.if_icmp .lt 5, 3) := by decide +kernel
theorem dX5_stateOf_8 : decode cX5_stateOf 8 = .ok (.iconst 0, 1) := by decide +kernel
theorem dX5_stateOf_9 : decode cX5_stateOf 9 = .ok (.ireturn, 1) := by decide +kernel
theorem dX5_stateOf_10 : decode cX5_stateOf 10 = .ok (.aload_n 0, 1) := by decide +kernel
theorem dX5_stateOf_11 : decode cX5_stateOf 11 = .ok (.iload_n 1, 1) := by decide +kernel
theorem dX5_stateOf_12 : decode cX5_stateOf 12 = .ok (.invokevirtual 38, 3) := by decide +kernel
theorem dX5_stateOf_15 : decode cX5_stateOf 15 = .ok (.ifCond .ne 24, 3) := by decide +kernel
theorem dX5_stateOf_18 : decode cX5_stateOf 18 = .ok (.aload_n 0, 1) := by decide +kernel
theorem dX5_stateOf_19 : decode cX5_stateOf 19 = .ok (.getfield 10, 3) := by decide +kernel
theorem dX5_stateOf_22 : decode cX5_stateOf 22 = .ok (.iload_n 1, 1) := by decide +kernel
theorem dX5_stateOf_23 : decode cX5_stateOf 23 = .ok (.invokevirtual 42, 3) := by decide +kernel
theorem dX5_stateOf_26 : decode cX5_stateOf 26 = .ok (.checkcast 46, 3) := by decide +kernel
theorem dX5_stateOf_29 : decode cX5_stateOf 29 = .ok (.getfield 48, 3) := by decide +kernel
theorem dX5_stateOf_32 : decode cX5_stateOf 32 = .ok (.ifCond .eq 7, 3) := by decide +kernel
theorem dX5_stateOf_35 : decode cX5_stateOf 35 = .ok (.iconst 2, 1) := by decide +kernel
theorem dX5_stateOf_36 : decode cX5_stateOf 36 = .ok (.goto 4, 3) := by decide +kernel
theorem dX5_stateOf_39 : decode cX5_stateOf 39 = .ok (.iconst 1, 1) := by decide +kernel
theorem dX5_stateOf_40 : decode cX5_stateOf 40 = .ok (.ireturn, 1) := by decide +kernel
set_option maxRecDepth 20000 in
theorem ggX5_addReturn_Jx4a65c_add_9ea2d : GoodIn wsX5_addReturn wsJx4a65c_add_9ea2d := goodIn_r _ [8, 9, 10, 11, 12, 13, 14, 15, 7, 16, 17, 18, 19, 20, 21, 22, 23, 24, 25, 26, 27, 28, 29, 30, 31, 32, 33, 34, 35, 36, 37, 38, 39, 40, 41, 42, 43, 44, 45, 46, 47, 48, 49, 50, 51, 52, 53, 54, 55, 56, 57, 58, 59, 76, 77, 78] (by decide +kernel) (by decide +kernel)
set_option maxRecDepth 20000 in
theorem gX5_addReturn_Jx4a65c_add_9ea2d : GoodIn wsX5_addReturn (wsV RX5 51 RJx4a65c yJx4a65c_add_9ea2d wsJx4a65c_add_9ea2d) := goodIn_app (goodIn_of _ (by decide +kernel)) ggX5_addReturn_Jx4a65c_add_9ea2d
set_option maxRecDepth 20000 in
theorem ggX5_addReturn_X6_add : GoodIn wsX5_addReturn wsX6_add := goodIn_r _ [64, 65, 66, 67, 68, 69, 70, 71, 79, 80, 81, 82, 83, 84, 85, 86, 87, 88, 89, 90, 91] (by decide +kernel) (by decide +kernel)
set_option maxRecDepth 20000 in
theorem gX5_addReturn_X6_add : GoodIn wsX5_addReturn (wsV RX5 55 RX6 yX6_add wsX6_add) := goodIn_app (goodIn_of _ (by decide +kernel)) ggX5_addReturn_X6_add
theorem dX5_addReturn_0 : decode cX5_addReturn 0 = .ok (.aload_n 0, 1) := by decide +kernel
theorem dX5_addReturn_1 : decode cX5_addReturn 1 = .ok (.getfield 10, 3) := by decide +kernel
theorem dX5_addReturn_4 : decode cX5_addReturn 4 = .ok (.aload_n 1, 1) := by decide +kernel
theorem dX5_addReturn_5 : decode cX5_addReturn 5 = .ok (.invokevirtual 51, 3) := by decide +kernel
theorem dX5_addReturn_8 : decode cX5_addReturn 8 = .ok (.pop, 1) := by decide +kernel
theorem dX5_addReturn_9 : decode cX5_addReturn 9 = .ok (.aload_n 0, 1) := by decide +kernel
theorem dX5_addReturn_10 : decode cX5_addReturn 10 = .ok (.getfield 19, 3) := by decide +kernel
theorem dX5_addReturn_13 : decode cX5_addReturn 13 = .ok (.aload_n 1, 1) := by decide +kernel
theorem dX5_addReturn_14 : decode cX5_addReturn 14 = .ok (.invokevirtual 55, 3) := by decide +kernel
theorem dX5_addReturn_17 : decode cX5_addReturn 17 = .ok (.aload_n 0, 1) := by decide +kernel
theorem dX5_addReturn_18 : decode cX5_addReturn 18 = .ok (.dup, 1) := by decide +kernel
theorem dX5_addReturn_19 : decode cX5_addReturn 19 = .ok (.getfield 27, 3) := by decide +kernel
theorem dX5_addReturn_22 : decode cX5_addReturn 22 = .ok (.iconst 1, 1) := by decide +kernel
theorem dX5_addReturn_23 : decode cX5_addReturn 23 = .ok (.iadd, 1) := by decide +kernel
theorem dX5_addReturn_24 : decode cX5_addReturn 24 = .ok (.putfield 27, 3) := by decide +kernel
theorem dX5_addReturn_27 : decode cX5_addReturn 27 = .ok (.return_, 1) := by decide +kernel
set_option maxRecDepth 20000 in
theorem ggX5_addEntry_Jx4a65c_size_8abf5 : GoodIn wsX5_addEntry wsJx4a65c_size_8abf5 := goodIn_r _ [9, 10, 106, 107, 108] (by decide +kernel) (by decide +kernel)
set_option maxRecDepth 20000 in
theorem gX5_addEntry_Jx4a65c_size_8abf5 : GoodIn wsX5_addEntry (wsV RX5 34 RJx4a65c yJx4a65c_size_8abf5 wsJx4a65c_size_8abf5) := goodIn_app (goodIn_of _ (by decide +kernel)) ggX5_addEntry_Jx4a65c_size_8abf5
set_option maxRecDepth 20000 in
theorem ggX5_addEntry_Jx4a65c_get_915e3 : GoodIn wsX5_addEntry wsJx4a65c_get_915e3 := goodIn_r _ [14, 10, 15, 16, 17, 18, 19, 20, 21, 22, 23, 24, 25, 8, 26, 27, 106, 107, 108] (by decide +kernel) (by decide +kernel)
set_option maxRecDepth 20000 in
theorem gX5_addEntry_Jx4a65c_get_915e3 : GoodIn wsX5_addEntry (wsV RX5 42 RJx4a65c yJx4a65c_get_915e3 wsJx4a65c_get_915e3) := goodIn_app (goodIn_of _ (by decide +kernel)) ggX5_addEntry_Jx4a65c_get_915e3
set_option maxRecDepth 20000 in
theorem ggX5_addEntry_X3_goesBefore : GoodIn wsX5_addEntry wsX3_goesBefore := goodIn_r _ [32, 33, 34, 35, 109, 110, 111, 112, 113, 114, 115, 116, 117, 118, 119, 120, 121, 122, 123] (by decide +kernel) (by decide +kernel)
set_option maxRecDepth 20000 in
theorem gX5_addEntry_X3_goesBefore : GoodIn wsX5_addEntry (wsV RX5 58 RX3 yX3_goesBefore wsX3_goesBefore) := goodIn_app (goodIn_of _ (by decide +kernel)) ggX5_addEntry_X3_goesBefore
set_option maxRecDepth 20000 in
theorem ggX5_addEntry_Jx4a65c_add_7a177 : GoodIn wsX5_addEntry wsJx4a65c_add_7a177 := goodIn_r _ [39, 40, 41, 10, 27, 42, 43, 44, 45, 46, 47, 48, 8, 49, 50, 51, 52, 53, 54, 55, 56, 57, 58, 59, 60, 61, 62, 63, 64, 65, 66, 67, 68, 69, 70, 71, 72, 73, 74, 75, 76, 77, 78, 79, 80, 81, 82, 83, 84, 85, 86, 87, 88, 89, 106, 107, 108] (by decide +kernel) (by decide +kernel)
set_option maxRecDepth 20000 in
theorem gX5_addEntry_Jx4a65c_add_7a177 : GoodIn wsX5_addEntry (wsV RX5 62 RJx4a65c yJx4a65c_add_7a177 wsJx4a65c_add_7a177) := goodIn_app (goodIn_of _ (by decide +kernel)) ggX5_addEntry_Jx4a65c_add_7a177
set_option maxRecDepth 20000 in
theorem ggX5_addEntry_X6_add : GoodIn wsX5_addEntry wsX6_add := goodIn_r _ [94, 95, 96, 97, 98, 99, 100, 101, 124, 125, 126, 127, 109, 110, 111, 112, 113, 114, 115, 116, 117] (by decide +kernel) (by decide +kernel)
set_option maxRecDepth 20000 in
theorem gX5_addEntry_X6_add : GoodIn wsX5_addEntry (wsV RX5 55 RX6 yX6_add wsX6_add) := goodIn_app (goodIn_of _ (by decide +kernel)) ggX5_addEntry_X6_add
theorem dX5_addEntry_0 : decode cX5_addEntry 0 = .ok (.aload_n 0, 1) := by decide +kernel
theorem dX5_addEntry_1 : decode cX5_addEntry 1 = .ok (.getfield 10, 3) := by decide +kernel
theorem dX5_addEntry_4 : decode cX5_addEntry 4 = .ok (.invokevirtual 34, 3) := by decide +kernel
theorem dX5_addEntry_7 : decode cX5_addEntry 7 = .ok (.istore_n 2, 1) := by decide +kernel
theorem dX5_addEntry_8 : decode cX5_addEntry 8 = .ok (.iload_n 2, 1) := by decide +kernel
theorem dX5_addEntry_9 : decode cX5_addEntry 9 = .ok (.aload_n 0, 1) := by decide +kernel
theorem dX5_addEntry_10 : decode cX5_addEntry 10 = .ok (.getfield 27, 3) := by decide +kernel
theorem dX5_addEntry_13 : decode cX5_addEntry 13 = .ok (.if_icmp .le 29, 3) := by decide +kernel
theorem dX5_addEntry_16 : decode cX5_addEntry 16 = .ok (.aload_n 1, 1) := by decide +kernel
theorem dX5_addEntry_17 : decode cX5_addEntry 17 = .ok (.aload_n 0, 1) := by decide +kernel
theorem dX5_addEntry_18 : decode cX5_addEntry 18 = .ok (.getfield 10, 3) := by decide +kernel
theorem dX5_addEntry_21 : decode cX5_addEntry 21 = .ok (.iload_n 2, 1) := by decide +kernel
theorem dX5_addEntry_22 : decode cX5_addEntry 22 = .ok (.iconst 1, 1) := by decide +kernel
theorem dX5_addEntry_23 : decode cX5_addEntry 23 = .ok (.isub, 1) := by decide +kernel
theorem dX5_addEntry_24 : decode cX5_addEntry 24 = .ok (.invokevirtual 42, 3) := by decide +kernel
theorem dX5_addEntry_27 : decode cX5_addEntry 27 = .ok (.checkcast 46, 3) := by decide +kernel
theorem dX5_addEntry_30 : decode cX5_addEntry 30 = .ok (.invokevirtual 58, 3) := by decide +kernel
theorem dX5_addEntry_33 : decode cX5_addEntry 33 = .ok (.ifCond .eq 9, 3) := by decide +kernel
theorem dX5_addEntry_36 : decode cX5_addEntry 36 = .ok (.iinc 2 (-1), 3) := by decide +kernel
theorem dX5_addEntry_39 : decode cX5_addEntry 39 = .ok (.goto (-31), 3) := by decide +kernel
theorem dX5_addEntry_42 : decode cX5_addEntry 42 = .ok (.aload_n 0, 1) := by decide +kernel
theorem dX5_addEntry_43 : decode cX5_addEntry 43 = .ok (.getfield 10, 3) := by decide +kernel
theorem dX5_addEntry_46 : decode cX5_addEntry 46 = .ok (.iload_n 2, 1) := by decide +kernel
theorem dX5_addEntry_47 : decode cX5_addEntry 47 = .ok (.aload_n 1, 1) := by decide +kernel
theorem dX5_addEntry_48 : decode cX5_addEntry 48 = .ok (.invokevirtual 62, 3) := by decide +kernel
theorem dX5_addEntry_51 : decode cX5_addEntry 51 = .ok (.aload_n 0, 1) := by decide +kernel
theorem dX5_addEntry_52 : decode cX5_addEntry 52 = .ok (.getfield 19, 3) := by decide +kernel
theorem dX5_addEntry_55 : decode cX5_addEntry 55 = .ok (.aload_n 1, 1) := by decide +kernel
theorem dX5_addEntry_56 : decode cX5_addEntry 56 = .ok (.invokevirtual 55, 3) := by decide +kernel
theorem dX5_addEntry_59 : decode cX5_addEntry 59 = .ok (.return_, 1) := by decide +kernel
theorem dX6_init_0 : decode cX6_init 0 = .ok (.aload_n 0, 1) := by decide +kernel
theorem dX6_init_1 : decode cX6_init 1 = .ok (.invokespecial 3, 3) := by decide +kernel
theorem dX6_init_4 : decode cX6_init 4 = .ok (.return_, 1) := by decide +kernel
theorem dX6_clear_0 : decode cX6_clear 0 = .ok (.aload_n 0, 1) := by decide +kernel
theorem dX6_clear_1 : decode cX6_clear 1 = .ok (.lconst 0, 1) := by decide +kernel
theorem dX6_clear_2 : decode cX6_clear 2 = .ok (.putfield 9, 3) := by decide +kernel
theorem dX6_clear_5 : decode cX6_clear 5 = .ok (.aload_n 0, 1) := by decide +kernel
theorem dX6_clear_6 : decode cX6_clear 6 = .ok (.lconst 0, 1) := by decide +kernel
theorem dX6_clear_7 : decode cX6_clear 7 = .ok (.putfield 15, 3) := by decide +kernel
theorem dX6_clear_10 : decode cX6_clear 10 = .ok (.aload_n 0, 1) := by decide +kernel
theorem dX6_clear_11 : decode cX6_clear 11 = .ok (.lconst 0, 1) := by decide +kernel
theorem dX6_clear_12 : decode cX6_clear 12 = .ok (.putfield 18, 3) := by decide +kernel
theorem dX6_clear_15 : decode cX6_clear 15 = .ok (.aload_n 0, 1) := by decide +kernel
theorem dX6_clear_16 : decode cX6_clear 16 = .ok (.lconst 0, 1) := by decide +kernel
theorem dX6_clear_17 : decode cX6_clear 17 = .ok (.putfield 21, 3) := by decide +kernel
theorem dX6_clear_20 : decode cX6_clear 20 = .ok (.return_, 1) := by decide +kernel
theorem dX6_add_0 : decode cX6_add 0 = .ok (.aload_n 0, 1) := by decide +kernel
theorem dX6_add_1 : decode cX6_add 1 = .ok (.dup, 1) := by decide +kernel
theorem dX6_add_2 : decode cX6_add 2 = .ok (.getfield 9, 3) := by decide +kernel
theorem dX6_add_5 : decode cX6_add 5 = .ok (.lconst 1, 1) := by decide +kernel
theorem dX6_add_6 : decode cX6_add 6 = .ok (.ladd, 1) := by decide +kernel
theorem dX6_add_7 : decode cX6_add 7 = .ok (.putfield 9, 3) := by decide +kernel
theorem dX6_add_10 : decode cX6_add 10 = .ok (.aload_n 0, 1) := by decide +kernel
theorem dX6_add_11 : decode cX6_add 11 = .ok (.dup, 1) := by decide +kernel
theorem dX6_add_12 : decode cX6_add 12 = .ok (.getfield 15, 3) := by decide +kernel
theorem dX6_add_15 : decode cX6_add 15 = .ok (.aload_n 1, 1) := by decide +kernel
theorem dX6_add_16 : decode cX6_add 16 = .ok (.getfield 24, 3) := by decide +kernel
theorem dX6_add_19 : decode cX6_add 19 = .ok (.i2l, 1) := by decide +kernel
theorem dX6_add_20 : decode cX6_add 20 = .ok (.ladd, 1) := by decide +kernel
theorem dX6_add_21 : decode cX6_add 21 = .ok (.putfield 15, 3) := by decide +kernel
theorem dX6_add_24 : decode cX6_add 24 = .ok (.aload_n 1, 1) := by decide +kernel
theorem dX6_add_25 : decode cX6_add 25 = .ok (.getfield 30, 3) := by decide +kernel
theorem dX6_add_28 : decode cX6_add 28 = .ok (.bipush 7, 2) := by decide +kernel
theorem dX6_add_30 : decode cX6_add 30 = .ok (.if_icmp .ne 20, 3) := by decide +kernel
theorem dX6_add_33 : decode cX6_add 33 = .ok (.aload_n 0, 1) := by decide +kernel
theorem dX6_add_34 : decode cX6_add 34 = .ok (.dup, 1) := by decide +kernel
theorem dX6_add_35 : decode cX6_add 35 = .ok (.getfield 18, 3) := by decide +kernel
theorem dX6_add_38 : decode cX6_add 38 = .ok (.aload_n 1, 1) := by decide +kernel
theorem dX6_add_39 : decode cX6_add 39 = .ok (.getfield 33, 3) := by decide +kernel
theorem dX6_add_42 : decode cX6_add 42 = .ok (.i2l, 1) := by decide +kernel
theorem dX6_add_43 : decode cX6_add 43 = .ok (.ladd, 1) := by decide +kernel
theorem dX6_add_44 : decode cX6_add 44 = .ok (.putfield 18, 3) := by decide +kernel
theorem dX6_add_47 : decode cX6_add 47 = .ok (.goto 25, 3) := by decide +kernel
theorem dX6_add_50 : decode cX6_add 50 = .ok (.aload_n 1, 1) := by decide +kernel
theorem dX6_add_51 : decode cX6_add 51 = .ok (.getfield 30, 3) := by decide +kernel
theorem dX6_add_54 : decode cX6_add 54 = .ok (.iconst 2, 1) := by decide +kernel
theorem dX6_add_55 : decode cX6_add 55 = .ok (.if_icmp .ne 17, 3) := by decide +kernel
theorem dX6_add_58 : decode cX6_add 58 = .ok (.aload_n 0, 1) := by decide +kernel
theorem dX6_add_59 : decode cX6_add 59 = .ok (.dup, 1) := by decide +kernel
theorem dX6_add_60 : decode cX6_add 60 = .ok (.getfield 21, 3) := by decide +kernel
theorem dX6_add_63 : decode cX6_add 63 = .ok (.aload_n 1, 1) := by decide +kernel
theorem dX6_add_64 : decode cX6_add 64 = .ok (.getfield 33, 3) := by decide +kernel
theorem dX6_add_67 : decode cX6_add 67 = .ok (.i2l, 1) := by decide +kernel
theorem dX6_add_68 : decode cX6_add 68 = .ok (.ladd, 1) := by decide +kernel
theorem dX6_add_69 : decode cX6_add 69 = .ok (.putfield 21, 3) := by decide +kernel
theorem dX6_add_72 : decode cX6_add 72 = .ok (.return_, 1) := by decide +kernel
theorem dX6_are_0 : decode cX6_are 0 = .ok (.aload_n 0, 1) := by decide +kernel
theorem dX6_are_1 : decode cX6_are 1 = .ok (.getfield 9, 3) := by decide +kernel
theorem dX6_are_4 : decode cX6_are 4 = .ok (.iload_n 1, 1) := by decide +kernel
theorem dX6_are_5 : decode cX6_are 5 = .ok (.i2l, 1) := by decide +kernel
theorem dX6_are_6 : decode cX6_are 6 = .ok (.lcmp, 1) := by decide +kernel
theorem dX6_are_7 : decode cX6_are 7 = .ok (.ifCond .ne 38, 3) := by decide +kernel
theorem dX6_are_10 : decode cX6_are 10 = .ok (.aload_n 0, 1) := by decide +kernel
theorem dX6_are_11 : decode cX6_are 11 = .ok (.getfield 15, 3) := by decide +kernel
theorem dX6_are_14 : decode cX6_are 14 = .ok (.iload_n 2, 1) := by decide +kernel
theorem dX6_are_15 : decode cX6_are 15 = .ok (.i2l, 1) := by decide +kernel
theorem dX6_are_16 : decode cX6_are 16 = .ok (.lcmp, 1) := by decide +kernel
theorem dX6_are_17 : decode cX6_are 17 = .ok (.ifCond .ne 28, 3) := by decide +kernel
theorem dX6_are_20 : decode cX6_are 20 = .ok (.aload_n 0, 1) := by decide +kernel
theorem dX6_are_21 : decode cX6_are 21 = .ok (.getfield 18, 3) := by decide +kernel
theorem dX6_are_24 : decode cX6_are 24 = .ok (.iload_n 3, 1) := by decide +kernel
theorem dX6_are_25 : decode cX6_are 25 = .ok (.i2l, 1) := by decide +kernel
theorem dX6_are_26 : decode cX6_are 26 = .ok (.lcmp, 1) := by decide +kernel
theorem dX6_are_27 : decode cX6_are 27 = .ok (.ifCond .ne 18, 3) := by decide +kernel
theorem dX6_are_30 : decode cX6_are 30 = .ok (.aload_n 0, 1) := by decide +kernel
theorem dX6_are_31 : decode cX6_are 31 = .ok (.getfield 21, 3) := by decide +kernel
theorem dX6_are_34 : decode cX6_are 34 = .ok (.iload 4, 2) := by decide +kernel
theorem dX6_are_36 : decode cX6_are 36 = .ok (.i2l, 1) := by decide +kernel
theorem dX6_are_37 : decode cX6_are 37 = .ok (.lcmp, 1) := by decide +kernel
theorem dX6_are_38 : decode cX6_are 38 = .ok (.ifCond .ne 7, 3) := by decide +kernel
theorem dX6_are_41 : decode cX6_are 41 = .ok (.iconst 1, 1) := by decide +kernel
theorem dX6_are_42 : decode cX6_are 42 = .ok (.goto 4, 3) := by decide +kernel
theorem dX6_are_45 : decode cX6_are 45 = .ok (.iconst 0, 1) := by decide +kernel
theorem dX6_are_46 : decode cX6_are 46 = .ok (.ireturn, 1) := by decide +kernel
set_option maxRecDepth 20000 in
theorem ggX7_init_Jx4a65c_init_da8c8 : GoodIn wsX7_init wsJx4a65c_init_da8c8 := goodIn_r _ [20, 21, 22, 23, 24, 25, 26, 27, 28, 29, 30, 31, 32, 2, 3, 57, 58, 59] (by decide +kernel) (by decide +kernel)
set_option maxRecDepth 20000 in
theorem gX7_init_Jx4a65c_init_da8c8 : GoodIn wsX7_init (wsJx4a65c_init_da8c8) := ggX7_init_Jx4a65c_init_da8c8
set_option maxRecDepth 20000 in
theorem ggX7_init_X4_init : GoodIn wsX7_init wsX4_init := goodIn_r _ [35, 36, 2, 3, 37, 38, 39, 40, 41, 42, 43, 44, 45, 46, 47, 48, 49, 50, 51, 52, 5, 6, 53, 54, 55, 56, 19, 20, 21, 22, 23, 24, 25, 26, 27, 28, 29, 30, 31, 32, 67, 68, 69, 70, 71, 72, 73, 74, 75, 76, 77, 78, 79, 80, 81, 82, 83, 84, 85, 86, 87, 57, 58, 59] (by decide +kernel) (by decide +kernel)
set_option maxRecDepth 20000 in
theorem gX7_init_X4_init : GoodIn wsX7_init (wsX4_init) := ggX7_init_X4_init
theorem dX7_init_0 : decode cX7_init 0 = .ok (.aload_n 0, 1) := by decide +kernel
theorem dX7_init_1 : decode cX7_init 1 = .ok (.invokespecial 1, 3) := by decide +kernel
theorem dX7_init_4 : decode cX7_init 4 = .ok (.aload_n 0, 1) := by decide +kernel
theorem dX7_init_5 : decode cX7_init 5 = .ok (.new 7, 3) := by decide +kernel
theorem dX7_init_8 : decode cX7_init 8 = .ok (.dup, 1) := by decide +kernel
theorem dX7_init_9 : decode cX7_init 9 = .ok (.invokespecial 9, 3) := by decide +kernel
theorem dX7_init_12 : decode cX7_init 12 = .ok (.putfield 10, 3) := by decide +kernel
theorem dX7_init_15 : decode cX7_init 15 = .ok (.aload_n 0, 1) := by decide +kernel
theorem dX7_init_16 : decode cX7_init 16 = .ok (.new 7, 3) := by decide +kernel
theorem dX7_init_19 : decode cX7_init 19 = .ok (.dup, 1) := by decide +kernel
theorem dX7_init_20 : decode cX7_init 20 = .ok (.invokespecial 9, 3) := by decide +kernel
theorem dX7_init_23 : decode cX7_init 23 = .ok (.putfield 16, 3) := by decide +kernel
theorem dX7_init_26 : decode cX7_init 26 = .ok (.aload_n 0, 1) := by decide +kernel
theorem dX7_init_27 : decode cX7_init 27 = .ok (.new 19, 3) := by decide +kernel
theorem dX7_init_30 : decode cX7_init 30 = .ok (.dup, 1) := by decide +kernel
theorem dX7_init_31 : decode cX7_init 31 = .ok (.invokespecial 21, 3) := by decide +kernel
theorem dX7_init_34 : decode cX7_init 34 = .ok (.putfield 22, 3) := by decide +kernel
theorem dX7_init_37 : decode cX7_init 37 = .ok (.aload_n 0, 1) := by decide +kernel
theorem dX7_init_38 : decode cX7_init 38 = .ok (.sipush 256, 3) := by decide +kernel
theorem dX7_init_41 : decode cX7_init 41 = .ok (.newarray .int, 2) := by decide +kernel
theorem dX7_init_43 : decode cX7_init 43 = .ok (.putfield 26, 3) := by decide +kernel
theorem dX7_init_46 : decode cX7_init 46 = .ok (.aload_n 0, 1) := by decide +kernel
theorem dX7_init_47 : decode cX7_init 47 = .ok (.iconst 0, 1) := by decide +kernel
theorem dX7_init_48 : decode cX7_init 48 = .ok (.putfield 30, 3) := by decide +kernel
theorem dX7_init_51 : decode cX7_init 51 = .ok (.aload_n 0, 1) := by decide +kernel
theorem dX7_init_52 : decode cX7_init 52 = .ok (.bipush 34, 2) := by decide +kernel
theorem dX7_init_54 : decode cX7_init 54 = .ok (.newarray .int, 2) := by decide +kernel
theorem dX7_init_56 : decode cX7_init 56 = .ok (.putfield 34, 3) := by decide +kernel
theorem dX7_init_59 : decode cX7_init 59 = .ok (.aload_n 0, 1) := by decide +kernel
theorem dX7_init_60 : decode cX7_init 60 = .ok (.iconst 0, 1) := by decide +kernel
theorem dX7_init_61 : decode cX7_init 61 = .ok (.putfield 37, 3) := by decide +kernel
theorem dX7_init_64 : decode cX7_init 64 = .ok (.return_, 1) := by decide +kernel
set_option maxRecDepth 20000 in
theorem ggX7_join_X7_isRight : GoodIn wsX7_join wsX7_isRight := goodIn_r _ [8, 9] (by decide +kernel) (by decide +kernel)
set_option maxRecDepth 20000 in
theorem gX7_join_X7_isRight : GoodIn wsX7_join (va_wsS RX7 40 yX7_isRight wsX7_isRight) := goodIn_app (goodIn_of _ (by decide +kernel)) ggX7_join_X7_isRight
set_option maxRecDepth 20000 in
theorem ggX7_join_X7_bankWithRouting : GoodIn wsX7_join wsX7_bankWithRouting := goodIn_r _ [13, 1, 14, 15, 16, 17, 18, 19, 20, 21, 22, 23, 24, 25, 26, 27, 28, 29, 30, 31, 32, 33, 34, 35, 36, 37, 38, 134, 135, 136, 137, 138, 139, 140, 141, 142, 143, 144, 145, 146, 147, 148, 149] (by decide +kernel) (by decide +kernel)
set_option maxRecDepth 20000 in
theorem gX7_join_X7_bankWithRouting : GoodIn wsX7_join (wsV RX7 44 RX7 yX7_bankWithRouting wsX7_bankWithRouting) := goodIn_app (goodIn_of _ (by decide +kernel)) ggX7_join_X7_bankWithRouting
set_option maxRecDepth 20000 in
theorem ggX7_join_Jx4a65c_size_8abf5 : GoodIn wsX7_join wsJx4a65c_size_8abf5 := goodIn_r _ [20, 21, 147, 148, 149] (by decide +kernel) (by decide +kernel)
set_option maxRecDepth 20000 in
theorem gX7_join_Jx4a65c_size_8abf5 : GoodIn wsX7_join (wsV RX7 48 RJx4a65c yJx4a65c_size_8abf5 wsJx4a65c_size_8abf5) := goodIn_app (goodIn_of _ (by decide +kernel)) ggX7_join_Jx4a65c_size_8abf5
set_option maxRecDepth 20000 in
theorem ggX7_join_X1_init : GoodIn wsX7_join wsX1_init := goodIn_r _ [41, 42, 43, 44, 45, 46, 19, 47, 48, 49, 50, 51, 52, 53, 54, 55, 56, 57, 58, 38, 59, 60, 61, 62, 63, 64, 65, 66, 67, 68, 69, 70, 71, 72, 73, 74, 75, 76, 77, 78, 79, 80, 81, 147, 148, 149, 141, 142, 143, 144, 145, 146, 150, 151, 152, 153, 154, 155, 156, 157] (by decide +kernel) (by decide +kernel)
set_option maxRecDepth 20000 in
theorem gX7_join_X1_init : GoodIn wsX7_join (wsX1_init) := ggX7_join_X1_init
set_option maxRecDepth 20000 in
theorem ggX7_join_Jx4a65c_add_9ea2d : GoodIn wsX7_join wsJx4a65c_add_9ea2d := goodIn_r _ [85, 86, 87, 38, 21, 88, 89, 90, 19, 91, 92, 93, 94, 95, 96, 97, 98, 99, 58, 100, 101, 102, 103, 104, 105, 106, 107, 108, 109, 110, 111, 112, 113, 114, 115, 116, 117, 118, 119, 120, 121, 122, 123, 124, 125, 126, 127, 128, 129, 130, 131, 132, 133, 147, 148, 149] (by decide +kernel) (by decide +kernel)
set_option maxRecDepth 20000 in
theorem gX7_join_Jx4a65c_add_9ea2d : GoodIn wsX7_join (wsV RX7 57 RJx4a65c yJx4a65c_add_9ea2d wsJx4a65c_add_9ea2d) := goodIn_app (goodIn_of _ (by decide +kernel)) ggX7_join_Jx4a65c_add_9ea2d
theorem dX7_join_0 : decode cX7_join 0 = .ok (.iload_n 1, 1) := by decide +kernel
theorem dX7_join_1 : decode cX7_join 1 = .ok (.ifCond .lt 18, 3) := by decide +kernel
theorem dX7_join_4 : decode cX7_join 4 = .ok (.iload_n 1, 1) := by decide +kernel
theorem dX7_join_5 : decode cX7_join 5 = .ok (.sipush 9999, 3) := by decide +kernel
theorem dX7_join_8 : decode cX7_join 8 = .ok (.if_icmp .gt 11, 3) := by decide +kernel
theorem dX7_join_11 : decode cX7_join 11 = .ok (.iload_n 1, 1) := by decide +kernel
theorem dX7_join_12 : decode cX7_join 12 = .ok (.iconst 4, 1) := by decide +kernel
theorem dX7_join_13 : decode cX7_join 13 = .ok (.invokestatic 40, 3) := by decide +kernel
theorem dX7_join_16 : decode cX7_join 16 = .ok (.ifCond .ne 5, 3) := by decide +kernel
theorem dX7_join_19 : decode cX7_join 19 = .ok (.iconst (-1), 1) := by decide +kernel
theorem dX7_join_20 : decode cX7_join 20 = .ok (.ireturn, 1) := by decide +kernel
theorem dX7_join_21 : decode cX7_join 21 = .ok (.aload_n 0, 1) := by decide +kernel
theorem dX7_join_22 : decode cX7_join 22 = .ok (.iload_n 1, 1) := by decide +kernel
theorem dX7_join_23 : decode cX7_join 23 = .ok (.invokevirtual 44, 3) := by decide +kernel
theorem dX7_join_26 : decode cX7_join 26 = .ok (.ifnull 5, 3) := by decide +kernel
theorem dX7_join_29 : decode cX7_join 29 = .ok (.iconst (-1), 1) := by decide +kernel
theorem dX7_join_30 : decode cX7_join 30 = .ok (.ireturn, 1) := by decide +kernel
theorem dX7_join_31 : decode cX7_join 31 = .ok (.aload_n 0, 1) := by decide +kernel
theorem dX7_join_32 : decode cX7_join 32 = .ok (.getfield 10, 3) := by decide +kernel
theorem dX7_join_35 : decode cX7_join 35 = .ok (.invokevirtual 48, 3) := by decide +kernel
theorem dX7_join_38 : decode cX7_join 38 = .ok (.iconst 5, 1) := by decide +kernel
theorem dX7_join_39 : decode cX7_join 39 = .ok (.if_icmp .lt 6, 3) := by decide +kernel
theorem dX7_join_42 : decode cX7_join 42 = .ok (.bipush (-3), 2) := by decide +kernel
theorem dX7_join_44 : decode cX7_join 44 = .ok (.ireturn, 1) := by decide +kernel
theorem dX7_join_45 : decode cX7_join 45 = .ok (.aload_n 0, 1) := by decide +kernel
theorem dX7_join_46 : decode cX7_join 46 = .ok (.getfield 10, 3) := by decide +kernel
theorem dX7_join_49 : decode cX7_join 49 = .ok (.invokevirtual 48, 3) := by decide +kernel
theorem dX7_join_52 : decode cX7_join 52 = .ok (.istore_n 2, 1) := by decide +kernel
theorem dX7_join_53 : decode cX7_join 53 = .ok (.aload_n 0, 1) := by decide +kernel
theorem dX7_join_54 : decode cX7_join 54 = .ok (.getfield 10, 3) := by decide +kernel
theorem dX7_join_57 : decode cX7_join 57 = .ok (.new 52, 3) := by decide +kernel
theorem dX7_join_60 : decode cX7_join 60 = .ok (.dup, 1) := by decide +kernel
theorem dX7_join_61 : decode cX7_join 61 = .ok (.iload_n 2, 1) := by decide +kernel
theorem dX7_join_62 : decode cX7_join 62 = .ok (.iload_n 1, 1) := by decide +kernel
theorem dX7_join_63 : decode cX7_join 63 = .ok (.invokespecial 54, 3) := by decide +kernel
theorem dX7_join_66 : decode cX7_join 66 = .ok (.invokevirtual 57, 3) := by decide +kernel
theorem dX7_join_69 : decode cX7_join 69 = .ok (.pop, 1) := by decide +kernel
theorem dX7_join_70 : decode cX7_join 70 = .ok (.iload_n 2, 1) := by decide +kernel
theorem dX7_join_71 : decode cX7_join 71 = .ok (.ireturn, 1) := by decide +kernel
set_option maxRecDepth 20000 in
theorem ggX7_open_X7_bankAt : GoodIn wsX7_open wsX7_bankAt := goodIn_r _ [11, 12, 13, 14, 15, 16, 17, 18, 19, 20, 21, 22, 23, 24, 25, 26, 27, 28, 29, 30, 31, 32, 33, 34, 35, 36, 110, 111, 112, 113, 114, 115, 116, 121, 122, 123] (by decide +kernel) (by decide +kernel)
set_option maxRecDepth 20000 in
theorem gX7_open_X7_bankAt : GoodIn wsX7_open (wsV RX7 61 RX7 yX7_bankAt wsX7_bankAt) := goodIn_app (goodIn_of _ (by decide +kernel)) ggX7_open_X7_bankAt
set_option maxRecDepth 20000 in
theorem ggX7_open_X7_isRight : GoodIn wsX7_open wsX7_isRight := goodIn_r _ [39, 40] (by decide +kernel) (by decide +kernel)
set_option maxRecDepth 20000 in
theorem gX7_open_X7_isRight : GoodIn wsX7_open (va_wsS RX7 40 yX7_isRight wsX7_isRight) := goodIn_app (goodIn_of _ (by decide +kernel)) ggX7_open_X7_isRight
set_option maxRecDepth 20000 in
theorem ggX7_open_X7_accountOf : GoodIn wsX7_open wsX7_accountOf := goodIn_r _ [44, 3, 45, 46, 47, 14, 15, 16, 17, 18, 19, 20, 21, 22, 23, 24, 25, 26, 27, 28, 29, 30, 31, 32, 33, 34, 35, 36, 110, 111, 112, 113, 114, 115, 116, 117, 118, 119, 120, 121, 122, 123] (by decide +kernel) (by decide +kernel)
set_option maxRecDepth 20000 in
theorem gX7_open_X7_accountOf : GoodIn wsX7_open (wsV RX7 66 RX7 yX7_accountOf wsX7_accountOf) := goodIn_app (goodIn_of _ (by decide +kernel)) ggX7_open_X7_accountOf
set_option maxRecDepth 20000 in
theorem ggX7_open_Jx4a65c_size_8abf5 : GoodIn wsX7_open wsJx4a65c_size_8abf5 := goodIn_r _ [18, 19, 121, 122, 123] (by decide +kernel) (by decide +kernel)
set_option maxRecDepth 20000 in
theorem gX7_open_Jx4a65c_size_8abf5 : GoodIn wsX7_open (wsV RX7 48 RJx4a65c yJx4a65c_size_8abf5 wsJx4a65c_size_8abf5) := goodIn_app (goodIn_of _ (by decide +kernel)) ggX7_open_Jx4a65c_size_8abf5
set_option maxRecDepth 20000 in
theorem ggX7_open_X0_init : GoodIn wsX7_open wsX0_init := goodIn_r _ [50, 51, 52, 53, 54, 55, 56, 117, 118, 119, 120] (by decide +kernel) (by decide +kernel)
set_option maxRecDepth 20000 in
theorem gX7_open_X0_init : GoodIn wsX7_open (wsX0_init) := ggX7_open_X0_init
set_option maxRecDepth 20000 in
theorem ggX7_open_Jx4a65c_add_9ea2d : GoodIn wsX7_open wsJx4a65c_add_9ea2d := goodIn_r _ [60, 61, 62, 36, 19, 63, 64, 65, 17, 66, 67, 68, 69, 70, 71, 72, 73, 74, 75, 76, 77, 78, 79, 80, 81, 82, 83, 84, 85, 86, 87, 88, 89, 90, 91, 92, 93, 94, 95, 96, 97, 98, 99, 100, 101, 102, 103, 104, 105, 106, 107, 108, 109, 121, 122, 123] (by decide +kernel) (by decide +kernel)
set_option maxRecDepth 20000 in
theorem gX7_open_Jx4a65c_add_9ea2d : GoodIn wsX7_open (wsV RX7 57 RJx4a65c yJx4a65c_add_9ea2d wsJx4a65c_add_9ea2d) := goodIn_app (goodIn_of _ (by decide +kernel)) ggX7_open_Jx4a65c_add_9ea2d
theorem dX7_open_0 : decode cX7_open 0 = .ok (.aload_n 0, 1) := by decide +kernel
theorem dX7_open_1 : decode cX7_open 1 = .ok (.iload_n 1, 1) := by decide +kernel
theorem dX7_open_2 : decode cX7_open 2 = .ok (.invokevirtual 61, 3) := by decide +kernel
theorem dX7_open_5 : decode cX7_open 5 = .ok (.astore 4, 2) := by decide +kernel
theorem dX7_open_7 : decode cX7_open 7 = .ok (.aload 4, 2) := by decide +kernel
theorem dX7_open_9 : decode cX7_open 9 = .ok (.ifnull 13, 3) := by decide +kernel
theorem dX7_open_12 : decode cX7_open 12 = .ok (.iload_n 2, 1) := by decide +kernel
theorem dX7_open_13 : decode cX7_open 13 = .ok (.ifCond .lt 9, 3) := by decide +kernel
theorem dX7_open_16 : decode cX7_open 16 = .ok (.iload_n 2, 1) := by decide +kernel
theorem dX7_open_17 : decode cX7_open 17 = .ok (.ldc 64, 2) := by decide +kernel
theorem dX7_open_19 : decode cX7_open 19 = .ok (.if_icmp .le 5, 3) := by decide +kernel
theorem dX7_open_22 : decode cX7_open 22 = .ok (.iconst 0, 1) := by decide +kernel
theorem dX7_open_23 : decode cX7_open 23 = .ok (.ireturn, 1) := by decide +kernel
theorem dX7_open_24 : decode cX7_open 24 = .ok (.iload_n 2, 1) := by decide +kernel
theorem dX7_open_25 : decode cX7_open 25 = .ok (.bipush 6, 2) := by decide +kernel
theorem dX7_open_27 : decode cX7_open 27 = .ok (.invokestatic 40, 3) := by decide +kernel
theorem dX7_open_30 : decode cX7_open 30 = .ok (.ifCond .eq 13, 3) := by decide +kernel
theorem dX7_open_33 : decode cX7_open 33 = .ok (.iload_n 3, 1) := by decide +kernel
theorem dX7_open_34 : decode cX7_open 34 = .ok (.ifCond .lt 9, 3) := by decide +kernel
theorem dX7_open_37 : decode cX7_open 37 = .ok (.iload_n 3, 1) := by decide +kernel
theorem dX7_open_38 : decode cX7_open 38 = .ok (.ldc 65, 2) := by decide +kernel
theorem dX7_open_40 : decode cX7_open 40 = .ok (.if_icmp .le 5, 3) := by decide +kernel
theorem dX7_open_43 : decode cX7_open 43 = .ok (.iconst 0, 1) := by decide +kernel
theorem dX7_open_44 : decode cX7_open 44 = .ok (.ireturn, 1) := by decide +kernel
theorem dX7_open_45 : decode cX7_open 45 = .ok (.aload_n 0, 1) := by decide +kernel
theorem dX7_open_46 : decode cX7_open 46 = .ok (.aload 4, 2) := by decide +kernel
theorem dX7_open_48 : decode cX7_open 48 = .ok (.iload_n 2, 1) := by decide +kernel
theorem dX7_open_49 : decode cX7_open 49 = .ok (.invokevirtual 66, 3) := by decide +kernel
theorem dX7_open_52 : decode cX7_open 52 = .ok (.ifnonnull 15, 3) := by decide +kernel
theorem dX7_open_55 : decode cX7_open 55 = .ok (.aload_n 0, 1) := by decide +kernel
theorem dX7_open_56 : decode cX7_open 56 = .ok (.getfield 16, 3) := by decide +kernel
theorem dX7_open_59 : decode cX7_open 59 = .ok (.invokevirtual 48, 3) := by decide +kernel
theorem dX7_open_62 : decode cX7_open 62 = .ok (.bipush 12, 2) := by decide +kernel
theorem dX7_open_64 : decode cX7_open 64 = .ok (.if_icmp .lt 5, 3) := by decide +kernel
theorem dX7_open_67 : decode cX7_open 67 = .ok (.iconst 0, 1) := by decide +kernel
theorem dX7_open_68 : decode cX7_open 68 = .ok (.ireturn, 1) := by decide +kernel
theorem dX7_open_69 : decode cX7_open 69 = .ok (.aload_n 0, 1) := by decide +kernel
theorem dX7_open_70 : decode cX7_open 70 = .ok (.getfield 16, 3) := by decide +kernel
theorem dX7_open_73 : decode cX7_open 73 = .ok (.new 70, 3) := by decide +kernel
theorem dX7_open_76 : decode cX7_open 76 = .ok (.dup, 1) := by decide +kernel
theorem dX7_open_77 : decode cX7_open 77 = .ok (.aload 4, 2) := by decide +kernel
theorem dX7_open_79 : decode cX7_open 79 = .ok (.iload_n 2, 1) := by decide +kernel
theorem dX7_open_80 : decode cX7_open 80 = .ok (.iload_n 3, 1) := by decide +kernel
theorem dX7_open_81 : decode cX7_open 81 = .ok (.invokespecial 72, 3) := by decide +kernel
theorem dX7_open_84 : decode cX7_open 84 = .ok (.invokevirtual 57, 3) := by decide +kernel
theorem dX7_open_87 : decode cX7_open 87 = .ok (.pop, 1) := by decide +kernel
theorem dX7_open_88 : decode cX7_open 88 = .ok (.iconst 1, 1) := by decide +kernel
theorem dX7_open_89 : decode cX7_open 89 = .ok (.ireturn, 1) := by decide +kernel
set_option maxRecDepth 20000 in
theorem ggX7_shut_X7_bankAt : GoodIn wsX7_shut wsX7_bankAt := goodIn_r _ [6, 7, 8, 9, 10, 11, 12, 13, 14, 15, 16, 17, 18, 19, 20, 21, 22, 23, 24, 25, 26, 27, 28, 29, 30, 31, 44, 45, 46, 47, 48, 49, 50, 51, 52, 53] (by decide +kernel) (by decide +kernel)
set_option maxRecDepth 20000 in
theorem gX7_shut_X7_bankAt : GoodIn wsX7_shut (wsV RX7 61 RX7 yX7_bankAt wsX7_bankAt) := goodIn_app (goodIn_of _ (by decide +kernel)) ggX7_shut_X7_bankAt
set_option maxRecDepth 20000 in
theorem ggX7_shut_X7_accountOf : GoodIn wsX7_shut wsX7_accountOf := goodIn_r _ [35, 36, 37, 38, 39, 9, 10, 11, 12, 13, 14, 15, 16, 17, 18, 19, 20, 21, 22, 23, 24, 25, 26, 27, 28, 29, 30, 31, 44, 45, 46, 47, 48, 49, 50, 40, 41, 42, 43, 51, 52, 53] (by decide +kernel) (by decide +kernel)
set_option maxRecDepth 20000 in
theorem gX7_shut_X7_accountOf : GoodIn wsX7_shut (wsV RX7 66 RX7 yX7_accountOf wsX7_accountOf) := goodIn_app (goodIn_of _ (by decide +kernel)) ggX7_shut_X7_accountOf
theorem dX7_shut_0 : decode cX7_shut 0 = .ok (.aload_n 0, 1) := by decide +kernel
theorem dX7_shut_1 : decode cX7_shut 1 = .ok (.aload_n 0, 1) := by decide +kernel
theorem dX7_shut_2 : decode cX7_shut 2 = .ok (.iload_n 1, 1) := by decide +kernel
theorem dX7_shut_3 : decode cX7_shut 3 = .ok (.invokevirtual 61, 3) := by decide +kernel
theorem dX7_shut_6 : decode cX7_shut 6 = .ok (.iload_n 2, 1) := by decide +kernel
theorem dX7_shut_7 : decode cX7_shut 7 = .ok (.invokevirtual 66, 3) := by decide +kernel
theorem dX7_shut_10 : decode cX7_shut 10 = .ok (.astore_n 3, 1) := by decide +kernel
theorem dX7_shut_11 : decode cX7_shut 11 = .ok (.aload_n 3, 1) := by decide +kernel
theorem dX7_shut_12 : decode cX7_shut 12 = .ok (.ifnull 10, 3) := by decide +kernel
theorem dX7_shut_15 : decode cX7_shut 15 = .ok (.aload_n 3, 1) := by decide +kernel
theorem dX7_shut_16 : decode cX7_shut 16 = .ok (.getfield 75, 3) := by decide +kernel
theorem dX7_shut_19 : decode cX7_shut 19 = .ok (.ifCond .eq 5, 3) := by decide +kernel
theorem dX7_shut_22 : decode cX7_shut 22 = .ok (.iconst 0, 1) := by decide +kernel
theorem dX7_shut_23 : decode cX7_shut 23 = .ok (.ireturn, 1) := by decide +kernel
theorem dX7_shut_24 : decode cX7_shut 24 = .ok (.aload_n 3, 1) := by decide +kernel
theorem dX7_shut_25 : decode cX7_shut 25 = .ok (.iconst 1, 1) := by decide +kernel
theorem dX7_shut_26 : decode cX7_shut 26 = .ok (.putfield 75, 3) := by decide +kernel
theorem dX7_shut_29 : decode cX7_shut 29 = .ok (.iconst 1, 1) := by decide +kernel
theorem dX7_shut_30 : decode cX7_shut 30 = .ok (.ireturn, 1) := by decide +kernel
theorem dX7_day_0 : decode cX7_day 0 = .ok (.aload_n 0, 1) := by decide +kernel
theorem dX7_day_1 : decode cX7_day 1 = .ok (.dup, 1) := by decide +kernel
theorem dX7_day_2 : decode cX7_day 2 = .ok (.getfield 37, 3) := by decide +kernel
theorem dX7_day_5 : decode cX7_day 5 = .ok (.iconst 1, 1) := by decide +kernel
theorem dX7_day_6 : decode cX7_day 6 = .ok (.iadd, 1) := by decide +kernel
theorem dX7_day_7 : decode cX7_day 7 = .ok (.putfield 37, 3) := by decide +kernel
theorem dX7_day_10 : decode cX7_day 10 = .ok (.aload_n 0, 1) := by decide +kernel
theorem dX7_day_11 : decode cX7_day 11 = .ok (.getfield 37, 3) := by decide +kernel
theorem dX7_day_14 : decode cX7_day 14 = .ok (.ireturn, 1) := by decide +kernel
set_option maxRecDepth 20000 in
theorem ggX7_put_X7_isHalf : GoodIn wsX7_put wsX7_isHalf := goodIn_r _ [5, 6] (by decide +kernel) (by decide +kernel)
set_option maxRecDepth 20000 in
theorem gX7_put_X7_isHalf : GoodIn wsX7_put (va_wsS RX7 79 yX7_isHalf wsX7_isHalf) := goodIn_app (goodIn_of _ (by decide +kernel)) ggX7_put_X7_isHalf
set_option maxRecDepth 20000 in
theorem ggX7_put_X7_digits : GoodIn wsX7_put wsX7_digits := goodIn_r _ [9, 10] (by decide +kernel) (by decide +kernel)
set_option maxRecDepth 20000 in
theorem gX7_put_X7_digits : GoodIn wsX7_put (va_wsS RX7 83 yX7_digits wsX7_digits) := goodIn_app (goodIn_of _ (by decide +kernel)) ggX7_put_X7_digits
set_option maxRecDepth 20000 in
theorem ggX7_put_X4_allows : GoodIn wsX7_put wsX4_allows := goodIn_r _ [15, 16, 17, 271, 272, 273, 274, 275, 276, 277, 278] (by decide +kernel) (by decide +kernel)
set_option maxRecDepth 20000 in
theorem gX7_put_X4_allows : GoodIn wsX7_put (wsV RX7 87 RX4 yX4_allows wsX4_allows) := goodIn_app (goodIn_of _ (by decide +kernel)) ggX7_put_X4_allows
set_option maxRecDepth 20000 in
theorem ggX7_put_X4_end : GoodIn wsX7_put wsX4_end := goodIn_r _ [21, 16, 271, 272, 273, 274, 275, 276, 277, 278] (by decide +kernel) (by decide +kernel)
set_option maxRecDepth 20000 in
theorem gX7_put_X4_end : GoodIn wsX7_put (wsV RX7 91 RX4 yX4_end wsX4_end) := goodIn_app (goodIn_of _ (by decide +kernel)) ggX7_put_X4_end
set_option maxRecDepth 20000 in
theorem ggX7_put_X4_begin : GoodIn wsX7_put wsX4_begin := goodIn_r _ [25, 26, 27, 28, 29, 17, 16, 30, 31, 32, 33, 34, 35, 36, 37, 38, 271, 272, 273, 274, 275, 276, 277, 278, 279, 280, 281, 282] (by decide +kernel) (by decide +kernel)
set_option maxRecDepth 20000 in
theorem gX7_put_X4_begin : GoodIn wsX7_put (wsV RX7 94 RX4 yX4_begin wsX4_begin) := goodIn_app (goodIn_of _ (by decide +kernel)) ggX7_put_X4_begin
set_option maxRecDepth 20000 in
theorem ggX7_put_X7_beginBatch : GoodIn wsX7_put wsX7_beginBatch := goodIn_r _ [42, 1, 43, 44, 45, 46, 18, 19, 20, 14, 21, 16, 7, 8, 4, 9, 10, 47, 48, 49, 50, 51, 52, 53, 54, 55, 56, 57, 58, 59, 60, 61, 62, 63, 64, 65, 66, 67, 68, 31, 32, 33, 34, 35, 36, 37, 38, 264, 265, 266, 267, 268, 269, 270, 271, 272, 273, 274, 275, 276, 277, 278, 283, 284, 285, 286, 287, 288, 289, 290, 291, 292, 293, 294, 279, 280, 281, 282] (by decide +kernel) (by decide +kernel)
set_option maxRecDepth 20000 in
theorem gX7_put_X7_beginBatch : GoodIn wsX7_put (wsV RX7 97 RX7 yX7_beginBatch wsX7_beginBatch) := goodIn_app (goodIn_of _ (by decide +kernel)) ggX7_put_X7_beginBatch
set_option maxRecDepth 20000 in
theorem ggX7_put_X7_addEntry : GoodIn wsX7_put wsX7_addEntry := goodIn_r _ [72, 1, 73, 74, 75, 76, 77, 78, 79, 80, 81, 82, 83, 45, 18, 19, 20, 14, 21, 16, 84, 85, 86, 87, 88, 7, 8, 4, 9, 10, 89, 90, 91, 50, 92, 55, 56, 93, 57, 58, 94, 95, 96, 62, 97, 64, 65, 66, 67, 98, 99, 100, 101, 102, 103, 104, 105, 106, 107, 108, 109, 110, 111, 112, 113, 114, 115, 116, 117, 118, 119, 120, 121, 122, 123, 124, 125, 126, 127, 128, 129, 130, 131, 132, 133, 134, 135, 136, 137, 138, 139, 140, 141, 142, 143, 144, 145, 146, 147, 33, 148, 35, 36, 149, 150, 37, 151, 38, 152, 264, 265, 266, 267, 268, 269, 270, 271, 272, 273, 274, 275, 276, 277, 278, 279, 280, 281, 282, 295, 296, 297, 298, 299, 300, 301, 302, 303, 283, 284, 285, 286, 287, 288, 289, 290, 291, 292, 293, 294] (by decide +kernel) (by decide +kernel)
set_option maxRecDepth 20000 in
theorem gX7_put_X7_addEntry : GoodIn wsX7_put (wsV RX7 101 RX7 yX7_addEntry wsX7_addEntry) := goodIn_app (goodIn_of _ (by decide +kernel)) ggX7_put_X7_addEntry
set_option maxRecDepth 20000 in
theorem ggX7_put_X7_endBatch : GoodIn wsX7_put wsX7_endBatch := goodIn_r _ [156, 1, 45, 157, 158, 46, 7, 8, 4, 9, 10, 159, 160, 161, 33, 162, 35, 36, 37, 38, 264, 265, 266, 267, 268, 269, 270, 271, 272, 273, 274, 275, 276, 277, 278, 283, 284, 285, 286, 287, 288, 289, 290, 291, 279, 280, 281, 282] (by decide +kernel) (by decide +kernel)
set_option maxRecDepth 20000 in
theorem gX7_put_X7_endBatch : GoodIn wsX7_put (wsV RX7 104 RX7 yX7_endBatch wsX7_endBatch) := goodIn_app (goodIn_of _ (by decide +kernel)) ggX7_put_X7_endBatch
set_option maxRecDepth 20000 in
theorem ggX7_put_X7_endFile : GoodIn wsX7_put wsX7_endFile := goodIn_r _ [166, 1, 18, 19, 20, 14, 21, 16, 167, 168, 169, 4, 170, 171, 43, 73, 172, 173, 174, 175, 176, 177, 178, 179, 180, 181, 62, 182, 67, 183, 184, 185, 186, 187, 188, 189, 190, 191, 192, 193, 194, 195, 196, 197, 198, 66, 199, 200, 201, 202, 203, 204, 205, 206, 207, 208, 209, 7, 8, 9, 10, 159, 160, 161, 33, 162, 35, 36, 37, 38, 210, 211, 212, 213, 214, 215, 216, 217, 218, 44, 219, 220, 221, 222, 223, 224, 225, 226, 227, 158, 228, 229, 230, 231, 232, 233, 234, 235, 236, 80, 237, 238, 239, 240, 241, 79, 82, 242, 243, 244, 245, 246, 247, 248, 249, 250, 251, 252, 253, 254, 255, 256, 257, 258, 259, 260, 261, 262, 263, 95, 96, 97, 64, 65, 98, 99, 100, 101, 102, 103, 104, 105, 106, 107, 108, 109, 110, 111, 112, 113, 114, 115, 116, 117, 118, 119, 120, 121, 122, 123, 124, 125, 126, 127, 128, 129, 130, 131, 132, 133, 134, 135, 136, 137, 138, 139, 140, 141, 142, 143, 144, 264, 265, 266, 267, 268, 269, 270, 271, 272, 273, 274, 275, 276, 277, 278, 304, 305, 306, 307, 308, 309, 292, 293, 294, 279, 280, 281, 282, 283, 284, 285, 286, 287, 288, 289, 290, 291, 295, 296, 297, 298, 299, 300, 301, 302, 303] (by decide +kernel) (by decide +kernel)
set_option maxRecDepth 20000 in
theorem gX7_put_X7_endFile : GoodIn wsX7_put (wsV RX7 108 RX7 yX7_endFile wsX7_endFile) := goodIn_app (goodIn_of _ (by decide +kernel)) ggX7_put_X7_endFile
theorem dX7_put_0 : decode cX7_put 0 = .ok (.lload_n 1, 1) := by decide +kernel
theorem dX7_put_1 : decode cX7_put 1 = .ok (.invokestatic 79, 3) := by decide +kernel
theorem dX7_put_4 : decode cX7_put 4 = .ok (.ifCond .eq 10, 3) := by decide +kernel
theorem dX7_put_7 : decode cX7_put 7 = .ok (.lload_n 3, 1) := by decide +kernel
theorem dX7_put_8 : decode cX7_put 8 = .ok (.invokestatic 79, 3) := by decide +kernel
theorem dX7_put_11 : decode cX7_put 11 = .ok (.ifCond .ne 5, 3) := by decide +kernel
theorem dX7_put_14 : decode cX7_put 14 = .ok (.iconst (-1), 1) := by decide +kernel
theorem dX7_put_15 : decode cX7_put 15 = .ok (.ireturn, 1) := by decide +kernel
theorem dX7_put_16 : decode cX7_put 16 = .ok (.lload_n 1, 1) := by decide +kernel
theorem dX7_put_17 : decode cX7_put 17 = .ok (.lload_n 3, 1) := by decide +kernel
theorem dX7_put_18 : decode cX7_put 18 = .ok (.iconst 0, 1) := by decide +kernel
theorem dX7_put_19 : decode cX7_put 19 = .ok (.iconst 0, 1) := by decide +kernel
theorem dX7_put_20 : decode cX7_put 20 = .ok (.invokestatic 83, 3) := by decide +kernel
theorem dX7_put_23 : decode cX7_put 23 = .ok (.istore 5, 2) := by decide +kernel
theorem dX7_put_25 : decode cX7_put 25 = .ok (.aload_n 0, 1) := by decide +kernel
theorem dX7_put_26 : decode cX7_put 26 = .ok (.getfield 22, 3) := by decide +kernel
theorem dX7_put_29 : decode cX7_put 29 = .ok (.iload 5, 2) := by decide +kernel
theorem dX7_put_31 : decode cX7_put 31 = .ok (.invokevirtual 87, 3) := by decide +kernel
theorem dX7_put_34 : decode cX7_put 34 = .ok (.ifCond .ne 13, 3) := by decide +kernel
theorem dX7_put_37 : decode cX7_put 37 = .ok (.aload_n 0, 1) := by decide +kernel
theorem dX7_put_38 : decode cX7_put 38 = .ok (.getfield 22, 3) := by decide +kernel
theorem dX7_put_41 : decode cX7_put 41 = .ok (.invokevirtual 91, 3) := by decide +kernel
theorem dX7_put_44 : decode cX7_put 44 = .ok (.bipush (-2), 2) := by decide +kernel
theorem dX7_put_46 : decode cX7_put 46 = .ok (.ireturn, 1) := by decide +kernel
theorem dX7_put_47 : decode cX7_put 47 = .ok (.iload 5, 2) := by decide +kernel
theorem dX7_put_49 : decode cX7_put 49 = .ok (.tableswitch 93 1 8 #[47, 93, 93, 93, 71, 78, 93, 85], 47) := by decide +kernel
theorem dX7_put_96 : decode cX7_put 96 = .ok (.aload_n 0, 1) := by decide +kernel
theorem dX7_put_97 : decode cX7_put 97 = .ok (.getfield 22, 3) := by decide +kernel
theorem dX7_put_100 : decode cX7_put 100 = .ok (.lload_n 1, 1) := by decide +kernel
theorem dX7_put_101 : decode cX7_put 101 = .ok (.lload_n 3, 1) := by decide +kernel
theorem dX7_put_102 : decode cX7_put 102 = .ok (.iconst 1, 1) := by decide +kernel
theorem dX7_put_103 : decode cX7_put 103 = .ok (.iconst 4, 1) := by decide +kernel
theorem dX7_put_104 : decode cX7_put 104 = .ok (.invokestatic 83, 3) := by decide +kernel
theorem dX7_put_107 : decode cX7_put 107 = .ok (.lload_n 1, 1) := by decide +kernel
theorem dX7_put_108 : decode cX7_put 108 = .ok (.lload_n 3, 1) := by decide +kernel
theorem dX7_put_109 : decode cX7_put 109 = .ok (.iconst 5, 1) := by decide +kernel
theorem dX7_put_110 : decode cX7_put 110 = .ok (.bipush 8, 2) := by decide +kernel
theorem dX7_put_112 : decode cX7_put 112 = .ok (.invokestatic 83, 3) := by decide +kernel
theorem dX7_put_115 : decode cX7_put 115 = .ok (.invokevirtual 94, 3) := by decide +kernel
theorem dX7_put_118 : decode cX7_put 118 = .ok (.iconst 0, 1) := by decide +kernel
theorem dX7_put_119 : decode cX7_put 119 = .ok (.ireturn, 1) := by decide +kernel
theorem dX7_put_120 : decode cX7_put 120 = .ok (.aload_n 0, 1) := by decide +kernel
theorem dX7_put_121 : decode cX7_put 121 = .ok (.lload_n 1, 1) := by decide +kernel
theorem dX7_put_122 : decode cX7_put 122 = .ok (.lload_n 3, 1) := by decide +kernel
theorem dX7_put_123 : decode cX7_put 123 = .ok (.invokevirtual 97, 3) := by decide +kernel
theorem dX7_put_126 : decode cX7_put 126 = .ok (.ireturn, 1) := by decide +kernel
theorem dX7_put_127 : decode cX7_put 127 = .ok (.aload_n 0, 1) := by decide +kernel
theorem dX7_put_128 : decode cX7_put 128 = .ok (.lload_n 1, 1) := by decide +kernel
theorem dX7_put_129 : decode cX7_put 129 = .ok (.lload_n 3, 1) := by decide +kernel
theorem dX7_put_130 : decode cX7_put 130 = .ok (.invokevirtual 101, 3) := by decide +kernel
theorem dX7_put_133 : decode cX7_put 133 = .ok (.ireturn, 1) := by decide +kernel
theorem dX7_put_134 : decode cX7_put 134 = .ok (.aload_n 0, 1) := by decide +kernel
theorem dX7_put_135 : decode cX7_put 135 = .ok (.lload_n 1, 1) := by decide +kernel
theorem dX7_put_136 : decode cX7_put 136 = .ok (.lload_n 3, 1) := by decide +kernel
theorem dX7_put_137 : decode cX7_put 137 = .ok (.invokevirtual 104, 3) := by decide +kernel
theorem dX7_put_140 : decode cX7_put 140 = .ok (.iconst 0, 1) := by decide +kernel
theorem dX7_put_141 : decode cX7_put 141 = .ok (.ireturn, 1) := by decide +kernel
theorem dX7_put_142 : decode cX7_put 142 = .ok (.aload_n 0, 1) := by decide +kernel
theorem dX7_put_143 : decode cX7_put 143 = .ok (.lload_n 1, 1) := by decide +kernel
theorem dX7_put_144 : decode cX7_put 144 = .ok (.lload_n 3, 1) := by decide +kernel
theorem dX7_put_145 : decode cX7_put 145 = .ok (.invokevirtual 108, 3) := by decide +kernel
theorem dX7_put_148 : decode cX7_put 148 = .ok (.ireturn, 1) := by decide +kernel
set_option maxRecDepth 20000 in
theorem ggX7_window_X7_bankAt : GoodIn wsX7_window wsX7_bankAt := goodIn_r _ [6, 7, 8, 9, 10, 11, 12, 13, 14, 15, 16, 17, 18, 19, 20, 21, 22, 23, 24, 25, 26, 27, 28, 29, 30, 31, 185, 186, 187, 188, 189, 190, 191, 192, 193, 194] (by decide +kernel) (by decide +kernel)
set_option maxRecDepth 20000 in
theorem gX7_window_X7_bankAt : GoodIn wsX7_window (wsV RX7 61 RX7 yX7_bankAt wsX7_bankAt) := goodIn_app (goodIn_of _ (by decide +kernel)) ggX7_window_X7_bankAt
set_option maxRecDepth 20000 in
theorem ggX7_window_X5_isDone : GoodIn wsX7_window wsX5_isDone := goodIn_r _ [36, 37, 38, 39, 10, 11, 12, 13, 14, 195, 196, 197, 198, 192, 193, 194] (by decide +kernel) (by decide +kernel)
set_option maxRecDepth 20000 in
theorem gX7_window_X5_isDone : GoodIn wsX7_window (wsV RX7 115 RX5 yX5_isDone wsX5_isDone) := goodIn_app (goodIn_of _ (by decide +kernel)) ggX7_window_X5_isDone
set_option maxRecDepth 20000 in
theorem ggX7_window_X5_clear : GoodIn wsX7_window wsX5_clear := goodIn_r _ [43, 38, 44, 45, 37, 46, 47, 48, 12, 49, 50, 51, 31, 14, 52, 53, 54, 55, 56, 57, 58, 59, 60, 195, 196, 197, 198, 192, 193, 194, 199, 200, 201, 202] (by decide +kernel) (by decide +kernel)
set_option maxRecDepth 20000 in
theorem gX7_window_X5_clear : GoodIn wsX7_window (wsV RX7 121 RX5 yX5_clear wsX5_clear) := goodIn_app (goodIn_of _ (by decide +kernel)) ggX7_window_X5_clear
set_option maxRecDepth 20000 in
theorem ggX7_window_X7_handOutReturns : GoodIn wsX7_window wsX7_handOutReturns := goodIn_r _ [63, 64, 65, 1, 9, 10, 11, 12, 13, 14, 15, 16, 17, 18, 19, 20, 21, 22, 23, 24, 25, 26, 27, 28, 29, 30, 31, 66, 67, 68, 35, 69, 38, 44, 45, 70, 71, 72, 73, 50, 51, 74, 75, 76, 77, 78, 79, 80, 81, 82, 83, 84, 85, 86, 87, 88, 89, 90, 91, 92, 93, 94, 95, 96, 97, 98, 99, 100, 101, 102, 103, 104, 105, 106, 107, 108, 109, 110, 111, 112, 113, 114, 115, 116, 117, 118, 119, 120, 121, 122, 123, 55, 124, 57, 58, 125, 126, 59, 127, 60, 128, 129, 5, 130, 131, 132, 133, 134, 135, 136, 47, 48, 49, 179, 180, 181, 182, 183, 184, 192, 193, 194, 195, 196, 197, 198, 199, 200, 201, 202, 203, 204, 205, 206, 207, 208, 209, 210, 211] (by decide +kernel) (by decide +kernel)
set_option maxRecDepth 20000 in
theorem gX7_window_X7_handOutReturns : GoodIn wsX7_window (va_wsS RX7 124 yX7_handOutReturns wsX7_handOutReturns) := goodIn_app (goodIn_of _ (by decide +kernel)) ggX7_window_X7_handOutReturns
set_option maxRecDepth 20000 in
theorem ggX7_window_X7_handOutEntries : GoodIn wsX7_window wsX7_handOutEntries := goodIn_r _ [140, 141, 65, 142, 143, 1, 9, 10, 11, 12, 13, 14, 15, 16, 17, 18, 19, 20, 21, 22, 23, 24, 25, 26, 27, 28, 29, 30, 31, 144, 145, 146, 35, 147, 38, 45, 148, 44, 39, 149, 150, 151, 152, 153, 154, 155, 156, 157, 158, 159, 160, 161, 50, 51, 162, 118, 119, 120, 163, 164, 165, 166, 78, 79, 80, 81, 82, 83, 84, 85, 86, 87, 88, 89, 90, 91, 92, 93, 94, 95, 96, 97, 98, 99, 100, 101, 102, 103, 104, 105, 106, 107, 108, 109, 110, 111, 112, 113, 114, 115, 116, 117, 121, 122, 123, 55, 124, 57, 58, 125, 126, 59, 127, 60, 128, 129, 5, 130, 131, 132, 133, 134, 135, 167, 168, 169, 170, 171, 172, 173, 174, 179, 180, 181, 182, 183, 184, 203, 204, 205, 206, 207, 208, 209, 210, 211, 185, 186, 187, 188, 189, 190, 191, 192, 193, 194, 195, 196, 197, 198, 199, 200, 201, 202] (by decide +kernel) (by decide +kernel)
set_option maxRecDepth 20000 in
theorem gX7_window_X7_handOutEntries : GoodIn wsX7_window (wsV RX7 128 RX7 yX7_handOutEntries wsX7_handOutEntries) := goodIn_app (goodIn_of _ (by decide +kernel)) ggX7_window_X7_handOutEntries
set_option maxRecDepth 20000 in
theorem ggX7_window_X5_size : GoodIn wsX7_window wsX5_size := goodIn_r _ [178, 38, 39, 10, 11, 12, 13, 14, 195, 196, 197, 198, 192, 193, 194] (by decide +kernel) (by decide +kernel)
set_option maxRecDepth 20000 in
theorem gX7_window_X5_size : GoodIn wsX7_window (wsV RX7 131 RX5 yX5_size wsX5_size) := goodIn_app (goodIn_of _ (by decide +kernel)) ggX7_window_X5_size
theorem dX7_window_0 : decode cX7_window 0 = .ok (.aload_n 0, 1) := by decide +kernel
theorem dX7_window_1 : decode cX7_window 1 = .ok (.iload_n 1, 1) := by decide +kernel
theorem dX7_window_2 : decode cX7_window 2 = .ok (.invokevirtual 61, 3) := by decide +kernel
theorem dX7_window_5 : decode cX7_window 5 = .ok (.astore_n 2, 1) := by decide +kernel
theorem dX7_window_6 : decode cX7_window 6 = .ok (.aload_n 2, 1) := by decide +kernel
theorem dX7_window_7 : decode cX7_window 7 = .ok (.ifnonnull 5, 3) := by decide +kernel
theorem dX7_window_10 : decode cX7_window 10 = .ok (.iconst (-1), 1) := by decide +kernel
theorem dX7_window_11 : decode cX7_window 11 = .ok (.ireturn, 1) := by decide +kernel
theorem dX7_window_12 : decode cX7_window 12 = .ok (.aload_n 2, 1) := by decide +kernel
theorem dX7_window_13 : decode cX7_window 13 = .ok (.getfield 111, 3) := by decide +kernel
theorem dX7_window_16 : decode cX7_window 16 = .ok (.invokevirtual 115, 3) := by decide +kernel
theorem dX7_window_19 : decode cX7_window 19 = .ok (.ifCond .ne 6, 3) := by decide +kernel
theorem dX7_window_22 : decode cX7_window 22 = .ok (.bipush (-4), 2) := by decide +kernel
theorem dX7_window_24 : decode cX7_window 24 = .ok (.ireturn, 1) := by decide +kernel
theorem dX7_window_25 : decode cX7_window 25 = .ok (.aload_n 2, 1) := by decide +kernel
theorem dX7_window_26 : decode cX7_window 26 = .ok (.getfield 111, 3) := by decide +kernel
theorem dX7_window_29 : decode cX7_window 29 = .ok (.invokevirtual 121, 3) := by decide +kernel
theorem dX7_window_32 : decode cX7_window 32 = .ok (.aload_n 2, 1) := by decide +kernel
theorem dX7_window_33 : decode cX7_window 33 = .ok (.invokestatic 124, 3) := by decide +kernel
theorem dX7_window_36 : decode cX7_window 36 = .ok (.aload_n 0, 1) := by decide +kernel
theorem dX7_window_37 : decode cX7_window 37 = .ok (.aload_n 2, 1) := by decide +kernel
theorem dX7_window_38 : decode cX7_window 38 = .ok (.invokevirtual 128, 3) := by decide +kernel
theorem dX7_window_41 : decode cX7_window 41 = .ok (.aload_n 2, 1) := by decide +kernel
theorem dX7_window_42 : decode cX7_window 42 = .ok (.getfield 111, 3) := by decide +kernel
theorem dX7_window_45 : decode cX7_window 45 = .ok (.invokevirtual 131, 3) := by decide +kernel
theorem dX7_window_48 : decode cX7_window 48 = .ok (.ireturn, 1) := by decide +kernel
set_option maxRecDepth 20000 in
theorem ggX7_post_X7_bankAt : GoodIn wsX7_post wsX7_bankAt := goodIn_r _ [13, 14, 15, 16, 17, 18, 19, 20, 21, 22, 23, 24, 25, 26, 27, 28, 29, 30, 31, 32, 33, 34, 35, 36, 37, 38, 148, 149, 150, 151, 152, 153, 154, 155, 156, 157] (by decide +kernel) (by decide +kernel)
set_option maxRecDepth 20000 in
theorem gX7_post_X7_bankAt : GoodIn wsX7_post (wsV RX7 61 RX7 yX7_bankAt wsX7_bankAt) := goodIn_app (goodIn_of _ (by decide +kernel)) ggX7_post_X7_bankAt
set_option maxRecDepth 20000 in
theorem ggX7_post_X5_size : GoodIn wsX7_post wsX5_size := goodIn_r _ [43, 44, 45, 17, 18, 19, 20, 21, 144, 145, 146, 147, 155, 156, 157] (by decide +kernel) (by decide +kernel)
set_option maxRecDepth 20000 in
theorem gX7_post_X5_size : GoodIn wsX7_post (wsV RX7 131 RX5 yX5_size wsX5_size) := goodIn_app (goodIn_of _ (by decide +kernel)) ggX7_post_X5_size
set_option maxRecDepth 20000 in
theorem ggX7_post_X5_isReturn : GoodIn wsX7_post wsX5_isReturn := goodIn_r _ [49, 50, 144, 145, 146, 147] (by decide +kernel) (by decide +kernel)
set_option maxRecDepth 20000 in
theorem gX7_post_X5_isReturn : GoodIn wsX7_post (wsV RX7 141 RX5 yX5_isReturn wsX5_isReturn) := goodIn_app (goodIn_of _ (by decide +kernel)) ggX7_post_X5_isReturn
set_option maxRecDepth 20000 in
theorem ggX7_post_Jx4a65c_get_915e3 : GoodIn wsX7_post wsJx4a65c_get_915e3 := goodIn_r _ [25, 21, 26, 27, 28, 29, 30, 31, 32, 33, 34, 35, 36, 19, 37, 38, 155, 156, 157] (by decide +kernel) (by decide +kernel)
set_option maxRecDepth 20000 in
theorem gX7_post_Jx4a65c_get_915e3 : GoodIn wsX7_post (wsV RX7 147 RJx4a65c yJx4a65c_get_915e3 wsJx4a65c_get_915e3) := goodIn_app (goodIn_of _ (by decide +kernel)) ggX7_post_Jx4a65c_get_915e3
set_option maxRecDepth 20000 in
theorem ggX7_post_X7_postOrSendBack : GoodIn wsX7_post wsX7_postOrSendBack := goodIn_r _ [54, 55, 56, 57, 58, 59, 60, 61, 62, 63, 12, 64, 65, 66, 67, 68, 16, 17, 18, 19, 20, 21, 22, 23, 24, 25, 26, 27, 28, 29, 30, 31, 32, 33, 34, 35, 36, 37, 38, 69, 70, 71, 72, 73, 74, 75, 76, 77, 78, 79, 80, 81, 82, 83, 84, 85, 86, 87, 88, 89, 90, 91, 92, 93, 94, 95, 96, 97, 98, 99, 100, 101, 102, 103, 104, 105, 106, 107, 108, 5, 109, 110, 111, 112, 113, 114, 115, 116, 117, 118, 119, 120, 121, 122, 123, 124, 125, 126, 127, 128, 129, 130, 131, 132, 133, 4, 6, 134, 135, 136, 137, 158, 159, 160, 161, 162, 163, 164, 165, 166, 167, 168, 169, 170, 148, 149, 150, 151, 152, 153, 154, 155, 156, 157, 138, 139, 140, 141, 142, 143] (by decide +kernel) (by decide +kernel)
set_option maxRecDepth 20000 in
theorem gX7_post_X7_postOrSendBack : GoodIn wsX7_post (wsV RX7 153 RX7 yX7_postOrSendBack wsX7_postOrSendBack) := goodIn_app (goodIn_of _ (by decide +kernel)) ggX7_post_X7_postOrSendBack
theorem dX7_post_0 : decode cX7_post 0 = .ok (.aload_n 0, 1) := by decide +kernel
theorem dX7_post_1 : decode cX7_post 1 = .ok (.iload_n 1, 1) := by decide +kernel
theorem dX7_post_2 : decode cX7_post 2 = .ok (.invokevirtual 61, 3) := by decide +kernel
theorem dX7_post_5 : decode cX7_post 5 = .ok (.astore_n 3, 1) := by decide +kernel
theorem dX7_post_6 : decode cX7_post 6 = .ok (.aload_n 3, 1) := by decide +kernel
theorem dX7_post_7 : decode cX7_post 7 = .ok (.ifnull 14, 3) := by decide +kernel
theorem dX7_post_10 : decode cX7_post 10 = .ok (.iload_n 2, 1) := by decide +kernel
theorem dX7_post_11 : decode cX7_post 11 = .ok (.iconst 1, 1) := by decide +kernel
theorem dX7_post_12 : decode cX7_post 12 = .ok (.if_icmp .lt 9, 3) := by decide +kernel
theorem dX7_post_15 : decode cX7_post 15 = .ok (.iload_n 2, 1) := by decide +kernel
theorem dX7_post_16 : decode cX7_post 16 = .ok (.bipush 40, 2) := by decide +kernel
theorem dX7_post_18 : decode cX7_post 18 = .ok (.if_icmp .le 5, 3) := by decide +kernel
theorem dX7_post_21 : decode cX7_post 21 = .ok (.iconst (-1), 1) := by decide +kernel
theorem dX7_post_22 : decode cX7_post 22 = .ok (.ireturn, 1) := by decide +kernel
theorem dX7_post_23 : decode cX7_post 23 = .ok (.aload_n 3, 1) := by decide +kernel
theorem dX7_post_24 : decode cX7_post 24 = .ok (.getfield 111, 3) := by decide +kernel
theorem dX7_post_27 : decode cX7_post 27 = .ok (.astore 4, 2) := by decide +kernel
theorem dX7_post_29 : decode cX7_post 29 = .ok (.aload 4, 2) := by decide +kernel
theorem dX7_post_31 : decode cX7_post 31 = .ok (.getfield 132, 3) := by decide +kernel
theorem dX7_post_34 : decode cX7_post 34 = .ok (.iload_n 2, 1) := by decide +kernel
theorem dX7_post_35 : decode cX7_post 35 = .ok (.iadd, 1) := by decide +kernel
theorem dX7_post_36 : decode cX7_post 36 = .ok (.aload 4, 2) := by decide +kernel
theorem dX7_post_38 : decode cX7_post 38 = .ok (.invokevirtual 131, 3) := by decide +kernel
theorem dX7_post_41 : decode cX7_post 41 = .ok (.invokestatic 135, 3) := by decide +kernel
theorem dX7_post_44 : decode cX7_post 44 = .ok (.istore 5, 2) := by decide +kernel
theorem dX7_post_46 : decode cX7_post 46 = .ok (.iconst 0, 1) := by decide +kernel
theorem dX7_post_47 : decode cX7_post 47 = .ok (.istore 6, 2) := by decide +kernel
theorem dX7_post_49 : decode cX7_post 49 = .ok (.aload 4, 2) := by decide +kernel
theorem dX7_post_51 : decode cX7_post 51 = .ok (.getfield 132, 3) := by decide +kernel
theorem dX7_post_54 : decode cX7_post 54 = .ok (.istore 7, 2) := by decide +kernel
theorem dX7_post_56 : decode cX7_post 56 = .ok (.iload 7, 2) := by decide +kernel
theorem dX7_post_58 : decode cX7_post 58 = .ok (.iload 5, 2) := by decide +kernel
theorem dX7_post_60 : decode cX7_post 60 = .ok (.if_icmp .ge 42, 3) := by decide +kernel
theorem dX7_post_63 : decode cX7_post 63 = .ok (.aload 4, 2) := by decide +kernel
theorem dX7_post_65 : decode cX7_post 65 = .ok (.iload 7, 2) := by decide +kernel
theorem dX7_post_67 : decode cX7_post 67 = .ok (.invokevirtual 141, 3) := by decide +kernel
theorem dX7_post_70 : decode cX7_post 70 = .ok (.ifCond .ne 26, 3) := by decide +kernel
theorem dX7_post_73 : decode cX7_post 73 = .ok (.aload_n 0, 1) := by decide +kernel
theorem dX7_post_74 : decode cX7_post 74 = .ok (.aload 4, 2) := by decide +kernel
theorem dX7_post_76 : decode cX7_post 76 = .ok (.getfield 144, 3) := by decide +kernel
theorem dX7_post_79 : decode cX7_post 79 = .ok (.iload 7, 2) := by decide +kernel
theorem dX7_post_81 : decode cX7_post 81 = .ok (.invokevirtual 147, 3) := by decide +kernel
theorem dX7_post_84 : decode cX7_post 84 = .ok (.checkcast 151, 3) := by decide +kernel
theorem dX7_post_87 : decode cX7_post 87 = .ok (.invokevirtual 153, 3) := by decide +kernel
theorem dX7_post_90 : decode cX7_post 90 = .ok (.ifCond .eq 6, 3) := by decide +kernel
theorem dX7_post_93 : decode cX7_post 93 = .ok (.iinc 6 1, 3) := by decide +kernel
theorem dX7_post_96 : decode cX7_post 96 = .ok (.iinc 7 1, 3) := by decide +kernel
theorem dX7_post_99 : decode cX7_post 99 = .ok (.goto (-43), 3) := by decide +kernel
theorem dX7_post_102 : decode cX7_post 102 = .ok (.aload 4, 2) := by decide +kernel
theorem dX7_post_104 : decode cX7_post 104 = .ok (.iload 5, 2) := by decide +kernel
theorem dX7_post_106 : decode cX7_post 106 = .ok (.putfield 132, 3) := by decide +kernel
theorem dX7_post_109 : decode cX7_post 109 = .ok (.iload 6, 2) := by decide +kernel
theorem dX7_post_111 : decode cX7_post 111 = .ok (.ireturn, 1) := by decide +kernel
set_option maxRecDepth 20000 in
theorem ggX7_items_X7_bankAt : GoodIn wsX7_items wsX7_bankAt := goodIn_r _ [6, 7, 8, 9, 10, 11, 12, 13, 14, 15, 16, 17, 18, 19, 20, 21, 22, 23, 24, 25, 26, 27, 28, 29, 30, 31, 45, 46, 47, 48, 49, 50, 51, 52, 53, 54] (by decide +kernel) (by decide +kernel)
set_option maxRecDepth 20000 in
theorem gX7_items_X7_bankAt : GoodIn wsX7_items (wsV RX7 61 RX7 yX7_bankAt wsX7_bankAt) := goodIn_app (goodIn_of _ (by decide +kernel)) ggX7_items_X7_bankAt
set_option maxRecDepth 20000 in
theorem ggX7_items_X5_size : GoodIn wsX7_items wsX5_size := goodIn_r _ [36, 37, 38, 10, 11, 12, 13, 14, 55, 56, 57, 58, 52, 53, 54] (by decide +kernel) (by decide +kernel)
set_option maxRecDepth 20000 in
theorem gX7_items_X5_size : GoodIn wsX7_items (wsV RX7 131 RX5 yX5_size wsX5_size) := goodIn_app (goodIn_of _ (by decide +kernel)) ggX7_items_X5_size
theorem dX7_items_0 : decode cX7_items 0 = .ok (.aload_n 0, 1) := by decide +kernel
theorem dX7_items_1 : decode cX7_items 1 = .ok (.iload_n 1, 1) := by decide +kernel
theorem dX7_items_2 : decode cX7_items 2 = .ok (.invokevirtual 61, 3) := by decide +kernel
theorem dX7_items_5 : decode cX7_items 5 = .ok (.astore_n 2, 1) := by decide +kernel
theorem dX7_items_6 : decode cX7_items 6 = .ok (.aload_n 2, 1) := by decide +kernel
theorem dX7_items_7 : decode cX7_items 7 = .ok (.ifnonnull 7, 3) := by decide +kernel
theorem dX7_items_10 : decode cX7_items 10 = .ok (.iconst (-1), 1) := by decide +kernel
theorem dX7_items_11 : decode cX7_items 11 = .ok (.goto 10, 3) := by decide +kernel
theorem dX7_items_14 : decode cX7_items 14 = .ok (.aload_n 2, 1) := by decide +kernel
theorem dX7_items_15 : decode cX7_items 15 = .ok (.getfield 111, 3) := by decide +kernel
theorem dX7_items_18 : decode cX7_items 18 = .ok (.invokevirtual 131, 3) := by decide +kernel
theorem dX7_items_21 : decode cX7_items 21 = .ok (.ireturn, 1) := by decide +kernel
set_option maxRecDepth 20000 in
theorem ggX7_item_X7_bankAt : GoodIn wsX7_item wsX7_bankAt := goodIn_r _ [16, 17, 18, 19, 20, 21, 22, 23, 24, 25, 26, 27, 28, 29, 30, 31, 32, 33, 34, 35, 36, 37, 38, 39, 40, 41, 82, 83, 84, 85, 86, 87, 88, 89, 90, 91] (by decide +kernel) (by decide +kernel)
set_option maxRecDepth 20000 in
theorem gX7_item_X7_bankAt : GoodIn wsX7_item (wsV RX7 61 RX7 yX7_bankAt wsX7_bankAt) := goodIn_app (goodIn_of _ (by decide +kernel)) ggX7_item_X7_bankAt
set_option maxRecDepth 20000 in
theorem ggX7_item_X5_size : GoodIn wsX7_item wsX5_size := goodIn_r _ [46, 47, 48, 20, 21, 22, 23, 24, 69, 70, 71, 72, 89, 90, 91] (by decide +kernel) (by decide +kernel)
set_option maxRecDepth 20000 in
theorem gX7_item_X5_size : GoodIn wsX7_item (wsV RX7 131 RX5 yX5_size wsX5_size) := goodIn_app (goodIn_of _ (by decide +kernel)) ggX7_item_X5_size
set_option maxRecDepth 20000 in
theorem ggX7_item_Jx4a65c_get_915e3 : GoodIn wsX7_item wsJx4a65c_get_915e3 := goodIn_r _ [28, 24, 29, 30, 31, 32, 33, 34, 35, 36, 37, 38, 39, 22, 40, 41, 89, 90, 91] (by decide +kernel) (by decide +kernel)
set_option maxRecDepth 20000 in
theorem gX7_item_Jx4a65c_get_915e3 : GoodIn wsX7_item (wsV RX7 147 RJx4a65c yJx4a65c_get_915e3 wsJx4a65c_get_915e3) := goodIn_app (goodIn_of _ (by decide +kernel)) ggX7_item_Jx4a65c_get_915e3
set_option maxRecDepth 20000 in
theorem ggX7_item_X5_isReturn : GoodIn wsX7_item wsX5_isReturn := goodIn_r _ [52, 53, 69, 70, 71, 72] (by decide +kernel) (by decide +kernel)
set_option maxRecDepth 20000 in
theorem gX7_item_X5_isReturn : GoodIn wsX7_item (wsV RX7 141 RX5 yX5_isReturn wsX5_isReturn) := goodIn_app (goodIn_of _ (by decide +kernel)) ggX7_item_X5_isReturn
set_option maxRecDepth 20000 in
theorem ggX7_item_X5_stateOf : GoodIn wsX7_item wsX5_stateOf := goodIn_r _ [57, 58, 47, 59, 60, 61, 50, 51, 45, 52, 53, 62, 26, 27, 22, 28, 24, 29, 30, 31, 32, 33, 34, 35, 36, 37, 38, 39, 40, 41, 69, 70, 71, 72, 73, 74, 75, 76, 77, 78, 79, 80, 81, 89, 90, 91] (by decide +kernel) (by decide +kernel)
set_option maxRecDepth 20000 in
theorem gX7_item_X5_stateOf : GoodIn wsX7_item (wsV RX7 182 RX5 yX5_stateOf wsX5_stateOf) := goodIn_app (goodIn_of _ (by decide +kernel)) ggX7_item_X5_stateOf
theorem dX7_item_0 : decode cX7_item 0 = .ok (.aload_n 0, 1) := by decide +kernel
theorem dX7_item_1 : decode cX7_item 1 = .ok (.iload_n 1, 1) := by decide +kernel
theorem dX7_item_2 : decode cX7_item 2 = .ok (.invokevirtual 61, 3) := by decide +kernel
theorem dX7_item_5 : decode cX7_item 5 = .ok (.astore 4, 2) := by decide +kernel
theorem dX7_item_7 : decode cX7_item 7 = .ok (.aload 4, 2) := by decide +kernel
theorem dX7_item_9 : decode cX7_item 9 = .ok (.ifnull 19, 3) := by decide +kernel
theorem dX7_item_12 : decode cX7_item 12 = .ok (.iload_n 2, 1) := by decide +kernel
theorem dX7_item_13 : decode cX7_item 13 = .ok (.ifCond .lt 15, 3) := by decide +kernel
theorem dX7_item_16 : decode cX7_item 16 = .ok (.iload_n 2, 1) := by decide +kernel
theorem dX7_item_17 : decode cX7_item 17 = .ok (.aload 4, 2) := by decide +kernel
theorem dX7_item_19 : decode cX7_item 19 = .ok (.getfield 111, 3) := by decide +kernel
theorem dX7_item_22 : decode cX7_item 22 = .ok (.invokevirtual 131, 3) := by decide +kernel
theorem dX7_item_25 : decode cX7_item 25 = .ok (.if_icmp .lt 5, 3) := by decide +kernel
theorem dX7_item_28 : decode cX7_item 28 = .ok (.iconst (-1), 1) := by decide +kernel
theorem dX7_item_29 : decode cX7_item 29 = .ok (.ireturn, 1) := by decide +kernel
theorem dX7_item_30 : decode cX7_item 30 = .ok (.aload 4, 2) := by decide +kernel
theorem dX7_item_32 : decode cX7_item 32 = .ok (.getfield 111, 3) := by decide +kernel
