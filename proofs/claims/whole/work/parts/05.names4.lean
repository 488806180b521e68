theorem dX7_acceptEntries_3 : decode cX7_acceptEntries 3 = .ok (.istore_n 3, 1) := by decide +kernel
theorem dX7_acceptEntries_4 : decode cX7_acceptEntries 4 = .ok (.iload_n 3, 1) := by decide +kernel
theorem dX7_acceptEntries_5 : decode cX7_acceptEntries 5 = .ok (.aload_n 1, 1) := by decide +kernel
theorem dX7_acceptEntries_6 : decode cX7_acceptEntries 6 = .ok (.getfield 314, 3) := by decide +kernel
theorem dX7_acceptEntries_9 : decode cX7_acceptEntries 9 = .ok (.invokevirtual 48, 3) := by decide +kernel
theorem dX7_acceptEntries_12 : decode cX7_acceptEntries 12 = .ok (.if_icmp .ge 67, 3) := by decide +kernel
theorem dX7_acceptEntries_15 : decode cX7_acceptEntries 15 = .ok (.aload_n 1, 1) := by decide +kernel
theorem dX7_acceptEntries_16 : decode cX7_acceptEntries 16 = .ok (.getfield 314, 3) := by decide +kernel
theorem dX7_acceptEntries_19 : decode cX7_acceptEntries 19 = .ok (.iload_n 3, 1) := by decide +kernel
theorem dX7_acceptEntries_20 : decode cX7_acceptEntries 20 = .ok (.invokevirtual 147, 3) := by decide +kernel
theorem dX7_acceptEntries_23 : decode cX7_acceptEntries 23 = .ok (.checkcast 151, 3) := by decide +kernel
theorem dX7_acceptEntries_26 : decode cX7_acceptEntries 26 = .ok (.astore 4, 2) := by decide +kernel
theorem dX7_acceptEntries_28 : decode cX7_acceptEntries 28 = .ok (.aload 4, 2) := by decide +kernel
theorem dX7_acceptEntries_30 : decode cX7_acceptEntries 30 = .ok (.getfield 179, 3) := by decide +kernel
theorem dX7_acceptEntries_33 : decode cX7_acceptEntries 33 = .ok (.ifCond .eq 15, 3) := by decide +kernel
theorem dX7_acceptEntries_36 : decode cX7_acceptEntries 36 = .ok (.aload_n 0, 1) := by decide +kernel
theorem dX7_acceptEntries_37 : decode cX7_acceptEntries 37 = .ok (.aload 4, 2) := by decide +kernel
theorem dX7_acceptEntries_39 : decode cX7_acceptEntries 39 = .ok (.getfield 179, 3) := by decide +kernel
theorem dX7_acceptEntries_42 : decode cX7_acceptEntries 42 = .ok (.invokevirtual 270, 3) := by decide +kernel
theorem dX7_acceptEntries_45 : decode cX7_acceptEntries 45 = .ok (.goto 28, 3) := by decide +kernel
theorem dX7_acceptEntries_48 : decode cX7_acceptEntries 48 = .ok (.aload 4, 2) := by decide +kernel
theorem dX7_acceptEntries_50 : decode cX7_acceptEntries 50 = .ok (.getfield 160, 3) := by decide +kernel
theorem dX7_acceptEntries_53 : decode cX7_acceptEntries 53 = .ok (.ifnull 20, 3) := by decide +kernel
theorem dX7_acceptEntries_56 : decode cX7_acceptEntries 56 = .ok (.aload 4, 2) := by decide +kernel
theorem dX7_acceptEntries_58 : decode cX7_acceptEntries 58 = .ok (.getfield 160, 3) := by decide +kernel
theorem dX7_acceptEntries_61 : decode cX7_acceptEntries 61 = .ok (.getfield 213, 3) := by decide +kernel
theorem dX7_acceptEntries_64 : decode cX7_acceptEntries 64 = .ok (.aload 4, 2) := by decide +kernel
theorem dX7_acceptEntries_66 : decode cX7_acceptEntries 66 = .ok (.invokevirtual 57, 3) := by decide +kernel
theorem dX7_acceptEntries_69 : decode cX7_acceptEntries 69 = .ok (.pop, 1) := by decide +kernel
theorem dX7_acceptEntries_70 : decode cX7_acceptEntries 70 = .ok (.iinc 2 1, 3) := by decide +kernel
theorem dX7_acceptEntries_73 : decode cX7_acceptEntries 73 = .ok (.iinc 3 1, 3) := by decide +kernel
theorem dX7_acceptEntries_76 : decode cX7_acceptEntries 76 = .ok (.goto (-72), 3) := by decide +kernel
theorem dX7_acceptEntries_79 : decode cX7_acceptEntries 79 = .ok (.iload_n 2, 1) := by decide +kernel
theorem dX7_acceptEntries_80 : decode cX7_acceptEntries 80 = .ok (.ireturn, 1) := by decide +kernel
theorem dX7_countRefusal_0 : decode cX7_countRefusal 0 = .ok (.iload_n 1, 1) := by decide +kernel
theorem dX7_countRefusal_1 : decode cX7_countRefusal 1 = .ok (.ifCond .lt 22, 3) := by decide +kernel
theorem dX7_countRefusal_4 : decode cX7_countRefusal 4 = .ok (.iload_n 1, 1) := by decide +kernel
theorem dX7_countRefusal_5 : decode cX7_countRefusal 5 = .ok (.aload_n 0, 1) := by decide +kernel
theorem dX7_countRefusal_6 : decode cX7_countRefusal 6 = .ok (.getfield 34, 3) := by decide +kernel
theorem dX7_countRefusal_9 : decode cX7_countRefusal 9 = .ok (.arraylength, 1) := by decide +kernel
theorem dX7_countRefusal_10 : decode cX7_countRefusal 10 = .ok (.if_icmp .ge 13, 3) := by decide +kernel
theorem dX7_countRefusal_13 : decode cX7_countRefusal 13 = .ok (.aload_n 0, 1) := by decide +kernel
theorem dX7_countRefusal_14 : decode cX7_countRefusal 14 = .ok (.getfield 34, 3) := by decide +kernel
theorem dX7_countRefusal_17 : decode cX7_countRefusal 17 = .ok (.iload_n 1, 1) := by decide +kernel
theorem dX7_countRefusal_18 : decode cX7_countRefusal 18 = .ok (.dup2, 1) := by decide +kernel
theorem dX7_countRefusal_19 : decode cX7_countRefusal 19 = .ok (.iaload, 1) := by decide +kernel
theorem dX7_countRefusal_20 : decode cX7_countRefusal 20 = .ok (.iconst 1, 1) := by decide +kernel
theorem dX7_countRefusal_21 : decode cX7_countRefusal 21 = .ok (.iadd, 1) := by decide +kernel
theorem dX7_countRefusal_22 : decode cX7_countRefusal 22 = .ok (.iastore, 1) := by decide +kernel
theorem dX7_countRefusal_23 : decode cX7_countRefusal 23 = .ok (.return_, 1) := by decide +kernel
set_option maxRecDepth 20000 in
theorem ggX7_handOutReturns_Jx4a65c_size_8abf5 : GoodIn wsX7_handOutReturns wsJx4a65c_size_8abf5 := goodIn_r _ [8, 9, 119, 120, 121] (by decide +kernel) (by decide +kernel)
set_option maxRecDepth 20000 in
theorem gX7_handOutReturns_Jx4a65c_size_8abf5 : GoodIn wsX7_handOutReturns (wsV RX7 48 RJx4a65c yJx4a65c_size_8abf5 wsJx4a65c_size_8abf5) := goodIn_app (goodIn_of _ (by decide +kernel)) ggX7_handOutReturns_Jx4a65c_size_8abf5
set_option maxRecDepth 20000 in
theorem ggX7_handOutReturns_Jx4a65c_get_915e3 : GoodIn wsX7_handOutReturns wsJx4a65c_get_915e3 := goodIn_r _ [13, 9, 14, 15, 16, 17, 18, 19, 20, 21, 22, 23, 24, 7, 25, 26, 119, 120, 121] (by decide +kernel) (by decide +kernel)
set_option maxRecDepth 20000 in
theorem gX7_handOutReturns_Jx4a65c_get_915e3 : GoodIn wsX7_handOutReturns (wsV RX7 147 RJx4a65c yJx4a65c_get_915e3 wsJx4a65c_get_915e3) := goodIn_app (goodIn_of _ (by decide +kernel)) ggX7_handOutReturns_Jx4a65c_get_915e3
set_option maxRecDepth 20000 in
theorem ggX7_handOutReturns_X5_addReturn : GoodIn wsX7_handOutReturns wsX5_addReturn := goodIn_r _ [31, 32, 33, 34, 35, 36, 37, 7, 38, 39, 40, 26, 9, 41, 42, 43, 44, 45, 46, 47, 48, 49, 50, 51, 52, 53, 54, 55, 56, 57, 58, 59, 60, 61, 62, 63, 64, 65, 66, 67, 68, 69, 70, 71, 72, 73, 74, 75, 76, 77, 78, 79, 80, 81, 82, 83, 84, 85, 86, 87, 88, 89, 90, 91, 92, 93, 94, 95, 96, 97, 98, 99, 122, 123, 124, 125, 119, 120, 121, 126, 127, 128, 129, 130, 131, 132, 133, 134, 135, 136, 137, 138] (by decide +kernel) (by decide +kernel)
set_option maxRecDepth 20000 in
theorem gX7_handOutReturns_X5_addReturn : GoodIn wsX7_handOutReturns (wsV RX7 323 RX5 yX5_addReturn wsX5_addReturn) := goodIn_app (goodIn_of _ (by decide +kernel)) ggX7_handOutReturns_X5_addReturn
set_option maxRecDepth 20000 in
theorem ggX7_handOutReturns_X7_settle : GoodIn wsX7_handOutReturns wsX7_settle := goodIn_r _ [103, 104, 105, 106, 107, 108, 130, 131, 132, 133, 134, 135, 136, 137, 138, 113, 114, 115, 116, 117, 118] (by decide +kernel) (by decide +kernel)
set_option maxRecDepth 20000 in
theorem gX7_handOutReturns_X7_settle : GoodIn wsX7_handOutReturns (va_wsS RX7 326 yX7_settle wsX7_settle) := goodIn_app (goodIn_of _ (by decide +kernel)) ggX7_handOutReturns_X7_settle
set_option maxRecDepth 20000 in
theorem ggX7_handOutReturns_Jx4a65c_clear_da8c8 : GoodIn wsX7_handOutReturns wsJx4a65c_clear_da8c8 := goodIn_r _ [112, 39, 40, 26, 9, 119, 120, 121] (by decide +kernel) (by decide +kernel)
set_option maxRecDepth 20000 in
theorem gX7_handOutReturns_Jx4a65c_clear_da8c8 : GoodIn wsX7_handOutReturns (wsV RX7 330 RJx4a65c yJx4a65c_clear_da8c8 wsJx4a65c_clear_da8c8) := goodIn_app (goodIn_of _ (by decide +kernel)) ggX7_handOutReturns_Jx4a65c_clear_da8c8
theorem dX7_handOutReturns_0 : decode cX7_handOutReturns 0 = .ok (.iconst 0, 1) := by decide +kernel
theorem dX7_handOutReturns_1 : decode cX7_handOutReturns 1 = .ok (.istore_n 1, 1) := by decide +kernel
theorem dX7_handOutReturns_2 : decode cX7_handOutReturns 2 = .ok (.iload_n 1, 1) := by decide +kernel
theorem dX7_handOutReturns_3 : decode cX7_handOutReturns 3 = .ok (.aload_n 0, 1) := by decide +kernel
theorem dX7_handOutReturns_4 : decode cX7_handOutReturns 4 = .ok (.getfield 214, 3) := by decide +kernel
theorem dX7_handOutReturns_7 : decode cX7_handOutReturns 7 = .ok (.invokevirtual 48, 3) := by decide +kernel
theorem dX7_handOutReturns_10 : decode cX7_handOutReturns 10 = .ok (.if_icmp .ge 34, 3) := by decide +kernel
theorem dX7_handOutReturns_13 : decode cX7_handOutReturns 13 = .ok (.aload_n 0, 1) := by decide +kernel
theorem dX7_handOutReturns_14 : decode cX7_handOutReturns 14 = .ok (.getfield 214, 3) := by decide +kernel
theorem dX7_handOutReturns_17 : decode cX7_handOutReturns 17 = .ok (.iload_n 1, 1) := by decide +kernel
theorem dX7_handOutReturns_18 : decode cX7_handOutReturns 18 = .ok (.invokevirtual 147, 3) := by decide +kernel
theorem dX7_handOutReturns_21 : decode cX7_handOutReturns 21 = .ok (.checkcast 151, 3) := by decide +kernel
theorem dX7_handOutReturns_24 : decode cX7_handOutReturns 24 = .ok (.astore_n 2, 1) := by decide +kernel
theorem dX7_handOutReturns_25 : decode cX7_handOutReturns 25 = .ok (.aload_n 0, 1) := by decide +kernel
theorem dX7_handOutReturns_26 : decode cX7_handOutReturns 26 = .ok (.getfield 111, 3) := by decide +kernel
theorem dX7_handOutReturns_29 : decode cX7_handOutReturns 29 = .ok (.aload_n 2, 1) := by decide +kernel
theorem dX7_handOutReturns_30 : decode cX7_handOutReturns 30 = .ok (.invokevirtual 323, 3) := by decide +kernel
theorem dX7_handOutReturns_33 : decode cX7_handOutReturns 33 = .ok (.aload_n 2, 1) := by decide +kernel
theorem dX7_handOutReturns_34 : decode cX7_handOutReturns 34 = .ok (.iconst 1, 1) := by decide +kernel
theorem dX7_handOutReturns_35 : decode cX7_handOutReturns 35 = .ok (.invokestatic 326, 3) := by decide +kernel
theorem dX7_handOutReturns_38 : decode cX7_handOutReturns 38 = .ok (.iinc 1 1, 3) := by decide +kernel
theorem dX7_handOutReturns_41 : decode cX7_handOutReturns 41 = .ok (.goto (-39), 3) := by decide +kernel
theorem dX7_handOutReturns_44 : decode cX7_handOutReturns 44 = .ok (.aload_n 0, 1) := by decide +kernel
theorem dX7_handOutReturns_45 : decode cX7_handOutReturns 45 = .ok (.getfield 214, 3) := by decide +kernel
theorem dX7_handOutReturns_48 : decode cX7_handOutReturns 48 = .ok (.invokevirtual 330, 3) := by decide +kernel
theorem dX7_handOutReturns_51 : decode cX7_handOutReturns 51 = .ok (.return_, 1) := by decide +kernel
set_option maxRecDepth 20000 in
theorem ggX7_handOutEntries_Jx4a65c_size_8abf5 : GoodIn wsX7_handOutEntries wsJx4a65c_size_8abf5 := goodIn_r _ [10, 11, 153, 154, 155] (by decide +kernel) (by decide +kernel)
set_option maxRecDepth 20000 in
theorem gX7_handOutEntries_Jx4a65c_size_8abf5 : GoodIn wsX7_handOutEntries (wsV RX7 48 RJx4a65c yJx4a65c_size_8abf5 wsJx4a65c_size_8abf5) := goodIn_app (goodIn_of _ (by decide +kernel)) ggX7_handOutEntries_Jx4a65c_size_8abf5
set_option maxRecDepth 20000 in
theorem ggX7_handOutEntries_Jx4a65c_get_915e3 : GoodIn wsX7_handOutEntries wsJx4a65c_get_915e3 := goodIn_r _ [15, 11, 16, 17, 18, 19, 20, 21, 22, 23, 24, 25, 26, 9, 27, 28, 153, 154, 155] (by decide +kernel) (by decide +kernel)
set_option maxRecDepth 20000 in
theorem gX7_handOutEntries_Jx4a65c_get_915e3 : GoodIn wsX7_handOutEntries (wsV RX7 147 RJx4a65c yJx4a65c_get_915e3 wsJx4a65c_get_915e3) := goodIn_app (goodIn_of _ (by decide +kernel)) ggX7_handOutEntries_Jx4a65c_get_915e3
set_option maxRecDepth 20000 in
theorem ggX7_handOutEntries_X5_addEntry : GoodIn wsX7_handOutEntries wsX5_addEntry := goodIn_r _ [33, 34, 35, 36, 37, 38, 7, 8, 9, 10, 11, 39, 13, 14, 15, 16, 17, 18, 19, 20, 21, 22, 23, 24, 25, 26, 27, 28, 40, 41, 42, 43, 44, 45, 46, 47, 48, 49, 50, 51, 52, 53, 54, 55, 56, 57, 58, 59, 60, 61, 62, 63, 64, 65, 66, 67, 68, 69, 70, 71, 72, 73, 74, 75, 76, 77, 78, 79, 80, 81, 82, 83, 84, 85, 86, 87, 88, 89, 90, 91, 92, 93, 94, 95, 96, 97, 98, 99, 100, 101, 102, 103, 104, 105, 106, 107, 108, 109, 110, 111, 112, 113, 156, 157, 158, 159, 153, 154, 155, 137, 138, 139, 140, 141, 142, 143, 144, 145, 131, 132, 133, 134, 135, 136, 160, 161, 162, 163] (by decide +kernel) (by decide +kernel)
set_option maxRecDepth 20000 in
theorem gX7_handOutEntries_X5_addEntry : GoodIn wsX7_handOutEntries (wsV RX7 331 RX5 yX5_addEntry wsX5_addEntry) := goodIn_app (goodIn_of _ (by decide +kernel)) ggX7_handOutEntries_X5_addEntry
set_option maxRecDepth 20000 in
theorem ggX7_handOutEntries_X7_settle : GoodIn wsX7_handOutEntries wsX7_settle := goodIn_r _ [117, 118, 119, 120, 121, 122, 137, 138, 139, 140, 141, 142, 143, 144, 145, 131, 132, 133, 134, 135, 136] (by decide +kernel) (by decide +kernel)
set_option maxRecDepth 20000 in
theorem gX7_handOutEntries_X7_settle : GoodIn wsX7_handOutEntries (va_wsS RX7 326 yX7_settle wsX7_settle) := goodIn_app (goodIn_of _ (by decide +kernel)) ggX7_handOutEntries_X7_settle
set_option maxRecDepth 20000 in
theorem ggX7_handOutEntries_Jx4a65c_remove_915e3 : GoodIn wsX7_handOutEntries wsJx4a65c_remove_915e3 := goodIn_r _ [126, 11, 28, 16, 17, 18, 19, 20, 21, 22, 23, 127, 128, 129, 9, 130, 52, 53, 54, 55, 56, 57, 153, 154, 155] (by decide +kernel) (by decide +kernel)
set_option maxRecDepth 20000 in
theorem gX7_handOutEntries_Jx4a65c_remove_915e3 : GoodIn wsX7_handOutEntries (wsV RX7 333 RJx4a65c yJx4a65c_remove_915e3 wsJx4a65c_remove_915e3) := goodIn_app (goodIn_of _ (by decide +kernel)) ggX7_handOutEntries_Jx4a65c_remove_915e3
theorem dX7_handOutEntries_0 : decode cX7_handOutEntries 0 = .ok (.iconst 0, 1) := by decide +kernel
theorem dX7_handOutEntries_1 : decode cX7_handOutEntries 1 = .ok (.istore_n 2, 1) := by decide +kernel
theorem dX7_handOutEntries_2 : decode cX7_handOutEntries 2 = .ok (.iload_n 2, 1) := by decide +kernel
theorem dX7_handOutEntries_3 : decode cX7_handOutEntries 3 = .ok (.aload_n 1, 1) := by decide +kernel
theorem dX7_handOutEntries_4 : decode cX7_handOutEntries 4 = .ok (.getfield 213, 3) := by decide +kernel
theorem dX7_handOutEntries_7 : decode cX7_handOutEntries 7 = .ok (.invokevirtual 48, 3) := by decide +kernel
theorem dX7_handOutEntries_10 : decode cX7_handOutEntries 10 = .ok (.if_icmp .ge 45, 3) := by decide +kernel
theorem dX7_handOutEntries_13 : decode cX7_handOutEntries 13 = .ok (.aload_n 1, 1) := by decide +kernel
theorem dX7_handOutEntries_14 : decode cX7_handOutEntries 14 = .ok (.getfield 213, 3) := by decide +kernel
theorem dX7_handOutEntries_17 : decode cX7_handOutEntries 17 = .ok (.iload_n 2, 1) := by decide +kernel
theorem dX7_handOutEntries_18 : decode cX7_handOutEntries 18 = .ok (.invokevirtual 147, 3) := by decide +kernel
theorem dX7_handOutEntries_21 : decode cX7_handOutEntries 21 = .ok (.checkcast 151, 3) := by decide +kernel
theorem dX7_handOutEntries_24 : decode cX7_handOutEntries 24 = .ok (.astore_n 3, 1) := by decide +kernel
theorem dX7_handOutEntries_25 : decode cX7_handOutEntries 25 = .ok (.aload_n 3, 1) := by decide +kernel
theorem dX7_handOutEntries_26 : decode cX7_handOutEntries 26 = .ok (.getfield 315, 3) := by decide +kernel
theorem dX7_handOutEntries_29 : decode cX7_handOutEntries 29 = .ok (.aload_n 0, 1) := by decide +kernel
theorem dX7_handOutEntries_30 : decode cX7_handOutEntries 30 = .ok (.getfield 37, 3) := by decide +kernel
theorem dX7_handOutEntries_33 : decode cX7_handOutEntries 33 = .ok (.if_icmp .gt 16, 3) := by decide +kernel
theorem dX7_handOutEntries_36 : decode cX7_handOutEntries 36 = .ok (.aload_n 1, 1) := by decide +kernel
theorem dX7_handOutEntries_37 : decode cX7_handOutEntries 37 = .ok (.getfield 111, 3) := by decide +kernel
theorem dX7_handOutEntries_40 : decode cX7_handOutEntries 40 = .ok (.aload_n 3, 1) := by decide +kernel
theorem dX7_handOutEntries_41 : decode cX7_handOutEntries 41 = .ok (.invokevirtual 331, 3) := by decide +kernel
theorem dX7_handOutEntries_44 : decode cX7_handOutEntries 44 = .ok (.aload_n 3, 1) := by decide +kernel
theorem dX7_handOutEntries_45 : decode cX7_handOutEntries 45 = .ok (.iconst 0, 1) := by decide +kernel
theorem dX7_handOutEntries_46 : decode cX7_handOutEntries 46 = .ok (.invokestatic 326, 3) := by decide +kernel
theorem dX7_handOutEntries_49 : decode cX7_handOutEntries 49 = .ok (.iinc 2 1, 3) := by decide +kernel
theorem dX7_handOutEntries_52 : decode cX7_handOutEntries 52 = .ok (.goto (-50), 3) := by decide +kernel
theorem dX7_handOutEntries_55 : decode cX7_handOutEntries 55 = .ok (.aload_n 1, 1) := by decide +kernel
theorem dX7_handOutEntries_56 : decode cX7_handOutEntries 56 = .ok (.getfield 213, 3) := by decide +kernel
theorem dX7_handOutEntries_59 : decode cX7_handOutEntries 59 = .ok (.invokevirtual 48, 3) := by decide +kernel
theorem dX7_handOutEntries_62 : decode cX7_handOutEntries 62 = .ok (.iconst 1, 1) := by decide +kernel
theorem dX7_handOutEntries_63 : decode cX7_handOutEntries 63 = .ok (.isub, 1) := by decide +kernel
theorem dX7_handOutEntries_64 : decode cX7_handOutEntries 64 = .ok (.istore_n 2, 1) := by decide +kernel
theorem dX7_handOutEntries_65 : decode cX7_handOutEntries 65 = .ok (.iload_n 2, 1) := by decide +kernel
theorem dX7_handOutEntries_66 : decode cX7_handOutEntries 66 = .ok (.ifCond .lt 39, 3) := by decide +kernel
theorem dX7_handOutEntries_69 : decode cX7_handOutEntries 69 = .ok (.aload_n 1, 1) := by decide +kernel
theorem dX7_handOutEntries_70 : decode cX7_handOutEntries 70 = .ok (.getfield 213, 3) := by decide +kernel
theorem dX7_handOutEntries_73 : decode cX7_handOutEntries 73 = .ok (.iload_n 2, 1) := by decide +kernel
theorem dX7_handOutEntries_74 : decode cX7_handOutEntries 74 = .ok (.invokevirtual 147, 3) := by decide +kernel
theorem dX7_handOutEntries_77 : decode cX7_handOutEntries 77 = .ok (.checkcast 151, 3) := by decide +kernel
theorem dX7_handOutEntries_80 : decode cX7_handOutEntries 80 = .ok (.getfield 315, 3) := by decide +kernel
theorem dX7_handOutEntries_83 : decode cX7_handOutEntries 83 = .ok (.aload_n 0, 1) := by decide +kernel
theorem dX7_handOutEntries_84 : decode cX7_handOutEntries 84 = .ok (.getfield 37, 3) := by decide +kernel
theorem dX7_handOutEntries_87 : decode cX7_handOutEntries 87 = .ok (.if_icmp .gt 12, 3) := by decide +kernel
theorem dX7_handOutEntries_90 : decode cX7_handOutEntries 90 = .ok (.aload_n 1, 1) := by decide +kernel
theorem dX7_handOutEntries_91 : decode cX7_handOutEntries 91 = .ok (.getfield 213, 3) := by decide +kernel
theorem dX7_handOutEntries_94 : decode cX7_handOutEntries 94 = .ok (.iload_n 2, 1) := by decide +kernel
theorem dX7_handOutEntries_95 : decode cX7_handOutEntries 95 = .ok (.invokevirtual 333, 3) := by decide +kernel
theorem dX7_handOutEntries_98 : decode cX7_handOutEntries 98 = .ok (.pop, 1) := by decide +kernel
theorem dX7_handOutEntries_99 : decode cX7_handOutEntries 99 = .ok (.iinc 2 (-1), 3) := by decide +kernel
theorem dX7_handOutEntries_102 : decode cX7_handOutEntries 102 = .ok (.goto (-37), 3) := by decide +kernel
theorem dX7_handOutEntries_105 : decode cX7_handOutEntries 105 = .ok (.return_, 1) := by decide +kernel
theorem dX7_settle_0 : decode cX7_settle 0 = .ok (.aload_n 0, 1) := by decide +kernel
theorem dX7_settle_1 : decode cX7_settle 1 = .ok (.getfield 157, 3) := by decide +kernel
theorem dX7_settle_4 : decode cX7_settle 4 = .ok (.iconst 2, 1) := by decide +kernel
theorem dX7_settle_5 : decode cX7_settle 5 = .ok (.if_icmp .ne 7, 3) := by decide +kernel
theorem dX7_settle_8 : decode cX7_settle 8 = .ok (.iconst 1, 1) := by decide +kernel
theorem dX7_settle_9 : decode cX7_settle 9 = .ok (.goto 4, 3) := by decide +kernel
theorem dX7_settle_12 : decode cX7_settle 12 = .ok (.iconst 0, 1) := by decide +kernel
theorem dX7_settle_13 : decode cX7_settle 13 = .ok (.iload_n 1, 1) := by decide +kernel
theorem dX7_settle_14 : decode cX7_settle 14 = .ok (.if_icmp .eq 7, 3) := by decide +kernel
theorem dX7_settle_17 : decode cX7_settle 17 = .ok (.iconst 1, 1) := by decide +kernel
theorem dX7_settle_18 : decode cX7_settle 18 = .ok (.goto 4, 3) := by decide +kernel
theorem dX7_settle_21 : decode cX7_settle 21 = .ok (.iconst 0, 1) := by decide +kernel
theorem dX7_settle_22 : decode cX7_settle 22 = .ok (.istore_n 2, 1) := by decide +kernel
theorem dX7_settle_23 : decode cX7_settle 23 = .ok (.iload_n 2, 1) := by decide +kernel
theorem dX7_settle_24 : decode cX7_settle 24 = .ok (.ifCond .eq 11, 3) := by decide +kernel
theorem dX7_settle_27 : decode cX7_settle 27 = .ok (.aload_n 0, 1) := by decide +kernel
theorem dX7_settle_28 : decode cX7_settle 28 = .ok (.getfield 173, 3) := by decide +kernel
theorem dX7_settle_31 : decode cX7_settle 31 = .ok (.i2l, 1) := by decide +kernel
theorem dX7_settle_32 : decode cX7_settle 32 = .ok (.goto 9, 3) := by decide +kernel
theorem dX7_settle_35 : decode cX7_settle 35 = .ok (.aload_n 0, 1) := by decide +kernel
theorem dX7_settle_36 : decode cX7_settle 36 = .ok (.getfield 173, 3) := by decide +kernel
theorem dX7_settle_39 : decode cX7_settle 39 = .ok (.ineg, 1) := by decide +kernel
theorem dX7_settle_40 : decode cX7_settle 40 = .ok (.i2l, 1) := by decide +kernel
theorem dX7_settle_41 : decode cX7_settle 41 = .ok (.lstore_n 3, 1) := by decide +kernel
theorem dX7_settle_42 : decode cX7_settle 42 = .ok (.aload_n 0, 1) := by decide +kernel
theorem dX7_settle_43 : decode cX7_settle 43 = .ok (.getfield 160, 3) := by decide +kernel
theorem dX7_settle_46 : decode cX7_settle 46 = .ok (.dup, 1) := by decide +kernel
theorem dX7_settle_47 : decode cX7_settle 47 = .ok (.getfield 210, 3) := by decide +kernel
theorem dX7_settle_50 : decode cX7_settle 50 = .ok (.lload_n 3, 1) := by decide +kernel
theorem dX7_settle_51 : decode cX7_settle 51 = .ok (.ladd, 1) := by decide +kernel
theorem dX7_settle_52 : decode cX7_settle 52 = .ok (.putfield 210, 3) := by decide +kernel
theorem dX7_settle_55 : decode cX7_settle 55 = .ok (.aload_n 0, 1) := by decide +kernel
theorem dX7_settle_56 : decode cX7_settle 56 = .ok (.getfield 167, 3) := by decide +kernel
theorem dX7_settle_59 : decode cX7_settle 59 = .ok (.dup, 1) := by decide +kernel
theorem dX7_settle_60 : decode cX7_settle 60 = .ok (.getfield 210, 3) := by decide +kernel
theorem dX7_settle_63 : decode cX7_settle 63 = .ok (.lload_n 3, 1) := by decide +kernel
theorem dX7_settle_64 : decode cX7_settle 64 = .ok (.lsub, 1) := by decide +kernel
theorem dX7_settle_65 : decode cX7_settle 65 = .ok (.putfield 210, 3) := by decide +kernel
theorem dX7_settle_68 : decode cX7_settle 68 = .ok (.return_, 1) := by decide +kernel
set_option maxRecDepth 20000 in
theorem ggX7_postOrSendBack_X7_accountOf : GoodIn wsX7_postOrSendBack wsX7_accountOf := goodIn_r _ [11, 12, 13, 14, 15, 16, 17, 18, 19, 20, 21, 22, 23, 24, 25, 26, 27, 28, 29, 30, 31, 32, 33, 34, 35, 36, 37, 38, 124, 125, 126, 127, 128, 129, 130, 120, 121, 122, 123, 131, 132, 133] (by decide +kernel) (by decide +kernel)
set_option maxRecDepth 20000 in
theorem gX7_postOrSendBack_X7_accountOf : GoodIn wsX7_postOrSendBack (wsV RX7 66 RX7 yX7_accountOf wsX7_accountOf) := goodIn_app (goodIn_of _ (by decide +kernel)) ggX7_postOrSendBack_X7_accountOf
set_option maxRecDepth 20000 in
theorem ggX7_postOrSendBack_X7_reasonToSendBack : GoodIn wsX7_postOrSendBack wsX7_reasonToSendBack := goodIn_r _ [41, 2, 42, 5, 4, 6, 43, 44, 10, 45, 46, 111, 112, 113, 114, 115, 116, 117, 118, 119, 120, 121, 122, 123] (by decide +kernel) (by decide +kernel)
set_option maxRecDepth 20000 in
theorem gX7_postOrSendBack_X7_reasonToSendBack : GoodIn wsX7_postOrSendBack (va_wsS RX7 336 yX7_reasonToSendBack wsX7_reasonToSendBack) := goodIn_app (goodIn_of _ (by decide +kernel)) ggX7_postOrSendBack_X7_reasonToSendBack
set_option maxRecDepth 20000 in
theorem ggX7_postOrSendBack_X7_sendBack : GoodIn wsX7_postOrSendBack wsX7_sendBack := goodIn_r _ [50, 3, 51, 52, 53, 54, 55, 10, 56, 57, 16, 17, 18, 19, 20, 21, 58, 59, 60, 61, 62, 63, 38, 64, 65, 66, 67, 68, 69, 70, 71, 72, 73, 74, 75, 76, 77, 78, 79, 80, 81, 82, 83, 84, 85, 86, 87, 88, 89, 90, 91, 92, 93, 94, 95, 96, 97, 98, 99, 100, 101, 102, 103, 104, 105, 106, 107, 108, 109, 110, 111, 112, 113, 114, 115, 116, 117, 118, 119, 134, 135, 136, 137, 138, 139, 124, 125, 126, 127, 128, 129, 130, 131, 132, 133] (by decide +kernel) (by decide +kernel)
set_option maxRecDepth 20000 in
theorem gX7_postOrSendBack_X7_sendBack : GoodIn wsX7_postOrSendBack (wsV RX7 340 RX7 yX7_sendBack wsX7_sendBack) := goodIn_app (goodIn_of _ (by decide +kernel)) ggX7_postOrSendBack_X7_sendBack
theorem dX7_postOrSendBack_0 : decode cX7_postOrSendBack 0 = .ok (.aload_n 0, 1) := by decide +kernel
theorem dX7_postOrSendBack_1 : decode cX7_postOrSendBack 1 = .ok (.aload_n 1, 1) := by decide +kernel
theorem dX7_postOrSendBack_2 : decode cX7_postOrSendBack 2 = .ok (.getfield 160, 3) := by decide +kernel
theorem dX7_postOrSendBack_5 : decode cX7_postOrSendBack 5 = .ok (.aload_n 1, 1) := by decide +kernel
theorem dX7_postOrSendBack_6 : decode cX7_postOrSendBack 6 = .ok (.getfield 170, 3) := by decide +kernel
theorem dX7_postOrSendBack_9 : decode cX7_postOrSendBack 9 = .ok (.invokevirtual 66, 3) := by decide +kernel
theorem dX7_postOrSendBack_12 : decode cX7_postOrSendBack 12 = .ok (.astore_n 2, 1) := by decide +kernel
theorem dX7_postOrSendBack_13 : decode cX7_postOrSendBack 13 = .ok (.aload_n 1, 1) := by decide +kernel
theorem dX7_postOrSendBack_14 : decode cX7_postOrSendBack 14 = .ok (.aload_n 1, 1) := by decide +kernel
theorem dX7_postOrSendBack_15 : decode cX7_postOrSendBack 15 = .ok (.aload_n 2, 1) := by decide +kernel
theorem dX7_postOrSendBack_16 : decode cX7_postOrSendBack 16 = .ok (.invokestatic 336, 3) := by decide +kernel
theorem dX7_postOrSendBack_19 : decode cX7_postOrSendBack 19 = .ok (.putfield 179, 3) := by decide +kernel
theorem dX7_postOrSendBack_22 : decode cX7_postOrSendBack 22 = .ok (.aload_n 1, 1) := by decide +kernel
theorem dX7_postOrSendBack_23 : decode cX7_postOrSendBack 23 = .ok (.getfield 179, 3) := by decide +kernel
theorem dX7_postOrSendBack_26 : decode cX7_postOrSendBack 26 = .ok (.ifCond .ne 7, 3) := by decide +kernel
theorem dX7_postOrSendBack_29 : decode cX7_postOrSendBack 29 = .ok (.aload_n 2, 1) := by decide +kernel
theorem dX7_postOrSendBack_30 : decode cX7_postOrSendBack 30 = .ok (.ifnonnull 10, 3) := by decide +kernel
theorem dX7_postOrSendBack_33 : decode cX7_postOrSendBack 33 = .ok (.aload_n 0, 1) := by decide +kernel
theorem dX7_postOrSendBack_34 : decode cX7_postOrSendBack 34 = .ok (.aload_n 1, 1) := by decide +kernel
theorem dX7_postOrSendBack_35 : decode cX7_postOrSendBack 35 = .ok (.invokevirtual 340, 3) := by decide +kernel
theorem dX7_postOrSendBack_38 : decode cX7_postOrSendBack 38 = .ok (.iconst 0, 1) := by decide +kernel
theorem dX7_postOrSendBack_39 : decode cX7_postOrSendBack 39 = .ok (.ireturn, 1) := by decide +kernel
theorem dX7_postOrSendBack_40 : decode cX7_postOrSendBack 40 = .ok (.aload_n 2, 1) := by decide +kernel
theorem dX7_postOrSendBack_41 : decode cX7_postOrSendBack 41 = .ok (.dup, 1) := by decide +kernel
theorem dX7_postOrSendBack_42 : decode cX7_postOrSendBack 42 = .ok (.getfield 207, 3) := by decide +kernel
theorem dX7_postOrSendBack_45 : decode cX7_postOrSendBack 45 = .ok (.aload_n 1, 1) := by decide +kernel
theorem dX7_postOrSendBack_46 : decode cX7_postOrSendBack 46 = .ok (.getfield 157, 3) := by decide +kernel
theorem dX7_postOrSendBack_49 : decode cX7_postOrSendBack 49 = .ok (.iconst 2, 1) := by decide +kernel
theorem dX7_postOrSendBack_50 : decode cX7_postOrSendBack 50 = .ok (.if_icmp .ne 11, 3) := by decide +kernel
theorem dX7_postOrSendBack_53 : decode cX7_postOrSendBack 53 = .ok (.aload_n 1, 1) := by decide +kernel
theorem dX7_postOrSendBack_54 : decode cX7_postOrSendBack 54 = .ok (.getfield 173, 3) := by decide +kernel
theorem dX7_postOrSendBack_57 : decode cX7_postOrSendBack 57 = .ok (.i2l, 1) := by decide +kernel
theorem dX7_postOrSendBack_58 : decode cX7_postOrSendBack 58 = .ok (.goto 9, 3) := by decide +kernel
theorem dX7_postOrSendBack_61 : decode cX7_postOrSendBack 61 = .ok (.aload_n 1, 1) := by decide +kernel
theorem dX7_postOrSendBack_62 : decode cX7_postOrSendBack 62 = .ok (.getfield 173, 3) := by decide +kernel
theorem dX7_postOrSendBack_65 : decode cX7_postOrSendBack 65 = .ok (.ineg, 1) := by decide +kernel
theorem dX7_postOrSendBack_66 : decode cX7_postOrSendBack 66 = .ok (.i2l, 1) := by decide +kernel
theorem dX7_postOrSendBack_67 : decode cX7_postOrSendBack 67 = .ok (.ladd, 1) := by decide +kernel
theorem dX7_postOrSendBack_68 : decode cX7_postOrSendBack 68 = .ok (.putfield 207, 3) := by decide +kernel
theorem dX7_postOrSendBack_71 : decode cX7_postOrSendBack 71 = .ok (.iconst 1, 1) := by decide +kernel
theorem dX7_postOrSendBack_72 : decode cX7_postOrSendBack 72 = .ok (.ireturn, 1) := by decide +kernel
set_option maxRecDepth 20000 in
theorem ggX7_reasonToSendBack_X7_isRight : GoodIn wsX7_reasonToSendBack wsX7_isRight := goodIn_r _ [9, 10] (by decide +kernel) (by decide +kernel)
set_option maxRecDepth 20000 in
theorem gX7_reasonToSendBack_X7_isRight : GoodIn wsX7_reasonToSendBack (va_wsS RX7 40 yX7_isRight wsX7_isRight) := goodIn_app (goodIn_of _ (by decide +kernel)) ggX7_reasonToSendBack_X7_isRight
theorem dX7_reasonToSendBack_0 : decode cX7_reasonToSendBack 0 = .ok (.aload_n 0, 1) := by decide +kernel
theorem dX7_reasonToSendBack_1 : decode cX7_reasonToSendBack 1 = .ok (.getfield 170, 3) := by decide +kernel
theorem dX7_reasonToSendBack_4 : decode cX7_reasonToSendBack 4 = .ok (.bipush 6, 2) := by decide +kernel
theorem dX7_reasonToSendBack_6 : decode cX7_reasonToSendBack 6 = .ok (.invokestatic 40, 3) := by decide +kernel
theorem dX7_reasonToSendBack_9 : decode cX7_reasonToSendBack 9 = .ok (.ifCond .ne 5, 3) := by decide +kernel
theorem dX7_reasonToSendBack_12 : decode cX7_reasonToSendBack 12 = .ok (.iconst 4, 1) := by decide +kernel
theorem dX7_reasonToSendBack_13 : decode cX7_reasonToSendBack 13 = .ok (.ireturn, 1) := by decide +kernel
theorem dX7_reasonToSendBack_14 : decode cX7_reasonToSendBack 14 = .ok (.aload_n 1, 1) := by decide +kernel
theorem dX7_reasonToSendBack_15 : decode cX7_reasonToSendBack 15 = .ok (.ifnonnull 5, 3) := by decide +kernel
theorem dX7_reasonToSendBack_18 : decode cX7_reasonToSendBack 18 = .ok (.iconst 3, 1) := by decide +kernel
theorem dX7_reasonToSendBack_19 : decode cX7_reasonToSendBack 19 = .ok (.ireturn, 1) := by decide +kernel
theorem dX7_reasonToSendBack_20 : decode cX7_reasonToSendBack 20 = .ok (.aload_n 1, 1) := by decide +kernel
theorem dX7_reasonToSendBack_21 : decode cX7_reasonToSendBack 21 = .ok (.getfield 75, 3) := by decide +kernel
theorem dX7_reasonToSendBack_24 : decode cX7_reasonToSendBack 24 = .ok (.ifCond .eq 5, 3) := by decide +kernel
theorem dX7_reasonToSendBack_27 : decode cX7_reasonToSendBack 27 = .ok (.iconst 2, 1) := by decide +kernel
theorem dX7_reasonToSendBack_28 : decode cX7_reasonToSendBack 28 = .ok (.ireturn, 1) := by decide +kernel
theorem dX7_reasonToSendBack_29 : decode cX7_reasonToSendBack 29 = .ok (.aload_n 0, 1) := by decide +kernel
theorem dX7_reasonToSendBack_30 : decode cX7_reasonToSendBack 30 = .ok (.getfield 157, 3) := by decide +kernel
theorem dX7_reasonToSendBack_33 : decode cX7_reasonToSendBack 33 = .ok (.bipush 7, 2) := by decide +kernel
theorem dX7_reasonToSendBack_35 : decode cX7_reasonToSendBack 35 = .ok (.if_icmp .ne 20, 3) := by decide +kernel
theorem dX7_reasonToSendBack_38 : decode cX7_reasonToSendBack 38 = .ok (.aload_n 1, 1) := by decide +kernel
theorem dX7_reasonToSendBack_39 : decode cX7_reasonToSendBack 39 = .ok (.getfield 207, 3) := by decide +kernel
theorem dX7_reasonToSendBack_42 : decode cX7_reasonToSendBack 42 = .ok (.aload_n 0, 1) := by decide +kernel
theorem dX7_reasonToSendBack_43 : decode cX7_reasonToSendBack 43 = .ok (.getfield 173, 3) := by decide +kernel
theorem dX7_reasonToSendBack_46 : decode cX7_reasonToSendBack 46 = .ok (.i2l, 1) := by decide +kernel
theorem dX7_reasonToSendBack_47 : decode cX7_reasonToSendBack 47 = .ok (.lcmp, 1) := by decide +kernel
theorem dX7_reasonToSendBack_48 : decode cX7_reasonToSendBack 48 = .ok (.ifCond .ge 7, 3) := by decide +kernel
theorem dX7_reasonToSendBack_51 : decode cX7_reasonToSendBack 51 = .ok (.iconst 1, 1) := by decide +kernel
theorem dX7_reasonToSendBack_52 : decode cX7_reasonToSendBack 52 = .ok (.goto 4, 3) := by decide +kernel
theorem dX7_reasonToSendBack_55 : decode cX7_reasonToSendBack 55 = .ok (.iconst 0, 1) := by decide +kernel
theorem dX7_reasonToSendBack_56 : decode cX7_reasonToSendBack 56 = .ok (.ireturn, 1) := by decide +kernel
set_option maxRecDepth 20000 in
theorem ggX7_sendBack_X7_countRefusal : GoodIn wsX7_sendBack wsX7_countRefusal := goodIn_r _ [8, 9, 85, 86, 87, 88, 89, 90, 91] (by decide +kernel) (by decide +kernel)
set_option maxRecDepth 20000 in
theorem gX7_sendBack_X7_countRefusal : GoodIn wsX7_sendBack (wsV RX7 270 RX7 yX7_countRefusal wsX7_countRefusal) := goodIn_app (goodIn_of _ (by decide +kernel)) ggX7_sendBack_X7_countRefusal
set_option maxRecDepth 20000 in
theorem ggX7_sendBack_Jx4a65c_size_8abf5 : GoodIn wsX7_sendBack wsJx4a65c_size_8abf5 := goodIn_r _ [14, 15, 92, 93, 94] (by decide +kernel) (by decide +kernel)
set_option maxRecDepth 20000 in
theorem gX7_sendBack_Jx4a65c_size_8abf5 : GoodIn wsX7_sendBack (wsV RX7 48 RJx4a65c yJx4a65c_size_8abf5 wsJx4a65c_size_8abf5) := goodIn_app (goodIn_of _ (by decide +kernel)) ggX7_sendBack_Jx4a65c_size_8abf5
set_option maxRecDepth 20000 in
theorem ggX7_sendBack_Jx4a65c_add_9ea2d : GoodIn wsX7_sendBack wsJx4a65c_add_9ea2d := goodIn_r _ [19, 20, 21, 22, 15, 23, 24, 25, 13, 26, 27, 28, 29, 30, 31, 32, 33, 34, 35, 36, 37, 38, 39, 40, 41, 42, 43, 44, 45, 46, 47, 48, 49, 50, 51, 52, 53, 54, 55, 56, 57, 58, 59, 60, 61, 62, 63, 64, 65, 66, 67, 68, 69, 92, 93, 94] (by decide +kernel) (by decide +kernel)
set_option maxRecDepth 20000 in
theorem gX7_sendBack_Jx4a65c_add_9ea2d : GoodIn wsX7_sendBack (wsV RX7 57 RJx4a65c yJx4a65c_add_9ea2d wsJx4a65c_add_9ea2d) := goodIn_app (goodIn_of _ (by decide +kernel)) ggX7_sendBack_Jx4a65c_add_9ea2d
theorem dX7_sendBack_0 : decode cX7_sendBack 0 = .ok (.aload_n 0, 1) := by decide +kernel
theorem dX7_sendBack_1 : decode cX7_sendBack 1 = .ok (.aload_n 1, 1) := by decide +kernel
theorem dX7_sendBack_2 : decode cX7_sendBack 2 = .ok (.getfield 179, 3) := by decide +kernel
theorem dX7_sendBack_5 : decode cX7_sendBack 5 = .ok (.invokevirtual 270, 3) := by decide +kernel
theorem dX7_sendBack_8 : decode cX7_sendBack 8 = .ok (.aload_n 1, 1) := by decide +kernel
theorem dX7_sendBack_9 : decode cX7_sendBack 9 = .ok (.getfield 167, 3) := by decide +kernel
theorem dX7_sendBack_12 : decode cX7_sendBack 12 = .ok (.getfield 214, 3) := by decide +kernel
theorem dX7_sendBack_15 : decode cX7_sendBack 15 = .ok (.invokevirtual 48, 3) := by decide +kernel
theorem dX7_sendBack_18 : decode cX7_sendBack 18 = .ok (.sipush 512, 3) := by decide +kernel
theorem dX7_sendBack_21 : decode cX7_sendBack 21 = .ok (.if_icmp .ge 15, 3) := by decide +kernel
theorem dX7_sendBack_24 : decode cX7_sendBack 24 = .ok (.aload_n 1, 1) := by decide +kernel
theorem dX7_sendBack_25 : decode cX7_sendBack 25 = .ok (.getfield 167, 3) := by decide +kernel
theorem dX7_sendBack_28 : decode cX7_sendBack 28 = .ok (.getfield 214, 3) := by decide +kernel
theorem dX7_sendBack_31 : decode cX7_sendBack 31 = .ok (.aload_n 1, 1) := by decide +kernel
theorem dX7_sendBack_32 : decode cX7_sendBack 32 = .ok (.invokevirtual 57, 3) := by decide +kernel
theorem dX7_sendBack_35 : decode cX7_sendBack 35 = .ok (.pop, 1) := by decide +kernel
theorem dX7_sendBack_36 : decode cX7_sendBack 36 = .ok (.return_, 1) := by decide +kernel
theorem dX8_init_0 : decode cX8_init 0 = .ok (.aload_n 0, 1) := by decide +kernel
theorem dX8_init_1 : decode cX8_init 1 = .ok (.invokespecial 1, 3) := by decide +kernel
theorem dX8_init_4 : decode cX8_init 4 = .ok (.aload_n 0, 1) := by decide +kernel
theorem dX8_init_5 : decode cX8_init 5 = .ok (.iconst 5, 1) := by decide +kernel
theorem dX8_init_6 : decode cX8_init 6 = .ok (.newarray .int, 2) := by decide +kernel
theorem dX8_init_8 : decode cX8_init 8 = .ok (.putfield 7, 3) := by decide +kernel
theorem dX8_init_11 : decode cX8_init 11 = .ok (.aload_n 0, 1) := by decide +kernel
theorem dX8_init_12 : decode cX8_init 12 = .ok (.iconst 5, 1) := by decide +kernel
theorem dX8_init_13 : decode cX8_init 13 = .ok (.newarray .long, 2) := by decide +kernel
theorem dX8_init_15 : decode cX8_init 15 = .ok (.putfield 13, 3) := by decide +kernel
theorem dX8_init_18 : decode cX8_init 18 = .ok (.aload_n 0, 1) := by decide +kernel
theorem dX8_init_19 : decode cX8_init 19 = .ok (.bipush 12, 2) := by decide +kernel
theorem dX8_init_21 : decode cX8_init 21 = .ok (.newarray .int, 2) := by decide +kernel
theorem dX8_init_23 : decode cX8_init 23 = .ok (.putfield 17, 3) := by decide +kernel
theorem dX8_init_26 : decode cX8_init 26 = .ok (.aload_n 0, 1) := by decide +kernel
theorem dX8_init_27 : decode cX8_init 27 = .ok (.bipush 12, 2) := by decide +kernel
theorem dX8_init_29 : decode cX8_init 29 = .ok (.newarray .int, 2) := by decide +kernel
theorem dX8_init_31 : decode cX8_init 31 = .ok (.putfield 20, 3) := by decide +kernel
theorem dX8_init_34 : decode cX8_init 34 = .ok (.aload_n 0, 1) := by decide +kernel
theorem dX8_init_35 : decode cX8_init 35 = .ok (.bipush 12, 2) := by decide +kernel
theorem dX8_init_37 : decode cX8_init 37 = .ok (.newarray .long, 2) := by decide +kernel
theorem dX8_init_39 : decode cX8_init 39 = .ok (.putfield 23, 3) := by decide +kernel
theorem dX8_init_42 : decode cX8_init 42 = .ok (.aload_n 0, 1) := by decide +kernel
theorem dX8_init_43 : decode cX8_init 43 = .ok (.bipush 12, 2) := by decide +kernel
theorem dX8_init_45 : decode cX8_init 45 = .ok (.newarray .boolean, 2) := by decide +kernel
theorem dX8_init_47 : decode cX8_init 47 = .ok (.putfield 26, 3) := by decide +kernel
theorem dX8_init_50 : decode cX8_init 50 = .ok (.aload_n 0, 1) := by decide +kernel
theorem dX8_init_51 : decode cX8_init 51 = .ok (.iconst 4, 1) := by decide +kernel
theorem dX8_init_52 : decode cX8_init 52 = .ok (.newarray .int, 2) := by decide +kernel
theorem dX8_init_54 : decode cX8_init 54 = .ok (.putfield 30, 3) := by decide +kernel
theorem dX8_init_57 : decode cX8_init 57 = .ok (.aload_n 0, 1) := by decide +kernel
theorem dX8_init_58 : decode cX8_init 58 = .ok (.iconst 4, 1) := by decide +kernel
theorem dX8_init_59 : decode cX8_init 59 = .ok (.newarray .int, 2) := by decide +kernel
theorem dX8_init_61 : decode cX8_init 61 = .ok (.putfield 33, 3) := by decide +kernel
theorem dX8_init_64 : decode cX8_init 64 = .ok (.aload_n 0, 1) := by decide +kernel
theorem dX8_init_65 : decode cX8_init 65 = .ok (.iconst 4, 1) := by decide +kernel
theorem dX8_init_66 : decode cX8_init 66 = .ok (.newarray .int, 2) := by decide +kernel
theorem dX8_init_68 : decode cX8_init 68 = .ok (.putfield 36, 3) := by decide +kernel
theorem dX8_init_71 : decode cX8_init 71 = .ok (.aload_n 0, 1) := by decide +kernel
theorem dX8_init_72 : decode cX8_init 72 = .ok (.iconst 4, 1) := by decide +kernel
theorem dX8_init_73 : decode cX8_init 73 = .ok (.newarray .int, 2) := by decide +kernel
theorem dX8_init_75 : decode cX8_init 75 = .ok (.putfield 39, 3) := by decide +kernel
theorem dX8_init_78 : decode cX8_init 78 = .ok (.aload_n 0, 1) := by decide +kernel
theorem dX8_init_79 : decode cX8_init 79 = .ok (.iconst 4, 1) := by decide +kernel
theorem dX8_init_80 : decode cX8_init 80 = .ok (.newarray .int, 2) := by decide +kernel
theorem dX8_init_82 : decode cX8_init 82 = .ok (.putfield 42, 3) := by decide +kernel
theorem dX8_init_85 : decode cX8_init 85 = .ok (.aload_n 0, 1) := by decide +kernel
theorem dX8_init_86 : decode cX8_init 86 = .ok (.iconst 4, 1) := by decide +kernel
theorem dX8_init_87 : decode cX8_init 87 = .ok (.newarray .int, 2) := by decide +kernel
theorem dX8_init_89 : decode cX8_init 89 = .ok (.putfield 45, 3) := by decide +kernel
theorem dX8_init_92 : decode cX8_init 92 = .ok (.aload_n 0, 1) := by decide +kernel
theorem dX8_init_93 : decode cX8_init 93 = .ok (.iconst 4, 1) := by decide +kernel
theorem dX8_init_94 : decode cX8_init 94 = .ok (.newarray .int, 2) := by decide +kernel
theorem dX8_init_96 : decode cX8_init 96 = .ok (.putfield 48, 3) := by decide +kernel
theorem dX8_init_99 : decode cX8_init 99 = .ok (.aload_n 0, 1) := by decide +kernel
theorem dX8_init_100 : decode cX8_init 100 = .ok (.bipush 20, 2) := by decide +kernel
theorem dX8_init_102 : decode cX8_init 102 = .ok (.newarray .int, 2) := by decide +kernel
theorem dX8_init_104 : decode cX8_init 104 = .ok (.putfield 51, 3) := by decide +kernel
theorem dX8_init_107 : decode cX8_init 107 = .ok (.aload_n 0, 1) := by decide +kernel
theorem dX8_init_108 : decode cX8_init 108 = .ok (.bipush 20, 2) := by decide +kernel
theorem dX8_init_110 : decode cX8_init 110 = .ok (.newarray .int, 2) := by decide +kernel
theorem dX8_init_112 : decode cX8_init 112 = .ok (.putfield 54, 3) := by decide +kernel
theorem dX8_init_115 : decode cX8_init 115 = .ok (.aload_n 0, 1) := by decide +kernel
theorem dX8_init_116 : decode cX8_init 116 = .ok (.bipush 20, 2) := by decide +kernel
theorem dX8_init_118 : decode cX8_init 118 = .ok (.newarray .int, 2) := by decide +kernel
theorem dX8_init_120 : decode cX8_init 120 = .ok (.putfield 57, 3) := by decide +kernel
theorem dX8_init_123 : decode cX8_init 123 = .ok (.aload_n 0, 1) := by decide +kernel
theorem dX8_init_124 : decode cX8_init 124 = .ok (.bipush 20, 2) := by decide +kernel
theorem dX8_init_126 : decode cX8_init 126 = .ok (.newarray .int, 2) := by decide +kernel
theorem dX8_init_128 : decode cX8_init 128 = .ok (.putfield 60, 3) := by decide +kernel
theorem dX8_init_131 : decode cX8_init 131 = .ok (.aload_n 0, 1) := by decide +kernel
theorem dX8_init_132 : decode cX8_init 132 = .ok (.bipush 20, 2) := by decide +kernel
theorem dX8_init_134 : decode cX8_init 134 = .ok (.newarray .int, 2) := by decide +kernel
theorem dX8_init_136 : decode cX8_init 136 = .ok (.putfield 63, 3) := by decide +kernel
theorem dX8_init_139 : decode cX8_init 139 = .ok (.aload_n 0, 1) := by decide +kernel
theorem dX8_init_140 : decode cX8_init 140 = .ok (.bipush 20, 2) := by decide +kernel
theorem dX8_init_142 : decode cX8_init 142 = .ok (.newarray .int, 2) := by decide +kernel
theorem dX8_init_144 : decode cX8_init 144 = .ok (.putfield 66, 3) := by decide +kernel
theorem dX8_init_147 : decode cX8_init 147 = .ok (.aload_n 0, 1) := by decide +kernel
theorem dX8_init_148 : decode cX8_init 148 = .ok (.sipush 256, 3) := by decide +kernel
theorem dX8_init_151 : decode cX8_init 151 = .ok (.newarray .int, 2) := by decide +kernel
theorem dX8_init_153 : decode cX8_init 153 = .ok (.putfield 69, 3) := by decide +kernel
theorem dX8_init_156 : decode cX8_init 156 = .ok (.aload_n 0, 1) := by decide +kernel
theorem dX8_init_157 : decode cX8_init 157 = .ok (.sipush 512, 3) := by decide +kernel
theorem dX8_init_160 : decode cX8_init 160 = .ok (.newarray .int, 2) := by decide +kernel
theorem dX8_init_162 : decode cX8_init 162 = .ok (.putfield 72, 3) := by decide +kernel
theorem dX8_init_165 : decode cX8_init 165 = .ok (.aload_n 0, 1) := by decide +kernel
theorem dX8_init_166 : decode cX8_init 166 = .ok (.sipush 512, 3) := by decide +kernel
theorem dX8_init_169 : decode cX8_init 169 = .ok (.newarray .int, 2) := by decide +kernel
theorem dX8_init_171 : decode cX8_init 171 = .ok (.putfield 75, 3) := by decide +kernel
theorem dX8_init_174 : decode cX8_init 174 = .ok (.aload_n 0, 1) := by decide +kernel
theorem dX8_init_175 : decode cX8_init 175 = .ok (.sipush 512, 3) := by decide +kernel
theorem dX8_init_178 : decode cX8_init 178 = .ok (.newarray .int, 2) := by decide +kernel
theorem dX8_init_180 : decode cX8_init 180 = .ok (.putfield 78, 3) := by decide +kernel
theorem dX8_init_183 : decode cX8_init 183 = .ok (.aload_n 0, 1) := by decide +kernel
theorem dX8_init_184 : decode cX8_init 184 = .ok (.sipush 512, 3) := by decide +kernel
theorem dX8_init_187 : decode cX8_init 187 = .ok (.newarray .int, 2) := by decide +kernel
theorem dX8_init_189 : decode cX8_init 189 = .ok (.putfield 81, 3) := by decide +kernel
theorem dX8_init_192 : decode cX8_init 192 = .ok (.aload_n 0, 1) := by decide +kernel
theorem dX8_init_193 : decode cX8_init 193 = .ok (.sipush 512, 3) := by decide +kernel
theorem dX8_init_196 : decode cX8_init 196 = .ok (.newarray .int, 2) := by decide +kernel
theorem dX8_init_198 : decode cX8_init 198 = .ok (.putfield 84, 3) := by decide +kernel
theorem dX8_init_201 : decode cX8_init 201 = .ok (.aload_n 0, 1) := by decide +kernel
theorem dX8_init_202 : decode cX8_init 202 = .ok (.sipush 512, 3) := by decide +kernel
theorem dX8_init_205 : decode cX8_init 205 = .ok (.newarray .int, 2) := by decide +kernel
theorem dX8_init_207 : decode cX8_init 207 = .ok (.putfield 87, 3) := by decide +kernel
theorem dX8_init_210 : decode cX8_init 210 = .ok (.aload_n 0, 1) := by decide +kernel
theorem dX8_init_211 : decode cX8_init 211 = .ok (.sipush 512, 3) := by decide +kernel
theorem dX8_init_214 : decode cX8_init 214 = .ok (.newarray .int, 2) := by decide +kernel
theorem dX8_init_216 : decode cX8_init 216 = .ok (.putfield 90, 3) := by decide +kernel
theorem dX8_init_219 : decode cX8_init 219 = .ok (.aload_n 0, 1) := by decide +kernel
theorem dX8_init_220 : decode cX8_init 220 = .ok (.sipush 512, 3) := by decide +kernel
theorem dX8_init_223 : decode cX8_init 223 = .ok (.newarray .int, 2) := by decide +kernel
theorem dX8_init_225 : decode cX8_init 225 = .ok (.putfield 93, 3) := by decide +kernel
theorem dX8_init_228 : decode cX8_init 228 = .ok (.aload_n 0, 1) := by decide +kernel
theorem dX8_init_229 : decode cX8_init 229 = .ok (.sipush 512, 3) := by decide +kernel
theorem dX8_init_232 : decode cX8_init 232 = .ok (.newarray .int, 2) := by decide +kernel
theorem dX8_init_234 : decode cX8_init 234 = .ok (.putfield 96, 3) := by decide +kernel
theorem dX8_init_237 : decode cX8_init 237 = .ok (.aload_n 0, 1) := by decide +kernel
theorem dX8_init_238 : decode cX8_init 238 = .ok (.sipush 512, 3) := by decide +kernel
theorem dX8_init_241 : decode cX8_init 241 = .ok (.newarray .int, 2) := by decide +kernel
theorem dX8_init_243 : decode cX8_init 243 = .ok (.putfield 99, 3) := by decide +kernel
theorem dX8_init_246 : decode cX8_init 246 = .ok (.aload_n 0, 1) := by decide +kernel
theorem dX8_init_247 : decode cX8_init 247 = .ok (.iconst 5, 1) := by decide +kernel
theorem dX8_init_248 : decode cX8_init 248 = .ok (.newarray .int, 2) := by decide +kernel
theorem dX8_init_250 : decode cX8_init 250 = .ok (.putfield 102, 3) := by decide +kernel
theorem dX8_init_253 : decode cX8_init 253 = .ok (.aload_n 0, 1) := by decide +kernel
theorem dX8_init_254 : decode cX8_init 254 = .ok (.sipush 2560, 3) := by decide +kernel
theorem dX8_init_257 : decode cX8_init 257 = .ok (.newarray .int, 2) := by decide +kernel
theorem dX8_init_259 : decode cX8_init 259 = .ok (.putfield 105, 3) := by decide +kernel
theorem dX8_init_262 : decode cX8_init 262 = .ok (.aload_n 0, 1) := by decide +kernel
theorem dX8_init_263 : decode cX8_init 263 = .ok (.sipush 2560, 3) := by decide +kernel
theorem dX8_init_266 : decode cX8_init 266 = .ok (.newarray .boolean, 2) := by decide +kernel
theorem dX8_init_268 : decode cX8_init 268 = .ok (.putfield 108, 3) := by decide +kernel
theorem dX8_init_271 : decode cX8_init 271 = .ok (.aload_n 0, 1) := by decide +kernel
theorem dX8_init_272 : decode cX8_init 272 = .ok (.sipush 2560, 3) := by decide +kernel
theorem dX8_init_275 : decode cX8_init 275 = .ok (.newarray .int, 2) := by decide +kernel
theorem dX8_init_277 : decode cX8_init 277 = .ok (.putfield 111, 3) := by decide +kernel
theorem dX8_init_280 : decode cX8_init 280 = .ok (.aload_n 0, 1) := by decide +kernel
theorem dX8_init_281 : decode cX8_init 281 = .ok (.bipush 40, 2) := by decide +kernel
theorem dX8_init_283 : decode cX8_init 283 = .ok (.newarray .int, 2) := by decide +kernel
theorem dX8_init_285 : decode cX8_init 285 = .ok (.putfield 114, 3) := by decide +kernel
theorem dX8_init_288 : decode cX8_init 288 = .ok (.return_, 1) := by decide +kernel
theorem dX8_within_0 : decode cX8_within 0 = .ok (.iload_n 0, 1) := by decide +kernel
theorem dX8_within_1 : decode cX8_within 1 = .ok (.ifCond .lt 12, 3) := by decide +kernel
theorem dX8_within_4 : decode cX8_within 4 = .ok (.iload_n 0, 1) := by decide +kernel
theorem dX8_within_5 : decode cX8_within 5 = .ok (.iload_n 1, 1) := by decide +kernel
theorem dX8_within_6 : decode cX8_within 6 = .ok (.if_icmp .ge 7, 3) := by decide +kernel
theorem dX8_within_9 : decode cX8_within 9 = .ok (.iconst 1, 1) := by decide +kernel
theorem dX8_within_10 : decode cX8_within 10 = .ok (.goto 4, 3) := by decide +kernel
theorem dX8_within_13 : decode cX8_within 13 = .ok (.iconst 0, 1) := by decide +kernel
theorem dX8_within_14 : decode cX8_within 14 = .ok (.ireturn, 1) := by decide +kernel
theorem dX8_right_0 : decode cX8_right 0 = .ok (.iconst 0, 1) := by decide +kernel
theorem dX8_right_1 : decode cX8_right 1 = .ok (.istore_n 2, 1) := by decide +kernel
theorem dX8_right_2 : decode cX8_right 2 = .ok (.iload_n 0, 1) := by decide +kernel
theorem dX8_right_3 : decode cX8_right 3 = .ok (.istore_n 3, 1) := by decide +kernel
theorem dX8_right_4 : decode cX8_right 4 = .ok (.iload_n 1, 1) := by decide +kernel
theorem dX8_right_5 : decode cX8_right 5 = .ok (.iconst 1, 1) := by decide +kernel
theorem dX8_right_6 : decode cX8_right 6 = .ok (.isub, 1) := by decide +kernel
theorem dX8_right_7 : decode cX8_right 7 = .ok (.istore 4, 2) := by decide +kernel
theorem dX8_right_9 : decode cX8_right 9 = .ok (.iload 4, 2) := by decide +kernel
theorem dX8_right_11 : decode cX8_right 11 = .ok (.ifCond .lt 51, 3) := by decide +kernel
theorem dX8_right_14 : decode cX8_right 14 = .ok (.iload 4, 2) := by decide +kernel
theorem dX8_right_16 : decode cX8_right 16 = .ok (.iconst 3, 1) := by decide +kernel
theorem dX8_right_17 : decode cX8_right 17 = .ok (.irem, 1) := by decide +kernel
theorem dX8_right_18 : decode cX8_right 18 = .ok (.ifCond .ne 7, 3) := by decide +kernel
theorem dX8_right_21 : decode cX8_right 21 = .ok (.iconst 3, 1) := by decide +kernel
theorem dX8_right_22 : decode cX8_right 22 = .ok (.goto 17, 3) := by decide +kernel
theorem dX8_right_25 : decode cX8_right 25 = .ok (.iload 4, 2) := by decide +kernel
theorem dX8_right_27 : decode cX8_right 27 = .ok (.iconst 3, 1) := by decide +kernel
theorem dX8_right_28 : decode cX8_right 28 = .ok (.irem, 1) := by decide +kernel
theorem dX8_right_29 : decode cX8_right 29 = .ok (.iconst 1, 1) := by decide +kernel
theorem dX8_right_30 : decode cX8_right 30 = .ok (.if_icmp .ne 8, 3) := by decide +kernel
theorem dX8_right_33 : decode cX8_right 33 = .ok (.bipush 7, 2) := by decide +kernel
theorem dX8_right_35 : decode cX8_right 35 = .ok (.goto 4, 3) := by decide +kernel
theorem dX8_right_38 : decode cX8_right 38 = .ok (.iconst 1, 1) := by decide +kernel
theorem dX8_right_39 : decode cX8_right 39 = .ok (.istore 5, 2) := by decide +kernel
theorem dX8_right_41 : decode cX8_right 41 = .ok (.iload_n 2, 1) := by decide +kernel
theorem dX8_right_42 : decode cX8_right 42 = .ok (.iload 5, 2) := by decide +kernel
theorem dX8_right_44 : decode cX8_right 44 = .ok (.iload_n 3, 1) := by decide +kernel
theorem dX8_right_45 : decode cX8_right 45 = .ok (.bipush 10, 2) := by decide +kernel
theorem dX8_right_47 : decode cX8_right 47 = .ok (.irem, 1) := by decide +kernel
theorem dX8_right_48 : decode cX8_right 48 = .ok (.imul, 1) := by decide +kernel
theorem dX8_right_49 : decode cX8_right 49 = .ok (.iadd, 1) := by decide +kernel
theorem dX8_right_50 : decode cX8_right 50 = .ok (.istore_n 2, 1) := by decide +kernel
theorem dX8_right_51 : decode cX8_right 51 = .ok (.iload_n 3, 1) := by decide +kernel
theorem dX8_right_52 : decode cX8_right 52 = .ok (.bipush 10, 2) := by decide +kernel
theorem dX8_right_54 : decode cX8_right 54 = .ok (.idiv, 1) := by decide +kernel
theorem dX8_right_55 : decode cX8_right 55 = .ok (.istore_n 3, 1) := by decide +kernel
theorem dX8_right_56 : decode cX8_right 56 = .ok (.iinc 4 (-1), 3) := by decide +kernel
theorem dX8_right_59 : decode cX8_right 59 = .ok (.goto (-50), 3) := by decide +kernel
theorem dX8_right_62 : decode cX8_right 62 = .ok (.iload_n 2, 1) := by decide +kernel
theorem dX8_right_63 : decode cX8_right 63 = .ok (.bipush 10, 2) := by decide +kernel
theorem dX8_right_65 : decode cX8_right 65 = .ok (.irem, 1) := by decide +kernel
theorem dX8_right_66 : decode cX8_right 66 = .ok (.ifCond .ne 7, 3) := by decide +kernel
theorem dX8_right_69 : decode cX8_right 69 = .ok (.iconst 1, 1) := by decide +kernel
theorem dX8_right_70 : decode cX8_right 70 = .ok (.goto 4, 3) := by decide +kernel
theorem dX8_right_73 : decode cX8_right 73 = .ok (.iconst 0, 1) := by decide +kernel
theorem dX8_right_74 : decode cX8_right 74 = .ok (.ireturn, 1) := by decide +kernel
theorem dX8_digits_0 : decode cX8_digits 0 = .ok (.lload_n 0, 1) := by decide +kernel
theorem dX8_digits_1 : decode cX8_digits 1 = .ok (.lstore 4, 2) := by decide +kernel
theorem dX8_digits_3 : decode cX8_digits 3 = .ok (.iload_n 2, 1) := by decide +kernel
theorem dX8_digits_4 : decode cX8_digits 4 = .ok (.iload_n 3, 1) := by decide +kernel
theorem dX8_digits_5 : decode cX8_digits 5 = .ok (.iadd, 1) := by decide +kernel
theorem dX8_digits_6 : decode cX8_digits 6 = .ok (.istore 6, 2) := by decide +kernel
theorem dX8_digits_8 : decode cX8_digits 8 = .ok (.iload 6, 2) := by decide +kernel
theorem dX8_digits_10 : decode cX8_digits 10 = .ok (.bipush 18, 2) := by decide +kernel
theorem dX8_digits_12 : decode cX8_digits 12 = .ok (.if_icmp .ge 17, 3) := by decide +kernel
theorem dX8_digits_15 : decode cX8_digits 15 = .ok (.lload 4, 2) := by decide +kernel
theorem dX8_digits_17 : decode cX8_digits 17 = .ok (.ldc2_w 117, 3) := by decide +kernel
theorem dX8_digits_20 : decode cX8_digits 20 = .ok (.ldiv, 1) := by decide +kernel
theorem dX8_digits_21 : decode cX8_digits 21 = .ok (.lstore 4, 2) := by decide +kernel
theorem dX8_digits_23 : decode cX8_digits 23 = .ok (.iinc 6 1, 3) := by decide +kernel
theorem dX8_digits_26 : decode cX8_digits 26 = .ok (.goto (-18), 3) := by decide +kernel
theorem dX8_digits_29 : decode cX8_digits 29 = .ok (.lconst 1, 1) := by decide +kernel
theorem dX8_digits_30 : decode cX8_digits 30 = .ok (.lstore 6, 2) := by decide +kernel
theorem dX8_digits_32 : decode cX8_digits 32 = .ok (.iconst 0, 1) := by decide +kernel
theorem dX8_digits_33 : decode cX8_digits 33 = .ok (.istore 8, 2) := by decide +kernel
theorem dX8_digits_35 : decode cX8_digits 35 = .ok (.iload 8, 2) := by decide +kernel
theorem dX8_digits_37 : decode cX8_digits 37 = .ok (.iload_n 3, 1) := by decide +kernel
theorem dX8_digits_38 : decode cX8_digits 38 = .ok (.if_icmp .ge 17, 3) := by decide +kernel
theorem dX8_digits_41 : decode cX8_digits 41 = .ok (.lload 6, 2) := by decide +kernel
theorem dX8_digits_43 : decode cX8_digits 43 = .ok (.ldc2_w 117, 3) := by decide +kernel
theorem dX8_digits_46 : decode cX8_digits 46 = .ok (.lmul, 1) := by decide +kernel
theorem dX8_digits_47 : decode cX8_digits 47 = .ok (.lstore 6, 2) := by decide +kernel
theorem dX8_digits_49 : decode cX8_digits 49 = .ok (.iinc 8 1, 3) := by decide +kernel
theorem dX8_digits_52 : decode cX8_digits 52 = .ok (.goto (-17), 3) := by decide +kernel
theorem dX8_digits_55 : decode cX8_digits 55 = .ok (.lload 4, 2) := by decide +kernel
theorem dX8_digits_57 : decode cX8_digits 57 = .ok (.lload 6, 2) := by decide +kernel
theorem dX8_digits_59 : decode cX8_digits 59 = .ok (.lrem, 1) := by decide +kernel
theorem dX8_digits_60 : decode cX8_digits 60 = .ok (.l2i, 1) := by decide +kernel
theorem dX8_digits_61 : decode cX8_digits 61 = .ok (.ireturn, 1) := by decide +kernel
theorem dX8_bankOf_0 : decode cX8_bankOf 0 = .ok (.iconst 0, 1) := by decide +kernel
theorem dX8_bankOf_1 : decode cX8_bankOf 1 = .ok (.istore_n 2, 1) := by decide +kernel
theorem dX8_bankOf_2 : decode cX8_bankOf 2 = .ok (.iload_n 2, 1) := by decide +kernel
theorem dX8_bankOf_3 : decode cX8_bankOf 3 = .ok (.aload_n 0, 1) := by decide +kernel
theorem dX8_bankOf_4 : decode cX8_bankOf 4 = .ok (.getfield 119, 3) := by decide +kernel
theorem dX8_bankOf_7 : decode cX8_bankOf 7 = .ok (.if_icmp .ge 21, 3) := by decide +kernel
theorem dX8_bankOf_10 : decode cX8_bankOf 10 = .ok (.aload_n 0, 1) := by decide +kernel
theorem dX8_bankOf_11 : decode cX8_bankOf 11 = .ok (.getfield 7, 3) := by decide +kernel
theorem dX8_bankOf_14 : decode cX8_bankOf 14 = .ok (.iload_n 2, 1) := by decide +kernel
theorem dX8_bankOf_15 : decode cX8_bankOf 15 = .ok (.iaload, 1) := by decide +kernel
theorem dX8_bankOf_16 : decode cX8_bankOf 16 = .ok (.iload_n 1, 1) := by decide +kernel
theorem dX8_bankOf_17 : decode cX8_bankOf 17 = .ok (.if_icmp .ne 5, 3) := by decide +kernel
theorem dX8_bankOf_20 : decode cX8_bankOf 20 = .ok (.iload_n 2, 1) := by decide +kernel
theorem dX8_bankOf_21 : decode cX8_bankOf 21 = .ok (.ireturn, 1) := by decide +kernel
theorem dX8_bankOf_22 : decode cX8_bankOf 22 = .ok (.iinc 2 1, 3) := by decide +kernel
theorem dX8_bankOf_25 : decode cX8_bankOf 25 = .ok (.goto (-23), 3) := by decide +kernel
theorem dX8_bankOf_28 : decode cX8_bankOf 28 = .ok (.iconst (-1), 1) := by decide +kernel
theorem dX8_bankOf_29 : decode cX8_bankOf 29 = .ok (.ireturn, 1) := by decide +kernel
set_option maxRecDepth 20000 in
theorem ggX8_join_X8_within : GoodIn wsX8_join wsX8_within := goodIn_r _ [6] (by decide +kernel) (by decide +kernel)
set_option maxRecDepth 20000 in
theorem gX8_join_X8_within : GoodIn wsX8_join (va_wsS RX8 123 yX8_within wsX8_within) := goodIn_app (goodIn_of _ (by decide +kernel)) ggX8_join_X8_within
set_option maxRecDepth 20000 in
theorem ggX8_join_X8_right : GoodIn wsX8_join wsX8_right := goodIn_r _ [9] (by decide +kernel) (by decide +kernel)
set_option maxRecDepth 20000 in
theorem gX8_join_X8_right : GoodIn wsX8_join (va_wsS RX8 127 yX8_right wsX8_right) := goodIn_app (goodIn_of _ (by decide +kernel)) ggX8_join_X8_right
set_option maxRecDepth 20000 in
theorem ggX8_join_X8_bankOf : GoodIn wsX8_join wsX8_bankOf := goodIn_r _ [13, 1, 2, 14, 15, 16, 17, 18, 19, 20, 21, 22, 23, 24, 25, 26, 27, 28, 29, 30, 31, 32, 33, 34, 35, 36, 37, 38, 39, 40, 41, 42, 43, 44, 45, 46, 47, 48, 49, 50, 51, 52, 53, 54, 55, 56, 57, 58, 59] (by decide +kernel) (by decide +kernel)
set_option maxRecDepth 20000 in
theorem gX8_join_X8_bankOf : GoodIn wsX8_join (wsV RX8 130 RX8 yX8_bankOf wsX8_bankOf) := goodIn_app (goodIn_of _ (by decide +kernel)) ggX8_join_X8_bankOf
theorem dX8_join_0 : decode cX8_join 0 = .ok (.iload_n 1, 1) := by decide +kernel
theorem dX8_join_1 : decode cX8_join 1 = .ok (.sipush 10000, 3) := by decide +kernel
theorem dX8_join_4 : decode cX8_join 4 = .ok (.invokestatic 123, 3) := by decide +kernel
theorem dX8_join_7 : decode cX8_join 7 = .ok (.ifCond .eq 19, 3) := by decide +kernel
theorem dX8_join_10 : decode cX8_join 10 = .ok (.iload_n 1, 1) := by decide +kernel
theorem dX8_join_11 : decode cX8_join 11 = .ok (.iconst 4, 1) := by decide +kernel
theorem dX8_join_12 : decode cX8_join 12 = .ok (.invokestatic 127, 3) := by decide +kernel
theorem dX8_join_15 : decode cX8_join 15 = .ok (.ifCond .eq 11, 3) := by decide +kernel
theorem dX8_join_18 : decode cX8_join 18 = .ok (.aload_n 0, 1) := by decide +kernel
theorem dX8_join_19 : decode cX8_join 19 = .ok (.iload_n 1, 1) := by decide +kernel
theorem dX8_join_20 : decode cX8_join 20 = .ok (.invokevirtual 130, 3) := by decide +kernel
theorem dX8_join_23 : decode cX8_join 23 = .ok (.ifCond .lt 5, 3) := by decide +kernel
theorem dX8_join_26 : decode cX8_join 26 = .ok (.iconst (-1), 1) := by decide +kernel
theorem dX8_join_27 : decode cX8_join 27 = .ok (.ireturn, 1) := by decide +kernel
theorem dX8_join_28 : decode cX8_join 28 = .ok (.aload_n 0, 1) := by decide +kernel
theorem dX8_join_29 : decode cX8_join 29 = .ok (.getfield 119, 3) := by decide +kernel
theorem dX8_join_32 : decode cX8_join 32 = .ok (.iconst 5, 1) := by decide +kernel
theorem dX8_join_33 : decode cX8_join 33 = .ok (.if_icmp .ne 6, 3) := by decide +kernel
theorem dX8_join_36 : decode cX8_join 36 = .ok (.bipush (-3), 2) := by decide +kernel
theorem dX8_join_38 : decode cX8_join 38 = .ok (.ireturn, 1) := by decide +kernel
theorem dX8_join_39 : decode cX8_join 39 = .ok (.aload_n 0, 1) := by decide +kernel
theorem dX8_join_40 : decode cX8_join 40 = .ok (.getfield 7, 3) := by decide +kernel
theorem dX8_join_43 : decode cX8_join 43 = .ok (.aload_n 0, 1) := by decide +kernel
theorem dX8_join_44 : decode cX8_join 44 = .ok (.getfield 119, 3) := by decide +kernel
theorem dX8_join_47 : decode cX8_join 47 = .ok (.iload_n 1, 1) := by decide +kernel
theorem dX8_join_48 : decode cX8_join 48 = .ok (.iastore, 1) := by decide +kernel
theorem dX8_join_49 : decode cX8_join 49 = .ok (.aload_n 0, 1) := by decide +kernel
theorem dX8_join_50 : decode cX8_join 50 = .ok (.dup, 1) := by decide +kernel
theorem dX8_join_51 : decode cX8_join 51 = .ok (.getfield 119, 3) := by decide +kernel
theorem dX8_join_54 : decode cX8_join 54 = .ok (.iconst 1, 1) := by decide +kernel
theorem dX8_join_55 : decode cX8_join 55 = .ok (.iadd, 1) := by decide +kernel
theorem dX8_join_56 : decode cX8_join 56 = .ok (.putfield 119, 3) := by decide +kernel
theorem dX8_join_59 : decode cX8_join 59 = .ok (.aload_n 0, 1) := by decide +kernel
theorem dX8_join_60 : decode cX8_join 60 = .ok (.getfield 119, 3) := by decide +kernel
theorem dX8_join_63 : decode cX8_join 63 = .ok (.iconst 1, 1) := by decide +kernel
theorem dX8_join_64 : decode cX8_join 64 = .ok (.isub, 1) := by decide +kernel
theorem dX8_join_65 : decode cX8_join 65 = .ok (.ireturn, 1) := by decide +kernel
theorem dX8_accountOf_0 : decode cX8_accountOf 0 = .ok (.iconst 0, 1) := by decide +kernel
theorem dX8_accountOf_1 : decode cX8_accountOf 1 = .ok (.istore_n 3, 1) := by decide +kernel
theorem dX8_accountOf_2 : decode cX8_accountOf 2 = .ok (.iload_n 3, 1) := by decide +kernel
theorem dX8_accountOf_3 : decode cX8_accountOf 3 = .ok (.aload_n 0, 1) := by decide +kernel
theorem dX8_accountOf_4 : decode cX8_accountOf 4 = .ok (.getfield 134, 3) := by decide +kernel
theorem dX8_accountOf_7 : decode cX8_accountOf 7 = .ok (.if_icmp .ge 31, 3) := by decide +kernel
theorem dX8_accountOf_10 : decode cX8_accountOf 10 = .ok (.aload_n 0, 1) := by decide +kernel
theorem dX8_accountOf_11 : decode cX8_accountOf 11 = .ok (.getfield 17, 3) := by decide +kernel
theorem dX8_accountOf_14 : decode cX8_accountOf 14 = .ok (.iload_n 3, 1) := by decide +kernel
theorem dX8_accountOf_15 : decode cX8_accountOf 15 = .ok (.iaload, 1) := by decide +kernel
theorem dX8_accountOf_16 : decode cX8_accountOf 16 = .ok (.iload_n 1, 1) := by decide +kernel
theorem dX8_accountOf_17 : decode cX8_accountOf 17 = .ok (.if_icmp .ne 15, 3) := by decide +kernel
theorem dX8_accountOf_20 : decode cX8_accountOf 20 = .ok (.aload_n 0, 1) := by decide +kernel
theorem dX8_accountOf_21 : decode cX8_accountOf 21 = .ok (.getfield 20, 3) := by decide +kernel
theorem dX8_accountOf_24 : decode cX8_accountOf 24 = .ok (.iload_n 3, 1) := by decide +kernel
theorem dX8_accountOf_25 : decode cX8_accountOf 25 = .ok (.iaload, 1) := by decide +kernel
theorem dX8_accountOf_26 : decode cX8_accountOf 26 = .ok (.iload_n 2, 1) := by decide +kernel
theorem dX8_accountOf_27 : decode cX8_accountOf 27 = .ok (.if_icmp .ne 5, 3) := by decide +kernel
theorem dX8_accountOf_30 : decode cX8_accountOf 30 = .ok (.iload_n 3, 1) := by decide +kernel
theorem dX8_accountOf_31 : decode cX8_accountOf 31 = .ok (.ireturn, 1) := by decide +kernel
theorem dX8_accountOf_32 : decode cX8_accountOf 32 = .ok (.iinc 3 1, 3) := by decide +kernel
theorem dX8_accountOf_35 : decode cX8_accountOf 35 = .ok (.goto (-33), 3) := by decide +kernel
theorem dX8_accountOf_38 : decode cX8_accountOf 38 = .ok (.iconst (-1), 1) := by decide +kernel
theorem dX8_accountOf_39 : decode cX8_accountOf 39 = .ok (.ireturn, 1) := by decide +kernel
set_option maxRecDepth 20000 in
theorem ggX8_open_X8_within : GoodIn wsX8_open wsX8_within := goodIn_r _ [11] (by decide +kernel) (by decide +kernel)
set_option maxRecDepth 20000 in
theorem gX8_open_X8_within : GoodIn wsX8_open (va_wsS RX8 123 yX8_within wsX8_within) := goodIn_app (goodIn_of _ (by decide +kernel)) ggX8_open_X8_within
set_option maxRecDepth 20000 in
theorem ggX8_open_X8_right : GoodIn wsX8_open wsX8_right := goodIn_r _ [14] (by decide +kernel) (by decide +kernel)
set_option maxRecDepth 20000 in
theorem gX8_open_X8_right : GoodIn wsX8_open (va_wsS RX8 127 yX8_right wsX8_right) := goodIn_app (goodIn_of _ (by decide +kernel)) ggX8_open_X8_right
set_option maxRecDepth 20000 in
theorem ggX8_open_X8_accountOf : GoodIn wsX8_open wsX8_accountOf := goodIn_r _ [18, 4, 5, 6, 19, 20, 21, 22, 23, 24, 25, 26, 27, 28, 29, 30, 31, 32, 33, 34, 35, 36, 37, 38, 39, 40, 41, 42, 43, 44, 45, 46, 47, 48, 49, 50, 51, 52, 53, 54, 55, 56, 57, 58, 59, 60, 61, 62, 63, 64] (by decide +kernel) (by decide +kernel)
set_option maxRecDepth 20000 in
theorem gX8_open_X8_accountOf : GoodIn wsX8_open (wsV RX8 139 RX8 yX8_accountOf wsX8_accountOf) := goodIn_app (goodIn_of _ (by decide +kernel)) ggX8_open_X8_accountOf
theorem dX8_open_0 : decode cX8_open 0 = .ok (.iload_n 1, 1) := by decide +kernel
theorem dX8_open_1 : decode cX8_open 1 = .ok (.aload_n 0, 1) := by decide +kernel
theorem dX8_open_2 : decode cX8_open 2 = .ok (.getfield 119, 3) := by decide +kernel
theorem dX8_open_5 : decode cX8_open 5 = .ok (.invokestatic 123, 3) := by decide +kernel
theorem dX8_open_8 : decode cX8_open 8 = .ok (.ifCond .eq 34, 3) := by decide +kernel
theorem dX8_open_11 : decode cX8_open 11 = .ok (.iload_n 2, 1) := by decide +kernel
theorem dX8_open_12 : decode cX8_open 12 = .ok (.ldc 137, 2) := by decide +kernel
theorem dX8_open_14 : decode cX8_open 14 = .ok (.invokestatic 123, 3) := by decide +kernel
theorem dX8_open_17 : decode cX8_open 17 = .ok (.ifCond .eq 25, 3) := by decide +kernel
theorem dX8_open_20 : decode cX8_open 20 = .ok (.iload_n 2, 1) := by decide +kernel
theorem dX8_open_21 : decode cX8_open 21 = .ok (.bipush 6, 2) := by decide +kernel
theorem dX8_open_23 : decode cX8_open 23 = .ok (.invokestatic 127, 3) := by decide +kernel
theorem dX8_open_26 : decode cX8_open 26 = .ok (.ifCond .eq 16, 3) := by decide +kernel
theorem dX8_open_29 : decode cX8_open 29 = .ok (.iload_n 3, 1) := by decide +kernel
theorem dX8_open_30 : decode cX8_open 30 = .ok (.ldc 138, 2) := by decide +kernel
theorem dX8_open_32 : decode cX8_open 32 = .ok (.invokestatic 123, 3) := by decide +kernel
theorem dX8_open_35 : decode cX8_open 35 = .ok (.ifCond .eq 7, 3) := by decide +kernel
theorem dX8_open_38 : decode cX8_open 38 = .ok (.iconst 1, 1) := by decide +kernel
theorem dX8_open_39 : decode cX8_open 39 = .ok (.goto 4, 3) := by decide +kernel
theorem dX8_open_42 : decode cX8_open 42 = .ok (.iconst 0, 1) := by decide +kernel
theorem dX8_open_43 : decode cX8_open 43 = .ok (.istore 4, 2) := by decide +kernel
theorem dX8_open_45 : decode cX8_open 45 = .ok (.iload 4, 2) := by decide +kernel
theorem dX8_open_47 : decode cX8_open 47 = .ok (.ifCond .eq 21, 3) := by decide +kernel
theorem dX8_open_50 : decode cX8_open 50 = .ok (.aload_n 0, 1) := by decide +kernel
theorem dX8_open_51 : decode cX8_open 51 = .ok (.iload_n 1, 1) := by decide +kernel
theorem dX8_open_52 : decode cX8_open 52 = .ok (.iload_n 2, 1) := by decide +kernel
theorem dX8_open_53 : decode cX8_open 53 = .ok (.invokevirtual 139, 3) := by decide +kernel
theorem dX8_open_56 : decode cX8_open 56 = .ok (.ifCond .ge 12, 3) := by decide +kernel
theorem dX8_open_59 : decode cX8_open 59 = .ok (.aload_n 0, 1) := by decide +kernel
theorem dX8_open_60 : decode cX8_open 60 = .ok (.getfield 134, 3) := by decide +kernel
theorem dX8_open_63 : decode cX8_open 63 = .ok (.bipush 12, 2) := by decide +kernel
theorem dX8_open_65 : decode cX8_open 65 = .ok (.if_icmp .ne 5, 3) := by decide +kernel
theorem dX8_open_68 : decode cX8_open 68 = .ok (.iconst 0, 1) := by decide +kernel
theorem dX8_open_69 : decode cX8_open 69 = .ok (.ireturn, 1) := by decide +kernel
theorem dX8_open_70 : decode cX8_open 70 = .ok (.aload_n 0, 1) := by decide +kernel
theorem dX8_open_71 : decode cX8_open 71 = .ok (.getfield 17, 3) := by decide +kernel
theorem dX8_open_74 : decode cX8_open 74 = .ok (.aload_n 0, 1) := by decide +kernel
theorem dX8_open_75 : decode cX8_open 75 = .ok (.getfield 134, 3) := by decide +kernel
theorem dX8_open_78 : decode cX8_open 78 = .ok (.iload_n 1, 1) := by decide +kernel
theorem dX8_open_79 : decode cX8_open 79 = .ok (.iastore, 1) := by decide +kernel
theorem dX8_open_80 : decode cX8_open 80 = .ok (.aload_n 0, 1) := by decide +kernel
theorem dX8_open_81 : decode cX8_open 81 = .ok (.getfield 20, 3) := by decide +kernel
theorem dX8_open_84 : decode cX8_open 84 = .ok (.aload_n 0, 1) := by decide +kernel
theorem dX8_open_85 : decode cX8_open 85 = .ok (.getfield 134, 3) := by decide +kernel
theorem dX8_open_88 : decode cX8_open 88 = .ok (.iload_n 2, 1) := by decide +kernel
theorem dX8_open_89 : decode cX8_open 89 = .ok (.iastore, 1) := by decide +kernel
theorem dX8_open_90 : decode cX8_open 90 = .ok (.aload_n 0, 1) := by decide +kernel
theorem dX8_open_91 : decode cX8_open 91 = .ok (.getfield 23, 3) := by decide +kernel
theorem dX8_open_94 : decode cX8_open 94 = .ok (.aload_n 0, 1) := by decide +kernel
theorem dX8_open_95 : decode cX8_open 95 = .ok (.getfield 134, 3) := by decide +kernel
theorem dX8_open_98 : decode cX8_open 98 = .ok (.iload_n 3, 1) := by decide +kernel
theorem dX8_open_99 : decode cX8_open 99 = .ok (.i2l, 1) := by decide +kernel
theorem dX8_open_100 : decode cX8_open 100 = .ok (.lastore, 1) := by decide +kernel
theorem dX8_open_101 : decode cX8_open 101 = .ok (.aload_n 0, 1) := by decide +kernel
theorem dX8_open_102 : decode cX8_open 102 = .ok (.dup, 1) := by decide +kernel
theorem dX8_open_103 : decode cX8_open 103 = .ok (.getfield 134, 3) := by decide +kernel
theorem dX8_open_106 : decode cX8_open 106 = .ok (.iconst 1, 1) := by decide +kernel
theorem dX8_open_107 : decode cX8_open 107 = .ok (.iadd, 1) := by decide +kernel
theorem dX8_open_108 : decode cX8_open 108 = .ok (.putfield 134, 3) := by decide +kernel
theorem dX8_open_111 : decode cX8_open 111 = .ok (.iconst 1, 1) := by decide +kernel
theorem dX8_open_112 : decode cX8_open 112 = .ok (.ireturn, 1) := by decide +kernel
set_option maxRecDepth 20000 in
theorem ggX8_shut_X8_accountOf : GoodIn wsX8_shut wsX8_accountOf := goodIn_r _ [6, 7, 8, 9, 10, 11, 12, 13, 14, 15, 16, 17, 18, 19, 20, 21, 22, 23, 24, 25, 26, 27, 28, 29, 30, 31, 32, 33, 34, 35, 36, 37, 38, 39, 40, 41, 42, 43, 44, 45, 46, 47, 48, 49, 50, 51, 52, 53, 54, 55] (by decide +kernel) (by decide +kernel)
set_option maxRecDepth 20000 in
theorem gX8_shut_X8_accountOf : GoodIn wsX8_shut (wsV RX8 139 RX8 yX8_accountOf wsX8_accountOf) := goodIn_app (goodIn_of _ (by decide +kernel)) ggX8_shut_X8_accountOf
theorem dX8_shut_0 : decode cX8_shut 0 = .ok (.aload_n 0, 1) := by decide +kernel
theorem dX8_shut_1 : decode cX8_shut 1 = .ok (.iload_n 1, 1) := by decide +kernel
theorem dX8_shut_2 : decode cX8_shut 2 = .ok (.iload_n 2, 1) := by decide +kernel
theorem dX8_shut_3 : decode cX8_shut 3 = .ok (.invokevirtual 139, 3) := by decide +kernel
theorem dX8_shut_6 : decode cX8_shut 6 = .ok (.istore_n 3, 1) := by decide +kernel
theorem dX8_shut_7 : decode cX8_shut 7 = .ok (.iload_n 3, 1) := by decide +kernel
theorem dX8_shut_8 : decode cX8_shut 8 = .ok (.ifCond .lt 12, 3) := by decide +kernel
theorem dX8_shut_11 : decode cX8_shut 11 = .ok (.aload_n 0, 1) := by decide +kernel
theorem dX8_shut_12 : decode cX8_shut 12 = .ok (.getfield 26, 3) := by decide +kernel
theorem dX8_shut_15 : decode cX8_shut 15 = .ok (.iload_n 3, 1) := by decide +kernel
theorem dX8_shut_16 : decode cX8_shut 16 = .ok (.baload, 1) := by decide +kernel
theorem dX8_shut_17 : decode cX8_shut 17 = .ok (.ifCond .eq 5, 3) := by decide +kernel
theorem dX8_shut_20 : decode cX8_shut 20 = .ok (.iconst 0, 1) := by decide +kernel
theorem dX8_shut_21 : decode cX8_shut 21 = .ok (.ireturn, 1) := by decide +kernel
theorem dX8_shut_22 : decode cX8_shut 22 = .ok (.aload_n 0, 1) := by decide +kernel
theorem dX8_shut_23 : decode cX8_shut 23 = .ok (.getfield 26, 3) := by decide +kernel
theorem dX8_shut_26 : decode cX8_shut 26 = .ok (.iload_n 3, 1) := by decide +kernel
theorem dX8_shut_27 : decode cX8_shut 27 = .ok (.iconst 1, 1) := by decide +kernel
theorem dX8_shut_28 : decode cX8_shut 28 = .ok (.bastore, 1) := by decide +kernel
theorem dX8_shut_29 : decode cX8_shut 29 = .ok (.iconst 1, 1) := by decide +kernel
theorem dX8_shut_30 : decode cX8_shut 30 = .ok (.ireturn, 1) := by decide +kernel
theorem dX8_day_0 : decode cX8_day 0 = .ok (.aload_n 0, 1) := by decide +kernel
theorem dX8_day_1 : decode cX8_day 1 = .ok (.dup, 1) := by decide +kernel
theorem dX8_day_2 : decode cX8_day 2 = .ok (.getfield 143, 3) := by decide +kernel
theorem dX8_day_5 : decode cX8_day 5 = .ok (.iconst 1, 1) := by decide +kernel
theorem dX8_day_6 : decode cX8_day 6 = .ok (.iadd, 1) := by decide +kernel
theorem dX8_day_7 : decode cX8_day 7 = .ok (.putfield 143, 3) := by decide +kernel
theorem dX8_day_10 : decode cX8_day 10 = .ok (.aload_n 0, 1) := by decide +kernel
theorem dX8_day_11 : decode cX8_day 11 = .ok (.getfield 143, 3) := by decide +kernel
theorem dX8_day_14 : decode cX8_day 14 = .ok (.ireturn, 1) := by decide +kernel
set_option maxRecDepth 20000 in
theorem ggX8_put_X8_digits : GoodIn wsX8_put wsX8_digits := goodIn_r _ [14, 15] (by decide +kernel) (by decide +kernel)
set_option maxRecDepth 20000 in
theorem gX8_put_X8_digits : GoodIn wsX8_put (va_wsS RX8 148 yX8_digits wsX8_digits) := goodIn_app (goodIn_of _ (by decide +kernel)) ggX8_put_X8_digits
set_option maxRecDepth 20000 in
theorem ggX8_put_X8_batch : GoodIn wsX8_put wsX8_batch := goodIn_r _ [19, 5, 20, 21, 22, 2, 11, 12, 13, 14, 15, 87, 88, 89, 90, 91, 92, 93, 94, 95, 96, 97, 98, 99, 100, 101, 102, 103, 104, 105, 106, 107, 108, 109, 110, 111, 112, 113, 114, 115, 116, 117, 118, 119, 120, 121, 122, 123, 124, 125, 126, 127, 128, 129, 130, 131, 132] (by decide +kernel) (by decide +kernel)
set_option maxRecDepth 20000 in
theorem gX8_put_X8_batch : GoodIn wsX8_put (wsV RX8 167 RX8 yX8_batch wsX8_batch) := goodIn_app (goodIn_of _ (by decide +kernel)) ggX8_put_X8_batch
set_option maxRecDepth 20000 in
theorem ggX8_put_X8_entry : GoodIn wsX8_put wsX8_entry := goodIn_r _ [26, 6, 27, 5, 28, 29, 30, 31, 32, 2, 11, 12, 13, 14, 15, 87, 88, 89, 90, 91, 92, 93, 94, 95, 96, 97, 98, 99, 100, 101, 102, 103, 104, 105, 106, 107, 108, 109, 110, 111, 112, 113, 114, 115, 116, 117, 118, 119, 120, 121, 122, 123, 124, 125, 126, 127, 128, 129, 130, 131, 132] (by decide +kernel) (by decide +kernel)
set_option maxRecDepth 20000 in
theorem gX8_put_X8_entry : GoodIn wsX8_put (wsV RX8 171 RX8 yX8_entry wsX8_entry) := goodIn_app (goodIn_of _ (by decide +kernel)) ggX8_put_X8_entry
set_option maxRecDepth 20000 in
theorem ggX8_put_X8_ended : GoodIn wsX8_put wsX8_ended := goodIn_r _ [36, 37, 38, 39, 3, 4, 5, 6, 27, 40, 41, 42, 13, 43, 44, 45, 46, 47, 48, 49, 11, 12, 14, 15, 50, 51, 52, 53, 29, 28, 31, 54, 55, 56, 57, 58, 59, 60, 61, 62, 63, 64, 65, 66, 67, 20, 21, 22, 68, 7, 8, 9, 10, 32, 69, 70, 71, 72, 73, 74, 75, 76, 77, 78, 79, 80, 81, 82, 83, 30, 84, 85, 86, 87, 88, 89, 90, 91, 92, 93, 94, 95, 96, 97, 98, 99, 100, 101, 102, 103, 104, 105, 106, 107, 108, 109, 110, 111, 112, 113, 114, 115, 116, 117, 118, 119, 120, 121, 122, 123, 124, 125, 126, 127, 128, 129, 130, 131, 132] (by decide +kernel) (by decide +kernel)
set_option maxRecDepth 20000 in
theorem gX8_put_X8_ended : GoodIn wsX8_put (wsV RX8 175 RX8 yX8_ended wsX8_ended) := goodIn_app (goodIn_of _ (by decide +kernel)) ggX8_put_X8_ended
theorem dX8_put_0 : decode cX8_put 0 = .ok (.ldc2_w 146, 3) := by decide +kernel
theorem dX8_put_3 : decode cX8_put 3 = .ok (.lstore 5, 2) := by decide +kernel
theorem dX8_put_5 : decode cX8_put 5 = .ok (.lload_n 1, 1) := by decide +kernel
theorem dX8_put_6 : decode cX8_put 6 = .ok (.lconst 0, 1) := by decide +kernel
theorem dX8_put_7 : decode cX8_put 7 = .ok (.lcmp, 1) := by decide +kernel
theorem dX8_put_8 : decode cX8_put 8 = .ok (.ifCond .lt 23, 3) := by decide +kernel
theorem dX8_put_11 : decode cX8_put 11 = .ok (.lload_n 1, 1) := by decide +kernel
theorem dX8_put_12 : decode cX8_put 12 = .ok (.lload 5, 2) := by decide +kernel
theorem dX8_put_14 : decode cX8_put 14 = .ok (.lcmp, 1) := by decide +kernel
theorem dX8_put_15 : decode cX8_put 15 = .ok (.ifCond .gt 16, 3) := by decide +kernel
theorem dX8_put_18 : decode cX8_put 18 = .ok (.lload_n 3, 1) := by decide +kernel
theorem dX8_put_19 : decode cX8_put 19 = .ok (.lconst 0, 1) := by decide +kernel
theorem dX8_put_20 : decode cX8_put 20 = .ok (.lcmp, 1) := by decide +kernel
theorem dX8_put_21 : decode cX8_put 21 = .ok (.ifCond .lt 10, 3) := by decide +kernel
theorem dX8_put_24 : decode cX8_put 24 = .ok (.lload_n 3, 1) := by decide +kernel
theorem dX8_put_25 : decode cX8_put 25 = .ok (.lload 5, 2) := by decide +kernel
theorem dX8_put_27 : decode cX8_put 27 = .ok (.lcmp, 1) := by decide +kernel
theorem dX8_put_28 : decode cX8_put 28 = .ok (.ifCond .le 5, 3) := by decide +kernel
theorem dX8_put_31 : decode cX8_put 31 = .ok (.iconst (-1), 1) := by decide +kernel
theorem dX8_put_32 : decode cX8_put 32 = .ok (.ireturn, 1) := by decide +kernel
theorem dX8_put_33 : decode cX8_put 33 = .ok (.lload_n 1, 1) := by decide +kernel
theorem dX8_put_34 : decode cX8_put 34 = .ok (.iconst 0, 1) := by decide +kernel
theorem dX8_put_35 : decode cX8_put 35 = .ok (.iconst 1, 1) := by decide +kernel
theorem dX8_put_36 : decode cX8_put 36 = .ok (.invokestatic 148, 3) := by decide +kernel
theorem dX8_put_39 : decode cX8_put 39 = .ok (.istore 7, 2) := by decide +kernel
theorem dX8_put_41 : decode cX8_put 41 = .ok (.aload_n 0, 1) := by decide +kernel
theorem dX8_put_42 : decode cX8_put 42 = .ok (.getfield 152, 3) := by decide +kernel
theorem dX8_put_45 : decode cX8_put 45 = .ok (.istore 8, 2) := by decide +kernel
theorem dX8_put_47 : decode cX8_put 47 = .ok (.aload_n 0, 1) := by decide +kernel
theorem dX8_put_48 : decode cX8_put 48 = .ok (.iconst 0, 1) := by decide +kernel
theorem dX8_put_49 : decode cX8_put 49 = .ok (.putfield 152, 3) := by decide +kernel
theorem dX8_put_52 : decode cX8_put 52 = .ok (.iload 7, 2) := by decide +kernel
theorem dX8_put_54 : decode cX8_put 54 = .ok (.iconst 1, 1) := by decide +kernel
theorem dX8_put_55 : decode cX8_put 55 = .ok (.if_icmp .ne 45, 3) := by decide +kernel
theorem dX8_put_58 : decode cX8_put 58 = .ok (.iload 8, 2) := by decide +kernel
theorem dX8_put_60 : decode cX8_put 60 = .ok (.ifCond .ne 40, 3) := by decide +kernel
theorem dX8_put_63 : decode cX8_put 63 = .ok (.aload_n 0, 1) := by decide +kernel
theorem dX8_put_64 : decode cX8_put 64 = .ok (.lload_n 1, 1) := by decide +kernel
theorem dX8_put_65 : decode cX8_put 65 = .ok (.iconst 1, 1) := by decide +kernel
theorem dX8_put_66 : decode cX8_put 66 = .ok (.iconst 4, 1) := by decide +kernel
theorem dX8_put_67 : decode cX8_put 67 = .ok (.invokestatic 148, 3) := by decide +kernel
theorem dX8_put_70 : decode cX8_put 70 = .ok (.putfield 155, 3) := by decide +kernel
theorem dX8_put_73 : decode cX8_put 73 = .ok (.aload_n 0, 1) := by decide +kernel
theorem dX8_put_74 : decode cX8_put 74 = .ok (.lload_n 1, 1) := by decide +kernel
theorem dX8_put_75 : decode cX8_put 75 = .ok (.iconst 5, 1) := by decide +kernel
theorem dX8_put_76 : decode cX8_put 76 = .ok (.iconst 4, 1) := by decide +kernel
theorem dX8_put_77 : decode cX8_put 77 = .ok (.invokestatic 148, 3) := by decide +kernel
theorem dX8_put_80 : decode cX8_put 80 = .ok (.putfield 158, 3) := by decide +kernel
theorem dX8_put_83 : decode cX8_put 83 = .ok (.aload_n 0, 1) := by decide +kernel
theorem dX8_put_84 : decode cX8_put 84 = .ok (.iconst 0, 1) := by decide +kernel
theorem dX8_put_85 : decode cX8_put 85 = .ok (.putfield 161, 3) := by decide +kernel
theorem dX8_put_88 : decode cX8_put 88 = .ok (.aload_n 0, 1) := by decide +kernel
theorem dX8_put_89 : decode cX8_put 89 = .ok (.iconst 0, 1) := by decide +kernel
theorem dX8_put_90 : decode cX8_put 90 = .ok (.putfield 164, 3) := by decide +kernel
theorem dX8_put_93 : decode cX8_put 93 = .ok (.aload_n 0, 1) := by decide +kernel
theorem dX8_put_94 : decode cX8_put 94 = .ok (.iconst 1, 1) := by decide +kernel
theorem dX8_put_95 : decode cX8_put 95 = .ok (.putfield 152, 3) := by decide +kernel
theorem dX8_put_98 : decode cX8_put 98 = .ok (.iconst 0, 1) := by decide +kernel
theorem dX8_put_99 : decode cX8_put 99 = .ok (.ireturn, 1) := by decide +kernel
theorem dX8_put_100 : decode cX8_put 100 = .ok (.iload 7, 2) := by decide +kernel
theorem dX8_put_102 : decode cX8_put 102 = .ok (.iconst 5, 1) := by decide +kernel
theorem dX8_put_103 : decode cX8_put 103 = .ok (.if_icmp .ne 15, 3) := by decide +kernel
theorem dX8_put_106 : decode cX8_put 106 = .ok (.iload 8, 2) := by decide +kernel
theorem dX8_put_108 : decode cX8_put 108 = .ok (.iconst 1, 1) := by decide +kernel
theorem dX8_put_109 : decode cX8_put 109 = .ok (.if_icmp .ne 9, 3) := by decide +kernel
theorem dX8_put_112 : decode cX8_put 112 = .ok (.aload_n 0, 1) := by decide +kernel
theorem dX8_put_113 : decode cX8_put 113 = .ok (.lload_n 1, 1) := by decide +kernel
theorem dX8_put_114 : decode cX8_put 114 = .ok (.invokevirtual 167, 3) := by decide +kernel
theorem dX8_put_117 : decode cX8_put 117 = .ok (.ireturn, 1) := by decide +kernel
theorem dX8_put_118 : decode cX8_put 118 = .ok (.iload 7, 2) := by decide +kernel
theorem dX8_put_120 : decode cX8_put 120 = .ok (.bipush 6, 2) := by decide +kernel
theorem dX8_put_122 : decode cX8_put 122 = .ok (.if_icmp .ne 16, 3) := by decide +kernel
theorem dX8_put_125 : decode cX8_put 125 = .ok (.iload 8, 2) := by decide +kernel
theorem dX8_put_127 : decode cX8_put 127 = .ok (.iconst 2, 1) := by decide +kernel
theorem dX8_put_128 : decode cX8_put 128 = .ok (.if_icmp .ne 10, 3) := by decide +kernel
theorem dX8_put_131 : decode cX8_put 131 = .ok (.aload_n 0, 1) := by decide +kernel
theorem dX8_put_132 : decode cX8_put 132 = .ok (.lload_n 1, 1) := by decide +kernel
theorem dX8_put_133 : decode cX8_put 133 = .ok (.lload_n 3, 1) := by decide +kernel
theorem dX8_put_134 : decode cX8_put 134 = .ok (.invokevirtual 171, 3) := by decide +kernel
theorem dX8_put_137 : decode cX8_put 137 = .ok (.ireturn, 1) := by decide +kernel
theorem dX8_put_138 : decode cX8_put 138 = .ok (.iload 7, 2) := by decide +kernel
theorem dX8_put_140 : decode cX8_put 140 = .ok (.bipush 8, 2) := by decide +kernel
theorem dX8_put_142 : decode cX8_put 142 = .ok (.if_icmp .ne 80, 3) := by decide +kernel
theorem dX8_put_145 : decode cX8_put 145 = .ok (.iload 8, 2) := by decide +kernel
theorem dX8_put_147 : decode cX8_put 147 = .ok (.iconst 2, 1) := by decide +kernel
theorem dX8_put_148 : decode cX8_put 148 = .ok (.if_icmp .ne 74, 3) := by decide +kernel
theorem dX8_put_151 : decode cX8_put 151 = .ok (.aload_n 0, 1) := by decide +kernel
theorem dX8_put_152 : decode cX8_put 152 = .ok (.getfield 161, 3) := by decide +kernel
theorem dX8_put_155 : decode cX8_put 155 = .ok (.iconst 1, 1) := by decide +kernel
theorem dX8_put_156 : decode cX8_put 156 = .ok (.isub, 1) := by decide +kernel
theorem dX8_put_157 : decode cX8_put 157 = .ok (.istore 9, 2) := by decide +kernel
theorem dX8_put_159 : decode cX8_put 159 = .ok (.aload_n 0, 1) := by decide +kernel
theorem dX8_put_160 : decode cX8_put 160 = .ok (.getfield 39, 3) := by decide +kernel
theorem dX8_put_163 : decode cX8_put 163 = .ok (.iload 9, 2) := by decide +kernel
theorem dX8_put_165 : decode cX8_put 165 = .ok (.lload_n 1, 1) := by decide +kernel
theorem dX8_put_166 : decode cX8_put 166 = .ok (.iconst 1, 1) := by decide +kernel
theorem dX8_put_167 : decode cX8_put 167 = .ok (.iconst 4, 1) := by decide +kernel
theorem dX8_put_168 : decode cX8_put 168 = .ok (.invokestatic 148, 3) := by decide +kernel
theorem dX8_put_171 : decode cX8_put 171 = .ok (.iastore, 1) := by decide +kernel
theorem dX8_put_172 : decode cX8_put 172 = .ok (.aload_n 0, 1) := by decide +kernel
theorem dX8_put_173 : decode cX8_put 173 = .ok (.getfield 42, 3) := by decide +kernel
theorem dX8_put_176 : decode cX8_put 176 = .ok (.iload 9, 2) := by decide +kernel
theorem dX8_put_178 : decode cX8_put 178 = .ok (.lload_n 1, 1) := by decide +kernel
theorem dX8_put_179 : decode cX8_put 179 = .ok (.iconst 5, 1) := by decide +kernel
theorem dX8_put_180 : decode cX8_put 180 = .ok (.bipush 6, 2) := by decide +kernel
theorem dX8_put_182 : decode cX8_put 182 = .ok (.invokestatic 148, 3) := by decide +kernel
theorem dX8_put_185 : decode cX8_put 185 = .ok (.iastore, 1) := by decide +kernel
theorem dX8_put_186 : decode cX8_put 186 = .ok (.aload_n 0, 1) := by decide +kernel
theorem dX8_put_187 : decode cX8_put 187 = .ok (.getfield 45, 3) := by decide +kernel
theorem dX8_put_190 : decode cX8_put 190 = .ok (.iload 9, 2) := by decide +kernel
theorem dX8_put_192 : decode cX8_put 192 = .ok (.lload_n 3, 1) := by decide +kernel
theorem dX8_put_193 : decode cX8_put 193 = .ok (.iconst 0, 1) := by decide +kernel
theorem dX8_put_194 : decode cX8_put 194 = .ok (.bipush 9, 2) := by decide +kernel
theorem dX8_put_196 : decode cX8_put 196 = .ok (.invokestatic 148, 3) := by decide +kernel
theorem dX8_put_199 : decode cX8_put 199 = .ok (.iastore, 1) := by decide +kernel
theorem dX8_put_200 : decode cX8_put 200 = .ok (.aload_n 0, 1) := by decide +kernel
theorem dX8_put_201 : decode cX8_put 201 = .ok (.getfield 48, 3) := by decide +kernel
theorem dX8_put_204 : decode cX8_put 204 = .ok (.iload 9, 2) := by decide +kernel
theorem dX8_put_206 : decode cX8_put 206 = .ok (.lload_n 3, 1) := by decide +kernel
theorem dX8_put_207 : decode cX8_put 207 = .ok (.bipush 9, 2) := by decide +kernel
theorem dX8_put_209 : decode cX8_put 209 = .ok (.bipush 9, 2) := by decide +kernel
theorem dX8_put_211 : decode cX8_put 211 = .ok (.invokestatic 148, 3) := by decide +kernel
theorem dX8_put_214 : decode cX8_put 214 = .ok (.iastore, 1) := by decide +kernel
theorem dX8_put_215 : decode cX8_put 215 = .ok (.aload_n 0, 1) := by decide +kernel
theorem dX8_put_216 : decode cX8_put 216 = .ok (.iconst 1, 1) := by decide +kernel
theorem dX8_put_217 : decode cX8_put 217 = .ok (.putfield 152, 3) := by decide +kernel
theorem dX8_put_220 : decode cX8_put 220 = .ok (.iconst 0, 1) := by decide +kernel
theorem dX8_put_221 : decode cX8_put 221 = .ok (.ireturn, 1) := by decide +kernel
theorem dX8_put_222 : decode cX8_put 222 = .ok (.iload 7, 2) := by decide +kernel
theorem dX8_put_224 : decode cX8_put 224 = .ok (.bipush 9, 2) := by decide +kernel
theorem dX8_put_226 : decode cX8_put 226 = .ok (.if_icmp .ne 18, 3) := by decide +kernel
theorem dX8_put_229 : decode cX8_put 229 = .ok (.iload 8, 2) := by decide +kernel
theorem dX8_put_231 : decode cX8_put 231 = .ok (.iconst 1, 1) := by decide +kernel
theorem dX8_put_232 : decode cX8_put 232 = .ok (.if_icmp .ne 12, 3) := by decide +kernel
theorem dX8_put_235 : decode cX8_put 235 = .ok (.aload_n 0, 1) := by decide +kernel
theorem dX8_put_236 : decode cX8_put 236 = .ok (.lload_n 1, 1) := by decide +kernel
theorem dX8_put_237 : decode cX8_put 237 = .ok (.lload_n 3, 1) := by decide +kernel
theorem dX8_put_238 : decode cX8_put 238 = .ok (.invokevirtual 175, 3) := by decide +kernel
theorem dX8_put_241 : decode cX8_put 241 = .ok (.goto 5, 3) := by decide +kernel
theorem dX8_put_244 : decode cX8_put 244 = .ok (.bipush (-2), 2) := by decide +kernel
theorem dX8_put_246 : decode cX8_put 246 = .ok (.ireturn, 1) := by decide +kernel
set_option maxRecDepth 20000 in
theorem ggX8_batch_X8_digits : GoodIn wsX8_batch wsX8_digits := goodIn_r _ [9, 10] (by decide +kernel) (by decide +kernel)
set_option maxRecDepth 20000 in
theorem gX8_batch_X8_digits : GoodIn wsX8_batch (va_wsS RX8 148 yX8_digits wsX8_digits) := goodIn_app (goodIn_of _ (by decide +kernel)) ggX8_batch_X8_digits
theorem dX8_batch_0 : decode cX8_batch 0 = .ok (.aload_n 0, 1) := by decide +kernel
theorem dX8_batch_1 : decode cX8_batch 1 = .ok (.getfield 161, 3) := by decide +kernel
theorem dX8_batch_4 : decode cX8_batch 4 = .ok (.iconst 4, 1) := by decide +kernel
theorem dX8_batch_5 : decode cX8_batch 5 = .ok (.if_icmp .ne 6, 3) := by decide +kernel
theorem dX8_batch_8 : decode cX8_batch 8 = .ok (.bipush (-3), 2) := by decide +kernel
theorem dX8_batch_10 : decode cX8_batch 10 = .ok (.ireturn, 1) := by decide +kernel
theorem dX8_batch_11 : decode cX8_batch 11 = .ok (.aload_n 0, 1) := by decide +kernel
theorem dX8_batch_12 : decode cX8_batch 12 = .ok (.getfield 30, 3) := by decide +kernel
theorem dX8_batch_15 : decode cX8_batch 15 = .ok (.aload_n 0, 1) := by decide +kernel
theorem dX8_batch_16 : decode cX8_batch 16 = .ok (.getfield 161, 3) := by decide +kernel
theorem dX8_batch_19 : decode cX8_batch 19 = .ok (.lload_n 1, 1) := by decide +kernel
theorem dX8_batch_20 : decode cX8_batch 20 = .ok (.iconst 1, 1) := by decide +kernel
theorem dX8_batch_21 : decode cX8_batch 21 = .ok (.iconst 4, 1) := by decide +kernel
theorem dX8_batch_22 : decode cX8_batch 22 = .ok (.invokestatic 148, 3) := by decide +kernel
theorem dX8_batch_25 : decode cX8_batch 25 = .ok (.iastore, 1) := by decide +kernel
theorem dX8_batch_26 : decode cX8_batch 26 = .ok (.aload_n 0, 1) := by decide +kernel
theorem dX8_batch_27 : decode cX8_batch 27 = .ok (.getfield 33, 3) := by decide +kernel
theorem dX8_batch_30 : decode cX8_batch 30 = .ok (.aload_n 0, 1) := by decide +kernel
theorem dX8_batch_31 : decode cX8_batch 31 = .ok (.getfield 161, 3) := by decide +kernel
theorem dX8_batch_34 : decode cX8_batch 34 = .ok (.lload_n 1, 1) := by decide +kernel
theorem dX8_batch_35 : decode cX8_batch 35 = .ok (.iconst 5, 1) := by decide +kernel
theorem dX8_batch_36 : decode cX8_batch 36 = .ok (.iconst 4, 1) := by decide +kernel
theorem dX8_batch_37 : decode cX8_batch 37 = .ok (.invokestatic 148, 3) := by decide +kernel
theorem dX8_batch_40 : decode cX8_batch 40 = .ok (.iastore, 1) := by decide +kernel
theorem dX8_batch_41 : decode cX8_batch 41 = .ok (.aload_n 0, 1) := by decide +kernel
theorem dX8_batch_42 : decode cX8_batch 42 = .ok (.getfield 36, 3) := by decide +kernel
theorem dX8_batch_45 : decode cX8_batch 45 = .ok (.aload_n 0, 1) := by decide +kernel
theorem dX8_batch_46 : decode cX8_batch 46 = .ok (.getfield 161, 3) := by decide +kernel
theorem dX8_batch_49 : decode cX8_batch 49 = .ok (.lload_n 1, 1) := by decide +kernel
theorem dX8_batch_50 : decode cX8_batch 50 = .ok (.bipush 9, 2) := by decide +kernel
theorem dX8_batch_52 : decode cX8_batch 52 = .ok (.iconst 4, 1) := by decide +kernel
theorem dX8_batch_53 : decode cX8_batch 53 = .ok (.invokestatic 148, 3) := by decide +kernel
theorem dX8_batch_56 : decode cX8_batch 56 = .ok (.iastore, 1) := by decide +kernel
theorem dX8_batch_57 : decode cX8_batch 57 = .ok (.aload_n 0, 1) := by decide +kernel
theorem dX8_batch_58 : decode cX8_batch 58 = .ok (.dup, 1) := by decide +kernel
theorem dX8_batch_59 : decode cX8_batch 59 = .ok (.getfield 161, 3) := by decide +kernel
theorem dX8_batch_62 : decode cX8_batch 62 = .ok (.iconst 1, 1) := by decide +kernel
theorem dX8_batch_63 : decode cX8_batch 63 = .ok (.iadd, 1) := by decide +kernel
theorem dX8_batch_64 : decode cX8_batch 64 = .ok (.putfield 161, 3) := by decide +kernel
theorem dX8_batch_67 : decode cX8_batch 67 = .ok (.aload_n 0, 1) := by decide +kernel
theorem dX8_batch_68 : decode cX8_batch 68 = .ok (.iconst 2, 1) := by decide +kernel
theorem dX8_batch_69 : decode cX8_batch 69 = .ok (.putfield 152, 3) := by decide +kernel
theorem dX8_batch_72 : decode cX8_batch 72 = .ok (.iconst 0, 1) := by decide +kernel
theorem dX8_batch_73 : decode cX8_batch 73 = .ok (.ireturn, 1) := by decide +kernel
set_option maxRecDepth 20000 in
theorem ggX8_entry_X8_digits : GoodIn wsX8_entry wsX8_digits := goodIn_r _ [13, 14] (by decide +kernel) (by decide +kernel)
set_option maxRecDepth 20000 in
theorem gX8_entry_X8_digits : GoodIn wsX8_entry (va_wsS RX8 148 yX8_digits wsX8_digits) := goodIn_app (goodIn_of _ (by decide +kernel)) ggX8_entry_X8_digits
theorem dX8_entry_0 : decode cX8_entry 0 = .ok (.aload_n 0, 1) := by decide +kernel
theorem dX8_entry_1 : decode cX8_entry 1 = .ok (.getfield 164, 3) := by decide +kernel
theorem dX8_entry_4 : decode cX8_entry 4 = .ok (.bipush 20, 2) := by decide +kernel
theorem dX8_entry_6 : decode cX8_entry 6 = .ok (.if_icmp .ne 6, 3) := by decide +kernel
theorem dX8_entry_9 : decode cX8_entry 9 = .ok (.bipush (-3), 2) := by decide +kernel
theorem dX8_entry_11 : decode cX8_entry 11 = .ok (.ireturn, 1) := by decide +kernel
theorem dX8_entry_12 : decode cX8_entry 12 = .ok (.aload_n 0, 1) := by decide +kernel
theorem dX8_entry_13 : decode cX8_entry 13 = .ok (.getfield 51, 3) := by decide +kernel
theorem dX8_entry_16 : decode cX8_entry 16 = .ok (.aload_n 0, 1) := by decide +kernel
theorem dX8_entry_17 : decode cX8_entry 17 = .ok (.getfield 164, 3) := by decide +kernel
theorem dX8_entry_20 : decode cX8_entry 20 = .ok (.aload_n 0, 1) := by decide +kernel
theorem dX8_entry_21 : decode cX8_entry 21 = .ok (.getfield 161, 3) := by decide +kernel
theorem dX8_entry_24 : decode cX8_entry 24 = .ok (.iconst 1, 1) := by decide +kernel
theorem dX8_entry_25 : decode cX8_entry 25 = .ok (.isub, 1) := by decide +kernel
theorem dX8_entry_26 : decode cX8_entry 26 = .ok (.iastore, 1) := by decide +kernel
theorem dX8_entry_27 : decode cX8_entry 27 = .ok (.aload_n 0, 1) := by decide +kernel
theorem dX8_entry_28 : decode cX8_entry 28 = .ok (.getfield 54, 3) := by decide +kernel
theorem dX8_entry_31 : decode cX8_entry 31 = .ok (.aload_n 0, 1) := by decide +kernel
theorem dX8_entry_32 : decode cX8_entry 32 = .ok (.getfield 164, 3) := by decide +kernel
theorem dX8_entry_35 : decode cX8_entry 35 = .ok (.lload_n 1, 1) := by decide +kernel
theorem dX8_entry_36 : decode cX8_entry 36 = .ok (.iconst 1, 1) := by decide +kernel
theorem dX8_entry_37 : decode cX8_entry 37 = .ok (.iconst 1, 1) := by decide +kernel
theorem dX8_entry_38 : decode cX8_entry 38 = .ok (.invokestatic 148, 3) := by decide +kernel
theorem dX8_entry_41 : decode cX8_entry 41 = .ok (.iastore, 1) := by decide +kernel
theorem dX8_entry_42 : decode cX8_entry 42 = .ok (.aload_n 0, 1) := by decide +kernel
theorem dX8_entry_43 : decode cX8_entry 43 = .ok (.getfield 57, 3) := by decide +kernel
theorem dX8_entry_46 : decode cX8_entry 46 = .ok (.aload_n 0, 1) := by decide +kernel
theorem dX8_entry_47 : decode cX8_entry 47 = .ok (.getfield 164, 3) := by decide +kernel
theorem dX8_entry_50 : decode cX8_entry 50 = .ok (.lload_n 1, 1) := by decide +kernel
theorem dX8_entry_51 : decode cX8_entry 51 = .ok (.iconst 2, 1) := by decide +kernel
theorem dX8_entry_52 : decode cX8_entry 52 = .ok (.iconst 4, 1) := by decide +kernel
theorem dX8_entry_53 : decode cX8_entry 53 = .ok (.invokestatic 148, 3) := by decide +kernel
theorem dX8_entry_56 : decode cX8_entry 56 = .ok (.iastore, 1) := by decide +kernel
theorem dX8_entry_57 : decode cX8_entry 57 = .ok (.aload_n 0, 1) := by decide +kernel
theorem dX8_entry_58 : decode cX8_entry 58 = .ok (.getfield 60, 3) := by decide +kernel
theorem dX8_entry_61 : decode cX8_entry 61 = .ok (.aload_n 0, 1) := by decide +kernel
theorem dX8_entry_62 : decode cX8_entry 62 = .ok (.getfield 164, 3) := by decide +kernel
