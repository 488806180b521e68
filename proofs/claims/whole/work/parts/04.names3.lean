theorem dX7_item_35 : decode cX7_item 35 = .ok (.getfield 144, 3) := by decide +kernel
theorem dX7_item_38 : decode cX7_item 38 = .ok (.iload_n 2, 1) := by decide +kernel
theorem dX7_item_39 : decode cX7_item 39 = .ok (.invokevirtual 147, 3) := by decide +kernel
theorem dX7_item_42 : decode cX7_item 42 = .ok (.checkcast 151, 3) := by decide +kernel
theorem dX7_item_45 : decode cX7_item 45 = .ok (.astore 5, 2) := by decide +kernel
theorem dX7_item_47 : decode cX7_item 47 = .ok (.aload 4, 2) := by decide +kernel
theorem dX7_item_49 : decode cX7_item 49 = .ok (.getfield 111, 3) := by decide +kernel
theorem dX7_item_52 : decode cX7_item 52 = .ok (.iload_n 2, 1) := by decide +kernel
theorem dX7_item_53 : decode cX7_item 53 = .ok (.invokevirtual 141, 3) := by decide +kernel
theorem dX7_item_56 : decode cX7_item 56 = .ok (.istore 6, 2) := by decide +kernel
theorem dX7_item_58 : decode cX7_item 58 = .ok (.iload_n 3, 1) := by decide +kernel
theorem dX7_item_59 : decode cX7_item 59 = .ok (.tableswitch 115 0 6 #[41, 47, 72, 78, 84, 90, 105], 41) := by decide +kernel
theorem dX7_item_100 : decode cX7_item 100 = .ok (.aload 5, 2) := by decide +kernel
theorem dX7_item_102 : decode cX7_item 102 = .ok (.getfield 157, 3) := by decide +kernel
theorem dX7_item_105 : decode cX7_item 105 = .ok (.ireturn, 1) := by decide +kernel
theorem dX7_item_106 : decode cX7_item 106 = .ok (.iload 6, 2) := by decide +kernel
theorem dX7_item_108 : decode cX7_item 108 = .ok (.ifCond .eq 14, 3) := by decide +kernel
theorem dX7_item_111 : decode cX7_item 111 = .ok (.aload 5, 2) := by decide +kernel
theorem dX7_item_113 : decode cX7_item 113 = .ok (.getfield 160, 3) := by decide +kernel
theorem dX7_item_116 : decode cX7_item 116 = .ok (.getfield 164, 3) := by decide +kernel
theorem dX7_item_119 : decode cX7_item 119 = .ok (.goto 11, 3) := by decide +kernel
theorem dX7_item_122 : decode cX7_item 122 = .ok (.aload 5, 2) := by decide +kernel
theorem dX7_item_124 : decode cX7_item 124 = .ok (.getfield 167, 3) := by decide +kernel
theorem dX7_item_127 : decode cX7_item 127 = .ok (.getfield 164, 3) := by decide +kernel
theorem dX7_item_130 : decode cX7_item 130 = .ok (.ireturn, 1) := by decide +kernel
theorem dX7_item_131 : decode cX7_item 131 = .ok (.aload 5, 2) := by decide +kernel
theorem dX7_item_133 : decode cX7_item 133 = .ok (.getfield 170, 3) := by decide +kernel
theorem dX7_item_136 : decode cX7_item 136 = .ok (.ireturn, 1) := by decide +kernel
theorem dX7_item_137 : decode cX7_item 137 = .ok (.aload 5, 2) := by decide +kernel
theorem dX7_item_139 : decode cX7_item 139 = .ok (.getfield 173, 3) := by decide +kernel
theorem dX7_item_142 : decode cX7_item 142 = .ok (.ireturn, 1) := by decide +kernel
theorem dX7_item_143 : decode cX7_item 143 = .ok (.aload 5, 2) := by decide +kernel
theorem dX7_item_145 : decode cX7_item 145 = .ok (.getfield 176, 3) := by decide +kernel
theorem dX7_item_148 : decode cX7_item 148 = .ok (.ireturn, 1) := by decide +kernel
theorem dX7_item_149 : decode cX7_item 149 = .ok (.iload 6, 2) := by decide +kernel
theorem dX7_item_151 : decode cX7_item 151 = .ok (.ifCond .eq 11, 3) := by decide +kernel
theorem dX7_item_154 : decode cX7_item 154 = .ok (.aload 5, 2) := by decide +kernel
theorem dX7_item_156 : decode cX7_item 156 = .ok (.getfield 179, 3) := by decide +kernel
theorem dX7_item_159 : decode cX7_item 159 = .ok (.goto 4, 3) := by decide +kernel
theorem dX7_item_162 : decode cX7_item 162 = .ok (.iconst 0, 1) := by decide +kernel
theorem dX7_item_163 : decode cX7_item 163 = .ok (.ireturn, 1) := by decide +kernel
theorem dX7_item_164 : decode cX7_item 164 = .ok (.aload 4, 2) := by decide +kernel
theorem dX7_item_166 : decode cX7_item 166 = .ok (.getfield 111, 3) := by decide +kernel
theorem dX7_item_169 : decode cX7_item 169 = .ok (.iload_n 2, 1) := by decide +kernel
theorem dX7_item_170 : decode cX7_item 170 = .ok (.invokevirtual 182, 3) := by decide +kernel
theorem dX7_item_173 : decode cX7_item 173 = .ok (.ireturn, 1) := by decide +kernel
theorem dX7_item_174 : decode cX7_item 174 = .ok (.iconst (-1), 1) := by decide +kernel
theorem dX7_item_175 : decode cX7_item 175 = .ok (.ireturn, 1) := by decide +kernel
set_option maxRecDepth 20000 in
theorem ggX7_control_X7_bankAt : GoodIn wsX7_control wsX7_bankAt := goodIn_r _ [12, 13, 14, 15, 16, 17, 18, 19, 20, 21, 22, 23, 24, 25, 26, 27, 28, 29, 30, 31, 32, 33, 34, 35, 36, 37, 52, 53, 54, 55, 56, 57, 58, 59, 60, 61] (by decide +kernel) (by decide +kernel)
set_option maxRecDepth 20000 in
theorem gX7_control_X7_bankAt : GoodIn wsX7_control (wsV RX7 61 RX7 yX7_bankAt wsX7_bankAt) := goodIn_app (goodIn_of _ (by decide +kernel)) ggX7_control_X7_bankAt
theorem dX7_control_0 : decode cX7_control 0 = .ok (.aload_n 0, 1) := by decide +kernel
theorem dX7_control_1 : decode cX7_control 1 = .ok (.iload_n 1, 1) := by decide +kernel
theorem dX7_control_2 : decode cX7_control 2 = .ok (.invokevirtual 61, 3) := by decide +kernel
theorem dX7_control_5 : decode cX7_control 5 = .ok (.astore_n 3, 1) := by decide +kernel
theorem dX7_control_6 : decode cX7_control 6 = .ok (.aload_n 3, 1) := by decide +kernel
theorem dX7_control_7 : decode cX7_control 7 = .ok (.ifnonnull 7, 3) := by decide +kernel
theorem dX7_control_10 : decode cX7_control 10 = .ok (.ldc2_w 186, 3) := by decide +kernel
theorem dX7_control_13 : decode cX7_control 13 = .ok (.lreturn, 1) := by decide +kernel
theorem dX7_control_14 : decode cX7_control 14 = .ok (.aload_n 3, 1) := by decide +kernel
theorem dX7_control_15 : decode cX7_control 15 = .ok (.getfield 111, 3) := by decide +kernel
theorem dX7_control_18 : decode cX7_control 18 = .ok (.getfield 188, 3) := by decide +kernel
theorem dX7_control_21 : decode cX7_control 21 = .ok (.astore 4, 2) := by decide +kernel
theorem dX7_control_23 : decode cX7_control 23 = .ok (.iload_n 2, 1) := by decide +kernel
theorem dX7_control_24 : decode cX7_control 24 = .ok (.tableswitch 56 0 3 #[32, 38, 44, 50], 32) := by decide +kernel
theorem dX7_control_56 : decode cX7_control 56 = .ok (.aload 4, 2) := by decide +kernel
theorem dX7_control_58 : decode cX7_control 58 = .ok (.getfield 192, 3) := by decide +kernel
theorem dX7_control_61 : decode cX7_control 61 = .ok (.lreturn, 1) := by decide +kernel
theorem dX7_control_62 : decode cX7_control 62 = .ok (.aload 4, 2) := by decide +kernel
theorem dX7_control_64 : decode cX7_control 64 = .ok (.getfield 198, 3) := by decide +kernel
theorem dX7_control_67 : decode cX7_control 67 = .ok (.lreturn, 1) := by decide +kernel
theorem dX7_control_68 : decode cX7_control 68 = .ok (.aload 4, 2) := by decide +kernel
theorem dX7_control_70 : decode cX7_control 70 = .ok (.getfield 201, 3) := by decide +kernel
theorem dX7_control_73 : decode cX7_control 73 = .ok (.lreturn, 1) := by decide +kernel
theorem dX7_control_74 : decode cX7_control 74 = .ok (.aload 4, 2) := by decide +kernel
theorem dX7_control_76 : decode cX7_control 76 = .ok (.getfield 204, 3) := by decide +kernel
theorem dX7_control_79 : decode cX7_control 79 = .ok (.lreturn, 1) := by decide +kernel
theorem dX7_control_80 : decode cX7_control 80 = .ok (.ldc2_w 186, 3) := by decide +kernel
theorem dX7_control_83 : decode cX7_control 83 = .ok (.lreturn, 1) := by decide +kernel
set_option maxRecDepth 20000 in
theorem ggX7_balance_X7_bankAt : GoodIn wsX7_balance wsX7_bankAt := goodIn_r _ [7, 8, 9, 10, 11, 12, 13, 14, 15, 16, 17, 18, 19, 20, 21, 22, 23, 24, 25, 26, 27, 28, 29, 30, 31, 32, 45, 46, 47, 48, 49, 50, 51, 52, 53, 54] (by decide +kernel) (by decide +kernel)
set_option maxRecDepth 20000 in
theorem gX7_balance_X7_bankAt : GoodIn wsX7_balance (wsV RX7 61 RX7 yX7_bankAt wsX7_bankAt) := goodIn_app (goodIn_of _ (by decide +kernel)) ggX7_balance_X7_bankAt
set_option maxRecDepth 20000 in
theorem ggX7_balance_X7_accountOf : GoodIn wsX7_balance wsX7_accountOf := goodIn_r _ [36, 37, 38, 39, 40, 10, 11, 12, 13, 14, 15, 16, 17, 18, 19, 20, 21, 22, 23, 24, 25, 26, 27, 28, 29, 30, 31, 32, 45, 46, 47, 48, 49, 50, 51, 41, 42, 43, 44, 52, 53, 54] (by decide +kernel) (by decide +kernel)
set_option maxRecDepth 20000 in
theorem gX7_balance_X7_accountOf : GoodIn wsX7_balance (wsV RX7 66 RX7 yX7_accountOf wsX7_accountOf) := goodIn_app (goodIn_of _ (by decide +kernel)) ggX7_balance_X7_accountOf
theorem dX7_balance_0 : decode cX7_balance 0 = .ok (.aload_n 0, 1) := by decide +kernel
theorem dX7_balance_1 : decode cX7_balance 1 = .ok (.aload_n 0, 1) := by decide +kernel
theorem dX7_balance_2 : decode cX7_balance 2 = .ok (.iload_n 1, 1) := by decide +kernel
theorem dX7_balance_3 : decode cX7_balance 3 = .ok (.invokevirtual 61, 3) := by decide +kernel
theorem dX7_balance_6 : decode cX7_balance 6 = .ok (.iload_n 2, 1) := by decide +kernel
theorem dX7_balance_7 : decode cX7_balance 7 = .ok (.invokevirtual 66, 3) := by decide +kernel
theorem dX7_balance_10 : decode cX7_balance 10 = .ok (.astore_n 3, 1) := by decide +kernel
theorem dX7_balance_11 : decode cX7_balance 11 = .ok (.aload_n 3, 1) := by decide +kernel
theorem dX7_balance_12 : decode cX7_balance 12 = .ok (.ifnonnull 9, 3) := by decide +kernel
theorem dX7_balance_15 : decode cX7_balance 15 = .ok (.ldc2_w 186, 3) := by decide +kernel
theorem dX7_balance_18 : decode cX7_balance 18 = .ok (.goto 7, 3) := by decide +kernel
theorem dX7_balance_21 : decode cX7_balance 21 = .ok (.aload_n 3, 1) := by decide +kernel
theorem dX7_balance_22 : decode cX7_balance 22 = .ok (.getfield 207, 3) := by decide +kernel
theorem dX7_balance_25 : decode cX7_balance 25 = .ok (.lreturn, 1) := by decide +kernel
set_option maxRecDepth 20000 in
theorem ggX7_ledger_X7_bankAt : GoodIn wsX7_ledger wsX7_bankAt := goodIn_r _ [6, 7, 8, 9, 10, 11, 12, 13, 14, 15, 16, 17, 18, 19, 20, 21, 22, 23, 24, 25, 26, 27, 28, 29, 30, 31, 38, 39, 40, 41, 42, 43, 44, 45, 46, 47] (by decide +kernel) (by decide +kernel)
set_option maxRecDepth 20000 in
theorem gX7_ledger_X7_bankAt : GoodIn wsX7_ledger (wsV RX7 61 RX7 yX7_bankAt wsX7_bankAt) := goodIn_app (goodIn_of _ (by decide +kernel)) ggX7_ledger_X7_bankAt
theorem dX7_ledger_0 : decode cX7_ledger 0 = .ok (.aload_n 0, 1) := by decide +kernel
theorem dX7_ledger_1 : decode cX7_ledger 1 = .ok (.iload_n 1, 1) := by decide +kernel
theorem dX7_ledger_2 : decode cX7_ledger 2 = .ok (.invokevirtual 61, 3) := by decide +kernel
theorem dX7_ledger_5 : decode cX7_ledger 5 = .ok (.astore_n 2, 1) := by decide +kernel
theorem dX7_ledger_6 : decode cX7_ledger 6 = .ok (.aload_n 2, 1) := by decide +kernel
theorem dX7_ledger_7 : decode cX7_ledger 7 = .ok (.ifnonnull 7, 3) := by decide +kernel
theorem dX7_ledger_10 : decode cX7_ledger 10 = .ok (.lconst 0, 1) := by decide +kernel
theorem dX7_ledger_11 : decode cX7_ledger 11 = .ok (.goto 7, 3) := by decide +kernel
theorem dX7_ledger_14 : decode cX7_ledger 14 = .ok (.aload_n 2, 1) := by decide +kernel
theorem dX7_ledger_15 : decode cX7_ledger 15 = .ok (.getfield 210, 3) := by decide +kernel
theorem dX7_ledger_18 : decode cX7_ledger 18 = .ok (.lreturn, 1) := by decide +kernel
theorem dX7_rejected_0 : decode cX7_rejected 0 = .ok (.iload_n 1, 1) := by decide +kernel
theorem dX7_rejected_1 : decode cX7_rejected 1 = .ok (.ifCond .lt 12, 3) := by decide +kernel
theorem dX7_rejected_4 : decode cX7_rejected 4 = .ok (.iload_n 1, 1) := by decide +kernel
theorem dX7_rejected_5 : decode cX7_rejected 5 = .ok (.aload_n 0, 1) := by decide +kernel
theorem dX7_rejected_6 : decode cX7_rejected 6 = .ok (.getfield 34, 3) := by decide +kernel
theorem dX7_rejected_9 : decode cX7_rejected 9 = .ok (.arraylength, 1) := by decide +kernel
theorem dX7_rejected_10 : decode cX7_rejected 10 = .ok (.if_icmp .lt 7, 3) := by decide +kernel
theorem dX7_rejected_13 : decode cX7_rejected 13 = .ok (.iconst 0, 1) := by decide +kernel
theorem dX7_rejected_14 : decode cX7_rejected 14 = .ok (.goto 9, 3) := by decide +kernel
theorem dX7_rejected_17 : decode cX7_rejected 17 = .ok (.aload_n 0, 1) := by decide +kernel
theorem dX7_rejected_18 : decode cX7_rejected 18 = .ok (.getfield 34, 3) := by decide +kernel
theorem dX7_rejected_21 : decode cX7_rejected 21 = .ok (.iload_n 1, 1) := by decide +kernel
theorem dX7_rejected_22 : decode cX7_rejected 22 = .ok (.iaload, 1) := by decide +kernel
theorem dX7_rejected_23 : decode cX7_rejected 23 = .ok (.ireturn, 1) := by decide +kernel
set_option maxRecDepth 20000 in
theorem ggX7_waiting_X7_bankAt : GoodIn wsX7_waiting wsX7_bankAt := goodIn_r _ [7, 8, 9, 10, 11, 12, 13, 14, 15, 16, 17, 18, 19, 20, 21, 22, 23, 24, 25, 26, 27, 28, 29, 30, 31, 32, 39, 40, 41, 42, 43, 44, 45, 46, 47, 48] (by decide +kernel) (by decide +kernel)
set_option maxRecDepth 20000 in
theorem gX7_waiting_X7_bankAt : GoodIn wsX7_waiting (wsV RX7 61 RX7 yX7_bankAt wsX7_bankAt) := goodIn_app (goodIn_of _ (by decide +kernel)) ggX7_waiting_X7_bankAt
set_option maxRecDepth 20000 in
theorem ggX7_waiting_Jx4a65c_size_8abf5 : GoodIn wsX7_waiting wsJx4a65c_size_8abf5 := goodIn_r _ [14, 15, 46, 47, 48] (by decide +kernel) (by decide +kernel)
set_option maxRecDepth 20000 in
theorem gX7_waiting_Jx4a65c_size_8abf5 : GoodIn wsX7_waiting (wsV RX7 48 RJx4a65c yJx4a65c_size_8abf5 wsJx4a65c_size_8abf5) := goodIn_app (goodIn_of _ (by decide +kernel)) ggX7_waiting_Jx4a65c_size_8abf5
theorem dX7_waiting_0 : decode cX7_waiting 0 = .ok (.aload_n 0, 1) := by decide +kernel
theorem dX7_waiting_1 : decode cX7_waiting 1 = .ok (.iload_n 1, 1) := by decide +kernel
theorem dX7_waiting_2 : decode cX7_waiting 2 = .ok (.invokevirtual 61, 3) := by decide +kernel
theorem dX7_waiting_5 : decode cX7_waiting 5 = .ok (.astore_n 3, 1) := by decide +kernel
theorem dX7_waiting_6 : decode cX7_waiting 6 = .ok (.aload_n 3, 1) := by decide +kernel
theorem dX7_waiting_7 : decode cX7_waiting 7 = .ok (.ifnull 12, 3) := by decide +kernel
theorem dX7_waiting_10 : decode cX7_waiting 10 = .ok (.iload_n 2, 1) := by decide +kernel
theorem dX7_waiting_11 : decode cX7_waiting 11 = .ok (.ifCond .lt 8, 3) := by decide +kernel
theorem dX7_waiting_14 : decode cX7_waiting 14 = .ok (.iload_n 2, 1) := by decide +kernel
theorem dX7_waiting_15 : decode cX7_waiting 15 = .ok (.iconst 1, 1) := by decide +kernel
theorem dX7_waiting_16 : decode cX7_waiting 16 = .ok (.if_icmp .le 5, 3) := by decide +kernel
theorem dX7_waiting_19 : decode cX7_waiting 19 = .ok (.iconst (-1), 1) := by decide +kernel
theorem dX7_waiting_20 : decode cX7_waiting 20 = .ok (.ireturn, 1) := by decide +kernel
theorem dX7_waiting_21 : decode cX7_waiting 21 = .ok (.iload_n 2, 1) := by decide +kernel
theorem dX7_waiting_22 : decode cX7_waiting 22 = .ok (.ifCond .ne 13, 3) := by decide +kernel
theorem dX7_waiting_25 : decode cX7_waiting 25 = .ok (.aload_n 3, 1) := by decide +kernel
theorem dX7_waiting_26 : decode cX7_waiting 26 = .ok (.getfield 213, 3) := by decide +kernel
theorem dX7_waiting_29 : decode cX7_waiting 29 = .ok (.invokevirtual 48, 3) := by decide +kernel
theorem dX7_waiting_32 : decode cX7_waiting 32 = .ok (.goto 10, 3) := by decide +kernel
theorem dX7_waiting_35 : decode cX7_waiting 35 = .ok (.aload_n 3, 1) := by decide +kernel
theorem dX7_waiting_36 : decode cX7_waiting 36 = .ok (.getfield 214, 3) := by decide +kernel
theorem dX7_waiting_39 : decode cX7_waiting 39 = .ok (.invokevirtual 48, 3) := by decide +kernel
theorem dX7_waiting_42 : decode cX7_waiting 42 = .ok (.ireturn, 1) := by decide +kernel
theorem dX7_isHalf_0 : decode cX7_isHalf 0 = .ok (.lload_n 0, 1) := by decide +kernel
theorem dX7_isHalf_1 : decode cX7_isHalf 1 = .ok (.lconst 0, 1) := by decide +kernel
theorem dX7_isHalf_2 : decode cX7_isHalf 2 = .ok (.lcmp, 1) := by decide +kernel
theorem dX7_isHalf_3 : decode cX7_isHalf 3 = .ok (.ifCond .lt 15, 3) := by decide +kernel
theorem dX7_isHalf_6 : decode cX7_isHalf 6 = .ok (.lload_n 0, 1) := by decide +kernel
theorem dX7_isHalf_7 : decode cX7_isHalf 7 = .ok (.ldc2_w 217, 3) := by decide +kernel
theorem dX7_isHalf_10 : decode cX7_isHalf 10 = .ok (.lcmp, 1) := by decide +kernel
theorem dX7_isHalf_11 : decode cX7_isHalf 11 = .ok (.ifCond .gt 7, 3) := by decide +kernel
theorem dX7_isHalf_14 : decode cX7_isHalf 14 = .ok (.iconst 1, 1) := by decide +kernel
theorem dX7_isHalf_15 : decode cX7_isHalf 15 = .ok (.goto 4, 3) := by decide +kernel
theorem dX7_isHalf_18 : decode cX7_isHalf 18 = .ok (.iconst 0, 1) := by decide +kernel
theorem dX7_isHalf_19 : decode cX7_isHalf 19 = .ok (.ireturn, 1) := by decide +kernel
theorem dX7_digits_0 : decode cX7_digits 0 = .ok (.iload 5, 2) := by decide +kernel
theorem dX7_digits_2 : decode cX7_digits 2 = .ok (.bipush 18, 2) := by decide +kernel
theorem dX7_digits_4 : decode cX7_digits 4 = .ok (.if_icmp .ge 7, 3) := by decide +kernel
theorem dX7_digits_7 : decode cX7_digits 7 = .ok (.iconst 1, 1) := by decide +kernel
theorem dX7_digits_8 : decode cX7_digits 8 = .ok (.goto 4, 3) := by decide +kernel
theorem dX7_digits_11 : decode cX7_digits 11 = .ok (.iconst 0, 1) := by decide +kernel
theorem dX7_digits_12 : decode cX7_digits 12 = .ok (.istore 6, 2) := by decide +kernel
theorem dX7_digits_14 : decode cX7_digits 14 = .ok (.iload 6, 2) := by decide +kernel
theorem dX7_digits_16 : decode cX7_digits 16 = .ok (.ifCond .eq 7, 3) := by decide +kernel
theorem dX7_digits_19 : decode cX7_digits 19 = .ok (.lload_n 0, 1) := by decide +kernel
theorem dX7_digits_20 : decode cX7_digits 20 = .ok (.goto 4, 3) := by decide +kernel
theorem dX7_digits_23 : decode cX7_digits 23 = .ok (.lload_n 2, 1) := by decide +kernel
theorem dX7_digits_24 : decode cX7_digits 24 = .ok (.lstore 7, 2) := by decide +kernel
theorem dX7_digits_26 : decode cX7_digits 26 = .ok (.iload 6, 2) := by decide +kernel
theorem dX7_digits_28 : decode cX7_digits 28 = .ok (.ifCond .eq 8, 3) := by decide +kernel
theorem dX7_digits_31 : decode cX7_digits 31 = .ok (.bipush 17, 2) := by decide +kernel
theorem dX7_digits_33 : decode cX7_digits 33 = .ok (.goto 5, 3) := by decide +kernel
theorem dX7_digits_36 : decode cX7_digits 36 = .ok (.bipush 35, 2) := by decide +kernel
theorem dX7_digits_38 : decode cX7_digits 38 = .ok (.istore 9, 2) := by decide +kernel
theorem dX7_digits_40 : decode cX7_digits 40 = .ok (.iload 9, 2) := by decide +kernel
theorem dX7_digits_42 : decode cX7_digits 42 = .ok (.iload 5, 2) := by decide +kernel
theorem dX7_digits_44 : decode cX7_digits 44 = .ok (.if_icmp .le 17, 3) := by decide +kernel
theorem dX7_digits_47 : decode cX7_digits 47 = .ok (.lload 7, 2) := by decide +kernel
theorem dX7_digits_49 : decode cX7_digits 49 = .ok (.ldc2_w 219, 3) := by decide +kernel
theorem dX7_digits_52 : decode cX7_digits 52 = .ok (.ldiv, 1) := by decide +kernel
theorem dX7_digits_53 : decode cX7_digits 53 = .ok (.lstore 7, 2) := by decide +kernel
theorem dX7_digits_55 : decode cX7_digits 55 = .ok (.iinc 9 (-1), 3) := by decide +kernel
theorem dX7_digits_58 : decode cX7_digits 58 = .ok (.goto (-18), 3) := by decide +kernel
theorem dX7_digits_61 : decode cX7_digits 61 = .ok (.lconst 0, 1) := by decide +kernel
theorem dX7_digits_62 : decode cX7_digits 62 = .ok (.lstore 9, 2) := by decide +kernel
theorem dX7_digits_64 : decode cX7_digits 64 = .ok (.lconst 1, 1) := by decide +kernel
theorem dX7_digits_65 : decode cX7_digits 65 = .ok (.lstore 11, 2) := by decide +kernel
theorem dX7_digits_67 : decode cX7_digits 67 = .ok (.iload 5, 2) := by decide +kernel
theorem dX7_digits_69 : decode cX7_digits 69 = .ok (.istore 13, 2) := by decide +kernel
theorem dX7_digits_71 : decode cX7_digits 71 = .ok (.iload 13, 2) := by decide +kernel
theorem dX7_digits_73 : decode cX7_digits 73 = .ok (.iload 4, 2) := by decide +kernel
theorem dX7_digits_75 : decode cX7_digits 75 = .ok (.if_icmp .lt 39, 3) := by decide +kernel
theorem dX7_digits_78 : decode cX7_digits 78 = .ok (.lload 9, 2) := by decide +kernel
theorem dX7_digits_80 : decode cX7_digits 80 = .ok (.lload 7, 2) := by decide +kernel
theorem dX7_digits_82 : decode cX7_digits 82 = .ok (.ldc2_w 219, 3) := by decide +kernel
theorem dX7_digits_85 : decode cX7_digits 85 = .ok (.lrem, 1) := by decide +kernel
theorem dX7_digits_86 : decode cX7_digits 86 = .ok (.lload 11, 2) := by decide +kernel
theorem dX7_digits_88 : decode cX7_digits 88 = .ok (.lmul, 1) := by decide +kernel
theorem dX7_digits_89 : decode cX7_digits 89 = .ok (.ladd, 1) := by decide +kernel
theorem dX7_digits_90 : decode cX7_digits 90 = .ok (.lstore 9, 2) := by decide +kernel
theorem dX7_digits_92 : decode cX7_digits 92 = .ok (.lload 11, 2) := by decide +kernel
theorem dX7_digits_94 : decode cX7_digits 94 = .ok (.ldc2_w 219, 3) := by decide +kernel
theorem dX7_digits_97 : decode cX7_digits 97 = .ok (.lmul, 1) := by decide +kernel
theorem dX7_digits_98 : decode cX7_digits 98 = .ok (.lstore 11, 2) := by decide +kernel
theorem dX7_digits_100 : decode cX7_digits 100 = .ok (.lload 7, 2) := by decide +kernel
theorem dX7_digits_102 : decode cX7_digits 102 = .ok (.ldc2_w 219, 3) := by decide +kernel
theorem dX7_digits_105 : decode cX7_digits 105 = .ok (.ldiv, 1) := by decide +kernel
theorem dX7_digits_106 : decode cX7_digits 106 = .ok (.lstore 7, 2) := by decide +kernel
theorem dX7_digits_108 : decode cX7_digits 108 = .ok (.iinc 13 (-1), 3) := by decide +kernel
theorem dX7_digits_111 : decode cX7_digits 111 = .ok (.goto (-40), 3) := by decide +kernel
theorem dX7_digits_114 : decode cX7_digits 114 = .ok (.lload 9, 2) := by decide +kernel
theorem dX7_digits_116 : decode cX7_digits 116 = .ok (.l2i, 1) := by decide +kernel
theorem dX7_digits_117 : decode cX7_digits 117 = .ok (.ireturn, 1) := by decide +kernel
theorem dX7_isRight_0 : decode cX7_isRight 0 = .ok (.iload_n 0, 1) := by decide +kernel
theorem dX7_isRight_1 : decode cX7_isRight 1 = .ok (.istore_n 2, 1) := by decide +kernel
theorem dX7_isRight_2 : decode cX7_isRight 2 = .ok (.iconst 0, 1) := by decide +kernel
theorem dX7_isRight_3 : decode cX7_isRight 3 = .ok (.istore_n 3, 1) := by decide +kernel
theorem dX7_isRight_4 : decode cX7_isRight 4 = .ok (.iload_n 1, 1) := by decide +kernel
theorem dX7_isRight_5 : decode cX7_isRight 5 = .ok (.iconst 1, 1) := by decide +kernel
theorem dX7_isRight_6 : decode cX7_isRight 6 = .ok (.isub, 1) := by decide +kernel
theorem dX7_isRight_7 : decode cX7_isRight 7 = .ok (.istore 4, 2) := by decide +kernel
theorem dX7_isRight_9 : decode cX7_isRight 9 = .ok (.iload 4, 2) := by decide +kernel
theorem dX7_isRight_11 : decode cX7_isRight 11 = .ok (.ifCond .lt 30, 3) := by decide +kernel
theorem dX7_isRight_14 : decode cX7_isRight 14 = .ok (.iload_n 3, 1) := by decide +kernel
theorem dX7_isRight_15 : decode cX7_isRight 15 = .ok (.iload_n 2, 1) := by decide +kernel
theorem dX7_isRight_16 : decode cX7_isRight 16 = .ok (.bipush 10, 2) := by decide +kernel
theorem dX7_isRight_18 : decode cX7_isRight 18 = .ok (.irem, 1) := by decide +kernel
theorem dX7_isRight_19 : decode cX7_isRight 19 = .ok (.getstatic 221, 3) := by decide +kernel
theorem dX7_isRight_22 : decode cX7_isRight 22 = .ok (.iload 4, 2) := by decide +kernel
theorem dX7_isRight_24 : decode cX7_isRight 24 = .ok (.iconst 3, 1) := by decide +kernel
theorem dX7_isRight_25 : decode cX7_isRight 25 = .ok (.irem, 1) := by decide +kernel
theorem dX7_isRight_26 : decode cX7_isRight 26 = .ok (.iaload, 1) := by decide +kernel
theorem dX7_isRight_27 : decode cX7_isRight 27 = .ok (.imul, 1) := by decide +kernel
theorem dX7_isRight_28 : decode cX7_isRight 28 = .ok (.iadd, 1) := by decide +kernel
theorem dX7_isRight_29 : decode cX7_isRight 29 = .ok (.istore_n 3, 1) := by decide +kernel
theorem dX7_isRight_30 : decode cX7_isRight 30 = .ok (.iload_n 2, 1) := by decide +kernel
theorem dX7_isRight_31 : decode cX7_isRight 31 = .ok (.bipush 10, 2) := by decide +kernel
theorem dX7_isRight_33 : decode cX7_isRight 33 = .ok (.idiv, 1) := by decide +kernel
theorem dX7_isRight_34 : decode cX7_isRight 34 = .ok (.istore_n 2, 1) := by decide +kernel
theorem dX7_isRight_35 : decode cX7_isRight 35 = .ok (.iinc 4 (-1), 3) := by decide +kernel
theorem dX7_isRight_38 : decode cX7_isRight 38 = .ok (.goto (-29), 3) := by decide +kernel
theorem dX7_isRight_41 : decode cX7_isRight 41 = .ok (.iload_n 3, 1) := by decide +kernel
theorem dX7_isRight_42 : decode cX7_isRight 42 = .ok (.bipush 10, 2) := by decide +kernel
theorem dX7_isRight_44 : decode cX7_isRight 44 = .ok (.irem, 1) := by decide +kernel
theorem dX7_isRight_45 : decode cX7_isRight 45 = .ok (.ifCond .ne 7, 3) := by decide +kernel
theorem dX7_isRight_48 : decode cX7_isRight 48 = .ok (.iconst 1, 1) := by decide +kernel
theorem dX7_isRight_49 : decode cX7_isRight 49 = .ok (.goto 4, 3) := by decide +kernel
theorem dX7_isRight_52 : decode cX7_isRight 52 = .ok (.iconst 0, 1) := by decide +kernel
theorem dX7_isRight_53 : decode cX7_isRight 53 = .ok (.ireturn, 1) := by decide +kernel
set_option maxRecDepth 20000 in
theorem ggX7_bankAt_Jx4a65c_size_8abf5 : GoodIn wsX7_bankAt wsJx4a65c_size_8abf5 := goodIn_r _ [7, 8, 33, 34, 35] (by decide +kernel) (by decide +kernel)
set_option maxRecDepth 20000 in
theorem gX7_bankAt_Jx4a65c_size_8abf5 : GoodIn wsX7_bankAt (wsV RX7 48 RJx4a65c yJx4a65c_size_8abf5 wsJx4a65c_size_8abf5) := goodIn_app (goodIn_of _ (by decide +kernel)) ggX7_bankAt_Jx4a65c_size_8abf5
set_option maxRecDepth 20000 in
theorem ggX7_bankAt_Jx4a65c_get_915e3 : GoodIn wsX7_bankAt wsJx4a65c_get_915e3 := goodIn_r _ [12, 8, 13, 14, 15, 16, 17, 18, 19, 20, 21, 22, 23, 6, 24, 25, 33, 34, 35] (by decide +kernel) (by decide +kernel)
set_option maxRecDepth 20000 in
theorem gX7_bankAt_Jx4a65c_get_915e3 : GoodIn wsX7_bankAt (wsV RX7 147 RJx4a65c yJx4a65c_get_915e3 wsJx4a65c_get_915e3) := goodIn_app (goodIn_of _ (by decide +kernel)) ggX7_bankAt_Jx4a65c_get_915e3
theorem dX7_bankAt_0 : decode cX7_bankAt 0 = .ok (.iload_n 1, 1) := by decide +kernel
theorem dX7_bankAt_1 : decode cX7_bankAt 1 = .ok (.ifCond .lt 14, 3) := by decide +kernel
theorem dX7_bankAt_4 : decode cX7_bankAt 4 = .ok (.iload_n 1, 1) := by decide +kernel
theorem dX7_bankAt_5 : decode cX7_bankAt 5 = .ok (.aload_n 0, 1) := by decide +kernel
theorem dX7_bankAt_6 : decode cX7_bankAt 6 = .ok (.getfield 10, 3) := by decide +kernel
theorem dX7_bankAt_9 : decode cX7_bankAt 9 = .ok (.invokevirtual 48, 3) := by decide +kernel
theorem dX7_bankAt_12 : decode cX7_bankAt 12 = .ok (.if_icmp .lt 7, 3) := by decide +kernel
theorem dX7_bankAt_15 : decode cX7_bankAt 15 = .ok (.aconst_null, 1) := by decide +kernel
theorem dX7_bankAt_16 : decode cX7_bankAt 16 = .ok (.goto 14, 3) := by decide +kernel
theorem dX7_bankAt_19 : decode cX7_bankAt 19 = .ok (.aload_n 0, 1) := by decide +kernel
theorem dX7_bankAt_20 : decode cX7_bankAt 20 = .ok (.getfield 10, 3) := by decide +kernel
theorem dX7_bankAt_23 : decode cX7_bankAt 23 = .ok (.iload_n 1, 1) := by decide +kernel
theorem dX7_bankAt_24 : decode cX7_bankAt 24 = .ok (.invokevirtual 147, 3) := by decide +kernel
theorem dX7_bankAt_27 : decode cX7_bankAt 27 = .ok (.checkcast 52, 3) := by decide +kernel
theorem dX7_bankAt_30 : decode cX7_bankAt 30 = .ok (.areturn, 1) := by decide +kernel
set_option maxRecDepth 20000 in
theorem ggX7_bankWithRouting_Jx4a65c_size_8abf5 : GoodIn wsX7_bankWithRouting wsJx4a65c_size_8abf5 := goodIn_r _ [8, 9, 40, 41, 42] (by decide +kernel) (by decide +kernel)
set_option maxRecDepth 20000 in
theorem gX7_bankWithRouting_Jx4a65c_size_8abf5 : GoodIn wsX7_bankWithRouting (wsV RX7 48 RJx4a65c yJx4a65c_size_8abf5 wsJx4a65c_size_8abf5) := goodIn_app (goodIn_of _ (by decide +kernel)) ggX7_bankWithRouting_Jx4a65c_size_8abf5
set_option maxRecDepth 20000 in
theorem ggX7_bankWithRouting_Jx4a65c_get_915e3 : GoodIn wsX7_bankWithRouting wsJx4a65c_get_915e3 := goodIn_r _ [13, 9, 14, 15, 16, 17, 18, 19, 20, 21, 22, 23, 24, 7, 25, 26, 40, 41, 42] (by decide +kernel) (by decide +kernel)
set_option maxRecDepth 20000 in
theorem gX7_bankWithRouting_Jx4a65c_get_915e3 : GoodIn wsX7_bankWithRouting (wsV RX7 147 RJx4a65c yJx4a65c_get_915e3 wsJx4a65c_get_915e3) := goodIn_app (goodIn_of _ (by decide +kernel)) ggX7_bankWithRouting_Jx4a65c_get_915e3
theorem dX7_bankWithRouting_0 : decode cX7_bankWithRouting 0 = .ok (.iconst 0, 1) := by decide +kernel
theorem dX7_bankWithRouting_1 : decode cX7_bankWithRouting 1 = .ok (.istore_n 2, 1) := by decide +kernel
theorem dX7_bankWithRouting_2 : decode cX7_bankWithRouting 2 = .ok (.iload_n 2, 1) := by decide +kernel
theorem dX7_bankWithRouting_3 : decode cX7_bankWithRouting 3 = .ok (.aload_n 0, 1) := by decide +kernel
theorem dX7_bankWithRouting_4 : decode cX7_bankWithRouting 4 = .ok (.getfield 10, 3) := by decide +kernel
theorem dX7_bankWithRouting_7 : decode cX7_bankWithRouting 7 = .ok (.invokevirtual 48, 3) := by decide +kernel
theorem dX7_bankWithRouting_10 : decode cX7_bankWithRouting 10 = .ok (.if_icmp .ge 39, 3) := by decide +kernel
theorem dX7_bankWithRouting_13 : decode cX7_bankWithRouting 13 = .ok (.aload_n 0, 1) := by decide +kernel
theorem dX7_bankWithRouting_14 : decode cX7_bankWithRouting 14 = .ok (.getfield 10, 3) := by decide +kernel
theorem dX7_bankWithRouting_17 : decode cX7_bankWithRouting 17 = .ok (.iload_n 2, 1) := by decide +kernel
theorem dX7_bankWithRouting_18 : decode cX7_bankWithRouting 18 = .ok (.invokevirtual 147, 3) := by decide +kernel
theorem dX7_bankWithRouting_21 : decode cX7_bankWithRouting 21 = .ok (.checkcast 52, 3) := by decide +kernel
theorem dX7_bankWithRouting_24 : decode cX7_bankWithRouting 24 = .ok (.getfield 224, 3) := by decide +kernel
theorem dX7_bankWithRouting_27 : decode cX7_bankWithRouting 27 = .ok (.iload_n 1, 1) := by decide +kernel
theorem dX7_bankWithRouting_28 : decode cX7_bankWithRouting 28 = .ok (.if_icmp .ne 15, 3) := by decide +kernel
theorem dX7_bankWithRouting_31 : decode cX7_bankWithRouting 31 = .ok (.aload_n 0, 1) := by decide +kernel
theorem dX7_bankWithRouting_32 : decode cX7_bankWithRouting 32 = .ok (.getfield 10, 3) := by decide +kernel
theorem dX7_bankWithRouting_35 : decode cX7_bankWithRouting 35 = .ok (.iload_n 2, 1) := by decide +kernel
theorem dX7_bankWithRouting_36 : decode cX7_bankWithRouting 36 = .ok (.invokevirtual 147, 3) := by decide +kernel
theorem dX7_bankWithRouting_39 : decode cX7_bankWithRouting 39 = .ok (.checkcast 52, 3) := by decide +kernel
theorem dX7_bankWithRouting_42 : decode cX7_bankWithRouting 42 = .ok (.areturn, 1) := by decide +kernel
theorem dX7_bankWithRouting_43 : decode cX7_bankWithRouting 43 = .ok (.iinc 2 1, 3) := by decide +kernel
theorem dX7_bankWithRouting_46 : decode cX7_bankWithRouting 46 = .ok (.goto (-44), 3) := by decide +kernel
theorem dX7_bankWithRouting_49 : decode cX7_bankWithRouting 49 = .ok (.aconst_null, 1) := by decide +kernel
theorem dX7_bankWithRouting_50 : decode cX7_bankWithRouting 50 = .ok (.areturn, 1) := by decide +kernel
set_option maxRecDepth 20000 in
theorem ggX7_accountOf_Jx4a65c_size_8abf5 : GoodIn wsX7_accountOf wsJx4a65c_size_8abf5 := goodIn_r _ [9, 10, 39, 40, 41] (by decide +kernel) (by decide +kernel)
set_option maxRecDepth 20000 in
theorem gX7_accountOf_Jx4a65c_size_8abf5 : GoodIn wsX7_accountOf (wsV RX7 48 RJx4a65c yJx4a65c_size_8abf5 wsJx4a65c_size_8abf5) := goodIn_app (goodIn_of _ (by decide +kernel)) ggX7_accountOf_Jx4a65c_size_8abf5
set_option maxRecDepth 20000 in
theorem ggX7_accountOf_Jx4a65c_get_915e3 : GoodIn wsX7_accountOf wsJx4a65c_get_915e3 := goodIn_r _ [14, 10, 15, 16, 17, 18, 19, 20, 21, 22, 23, 24, 25, 8, 26, 27, 39, 40, 41] (by decide +kernel) (by decide +kernel)
set_option maxRecDepth 20000 in
theorem gX7_accountOf_Jx4a65c_get_915e3 : GoodIn wsX7_accountOf (wsV RX7 147 RJx4a65c yJx4a65c_get_915e3 wsJx4a65c_get_915e3) := goodIn_app (goodIn_of _ (by decide +kernel)) ggX7_accountOf_Jx4a65c_get_915e3
theorem dX7_accountOf_0 : decode cX7_accountOf 0 = .ok (.iconst 0, 1) := by decide +kernel
theorem dX7_accountOf_1 : decode cX7_accountOf 1 = .ok (.istore_n 3, 1) := by decide +kernel
theorem dX7_accountOf_2 : decode cX7_accountOf 2 = .ok (.iload_n 3, 1) := by decide +kernel
theorem dX7_accountOf_3 : decode cX7_accountOf 3 = .ok (.aload_n 0, 1) := by decide +kernel
theorem dX7_accountOf_4 : decode cX7_accountOf 4 = .ok (.getfield 16, 3) := by decide +kernel
theorem dX7_accountOf_7 : decode cX7_accountOf 7 = .ok (.invokevirtual 48, 3) := by decide +kernel
theorem dX7_accountOf_10 : decode cX7_accountOf 10 = .ok (.if_icmp .ge 43, 3) := by decide +kernel
theorem dX7_accountOf_13 : decode cX7_accountOf 13 = .ok (.aload_n 0, 1) := by decide +kernel
theorem dX7_accountOf_14 : decode cX7_accountOf 14 = .ok (.getfield 16, 3) := by decide +kernel
theorem dX7_accountOf_17 : decode cX7_accountOf 17 = .ok (.iload_n 3, 1) := by decide +kernel
theorem dX7_accountOf_18 : decode cX7_accountOf 18 = .ok (.invokevirtual 147, 3) := by decide +kernel
theorem dX7_accountOf_21 : decode cX7_accountOf 21 = .ok (.checkcast 70, 3) := by decide +kernel
theorem dX7_accountOf_24 : decode cX7_accountOf 24 = .ok (.astore 4, 2) := by decide +kernel
theorem dX7_accountOf_26 : decode cX7_accountOf 26 = .ok (.aload 4, 2) := by decide +kernel
theorem dX7_accountOf_28 : decode cX7_accountOf 28 = .ok (.getfield 227, 3) := by decide +kernel
theorem dX7_accountOf_31 : decode cX7_accountOf 31 = .ok (.aload_n 1, 1) := by decide +kernel
theorem dX7_accountOf_32 : decode cX7_accountOf 32 = .ok (.if_acmp .ne 15, 3) := by decide +kernel
theorem dX7_accountOf_35 : decode cX7_accountOf 35 = .ok (.aload 4, 2) := by decide +kernel
theorem dX7_accountOf_37 : decode cX7_accountOf 37 = .ok (.getfield 230, 3) := by decide +kernel
theorem dX7_accountOf_40 : decode cX7_accountOf 40 = .ok (.iload_n 2, 1) := by decide +kernel
theorem dX7_accountOf_41 : decode cX7_accountOf 41 = .ok (.if_icmp .ne 6, 3) := by decide +kernel
theorem dX7_accountOf_44 : decode cX7_accountOf 44 = .ok (.aload 4, 2) := by decide +kernel
theorem dX7_accountOf_46 : decode cX7_accountOf 46 = .ok (.areturn, 1) := by decide +kernel
theorem dX7_accountOf_47 : decode cX7_accountOf 47 = .ok (.iinc 3 1, 3) := by decide +kernel
theorem dX7_accountOf_50 : decode cX7_accountOf 50 = .ok (.goto (-48), 3) := by decide +kernel
theorem dX7_accountOf_53 : decode cX7_accountOf 53 = .ok (.aconst_null, 1) := by decide +kernel
theorem dX7_accountOf_54 : decode cX7_accountOf 54 = .ok (.areturn, 1) := by decide +kernel
set_option maxRecDepth 20000 in
theorem ggX7_beginBatch_X4_end : GoodIn wsX7_beginBatch wsX4_end := goodIn_r _ [10, 11, 54, 55, 56, 57, 58, 59, 60, 61] (by decide +kernel) (by decide +kernel)
set_option maxRecDepth 20000 in
theorem gX7_beginBatch_X4_end : GoodIn wsX7_beginBatch (wsV RX7 91 RX4 yX4_end wsX4_end) := goodIn_app (goodIn_of _ (by decide +kernel)) ggX7_beginBatch_X4_end
set_option maxRecDepth 20000 in
theorem ggX7_beginBatch_X7_digits : GoodIn wsX7_beginBatch wsX7_digits := goodIn_r _ [15, 16] (by decide +kernel) (by decide +kernel)
set_option maxRecDepth 20000 in
theorem gX7_beginBatch_X7_digits : GoodIn wsX7_beginBatch (va_wsS RX7 83 yX7_digits wsX7_digits) := goodIn_app (goodIn_of _ (by decide +kernel)) ggX7_beginBatch_X7_digits
set_option maxRecDepth 20000 in
theorem ggX7_beginBatch_X2_begin : GoodIn wsX7_beginBatch wsX2_begin := goodIn_r _ [21, 22, 23, 24, 25, 26, 27, 28, 29, 30, 31, 32, 33, 34, 35, 36, 37, 38, 39, 40, 41, 42, 43, 44, 45, 46, 62, 63, 64, 65, 66, 67, 68, 69, 70, 71, 72, 73, 74, 75, 76, 77] (by decide +kernel) (by decide +kernel)
set_option maxRecDepth 20000 in
theorem gX7_beginBatch_X2_begin : GoodIn wsX7_beginBatch (wsV RX7 238 RX2 yX2_begin wsX2_begin) := goodIn_app (goodIn_of _ (by decide +kernel)) ggX7_beginBatch_X2_begin
theorem dX7_beginBatch_0 : decode cX7_beginBatch 0 = .ok (.aload_n 0, 1) := by decide +kernel
theorem dX7_beginBatch_1 : decode cX7_beginBatch 1 = .ok (.getfield 22, 3) := by decide +kernel
theorem dX7_beginBatch_4 : decode cX7_beginBatch 4 = .ok (.getfield 231, 3) := by decide +kernel
theorem dX7_beginBatch_7 : decode cX7_beginBatch 7 = .ok (.iconst 4, 1) := by decide +kernel
theorem dX7_beginBatch_8 : decode cX7_beginBatch 8 = .ok (.if_icmp .lt 13, 3) := by decide +kernel
theorem dX7_beginBatch_11 : decode cX7_beginBatch 11 = .ok (.aload_n 0, 1) := by decide +kernel
theorem dX7_beginBatch_12 : decode cX7_beginBatch 12 = .ok (.getfield 22, 3) := by decide +kernel
theorem dX7_beginBatch_15 : decode cX7_beginBatch 15 = .ok (.invokevirtual 91, 3) := by decide +kernel
theorem dX7_beginBatch_18 : decode cX7_beginBatch 18 = .ok (.bipush (-3), 2) := by decide +kernel
theorem dX7_beginBatch_20 : decode cX7_beginBatch 20 = .ok (.ireturn, 1) := by decide +kernel
theorem dX7_beginBatch_21 : decode cX7_beginBatch 21 = .ok (.aload_n 0, 1) := by decide +kernel
theorem dX7_beginBatch_22 : decode cX7_beginBatch 22 = .ok (.getfield 22, 3) := by decide +kernel
theorem dX7_beginBatch_25 : decode cX7_beginBatch 25 = .ok (.getfield 234, 3) := by decide +kernel
theorem dX7_beginBatch_28 : decode cX7_beginBatch 28 = .ok (.aload_n 0, 1) := by decide +kernel
theorem dX7_beginBatch_29 : decode cX7_beginBatch 29 = .ok (.getfield 22, 3) := by decide +kernel
theorem dX7_beginBatch_32 : decode cX7_beginBatch 32 = .ok (.getfield 231, 3) := by decide +kernel
theorem dX7_beginBatch_35 : decode cX7_beginBatch 35 = .ok (.aaload, 1) := by decide +kernel
theorem dX7_beginBatch_36 : decode cX7_beginBatch 36 = .ok (.astore 5, 2) := by decide +kernel
theorem dX7_beginBatch_38 : decode cX7_beginBatch 38 = .ok (.aload 5, 2) := by decide +kernel
theorem dX7_beginBatch_40 : decode cX7_beginBatch 40 = .ok (.lload_n 1, 1) := by decide +kernel
theorem dX7_beginBatch_41 : decode cX7_beginBatch 41 = .ok (.lload_n 3, 1) := by decide +kernel
theorem dX7_beginBatch_42 : decode cX7_beginBatch 42 = .ok (.iconst 1, 1) := by decide +kernel
theorem dX7_beginBatch_43 : decode cX7_beginBatch 43 = .ok (.iconst 4, 1) := by decide +kernel
theorem dX7_beginBatch_44 : decode cX7_beginBatch 44 = .ok (.invokestatic 83, 3) := by decide +kernel
theorem dX7_beginBatch_47 : decode cX7_beginBatch 47 = .ok (.lload_n 1, 1) := by decide +kernel
theorem dX7_beginBatch_48 : decode cX7_beginBatch 48 = .ok (.lload_n 3, 1) := by decide +kernel
theorem dX7_beginBatch_49 : decode cX7_beginBatch 49 = .ok (.iconst 5, 1) := by decide +kernel
theorem dX7_beginBatch_50 : decode cX7_beginBatch 50 = .ok (.bipush 8, 2) := by decide +kernel
theorem dX7_beginBatch_52 : decode cX7_beginBatch 52 = .ok (.invokestatic 83, 3) := by decide +kernel
theorem dX7_beginBatch_55 : decode cX7_beginBatch 55 = .ok (.lload_n 1, 1) := by decide +kernel
theorem dX7_beginBatch_56 : decode cX7_beginBatch 56 = .ok (.lload_n 3, 1) := by decide +kernel
theorem dX7_beginBatch_57 : decode cX7_beginBatch 57 = .ok (.bipush 9, 2) := by decide +kernel
theorem dX7_beginBatch_59 : decode cX7_beginBatch 59 = .ok (.bipush 12, 2) := by decide +kernel
theorem dX7_beginBatch_61 : decode cX7_beginBatch 61 = .ok (.invokestatic 83, 3) := by decide +kernel
theorem dX7_beginBatch_64 : decode cX7_beginBatch 64 = .ok (.invokevirtual 238, 3) := by decide +kernel
theorem dX7_beginBatch_67 : decode cX7_beginBatch 67 = .ok (.aload_n 0, 1) := by decide +kernel
theorem dX7_beginBatch_68 : decode cX7_beginBatch 68 = .ok (.getfield 22, 3) := by decide +kernel
theorem dX7_beginBatch_71 : decode cX7_beginBatch 71 = .ok (.dup, 1) := by decide +kernel
theorem dX7_beginBatch_72 : decode cX7_beginBatch 72 = .ok (.getfield 231, 3) := by decide +kernel
theorem dX7_beginBatch_75 : decode cX7_beginBatch 75 = .ok (.iconst 1, 1) := by decide +kernel
theorem dX7_beginBatch_76 : decode cX7_beginBatch 76 = .ok (.iadd, 1) := by decide +kernel
theorem dX7_beginBatch_77 : decode cX7_beginBatch 77 = .ok (.putfield 231, 3) := by decide +kernel
theorem dX7_beginBatch_80 : decode cX7_beginBatch 80 = .ok (.aload_n 0, 1) := by decide +kernel
theorem dX7_beginBatch_81 : decode cX7_beginBatch 81 = .ok (.getfield 22, 3) := by decide +kernel
theorem dX7_beginBatch_84 : decode cX7_beginBatch 84 = .ok (.aload 5, 2) := by decide +kernel
theorem dX7_beginBatch_86 : decode cX7_beginBatch 86 = .ok (.putfield 243, 3) := by decide +kernel
theorem dX7_beginBatch_89 : decode cX7_beginBatch 89 = .ok (.aload_n 0, 1) := by decide +kernel
theorem dX7_beginBatch_90 : decode cX7_beginBatch 90 = .ok (.getfield 22, 3) := by decide +kernel
theorem dX7_beginBatch_93 : decode cX7_beginBatch 93 = .ok (.iconst 1, 1) := by decide +kernel
theorem dX7_beginBatch_94 : decode cX7_beginBatch 94 = .ok (.putfield 247, 3) := by decide +kernel
theorem dX7_beginBatch_97 : decode cX7_beginBatch 97 = .ok (.iconst 0, 1) := by decide +kernel
theorem dX7_beginBatch_98 : decode cX7_beginBatch 98 = .ok (.ireturn, 1) := by decide +kernel
set_option maxRecDepth 20000 in
theorem ggX7_addEntry_X4_end : GoodIn wsX7_addEntry wsX4_end := goodIn_r _ [18, 19, 116, 117, 118, 119, 120, 121, 122, 123] (by decide +kernel) (by decide +kernel)
set_option maxRecDepth 20000 in
theorem gX7_addEntry_X4_end : GoodIn wsX7_addEntry (wsV RX7 91 RX4 yX4_end wsX4_end) := goodIn_app (goodIn_of _ (by decide +kernel)) ggX7_addEntry_X4_end
set_option maxRecDepth 20000 in
theorem ggX7_addEntry_X3_init : GoodIn wsX7_addEntry wsX3_init := goodIn_r _ [21, 22, 23, 24] (by decide +kernel) (by decide +kernel)
set_option maxRecDepth 20000 in
theorem gX7_addEntry_X3_init_n253 : GoodIn wsX7_addEntry (wsX3_init) := ggX7_addEntry_X3_init
set_option maxRecDepth 20000 in
theorem ggX7_addEntry_X7_digits : GoodIn wsX7_addEntry wsX7_digits := goodIn_r _ [28, 29] (by decide +kernel) (by decide +kernel)
set_option maxRecDepth 20000 in
theorem gX7_addEntry_X7_digits : GoodIn wsX7_addEntry (va_wsS RX7 83 yX7_digits wsX7_digits) := goodIn_app (goodIn_of _ (by decide +kernel)) ggX7_addEntry_X7_digits
set_option maxRecDepth 20000 in
theorem ggX7_addEntry_X2_add : GoodIn wsX7_addEntry wsX2_add := goodIn_r _ [34, 35, 36, 37, 38, 39, 40, 41, 42, 43, 44, 45, 46, 47, 48, 49, 50, 51, 52, 53, 54, 55, 56, 57, 58, 59, 60, 61, 62, 63, 64, 65, 66, 67, 68, 69, 70, 71, 72, 73, 74, 75, 76, 77, 78, 79, 80, 81, 82, 83, 84, 85, 86, 87, 88, 89, 90, 91, 92, 93, 94, 95, 96, 97, 98, 99, 100, 101, 102, 103, 104, 105, 106, 107, 137, 138, 139, 140, 141, 142, 143, 144, 145, 128, 129, 130, 131, 132, 133, 134, 135, 136, 146, 147, 148, 124, 125, 126, 127] (by decide +kernel) (by decide +kernel)
set_option maxRecDepth 20000 in
theorem gX7_addEntry_X2_add : GoodIn wsX7_addEntry (wsV RX7 255 RX2 yX2_add wsX2_add) := goodIn_app (goodIn_of _ (by decide +kernel)) ggX7_addEntry_X2_add
set_option maxRecDepth 20000 in
theorem ggX7_addEntry_X6_add : GoodIn wsX7_addEntry wsX6_add := goodIn_r _ [100, 101, 102, 103, 104, 105, 106, 107, 124, 125, 126, 127, 128, 129, 130, 131, 132, 133, 134, 135, 136] (by decide +kernel) (by decide +kernel)
set_option maxRecDepth 20000 in
theorem gX7_addEntry_X6_add : GoodIn wsX7_addEntry (wsV RX7 258 RX6 yX6_add wsX6_add) := goodIn_app (goodIn_of _ (by decide +kernel)) ggX7_addEntry_X6_add
theorem dX7_addEntry_0 : decode cX7_addEntry 0 = .ok (.aload_n 0, 1) := by decide +kernel
theorem dX7_addEntry_1 : decode cX7_addEntry 1 = .ok (.getfield 22, 3) := by decide +kernel
theorem dX7_addEntry_4 : decode cX7_addEntry 4 = .ok (.getfield 250, 3) := by decide +kernel
theorem dX7_addEntry_7 : decode cX7_addEntry 7 = .ok (.getfield 192, 3) := by decide +kernel
theorem dX7_addEntry_10 : decode cX7_addEntry 10 = .ok (.ldc2_w 251, 3) := by decide +kernel
theorem dX7_addEntry_13 : decode cX7_addEntry 13 = .ok (.lcmp, 1) := by decide +kernel
theorem dX7_addEntry_14 : decode cX7_addEntry 14 = .ok (.ifCond .lt 13, 3) := by decide +kernel
theorem dX7_addEntry_17 : decode cX7_addEntry 17 = .ok (.aload_n 0, 1) := by decide +kernel
theorem dX7_addEntry_18 : decode cX7_addEntry 18 = .ok (.getfield 22, 3) := by decide +kernel
theorem dX7_addEntry_21 : decode cX7_addEntry 21 = .ok (.invokevirtual 91, 3) := by decide +kernel
theorem dX7_addEntry_24 : decode cX7_addEntry 24 = .ok (.bipush (-3), 2) := by decide +kernel
theorem dX7_addEntry_26 : decode cX7_addEntry 26 = .ok (.ireturn, 1) := by decide +kernel
theorem dX7_addEntry_27 : decode cX7_addEntry 27 = .ok (.new 151, 3) := by decide +kernel
theorem dX7_addEntry_30 : decode cX7_addEntry 30 = .ok (.dup, 1) := by decide +kernel
theorem dX7_addEntry_31 : decode cX7_addEntry 31 = .ok (.invokespecial 253, 3) := by decide +kernel
theorem dX7_addEntry_34 : decode cX7_addEntry 34 = .ok (.astore 5, 2) := by decide +kernel
theorem dX7_addEntry_36 : decode cX7_addEntry 36 = .ok (.aload 5, 2) := by decide +kernel
theorem dX7_addEntry_38 : decode cX7_addEntry 38 = .ok (.lload_n 1, 1) := by decide +kernel
theorem dX7_addEntry_39 : decode cX7_addEntry 39 = .ok (.lload_n 3, 1) := by decide +kernel
theorem dX7_addEntry_40 : decode cX7_addEntry 40 = .ok (.iconst 1, 1) := by decide +kernel
theorem dX7_addEntry_41 : decode cX7_addEntry 41 = .ok (.iconst 1, 1) := by decide +kernel
theorem dX7_addEntry_42 : decode cX7_addEntry 42 = .ok (.invokestatic 83, 3) := by decide +kernel
theorem dX7_addEntry_45 : decode cX7_addEntry 45 = .ok (.putfield 157, 3) := by decide +kernel
theorem dX7_addEntry_48 : decode cX7_addEntry 48 = .ok (.aload 5, 2) := by decide +kernel
theorem dX7_addEntry_50 : decode cX7_addEntry 50 = .ok (.lload_n 1, 1) := by decide +kernel
theorem dX7_addEntry_51 : decode cX7_addEntry 51 = .ok (.lload_n 3, 1) := by decide +kernel
theorem dX7_addEntry_52 : decode cX7_addEntry 52 = .ok (.iconst 2, 1) := by decide +kernel
theorem dX7_addEntry_53 : decode cX7_addEntry 53 = .ok (.iconst 5, 1) := by decide +kernel
theorem dX7_addEntry_54 : decode cX7_addEntry 54 = .ok (.invokestatic 83, 3) := by decide +kernel
theorem dX7_addEntry_57 : decode cX7_addEntry 57 = .ok (.putfield 254, 3) := by decide +kernel
theorem dX7_addEntry_60 : decode cX7_addEntry 60 = .ok (.aload 5, 2) := by decide +kernel
theorem dX7_addEntry_62 : decode cX7_addEntry 62 = .ok (.lload_n 1, 1) := by decide +kernel
theorem dX7_addEntry_63 : decode cX7_addEntry 63 = .ok (.lload_n 3, 1) := by decide +kernel
theorem dX7_addEntry_64 : decode cX7_addEntry 64 = .ok (.bipush 6, 2) := by decide +kernel
theorem dX7_addEntry_66 : decode cX7_addEntry 66 = .ok (.bipush 11, 2) := by decide +kernel
theorem dX7_addEntry_68 : decode cX7_addEntry 68 = .ok (.invokestatic 83, 3) := by decide +kernel
theorem dX7_addEntry_71 : decode cX7_addEntry 71 = .ok (.putfield 170, 3) := by decide +kernel
theorem dX7_addEntry_74 : decode cX7_addEntry 74 = .ok (.aload 5, 2) := by decide +kernel
theorem dX7_addEntry_76 : decode cX7_addEntry 76 = .ok (.lload_n 1, 1) := by decide +kernel
theorem dX7_addEntry_77 : decode cX7_addEntry 77 = .ok (.lload_n 3, 1) := by decide +kernel
theorem dX7_addEntry_78 : decode cX7_addEntry 78 = .ok (.bipush 18, 2) := by decide +kernel
theorem dX7_addEntry_80 : decode cX7_addEntry 80 = .ok (.bipush 24, 2) := by decide +kernel
theorem dX7_addEntry_82 : decode cX7_addEntry 82 = .ok (.invokestatic 83, 3) := by decide +kernel
theorem dX7_addEntry_85 : decode cX7_addEntry 85 = .ok (.putfield 173, 3) := by decide +kernel
theorem dX7_addEntry_88 : decode cX7_addEntry 88 = .ok (.aload 5, 2) := by decide +kernel
theorem dX7_addEntry_90 : decode cX7_addEntry 90 = .ok (.lload_n 1, 1) := by decide +kernel
theorem dX7_addEntry_91 : decode cX7_addEntry 91 = .ok (.lload_n 3, 1) := by decide +kernel
theorem dX7_addEntry_92 : decode cX7_addEntry 92 = .ok (.bipush 25, 2) := by decide +kernel
theorem dX7_addEntry_94 : decode cX7_addEntry 94 = .ok (.bipush 31, 2) := by decide +kernel
theorem dX7_addEntry_96 : decode cX7_addEntry 96 = .ok (.invokestatic 83, 3) := by decide +kernel
theorem dX7_addEntry_99 : decode cX7_addEntry 99 = .ok (.putfield 176, 3) := by decide +kernel
theorem dX7_addEntry_102 : decode cX7_addEntry 102 = .ok (.aload_n 0, 1) := by decide +kernel
theorem dX7_addEntry_103 : decode cX7_addEntry 103 = .ok (.getfield 22, 3) := by decide +kernel
theorem dX7_addEntry_106 : decode cX7_addEntry 106 = .ok (.getfield 243, 3) := by decide +kernel
theorem dX7_addEntry_109 : decode cX7_addEntry 109 = .ok (.aload 5, 2) := by decide +kernel
theorem dX7_addEntry_111 : decode cX7_addEntry 111 = .ok (.invokevirtual 255, 3) := by decide +kernel
theorem dX7_addEntry_114 : decode cX7_addEntry 114 = .ok (.aload_n 0, 1) := by decide +kernel
theorem dX7_addEntry_115 : decode cX7_addEntry 115 = .ok (.getfield 22, 3) := by decide +kernel
theorem dX7_addEntry_118 : decode cX7_addEntry 118 = .ok (.getfield 250, 3) := by decide +kernel
theorem dX7_addEntry_121 : decode cX7_addEntry 121 = .ok (.aload 5, 2) := by decide +kernel
theorem dX7_addEntry_123 : decode cX7_addEntry 123 = .ok (.invokevirtual 258, 3) := by decide +kernel
theorem dX7_addEntry_126 : decode cX7_addEntry 126 = .ok (.iconst 0, 1) := by decide +kernel
theorem dX7_addEntry_127 : decode cX7_addEntry 127 = .ok (.ireturn, 1) := by decide +kernel
set_option maxRecDepth 20000 in
theorem ggX7_endBatch_X7_digits : GoodIn wsX7_endBatch wsX7_digits := goodIn_r _ [9, 10] (by decide +kernel) (by decide +kernel)
set_option maxRecDepth 20000 in
theorem gX7_endBatch_X7_digits : GoodIn wsX7_endBatch (va_wsS RX7 83 yX7_digits wsX7_digits) := goodIn_app (goodIn_of _ (by decide +kernel)) ggX7_endBatch_X7_digits
set_option maxRecDepth 20000 in
theorem ggX7_endBatch_X6_are : GoodIn wsX7_endBatch wsX6_are := goodIn_r _ [15, 16, 17, 18, 19, 44, 45, 46, 47] (by decide +kernel) (by decide +kernel)
set_option maxRecDepth 20000 in
theorem gX7_endBatch_X6_are : GoodIn wsX7_endBatch (wsV RX7 260 RX6 yX6_are wsX6_are) := goodIn_app (goodIn_of _ (by decide +kernel)) ggX7_endBatch_X6_are
theorem dX7_endBatch_0 : decode cX7_endBatch 0 = .ok (.aload_n 0, 1) := by decide +kernel
theorem dX7_endBatch_1 : decode cX7_endBatch 1 = .ok (.getfield 22, 3) := by decide +kernel
theorem dX7_endBatch_4 : decode cX7_endBatch 4 = .ok (.getfield 243, 3) := by decide +kernel
theorem dX7_endBatch_7 : decode cX7_endBatch 7 = .ok (.astore 5, 2) := by decide +kernel
theorem dX7_endBatch_9 : decode cX7_endBatch 9 = .ok (.aload 5, 2) := by decide +kernel
theorem dX7_endBatch_11 : decode cX7_endBatch 11 = .ok (.aload 5, 2) := by decide +kernel
theorem dX7_endBatch_13 : decode cX7_endBatch 13 = .ok (.getfield 259, 3) := by decide +kernel
theorem dX7_endBatch_16 : decode cX7_endBatch 16 = .ok (.lload_n 1, 1) := by decide +kernel
theorem dX7_endBatch_17 : decode cX7_endBatch 17 = .ok (.lload_n 3, 1) := by decide +kernel
theorem dX7_endBatch_18 : decode cX7_endBatch 18 = .ok (.iconst 1, 1) := by decide +kernel
theorem dX7_endBatch_19 : decode cX7_endBatch 19 = .ok (.iconst 4, 1) := by decide +kernel
theorem dX7_endBatch_20 : decode cX7_endBatch 20 = .ok (.invokestatic 83, 3) := by decide +kernel
theorem dX7_endBatch_23 : decode cX7_endBatch 23 = .ok (.lload_n 1, 1) := by decide +kernel
theorem dX7_endBatch_24 : decode cX7_endBatch 24 = .ok (.lload_n 3, 1) := by decide +kernel
theorem dX7_endBatch_25 : decode cX7_endBatch 25 = .ok (.iconst 5, 1) := by decide +kernel
theorem dX7_endBatch_26 : decode cX7_endBatch 26 = .ok (.bipush 10, 2) := by decide +kernel
theorem dX7_endBatch_28 : decode cX7_endBatch 28 = .ok (.invokestatic 83, 3) := by decide +kernel
theorem dX7_endBatch_31 : decode cX7_endBatch 31 = .ok (.lload_n 1, 1) := by decide +kernel
theorem dX7_endBatch_32 : decode cX7_endBatch 32 = .ok (.lload_n 3, 1) := by decide +kernel
theorem dX7_endBatch_33 : decode cX7_endBatch 33 = .ok (.bipush 18, 2) := by decide +kernel
theorem dX7_endBatch_35 : decode cX7_endBatch 35 = .ok (.bipush 26, 2) := by decide +kernel
theorem dX7_endBatch_37 : decode cX7_endBatch 37 = .ok (.invokestatic 83, 3) := by decide +kernel
theorem dX7_endBatch_40 : decode cX7_endBatch 40 = .ok (.lload_n 1, 1) := by decide +kernel
theorem dX7_endBatch_41 : decode cX7_endBatch 41 = .ok (.lload_n 3, 1) := by decide +kernel
theorem dX7_endBatch_42 : decode cX7_endBatch 42 = .ok (.bipush 27, 2) := by decide +kernel
theorem dX7_endBatch_44 : decode cX7_endBatch 44 = .ok (.bipush 35, 2) := by decide +kernel
theorem dX7_endBatch_46 : decode cX7_endBatch 46 = .ok (.invokestatic 83, 3) := by decide +kernel
theorem dX7_endBatch_49 : decode cX7_endBatch 49 = .ok (.invokevirtual 260, 3) := by decide +kernel
theorem dX7_endBatch_52 : decode cX7_endBatch 52 = .ok (.putfield 264, 3) := by decide +kernel
theorem dX7_endBatch_55 : decode cX7_endBatch 55 = .ok (.aload_n 0, 1) := by decide +kernel
theorem dX7_endBatch_56 : decode cX7_endBatch 56 = .ok (.getfield 22, 3) := by decide +kernel
theorem dX7_endBatch_59 : decode cX7_endBatch 59 = .ok (.iconst 0, 1) := by decide +kernel
theorem dX7_endBatch_60 : decode cX7_endBatch 60 = .ok (.putfield 247, 3) := by decide +kernel
theorem dX7_endBatch_63 : decode cX7_endBatch 63 = .ok (.return_, 1) := by decide +kernel
set_option maxRecDepth 20000 in
theorem ggX7_endFile_X4_end : GoodIn wsX7_endFile wsX4_end := goodIn_r _ [6, 7, 188, 189, 190, 191, 192, 193, 194, 195] (by decide +kernel) (by decide +kernel)
set_option maxRecDepth 20000 in
theorem gX7_endFile_X4_end : GoodIn wsX7_endFile (wsV RX7 91 RX4 yX4_end wsX4_end) := goodIn_app (goodIn_of _ (by decide +kernel)) ggX7_endFile_X4_end
set_option maxRecDepth 20000 in
theorem ggX7_endFile_X7_reasonAgainstFile : GoodIn wsX7_endFile wsX7_reasonAgainstFile := goodIn_r _ [12, 1, 13, 14, 15, 16, 17, 18, 11, 19, 20, 21, 22, 23, 24, 25, 26, 27, 28, 29, 30, 31, 32, 33, 34, 35, 36, 37, 38, 39, 40, 41, 42, 43, 44, 45, 46, 47, 48, 49, 50, 51, 52, 53, 54, 55, 56, 57, 58, 59, 60, 61, 62, 63, 64, 65, 66, 67, 68, 69, 70, 71, 72, 73, 74, 75, 76, 77, 78, 79, 80, 81, 82, 83, 84, 85, 86, 87, 88, 89, 90, 91, 92, 93, 94, 95, 96, 97, 98, 99, 100, 101, 102, 103, 104, 105, 106, 107, 108, 109, 110, 181, 182, 183, 184, 185, 186, 187, 188, 189, 190, 191, 192, 193, 194, 195, 196, 197, 198, 199, 200, 201, 202, 203, 204, 205, 206, 207, 208, 209, 210, 211, 212, 213, 214, 215, 216, 217, 218, 219, 220, 221, 222, 223, 224, 225, 226] (by decide +kernel) (by decide +kernel)
set_option maxRecDepth 20000 in
theorem gX7_endFile_X7_reasonAgainstFile : GoodIn wsX7_endFile (wsV RX7 267 RX7 yX7_reasonAgainstFile wsX7_reasonAgainstFile) := goodIn_app (goodIn_of _ (by decide +kernel)) ggX7_endFile_X7_reasonAgainstFile
set_option maxRecDepth 20000 in
theorem ggX7_endFile_X7_countRefusal : GoodIn wsX7_endFile wsX7_countRefusal := goodIn_r _ [114, 115, 181, 182, 183, 184, 185, 186, 187] (by decide +kernel) (by decide +kernel)
set_option maxRecDepth 20000 in
theorem gX7_endFile_X7_countRefusal : GoodIn wsX7_endFile (wsV RX7 270 RX7 yX7_countRefusal wsX7_countRefusal) := goodIn_app (goodIn_of _ (by decide +kernel)) ggX7_endFile_X7_countRefusal
set_option maxRecDepth 20000 in
theorem ggX7_endFile_X7_fileKey : GoodIn wsX7_endFile wsX7_fileKey := goodIn_r _ [49, 1, 13, 50, 181, 182, 183, 184, 185, 186, 187, 188, 189, 190, 191, 192, 193, 194, 195] (by decide +kernel) (by decide +kernel)
set_option maxRecDepth 20000 in
theorem gX7_endFile_X7_fileKey : GoodIn wsX7_endFile (wsV RX7 274 RX7 yX7_fileKey wsX7_fileKey) := goodIn_app (goodIn_of _ (by decide +kernel)) ggX7_endFile_X7_fileKey
set_option maxRecDepth 20000 in
theorem ggX7_endFile_X7_keepAsAccepted : GoodIn wsX7_endFile wsX7_keepAsAccepted := goodIn_r _ [119, 55, 56, 181, 182, 183, 184, 185, 186, 187] (by decide +kernel) (by decide +kernel)
set_option maxRecDepth 20000 in
theorem gX7_endFile_X7_keepAsAccepted : GoodIn wsX7_endFile (wsV RX7 277 RX7 yX7_keepAsAccepted wsX7_keepAsAccepted) := goodIn_app (goodIn_of _ (by decide +kernel)) ggX7_endFile_X7_keepAsAccepted
set_option maxRecDepth 20000 in
theorem ggX7_endFile_X7_acceptBatches : GoodIn wsX7_endFile wsX7_acceptBatches := goodIn_r _ [123, 1, 14, 79, 80, 111, 112, 113, 11, 114, 115, 124, 125, 126, 127, 95, 96, 101, 100, 74, 23, 24, 25, 26, 27, 28, 29, 30, 31, 32, 33, 34, 35, 36, 37, 38, 39, 40, 41, 42, 43, 44, 45, 128, 129, 130, 131, 132, 133, 134, 135, 136, 137, 138, 139, 140, 141, 142, 143, 144, 145, 146, 147, 148, 149, 150, 151, 152, 153, 154, 155, 156, 157, 158, 159, 160, 161, 162, 163, 164, 165, 166, 167, 168, 169, 170, 171, 172, 173, 174, 175, 176, 177, 178, 179, 180, 181, 182, 183, 184, 185, 186, 187, 188, 189, 190, 191, 192, 193, 194, 195, 209, 210, 211, 212, 213, 214, 215, 216, 217, 218, 219, 220, 221, 222, 223, 224, 225, 226, 196, 197, 198, 199, 200, 201, 202, 203, 204] (by decide +kernel) (by decide +kernel)
set_option maxRecDepth 20000 in
theorem gX7_endFile_X7_acceptBatches : GoodIn wsX7_endFile (wsV RX7 280 RX7 yX7_acceptBatches wsX7_acceptBatches) := goodIn_app (goodIn_of _ (by decide +kernel)) ggX7_endFile_X7_acceptBatches
theorem dX7_endFile_0 : decode cX7_endFile 0 = .ok (.aload_n 0, 1) := by decide +kernel
theorem dX7_endFile_1 : decode cX7_endFile 1 = .ok (.getfield 22, 3) := by decide +kernel
theorem dX7_endFile_4 : decode cX7_endFile 4 = .ok (.invokevirtual 91, 3) := by decide +kernel
theorem dX7_endFile_7 : decode cX7_endFile 7 = .ok (.aload_n 0, 1) := by decide +kernel
theorem dX7_endFile_8 : decode cX7_endFile 8 = .ok (.lload_n 1, 1) := by decide +kernel
theorem dX7_endFile_9 : decode cX7_endFile 9 = .ok (.lload_n 3, 1) := by decide +kernel
theorem dX7_endFile_10 : decode cX7_endFile 10 = .ok (.invokevirtual 267, 3) := by decide +kernel
theorem dX7_endFile_13 : decode cX7_endFile 13 = .ok (.istore 5, 2) := by decide +kernel
theorem dX7_endFile_15 : decode cX7_endFile 15 = .ok (.iload 5, 2) := by decide +kernel
theorem dX7_endFile_17 : decode cX7_endFile 17 = .ok (.ifCond .eq 13, 3) := by decide +kernel
theorem dX7_endFile_20 : decode cX7_endFile 20 = .ok (.aload_n 0, 1) := by decide +kernel
theorem dX7_endFile_21 : decode cX7_endFile 21 = .ok (.iload 5, 2) := by decide +kernel
theorem dX7_endFile_23 : decode cX7_endFile 23 = .ok (.invokevirtual 270, 3) := by decide +kernel
theorem dX7_endFile_26 : decode cX7_endFile 26 = .ok (.iload 5, 2) := by decide +kernel
theorem dX7_endFile_28 : decode cX7_endFile 28 = .ok (.ineg, 1) := by decide +kernel
theorem dX7_endFile_29 : decode cX7_endFile 29 = .ok (.ireturn, 1) := by decide +kernel
theorem dX7_endFile_30 : decode cX7_endFile 30 = .ok (.aload_n 0, 1) := by decide +kernel
theorem dX7_endFile_31 : decode cX7_endFile 31 = .ok (.aload_n 0, 1) := by decide +kernel
theorem dX7_endFile_32 : decode cX7_endFile 32 = .ok (.invokevirtual 274, 3) := by decide +kernel
theorem dX7_endFile_35 : decode cX7_endFile 35 = .ok (.invokevirtual 277, 3) := by decide +kernel
theorem dX7_endFile_38 : decode cX7_endFile 38 = .ok (.aload_n 0, 1) := by decide +kernel
theorem dX7_endFile_39 : decode cX7_endFile 39 = .ok (.invokevirtual 280, 3) := by decide +kernel
theorem dX7_endFile_42 : decode cX7_endFile 42 = .ok (.ireturn, 1) := by decide +kernel
set_option maxRecDepth 20000 in
theorem ggX7_reasonAgainstFile_X7_bankWithRouting : GoodIn wsX7_reasonAgainstFile wsX7_bankWithRouting := goodIn_r _ [9, 10, 11, 12, 13, 14, 15, 16, 17, 18, 19, 20, 21, 22, 23, 24, 25, 26, 27, 28, 29, 30, 31, 32, 33, 34, 35, 101, 102, 103, 104, 105, 106, 107, 116, 117, 118, 119, 120, 121, 122, 123, 124] (by decide +kernel) (by decide +kernel)
set_option maxRecDepth 20000 in
theorem gX7_reasonAgainstFile_X7_bankWithRouting : GoodIn wsX7_reasonAgainstFile (wsV RX7 44 RX7 yX7_bankWithRouting wsX7_bankWithRouting) := goodIn_app (goodIn_of _ (by decide +kernel)) ggX7_reasonAgainstFile_X7_bankWithRouting
set_option maxRecDepth 20000 in
theorem ggX7_reasonAgainstFile_X7_fileKey : GoodIn wsX7_reasonAgainstFile wsX7_fileKey := goodIn_r _ [39, 1, 2, 40, 101, 102, 103, 104, 105, 106, 107, 108, 109, 110, 111, 112, 113, 114, 115] (by decide +kernel) (by decide +kernel)
set_option maxRecDepth 20000 in
theorem gX7_reasonAgainstFile_X7_fileKey : GoodIn wsX7_reasonAgainstFile (wsV RX7 274 RX7 yX7_fileKey wsX7_fileKey) := goodIn_app (goodIn_of _ (by decide +kernel)) ggX7_reasonAgainstFile_X7_fileKey
set_option maxRecDepth 20000 in
theorem ggX7_reasonAgainstFile_X7_wasAccepted : GoodIn wsX7_reasonAgainstFile wsX7_wasAccepted := goodIn_r _ [44, 45, 46, 101, 102, 103, 104, 105, 106, 107] (by decide +kernel) (by decide +kernel)
set_option maxRecDepth 20000 in
theorem gX7_reasonAgainstFile_X7_wasAccepted : GoodIn wsX7_reasonAgainstFile (wsV RX7 286 RX7 yX7_wasAccepted wsX7_wasAccepted) := goodIn_app (goodIn_of _ (by decide +kernel)) ggX7_reasonAgainstFile_X7_wasAccepted
set_option maxRecDepth 20000 in
theorem ggX7_reasonAgainstFile_X7_digits : GoodIn wsX7_reasonAgainstFile wsX7_digits := goodIn_r _ [49, 50] (by decide +kernel) (by decide +kernel)
set_option maxRecDepth 20000 in
theorem gX7_reasonAgainstFile_X7_digits : GoodIn wsX7_reasonAgainstFile (va_wsS RX7 83 yX7_digits wsX7_digits) := goodIn_app (goodIn_of _ (by decide +kernel)) ggX7_reasonAgainstFile_X7_digits
set_option maxRecDepth 20000 in
theorem ggX7_reasonAgainstFile_X6_are : GoodIn wsX7_reasonAgainstFile wsX6_are := goodIn_r _ [55, 56, 57, 58, 59, 125, 126, 127, 128] (by decide +kernel) (by decide +kernel)
set_option maxRecDepth 20000 in
theorem gX7_reasonAgainstFile_X6_are : GoodIn wsX7_reasonAgainstFile (wsV RX7 260 RX6 yX6_are wsX6_are) := goodIn_app (goodIn_of _ (by decide +kernel)) ggX7_reasonAgainstFile_X6_are
set_option maxRecDepth 20000 in
theorem ggX7_reasonAgainstFile_X7_waitingInAll : GoodIn wsX7_reasonAgainstFile wsX7_waitingInAll := goodIn_r _ [63, 10, 11, 64, 13, 14, 15, 16, 17, 18, 19, 20, 21, 22, 23, 24, 25, 26, 27, 28, 29, 30, 31, 32, 33, 34, 35, 101, 102, 103, 104, 105, 106, 107, 116, 117, 118, 119, 120, 121, 122, 123, 124] (by decide +kernel) (by decide +kernel)
set_option maxRecDepth 20000 in
theorem gX7_reasonAgainstFile_X7_waitingInAll : GoodIn wsX7_reasonAgainstFile (wsV RX7 289 RX7 yX7_waitingInAll wsX7_waitingInAll) := goodIn_app (goodIn_of _ (by decide +kernel)) ggX7_reasonAgainstFile_X7_waitingInAll
set_option maxRecDepth 20000 in
theorem ggX7_reasonAgainstFile_X7_judgeBatches : GoodIn wsX7_reasonAgainstFile wsX7_judgeBatches := goodIn_r _ [68, 1, 3, 69, 70, 71, 72, 73, 74, 8, 75, 76, 77, 78, 79, 80, 5, 6, 7, 9, 10, 11, 12, 13, 14, 15, 16, 17, 18, 19, 20, 21, 22, 23, 24, 25, 26, 27, 28, 29, 30, 31, 32, 33, 34, 35, 81, 82, 83, 84, 85, 86, 87, 88, 89, 90, 91, 92, 93, 94, 95, 96, 97, 98, 99, 100, 101, 102, 103, 104, 105, 106, 107, 108, 109, 110, 111, 112, 113, 114, 115, 129, 130, 131, 132, 133, 134, 135, 136, 137, 116, 117, 118, 119, 120, 121, 122, 123, 124, 138, 139, 140, 141, 142, 143, 144, 145, 146] (by decide +kernel) (by decide +kernel)
set_option maxRecDepth 20000 in
theorem gX7_reasonAgainstFile_X7_judgeBatches : GoodIn wsX7_reasonAgainstFile (wsV RX7 292 RX7 yX7_judgeBatches wsX7_judgeBatches) := goodIn_app (goodIn_of _ (by decide +kernel)) ggX7_reasonAgainstFile_X7_judgeBatches
theorem dX7_reasonAgainstFile_0 : decode cX7_reasonAgainstFile 0 = .ok (.aload_n 0, 1) := by decide +kernel
theorem dX7_reasonAgainstFile_1 : decode cX7_reasonAgainstFile 1 = .ok (.aload_n 0, 1) := by decide +kernel
theorem dX7_reasonAgainstFile_2 : decode cX7_reasonAgainstFile 2 = .ok (.getfield 22, 3) := by decide +kernel
theorem dX7_reasonAgainstFile_5 : decode cX7_reasonAgainstFile 5 = .ok (.getfield 283, 3) := by decide +kernel
theorem dX7_reasonAgainstFile_8 : decode cX7_reasonAgainstFile 8 = .ok (.invokevirtual 44, 3) := by decide +kernel
theorem dX7_reasonAgainstFile_11 : decode cX7_reasonAgainstFile 11 = .ok (.ifnonnull 6, 3) := by decide +kernel
theorem dX7_reasonAgainstFile_14 : decode cX7_reasonAgainstFile 14 = .ok (.bipush 10, 2) := by decide +kernel
theorem dX7_reasonAgainstFile_16 : decode cX7_reasonAgainstFile 16 = .ok (.ireturn, 1) := by decide +kernel
theorem dX7_reasonAgainstFile_17 : decode cX7_reasonAgainstFile 17 = .ok (.aload_n 0, 1) := by decide +kernel
theorem dX7_reasonAgainstFile_18 : decode cX7_reasonAgainstFile 18 = .ok (.aload_n 0, 1) := by decide +kernel
theorem dX7_reasonAgainstFile_19 : decode cX7_reasonAgainstFile 19 = .ok (.invokevirtual 274, 3) := by decide +kernel
theorem dX7_reasonAgainstFile_22 : decode cX7_reasonAgainstFile 22 = .ok (.invokevirtual 286, 3) := by decide +kernel
theorem dX7_reasonAgainstFile_25 : decode cX7_reasonAgainstFile 25 = .ok (.ifCond .eq 6, 3) := by decide +kernel
theorem dX7_reasonAgainstFile_28 : decode cX7_reasonAgainstFile 28 = .ok (.bipush 11, 2) := by decide +kernel
theorem dX7_reasonAgainstFile_30 : decode cX7_reasonAgainstFile 30 = .ok (.ireturn, 1) := by decide +kernel
theorem dX7_reasonAgainstFile_31 : decode cX7_reasonAgainstFile 31 = .ok (.aload_n 0, 1) := by decide +kernel
theorem dX7_reasonAgainstFile_32 : decode cX7_reasonAgainstFile 32 = .ok (.getfield 22, 3) := by decide +kernel
theorem dX7_reasonAgainstFile_35 : decode cX7_reasonAgainstFile 35 = .ok (.getfield 231, 3) := by decide +kernel
theorem dX7_reasonAgainstFile_38 : decode cX7_reasonAgainstFile 38 = .ok (.lload_n 1, 1) := by decide +kernel
theorem dX7_reasonAgainstFile_39 : decode cX7_reasonAgainstFile 39 = .ok (.lload_n 3, 1) := by decide +kernel
theorem dX7_reasonAgainstFile_40 : decode cX7_reasonAgainstFile 40 = .ok (.iconst 1, 1) := by decide +kernel
theorem dX7_reasonAgainstFile_41 : decode cX7_reasonAgainstFile 41 = .ok (.iconst 4, 1) := by decide +kernel
theorem dX7_reasonAgainstFile_42 : decode cX7_reasonAgainstFile 42 = .ok (.invokestatic 83, 3) := by decide +kernel
theorem dX7_reasonAgainstFile_45 : decode cX7_reasonAgainstFile 45 = .ok (.if_icmp .eq 6, 3) := by decide +kernel
theorem dX7_reasonAgainstFile_48 : decode cX7_reasonAgainstFile 48 = .ok (.bipush 12, 2) := by decide +kernel
theorem dX7_reasonAgainstFile_50 : decode cX7_reasonAgainstFile 50 = .ok (.ireturn, 1) := by decide +kernel
theorem dX7_reasonAgainstFile_51 : decode cX7_reasonAgainstFile 51 = .ok (.aload_n 0, 1) := by decide +kernel
theorem dX7_reasonAgainstFile_52 : decode cX7_reasonAgainstFile 52 = .ok (.getfield 22, 3) := by decide +kernel
theorem dX7_reasonAgainstFile_55 : decode cX7_reasonAgainstFile 55 = .ok (.getfield 250, 3) := by decide +kernel
theorem dX7_reasonAgainstFile_58 : decode cX7_reasonAgainstFile 58 = .ok (.lload_n 1, 1) := by decide +kernel
theorem dX7_reasonAgainstFile_59 : decode cX7_reasonAgainstFile 59 = .ok (.lload_n 3, 1) := by decide +kernel
theorem dX7_reasonAgainstFile_60 : decode cX7_reasonAgainstFile 60 = .ok (.iconst 5, 1) := by decide +kernel
theorem dX7_reasonAgainstFile_61 : decode cX7_reasonAgainstFile 61 = .ok (.bipush 8, 2) := by decide +kernel
theorem dX7_reasonAgainstFile_63 : decode cX7_reasonAgainstFile 63 = .ok (.invokestatic 83, 3) := by decide +kernel
theorem dX7_reasonAgainstFile_66 : decode cX7_reasonAgainstFile 66 = .ok (.lload_n 1, 1) := by decide +kernel
theorem dX7_reasonAgainstFile_67 : decode cX7_reasonAgainstFile 67 = .ok (.lload_n 3, 1) := by decide +kernel
theorem dX7_reasonAgainstFile_68 : decode cX7_reasonAgainstFile 68 = .ok (.bipush 9, 2) := by decide +kernel
theorem dX7_reasonAgainstFile_70 : decode cX7_reasonAgainstFile 70 = .ok (.bipush 14, 2) := by decide +kernel
theorem dX7_reasonAgainstFile_72 : decode cX7_reasonAgainstFile 72 = .ok (.invokestatic 83, 3) := by decide +kernel
theorem dX7_reasonAgainstFile_75 : decode cX7_reasonAgainstFile 75 = .ok (.lload_n 1, 1) := by decide +kernel
theorem dX7_reasonAgainstFile_76 : decode cX7_reasonAgainstFile 76 = .ok (.lload_n 3, 1) := by decide +kernel
theorem dX7_reasonAgainstFile_77 : decode cX7_reasonAgainstFile 77 = .ok (.bipush 18, 2) := by decide +kernel
theorem dX7_reasonAgainstFile_79 : decode cX7_reasonAgainstFile 79 = .ok (.bipush 26, 2) := by decide +kernel
theorem dX7_reasonAgainstFile_81 : decode cX7_reasonAgainstFile 81 = .ok (.invokestatic 83, 3) := by decide +kernel
theorem dX7_reasonAgainstFile_84 : decode cX7_reasonAgainstFile 84 = .ok (.lload_n 1, 1) := by decide +kernel
theorem dX7_reasonAgainstFile_85 : decode cX7_reasonAgainstFile 85 = .ok (.lload_n 3, 1) := by decide +kernel
theorem dX7_reasonAgainstFile_86 : decode cX7_reasonAgainstFile 86 = .ok (.bipush 27, 2) := by decide +kernel
theorem dX7_reasonAgainstFile_88 : decode cX7_reasonAgainstFile 88 = .ok (.bipush 35, 2) := by decide +kernel
theorem dX7_reasonAgainstFile_90 : decode cX7_reasonAgainstFile 90 = .ok (.invokestatic 83, 3) := by decide +kernel
theorem dX7_reasonAgainstFile_93 : decode cX7_reasonAgainstFile 93 = .ok (.invokevirtual 260, 3) := by decide +kernel
theorem dX7_reasonAgainstFile_96 : decode cX7_reasonAgainstFile 96 = .ok (.ifCond .ne 6, 3) := by decide +kernel
theorem dX7_reasonAgainstFile_99 : decode cX7_reasonAgainstFile 99 = .ok (.bipush 12, 2) := by decide +kernel
theorem dX7_reasonAgainstFile_101 : decode cX7_reasonAgainstFile 101 = .ok (.ireturn, 1) := by decide +kernel
theorem dX7_reasonAgainstFile_102 : decode cX7_reasonAgainstFile 102 = .ok (.aload_n 0, 1) := by decide +kernel
theorem dX7_reasonAgainstFile_103 : decode cX7_reasonAgainstFile 103 = .ok (.invokevirtual 289, 3) := by decide +kernel
theorem dX7_reasonAgainstFile_106 : decode cX7_reasonAgainstFile 106 = .ok (.aload_n 0, 1) := by decide +kernel
theorem dX7_reasonAgainstFile_107 : decode cX7_reasonAgainstFile 107 = .ok (.invokevirtual 292, 3) := by decide +kernel
theorem dX7_reasonAgainstFile_110 : decode cX7_reasonAgainstFile 110 = .ok (.iadd, 1) := by decide +kernel
theorem dX7_reasonAgainstFile_111 : decode cX7_reasonAgainstFile 111 = .ok (.bipush 40, 2) := by decide +kernel
theorem dX7_reasonAgainstFile_113 : decode cX7_reasonAgainstFile 113 = .ok (.if_icmp .le 8, 3) := by decide +kernel
theorem dX7_reasonAgainstFile_116 : decode cX7_reasonAgainstFile 116 = .ok (.bipush 13, 2) := by decide +kernel
theorem dX7_reasonAgainstFile_118 : decode cX7_reasonAgainstFile 118 = .ok (.goto 4, 3) := by decide +kernel
theorem dX7_reasonAgainstFile_121 : decode cX7_reasonAgainstFile 121 = .ok (.iconst 0, 1) := by decide +kernel
theorem dX7_reasonAgainstFile_122 : decode cX7_reasonAgainstFile 122 = .ok (.ireturn, 1) := by decide +kernel
theorem dX7_fileKey_0 : decode cX7_fileKey 0 = .ok (.aload_n 0, 1) := by decide +kernel
theorem dX7_fileKey_1 : decode cX7_fileKey 1 = .ok (.getfield 22, 3) := by decide +kernel
theorem dX7_fileKey_4 : decode cX7_fileKey 4 = .ok (.getfield 283, 3) := by decide +kernel
theorem dX7_fileKey_7 : decode cX7_fileKey 7 = .ok (.sipush 10000, 3) := by decide +kernel
theorem dX7_fileKey_10 : decode cX7_fileKey 10 = .ok (.imul, 1) := by decide +kernel
theorem dX7_fileKey_11 : decode cX7_fileKey 11 = .ok (.aload_n 0, 1) := by decide +kernel
theorem dX7_fileKey_12 : decode cX7_fileKey 12 = .ok (.getfield 22, 3) := by decide +kernel
theorem dX7_fileKey_15 : decode cX7_fileKey 15 = .ok (.getfield 295, 3) := by decide +kernel
theorem dX7_fileKey_18 : decode cX7_fileKey 18 = .ok (.iadd, 1) := by decide +kernel
theorem dX7_fileKey_19 : decode cX7_fileKey 19 = .ok (.ireturn, 1) := by decide +kernel
theorem dX7_wasAccepted_0 : decode cX7_wasAccepted 0 = .ok (.iconst 0, 1) := by decide +kernel
theorem dX7_wasAccepted_1 : decode cX7_wasAccepted 1 = .ok (.istore_n 2, 1) := by decide +kernel
theorem dX7_wasAccepted_2 : decode cX7_wasAccepted 2 = .ok (.iload_n 2, 1) := by decide +kernel
theorem dX7_wasAccepted_3 : decode cX7_wasAccepted 3 = .ok (.aload_n 0, 1) := by decide +kernel
theorem dX7_wasAccepted_4 : decode cX7_wasAccepted 4 = .ok (.getfield 30, 3) := by decide +kernel
theorem dX7_wasAccepted_7 : decode cX7_wasAccepted 7 = .ok (.if_icmp .ge 21, 3) := by decide +kernel
theorem dX7_wasAccepted_10 : decode cX7_wasAccepted 10 = .ok (.aload_n 0, 1) := by decide +kernel
theorem dX7_wasAccepted_11 : decode cX7_wasAccepted 11 = .ok (.getfield 26, 3) := by decide +kernel
theorem dX7_wasAccepted_14 : decode cX7_wasAccepted 14 = .ok (.iload_n 2, 1) := by decide +kernel
theorem dX7_wasAccepted_15 : decode cX7_wasAccepted 15 = .ok (.iaload, 1) := by decide +kernel
theorem dX7_wasAccepted_16 : decode cX7_wasAccepted 16 = .ok (.iload_n 1, 1) := by decide +kernel
theorem dX7_wasAccepted_17 : decode cX7_wasAccepted 17 = .ok (.if_icmp .ne 5, 3) := by decide +kernel
theorem dX7_wasAccepted_20 : decode cX7_wasAccepted 20 = .ok (.iconst 1, 1) := by decide +kernel
theorem dX7_wasAccepted_21 : decode cX7_wasAccepted 21 = .ok (.ireturn, 1) := by decide +kernel
theorem dX7_wasAccepted_22 : decode cX7_wasAccepted 22 = .ok (.iinc 2 1, 3) := by decide +kernel
theorem dX7_wasAccepted_25 : decode cX7_wasAccepted 25 = .ok (.goto (-23), 3) := by decide +kernel
theorem dX7_wasAccepted_28 : decode cX7_wasAccepted 28 = .ok (.iconst 0, 1) := by decide +kernel
theorem dX7_wasAccepted_29 : decode cX7_wasAccepted 29 = .ok (.ireturn, 1) := by decide +kernel
theorem dX7_keepAsAccepted_0 : decode cX7_keepAsAccepted 0 = .ok (.aload_n 0, 1) := by decide +kernel
theorem dX7_keepAsAccepted_1 : decode cX7_keepAsAccepted 1 = .ok (.getfield 30, 3) := by decide +kernel
theorem dX7_keepAsAccepted_4 : decode cX7_keepAsAccepted 4 = .ok (.aload_n 0, 1) := by decide +kernel
theorem dX7_keepAsAccepted_5 : decode cX7_keepAsAccepted 5 = .ok (.getfield 26, 3) := by decide +kernel
theorem dX7_keepAsAccepted_8 : decode cX7_keepAsAccepted 8 = .ok (.arraylength, 1) := by decide +kernel
theorem dX7_keepAsAccepted_9 : decode cX7_keepAsAccepted 9 = .ok (.if_icmp .ge 23, 3) := by decide +kernel
theorem dX7_keepAsAccepted_12 : decode cX7_keepAsAccepted 12 = .ok (.aload_n 0, 1) := by decide +kernel
theorem dX7_keepAsAccepted_13 : decode cX7_keepAsAccepted 13 = .ok (.getfield 26, 3) := by decide +kernel
theorem dX7_keepAsAccepted_16 : decode cX7_keepAsAccepted 16 = .ok (.aload_n 0, 1) := by decide +kernel
theorem dX7_keepAsAccepted_17 : decode cX7_keepAsAccepted 17 = .ok (.getfield 30, 3) := by decide +kernel
theorem dX7_keepAsAccepted_20 : decode cX7_keepAsAccepted 20 = .ok (.iload_n 1, 1) := by decide +kernel
theorem dX7_keepAsAccepted_21 : decode cX7_keepAsAccepted 21 = .ok (.iastore, 1) := by decide +kernel
theorem dX7_keepAsAccepted_22 : decode cX7_keepAsAccepted 22 = .ok (.aload_n 0, 1) := by decide +kernel
theorem dX7_keepAsAccepted_23 : decode cX7_keepAsAccepted 23 = .ok (.dup, 1) := by decide +kernel
theorem dX7_keepAsAccepted_24 : decode cX7_keepAsAccepted 24 = .ok (.getfield 30, 3) := by decide +kernel
theorem dX7_keepAsAccepted_27 : decode cX7_keepAsAccepted 27 = .ok (.iconst 1, 1) := by decide +kernel
theorem dX7_keepAsAccepted_28 : decode cX7_keepAsAccepted 28 = .ok (.iadd, 1) := by decide +kernel
theorem dX7_keepAsAccepted_29 : decode cX7_keepAsAccepted 29 = .ok (.putfield 30, 3) := by decide +kernel
theorem dX7_keepAsAccepted_32 : decode cX7_keepAsAccepted 32 = .ok (.return_, 1) := by decide +kernel
set_option maxRecDepth 20000 in
theorem ggX7_waitingInAll_Jx4a65c_size_8abf5 : GoodIn wsX7_waitingInAll wsJx4a65c_size_8abf5 := goodIn_r _ [8, 9, 40, 41, 42] (by decide +kernel) (by decide +kernel)
set_option maxRecDepth 20000 in
theorem gX7_waitingInAll_Jx4a65c_size_8abf5 : GoodIn wsX7_waitingInAll (wsV RX7 48 RJx4a65c yJx4a65c_size_8abf5 wsJx4a65c_size_8abf5) := goodIn_app (goodIn_of _ (by decide +kernel)) ggX7_waitingInAll_Jx4a65c_size_8abf5
set_option maxRecDepth 20000 in
theorem ggX7_waitingInAll_Jx4a65c_get_915e3 : GoodIn wsX7_waitingInAll wsJx4a65c_get_915e3 := goodIn_r _ [13, 9, 14, 15, 16, 17, 18, 19, 20, 21, 22, 23, 24, 7, 25, 26, 40, 41, 42] (by decide +kernel) (by decide +kernel)
set_option maxRecDepth 20000 in
theorem gX7_waitingInAll_Jx4a65c_get_915e3 : GoodIn wsX7_waitingInAll (wsV RX7 147 RJx4a65c yJx4a65c_get_915e3 wsJx4a65c_get_915e3) := goodIn_app (goodIn_of _ (by decide +kernel)) ggX7_waitingInAll_Jx4a65c_get_915e3
theorem dX7_waitingInAll_0 : decode cX7_waitingInAll 0 = .ok (.iconst 0, 1) := by decide +kernel
theorem dX7_waitingInAll_1 : decode cX7_waitingInAll 1 = .ok (.istore_n 1, 1) := by decide +kernel
theorem dX7_waitingInAll_2 : decode cX7_waitingInAll 2 = .ok (.iconst 0, 1) := by decide +kernel
theorem dX7_waitingInAll_3 : decode cX7_waitingInAll 3 = .ok (.istore_n 2, 1) := by decide +kernel
theorem dX7_waitingInAll_4 : decode cX7_waitingInAll 4 = .ok (.iload_n 2, 1) := by decide +kernel
theorem dX7_waitingInAll_5 : decode cX7_waitingInAll 5 = .ok (.aload_n 0, 1) := by decide +kernel
theorem dX7_waitingInAll_6 : decode cX7_waitingInAll 6 = .ok (.getfield 10, 3) := by decide +kernel
theorem dX7_waitingInAll_9 : decode cX7_waitingInAll 9 = .ok (.invokevirtual 48, 3) := by decide +kernel
theorem dX7_waitingInAll_12 : decode cX7_waitingInAll 12 = .ok (.if_icmp .ge 29, 3) := by decide +kernel
theorem dX7_waitingInAll_15 : decode cX7_waitingInAll 15 = .ok (.iload_n 1, 1) := by decide +kernel
theorem dX7_waitingInAll_16 : decode cX7_waitingInAll 16 = .ok (.aload_n 0, 1) := by decide +kernel
theorem dX7_waitingInAll_17 : decode cX7_waitingInAll 17 = .ok (.getfield 10, 3) := by decide +kernel
theorem dX7_waitingInAll_20 : decode cX7_waitingInAll 20 = .ok (.iload_n 2, 1) := by decide +kernel
theorem dX7_waitingInAll_21 : decode cX7_waitingInAll 21 = .ok (.invokevirtual 147, 3) := by decide +kernel
theorem dX7_waitingInAll_24 : decode cX7_waitingInAll 24 = .ok (.checkcast 52, 3) := by decide +kernel
theorem dX7_waitingInAll_27 : decode cX7_waitingInAll 27 = .ok (.getfield 213, 3) := by decide +kernel
theorem dX7_waitingInAll_30 : decode cX7_waitingInAll 30 = .ok (.invokevirtual 48, 3) := by decide +kernel
theorem dX7_waitingInAll_33 : decode cX7_waitingInAll 33 = .ok (.iadd, 1) := by decide +kernel
theorem dX7_waitingInAll_34 : decode cX7_waitingInAll 34 = .ok (.istore_n 1, 1) := by decide +kernel
theorem dX7_waitingInAll_35 : decode cX7_waitingInAll 35 = .ok (.iinc 2 1, 3) := by decide +kernel
theorem dX7_waitingInAll_38 : decode cX7_waitingInAll 38 = .ok (.goto (-34), 3) := by decide +kernel
theorem dX7_waitingInAll_41 : decode cX7_waitingInAll 41 = .ok (.iload_n 1, 1) := by decide +kernel
theorem dX7_waitingInAll_42 : decode cX7_waitingInAll 42 = .ok (.ireturn, 1) := by decide +kernel
set_option maxRecDepth 20000 in
theorem ggX7_judgeBatches_X7_reasonAgainstBatch : GoodIn wsX7_judgeBatches wsX7_reasonAgainstBatch := goodIn_r _ [10, 11, 5, 12, 13, 14, 15, 16, 17, 18, 9, 19, 20, 21, 22, 23, 24, 25, 26, 27, 28, 29, 30, 31, 32, 33, 34, 35, 36, 37, 38, 39, 40, 41, 42, 43, 44, 45, 81, 82, 83, 84, 85, 86, 87, 88, 89, 66, 67, 68, 69, 70, 71, 72, 90, 91, 92, 93, 94, 95, 96, 97, 98] (by decide +kernel) (by decide +kernel)
set_option maxRecDepth 20000 in
theorem gX7_judgeBatches_X7_reasonAgainstBatch : GoodIn wsX7_judgeBatches (wsV RX7 296 RX7 yX7_reasonAgainstBatch wsX7_reasonAgainstBatch) := goodIn_app (goodIn_of _ (by decide +kernel)) ggX7_judgeBatches_X7_reasonAgainstBatch
set_option maxRecDepth 20000 in
theorem ggX7_judgeBatches_X7_judgeEntries : GoodIn wsX7_judgeBatches wsX7_judgeEntries := goodIn_r _ [49, 50, 51, 12, 52, 11, 53, 54, 55, 56, 23, 24, 25, 26, 27, 28, 29, 30, 31, 32, 33, 34, 35, 36, 37, 38, 39, 40, 41, 42, 43, 44, 45, 16, 17, 18, 9, 19, 20, 21, 22, 57, 58, 59, 60, 61, 62, 63, 64, 65, 81, 82, 83, 84, 85, 86, 87, 88, 89, 99, 100, 101, 102, 103, 104, 105, 106, 107, 96, 97, 98, 66, 67, 68, 69, 70, 71, 72, 90, 91, 92, 93, 94, 95] (by decide +kernel) (by decide +kernel)
set_option maxRecDepth 20000 in
theorem gX7_judgeBatches_X7_judgeEntries : GoodIn wsX7_judgeBatches (wsV RX7 301 RX7 yX7_judgeEntries wsX7_judgeEntries) := goodIn_app (goodIn_of _ (by decide +kernel)) ggX7_judgeBatches_X7_judgeEntries
theorem dX7_judgeBatches_0 : decode cX7_judgeBatches 0 = .ok (.iconst 0, 1) := by decide +kernel
theorem dX7_judgeBatches_1 : decode cX7_judgeBatches 1 = .ok (.istore_n 1, 1) := by decide +kernel
theorem dX7_judgeBatches_2 : decode cX7_judgeBatches 2 = .ok (.iconst (-1), 1) := by decide +kernel
theorem dX7_judgeBatches_3 : decode cX7_judgeBatches 3 = .ok (.istore_n 2, 1) := by decide +kernel
theorem dX7_judgeBatches_4 : decode cX7_judgeBatches 4 = .ok (.iconst 0, 1) := by decide +kernel
theorem dX7_judgeBatches_5 : decode cX7_judgeBatches 5 = .ok (.istore_n 3, 1) := by decide +kernel
theorem dX7_judgeBatches_6 : decode cX7_judgeBatches 6 = .ok (.iload_n 3, 1) := by decide +kernel
theorem dX7_judgeBatches_7 : decode cX7_judgeBatches 7 = .ok (.aload_n 0, 1) := by decide +kernel
theorem dX7_judgeBatches_8 : decode cX7_judgeBatches 8 = .ok (.getfield 22, 3) := by decide +kernel
theorem dX7_judgeBatches_11 : decode cX7_judgeBatches 11 = .ok (.getfield 231, 3) := by decide +kernel
theorem dX7_judgeBatches_14 : decode cX7_judgeBatches 14 = .ok (.if_icmp .ge 55, 3) := by decide +kernel
theorem dX7_judgeBatches_17 : decode cX7_judgeBatches 17 = .ok (.aload_n 0, 1) := by decide +kernel
theorem dX7_judgeBatches_18 : decode cX7_judgeBatches 18 = .ok (.getfield 22, 3) := by decide +kernel
theorem dX7_judgeBatches_21 : decode cX7_judgeBatches 21 = .ok (.getfield 234, 3) := by decide +kernel
theorem dX7_judgeBatches_24 : decode cX7_judgeBatches 24 = .ok (.iload_n 3, 1) := by decide +kernel
theorem dX7_judgeBatches_25 : decode cX7_judgeBatches 25 = .ok (.aaload, 1) := by decide +kernel
theorem dX7_judgeBatches_26 : decode cX7_judgeBatches 26 = .ok (.astore 4, 2) := by decide +kernel
theorem dX7_judgeBatches_28 : decode cX7_judgeBatches 28 = .ok (.aload 4, 2) := by decide +kernel
theorem dX7_judgeBatches_30 : decode cX7_judgeBatches 30 = .ok (.aload_n 0, 1) := by decide +kernel
theorem dX7_judgeBatches_31 : decode cX7_judgeBatches 31 = .ok (.aload 4, 2) := by decide +kernel
theorem dX7_judgeBatches_33 : decode cX7_judgeBatches 33 = .ok (.iload_n 2, 1) := by decide +kernel
theorem dX7_judgeBatches_34 : decode cX7_judgeBatches 34 = .ok (.invokevirtual 296, 3) := by decide +kernel
theorem dX7_judgeBatches_37 : decode cX7_judgeBatches 37 = .ok (.putfield 300, 3) := by decide +kernel
theorem dX7_judgeBatches_40 : decode cX7_judgeBatches 40 = .ok (.aload 4, 2) := by decide +kernel
theorem dX7_judgeBatches_42 : decode cX7_judgeBatches 42 = .ok (.getfield 300, 3) := by decide +kernel
theorem dX7_judgeBatches_45 : decode cX7_judgeBatches 45 = .ok (.ifCond .ne 12, 3) := by decide +kernel
theorem dX7_judgeBatches_48 : decode cX7_judgeBatches 48 = .ok (.iload_n 1, 1) := by decide +kernel
theorem dX7_judgeBatches_49 : decode cX7_judgeBatches 49 = .ok (.aload_n 0, 1) := by decide +kernel
theorem dX7_judgeBatches_50 : decode cX7_judgeBatches 50 = .ok (.aload 4, 2) := by decide +kernel
theorem dX7_judgeBatches_52 : decode cX7_judgeBatches 52 = .ok (.invokevirtual 301, 3) := by decide +kernel
theorem dX7_judgeBatches_55 : decode cX7_judgeBatches 55 = .ok (.iadd, 1) := by decide +kernel
theorem dX7_judgeBatches_56 : decode cX7_judgeBatches 56 = .ok (.istore_n 1, 1) := by decide +kernel
theorem dX7_judgeBatches_57 : decode cX7_judgeBatches 57 = .ok (.aload 4, 2) := by decide +kernel
theorem dX7_judgeBatches_59 : decode cX7_judgeBatches 59 = .ok (.getfield 305, 3) := by decide +kernel
theorem dX7_judgeBatches_62 : decode cX7_judgeBatches 62 = .ok (.istore_n 2, 1) := by decide +kernel
theorem dX7_judgeBatches_63 : decode cX7_judgeBatches 63 = .ok (.iinc 3 1, 3) := by decide +kernel
theorem dX7_judgeBatches_66 : decode cX7_judgeBatches 66 = .ok (.goto (-60), 3) := by decide +kernel
theorem dX7_judgeBatches_69 : decode cX7_judgeBatches 69 = .ok (.iload_n 1, 1) := by decide +kernel
theorem dX7_judgeBatches_70 : decode cX7_judgeBatches 70 = .ok (.ireturn, 1) := by decide +kernel
set_option maxRecDepth 20000 in
theorem ggX7_reasonAgainstBatch_X7_bankWithRouting : GoodIn wsX7_reasonAgainstBatch wsX7_bankWithRouting := goodIn_r _ [11, 12, 13, 14, 15, 16, 17, 18, 19, 20, 21, 22, 23, 24, 25, 26, 27, 28, 29, 30, 31, 32, 33, 34, 35, 36, 37, 47, 48, 49, 50, 51, 52, 53, 54, 55, 56, 57, 58, 59, 60, 61, 62] (by decide +kernel) (by decide +kernel)
set_option maxRecDepth 20000 in
theorem gX7_reasonAgainstBatch_X7_bankWithRouting : GoodIn wsX7_reasonAgainstBatch (wsV RX7 44 RX7 yX7_bankWithRouting wsX7_bankWithRouting) := goodIn_app (goodIn_of _ (by decide +kernel)) ggX7_reasonAgainstBatch_X7_bankWithRouting
theorem dX7_reasonAgainstBatch_0 : decode cX7_reasonAgainstBatch 0 = .ok (.aload_n 0, 1) := by decide +kernel
theorem dX7_reasonAgainstBatch_1 : decode cX7_reasonAgainstBatch 1 = .ok (.aload_n 1, 1) := by decide +kernel
theorem dX7_reasonAgainstBatch_2 : decode cX7_reasonAgainstBatch 2 = .ok (.getfield 306, 3) := by decide +kernel
theorem dX7_reasonAgainstBatch_5 : decode cX7_reasonAgainstBatch 5 = .ok (.invokevirtual 44, 3) := by decide +kernel
theorem dX7_reasonAgainstBatch_8 : decode cX7_reasonAgainstBatch 8 = .ok (.ifnonnull 6, 3) := by decide +kernel
theorem dX7_reasonAgainstBatch_11 : decode cX7_reasonAgainstBatch 11 = .ok (.bipush 20, 2) := by decide +kernel
theorem dX7_reasonAgainstBatch_13 : decode cX7_reasonAgainstBatch 13 = .ok (.ireturn, 1) := by decide +kernel
theorem dX7_reasonAgainstBatch_14 : decode cX7_reasonAgainstBatch 14 = .ok (.aload_n 1, 1) := by decide +kernel
theorem dX7_reasonAgainstBatch_15 : decode cX7_reasonAgainstBatch 15 = .ok (.getfield 305, 3) := by decide +kernel
theorem dX7_reasonAgainstBatch_18 : decode cX7_reasonAgainstBatch 18 = .ok (.iload_n 2, 1) := by decide +kernel
theorem dX7_reasonAgainstBatch_19 : decode cX7_reasonAgainstBatch 19 = .ok (.if_icmp .gt 6, 3) := by decide +kernel
theorem dX7_reasonAgainstBatch_22 : decode cX7_reasonAgainstBatch 22 = .ok (.bipush 21, 2) := by decide +kernel
theorem dX7_reasonAgainstBatch_24 : decode cX7_reasonAgainstBatch 24 = .ok (.ireturn, 1) := by decide +kernel
theorem dX7_reasonAgainstBatch_25 : decode cX7_reasonAgainstBatch 25 = .ok (.aload_n 1, 1) := by decide +kernel
theorem dX7_reasonAgainstBatch_26 : decode cX7_reasonAgainstBatch 26 = .ok (.getfield 308, 3) := by decide +kernel
theorem dX7_reasonAgainstBatch_29 : decode cX7_reasonAgainstBatch 29 = .ok (.aload_n 0, 1) := by decide +kernel
theorem dX7_reasonAgainstBatch_30 : decode cX7_reasonAgainstBatch 30 = .ok (.getfield 37, 3) := by decide +kernel
theorem dX7_reasonAgainstBatch_33 : decode cX7_reasonAgainstBatch 33 = .ok (.if_icmp .ge 6, 3) := by decide +kernel
theorem dX7_reasonAgainstBatch_36 : decode cX7_reasonAgainstBatch 36 = .ok (.bipush 22, 2) := by decide +kernel
theorem dX7_reasonAgainstBatch_38 : decode cX7_reasonAgainstBatch 38 = .ok (.ireturn, 1) := by decide +kernel
theorem dX7_reasonAgainstBatch_39 : decode cX7_reasonAgainstBatch 39 = .ok (.aload_n 1, 1) := by decide +kernel
theorem dX7_reasonAgainstBatch_40 : decode cX7_reasonAgainstBatch 40 = .ok (.getfield 264, 3) := by decide +kernel
theorem dX7_reasonAgainstBatch_43 : decode cX7_reasonAgainstBatch 43 = .ok (.ifCond .ne 6, 3) := by decide +kernel
theorem dX7_reasonAgainstBatch_46 : decode cX7_reasonAgainstBatch 46 = .ok (.bipush 23, 2) := by decide +kernel
theorem dX7_reasonAgainstBatch_48 : decode cX7_reasonAgainstBatch 48 = .ok (.ireturn, 1) := by decide +kernel
theorem dX7_reasonAgainstBatch_49 : decode cX7_reasonAgainstBatch 49 = .ok (.aload_n 1, 1) := by decide +kernel
theorem dX7_reasonAgainstBatch_50 : decode cX7_reasonAgainstBatch 50 = .ok (.getfield 311, 3) := by decide +kernel
theorem dX7_reasonAgainstBatch_53 : decode cX7_reasonAgainstBatch 53 = .ok (.ifCond .eq 7, 3) := by decide +kernel
theorem dX7_reasonAgainstBatch_56 : decode cX7_reasonAgainstBatch 56 = .ok (.iconst 0, 1) := by decide +kernel
theorem dX7_reasonAgainstBatch_57 : decode cX7_reasonAgainstBatch 57 = .ok (.goto 5, 3) := by decide +kernel
theorem dX7_reasonAgainstBatch_60 : decode cX7_reasonAgainstBatch 60 = .ok (.bipush 24, 2) := by decide +kernel
theorem dX7_reasonAgainstBatch_62 : decode cX7_reasonAgainstBatch 62 = .ok (.ireturn, 1) := by decide +kernel
set_option maxRecDepth 20000 in
theorem ggX7_judgeEntries_Jx4a65c_size_8abf5 : GoodIn wsX7_judgeEntries wsJx4a65c_size_8abf5 := goodIn_r _ [14, 15, 68, 69, 70] (by decide +kernel) (by decide +kernel)
set_option maxRecDepth 20000 in
theorem gX7_judgeEntries_Jx4a65c_size_8abf5 : GoodIn wsX7_judgeEntries (wsV RX7 48 RJx4a65c yJx4a65c_size_8abf5 wsJx4a65c_size_8abf5) := goodIn_app (goodIn_of _ (by decide +kernel)) ggX7_judgeEntries_Jx4a65c_size_8abf5
set_option maxRecDepth 20000 in
theorem ggX7_judgeEntries_Jx4a65c_get_915e3 : GoodIn wsX7_judgeEntries wsJx4a65c_get_915e3 := goodIn_r _ [19, 15, 20, 21, 22, 23, 24, 25, 26, 27, 28, 29, 30, 13, 31, 32, 68, 69, 70] (by decide +kernel) (by decide +kernel)
set_option maxRecDepth 20000 in
theorem gX7_judgeEntries_Jx4a65c_get_915e3 : GoodIn wsX7_judgeEntries (wsV RX7 147 RJx4a65c yJx4a65c_get_915e3 wsJx4a65c_get_915e3) := goodIn_app (goodIn_of _ (by decide +kernel)) ggX7_judgeEntries_Jx4a65c_get_915e3
set_option maxRecDepth 20000 in
theorem ggX7_judgeEntries_X7_bankWithRouting : GoodIn wsX7_judgeEntries wsX7_bankWithRouting := goodIn_r _ [37, 38, 39, 40, 10, 11, 12, 13, 14, 15, 16, 17, 18, 19, 20, 21, 22, 23, 24, 25, 26, 27, 28, 29, 30, 31, 32, 71, 72, 73, 74, 75, 76, 77, 78, 79, 80, 81, 82, 83, 68, 69, 70] (by decide +kernel) (by decide +kernel)
set_option maxRecDepth 20000 in
theorem gX7_judgeEntries_X7_bankWithRouting : GoodIn wsX7_judgeEntries (wsV RX7 44 RX7 yX7_bankWithRouting wsX7_bankWithRouting) := goodIn_app (goodIn_of _ (by decide +kernel)) ggX7_judgeEntries_X7_bankWithRouting
set_option maxRecDepth 20000 in
theorem ggX7_judgeEntries_X7_reasonAgainstEntry : GoodIn wsX7_judgeEntries wsX7_reasonAgainstEntry := goodIn_r _ [43, 7, 8, 44, 45, 46, 47, 36, 48, 49, 59, 60, 61, 62, 63, 64, 65, 66, 67] (by decide +kernel) (by decide +kernel)
set_option maxRecDepth 20000 in
theorem gX7_judgeEntries_X7_reasonAgainstEntry : GoodIn wsX7_judgeEntries (va_wsS RX7 316 yX7_reasonAgainstEntry wsX7_reasonAgainstEntry) := goodIn_app (goodIn_of _ (by decide +kernel)) ggX7_judgeEntries_X7_reasonAgainstEntry
theorem dX7_judgeEntries_0 : decode cX7_judgeEntries 0 = .ok (.iconst 0, 1) := by decide +kernel
theorem dX7_judgeEntries_1 : decode cX7_judgeEntries 1 = .ok (.istore_n 2, 1) := by decide +kernel
theorem dX7_judgeEntries_2 : decode cX7_judgeEntries 2 = .ok (.iconst 0, 1) := by decide +kernel
theorem dX7_judgeEntries_3 : decode cX7_judgeEntries 3 = .ok (.istore_n 3, 1) := by decide +kernel
theorem dX7_judgeEntries_4 : decode cX7_judgeEntries 4 = .ok (.iload_n 3, 1) := by decide +kernel
theorem dX7_judgeEntries_5 : decode cX7_judgeEntries 5 = .ok (.aload_n 1, 1) := by decide +kernel
theorem dX7_judgeEntries_6 : decode cX7_judgeEntries 6 = .ok (.getfield 314, 3) := by decide +kernel
theorem dX7_judgeEntries_9 : decode cX7_judgeEntries 9 = .ok (.invokevirtual 48, 3) := by decide +kernel
theorem dX7_judgeEntries_12 : decode cX7_judgeEntries 12 = .ok (.if_icmp .ge 79, 3) := by decide +kernel
theorem dX7_judgeEntries_15 : decode cX7_judgeEntries 15 = .ok (.aload_n 1, 1) := by decide +kernel
theorem dX7_judgeEntries_16 : decode cX7_judgeEntries 16 = .ok (.getfield 314, 3) := by decide +kernel
theorem dX7_judgeEntries_19 : decode cX7_judgeEntries 19 = .ok (.iload_n 3, 1) := by decide +kernel
theorem dX7_judgeEntries_20 : decode cX7_judgeEntries 20 = .ok (.invokevirtual 147, 3) := by decide +kernel
theorem dX7_judgeEntries_23 : decode cX7_judgeEntries 23 = .ok (.checkcast 151, 3) := by decide +kernel
theorem dX7_judgeEntries_26 : decode cX7_judgeEntries 26 = .ok (.astore 4, 2) := by decide +kernel
theorem dX7_judgeEntries_28 : decode cX7_judgeEntries 28 = .ok (.aload 4, 2) := by decide +kernel
theorem dX7_judgeEntries_30 : decode cX7_judgeEntries 30 = .ok (.aload_n 1, 1) := by decide +kernel
theorem dX7_judgeEntries_31 : decode cX7_judgeEntries 31 = .ok (.getfield 308, 3) := by decide +kernel
theorem dX7_judgeEntries_34 : decode cX7_judgeEntries 34 = .ok (.putfield 315, 3) := by decide +kernel
theorem dX7_judgeEntries_37 : decode cX7_judgeEntries 37 = .ok (.aload 4, 2) := by decide +kernel
theorem dX7_judgeEntries_39 : decode cX7_judgeEntries 39 = .ok (.aload_n 0, 1) := by decide +kernel
theorem dX7_judgeEntries_40 : decode cX7_judgeEntries 40 = .ok (.aload_n 1, 1) := by decide +kernel
theorem dX7_judgeEntries_41 : decode cX7_judgeEntries 41 = .ok (.getfield 306, 3) := by decide +kernel
theorem dX7_judgeEntries_44 : decode cX7_judgeEntries 44 = .ok (.invokevirtual 44, 3) := by decide +kernel
theorem dX7_judgeEntries_47 : decode cX7_judgeEntries 47 = .ok (.putfield 167, 3) := by decide +kernel
theorem dX7_judgeEntries_50 : decode cX7_judgeEntries 50 = .ok (.aload 4, 2) := by decide +kernel
theorem dX7_judgeEntries_52 : decode cX7_judgeEntries 52 = .ok (.aload_n 0, 1) := by decide +kernel
theorem dX7_judgeEntries_53 : decode cX7_judgeEntries 53 = .ok (.aload 4, 2) := by decide +kernel
theorem dX7_judgeEntries_55 : decode cX7_judgeEntries 55 = .ok (.getfield 254, 3) := by decide +kernel
theorem dX7_judgeEntries_58 : decode cX7_judgeEntries 58 = .ok (.invokevirtual 44, 3) := by decide +kernel
theorem dX7_judgeEntries_61 : decode cX7_judgeEntries 61 = .ok (.putfield 160, 3) := by decide +kernel
theorem dX7_judgeEntries_64 : decode cX7_judgeEntries 64 = .ok (.aload 4, 2) := by decide +kernel
theorem dX7_judgeEntries_66 : decode cX7_judgeEntries 66 = .ok (.aload 4, 2) := by decide +kernel
theorem dX7_judgeEntries_68 : decode cX7_judgeEntries 68 = .ok (.invokestatic 316, 3) := by decide +kernel
theorem dX7_judgeEntries_71 : decode cX7_judgeEntries 71 = .ok (.putfield 179, 3) := by decide +kernel
theorem dX7_judgeEntries_74 : decode cX7_judgeEntries 74 = .ok (.aload 4, 2) := by decide +kernel
theorem dX7_judgeEntries_76 : decode cX7_judgeEntries 76 = .ok (.getfield 179, 3) := by decide +kernel
theorem dX7_judgeEntries_79 : decode cX7_judgeEntries 79 = .ok (.ifCond .ne 6, 3) := by decide +kernel
theorem dX7_judgeEntries_82 : decode cX7_judgeEntries 82 = .ok (.iinc 2 1, 3) := by decide +kernel
theorem dX7_judgeEntries_85 : decode cX7_judgeEntries 85 = .ok (.iinc 3 1, 3) := by decide +kernel
theorem dX7_judgeEntries_88 : decode cX7_judgeEntries 88 = .ok (.goto (-84), 3) := by decide +kernel
theorem dX7_judgeEntries_91 : decode cX7_judgeEntries 91 = .ok (.iload_n 2, 1) := by decide +kernel
theorem dX7_judgeEntries_92 : decode cX7_judgeEntries 92 = .ok (.ireturn, 1) := by decide +kernel
set_option maxRecDepth 20000 in
theorem ggX7_reasonAgainstEntry_X7_isRight : GoodIn wsX7_reasonAgainstEntry wsX7_isRight := goodIn_r _ [8, 9] (by decide +kernel) (by decide +kernel)
set_option maxRecDepth 20000 in
theorem gX7_reasonAgainstEntry_X7_isRight : GoodIn wsX7_reasonAgainstEntry (va_wsS RX7 40 yX7_isRight wsX7_isRight) := goodIn_app (goodIn_of _ (by decide +kernel)) ggX7_reasonAgainstEntry_X7_isRight
theorem dX7_reasonAgainstEntry_0 : decode cX7_reasonAgainstEntry 0 = .ok (.aload_n 0, 1) := by decide +kernel
theorem dX7_reasonAgainstEntry_1 : decode cX7_reasonAgainstEntry 1 = .ok (.getfield 254, 3) := by decide +kernel
theorem dX7_reasonAgainstEntry_4 : decode cX7_reasonAgainstEntry 4 = .ok (.iconst 4, 1) := by decide +kernel
theorem dX7_reasonAgainstEntry_5 : decode cX7_reasonAgainstEntry 5 = .ok (.invokestatic 40, 3) := by decide +kernel
theorem dX7_reasonAgainstEntry_8 : decode cX7_reasonAgainstEntry 8 = .ok (.ifCond .ne 6, 3) := by decide +kernel
theorem dX7_reasonAgainstEntry_11 : decode cX7_reasonAgainstEntry 11 = .ok (.bipush 30, 2) := by decide +kernel
theorem dX7_reasonAgainstEntry_13 : decode cX7_reasonAgainstEntry 13 = .ok (.ireturn, 1) := by decide +kernel
theorem dX7_reasonAgainstEntry_14 : decode cX7_reasonAgainstEntry 14 = .ok (.aload_n 0, 1) := by decide +kernel
theorem dX7_reasonAgainstEntry_15 : decode cX7_reasonAgainstEntry 15 = .ok (.getfield 160, 3) := by decide +kernel
theorem dX7_reasonAgainstEntry_18 : decode cX7_reasonAgainstEntry 18 = .ok (.ifnonnull 6, 3) := by decide +kernel
theorem dX7_reasonAgainstEntry_21 : decode cX7_reasonAgainstEntry 21 = .ok (.bipush 31, 2) := by decide +kernel
theorem dX7_reasonAgainstEntry_23 : decode cX7_reasonAgainstEntry 23 = .ok (.ireturn, 1) := by decide +kernel
theorem dX7_reasonAgainstEntry_24 : decode cX7_reasonAgainstEntry 24 = .ok (.aload_n 0, 1) := by decide +kernel
theorem dX7_reasonAgainstEntry_25 : decode cX7_reasonAgainstEntry 25 = .ok (.getfield 157, 3) := by decide +kernel
theorem dX7_reasonAgainstEntry_28 : decode cX7_reasonAgainstEntry 28 = .ok (.iconst 2, 1) := by decide +kernel
theorem dX7_reasonAgainstEntry_29 : decode cX7_reasonAgainstEntry 29 = .ok (.if_icmp .eq 15, 3) := by decide +kernel
theorem dX7_reasonAgainstEntry_32 : decode cX7_reasonAgainstEntry 32 = .ok (.aload_n 0, 1) := by decide +kernel
theorem dX7_reasonAgainstEntry_33 : decode cX7_reasonAgainstEntry 33 = .ok (.getfield 157, 3) := by decide +kernel
theorem dX7_reasonAgainstEntry_36 : decode cX7_reasonAgainstEntry 36 = .ok (.bipush 7, 2) := by decide +kernel
theorem dX7_reasonAgainstEntry_38 : decode cX7_reasonAgainstEntry 38 = .ok (.if_icmp .eq 6, 3) := by decide +kernel
theorem dX7_reasonAgainstEntry_41 : decode cX7_reasonAgainstEntry 41 = .ok (.bipush 32, 2) := by decide +kernel
theorem dX7_reasonAgainstEntry_43 : decode cX7_reasonAgainstEntry 43 = .ok (.ireturn, 1) := by decide +kernel
theorem dX7_reasonAgainstEntry_44 : decode cX7_reasonAgainstEntry 44 = .ok (.aload_n 0, 1) := by decide +kernel
theorem dX7_reasonAgainstEntry_45 : decode cX7_reasonAgainstEntry 45 = .ok (.getfield 173, 3) := by decide +kernel
theorem dX7_reasonAgainstEntry_48 : decode cX7_reasonAgainstEntry 48 = .ok (.ifCond .ne 8, 3) := by decide +kernel
theorem dX7_reasonAgainstEntry_51 : decode cX7_reasonAgainstEntry 51 = .ok (.bipush 33, 2) := by decide +kernel
theorem dX7_reasonAgainstEntry_53 : decode cX7_reasonAgainstEntry 53 = .ok (.goto 4, 3) := by decide +kernel
theorem dX7_reasonAgainstEntry_56 : decode cX7_reasonAgainstEntry 56 = .ok (.iconst 0, 1) := by decide +kernel
theorem dX7_reasonAgainstEntry_57 : decode cX7_reasonAgainstEntry 57 = .ok (.ireturn, 1) := by decide +kernel
set_option maxRecDepth 20000 in
theorem ggX7_acceptBatches_X7_countRefusal : GoodIn wsX7_acceptBatches wsX7_countRefusal := goodIn_r _ [9, 10, 96, 97, 98, 99, 100, 101, 102] (by decide +kernel) (by decide +kernel)
set_option maxRecDepth 20000 in
theorem gX7_acceptBatches_X7_countRefusal : GoodIn wsX7_acceptBatches (wsV RX7 270 RX7 yX7_countRefusal wsX7_countRefusal) := goodIn_app (goodIn_of _ (by decide +kernel)) ggX7_acceptBatches_X7_countRefusal
set_option maxRecDepth 20000 in
theorem ggX7_acceptBatches_X7_acceptEntries : GoodIn wsX7_acceptBatches wsX7_acceptEntries := goodIn_r _ [14, 15, 16, 17, 18, 19, 20, 21, 22, 23, 24, 25, 26, 27, 28, 29, 30, 31, 32, 33, 34, 35, 36, 37, 38, 39, 40, 41, 42, 5, 6, 7, 8, 9, 10, 43, 44, 45, 46, 47, 48, 49, 50, 51, 52, 53, 54, 55, 56, 57, 58, 59, 60, 61, 62, 63, 64, 65, 66, 67, 68, 69, 70, 71, 72, 73, 74, 75, 76, 77, 78, 79, 80, 81, 82, 83, 84, 85, 86, 87, 88, 89, 90, 91, 92, 93, 94, 95, 111, 112, 113, 114, 115, 116, 117, 118, 119, 120, 121, 122, 123, 124, 125, 126, 127, 128, 129, 130, 131, 132, 133, 134, 135, 136, 137, 96, 97, 98, 99, 100, 101, 102] (by decide +kernel) (by decide +kernel)
set_option maxRecDepth 20000 in
theorem gX7_acceptBatches_X7_acceptEntries : GoodIn wsX7_acceptBatches (wsV RX7 320 RX7 yX7_acceptEntries wsX7_acceptEntries) := goodIn_app (goodIn_of _ (by decide +kernel)) ggX7_acceptBatches_X7_acceptEntries
theorem dX7_acceptBatches_0 : decode cX7_acceptBatches 0 = .ok (.iconst 0, 1) := by decide +kernel
theorem dX7_acceptBatches_1 : decode cX7_acceptBatches 1 = .ok (.istore_n 1, 1) := by decide +kernel
theorem dX7_acceptBatches_2 : decode cX7_acceptBatches 2 = .ok (.iconst 0, 1) := by decide +kernel
theorem dX7_acceptBatches_3 : decode cX7_acceptBatches 3 = .ok (.istore_n 2, 1) := by decide +kernel
theorem dX7_acceptBatches_4 : decode cX7_acceptBatches 4 = .ok (.iload_n 2, 1) := by decide +kernel
theorem dX7_acceptBatches_5 : decode cX7_acceptBatches 5 = .ok (.aload_n 0, 1) := by decide +kernel
theorem dX7_acceptBatches_6 : decode cX7_acceptBatches 6 = .ok (.getfield 22, 3) := by decide +kernel
theorem dX7_acceptBatches_9 : decode cX7_acceptBatches 9 = .ok (.getfield 231, 3) := by decide +kernel
theorem dX7_acceptBatches_12 : decode cX7_acceptBatches 12 = .ok (.if_icmp .ge 45, 3) := by decide +kernel
theorem dX7_acceptBatches_15 : decode cX7_acceptBatches 15 = .ok (.aload_n 0, 1) := by decide +kernel
theorem dX7_acceptBatches_16 : decode cX7_acceptBatches 16 = .ok (.getfield 22, 3) := by decide +kernel
theorem dX7_acceptBatches_19 : decode cX7_acceptBatches 19 = .ok (.getfield 234, 3) := by decide +kernel
theorem dX7_acceptBatches_22 : decode cX7_acceptBatches 22 = .ok (.iload_n 2, 1) := by decide +kernel
theorem dX7_acceptBatches_23 : decode cX7_acceptBatches 23 = .ok (.aaload, 1) := by decide +kernel
theorem dX7_acceptBatches_24 : decode cX7_acceptBatches 24 = .ok (.astore_n 3, 1) := by decide +kernel
theorem dX7_acceptBatches_25 : decode cX7_acceptBatches 25 = .ok (.aload_n 3, 1) := by decide +kernel
theorem dX7_acceptBatches_26 : decode cX7_acceptBatches 26 = .ok (.getfield 300, 3) := by decide +kernel
theorem dX7_acceptBatches_29 : decode cX7_acceptBatches 29 = .ok (.ifCond .eq 14, 3) := by decide +kernel
theorem dX7_acceptBatches_32 : decode cX7_acceptBatches 32 = .ok (.aload_n 0, 1) := by decide +kernel
theorem dX7_acceptBatches_33 : decode cX7_acceptBatches 33 = .ok (.aload_n 3, 1) := by decide +kernel
theorem dX7_acceptBatches_34 : decode cX7_acceptBatches 34 = .ok (.getfield 300, 3) := by decide +kernel
theorem dX7_acceptBatches_37 : decode cX7_acceptBatches 37 = .ok (.invokevirtual 270, 3) := by decide +kernel
theorem dX7_acceptBatches_40 : decode cX7_acceptBatches 40 = .ok (.goto 11, 3) := by decide +kernel
theorem dX7_acceptBatches_43 : decode cX7_acceptBatches 43 = .ok (.iload_n 1, 1) := by decide +kernel
theorem dX7_acceptBatches_44 : decode cX7_acceptBatches 44 = .ok (.aload_n 0, 1) := by decide +kernel
theorem dX7_acceptBatches_45 : decode cX7_acceptBatches 45 = .ok (.aload_n 3, 1) := by decide +kernel
theorem dX7_acceptBatches_46 : decode cX7_acceptBatches 46 = .ok (.invokevirtual 320, 3) := by decide +kernel
theorem dX7_acceptBatches_49 : decode cX7_acceptBatches 49 = .ok (.iadd, 1) := by decide +kernel
theorem dX7_acceptBatches_50 : decode cX7_acceptBatches 50 = .ok (.istore_n 1, 1) := by decide +kernel
theorem dX7_acceptBatches_51 : decode cX7_acceptBatches 51 = .ok (.iinc 2 1, 3) := by decide +kernel
theorem dX7_acceptBatches_54 : decode cX7_acceptBatches 54 = .ok (.goto (-50), 3) := by decide +kernel
theorem dX7_acceptBatches_57 : decode cX7_acceptBatches 57 = .ok (.iload_n 1, 1) := by decide +kernel
theorem dX7_acceptBatches_58 : decode cX7_acceptBatches 58 = .ok (.ireturn, 1) := by decide +kernel
set_option maxRecDepth 20000 in
theorem ggX7_acceptEntries_Jx4a65c_size_8abf5 : GoodIn wsX7_acceptEntries wsJx4a65c_size_8abf5 := goodIn_r _ [10, 11, 112, 113, 114] (by decide +kernel) (by decide +kernel)
set_option maxRecDepth 20000 in
theorem gX7_acceptEntries_Jx4a65c_size_8abf5 : GoodIn wsX7_acceptEntries (wsV RX7 48 RJx4a65c yJx4a65c_size_8abf5 wsJx4a65c_size_8abf5) := goodIn_app (goodIn_of _ (by decide +kernel)) ggX7_acceptEntries_Jx4a65c_size_8abf5
set_option maxRecDepth 20000 in
theorem ggX7_acceptEntries_Jx4a65c_get_915e3 : GoodIn wsX7_acceptEntries wsJx4a65c_get_915e3 := goodIn_r _ [15, 11, 16, 17, 18, 19, 20, 21, 22, 23, 24, 25, 26, 9, 27, 28, 112, 113, 114] (by decide +kernel) (by decide +kernel)
set_option maxRecDepth 20000 in
theorem gX7_acceptEntries_Jx4a65c_get_915e3 : GoodIn wsX7_acceptEntries (wsV RX7 147 RJx4a65c yJx4a65c_get_915e3 wsJx4a65c_get_915e3) := goodIn_app (goodIn_of _ (by decide +kernel)) ggX7_acceptEntries_Jx4a65c_get_915e3
set_option maxRecDepth 20000 in
theorem ggX7_acceptEntries_X7_countRefusal : GoodIn wsX7_acceptEntries wsX7_countRefusal := goodIn_r _ [33, 34, 115, 116, 117, 118, 119, 120, 121] (by decide +kernel) (by decide +kernel)
set_option maxRecDepth 20000 in
theorem gX7_acceptEntries_X7_countRefusal : GoodIn wsX7_acceptEntries (wsV RX7 270 RX7 yX7_countRefusal wsX7_countRefusal) := goodIn_app (goodIn_of _ (by decide +kernel)) ggX7_acceptEntries_X7_countRefusal
set_option maxRecDepth 20000 in
theorem ggX7_acceptEntries_Jx4a65c_add_9ea2d : GoodIn wsX7_acceptEntries wsJx4a65c_add_9ea2d := goodIn_r _ [38, 39, 40, 28, 11, 41, 42, 43, 9, 44, 45, 46, 47, 48, 49, 50, 51, 52, 53, 54, 55, 56, 57, 58, 59, 60, 61, 62, 63, 64, 65, 66, 67, 68, 69, 70, 71, 72, 73, 74, 75, 76, 77, 78, 79, 80, 81, 82, 83, 84, 85, 86, 87, 112, 113, 114] (by decide +kernel) (by decide +kernel)
set_option maxRecDepth 20000 in
theorem gX7_acceptEntries_Jx4a65c_add_9ea2d : GoodIn wsX7_acceptEntries (wsV RX7 57 RJx4a65c yJx4a65c_add_9ea2d wsJx4a65c_add_9ea2d) := goodIn_app (goodIn_of _ (by decide +kernel)) ggX7_acceptEntries_Jx4a65c_add_9ea2d
theorem dX7_acceptEntries_0 : decode cX7_acceptEntries 0 = .ok (.iconst 0, 1) := by decide +kernel
theorem dX7_acceptEntries_1 : decode cX7_acceptEntries 1 = .ok (.istore_n 2, 1) := by decide +kernel
theorem dX7_acceptEntries_2 : decode cX7_acceptEntries 2 = .ok (.iconst 0, 1) := by decide +kernel
