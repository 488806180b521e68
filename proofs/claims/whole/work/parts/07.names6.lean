theorem dX8_backFault_64 : decode cX8_backFault 64 = .ok (.getfield 23, 3) := by decide +kernel
theorem dX8_backFault_67 : decode cX8_backFault 67 = .ok (.iload_n 2, 1) := by decide +kernel
theorem dX8_backFault_68 : decode cX8_backFault 68 = .ok (.laload, 1) := by decide +kernel
theorem dX8_backFault_69 : decode cX8_backFault 69 = .ok (.aload_n 0, 1) := by decide +kernel
theorem dX8_backFault_70 : decode cX8_backFault 70 = .ok (.getfield 84, 3) := by decide +kernel
theorem dX8_backFault_73 : decode cX8_backFault 73 = .ok (.iload_n 1, 1) := by decide +kernel
theorem dX8_backFault_74 : decode cX8_backFault 74 = .ok (.iaload, 1) := by decide +kernel
theorem dX8_backFault_75 : decode cX8_backFault 75 = .ok (.i2l, 1) := by decide +kernel
theorem dX8_backFault_76 : decode cX8_backFault 76 = .ok (.lcmp, 1) := by decide +kernel
theorem dX8_backFault_77 : decode cX8_backFault 77 = .ok (.ifCond .ge 7, 3) := by decide +kernel
theorem dX8_backFault_80 : decode cX8_backFault 80 = .ok (.iconst 1, 1) := by decide +kernel
theorem dX8_backFault_81 : decode cX8_backFault 81 = .ok (.goto 4, 3) := by decide +kernel
theorem dX8_backFault_84 : decode cX8_backFault 84 = .ok (.iconst 0, 1) := by decide +kernel
theorem dX8_backFault_85 : decode cX8_backFault 85 = .ok (.ireturn, 1) := by decide +kernel
set_option maxRecDepth 20000 in
theorem ggX8_does_X8_backFault : GoodIn wsX8_does wsX8_backFault := goodIn_r _ [18, 10, 9, 19, 12, 11, 13, 20, 21, 17, 22, 23, 24, 25, 26, 27, 28, 29, 30, 31, 32, 33, 34, 35, 36, 37, 38, 39, 40, 41, 42, 43, 44, 45, 46, 47, 48, 49, 50, 51, 52, 53, 54, 55, 56, 57, 58, 59, 60, 61, 62, 63, 64, 65, 66, 67, 68, 69, 70, 71, 72, 73, 74, 75] (by decide +kernel) (by decide +kernel)
set_option maxRecDepth 20000 in
theorem gX8_does_X8_backFault : GoodIn wsX8_does (wsV RX8 224 RX8 yX8_backFault wsX8_backFault) := goodIn_app (goodIn_of _ (by decide +kernel)) ggX8_does_X8_backFault
set_option maxRecDepth 20000 in
theorem ggX8_does_X8_accountOf : GoodIn wsX8_does wsX8_accountOf := goodIn_r _ [26, 27, 28, 29, 30, 31, 32, 33, 34, 35, 36, 37, 38, 39, 40, 41, 42, 43, 44, 45, 46, 47, 48, 49, 50, 51, 52, 53, 54, 55, 56, 57, 58, 59, 60, 61, 62, 63, 64, 65, 66, 67, 68, 69, 70, 71, 72, 73, 74, 75] (by decide +kernel) (by decide +kernel)
set_option maxRecDepth 20000 in
theorem gX8_does_X8_accountOf : GoodIn wsX8_does (wsV RX8 139 RX8 yX8_accountOf wsX8_accountOf) := goodIn_app (goodIn_of _ (by decide +kernel)) ggX8_does_X8_accountOf
theorem dX8_does_0 : decode cX8_does 0 = .ok (.aload_n 0, 1) := by decide +kernel
theorem dX8_does_1 : decode cX8_does 1 = .ok (.getfield 105, 3) := by decide +kernel
theorem dX8_does_4 : decode cX8_does 4 = .ok (.iload_n 1, 1) := by decide +kernel
theorem dX8_does_5 : decode cX8_does 5 = .ok (.iaload, 1) := by decide +kernel
theorem dX8_does_6 : decode cX8_does 6 = .ok (.istore_n 2, 1) := by decide +kernel
theorem dX8_does_7 : decode cX8_does 7 = .ok (.aload_n 0, 1) := by decide +kernel
theorem dX8_does_8 : decode cX8_does 8 = .ok (.getfield 111, 3) := by decide +kernel
theorem dX8_does_11 : decode cX8_does 11 = .ok (.iload_n 1, 1) := by decide +kernel
theorem dX8_does_12 : decode cX8_does 12 = .ok (.iconst 1, 1) := by decide +kernel
theorem dX8_does_13 : decode cX8_does 13 = .ok (.iastore, 1) := by decide +kernel
theorem dX8_does_14 : decode cX8_does 14 = .ok (.aload_n 0, 1) := by decide +kernel
theorem dX8_does_15 : decode cX8_does 15 = .ok (.getfield 108, 3) := by decide +kernel
theorem dX8_does_18 : decode cX8_does 18 = .ok (.iload_n 1, 1) := by decide +kernel
theorem dX8_does_19 : decode cX8_does 19 = .ok (.baload, 1) := by decide +kernel
theorem dX8_does_20 : decode cX8_does 20 = .ok (.ifCond .eq 5, 3) := by decide +kernel
theorem dX8_does_23 : decode cX8_does 23 = .ok (.iconst 0, 1) := by decide +kernel
theorem dX8_does_24 : decode cX8_does 24 = .ok (.ireturn, 1) := by decide +kernel
theorem dX8_does_25 : decode cX8_does 25 = .ok (.aload_n 0, 1) := by decide +kernel
theorem dX8_does_26 : decode cX8_does 26 = .ok (.iload_n 2, 1) := by decide +kernel
theorem dX8_does_27 : decode cX8_does 27 = .ok (.invokevirtual 224, 3) := by decide +kernel
theorem dX8_does_30 : decode cX8_does 30 = .ok (.istore_n 3, 1) := by decide +kernel
theorem dX8_does_31 : decode cX8_does 31 = .ok (.iload_n 3, 1) := by decide +kernel
theorem dX8_does_32 : decode cX8_does 32 = .ok (.ifCond .le 56, 3) := by decide +kernel
theorem dX8_does_35 : decode cX8_does 35 = .ok (.aload_n 0, 1) := by decide +kernel
theorem dX8_does_36 : decode cX8_does 36 = .ok (.getfield 111, 3) := by decide +kernel
theorem dX8_does_39 : decode cX8_does 39 = .ok (.iload_n 1, 1) := by decide +kernel
theorem dX8_does_40 : decode cX8_does 40 = .ok (.iconst 2, 1) := by decide +kernel
theorem dX8_does_41 : decode cX8_does 41 = .ok (.iastore, 1) := by decide +kernel
theorem dX8_does_42 : decode cX8_does 42 = .ok (.aload_n 0, 1) := by decide +kernel
theorem dX8_does_43 : decode cX8_does 43 = .ok (.getfield 114, 3) := by decide +kernel
theorem dX8_does_46 : decode cX8_does 46 = .ok (.iload_n 3, 1) := by decide +kernel
theorem dX8_does_47 : decode cX8_does 47 = .ok (.dup2, 1) := by decide +kernel
theorem dX8_does_48 : decode cX8_does 48 = .ok (.iaload, 1) := by decide +kernel
theorem dX8_does_49 : decode cX8_does 49 = .ok (.iconst 1, 1) := by decide +kernel
theorem dX8_does_50 : decode cX8_does 50 = .ok (.iadd, 1) := by decide +kernel
theorem dX8_does_51 : decode cX8_does 51 = .ok (.iastore, 1) := by decide +kernel
theorem dX8_does_52 : decode cX8_does 52 = .ok (.aload_n 0, 1) := by decide +kernel
theorem dX8_does_53 : decode cX8_does 53 = .ok (.getfield 96, 3) := by decide +kernel
theorem dX8_does_56 : decode cX8_does 56 = .ok (.iload_n 2, 1) := by decide +kernel
theorem dX8_does_57 : decode cX8_does 57 = .ok (.iload_n 3, 1) := by decide +kernel
theorem dX8_does_58 : decode cX8_does 58 = .ok (.iastore, 1) := by decide +kernel
theorem dX8_does_59 : decode cX8_does 59 = .ok (.aload_n 0, 1) := by decide +kernel
theorem dX8_does_60 : decode cX8_does 60 = .ok (.getfield 93, 3) := by decide +kernel
theorem dX8_does_63 : decode cX8_does 63 = .ok (.iload_n 2, 1) := by decide +kernel
theorem dX8_does_64 : decode cX8_does 64 = .ok (.iconst 2, 1) := by decide +kernel
theorem dX8_does_65 : decode cX8_does 65 = .ok (.iastore, 1) := by decide +kernel
theorem dX8_does_66 : decode cX8_does 66 = .ok (.aload_n 0, 1) := by decide +kernel
theorem dX8_does_67 : decode cX8_does 67 = .ok (.getfield 99, 3) := by decide +kernel
theorem dX8_does_70 : decode cX8_does 70 = .ok (.iload_n 2, 1) := by decide +kernel
theorem dX8_does_71 : decode cX8_does 71 = .ok (.aload_n 0, 1) := by decide +kernel
theorem dX8_does_72 : decode cX8_does 72 = .ok (.getfield 227, 3) := by decide +kernel
theorem dX8_does_75 : decode cX8_does 75 = .ok (.iastore, 1) := by decide +kernel
theorem dX8_does_76 : decode cX8_does 76 = .ok (.aload_n 0, 1) := by decide +kernel
theorem dX8_does_77 : decode cX8_does 77 = .ok (.dup, 1) := by decide +kernel
theorem dX8_does_78 : decode cX8_does 78 = .ok (.getfield 227, 3) := by decide +kernel
theorem dX8_does_81 : decode cX8_does 81 = .ok (.iconst 1, 1) := by decide +kernel
theorem dX8_does_82 : decode cX8_does 82 = .ok (.iadd, 1) := by decide +kernel
theorem dX8_does_83 : decode cX8_does 83 = .ok (.putfield 227, 3) := by decide +kernel
theorem dX8_does_86 : decode cX8_does 86 = .ok (.iconst 0, 1) := by decide +kernel
theorem dX8_does_87 : decode cX8_does 87 = .ok (.ireturn, 1) := by decide +kernel
theorem dX8_does_88 : decode cX8_does 88 = .ok (.aload_n 0, 1) := by decide +kernel
theorem dX8_does_89 : decode cX8_does 89 = .ok (.aload_n 0, 1) := by decide +kernel
theorem dX8_does_90 : decode cX8_does 90 = .ok (.getfield 78, 3) := by decide +kernel
theorem dX8_does_93 : decode cX8_does 93 = .ok (.iload_n 2, 1) := by decide +kernel
theorem dX8_does_94 : decode cX8_does 94 = .ok (.iaload, 1) := by decide +kernel
theorem dX8_does_95 : decode cX8_does 95 = .ok (.aload_n 0, 1) := by decide +kernel
theorem dX8_does_96 : decode cX8_does 96 = .ok (.getfield 81, 3) := by decide +kernel
theorem dX8_does_99 : decode cX8_does 99 = .ok (.iload_n 2, 1) := by decide +kernel
theorem dX8_does_100 : decode cX8_does 100 = .ok (.iaload, 1) := by decide +kernel
theorem dX8_does_101 : decode cX8_does 101 = .ok (.invokevirtual 139, 3) := by decide +kernel
theorem dX8_does_104 : decode cX8_does 104 = .ok (.istore 4, 2) := by decide +kernel
theorem dX8_does_106 : decode cX8_does 106 = .ok (.aload_n 0, 1) := by decide +kernel
theorem dX8_does_107 : decode cX8_does 107 = .ok (.getfield 23, 3) := by decide +kernel
theorem dX8_does_110 : decode cX8_does 110 = .ok (.iload 4, 2) := by decide +kernel
theorem dX8_does_112 : decode cX8_does 112 = .ok (.aload_n 0, 1) := by decide +kernel
theorem dX8_does_113 : decode cX8_does 113 = .ok (.getfield 72, 3) := by decide +kernel
theorem dX8_does_116 : decode cX8_does 116 = .ok (.iload_n 2, 1) := by decide +kernel
theorem dX8_does_117 : decode cX8_does 117 = .ok (.iaload, 1) := by decide +kernel
theorem dX8_does_118 : decode cX8_does 118 = .ok (.iconst 2, 1) := by decide +kernel
theorem dX8_does_119 : decode cX8_does 119 = .ok (.if_icmp .ne 21, 3) := by decide +kernel
theorem dX8_does_122 : decode cX8_does 122 = .ok (.aload_n 0, 1) := by decide +kernel
theorem dX8_does_123 : decode cX8_does 123 = .ok (.getfield 23, 3) := by decide +kernel
theorem dX8_does_126 : decode cX8_does 126 = .ok (.iload 4, 2) := by decide +kernel
theorem dX8_does_128 : decode cX8_does 128 = .ok (.laload, 1) := by decide +kernel
theorem dX8_does_129 : decode cX8_does 129 = .ok (.aload_n 0, 1) := by decide +kernel
theorem dX8_does_130 : decode cX8_does 130 = .ok (.getfield 84, 3) := by decide +kernel
theorem dX8_does_133 : decode cX8_does 133 = .ok (.iload_n 2, 1) := by decide +kernel
theorem dX8_does_134 : decode cX8_does 134 = .ok (.iaload, 1) := by decide +kernel
theorem dX8_does_135 : decode cX8_does 135 = .ok (.i2l, 1) := by decide +kernel
theorem dX8_does_136 : decode cX8_does 136 = .ok (.ladd, 1) := by decide +kernel
theorem dX8_does_137 : decode cX8_does 137 = .ok (.goto 18, 3) := by decide +kernel
theorem dX8_does_140 : decode cX8_does 140 = .ok (.aload_n 0, 1) := by decide +kernel
theorem dX8_does_141 : decode cX8_does 141 = .ok (.getfield 23, 3) := by decide +kernel
theorem dX8_does_144 : decode cX8_does 144 = .ok (.iload 4, 2) := by decide +kernel
theorem dX8_does_146 : decode cX8_does 146 = .ok (.laload, 1) := by decide +kernel
theorem dX8_does_147 : decode cX8_does 147 = .ok (.aload_n 0, 1) := by decide +kernel
theorem dX8_does_148 : decode cX8_does 148 = .ok (.getfield 84, 3) := by decide +kernel
theorem dX8_does_151 : decode cX8_does 151 = .ok (.iload_n 2, 1) := by decide +kernel
theorem dX8_does_152 : decode cX8_does 152 = .ok (.iaload, 1) := by decide +kernel
theorem dX8_does_153 : decode cX8_does 153 = .ok (.i2l, 1) := by decide +kernel
theorem dX8_does_154 : decode cX8_does 154 = .ok (.lsub, 1) := by decide +kernel
theorem dX8_does_155 : decode cX8_does 155 = .ok (.lastore, 1) := by decide +kernel
theorem dX8_does_156 : decode cX8_does 156 = .ok (.iconst 1, 1) := by decide +kernel
theorem dX8_does_157 : decode cX8_does 157 = .ok (.ireturn, 1) := by decide +kernel
set_option maxRecDepth 20000 in
theorem ggX8_post_X8_within : GoodIn wsX8_post wsX8_within := goodIn_r _ [7] (by decide +kernel) (by decide +kernel)
set_option maxRecDepth 20000 in
theorem gX8_post_X8_within : GoodIn wsX8_post (va_wsS RX8 123 yX8_within wsX8_within) := goodIn_app (goodIn_of _ (by decide +kernel)) ggX8_post_X8_within
set_option maxRecDepth 20000 in
theorem ggX8_post_X8_does : GoodIn wsX8_post wsX8_does := goodIn_r _ [11, 12, 3, 13, 14, 15, 16, 17, 18, 19, 20, 21, 22, 23, 24, 25, 26, 6, 27, 28, 29, 30, 31, 32, 33, 34, 35, 36, 37, 38, 39, 40, 41, 42, 43, 44, 45, 46, 47, 48, 49, 50, 51, 52, 53, 54, 55, 56, 57, 58, 59, 60, 61, 62, 63, 64, 65, 66, 67, 68, 69, 70, 71, 72, 73, 74, 75, 76, 77, 78, 79, 80, 81, 82, 83, 84] (by decide +kernel) (by decide +kernel)
set_option maxRecDepth 20000 in
theorem gX8_post_X8_does : GoodIn wsX8_post (wsV RX8 230 RX8 yX8_does wsX8_does) := goodIn_app (goodIn_of _ (by decide +kernel)) ggX8_post_X8_does
theorem dX8_post_0 : decode cX8_post 0 = .ok (.iload_n 1, 1) := by decide +kernel
theorem dX8_post_1 : decode cX8_post 1 = .ok (.aload_n 0, 1) := by decide +kernel
theorem dX8_post_2 : decode cX8_post 2 = .ok (.getfield 119, 3) := by decide +kernel
theorem dX8_post_5 : decode cX8_post 5 = .ok (.invokestatic 123, 3) := by decide +kernel
theorem dX8_post_8 : decode cX8_post 8 = .ok (.ifCond .eq 14, 3) := by decide +kernel
theorem dX8_post_11 : decode cX8_post 11 = .ok (.iload_n 2, 1) := by decide +kernel
theorem dX8_post_12 : decode cX8_post 12 = .ok (.iconst 1, 1) := by decide +kernel
theorem dX8_post_13 : decode cX8_post 13 = .ok (.if_icmp .lt 9, 3) := by decide +kernel
theorem dX8_post_16 : decode cX8_post 16 = .ok (.iload_n 2, 1) := by decide +kernel
theorem dX8_post_17 : decode cX8_post 17 = .ok (.bipush 40, 2) := by decide +kernel
theorem dX8_post_19 : decode cX8_post 19 = .ok (.if_icmp .le 5, 3) := by decide +kernel
theorem dX8_post_22 : decode cX8_post 22 = .ok (.iconst (-1), 1) := by decide +kernel
theorem dX8_post_23 : decode cX8_post 23 = .ok (.ireturn, 1) := by decide +kernel
theorem dX8_post_24 : decode cX8_post 24 = .ok (.iconst 0, 1) := by decide +kernel
theorem dX8_post_25 : decode cX8_post 25 = .ok (.istore_n 3, 1) := by decide +kernel
theorem dX8_post_26 : decode cX8_post 26 = .ok (.iload_n 2, 1) := by decide +kernel
theorem dX8_post_27 : decode cX8_post 27 = .ok (.istore 4, 2) := by decide +kernel
theorem dX8_post_29 : decode cX8_post 29 = .ok (.iconst 0, 1) := by decide +kernel
theorem dX8_post_30 : decode cX8_post 30 = .ok (.istore 5, 2) := by decide +kernel
theorem dX8_post_32 : decode cX8_post 32 = .ok (.iload 5, 2) := by decide +kernel
theorem dX8_post_34 : decode cX8_post 34 = .ok (.aload_n 0, 1) := by decide +kernel
theorem dX8_post_35 : decode cX8_post 35 = .ok (.getfield 102, 3) := by decide +kernel
theorem dX8_post_38 : decode cX8_post 38 = .ok (.iload_n 1, 1) := by decide +kernel
theorem dX8_post_39 : decode cX8_post 39 = .ok (.iaload, 1) := by decide +kernel
theorem dX8_post_40 : decode cX8_post 40 = .ok (.if_icmp .ge 48, 3) := by decide +kernel
theorem dX8_post_43 : decode cX8_post 43 = .ok (.iload 4, 2) := by decide +kernel
theorem dX8_post_45 : decode cX8_post 45 = .ok (.ifCond .le 43, 3) := by decide +kernel
theorem dX8_post_48 : decode cX8_post 48 = .ok (.aload_n 0, 1) := by decide +kernel
theorem dX8_post_49 : decode cX8_post 49 = .ok (.getfield 111, 3) := by decide +kernel
theorem dX8_post_52 : decode cX8_post 52 = .ok (.sipush 512, 3) := by decide +kernel
theorem dX8_post_55 : decode cX8_post 55 = .ok (.iload_n 1, 1) := by decide +kernel
theorem dX8_post_56 : decode cX8_post 56 = .ok (.imul, 1) := by decide +kernel
theorem dX8_post_57 : decode cX8_post 57 = .ok (.iload 5, 2) := by decide +kernel
theorem dX8_post_59 : decode cX8_post 59 = .ok (.iadd, 1) := by decide +kernel
theorem dX8_post_60 : decode cX8_post 60 = .ok (.iaload, 1) := by decide +kernel
theorem dX8_post_61 : decode cX8_post 61 = .ok (.ifCond .ne 21, 3) := by decide +kernel
theorem dX8_post_64 : decode cX8_post 64 = .ok (.iload_n 3, 1) := by decide +kernel
theorem dX8_post_65 : decode cX8_post 65 = .ok (.aload_n 0, 1) := by decide +kernel
theorem dX8_post_66 : decode cX8_post 66 = .ok (.sipush 512, 3) := by decide +kernel
theorem dX8_post_69 : decode cX8_post 69 = .ok (.iload_n 1, 1) := by decide +kernel
theorem dX8_post_70 : decode cX8_post 70 = .ok (.imul, 1) := by decide +kernel
theorem dX8_post_71 : decode cX8_post 71 = .ok (.iload 5, 2) := by decide +kernel
theorem dX8_post_73 : decode cX8_post 73 = .ok (.iadd, 1) := by decide +kernel
theorem dX8_post_74 : decode cX8_post 74 = .ok (.invokevirtual 230, 3) := by decide +kernel
theorem dX8_post_77 : decode cX8_post 77 = .ok (.iadd, 1) := by decide +kernel
theorem dX8_post_78 : decode cX8_post 78 = .ok (.istore_n 3, 1) := by decide +kernel
theorem dX8_post_79 : decode cX8_post 79 = .ok (.iinc 4 (-1), 3) := by decide +kernel
theorem dX8_post_82 : decode cX8_post 82 = .ok (.iinc 5 1, 3) := by decide +kernel
theorem dX8_post_85 : decode cX8_post 85 = .ok (.goto (-53), 3) := by decide +kernel
theorem dX8_post_88 : decode cX8_post 88 = .ok (.iload_n 3, 1) := by decide +kernel
theorem dX8_post_89 : decode cX8_post 89 = .ok (.ireturn, 1) := by decide +kernel
set_option maxRecDepth 20000 in
theorem ggX8_items_X8_within : GoodIn wsX8_items wsX8_within := goodIn_r _ [6] (by decide +kernel) (by decide +kernel)
set_option maxRecDepth 20000 in
theorem gX8_items_X8_within : GoodIn wsX8_items (va_wsS RX8 123 yX8_within wsX8_within) := goodIn_app (goodIn_of _ (by decide +kernel)) ggX8_items_X8_within
theorem dX8_items_0 : decode cX8_items 0 = .ok (.iload_n 1, 1) := by decide +kernel
theorem dX8_items_1 : decode cX8_items 1 = .ok (.aload_n 0, 1) := by decide +kernel
theorem dX8_items_2 : decode cX8_items 2 = .ok (.getfield 119, 3) := by decide +kernel
theorem dX8_items_5 : decode cX8_items 5 = .ok (.invokestatic 123, 3) := by decide +kernel
theorem dX8_items_8 : decode cX8_items 8 = .ok (.ifCond .eq 12, 3) := by decide +kernel
theorem dX8_items_11 : decode cX8_items 11 = .ok (.aload_n 0, 1) := by decide +kernel
theorem dX8_items_12 : decode cX8_items 12 = .ok (.getfield 102, 3) := by decide +kernel
theorem dX8_items_15 : decode cX8_items 15 = .ok (.iload_n 1, 1) := by decide +kernel
theorem dX8_items_16 : decode cX8_items 16 = .ok (.iaload, 1) := by decide +kernel
theorem dX8_items_17 : decode cX8_items 17 = .ok (.goto 4, 3) := by decide +kernel
theorem dX8_items_20 : decode cX8_items 20 = .ok (.iconst (-1), 1) := by decide +kernel
theorem dX8_items_21 : decode cX8_items 21 = .ok (.ireturn, 1) := by decide +kernel
set_option maxRecDepth 20000 in
theorem ggX8_item_X8_within : GoodIn wsX8_item wsX8_within := goodIn_r _ [16] (by decide +kernel) (by decide +kernel)
set_option maxRecDepth 20000 in
theorem gX8_item_X8_within : GoodIn wsX8_item (va_wsS RX8 123 yX8_within wsX8_within) := goodIn_app (goodIn_of _ (by decide +kernel)) ggX8_item_X8_within
theorem dX8_item_0 : decode cX8_item 0 = .ok (.iload_n 1, 1) := by decide +kernel
theorem dX8_item_1 : decode cX8_item 1 = .ok (.aload_n 0, 1) := by decide +kernel
theorem dX8_item_2 : decode cX8_item 2 = .ok (.getfield 119, 3) := by decide +kernel
theorem dX8_item_5 : decode cX8_item 5 = .ok (.invokestatic 123, 3) := by decide +kernel
theorem dX8_item_8 : decode cX8_item 8 = .ok (.ifCond .eq 25, 3) := by decide +kernel
theorem dX8_item_11 : decode cX8_item 11 = .ok (.iload_n 2, 1) := by decide +kernel
theorem dX8_item_12 : decode cX8_item 12 = .ok (.aload_n 0, 1) := by decide +kernel
theorem dX8_item_13 : decode cX8_item 13 = .ok (.getfield 102, 3) := by decide +kernel
theorem dX8_item_16 : decode cX8_item 16 = .ok (.iload_n 1, 1) := by decide +kernel
theorem dX8_item_17 : decode cX8_item 17 = .ok (.iaload, 1) := by decide +kernel
theorem dX8_item_18 : decode cX8_item 18 = .ok (.invokestatic 123, 3) := by decide +kernel
theorem dX8_item_21 : decode cX8_item 21 = .ok (.ifCond .eq 12, 3) := by decide +kernel
theorem dX8_item_24 : decode cX8_item 24 = .ok (.iload_n 3, 1) := by decide +kernel
theorem dX8_item_25 : decode cX8_item 25 = .ok (.bipush 7, 2) := by decide +kernel
theorem dX8_item_27 : decode cX8_item 27 = .ok (.invokestatic 123, 3) := by decide +kernel
theorem dX8_item_30 : decode cX8_item 30 = .ok (.ifCond .ne 5, 3) := by decide +kernel
theorem dX8_item_33 : decode cX8_item 33 = .ok (.iconst (-1), 1) := by decide +kernel
theorem dX8_item_34 : decode cX8_item 34 = .ok (.ireturn, 1) := by decide +kernel
theorem dX8_item_35 : decode cX8_item 35 = .ok (.sipush 512, 3) := by decide +kernel
theorem dX8_item_38 : decode cX8_item 38 = .ok (.iload_n 1, 1) := by decide +kernel
theorem dX8_item_39 : decode cX8_item 39 = .ok (.imul, 1) := by decide +kernel
theorem dX8_item_40 : decode cX8_item 40 = .ok (.iload_n 2, 1) := by decide +kernel
theorem dX8_item_41 : decode cX8_item 41 = .ok (.iadd, 1) := by decide +kernel
theorem dX8_item_42 : decode cX8_item 42 = .ok (.istore 4, 2) := by decide +kernel
theorem dX8_item_44 : decode cX8_item 44 = .ok (.aload_n 0, 1) := by decide +kernel
theorem dX8_item_45 : decode cX8_item 45 = .ok (.getfield 105, 3) := by decide +kernel
theorem dX8_item_48 : decode cX8_item 48 = .ok (.iload 4, 2) := by decide +kernel
theorem dX8_item_50 : decode cX8_item 50 = .ok (.iaload, 1) := by decide +kernel
theorem dX8_item_51 : decode cX8_item 51 = .ok (.istore 5, 2) := by decide +kernel
theorem dX8_item_53 : decode cX8_item 53 = .ok (.iload_n 3, 1) := by decide +kernel
theorem dX8_item_54 : decode cX8_item 54 = .ok (.tableswitch 120 0 5 #[38, 46, 74, 82, 90, 98], 38) := by decide +kernel
theorem dX8_item_92 : decode cX8_item 92 = .ok (.aload_n 0, 1) := by decide +kernel
theorem dX8_item_93 : decode cX8_item 93 = .ok (.getfield 72, 3) := by decide +kernel
theorem dX8_item_96 : decode cX8_item 96 = .ok (.iload 5, 2) := by decide +kernel
theorem dX8_item_98 : decode cX8_item 98 = .ok (.iaload, 1) := by decide +kernel
theorem dX8_item_99 : decode cX8_item 99 = .ok (.ireturn, 1) := by decide +kernel
theorem dX8_item_100 : decode cX8_item 100 = .ok (.aload_n 0, 1) := by decide +kernel
theorem dX8_item_101 : decode cX8_item 101 = .ok (.getfield 108, 3) := by decide +kernel
theorem dX8_item_104 : decode cX8_item 104 = .ok (.iload 4, 2) := by decide +kernel
theorem dX8_item_106 : decode cX8_item 106 = .ok (.baload, 1) := by decide +kernel
theorem dX8_item_107 : decode cX8_item 107 = .ok (.ifCond .eq 13, 3) := by decide +kernel
theorem dX8_item_110 : decode cX8_item 110 = .ok (.aload_n 0, 1) := by decide +kernel
theorem dX8_item_111 : decode cX8_item 111 = .ok (.getfield 78, 3) := by decide +kernel
theorem dX8_item_114 : decode cX8_item 114 = .ok (.iload 5, 2) := by decide +kernel
theorem dX8_item_116 : decode cX8_item 116 = .ok (.iaload, 1) := by decide +kernel
theorem dX8_item_117 : decode cX8_item 117 = .ok (.goto 10, 3) := by decide +kernel
theorem dX8_item_120 : decode cX8_item 120 = .ok (.aload_n 0, 1) := by decide +kernel
theorem dX8_item_121 : decode cX8_item 121 = .ok (.getfield 75, 3) := by decide +kernel
theorem dX8_item_124 : decode cX8_item 124 = .ok (.iload 5, 2) := by decide +kernel
theorem dX8_item_126 : decode cX8_item 126 = .ok (.iaload, 1) := by decide +kernel
theorem dX8_item_127 : decode cX8_item 127 = .ok (.ireturn, 1) := by decide +kernel
theorem dX8_item_128 : decode cX8_item 128 = .ok (.aload_n 0, 1) := by decide +kernel
theorem dX8_item_129 : decode cX8_item 129 = .ok (.getfield 81, 3) := by decide +kernel
theorem dX8_item_132 : decode cX8_item 132 = .ok (.iload 5, 2) := by decide +kernel
theorem dX8_item_134 : decode cX8_item 134 = .ok (.iaload, 1) := by decide +kernel
theorem dX8_item_135 : decode cX8_item 135 = .ok (.ireturn, 1) := by decide +kernel
theorem dX8_item_136 : decode cX8_item 136 = .ok (.aload_n 0, 1) := by decide +kernel
theorem dX8_item_137 : decode cX8_item 137 = .ok (.getfield 84, 3) := by decide +kernel
theorem dX8_item_140 : decode cX8_item 140 = .ok (.iload 5, 2) := by decide +kernel
theorem dX8_item_142 : decode cX8_item 142 = .ok (.iaload, 1) := by decide +kernel
theorem dX8_item_143 : decode cX8_item 143 = .ok (.ireturn, 1) := by decide +kernel
theorem dX8_item_144 : decode cX8_item 144 = .ok (.aload_n 0, 1) := by decide +kernel
theorem dX8_item_145 : decode cX8_item 145 = .ok (.getfield 87, 3) := by decide +kernel
theorem dX8_item_148 : decode cX8_item 148 = .ok (.iload 5, 2) := by decide +kernel
theorem dX8_item_150 : decode cX8_item 150 = .ok (.iaload, 1) := by decide +kernel
theorem dX8_item_151 : decode cX8_item 151 = .ok (.ireturn, 1) := by decide +kernel
theorem dX8_item_152 : decode cX8_item 152 = .ok (.aload_n 0, 1) := by decide +kernel
theorem dX8_item_153 : decode cX8_item 153 = .ok (.getfield 108, 3) := by decide +kernel
theorem dX8_item_156 : decode cX8_item 156 = .ok (.iload 4, 2) := by decide +kernel
theorem dX8_item_158 : decode cX8_item 158 = .ok (.baload, 1) := by decide +kernel
theorem dX8_item_159 : decode cX8_item 159 = .ok (.ifCond .eq 13, 3) := by decide +kernel
theorem dX8_item_162 : decode cX8_item 162 = .ok (.aload_n 0, 1) := by decide +kernel
theorem dX8_item_163 : decode cX8_item 163 = .ok (.getfield 96, 3) := by decide +kernel
theorem dX8_item_166 : decode cX8_item 166 = .ok (.iload 5, 2) := by decide +kernel
theorem dX8_item_168 : decode cX8_item 168 = .ok (.iaload, 1) := by decide +kernel
theorem dX8_item_169 : decode cX8_item 169 = .ok (.goto 4, 3) := by decide +kernel
theorem dX8_item_172 : decode cX8_item 172 = .ok (.iconst 0, 1) := by decide +kernel
theorem dX8_item_173 : decode cX8_item 173 = .ok (.ireturn, 1) := by decide +kernel
theorem dX8_item_174 : decode cX8_item 174 = .ok (.aload_n 0, 1) := by decide +kernel
theorem dX8_item_175 : decode cX8_item 175 = .ok (.getfield 111, 3) := by decide +kernel
theorem dX8_item_178 : decode cX8_item 178 = .ok (.iload 4, 2) := by decide +kernel
theorem dX8_item_180 : decode cX8_item 180 = .ok (.iaload, 1) := by decide +kernel
theorem dX8_item_181 : decode cX8_item 181 = .ok (.ireturn, 1) := by decide +kernel
set_option maxRecDepth 20000 in
theorem ggX8_control_X8_within : GoodIn wsX8_control wsX8_within := goodIn_r _ [12] (by decide +kernel) (by decide +kernel)
set_option maxRecDepth 20000 in
theorem gX8_control_X8_within : GoodIn wsX8_control (va_wsS RX8 123 yX8_within wsX8_within) := goodIn_app (goodIn_of _ (by decide +kernel)) ggX8_control_X8_within
theorem dX8_control_0 : decode cX8_control 0 = .ok (.iload_n 1, 1) := by decide +kernel
theorem dX8_control_1 : decode cX8_control 1 = .ok (.aload_n 0, 1) := by decide +kernel
theorem dX8_control_2 : decode cX8_control 2 = .ok (.getfield 119, 3) := by decide +kernel
theorem dX8_control_5 : decode cX8_control 5 = .ok (.invokestatic 123, 3) := by decide +kernel
theorem dX8_control_8 : decode cX8_control 8 = .ok (.ifCond .eq 11, 3) := by decide +kernel
theorem dX8_control_11 : decode cX8_control 11 = .ok (.iload_n 2, 1) := by decide +kernel
theorem dX8_control_12 : decode cX8_control 12 = .ok (.iconst 4, 1) := by decide +kernel
theorem dX8_control_13 : decode cX8_control 13 = .ok (.invokestatic 123, 3) := by decide +kernel
theorem dX8_control_16 : decode cX8_control 16 = .ok (.ifCond .ne 7, 3) := by decide +kernel
theorem dX8_control_19 : decode cX8_control 19 = .ok (.ldc2_w 233, 3) := by decide +kernel
theorem dX8_control_22 : decode cX8_control 22 = .ok (.lreturn, 1) := by decide +kernel
theorem dX8_control_23 : decode cX8_control 23 = .ok (.lconst 0, 1) := by decide +kernel
theorem dX8_control_24 : decode cX8_control 24 = .ok (.lstore_n 3, 1) := by decide +kernel
theorem dX8_control_25 : decode cX8_control 25 = .ok (.iconst 0, 1) := by decide +kernel
theorem dX8_control_26 : decode cX8_control 26 = .ok (.istore 5, 2) := by decide +kernel
theorem dX8_control_28 : decode cX8_control 28 = .ok (.iload 5, 2) := by decide +kernel
theorem dX8_control_30 : decode cX8_control 30 = .ok (.aload_n 0, 1) := by decide +kernel
theorem dX8_control_31 : decode cX8_control 31 = .ok (.getfield 102, 3) := by decide +kernel
theorem dX8_control_34 : decode cX8_control 34 = .ok (.iload_n 1, 1) := by decide +kernel
theorem dX8_control_35 : decode cX8_control 35 = .ok (.iaload, 1) := by decide +kernel
theorem dX8_control_36 : decode cX8_control 36 = .ok (.if_icmp .ge 101, 3) := by decide +kernel
theorem dX8_control_39 : decode cX8_control 39 = .ok (.aload_n 0, 1) := by decide +kernel
theorem dX8_control_40 : decode cX8_control 40 = .ok (.getfield 105, 3) := by decide +kernel
theorem dX8_control_43 : decode cX8_control 43 = .ok (.sipush 512, 3) := by decide +kernel
theorem dX8_control_46 : decode cX8_control 46 = .ok (.iload_n 1, 1) := by decide +kernel
theorem dX8_control_47 : decode cX8_control 47 = .ok (.imul, 1) := by decide +kernel
theorem dX8_control_48 : decode cX8_control 48 = .ok (.iload 5, 2) := by decide +kernel
theorem dX8_control_50 : decode cX8_control 50 = .ok (.iadd, 1) := by decide +kernel
theorem dX8_control_51 : decode cX8_control 51 = .ok (.iaload, 1) := by decide +kernel
theorem dX8_control_52 : decode cX8_control 52 = .ok (.istore 6, 2) := by decide +kernel
theorem dX8_control_54 : decode cX8_control 54 = .ok (.lload_n 3, 1) := by decide +kernel
theorem dX8_control_55 : decode cX8_control 55 = .ok (.iload_n 2, 1) := by decide +kernel
theorem dX8_control_56 : decode cX8_control 56 = .ok (.ifCond .ne 7, 3) := by decide +kernel
theorem dX8_control_59 : decode cX8_control 59 = .ok (.lconst 1, 1) := by decide +kernel
theorem dX8_control_60 : decode cX8_control 60 = .ok (.goto 69, 3) := by decide +kernel
theorem dX8_control_63 : decode cX8_control 63 = .ok (.iload_n 2, 1) := by decide +kernel
theorem dX8_control_64 : decode cX8_control 64 = .ok (.iconst 1, 1) := by decide +kernel
theorem dX8_control_65 : decode cX8_control 65 = .ok (.if_icmp .ne 19, 3) := by decide +kernel
theorem dX8_control_68 : decode cX8_control 68 = .ok (.aload_n 0, 1) := by decide +kernel
theorem dX8_control_69 : decode cX8_control 69 = .ok (.getfield 7, 3) := by decide +kernel
theorem dX8_control_72 : decode cX8_control 72 = .ok (.aload_n 0, 1) := by decide +kernel
theorem dX8_control_73 : decode cX8_control 73 = .ok (.getfield 78, 3) := by decide +kernel
theorem dX8_control_76 : decode cX8_control 76 = .ok (.iload 6, 2) := by decide +kernel
theorem dX8_control_78 : decode cX8_control 78 = .ok (.iaload, 1) := by decide +kernel
theorem dX8_control_79 : decode cX8_control 79 = .ok (.iaload, 1) := by decide +kernel
theorem dX8_control_80 : decode cX8_control 80 = .ok (.i2l, 1) := by decide +kernel
theorem dX8_control_81 : decode cX8_control 81 = .ok (.goto 48, 3) := by decide +kernel
theorem dX8_control_84 : decode cX8_control 84 = .ok (.iload_n 2, 1) := by decide +kernel
theorem dX8_control_85 : decode cX8_control 85 = .ok (.iconst 2, 1) := by decide +kernel
theorem dX8_control_86 : decode cX8_control 86 = .ok (.if_icmp .ne 15, 3) := by decide +kernel
theorem dX8_control_89 : decode cX8_control 89 = .ok (.aload_n 0, 1) := by decide +kernel
theorem dX8_control_90 : decode cX8_control 90 = .ok (.getfield 72, 3) := by decide +kernel
theorem dX8_control_93 : decode cX8_control 93 = .ok (.iload 6, 2) := by decide +kernel
theorem dX8_control_95 : decode cX8_control 95 = .ok (.iaload, 1) := by decide +kernel
theorem dX8_control_96 : decode cX8_control 96 = .ok (.bipush 7, 2) := by decide +kernel
theorem dX8_control_98 : decode cX8_control 98 = .ok (.if_icmp .eq 19, 3) := by decide +kernel
theorem dX8_control_101 : decode cX8_control 101 = .ok (.iload_n 2, 1) := by decide +kernel
theorem dX8_control_102 : decode cX8_control 102 = .ok (.iconst 3, 1) := by decide +kernel
theorem dX8_control_103 : decode cX8_control 103 = .ok (.if_icmp .ne 25, 3) := by decide +kernel
theorem dX8_control_106 : decode cX8_control 106 = .ok (.aload_n 0, 1) := by decide +kernel
theorem dX8_control_107 : decode cX8_control 107 = .ok (.getfield 72, 3) := by decide +kernel
theorem dX8_control_110 : decode cX8_control 110 = .ok (.iload 6, 2) := by decide +kernel
theorem dX8_control_112 : decode cX8_control 112 = .ok (.iaload, 1) := by decide +kernel
theorem dX8_control_113 : decode cX8_control 113 = .ok (.iconst 2, 1) := by decide +kernel
theorem dX8_control_114 : decode cX8_control 114 = .ok (.if_icmp .ne 14, 3) := by decide +kernel
theorem dX8_control_117 : decode cX8_control 117 = .ok (.aload_n 0, 1) := by decide +kernel
theorem dX8_control_118 : decode cX8_control 118 = .ok (.getfield 84, 3) := by decide +kernel
theorem dX8_control_121 : decode cX8_control 121 = .ok (.iload 6, 2) := by decide +kernel
theorem dX8_control_123 : decode cX8_control 123 = .ok (.iaload, 1) := by decide +kernel
theorem dX8_control_124 : decode cX8_control 124 = .ok (.i2l, 1) := by decide +kernel
theorem dX8_control_125 : decode cX8_control 125 = .ok (.goto 4, 3) := by decide +kernel
theorem dX8_control_128 : decode cX8_control 128 = .ok (.lconst 0, 1) := by decide +kernel
theorem dX8_control_129 : decode cX8_control 129 = .ok (.ladd, 1) := by decide +kernel
theorem dX8_control_130 : decode cX8_control 130 = .ok (.lstore_n 3, 1) := by decide +kernel
theorem dX8_control_131 : decode cX8_control 131 = .ok (.iinc 5 1, 3) := by decide +kernel
theorem dX8_control_134 : decode cX8_control 134 = .ok (.goto (-106), 3) := by decide +kernel
theorem dX8_control_137 : decode cX8_control 137 = .ok (.lload_n 3, 1) := by decide +kernel
theorem dX8_control_138 : decode cX8_control 138 = .ok (.lreturn, 1) := by decide +kernel
set_option maxRecDepth 20000 in
theorem ggX8_balance_X8_accountOf : GoodIn wsX8_balance wsX8_accountOf := goodIn_r _ [7, 8, 9, 10, 11, 12, 13, 14, 15, 16, 17, 18, 19, 20, 21, 22, 23, 24, 25, 26, 27, 28, 29, 30, 31, 32, 33, 34, 35, 36, 37, 38, 39, 40, 41, 42, 43, 44, 45, 46, 47, 48, 49, 50, 51, 52, 53, 54, 55, 56] (by decide +kernel) (by decide +kernel)
set_option maxRecDepth 20000 in
theorem gX8_balance_X8_accountOf : GoodIn wsX8_balance (wsV RX8 139 RX8 yX8_accountOf wsX8_accountOf) := goodIn_app (goodIn_of _ (by decide +kernel)) ggX8_balance_X8_accountOf
theorem dX8_balance_0 : decode cX8_balance 0 = .ok (.aload_n 0, 1) := by decide +kernel
theorem dX8_balance_1 : decode cX8_balance 1 = .ok (.iload_n 1, 1) := by decide +kernel
theorem dX8_balance_2 : decode cX8_balance 2 = .ok (.iload_n 2, 1) := by decide +kernel
theorem dX8_balance_3 : decode cX8_balance 3 = .ok (.invokevirtual 139, 3) := by decide +kernel
theorem dX8_balance_6 : decode cX8_balance 6 = .ok (.istore_n 3, 1) := by decide +kernel
theorem dX8_balance_7 : decode cX8_balance 7 = .ok (.iload_n 3, 1) := by decide +kernel
theorem dX8_balance_8 : decode cX8_balance 8 = .ok (.ifCond .ge 9, 3) := by decide +kernel
theorem dX8_balance_11 : decode cX8_balance 11 = .ok (.ldc2_w 233, 3) := by decide +kernel
theorem dX8_balance_14 : decode cX8_balance 14 = .ok (.goto 9, 3) := by decide +kernel
theorem dX8_balance_17 : decode cX8_balance 17 = .ok (.aload_n 0, 1) := by decide +kernel
theorem dX8_balance_18 : decode cX8_balance 18 = .ok (.getfield 23, 3) := by decide +kernel
theorem dX8_balance_21 : decode cX8_balance 21 = .ok (.iload_n 3, 1) := by decide +kernel
theorem dX8_balance_22 : decode cX8_balance 22 = .ok (.laload, 1) := by decide +kernel
theorem dX8_balance_23 : decode cX8_balance 23 = .ok (.lreturn, 1) := by decide +kernel
set_option maxRecDepth 20000 in
theorem ggX8_ledger_X8_within : GoodIn wsX8_ledger wsX8_within := goodIn_r _ [6] (by decide +kernel) (by decide +kernel)
set_option maxRecDepth 20000 in
theorem gX8_ledger_X8_within : GoodIn wsX8_ledger (va_wsS RX8 123 yX8_within wsX8_within) := goodIn_app (goodIn_of _ (by decide +kernel)) ggX8_ledger_X8_within
theorem dX8_ledger_0 : decode cX8_ledger 0 = .ok (.iload_n 1, 1) := by decide +kernel
theorem dX8_ledger_1 : decode cX8_ledger 1 = .ok (.aload_n 0, 1) := by decide +kernel
theorem dX8_ledger_2 : decode cX8_ledger 2 = .ok (.getfield 119, 3) := by decide +kernel
theorem dX8_ledger_5 : decode cX8_ledger 5 = .ok (.invokestatic 123, 3) := by decide +kernel
theorem dX8_ledger_8 : decode cX8_ledger 8 = .ok (.ifCond .eq 12, 3) := by decide +kernel
theorem dX8_ledger_11 : decode cX8_ledger 11 = .ok (.aload_n 0, 1) := by decide +kernel
theorem dX8_ledger_12 : decode cX8_ledger 12 = .ok (.getfield 13, 3) := by decide +kernel
theorem dX8_ledger_15 : decode cX8_ledger 15 = .ok (.iload_n 1, 1) := by decide +kernel
theorem dX8_ledger_16 : decode cX8_ledger 16 = .ok (.laload, 1) := by decide +kernel
theorem dX8_ledger_17 : decode cX8_ledger 17 = .ok (.goto 4, 3) := by decide +kernel
theorem dX8_ledger_20 : decode cX8_ledger 20 = .ok (.lconst 0, 1) := by decide +kernel
theorem dX8_ledger_21 : decode cX8_ledger 21 = .ok (.lreturn, 1) := by decide +kernel
theorem dX8_rejected_0 : decode cX8_rejected 0 = .ok (.iload_n 1, 1) := by decide +kernel
theorem dX8_rejected_1 : decode cX8_rejected 1 = .ok (.iconst 1, 1) := by decide +kernel
theorem dX8_rejected_2 : decode cX8_rejected 2 = .ok (.if_icmp .lt 8, 3) := by decide +kernel
theorem dX8_rejected_5 : decode cX8_rejected 5 = .ok (.iload_n 1, 1) := by decide +kernel
theorem dX8_rejected_6 : decode cX8_rejected 6 = .ok (.iconst 4, 1) := by decide +kernel
theorem dX8_rejected_7 : decode cX8_rejected 7 = .ok (.if_icmp .le 39, 3) := by decide +kernel
theorem dX8_rejected_10 : decode cX8_rejected 10 = .ok (.iload_n 1, 1) := by decide +kernel
theorem dX8_rejected_11 : decode cX8_rejected 11 = .ok (.bipush 10, 2) := by decide +kernel
theorem dX8_rejected_13 : decode cX8_rejected 13 = .ok (.if_icmp .lt 9, 3) := by decide +kernel
theorem dX8_rejected_16 : decode cX8_rejected 16 = .ok (.iload_n 1, 1) := by decide +kernel
theorem dX8_rejected_17 : decode cX8_rejected 17 = .ok (.bipush 13, 2) := by decide +kernel
theorem dX8_rejected_19 : decode cX8_rejected 19 = .ok (.if_icmp .le 27, 3) := by decide +kernel
theorem dX8_rejected_22 : decode cX8_rejected 22 = .ok (.iload_n 1, 1) := by decide +kernel
theorem dX8_rejected_23 : decode cX8_rejected 23 = .ok (.bipush 20, 2) := by decide +kernel
theorem dX8_rejected_25 : decode cX8_rejected 25 = .ok (.if_icmp .lt 9, 3) := by decide +kernel
theorem dX8_rejected_28 : decode cX8_rejected 28 = .ok (.iload_n 1, 1) := by decide +kernel
theorem dX8_rejected_29 : decode cX8_rejected 29 = .ok (.bipush 24, 2) := by decide +kernel
theorem dX8_rejected_31 : decode cX8_rejected 31 = .ok (.if_icmp .le 15, 3) := by decide +kernel
theorem dX8_rejected_34 : decode cX8_rejected 34 = .ok (.iload_n 1, 1) := by decide +kernel
theorem dX8_rejected_35 : decode cX8_rejected 35 = .ok (.bipush 30, 2) := by decide +kernel
theorem dX8_rejected_37 : decode cX8_rejected 37 = .ok (.if_icmp .lt 13, 3) := by decide +kernel
theorem dX8_rejected_40 : decode cX8_rejected 40 = .ok (.iload_n 1, 1) := by decide +kernel
theorem dX8_rejected_41 : decode cX8_rejected 41 = .ok (.bipush 33, 2) := by decide +kernel
theorem dX8_rejected_43 : decode cX8_rejected 43 = .ok (.if_icmp .gt 7, 3) := by decide +kernel
theorem dX8_rejected_46 : decode cX8_rejected 46 = .ok (.iconst 1, 1) := by decide +kernel
theorem dX8_rejected_47 : decode cX8_rejected 47 = .ok (.goto 4, 3) := by decide +kernel
theorem dX8_rejected_50 : decode cX8_rejected 50 = .ok (.iconst 0, 1) := by decide +kernel
theorem dX8_rejected_51 : decode cX8_rejected 51 = .ok (.istore_n 2, 1) := by decide +kernel
theorem dX8_rejected_52 : decode cX8_rejected 52 = .ok (.iload_n 2, 1) := by decide +kernel
theorem dX8_rejected_53 : decode cX8_rejected 53 = .ok (.ifCond .eq 12, 3) := by decide +kernel
theorem dX8_rejected_56 : decode cX8_rejected 56 = .ok (.aload_n 0, 1) := by decide +kernel
theorem dX8_rejected_57 : decode cX8_rejected 57 = .ok (.getfield 114, 3) := by decide +kernel
theorem dX8_rejected_60 : decode cX8_rejected 60 = .ok (.iload_n 1, 1) := by decide +kernel
theorem dX8_rejected_61 : decode cX8_rejected 61 = .ok (.iaload, 1) := by decide +kernel
theorem dX8_rejected_62 : decode cX8_rejected 62 = .ok (.goto 4, 3) := by decide +kernel
theorem dX8_rejected_65 : decode cX8_rejected 65 = .ok (.iconst 0, 1) := by decide +kernel
theorem dX8_rejected_66 : decode cX8_rejected 66 = .ok (.ireturn, 1) := by decide +kernel
set_option maxRecDepth 20000 in
theorem ggX8_waiting_X8_within : GoodIn wsX8_waiting wsX8_within := goodIn_r _ [9] (by decide +kernel) (by decide +kernel)
set_option maxRecDepth 20000 in
theorem gX8_waiting_X8_within : GoodIn wsX8_waiting (va_wsS RX8 123 yX8_within wsX8_within) := goodIn_app (goodIn_of _ (by decide +kernel)) ggX8_waiting_X8_within
theorem dX8_waiting_0 : decode cX8_waiting 0 = .ok (.iload_n 1, 1) := by decide +kernel
theorem dX8_waiting_1 : decode cX8_waiting 1 = .ok (.aload_n 0, 1) := by decide +kernel
theorem dX8_waiting_2 : decode cX8_waiting 2 = .ok (.getfield 119, 3) := by decide +kernel
theorem dX8_waiting_5 : decode cX8_waiting 5 = .ok (.invokestatic 123, 3) := by decide +kernel
theorem dX8_waiting_8 : decode cX8_waiting 8 = .ok (.ifCond .eq 11, 3) := by decide +kernel
theorem dX8_waiting_11 : decode cX8_waiting 11 = .ok (.iload_n 2, 1) := by decide +kernel
theorem dX8_waiting_12 : decode cX8_waiting 12 = .ok (.iconst 2, 1) := by decide +kernel
theorem dX8_waiting_13 : decode cX8_waiting 13 = .ok (.invokestatic 123, 3) := by decide +kernel
theorem dX8_waiting_16 : decode cX8_waiting 16 = .ok (.ifCond .ne 5, 3) := by decide +kernel
theorem dX8_waiting_19 : decode cX8_waiting 19 = .ok (.iconst (-1), 1) := by decide +kernel
theorem dX8_waiting_20 : decode cX8_waiting 20 = .ok (.ireturn, 1) := by decide +kernel
theorem dX8_waiting_21 : decode cX8_waiting 21 = .ok (.iconst 0, 1) := by decide +kernel
theorem dX8_waiting_22 : decode cX8_waiting 22 = .ok (.istore_n 3, 1) := by decide +kernel
theorem dX8_waiting_23 : decode cX8_waiting 23 = .ok (.iconst 0, 1) := by decide +kernel
theorem dX8_waiting_24 : decode cX8_waiting 24 = .ok (.istore 4, 2) := by decide +kernel
theorem dX8_waiting_26 : decode cX8_waiting 26 = .ok (.iload 4, 2) := by decide +kernel
theorem dX8_waiting_28 : decode cX8_waiting 28 = .ok (.aload_n 0, 1) := by decide +kernel
theorem dX8_waiting_29 : decode cX8_waiting 29 = .ok (.getfield 182, 3) := by decide +kernel
theorem dX8_waiting_32 : decode cX8_waiting 32 = .ok (.if_icmp .ge 84, 3) := by decide +kernel
theorem dX8_waiting_35 : decode cX8_waiting 35 = .ok (.iload_n 2, 1) := by decide +kernel
theorem dX8_waiting_36 : decode cX8_waiting 36 = .ok (.ifCond .ne 32, 3) := by decide +kernel
theorem dX8_waiting_39 : decode cX8_waiting 39 = .ok (.aload_n 0, 1) := by decide +kernel
theorem dX8_waiting_40 : decode cX8_waiting 40 = .ok (.getfield 93, 3) := by decide +kernel
theorem dX8_waiting_43 : decode cX8_waiting 43 = .ok (.iload 4, 2) := by decide +kernel
theorem dX8_waiting_45 : decode cX8_waiting 45 = .ok (.iaload, 1) := by decide +kernel
theorem dX8_waiting_46 : decode cX8_waiting 46 = .ok (.ifCond .ne 18, 3) := by decide +kernel
theorem dX8_waiting_49 : decode cX8_waiting 49 = .ok (.aload_n 0, 1) := by decide +kernel
theorem dX8_waiting_50 : decode cX8_waiting 50 = .ok (.getfield 78, 3) := by decide +kernel
theorem dX8_waiting_53 : decode cX8_waiting 53 = .ok (.iload 4, 2) := by decide +kernel
theorem dX8_waiting_55 : decode cX8_waiting 55 = .ok (.iaload, 1) := by decide +kernel
theorem dX8_waiting_56 : decode cX8_waiting 56 = .ok (.iload_n 1, 1) := by decide +kernel
theorem dX8_waiting_57 : decode cX8_waiting 57 = .ok (.if_icmp .ne 7, 3) := by decide +kernel
theorem dX8_waiting_60 : decode cX8_waiting 60 = .ok (.iconst 1, 1) := by decide +kernel
theorem dX8_waiting_61 : decode cX8_waiting 61 = .ok (.goto 34, 3) := by decide +kernel
theorem dX8_waiting_64 : decode cX8_waiting 64 = .ok (.iconst 0, 1) := by decide +kernel
theorem dX8_waiting_65 : decode cX8_waiting 65 = .ok (.goto 30, 3) := by decide +kernel
theorem dX8_waiting_68 : decode cX8_waiting 68 = .ok (.aload_n 0, 1) := by decide +kernel
theorem dX8_waiting_69 : decode cX8_waiting 69 = .ok (.getfield 93, 3) := by decide +kernel
theorem dX8_waiting_72 : decode cX8_waiting 72 = .ok (.iload 4, 2) := by decide +kernel
theorem dX8_waiting_74 : decode cX8_waiting 74 = .ok (.iaload, 1) := by decide +kernel
theorem dX8_waiting_75 : decode cX8_waiting 75 = .ok (.iconst 2, 1) := by decide +kernel
theorem dX8_waiting_76 : decode cX8_waiting 76 = .ok (.if_icmp .ne 18, 3) := by decide +kernel
theorem dX8_waiting_79 : decode cX8_waiting 79 = .ok (.aload_n 0, 1) := by decide +kernel
theorem dX8_waiting_80 : decode cX8_waiting 80 = .ok (.getfield 75, 3) := by decide +kernel
theorem dX8_waiting_83 : decode cX8_waiting 83 = .ok (.iload 4, 2) := by decide +kernel
theorem dX8_waiting_85 : decode cX8_waiting 85 = .ok (.iaload, 1) := by decide +kernel
theorem dX8_waiting_86 : decode cX8_waiting 86 = .ok (.iload_n 1, 1) := by decide +kernel
theorem dX8_waiting_87 : decode cX8_waiting 87 = .ok (.if_icmp .ne 7, 3) := by decide +kernel
theorem dX8_waiting_90 : decode cX8_waiting 90 = .ok (.iconst 1, 1) := by decide +kernel
theorem dX8_waiting_91 : decode cX8_waiting 91 = .ok (.goto 4, 3) := by decide +kernel
theorem dX8_waiting_94 : decode cX8_waiting 94 = .ok (.iconst 0, 1) := by decide +kernel
theorem dX8_waiting_95 : decode cX8_waiting 95 = .ok (.istore 5, 2) := by decide +kernel
theorem dX8_waiting_97 : decode cX8_waiting 97 = .ok (.iload 5, 2) := by decide +kernel
theorem dX8_waiting_99 : decode cX8_waiting 99 = .ok (.ifCond .eq 9, 3) := by decide +kernel
theorem dX8_waiting_102 : decode cX8_waiting 102 = .ok (.iload_n 3, 1) := by decide +kernel
theorem dX8_waiting_103 : decode cX8_waiting 103 = .ok (.iconst 1, 1) := by decide +kernel
theorem dX8_waiting_104 : decode cX8_waiting 104 = .ok (.iadd, 1) := by decide +kernel
theorem dX8_waiting_105 : decode cX8_waiting 105 = .ok (.goto 4, 3) := by decide +kernel
theorem dX8_waiting_108 : decode cX8_waiting 108 = .ok (.iload_n 3, 1) := by decide +kernel
theorem dX8_waiting_109 : decode cX8_waiting 109 = .ok (.istore_n 3, 1) := by decide +kernel
theorem dX8_waiting_110 : decode cX8_waiting 110 = .ok (.iinc 4 1, 3) := by decide +kernel
theorem dX8_waiting_113 : decode cX8_waiting 113 = .ok (.goto (-87), 3) := by decide +kernel
theorem dX8_waiting_116 : decode cX8_waiting 116 = .ok (.iload_n 3, 1) := by decide +kernel
theorem dX8_waiting_117 : decode cX8_waiting 117 = .ok (.ireturn, 1) := by decide +kernel
theorem dJ9_max_7cf53_0 : decode cJ9_max_7cf53 0 = .ok (.iload_n 0, 1) := by decide +kernel
theorem dJ9_max_7cf53_1 : decode cJ9_max_7cf53 1 = .ok (.iload_n 1, 1) := by decide +kernel
theorem dJ9_max_7cf53_2 : decode cJ9_max_7cf53 2 = .ok (.if_icmp .lt 7, 3) := by decide +kernel
theorem dJ9_max_7cf53_5 : decode cJ9_max_7cf53 5 = .ok (.iload_n 0, 1) := by decide +kernel
theorem dJ9_max_7cf53_6 : decode cJ9_max_7cf53 6 = .ok (.goto 4, 3) := by decide +kernel
theorem dJ9_max_7cf53_9 : decode cJ9_max_7cf53 9 = .ok (.iload_n 1, 1) := by decide +kernel
theorem dJ9_max_7cf53_10 : decode cJ9_max_7cf53 10 = .ok (.ireturn, 1) := by decide +kernel
theorem dJ9_min_7cf53_0 : decode cJ9_min_7cf53 0 = .ok (.iload_n 0, 1) := by decide +kernel
theorem dJ9_min_7cf53_1 : decode cJ9_min_7cf53 1 = .ok (.iload_n 1, 1) := by decide +kernel
theorem dJ9_min_7cf53_2 : decode cJ9_min_7cf53 2 = .ok (.if_icmp .gt 7, 3) := by decide +kernel
theorem dJ9_min_7cf53_5 : decode cJ9_min_7cf53 5 = .ok (.iload_n 0, 1) := by decide +kernel
theorem dJ9_min_7cf53_6 : decode cJ9_min_7cf53 6 = .ok (.goto 4, 3) := by decide +kernel
theorem dJ9_min_7cf53_9 : decode cJ9_min_7cf53 9 = .ok (.iload_n 1, 1) := by decide +kernel
theorem dJ9_min_7cf53_10 : decode cJ9_min_7cf53 10 = .ok (.ireturn, 1) := by decide +kernel
theorem dJxa1e45_init_da8c8_0 : decode cJxa1e45_init_da8c8 0 = .ok (.aload_n 0, 1) := by decide +kernel
theorem dJxa1e45_init_da8c8_1 : decode cJxa1e45_init_da8c8 1 = .ok (.invokespecial 1, 3) := by decide +kernel
theorem dJxa1e45_init_da8c8_4 : decode cJxa1e45_init_da8c8 4 = .ok (.return_, 1) := by decide +kernel
set_option maxRecDepth 20000 in
theorem ggJxc12de_init_da8c8_Jxa1e45_init_da8c8 : GoodIn wsJxc12de_init_da8c8 wsJxa1e45_init_da8c8 := goodIn_r _ [5, 6, 7, 8] (by decide +kernel) (by decide +kernel)
set_option maxRecDepth 20000 in
theorem gJxc12de_init_da8c8_Jxa1e45_init_da8c8 : GoodIn wsJxc12de_init_da8c8 (wsJxa1e45_init_da8c8) := ggJxc12de_init_da8c8_Jxa1e45_init_da8c8
theorem dJxc12de_init_da8c8_0 : decode cJxc12de_init_da8c8 0 = .ok (.aload_n 0, 1) := by decide +kernel
theorem dJxc12de_init_da8c8_1 : decode cJxc12de_init_da8c8 1 = .ok (.invokespecial 1, 3) := by decide +kernel
theorem dJxc12de_init_da8c8_4 : decode cJxc12de_init_da8c8 4 = .ok (.aload_n 0, 1) := by decide +kernel
theorem dJxc12de_init_da8c8_5 : decode cJxc12de_init_da8c8 5 = .ok (.iconst 0, 1) := by decide +kernel
theorem dJxc12de_init_da8c8_6 : decode cJxc12de_init_da8c8 6 = .ok (.putfield 7, 3) := by decide +kernel
theorem dJxc12de_init_da8c8_9 : decode cJxc12de_init_da8c8 9 = .ok (.return_, 1) := by decide +kernel
set_option maxRecDepth 20000 in
theorem ggJx4a65c_init_da8c8_Jxc12de_init_da8c8 : GoodIn wsJx4a65c_init_da8c8 wsJxc12de_init_da8c8 := goodIn_r _ [6, 7, 8, 9, 10, 11, 12, 13, 14, 15, 16, 17] (by decide +kernel) (by decide +kernel)
set_option maxRecDepth 20000 in
theorem gJx4a65c_init_da8c8_Jxc12de_init_da8c8 : GoodIn wsJx4a65c_init_da8c8 (wsJxc12de_init_da8c8) := ggJx4a65c_init_da8c8_Jxc12de_init_da8c8
theorem dJx4a65c_init_da8c8_0 : decode cJx4a65c_init_da8c8 0 = .ok (.aload_n 0, 1) := by decide +kernel
theorem dJx4a65c_init_da8c8_1 : decode cJx4a65c_init_da8c8 1 = .ok (.invokespecial 1, 3) := by decide +kernel
theorem dJx4a65c_init_da8c8_4 : decode cJx4a65c_init_da8c8 4 = .ok (.aload_n 0, 1) := by decide +kernel
theorem dJx4a65c_init_da8c8_5 : decode cJx4a65c_init_da8c8 5 = .ok (.getstatic 39, 3) := by decide +kernel
theorem dJx4a65c_init_da8c8_8 : decode cJx4a65c_init_da8c8 8 = .ok (.putfield 9, 3) := by decide +kernel
theorem dJx4a65c_init_da8c8_11 : decode cJx4a65c_init_da8c8 11 = .ok (.return_, 1) := by decide +kernel
set_option maxRecDepth 20000 in
theorem ggJx4a65c_grow_92f84_J8_newLength_cabcc : GoodIn wsJx4a65c_grow_92f84 wsJ8_newLength_cabcc := goodIn_r _ [11, 12, 4, 5, 6, 13, 14, 15, 10, 16] (by decide +kernel) (by decide +kernel)
set_option maxRecDepth 20000 in
theorem gJx4a65c_grow_92f84_J8_newLength_cabcc : GoodIn wsJx4a65c_grow_92f84 (va_wsS RJx4a65c 73 yJ8_newLength_cabcc wsJ8_newLength_cabcc) := goodIn_app (goodIn_of _ (by decide +kernel)) ggJx4a65c_grow_92f84_J8_newLength_cabcc
set_option maxRecDepth 20000 in
theorem ggJx4a65c_grow_92f84_J7_copyOf_1904c : GoodIn wsJx4a65c_grow_92f84 wsJ7_copyOf_1904c := goodIn_r _ [20, 21, 22, 23, 24, 25, 26, 19, 27, 28, 29, 30, 31, 5, 32, 33, 34, 35, 36] (by decide +kernel) (by decide +kernel)
set_option maxRecDepth 20000 in
theorem gJx4a65c_grow_92f84_J7_copyOf_1904c : GoodIn wsJx4a65c_grow_92f84 (va_wsS RJx4a65c 66 yJ7_copyOf_1904c wsJ7_copyOf_1904c) := goodIn_app (goodIn_of _ (by decide +kernel)) ggJx4a65c_grow_92f84_J7_copyOf_1904c
theorem dJx4a65c_grow_92f84_0 : decode cJx4a65c_grow_92f84 0 = .ok (.aload_n 0, 1) := by decide +kernel
theorem dJx4a65c_grow_92f84_1 : decode cJx4a65c_grow_92f84 1 = .ok (.getfield 9, 3) := by decide +kernel
theorem dJx4a65c_grow_92f84_4 : decode cJx4a65c_grow_92f84 4 = .ok (.arraylength, 1) := by decide +kernel
theorem dJx4a65c_grow_92f84_5 : decode cJx4a65c_grow_92f84 5 = .ok (.istore_n 2, 1) := by decide +kernel
theorem dJx4a65c_grow_92f84_6 : decode cJx4a65c_grow_92f84 6 = .ok (.iload_n 2, 1) := by decide +kernel
theorem dJx4a65c_grow_92f84_7 : decode cJx4a65c_grow_92f84 7 = .ok (.ifCond .gt 13, 3) := by decide +kernel
theorem dJx4a65c_grow_92f84_10 : decode cJx4a65c_grow_92f84 10 = .ok (.aload_n 0, 1) := by decide +kernel
theorem dJx4a65c_grow_92f84_11 : decode cJx4a65c_grow_92f84 11 = .ok (.getfield 9, 3) := by decide +kernel
theorem dJx4a65c_grow_92f84_14 : decode cJx4a65c_grow_92f84 14 = .ok (.getstatic 39, 3) := by decide +kernel
theorem dJx4a65c_grow_92f84_17 : decode cJx4a65c_grow_92f84 17 = .ok (.if_acmp .eq 28, 3) := by decide +kernel
theorem dJx4a65c_grow_92f84_20 : decode cJx4a65c_grow_92f84 20 = .ok (.iload_n 2, 1) := by decide +kernel
theorem dJx4a65c_grow_92f84_21 : decode cJx4a65c_grow_92f84 21 = .ok (.iload_n 1, 1) := by decide +kernel
theorem dJx4a65c_grow_92f84_22 : decode cJx4a65c_grow_92f84 22 = .ok (.iload_n 2, 1) := by decide +kernel
theorem dJx4a65c_grow_92f84_23 : decode cJx4a65c_grow_92f84 23 = .ok (.isub, 1) := by decide +kernel
theorem dJx4a65c_grow_92f84_24 : decode cJx4a65c_grow_92f84 24 = .ok (.iload_n 2, 1) := by decide +kernel
theorem dJx4a65c_grow_92f84_25 : decode cJx4a65c_grow_92f84 25 = .ok (.iconst 1, 1) := by decide +kernel
theorem dJx4a65c_grow_92f84_26 : decode cJx4a65c_grow_92f84 26 = .ok (.ishr, 1) := by decide +kernel
theorem dJx4a65c_grow_92f84_27 : decode cJx4a65c_grow_92f84 27 = .ok (.invokestatic 73, 3) := by decide +kernel
theorem dJx4a65c_grow_92f84_30 : decode cJx4a65c_grow_92f84 30 = .ok (.istore_n 3, 1) := by decide +kernel
theorem dJx4a65c_grow_92f84_31 : decode cJx4a65c_grow_92f84 31 = .ok (.aload_n 0, 1) := by decide +kernel
theorem dJx4a65c_grow_92f84_32 : decode cJx4a65c_grow_92f84 32 = .ok (.aload_n 0, 1) := by decide +kernel
theorem dJx4a65c_grow_92f84_33 : decode cJx4a65c_grow_92f84 33 = .ok (.getfield 9, 3) := by decide +kernel
theorem dJx4a65c_grow_92f84_36 : decode cJx4a65c_grow_92f84 36 = .ok (.iload_n 3, 1) := by decide +kernel
theorem dJx4a65c_grow_92f84_37 : decode cJx4a65c_grow_92f84 37 = .ok (.invokestatic 66, 3) := by decide +kernel
theorem dJx4a65c_grow_92f84_40 : decode cJx4a65c_grow_92f84 40 = .ok (.dup_x1, 1) := by decide +kernel
theorem dJx4a65c_grow_92f84_41 : decode cJx4a65c_grow_92f84 41 = .ok (.putfield 9, 3) := by decide +kernel
theorem dJx4a65c_grow_92f84_44 : decode cJx4a65c_grow_92f84 44 = .ok (.areturn, 1) := by decide +kernel
theorem dJx4a65c_grow_92f84_45 : decode cJx4a65c_grow_92f84 45 = .ok (.aload_n 0, 1) := by decide +kernel
theorem dJx4a65c_grow_92f84_46 : decode cJx4a65c_grow_92f84 46 = .ok (.bipush 10, 2) := by decide +kernel
theorem dJx4a65c_grow_92f84_48 : decode cJx4a65c_grow_92f84 48 = .ok (.iload_n 1, 1) := by decide +kernel
theorem dJx4a65c_grow_92f84_49 : decode cJx4a65c_grow_92f84 49 = .ok (.invokestatic 79, 3) := by decide +kernel
theorem dJx4a65c_grow_92f84_52 : decode cJx4a65c_grow_92f84 52 = .ok (.anewarray 7, 3) := by decide +kernel
theorem dJx4a65c_grow_92f84_55 : decode cJx4a65c_grow_92f84 55 = .ok (.dup_x1, 1) := by decide +kernel
theorem dJx4a65c_grow_92f84_56 : decode cJx4a65c_grow_92f84 56 = .ok (.putfield 9, 3) := by decide +kernel
theorem dJx4a65c_grow_92f84_59 : decode cJx4a65c_grow_92f84 59 = .ok (.areturn, 1) := by decide +kernel
set_option maxRecDepth 20000 in
theorem ggJx4a65c_grow_d5877_Jx4a65c_grow_92f84 : GoodIn wsJx4a65c_grow_d5877 wsJx4a65c_grow_92f84 := goodIn_r _ [6, 7, 8, 9, 10, 11, 12, 13, 14, 15, 16, 17, 18, 19, 20, 21, 22, 23, 24, 25, 26, 27, 28, 29, 30, 31, 32, 33, 34, 35, 36, 37, 38, 39, 40, 41, 42, 43, 44, 45] (by decide +kernel) (by decide +kernel)
set_option maxRecDepth 20000 in
theorem gJx4a65c_grow_d5877_Jx4a65c_grow_92f84 : GoodIn wsJx4a65c_grow_d5877 (wsV RJx4a65c 69 RJx4a65c yJx4a65c_grow_92f84 wsJx4a65c_grow_92f84) := goodIn_app (goodIn_of _ (by decide +kernel)) ggJx4a65c_grow_d5877_Jx4a65c_grow_92f84
theorem dJx4a65c_grow_d5877_0 : decode cJx4a65c_grow_d5877 0 = .ok (.aload_n 0, 1) := by decide +kernel
theorem dJx4a65c_grow_d5877_1 : decode cJx4a65c_grow_d5877 1 = .ok (.aload_n 0, 1) := by decide +kernel
theorem dJx4a65c_grow_d5877_2 : decode cJx4a65c_grow_d5877 2 = .ok (.getfield 48, 3) := by decide +kernel
theorem dJx4a65c_grow_d5877_5 : decode cJx4a65c_grow_d5877 5 = .ok (.iconst 1, 1) := by decide +kernel
theorem dJx4a65c_grow_d5877_6 : decode cJx4a65c_grow_d5877 6 = .ok (.iadd, 1) := by decide +kernel
theorem dJx4a65c_grow_d5877_7 : decode cJx4a65c_grow_d5877 7 = .ok (.invokevirtual 69, 3) := by decide +kernel
theorem dJx4a65c_grow_d5877_10 : decode cJx4a65c_grow_d5877 10 = .ok (.areturn, 1) := by decide +kernel
theorem dJx4a65c_size_8abf5_0 : decode cJx4a65c_size_8abf5 0 = .ok (.aload_n 0, 1) := by decide +kernel
theorem dJx4a65c_size_8abf5_1 : decode cJx4a65c_size_8abf5 1 = .ok (.getfield 48, 3) := by decide +kernel
theorem dJx4a65c_size_8abf5_4 : decode cJx4a65c_size_8abf5 4 = .ok (.ireturn, 1) := by decide +kernel
theorem dJx4a65c_elementData_915e3_0 : decode cJx4a65c_elementData_915e3 0 = .ok (.aload_n 0, 1) := by decide +kernel
theorem dJx4a65c_elementData_915e3_1 : decode cJx4a65c_elementData_915e3 1 = .ok (.getfield 9, 3) := by decide +kernel
theorem dJx4a65c_elementData_915e3_4 : decode cJx4a65c_elementData_915e3 4 = .ok (.iload_n 1, 1) := by decide +kernel
theorem dJx4a65c_elementData_915e3_5 : decode cJx4a65c_elementData_915e3 5 = .ok (.aaload, 1) := by decide +kernel
theorem dJx4a65c_elementData_915e3_6 : decode cJx4a65c_elementData_915e3 6 = .ok (.areturn, 1) := by decide +kernel
set_option maxRecDepth 20000 in
theorem ggJx4a65c_get_915e3_J15_checkIndex_7cf53 : GoodIn wsJx4a65c_get_915e3 wsJ15_checkIndex_7cf53 := goodIn_r _ [5, 6, 7, 8, 9] (by decide +kernel) (by decide +kernel)
set_option maxRecDepth 20000 in
theorem gJx4a65c_get_915e3_J15_checkIndex_7cf53 : GoodIn wsJx4a65c_get_915e3 (va_wsS RJx4a65c 118 yJ15_checkIndex_7cf53 wsJ15_checkIndex_7cf53) := goodIn_app (goodIn_of _ (by decide +kernel)) ggJx4a65c_get_915e3_J15_checkIndex_7cf53
set_option maxRecDepth 20000 in
theorem ggJx4a65c_get_915e3_Jx4a65c_elementData_915e3 : GoodIn wsJx4a65c_get_915e3 wsJx4a65c_elementData_915e3 := goodIn_r _ [14, 15, 16, 17, 18] (by decide +kernel) (by decide +kernel)
set_option maxRecDepth 20000 in
theorem gJx4a65c_get_915e3_Jx4a65c_elementData_915e3 : GoodIn wsJx4a65c_get_915e3 (wsV RJx4a65c 123 RJx4a65c yJx4a65c_elementData_915e3 wsJx4a65c_elementData_915e3) := goodIn_app (goodIn_of _ (by decide +kernel)) ggJx4a65c_get_915e3_Jx4a65c_elementData_915e3
theorem dJx4a65c_get_915e3_0 : decode cJx4a65c_get_915e3 0 = .ok (.iload_n 1, 1) := by decide +kernel
theorem dJx4a65c_get_915e3_1 : decode cJx4a65c_get_915e3 1 = .ok (.aload_n 0, 1) := by decide +kernel
theorem dJx4a65c_get_915e3_2 : decode cJx4a65c_get_915e3 2 = .ok (.getfield 48, 3) := by decide +kernel
theorem dJx4a65c_get_915e3_5 : decode cJx4a65c_get_915e3 5 = .ok (.invokestatic 118, 3) := by decide +kernel
theorem dJx4a65c_get_915e3_8 : decode cJx4a65c_get_915e3 8 = .ok (.pop, 1) := by decide +kernel
theorem dJx4a65c_get_915e3_9 : decode cJx4a65c_get_915e3 9 = .ok (.aload_n 0, 1) := by decide +kernel
theorem dJx4a65c_get_915e3_10 : decode cJx4a65c_get_915e3 10 = .ok (.iload_n 1, 1) := by decide +kernel
theorem dJx4a65c_get_915e3_11 : decode cJx4a65c_get_915e3 11 = .ok (.invokevirtual 123, 3) := by decide +kernel
theorem dJx4a65c_get_915e3_14 : decode cJx4a65c_get_915e3 14 = .ok (.areturn, 1) := by decide +kernel
set_option maxRecDepth 20000 in
theorem ggJx4a65c_add_72be8_Jx4a65c_grow_d5877 : GoodIn wsJx4a65c_add_72be8 wsJx4a65c_grow_d5877 := goodIn_r _ [6, 1, 7, 8, 9, 5, 10, 11, 12, 13, 14, 15, 16, 17, 18, 19, 20, 21, 22, 23, 24, 25, 26, 27, 28, 29, 30, 31, 32, 33, 34, 35, 36, 37, 38, 39, 40, 41, 42, 43, 44, 45, 46, 47, 48, 49] (by decide +kernel) (by decide +kernel)
set_option maxRecDepth 20000 in
theorem gJx4a65c_add_72be8_Jx4a65c_grow_d5877 : GoodIn wsJx4a65c_add_72be8 (wsV RJx4a65c 129 RJx4a65c yJx4a65c_grow_d5877 wsJx4a65c_grow_d5877) := goodIn_app (goodIn_of _ (by decide +kernel)) ggJx4a65c_add_72be8_Jx4a65c_grow_d5877
theorem dJx4a65c_add_72be8_0 : decode cJx4a65c_add_72be8 0 = .ok (.iload_n 3, 1) := by decide +kernel
theorem dJx4a65c_add_72be8_1 : decode cJx4a65c_add_72be8 1 = .ok (.aload_n 2, 1) := by decide +kernel
theorem dJx4a65c_add_72be8_2 : decode cJx4a65c_add_72be8 2 = .ok (.arraylength, 1) := by decide +kernel
theorem dJx4a65c_add_72be8_3 : decode cJx4a65c_add_72be8 3 = .ok (.if_icmp .ne 8, 3) := by decide +kernel
theorem dJx4a65c_add_72be8_6 : decode cJx4a65c_add_72be8 6 = .ok (.aload_n 0, 1) := by decide +kernel
theorem dJx4a65c_add_72be8_7 : decode cJx4a65c_add_72be8 7 = .ok (.invokevirtual 129, 3) := by decide +kernel
theorem dJx4a65c_add_72be8_10 : decode cJx4a65c_add_72be8 10 = .ok (.astore_n 2, 1) := by decide +kernel
theorem dJx4a65c_add_72be8_11 : decode cJx4a65c_add_72be8 11 = .ok (.aload_n 2, 1) := by decide +kernel
theorem dJx4a65c_add_72be8_12 : decode cJx4a65c_add_72be8 12 = .ok (.iload_n 3, 1) := by decide +kernel
theorem dJx4a65c_add_72be8_13 : decode cJx4a65c_add_72be8 13 = .ok (.aload_n 1, 1) := by decide +kernel
theorem dJx4a65c_add_72be8_14 : decode cJx4a65c_add_72be8 14 = .ok (.aastore, 1) := by decide +kernel
theorem dJx4a65c_add_72be8_15 : decode cJx4a65c_add_72be8 15 = .ok (.aload_n 0, 1) := by decide +kernel
theorem dJx4a65c_add_72be8_16 : decode cJx4a65c_add_72be8 16 = .ok (.iload_n 3, 1) := by decide +kernel
theorem dJx4a65c_add_72be8_17 : decode cJx4a65c_add_72be8 17 = .ok (.iconst 1, 1) := by decide +kernel
theorem dJx4a65c_add_72be8_18 : decode cJx4a65c_add_72be8 18 = .ok (.iadd, 1) := by decide +kernel
theorem dJx4a65c_add_72be8_19 : decode cJx4a65c_add_72be8 19 = .ok (.putfield 48, 3) := by decide +kernel
theorem dJx4a65c_add_72be8_22 : decode cJx4a65c_add_72be8 22 = .ok (.return_, 1) := by decide +kernel
set_option maxRecDepth 20000 in
theorem ggJx4a65c_add_9ea2d_Jx4a65c_add_72be8 : GoodIn wsJx4a65c_add_9ea2d wsJx4a65c_add_72be8 := goodIn_r _ [9, 4, 10, 11, 12, 8, 13, 14, 15, 16, 17, 3, 18, 19, 20, 21, 22, 23, 24, 25, 26, 27, 28, 29, 30, 31, 32, 33, 34, 35, 36, 37, 38, 39, 40, 41, 42, 43, 44, 45, 46, 47, 48, 49, 50, 51, 52, 53, 54, 55] (by decide +kernel) (by decide +kernel)
set_option maxRecDepth 20000 in
theorem gJx4a65c_add_9ea2d_Jx4a65c_add_72be8 : GoodIn wsJx4a65c_add_9ea2d (wsV RJx4a65c 131 RJx4a65c yJx4a65c_add_72be8 wsJx4a65c_add_72be8) := goodIn_app (goodIn_of _ (by decide +kernel)) ggJx4a65c_add_9ea2d_Jx4a65c_add_72be8
theorem dJx4a65c_add_9ea2d_0 : decode cJx4a65c_add_9ea2d 0 = .ok (.aload_n 0, 1) := by decide +kernel
theorem dJx4a65c_add_9ea2d_1 : decode cJx4a65c_add_9ea2d 1 = .ok (.dup, 1) := by decide +kernel
theorem dJx4a65c_add_9ea2d_2 : decode cJx4a65c_add_9ea2d 2 = .ok (.getfield 63, 3) := by decide +kernel
theorem dJx4a65c_add_9ea2d_5 : decode cJx4a65c_add_9ea2d 5 = .ok (.iconst 1, 1) := by decide +kernel
theorem dJx4a65c_add_9ea2d_6 : decode cJx4a65c_add_9ea2d 6 = .ok (.iadd, 1) := by decide +kernel
theorem dJx4a65c_add_9ea2d_7 : decode cJx4a65c_add_9ea2d 7 = .ok (.putfield 63, 3) := by decide +kernel
theorem dJx4a65c_add_9ea2d_10 : decode cJx4a65c_add_9ea2d 10 = .ok (.aload_n 0, 1) := by decide +kernel
theorem dJx4a65c_add_9ea2d_11 : decode cJx4a65c_add_9ea2d 11 = .ok (.aload_n 1, 1) := by decide +kernel
theorem dJx4a65c_add_9ea2d_12 : decode cJx4a65c_add_9ea2d 12 = .ok (.aload_n 0, 1) := by decide +kernel
theorem dJx4a65c_add_9ea2d_13 : decode cJx4a65c_add_9ea2d 13 = .ok (.getfield 9, 3) := by decide +kernel
theorem dJx4a65c_add_9ea2d_16 : decode cJx4a65c_add_9ea2d 16 = .ok (.aload_n 0, 1) := by decide +kernel
theorem dJx4a65c_add_9ea2d_17 : decode cJx4a65c_add_9ea2d 17 = .ok (.getfield 48, 3) := by decide +kernel
theorem dJx4a65c_add_9ea2d_20 : decode cJx4a65c_add_9ea2d 20 = .ok (.invokevirtual 131, 3) := by decide +kernel
theorem dJx4a65c_add_9ea2d_23 : decode cJx4a65c_add_9ea2d 23 = .ok (.iconst 1, 1) := by decide +kernel
theorem dJx4a65c_add_9ea2d_24 : decode cJx4a65c_add_9ea2d 24 = .ok (.ireturn, 1) := by decide +kernel
set_option maxRecDepth 20000 in
theorem ggJx4a65c_add_7a177_Jx4a65c_rangeCheckForAdd_d00df : GoodIn wsJx4a65c_add_7a177 wsJx4a65c_rangeCheckForAdd_d00df := goodIn_r _ [13, 3, 54, 55, 56] (by decide +kernel) (by decide +kernel)
set_option maxRecDepth 20000 in
theorem gJx4a65c_add_7a177_Jx4a65c_rangeCheckForAdd_d00df : GoodIn wsJx4a65c_add_7a177 (wsV RJx4a65c 135 RJx4a65c yJx4a65c_rangeCheckForAdd_d00df wsJx4a65c_rangeCheckForAdd_d00df) := goodIn_app (goodIn_of _ (by decide +kernel)) ggJx4a65c_add_7a177_Jx4a65c_rangeCheckForAdd_d00df
set_option maxRecDepth 20000 in
theorem ggJx4a65c_add_7a177_Jx4a65c_grow_d5877 : GoodIn wsJx4a65c_add_7a177 wsJx4a65c_grow_d5877 := goodIn_r _ [17, 3, 18, 19, 20, 12, 21, 4, 22, 23, 24, 25, 26, 27, 28, 29, 30, 31, 32, 33, 34, 35, 36, 37, 38, 39, 40, 41, 42, 43, 44, 45, 46, 47, 48, 49, 50, 51, 52, 53, 6, 7, 8, 54, 55, 56] (by decide +kernel) (by decide +kernel)
set_option maxRecDepth 20000 in
theorem gJx4a65c_add_7a177_Jx4a65c_grow_d5877 : GoodIn wsJx4a65c_add_7a177 (wsV RJx4a65c 129 RJx4a65c yJx4a65c_grow_d5877 wsJx4a65c_grow_d5877) := goodIn_app (goodIn_of _ (by decide +kernel)) ggJx4a65c_add_7a177_Jx4a65c_grow_d5877
theorem dJx4a65c_add_7a177_0 : decode cJx4a65c_add_7a177 0 = .ok (.aload_n 0, 1) := by decide +kernel
theorem dJx4a65c_add_7a177_1 : decode cJx4a65c_add_7a177 1 = .ok (.iload_n 1, 1) := by decide +kernel
theorem dJx4a65c_add_7a177_2 : decode cJx4a65c_add_7a177 2 = .ok (.invokevirtual 135, 3) := by decide +kernel
theorem dJx4a65c_add_7a177_5 : decode cJx4a65c_add_7a177 5 = .ok (.aload_n 0, 1) := by decide +kernel
theorem dJx4a65c_add_7a177_6 : decode cJx4a65c_add_7a177 6 = .ok (.dup, 1) := by decide +kernel
theorem dJx4a65c_add_7a177_7 : decode cJx4a65c_add_7a177 7 = .ok (.getfield 63, 3) := by decide +kernel
theorem dJx4a65c_add_7a177_10 : decode cJx4a65c_add_7a177 10 = .ok (.iconst 1, 1) := by decide +kernel
theorem dJx4a65c_add_7a177_11 : decode cJx4a65c_add_7a177 11 = .ok (.iadd, 1) := by decide +kernel
theorem dJx4a65c_add_7a177_12 : decode cJx4a65c_add_7a177 12 = .ok (.putfield 63, 3) := by decide +kernel
theorem dJx4a65c_add_7a177_15 : decode cJx4a65c_add_7a177 15 = .ok (.aload_n 0, 1) := by decide +kernel
theorem dJx4a65c_add_7a177_16 : decode cJx4a65c_add_7a177 16 = .ok (.getfield 48, 3) := by decide +kernel
theorem dJx4a65c_add_7a177_19 : decode cJx4a65c_add_7a177 19 = .ok (.dup, 1) := by decide +kernel
theorem dJx4a65c_add_7a177_20 : decode cJx4a65c_add_7a177 20 = .ok (.istore_n 3, 1) := by decide +kernel
theorem dJx4a65c_add_7a177_21 : decode cJx4a65c_add_7a177 21 = .ok (.aload_n 0, 1) := by decide +kernel
theorem dJx4a65c_add_7a177_22 : decode cJx4a65c_add_7a177 22 = .ok (.getfield 9, 3) := by decide +kernel
theorem dJx4a65c_add_7a177_25 : decode cJx4a65c_add_7a177 25 = .ok (.dup, 1) := by decide +kernel
theorem dJx4a65c_add_7a177_26 : decode cJx4a65c_add_7a177 26 = .ok (.astore 4, 2) := by decide +kernel
theorem dJx4a65c_add_7a177_28 : decode cJx4a65c_add_7a177 28 = .ok (.arraylength, 1) := by decide +kernel
theorem dJx4a65c_add_7a177_29 : decode cJx4a65c_add_7a177 29 = .ok (.if_icmp .ne 9, 3) := by decide +kernel
theorem dJx4a65c_add_7a177_32 : decode cJx4a65c_add_7a177 32 = .ok (.aload_n 0, 1) := by decide +kernel
theorem dJx4a65c_add_7a177_33 : decode cJx4a65c_add_7a177 33 = .ok (.invokevirtual 129, 3) := by decide +kernel
theorem dJx4a65c_add_7a177_36 : decode cJx4a65c_add_7a177 36 = .ok (.astore 4, 2) := by decide +kernel
theorem dJx4a65c_add_7a177_38 : decode cJx4a65c_add_7a177 38 = .ok (.aload 4, 2) := by decide +kernel
theorem dJx4a65c_add_7a177_40 : decode cJx4a65c_add_7a177 40 = .ok (.iload_n 1, 1) := by decide +kernel
theorem dJx4a65c_add_7a177_41 : decode cJx4a65c_add_7a177 41 = .ok (.aload 4, 2) := by decide +kernel
theorem dJx4a65c_add_7a177_43 : decode cJx4a65c_add_7a177 43 = .ok (.iload_n 1, 1) := by decide +kernel
theorem dJx4a65c_add_7a177_44 : decode cJx4a65c_add_7a177 44 = .ok (.iconst 1, 1) := by decide +kernel
theorem dJx4a65c_add_7a177_45 : decode cJx4a65c_add_7a177 45 = .ok (.iadd, 1) := by decide +kernel
theorem dJx4a65c_add_7a177_46 : decode cJx4a65c_add_7a177 46 = .ok (.iload_n 3, 1) := by decide +kernel
theorem dJx4a65c_add_7a177_47 : decode cJx4a65c_add_7a177 47 = .ok (.iload_n 1, 1) := by decide +kernel
theorem dJx4a65c_add_7a177_48 : decode cJx4a65c_add_7a177 48 = .ok (.isub, 1) := by decide +kernel
theorem dJx4a65c_add_7a177_49 : decode cJx4a65c_add_7a177 49 = .ok (.invokestatic 112, 3) := by decide +kernel
theorem dJx4a65c_add_7a177_52 : decode cJx4a65c_add_7a177 52 = .ok (.aload 4, 2) := by decide +kernel
theorem dJx4a65c_add_7a177_54 : decode cJx4a65c_add_7a177 54 = .ok (.iload_n 1, 1) := by decide +kernel
theorem dJx4a65c_add_7a177_55 : decode cJx4a65c_add_7a177 55 = .ok (.aload_n 2, 1) := by decide +kernel
theorem dJx4a65c_add_7a177_56 : decode cJx4a65c_add_7a177 56 = .ok (.aastore, 1) := by decide +kernel
theorem dJx4a65c_add_7a177_57 : decode cJx4a65c_add_7a177 57 = .ok (.aload_n 0, 1) := by decide +kernel
theorem dJx4a65c_add_7a177_58 : decode cJx4a65c_add_7a177 58 = .ok (.iload_n 3, 1) := by decide +kernel
theorem dJx4a65c_add_7a177_59 : decode cJx4a65c_add_7a177 59 = .ok (.iconst 1, 1) := by decide +kernel
theorem dJx4a65c_add_7a177_60 : decode cJx4a65c_add_7a177 60 = .ok (.iadd, 1) := by decide +kernel
theorem dJx4a65c_add_7a177_61 : decode cJx4a65c_add_7a177 61 = .ok (.putfield 48, 3) := by decide +kernel
theorem dJx4a65c_add_7a177_64 : decode cJx4a65c_add_7a177 64 = .ok (.return_, 1) := by decide +kernel
set_option maxRecDepth 20000 in
theorem ggJx4a65c_remove_915e3_J15_checkIndex_7cf53 : GoodIn wsJx4a65c_remove_915e3 wsJ15_checkIndex_7cf53 := goodIn_r _ [6, 7, 8, 9, 10] (by decide +kernel) (by decide +kernel)
set_option maxRecDepth 20000 in
theorem gJx4a65c_remove_915e3_J15_checkIndex_7cf53 : GoodIn wsJx4a65c_remove_915e3 (va_wsS RJx4a65c 118 yJ15_checkIndex_7cf53 wsJ15_checkIndex_7cf53) := goodIn_app (goodIn_of _ (by decide +kernel)) ggJx4a65c_remove_915e3_J15_checkIndex_7cf53
set_option maxRecDepth 20000 in
theorem ggJx4a65c_remove_915e3_Jx4a65c_fastRemove_b59b0 : GoodIn wsJx4a65c_remove_915e3 wsJx4a65c_fastRemove_b59b0 := goodIn_r _ [15, 16, 17, 1, 18, 19, 20, 21, 22, 23, 24] (by decide +kernel) (by decide +kernel)
set_option maxRecDepth 20000 in
theorem gJx4a65c_remove_915e3_Jx4a65c_fastRemove_b59b0 : GoodIn wsJx4a65c_remove_915e3 (wsV RJx4a65c 144 RJx4a65c yJx4a65c_fastRemove_b59b0 wsJx4a65c_fastRemove_b59b0) := goodIn_app (goodIn_of _ (by decide +kernel)) ggJx4a65c_remove_915e3_Jx4a65c_fastRemove_b59b0
theorem dJx4a65c_remove_915e3_0 : decode cJx4a65c_remove_915e3 0 = .ok (.iload_n 1, 1) := by decide +kernel
theorem dJx4a65c_remove_915e3_1 : decode cJx4a65c_remove_915e3 1 = .ok (.aload_n 0, 1) := by decide +kernel
theorem dJx4a65c_remove_915e3_2 : decode cJx4a65c_remove_915e3 2 = .ok (.getfield 48, 3) := by decide +kernel
theorem dJx4a65c_remove_915e3_5 : decode cJx4a65c_remove_915e3 5 = .ok (.invokestatic 118, 3) := by decide +kernel
theorem dJx4a65c_remove_915e3_8 : decode cJx4a65c_remove_915e3 8 = .ok (.pop, 1) := by decide +kernel
theorem dJx4a65c_remove_915e3_9 : decode cJx4a65c_remove_915e3 9 = .ok (.aload_n 0, 1) := by decide +kernel
theorem dJx4a65c_remove_915e3_10 : decode cJx4a65c_remove_915e3 10 = .ok (.getfield 9, 3) := by decide +kernel
theorem dJx4a65c_remove_915e3_13 : decode cJx4a65c_remove_915e3 13 = .ok (.astore_n 2, 1) := by decide +kernel
theorem dJx4a65c_remove_915e3_14 : decode cJx4a65c_remove_915e3 14 = .ok (.aload_n 2, 1) := by decide +kernel
theorem dJx4a65c_remove_915e3_15 : decode cJx4a65c_remove_915e3 15 = .ok (.iload_n 1, 1) := by decide +kernel
theorem dJx4a65c_remove_915e3_16 : decode cJx4a65c_remove_915e3 16 = .ok (.aaload, 1) := by decide +kernel
theorem dJx4a65c_remove_915e3_17 : decode cJx4a65c_remove_915e3 17 = .ok (.astore_n 3, 1) := by decide +kernel
theorem dJx4a65c_remove_915e3_18 : decode cJx4a65c_remove_915e3 18 = .ok (.aload_n 0, 1) := by decide +kernel
theorem dJx4a65c_remove_915e3_19 : decode cJx4a65c_remove_915e3 19 = .ok (.aload_n 2, 1) := by decide +kernel
theorem dJx4a65c_remove_915e3_20 : decode cJx4a65c_remove_915e3 20 = .ok (.iload_n 1, 1) := by decide +kernel
theorem dJx4a65c_remove_915e3_21 : decode cJx4a65c_remove_915e3 21 = .ok (.invokevirtual 144, 3) := by decide +kernel
theorem dJx4a65c_remove_915e3_24 : decode cJx4a65c_remove_915e3 24 = .ok (.aload_n 3, 1) := by decide +kernel
theorem dJx4a65c_remove_915e3_25 : decode cJx4a65c_remove_915e3 25 = .ok (.areturn, 1) := by decide +kernel
theorem dJx4a65c_fastRemove_b59b0_0 : decode cJx4a65c_fastRemove_b59b0 0 = .ok (.aload_n 0, 1) := by decide +kernel
theorem dJx4a65c_fastRemove_b59b0_1 : decode cJx4a65c_fastRemove_b59b0 1 = .ok (.dup, 1) := by decide +kernel
theorem dJx4a65c_fastRemove_b59b0_2 : decode cJx4a65c_fastRemove_b59b0 2 = .ok (.getfield 63, 3) := by decide +kernel
theorem dJx4a65c_fastRemove_b59b0_5 : decode cJx4a65c_fastRemove_b59b0 5 = .ok (.iconst 1, 1) := by decide +kernel
theorem dJx4a65c_fastRemove_b59b0_6 : decode cJx4a65c_fastRemove_b59b0 6 = .ok (.iadd, 1) := by decide +kernel
theorem dJx4a65c_fastRemove_b59b0_7 : decode cJx4a65c_fastRemove_b59b0 7 = .ok (.putfield 63, 3) := by decide +kernel
theorem dJx4a65c_fastRemove_b59b0_10 : decode cJx4a65c_fastRemove_b59b0 10 = .ok (.aload_n 0, 1) := by decide +kernel
theorem dJx4a65c_fastRemove_b59b0_11 : decode cJx4a65c_fastRemove_b59b0 11 = .ok (.getfield 48, 3) := by decide +kernel
theorem dJx4a65c_fastRemove_b59b0_14 : decode cJx4a65c_fastRemove_b59b0 14 = .ok (.iconst 1, 1) := by decide +kernel
theorem dJx4a65c_fastRemove_b59b0_15 : decode cJx4a65c_fastRemove_b59b0 15 = .ok (.isub, 1) := by decide +kernel
theorem dJx4a65c_fastRemove_b59b0_16 : decode cJx4a65c_fastRemove_b59b0 16 = .ok (.dup, 1) := by decide +kernel
theorem dJx4a65c_fastRemove_b59b0_17 : decode cJx4a65c_fastRemove_b59b0 17 = .ok (.istore_n 3, 1) := by decide +kernel
theorem dJx4a65c_fastRemove_b59b0_18 : decode cJx4a65c_fastRemove_b59b0 18 = .ok (.iload_n 2, 1) := by decide +kernel
theorem dJx4a65c_fastRemove_b59b0_19 : decode cJx4a65c_fastRemove_b59b0 19 = .ok (.if_icmp .le 15, 3) := by decide +kernel
theorem dJx4a65c_fastRemove_b59b0_22 : decode cJx4a65c_fastRemove_b59b0 22 = .ok (.aload_n 1, 1) := by decide +kernel
theorem dJx4a65c_fastRemove_b59b0_23 : decode cJx4a65c_fastRemove_b59b0 23 = .ok (.iload_n 2, 1) := by decide +kernel
theorem dJx4a65c_fastRemove_b59b0_24 : decode cJx4a65c_fastRemove_b59b0 24 = .ok (.iconst 1, 1) := by decide +kernel
theorem dJx4a65c_fastRemove_b59b0_25 : decode cJx4a65c_fastRemove_b59b0 25 = .ok (.iadd, 1) := by decide +kernel
theorem dJx4a65c_fastRemove_b59b0_26 : decode cJx4a65c_fastRemove_b59b0 26 = .ok (.aload_n 1, 1) := by decide +kernel
theorem dJx4a65c_fastRemove_b59b0_27 : decode cJx4a65c_fastRemove_b59b0 27 = .ok (.iload_n 2, 1) := by decide +kernel
theorem dJx4a65c_fastRemove_b59b0_28 : decode cJx4a65c_fastRemove_b59b0 28 = .ok (.iload_n 3, 1) := by decide +kernel
theorem dJx4a65c_fastRemove_b59b0_29 : decode cJx4a65c_fastRemove_b59b0 29 = .ok (.iload_n 2, 1) := by decide +kernel
theorem dJx4a65c_fastRemove_b59b0_30 : decode cJx4a65c_fastRemove_b59b0 30 = .ok (.isub, 1) := by decide +kernel
theorem dJx4a65c_fastRemove_b59b0_31 : decode cJx4a65c_fastRemove_b59b0 31 = .ok (.invokestatic 112, 3) := by decide +kernel
theorem dJx4a65c_fastRemove_b59b0_34 : decode cJx4a65c_fastRemove_b59b0 34 = .ok (.aload_n 1, 1) := by decide +kernel
theorem dJx4a65c_fastRemove_b59b0_35 : decode cJx4a65c_fastRemove_b59b0 35 = .ok (.aload_n 0, 1) := by decide +kernel
theorem dJx4a65c_fastRemove_b59b0_36 : decode cJx4a65c_fastRemove_b59b0 36 = .ok (.iload_n 3, 1) := by decide +kernel
theorem dJx4a65c_fastRemove_b59b0_37 : decode cJx4a65c_fastRemove_b59b0 37 = .ok (.dup_x1, 1) := by decide +kernel
theorem dJx4a65c_fastRemove_b59b0_38 : decode cJx4a65c_fastRemove_b59b0 38 = .ok (.putfield 48, 3) := by decide +kernel
theorem dJx4a65c_fastRemove_b59b0_41 : decode cJx4a65c_fastRemove_b59b0 41 = .ok (.aconst_null, 1) := by decide +kernel
theorem dJx4a65c_fastRemove_b59b0_42 : decode cJx4a65c_fastRemove_b59b0 42 = .ok (.aastore, 1) := by decide +kernel
theorem dJx4a65c_fastRemove_b59b0_43 : decode cJx4a65c_fastRemove_b59b0 43 = .ok (.return_, 1) := by decide +kernel
theorem dJx4a65c_clear_da8c8_0 : decode cJx4a65c_clear_da8c8 0 = .ok (.aload_n 0, 1) := by decide +kernel
theorem dJx4a65c_clear_da8c8_1 : decode cJx4a65c_clear_da8c8 1 = .ok (.dup, 1) := by decide +kernel
theorem dJx4a65c_clear_da8c8_2 : decode cJx4a65c_clear_da8c8 2 = .ok (.getfield 63, 3) := by decide +kernel
theorem dJx4a65c_clear_da8c8_5 : decode cJx4a65c_clear_da8c8 5 = .ok (.iconst 1, 1) := by decide +kernel
theorem dJx4a65c_clear_da8c8_6 : decode cJx4a65c_clear_da8c8 6 = .ok (.iadd, 1) := by decide +kernel
theorem dJx4a65c_clear_da8c8_7 : decode cJx4a65c_clear_da8c8 7 = .ok (.putfield 63, 3) := by decide +kernel
theorem dJx4a65c_clear_da8c8_10 : decode cJx4a65c_clear_da8c8 10 = .ok (.aload_n 0, 1) := by decide +kernel
theorem dJx4a65c_clear_da8c8_11 : decode cJx4a65c_clear_da8c8 11 = .ok (.getfield 9, 3) := by decide +kernel
theorem dJx4a65c_clear_da8c8_14 : decode cJx4a65c_clear_da8c8 14 = .ok (.astore_n 1, 1) := by decide +kernel
theorem dJx4a65c_clear_da8c8_15 : decode cJx4a65c_clear_da8c8 15 = .ok (.aload_n 0, 1) := by decide +kernel
theorem dJx4a65c_clear_da8c8_16 : decode cJx4a65c_clear_da8c8 16 = .ok (.getfield 48, 3) := by decide +kernel
theorem dJx4a65c_clear_da8c8_19 : decode cJx4a65c_clear_da8c8 19 = .ok (.istore_n 2, 1) := by decide +kernel
theorem dJx4a65c_clear_da8c8_20 : decode cJx4a65c_clear_da8c8 20 = .ok (.aload_n 0, 1) := by decide +kernel
theorem dJx4a65c_clear_da8c8_21 : decode cJx4a65c_clear_da8c8 21 = .ok (.iconst 0, 1) := by decide +kernel
theorem dJx4a65c_clear_da8c8_22 : decode cJx4a65c_clear_da8c8 22 = .ok (.dup_x1, 1) := by decide +kernel
theorem dJx4a65c_clear_da8c8_23 : decode cJx4a65c_clear_da8c8 23 = .ok (.putfield 48, 3) := by decide +kernel
theorem dJx4a65c_clear_da8c8_26 : decode cJx4a65c_clear_da8c8 26 = .ok (.istore_n 3, 1) := by decide +kernel
theorem dJx4a65c_clear_da8c8_27 : decode cJx4a65c_clear_da8c8 27 = .ok (.iload_n 3, 1) := by decide +kernel
theorem dJx4a65c_clear_da8c8_28 : decode cJx4a65c_clear_da8c8 28 = .ok (.iload_n 2, 1) := by decide +kernel
theorem dJx4a65c_clear_da8c8_29 : decode cJx4a65c_clear_da8c8 29 = .ok (.if_icmp .ge 13, 3) := by decide +kernel
theorem dJx4a65c_clear_da8c8_32 : decode cJx4a65c_clear_da8c8 32 = .ok (.aload_n 1, 1) := by decide +kernel
theorem dJx4a65c_clear_da8c8_33 : decode cJx4a65c_clear_da8c8 33 = .ok (.iload_n 3, 1) := by decide +kernel
theorem dJx4a65c_clear_da8c8_34 : decode cJx4a65c_clear_da8c8 34 = .ok (.aconst_null, 1) := by decide +kernel
theorem dJx4a65c_clear_da8c8_35 : decode cJx4a65c_clear_da8c8 35 = .ok (.aastore, 1) := by decide +kernel
theorem dJx4a65c_clear_da8c8_36 : decode cJx4a65c_clear_da8c8 36 = .ok (.iinc 3 1, 3) := by decide +kernel
theorem dJx4a65c_clear_da8c8_39 : decode cJx4a65c_clear_da8c8 39 = .ok (.goto (-12), 3) := by decide +kernel
theorem dJx4a65c_clear_da8c8_42 : decode cJx4a65c_clear_da8c8 42 = .ok (.return_, 1) := by decide +kernel
theorem dJx4a65c_rangeCheckForAdd_d00df_0 : decode cJx4a65c_rangeCheckForAdd_d00df 0 = .ok (.iload_n 1, 1) := by decide +kernel
theorem dJx4a65c_rangeCheckForAdd_d00df_1 : decode cJx4a65c_rangeCheckForAdd_d00df 1 = .ok (.aload_n 0, 1) := by decide +kernel
theorem dJx4a65c_rangeCheckForAdd_d00df_2 : decode cJx4a65c_rangeCheckForAdd_d00df 2 = .ok (.getfield 48, 3) := by decide +kernel
theorem dJx4a65c_rangeCheckForAdd_d00df_5 : decode cJx4a65c_rangeCheckForAdd_d00df 5 = .ok (.if_icmp .gt 7, 3) := by decide +kernel
theorem dJx4a65c_rangeCheckForAdd_d00df_8 : decode cJx4a65c_rangeCheckForAdd_d00df 8 = .ok (.iload_n 1, 1) := by decide +kernel
theorem dJx4a65c_rangeCheckForAdd_d00df_9 : decode cJx4a65c_rangeCheckForAdd_d00df 9 = .ok (.ifCond .ge 16, 3) := by decide +kernel
theorem dJx4a65c_rangeCheckForAdd_d00df_12 : decode cJx4a65c_rangeCheckForAdd_d00df 12 = .ok (.new 187, 3) := by decide +kernel
theorem dJx4a65c_rangeCheckForAdd_d00df_15 : decode cJx4a65c_rangeCheckForAdd_d00df 15 = .ok (.dup, 1) := by decide +kernel
theorem dJx4a65c_rangeCheckForAdd_d00df_16 : decode cJx4a65c_rangeCheckForAdd_d00df 16 = .ok (.aload_n 0, 1) := by decide +kernel
theorem dJx4a65c_rangeCheckForAdd_d00df_17 : decode cJx4a65c_rangeCheckForAdd_d00df 17 = .ok (.iload_n 1, 1) := by decide +kernel
theorem dJx4a65c_rangeCheckForAdd_d00df_18 : decode cJx4a65c_rangeCheckForAdd_d00df 18 = .ok (.invokevirtual 198, 3) := by decide +kernel
theorem dJx4a65c_rangeCheckForAdd_d00df_21 : decode cJx4a65c_rangeCheckForAdd_d00df 21 = .ok (.invokespecial 193, 3) := by decide +kernel
theorem dJx4a65c_rangeCheckForAdd_d00df_24 : decode cJx4a65c_rangeCheckForAdd_d00df 24 = .ok (.athrow, 1) := by decide +kernel
theorem dJx4a65c_rangeCheckForAdd_d00df_25 : decode cJx4a65c_rangeCheckForAdd_d00df 25 = .ok (.return_, 1) := by decide +kernel
set_option maxRecDepth 20000 in
theorem ggJ7_copyOf_1904c_J7_copyOf_6403c : GoodIn wsJ7_copyOf_1904c wsJ7_copyOf_6403c := goodIn_r _ [8, 9, 10, 11, 12, 13, 14, 15, 16, 17, 18] (by decide +kernel) (by decide +kernel)
set_option maxRecDepth 20000 in
theorem gJ7_copyOf_1904c_J7_copyOf_6403c : GoodIn wsJ7_copyOf_1904c (va_wsS RJ7 300 yJ7_copyOf_6403c wsJ7_copyOf_6403c) := goodIn_app (goodIn_of _ (by decide +kernel)) ggJ7_copyOf_1904c_J7_copyOf_6403c
theorem dJ7_copyOf_1904c_0 : decode cJ7_copyOf_1904c 0 = .ok (.aload_n 0, 1) := by decide +kernel
theorem dJ7_copyOf_1904c_1 : decode cJ7_copyOf_1904c 1 = .ok (.iload_n 1, 1) := by decide +kernel
theorem dJ7_copyOf_1904c_2 : decode cJ7_copyOf_1904c 2 = .ok (.aload_n 0, 1) := by decide +kernel
theorem dJ7_copyOf_1904c_3 : decode cJ7_copyOf_1904c 3 = .ok (.invokevirtual 86, 3) := by decide +kernel
theorem dJ7_copyOf_1904c_6 : decode cJ7_copyOf_1904c 6 = .ok (.invokestatic 300, 3) := by decide +kernel
theorem dJ7_copyOf_1904c_9 : decode cJ7_copyOf_1904c 9 = .ok (.areturn, 1) := by decide +kernel
theorem dJ7_copyOf_6403c_0 : decode cJ7_copyOf_6403c 0 = .ok (.aload_n 2, 1) := by decide +kernel
theorem dJ7_copyOf_6403c_1 : decode cJ7_copyOf_6403c 1 = .ok (.ldc 110, 2) := by decide +kernel
theorem dJ7_copyOf_6403c_3 : decode cJ7_copyOf_6403c 3 = .ok (.if_acmp .ne 10, 3) := by decide +kernel
theorem dJ7_copyOf_6403c_6 : decode cJ7_copyOf_6403c 6 = .ok (.iload_n 1, 1) := by decide +kernel
theorem dJ7_copyOf_6403c_7 : decode cJ7_copyOf_6403c 7 = .ok (.anewarray 2, 3) := by decide +kernel
theorem dJ7_copyOf_6403c_10 : decode cJ7_copyOf_6403c 10 = .ok (.goto 14, 3) := by decide +kernel
theorem dJ7_copyOf_6403c_13 : decode cJ7_copyOf_6403c 13 = .ok (.aload_n 2, 1) := by decide +kernel
theorem dJ7_copyOf_6403c_14 : decode cJ7_copyOf_6403c 14 = .ok (.invokevirtual 90, 3) := by decide +kernel
theorem dJ7_copyOf_6403c_17 : decode cJ7_copyOf_6403c 17 = .ok (.iload_n 1, 1) := by decide +kernel
theorem dJ7_copyOf_6403c_18 : decode cJ7_copyOf_6403c 18 = .ok (.invokestatic 95, 3) := by decide +kernel
theorem dJ7_copyOf_6403c_21 : decode cJ7_copyOf_6403c 21 = .ok (.checkcast 110, 3) := by decide +kernel
theorem dJ7_copyOf_6403c_24 : decode cJ7_copyOf_6403c 24 = .ok (.astore_n 3, 1) := by decide +kernel
theorem dJ7_copyOf_6403c_25 : decode cJ7_copyOf_6403c 25 = .ok (.aload_n 0, 1) := by decide +kernel
theorem dJ7_copyOf_6403c_26 : decode cJ7_copyOf_6403c 26 = .ok (.iconst 0, 1) := by decide +kernel
theorem dJ7_copyOf_6403c_27 : decode cJ7_copyOf_6403c 27 = .ok (.aload_n 3, 1) := by decide +kernel
theorem dJ7_copyOf_6403c_28 : decode cJ7_copyOf_6403c 28 = .ok (.iconst 0, 1) := by decide +kernel
theorem dJ7_copyOf_6403c_29 : decode cJ7_copyOf_6403c 29 = .ok (.aload_n 0, 1) := by decide +kernel
theorem dJ7_copyOf_6403c_30 : decode cJ7_copyOf_6403c 30 = .ok (.arraylength, 1) := by decide +kernel
theorem dJ7_copyOf_6403c_31 : decode cJ7_copyOf_6403c 31 = .ok (.iload_n 1, 1) := by decide +kernel
theorem dJ7_copyOf_6403c_32 : decode cJ7_copyOf_6403c 32 = .ok (.invokestatic 304, 3) := by decide +kernel
theorem dJ7_copyOf_6403c_35 : decode cJ7_copyOf_6403c 35 = .ok (.invokestatic 150, 3) := by decide +kernel
theorem dJ7_copyOf_6403c_38 : decode cJ7_copyOf_6403c 38 = .ok (.aload_n 3, 1) := by decide +kernel
theorem dJ7_copyOf_6403c_39 : decode cJ7_copyOf_6403c 39 = .ok (.areturn, 1) := by decide +kernel
set_option maxRecDepth 20000 in
theorem ggJ15_checkIndex_7cf53_J3_checkIndex_8e157 : GoodIn wsJ15_checkIndex_7cf53 wsJ3_checkIndex_8e157 := goodIn_r _ [4] (by decide +kernel) (by decide +kernel)
set_option maxRecDepth 20000 in
theorem gJ15_checkIndex_7cf53_J3_checkIndex_8e157 : GoodIn wsJ15_checkIndex_7cf53 (va_wsS RJ15 105 yJ3_checkIndex_8e157 wsJ3_checkIndex_8e157) := goodIn_app (goodIn_of _ (by decide +kernel)) ggJ15_checkIndex_7cf53_J3_checkIndex_8e157
theorem dJ15_checkIndex_7cf53_0 : decode cJ15_checkIndex_7cf53 0 = .ok (.iload_n 0, 1) := by decide +kernel
theorem dJ15_checkIndex_7cf53_1 : decode cJ15_checkIndex_7cf53 1 = .ok (.iload_n 1, 1) := by decide +kernel
theorem dJ15_checkIndex_7cf53_2 : decode cJ15_checkIndex_7cf53 2 = .ok (.aconst_null, 1) := by decide +kernel
theorem dJ15_checkIndex_7cf53_3 : decode cJ15_checkIndex_7cf53 3 = .ok (.invokestatic 105, 3) := by decide +kernel
theorem dJ15_checkIndex_7cf53_6 : decode cJ15_checkIndex_7cf53 6 = .ok (.ireturn, 1) := by decide +kernel
set_option maxRecDepth 20000 in
theorem ggJ8_newLength_cabcc_J8_hugeLength_7cf53 : GoodIn wsJ8_newLength_cabcc wsJ8_hugeLength_7cf53 := goodIn_r _ [9, 5] (by decide +kernel) (by decide +kernel)
set_option maxRecDepth 20000 in
theorem gJ8_newLength_cabcc_J8_hugeLength_7cf53 : GoodIn wsJ8_newLength_cabcc (va_wsS RJ8 201 yJ8_hugeLength_7cf53 wsJ8_hugeLength_7cf53) := goodIn_app (goodIn_of _ (by decide +kernel)) ggJ8_newLength_cabcc_J8_hugeLength_7cf53
theorem dJ8_newLength_cabcc_0 : decode cJ8_newLength_cabcc 0 = .ok (.iload_n 0, 1) := by decide +kernel
theorem dJ8_newLength_cabcc_1 : decode cJ8_newLength_cabcc 1 = .ok (.iload_n 1, 1) := by decide +kernel
theorem dJ8_newLength_cabcc_2 : decode cJ8_newLength_cabcc 2 = .ok (.iload_n 2, 1) := by decide +kernel
theorem dJ8_newLength_cabcc_3 : decode cJ8_newLength_cabcc 3 = .ok (.invokestatic 194, 3) := by decide +kernel
theorem dJ8_newLength_cabcc_6 : decode cJ8_newLength_cabcc 6 = .ok (.iadd, 1) := by decide +kernel
theorem dJ8_newLength_cabcc_7 : decode cJ8_newLength_cabcc 7 = .ok (.istore_n 3, 1) := by decide +kernel
theorem dJ8_newLength_cabcc_8 : decode cJ8_newLength_cabcc 8 = .ok (.iconst 0, 1) := by decide +kernel
theorem dJ8_newLength_cabcc_9 : decode cJ8_newLength_cabcc 9 = .ok (.iload_n 3, 1) := by decide +kernel
theorem dJ8_newLength_cabcc_10 : decode cJ8_newLength_cabcc 10 = .ok (.if_icmp .ge 11, 3) := by decide +kernel
theorem dJ8_newLength_cabcc_13 : decode cJ8_newLength_cabcc 13 = .ok (.iload_n 3, 1) := by decide +kernel
theorem dJ8_newLength_cabcc_14 : decode cJ8_newLength_cabcc 14 = .ok (.ldc 200, 2) := by decide +kernel
theorem dJ8_newLength_cabcc_16 : decode cJ8_newLength_cabcc 16 = .ok (.if_icmp .gt 5, 3) := by decide +kernel
theorem dJ8_newLength_cabcc_19 : decode cJ8_newLength_cabcc 19 = .ok (.iload_n 3, 1) := by decide +kernel
theorem dJ8_newLength_cabcc_20 : decode cJ8_newLength_cabcc 20 = .ok (.ireturn, 1) := by decide +kernel
theorem dJ8_newLength_cabcc_21 : decode cJ8_newLength_cabcc 21 = .ok (.iload_n 0, 1) := by decide +kernel
theorem dJ8_newLength_cabcc_22 : decode cJ8_newLength_cabcc 22 = .ok (.iload_n 1, 1) := by decide +kernel
theorem dJ8_newLength_cabcc_23 : decode cJ8_newLength_cabcc 23 = .ok (.invokestatic 201, 3) := by decide +kernel
theorem dJ8_newLength_cabcc_26 : decode cJ8_newLength_cabcc 26 = .ok (.ireturn, 1) := by decide +kernel
theorem dJ8_hugeLength_7cf53_0 : decode cJ8_hugeLength_7cf53 0 = .ok (.iload_n 0, 1) := by decide +kernel
theorem dJ8_hugeLength_7cf53_1 : decode cJ8_hugeLength_7cf53 1 = .ok (.iload_n 1, 1) := by decide +kernel
theorem dJ8_hugeLength_7cf53_2 : decode cJ8_hugeLength_7cf53 2 = .ok (.iadd, 1) := by decide +kernel
theorem dJ8_hugeLength_7cf53_3 : decode cJ8_hugeLength_7cf53 3 = .ok (.istore_n 2, 1) := by decide +kernel
theorem dJ8_hugeLength_7cf53_4 : decode cJ8_hugeLength_7cf53 4 = .ok (.iload_n 2, 1) := by decide +kernel
theorem dJ8_hugeLength_7cf53_5 : decode cJ8_hugeLength_7cf53 5 = .ok (.ifCond .ge 44, 3) := by decide +kernel
theorem dJ8_hugeLength_7cf53_8 : decode cJ8_hugeLength_7cf53 8 = .ok (.new 204, 3) := by decide +kernel
theorem dJ8_hugeLength_7cf53_11 : decode cJ8_hugeLength_7cf53 11 = .ok (.dup, 1) := by decide +kernel
theorem dJ8_hugeLength_7cf53_12 : decode cJ8_hugeLength_7cf53 12 = .ok (.new 89, 3) := by decide +kernel
theorem dJ8_hugeLength_7cf53_15 : decode cJ8_hugeLength_7cf53 15 = .ok (.dup, 1) := by decide +kernel
theorem dJ8_hugeLength_7cf53_16 : decode cJ8_hugeLength_7cf53 16 = .ok (.invokespecial 91, 3) := by decide +kernel
theorem dJ8_hugeLength_7cf53_19 : decode cJ8_hugeLength_7cf53 19 = .ok (.ldc 206, 2) := by decide +kernel
theorem dJ8_hugeLength_7cf53_21 : decode cJ8_hugeLength_7cf53 21 = .ok (.invokevirtual 94, 3) := by decide +kernel
theorem dJ8_hugeLength_7cf53_24 : decode cJ8_hugeLength_7cf53 24 = .ok (.iload_n 0, 1) := by decide +kernel
theorem dJ8_hugeLength_7cf53_25 : decode cJ8_hugeLength_7cf53 25 = .ok (.invokevirtual 98, 3) := by decide +kernel
theorem dJ8_hugeLength_7cf53_28 : decode cJ8_hugeLength_7cf53 28 = .ok (.ldc 208, 2) := by decide +kernel
theorem dJ8_hugeLength_7cf53_30 : decode cJ8_hugeLength_7cf53 30 = .ok (.invokevirtual 94, 3) := by decide +kernel
theorem dJ8_hugeLength_7cf53_33 : decode cJ8_hugeLength_7cf53 33 = .ok (.iload_n 1, 1) := by decide +kernel
theorem dJ8_hugeLength_7cf53_34 : decode cJ8_hugeLength_7cf53 34 = .ok (.invokevirtual 98, 3) := by decide +kernel
theorem dJ8_hugeLength_7cf53_37 : decode cJ8_hugeLength_7cf53 37 = .ok (.ldc 210, 2) := by decide +kernel
theorem dJ8_hugeLength_7cf53_39 : decode cJ8_hugeLength_7cf53 39 = .ok (.invokevirtual 94, 3) := by decide +kernel
theorem dJ8_hugeLength_7cf53_42 : decode cJ8_hugeLength_7cf53 42 = .ok (.invokevirtual 101, 3) := by decide +kernel
theorem dJ8_hugeLength_7cf53_45 : decode cJ8_hugeLength_7cf53 45 = .ok (.invokespecial 212, 3) := by decide +kernel
theorem dJ8_hugeLength_7cf53_48 : decode cJ8_hugeLength_7cf53 48 = .ok (.athrow, 1) := by decide +kernel
theorem dJ8_hugeLength_7cf53_49 : decode cJ8_hugeLength_7cf53 49 = .ok (.iload_n 2, 1) := by decide +kernel
theorem dJ8_hugeLength_7cf53_50 : decode cJ8_hugeLength_7cf53 50 = .ok (.ldc 200, 2) := by decide +kernel
theorem dJ8_hugeLength_7cf53_52 : decode cJ8_hugeLength_7cf53 52 = .ok (.if_icmp .gt 6, 3) := by decide +kernel
theorem dJ8_hugeLength_7cf53_55 : decode cJ8_hugeLength_7cf53 55 = .ok (.ldc 200, 2) := by decide +kernel
theorem dJ8_hugeLength_7cf53_57 : decode cJ8_hugeLength_7cf53 57 = .ok (.ireturn, 1) := by decide +kernel
theorem dJ8_hugeLength_7cf53_58 : decode cJ8_hugeLength_7cf53 58 = .ok (.iload_n 2, 1) := by decide +kernel
theorem dJ8_hugeLength_7cf53_59 : decode cJ8_hugeLength_7cf53 59 = .ok (.ireturn, 1) := by decide +kernel
theorem dJ3_checkIndex_8e157_0 : decode cJ3_checkIndex_8e157 0 = .ok (.iload_n 0, 1) := by decide +kernel
theorem dJ3_checkIndex_8e157_1 : decode cJ3_checkIndex_8e157 1 = .ok (.ifCond .lt 8, 3) := by decide +kernel
theorem dJ3_checkIndex_8e157_4 : decode cJ3_checkIndex_8e157 4 = .ok (.iload_n 0, 1) := by decide +kernel
theorem dJ3_checkIndex_8e157_5 : decode cJ3_checkIndex_8e157 5 = .ok (.iload_n 1, 1) := by decide +kernel
theorem dJ3_checkIndex_8e157_6 : decode cJ3_checkIndex_8e157 6 = .ok (.if_icmp .lt 10, 3) := by decide +kernel
theorem dJ3_checkIndex_8e157_9 : decode cJ3_checkIndex_8e157 9 = .ok (.aload_n 2, 1) := by decide +kernel
theorem dJ3_checkIndex_8e157_10 : decode cJ3_checkIndex_8e157 10 = .ok (.iload_n 0, 1) := by decide +kernel
theorem dJ3_checkIndex_8e157_11 : decode cJ3_checkIndex_8e157 11 = .ok (.iload_n 1, 1) := by decide +kernel
theorem dJ3_checkIndex_8e157_12 : decode cJ3_checkIndex_8e157 12 = .ok (.invokestatic 95, 3) := by decide +kernel
theorem dJ3_checkIndex_8e157_15 : decode cJ3_checkIndex_8e157 15 = .ok (.athrow, 1) := by decide +kernel
theorem dJ3_checkIndex_8e157_16 : decode cJ3_checkIndex_8e157 16 = .ok (.iload_n 0, 1) := by decide +kernel
theorem dJ3_checkIndex_8e157_17 : decode cJ3_checkIndex_8e157 17 = .ok (.ireturn, 1) := by decide +kernel
set_option maxRecDepth 20000 in
theorem ggL_law_X7_init : GoodIn wsL_law wsX7_init := goodIn_r _ [9, 10, 11, 12, 13, 14, 15, 16, 17, 18, 19, 20, 21, 22, 23, 24, 25, 26, 27, 28, 29, 30, 31, 32, 33, 34, 35, 36, 37, 38, 39, 40, 41, 42, 43, 44, 45, 46, 47, 48, 49, 50, 51, 52, 53, 54, 55, 56, 57, 58, 59, 60, 61, 62, 63, 64, 65, 761, 762, 763, 708, 709, 710, 711, 712, 713, 714, 764, 765, 766, 767, 768, 769, 770, 771, 772, 773, 774, 775, 776, 777, 778, 779, 780, 781, 782, 783, 784] (by decide +kernel) (by decide +kernel)
set_option maxRecDepth 20000 in
theorem gL_law_X7_init : GoodIn wsL_law (wsX7_init) := ggL_law_X7_init
set_option maxRecDepth 20000 in
theorem ggL_law_X8_init : GoodIn wsL_law wsX8_init := goodIn_r _ [68, 69, 11, 12, 22, 70, 71, 72, 73, 74, 75, 76, 77, 78, 79, 80, 81, 82, 83, 84, 85, 86, 87, 88, 89, 90, 91, 92, 93, 94, 95, 96, 97, 98, 99, 100, 101, 102, 103, 104, 105, 106, 715, 716, 717, 718, 719, 720, 721, 722, 723, 724, 725, 726, 727, 728, 729, 730, 731, 732, 733, 734, 735, 736, 737, 738, 739, 740, 741, 742, 743, 744, 745, 746, 747, 748, 749, 750, 751, 752, 753, 754, 755, 756, 757, 758, 759, 760] (by decide +kernel) (by decide +kernel)
set_option maxRecDepth 20000 in
theorem gL_law_X8_init : GoodIn wsL_law (wsX8_init) := ggL_law_X8_init
set_option maxRecDepth 20000 in
theorem ggL_law_X7_join : GoodIn wsL_law wsX7_join := goodIn_r _ [110, 16, 111, 112, 113, 114, 115, 2, 116, 117, 118, 119, 120, 121, 122, 123, 124, 125, 126, 15, 127, 128, 129, 130, 131, 132, 133, 134, 135, 136, 137, 138, 139, 140, 141, 142, 143, 144, 31, 145, 146, 147, 148, 11, 12, 149, 14, 150, 151, 152, 153, 154, 155, 156, 157, 158, 28, 29, 30, 32, 33, 34, 35, 36, 37, 38, 39, 40, 41, 159, 160, 161, 162, 163, 164, 49, 50, 165, 166, 55, 56, 57, 167, 168, 169, 170, 171, 172, 173, 174, 175, 176, 177, 178, 179, 180, 181, 182, 183, 184, 185, 186, 187, 188, 189, 190, 191, 192, 193, 194, 195, 196, 197, 198, 199, 200, 201, 202, 203, 204, 205, 206, 207, 208, 209, 210, 211, 212, 213, 214, 215, 216, 217, 218, 708, 709, 710, 711, 712, 713, 714, 785, 786, 787, 788, 789, 790, 761, 762, 763, 791, 792, 793, 794, 772, 773, 774, 775] (by decide +kernel) (by decide +kernel)
set_option maxRecDepth 20000 in
theorem gL_law_X7_join : GoodIn wsL_law (wsV RL 13 RX7 yX7_join wsX7_join) := goodIn_app (goodIn_of _ (by decide +kernel)) ggL_law_X7_join
set_option maxRecDepth 20000 in
theorem ggL_law_X8_join : GoodIn wsL_law wsX8_join := goodIn_r _ [222, 223, 70, 224, 225, 5, 226, 227, 228, 229, 230, 231, 232, 233, 715, 716, 717, 718, 719, 720, 721, 722, 723, 724, 725, 726, 727, 728, 729, 730, 731, 732, 733, 734, 735, 736, 737, 738, 739, 740, 741, 742, 743, 744, 745, 746, 747, 748, 749, 750, 751, 752, 753, 754, 755, 756, 757, 758, 759, 760] (by decide +kernel) (by decide +kernel)
set_option maxRecDepth 20000 in
theorem gL_law_X8_join : GoodIn wsL_law (wsV RL 17 RX8 yX8_join wsX8_join) := goodIn_app (goodIn_of _ (by decide +kernel)) ggL_law_X8_join
set_option maxRecDepth 20000 in
theorem ggL_law_X7_open : GoodIn wsL_law wsX7_open := goodIn_r _ [237, 238, 239, 17, 240, 241, 242, 243, 244, 245, 2, 246, 16, 122, 124, 125, 126, 15, 127, 128, 129, 130, 131, 132, 133, 134, 135, 136, 137, 138, 139, 140, 141, 142, 143, 144, 31, 114, 115, 116, 117, 247, 248, 249, 250, 251, 252, 253, 254, 255, 256, 257, 11, 12, 258, 259, 260, 167, 168, 169, 170, 171, 172, 173, 174, 175, 176, 177, 178, 179, 180, 181, 182, 183, 184, 30, 185, 186, 187, 188, 189, 190, 191, 192, 193, 194, 195, 196, 197, 198, 199, 200, 201, 202, 203, 204, 205, 206, 207, 208, 209, 210, 211, 212, 213, 214, 215, 216, 217, 218, 708, 709, 710, 711, 712, 713, 714, 795, 796, 797, 798, 761, 762, 763] (by decide +kernel) (by decide +kernel)
set_option maxRecDepth 20000 in
theorem gL_law_X7_open : GoodIn wsL_law (wsV RL 18 RX7 yX7_open wsX7_open) := goodIn_app (goodIn_of _ (by decide +kernel)) ggL_law_X7_open
set_option maxRecDepth 20000 in
theorem ggL_law_X8_open : GoodIn wsL_law wsX8_open := goodIn_r _ [264, 223, 265, 266, 267, 73, 74, 75, 224, 225, 5, 226, 227, 228, 229, 268, 269, 270, 271, 715, 716, 717, 718, 719, 720, 721, 722, 723, 724, 725, 726, 727, 728, 729, 730, 731, 732, 733, 734, 735, 736, 737, 738, 739, 740, 741, 742, 743, 744, 745, 746, 747, 748, 749, 750, 751, 752, 753, 754, 755, 756, 757, 758, 759, 760] (by decide +kernel) (by decide +kernel)
set_option maxRecDepth 20000 in
theorem gL_law_X8_open : GoodIn wsL_law (wsV RL 22 RX8 yX8_open wsX8_open) := goodIn_app (goodIn_of _ (by decide +kernel)) ggL_law_X8_open
set_option maxRecDepth 20000 in
theorem ggL_law_X7_shut : GoodIn wsL_law wsX7_shut := goodIn_r _ [275, 276, 243, 244, 245, 2, 246, 16, 122, 124, 125, 126, 15, 127, 128, 129, 130, 131, 132, 133, 134, 135, 136, 137, 138, 139, 140, 141, 142, 143, 144, 31, 247, 248, 249, 250, 17, 251, 252, 253, 795, 796, 797, 798, 708, 709, 710, 711, 712, 713, 714, 761, 762, 763] (by decide +kernel) (by decide +kernel)
set_option maxRecDepth 20000 in
theorem gL_law_X7_shut : GoodIn wsL_law (wsV RL 23 RX7 yX7_shut wsX7_shut) := goodIn_app (goodIn_of _ (by decide +kernel)) ggL_law_X7_shut
set_option maxRecDepth 20000 in
theorem ggL_law_X8_shut : GoodIn wsL_law wsX8_shut := goodIn_r _ [280, 77, 268, 269, 270, 5, 271, 267, 73, 74, 715, 716, 717, 718, 719, 720, 721, 722, 723, 724, 725, 726, 727, 728, 729, 730, 731, 732, 733, 734, 735, 736, 737, 738, 739, 740, 741, 742, 743, 744, 745, 746, 747, 748, 749, 750, 751, 752, 753, 754, 755, 756, 757, 758, 759, 760] (by decide +kernel) (by decide +kernel)
set_option maxRecDepth 20000 in
theorem gL_law_X8_shut : GoodIn wsL_law (wsV RL 27 RX8 yX8_shut wsX8_shut) := goodIn_app (goodIn_of _ (by decide +kernel)) ggL_law_X8_shut
set_option maxRecDepth 20000 in
theorem ggL_law_X7_day : GoodIn wsL_law wsX7_day := goodIn_r _ [284, 26, 708, 709, 710, 711, 712, 713, 714] (by decide +kernel) (by decide +kernel)
set_option maxRecDepth 20000 in
theorem gL_law_X7_day : GoodIn wsL_law (wsV RL 28 RX7 yX7_day wsX7_day) := goodIn_app (goodIn_of _ (by decide +kernel)) ggL_law_X7_day
set_option maxRecDepth 20000 in
theorem ggL_law_X8_day : GoodIn wsL_law wsX8_day := goodIn_r _ [288, 289, 715, 716, 717, 718, 719, 720, 721, 722, 723, 724, 725, 726, 727, 728, 729, 730, 731, 732, 733, 734, 735, 736, 737, 738, 739, 740, 741, 742, 743, 744, 745, 746, 747, 748, 749, 750, 751, 752, 753, 754, 755, 756, 757, 758, 759, 760] (by decide +kernel) (by decide +kernel)
set_option maxRecDepth 20000 in
theorem gL_law_X8_day : GoodIn wsL_law (wsV RL 32 RX8 yX8_day wsX8_day) := goodIn_app (goodIn_of _ (by decide +kernel)) ggL_law_X8_day
set_option maxRecDepth 20000 in
theorem ggL_law_X7_put : GoodIn wsL_law wsX7_put := goodIn_r _ [293, 21, 294, 295, 2, 296, 297, 298, 299, 300, 301, 302, 303, 304, 20, 305, 306, 307, 308, 309, 310, 311, 312, 313, 314, 315, 316, 317, 51, 318, 319, 320, 321, 50, 322, 323, 324, 325, 326, 327, 328, 329, 330, 331, 332, 333, 334, 335, 336, 337, 53, 338, 339, 340, 341, 62, 64, 342, 343, 344, 345, 346, 15, 347, 171, 172, 31, 128, 348, 349, 350, 351, 352, 353, 354, 355, 356, 357, 358, 359, 360, 361, 362, 363, 364, 365, 366, 11, 12, 367, 368, 369, 370, 371, 372, 168, 169, 170, 173, 174, 175, 176, 177, 178, 179, 180, 181, 182, 183, 184, 30, 185, 186, 187, 188, 189, 190, 191, 192, 193, 194, 195, 196, 197, 198, 199, 200, 201, 202, 203, 204, 205, 206, 207, 208, 209, 210, 211, 212, 213, 214, 215, 216, 217, 218, 373, 374, 375, 376, 377, 378, 379, 380, 381, 382, 383, 384, 385, 386, 387, 388, 389, 390, 391, 392, 393, 394, 395, 396, 397, 398, 399, 118, 119, 120, 121, 16, 122, 123, 124, 125, 126, 127, 129, 130, 131, 132, 133, 134, 135, 136, 137, 138, 139, 140, 141, 142, 143, 144, 400, 401, 402, 403, 404, 405, 406, 407, 408, 24, 23, 409, 410, 411, 412, 413, 414, 415, 416, 417, 418, 419, 420, 421, 422, 423, 424, 425, 26, 426, 427, 428, 429, 430, 431, 432, 433, 434, 435, 436, 437, 438, 439, 114, 115, 116, 117, 440, 441, 442, 443, 25, 444, 445, 446, 447, 448, 449, 450, 451, 452, 453, 454, 455, 167, 708, 709, 710, 711, 712, 713, 714, 764, 765, 766, 767, 768, 769, 770, 771, 772, 773, 774, 775, 776, 777, 778, 779, 780, 781, 782, 783, 784, 761, 762, 763, 799, 800, 801, 802, 803, 804, 805, 806, 807, 785, 786, 787, 788, 789, 790] (by decide +kernel) (by decide +kernel)
set_option maxRecDepth 20000 in
theorem gL_law_X7_put : GoodIn wsL_law (wsV RL 35 RX7 yX7_put wsX7_put) := goodIn_app (goodIn_of _ (by decide +kernel)) ggL_law_X7_put
set_option maxRecDepth 20000 in
theorem ggL_law_X8_put : GoodIn wsL_law wsX8_put := goodIn_r _ [459, 460, 461, 462, 463, 464, 465, 81, 82, 83, 84, 466, 467, 5, 468, 469, 470, 471, 472, 473, 78, 79, 80, 474, 475, 476, 477, 85, 86, 87, 88, 89, 90, 478, 479, 480, 481, 106, 91, 482, 483, 484, 485, 486, 230, 231, 232, 233, 223, 70, 487, 488, 489, 490, 491, 492, 493, 494, 495, 99, 496, 497, 498, 499, 500, 501, 502, 503, 289, 504, 505, 506, 507, 227, 228, 229, 508, 509, 510, 511, 92, 93, 94, 95, 96, 97, 98, 715, 716, 717, 718, 719, 720, 721, 722, 723, 724, 725, 726, 727, 728, 729, 730, 731, 732, 733, 734, 735, 736, 737, 738, 739, 740, 741, 742, 743, 744, 745, 746, 747, 748, 749, 750, 751, 752, 753, 754, 755, 756, 757, 758, 759, 760] (by decide +kernel) (by decide +kernel)
set_option maxRecDepth 20000 in
theorem gL_law_X8_put : GoodIn wsL_law (wsV RL 39 RX8 yX8_put wsX8_put) := goodIn_app (goodIn_of _ (by decide +kernel)) ggL_law_X8_put
set_option maxRecDepth 20000 in
theorem ggL_law_X7_window : GoodIn wsL_law wsX7_window := goodIn_r _ [515, 516, 243, 244, 245, 2, 246, 16, 122, 124, 125, 126, 15, 127, 128, 129, 130, 131, 132, 133, 134, 135, 136, 137, 138, 139, 140, 141, 142, 143, 144, 31, 517, 518, 519, 154, 520, 521, 163, 522, 523, 524, 525, 526, 165, 527, 528, 345, 346, 347, 171, 172, 529, 320, 321, 50, 322, 323, 324, 325, 326, 530, 531, 532, 533, 432, 534, 535, 536, 537, 538, 168, 169, 170, 173, 174, 175, 176, 177, 178, 179, 180, 181, 182, 183, 184, 30, 185, 186, 187, 188, 189, 190, 191, 192, 193, 194, 195, 196, 197, 198, 199, 200, 201, 202, 203, 204, 205, 206, 207, 208, 209, 210, 211, 212, 213, 214, 215, 216, 217, 218, 539, 374, 375, 376, 377, 378, 379, 540, 541, 542, 359, 362, 435, 543, 434, 544, 545, 546, 547, 548, 413, 433, 26, 549, 550, 551, 552, 553, 554, 555, 556, 557, 358, 558, 559, 560, 561, 562, 563, 564, 565, 566, 567, 568, 569, 570, 571, 572, 573, 574, 575, 576, 577, 578, 579, 580, 581, 582, 785, 786, 787, 788, 789, 790, 708, 709, 710, 711, 712, 713, 714, 761, 762, 763, 791, 792, 793, 794, 772, 773, 774, 775, 799, 800, 801, 802, 803, 804, 805, 806, 807] (by decide +kernel) (by decide +kernel)
set_option maxRecDepth 20000 in
theorem gL_law_X7_window : GoodIn wsL_law (wsV RL 40 RX7 yX7_window wsX7_window) := goodIn_app (goodIn_of _ (by decide +kernel)) ggL_law_X7_window
set_option maxRecDepth 20000 in
theorem ggL_law_X8_window : GoodIn wsL_law wsX8_window := goodIn_r _ [586, 223, 102, 224, 225, 5, 226, 587, 588, 589, 590, 105, 591, 592, 593, 594, 495, 99, 93, 94, 98, 289, 595, 596, 597, 598, 101, 599, 600, 601, 602, 103, 104, 92, 96, 72, 715, 716, 717, 718, 719, 720, 721, 722, 723, 724, 725, 726, 727, 728, 729, 730, 731, 732, 733, 734, 735, 736, 737, 738, 739, 740, 741, 742, 743, 744, 745, 746, 747, 748, 749, 750, 751, 752, 753, 754, 755, 756, 757, 758, 759, 760] (by decide +kernel) (by decide +kernel)
set_option maxRecDepth 20000 in
theorem gL_law_X8_window : GoodIn wsL_law (wsV RL 43 RX8 yX8_window wsX8_window) := goodIn_app (goodIn_of _ (by decide +kernel)) ggL_law_X8_window
set_option maxRecDepth 20000 in
theorem ggL_law_X7_post : GoodIn wsL_law wsX7_post := goodIn_r _ [606, 516, 607, 608, 213, 187, 214, 609, 432, 243, 244, 245, 2, 246, 16, 122, 124, 125, 126, 15, 127, 128, 129, 130, 131, 132, 133, 134, 135, 136, 137, 138, 139, 140, 141, 142, 143, 144, 31, 579, 580, 581, 154, 582, 163, 522, 610, 611, 612, 613, 527, 614, 615, 616, 617, 435, 361, 436, 618, 359, 362, 247, 248, 249, 250, 17, 251, 252, 253, 619, 620, 621, 276, 114, 115, 116, 117, 622, 623, 624, 625, 434, 533, 440, 441, 442, 443, 25, 167, 168, 169, 170, 171, 172, 173, 174, 175, 176, 177, 178, 179, 180, 181, 182, 183, 184, 30, 185, 186, 188, 189, 190, 191, 192, 193, 194, 195, 196, 197, 198, 199, 200, 201, 202, 203, 204, 205, 206, 207, 208, 209, 210, 211, 212, 215, 216, 217, 218, 785, 786, 787, 788, 789, 790, 791, 792, 793, 794, 708, 709, 710, 711, 712, 713, 714, 761, 762, 763, 799, 800, 801, 802, 803, 804, 805, 806, 807, 795, 796, 797, 798] (by decide +kernel) (by decide +kernel)
set_option maxRecDepth 20000 in
theorem gL_law_X7_post : GoodIn wsL_law (wsV RL 44 RX7 yX7_post wsX7_post) := goodIn_app (goodIn_of _ (by decide +kernel)) ggL_law_X7_post
set_option maxRecDepth 20000 in
theorem ggL_law_X8_post : GoodIn wsL_law wsX8_post := goodIn_r _ [629, 223, 102, 105, 224, 225, 5, 226, 630, 631, 632, 633, 103, 104, 106, 100, 99, 101, 634, 94, 95, 75, 92, 96, 635, 636, 637, 638, 77, 227, 228, 229, 268, 269, 270, 271, 267, 73, 74, 715, 716, 717, 718, 719, 720, 721, 722, 723, 724, 725, 726, 727, 728, 729, 730, 731, 732, 733, 734, 735, 736, 737, 738, 739, 740, 741, 742, 743, 744, 745, 746, 747, 748, 749, 750, 751, 752, 753, 754, 755, 756, 757, 758, 759, 760] (by decide +kernel) (by decide +kernel)
set_option maxRecDepth 20000 in
theorem gL_law_X8_post : GoodIn wsL_law (wsV RL 48 RX8 yX8_post wsX8_post) := goodIn_app (goodIn_of _ (by decide +kernel)) ggL_law_X8_post
set_option maxRecDepth 20000 in
theorem ggL_law_X7_items : GoodIn wsL_law wsX7_items := goodIn_r _ [642, 516, 243, 244, 245, 2, 246, 16, 122, 124, 125, 126, 15, 127, 128, 129, 130, 131, 132, 133, 134, 135, 136, 137, 138, 139, 140, 141, 142, 143, 144, 31, 579, 580, 581, 154, 582, 163, 522, 785, 786, 787, 788, 789, 790, 708, 709, 710, 711, 712, 713, 714, 761, 762, 763, 791, 792, 793, 794] (by decide +kernel) (by decide +kernel)
set_option maxRecDepth 20000 in
theorem gL_law_X7_items : GoodIn wsL_law (wsV RL 49 RX7 yX7_items wsX7_items) := goodIn_app (goodIn_of _ (by decide +kernel)) ggL_law_X7_items
set_option maxRecDepth 20000 in
theorem ggL_law_X8_items : GoodIn wsL_law wsX8_items := goodIn_r _ [646, 223, 102, 224, 225, 5, 226, 715, 716, 717, 718, 719, 720, 721, 722, 723, 724, 725, 726, 727, 728, 729, 730, 731, 732, 733, 734, 735, 736, 737, 738, 739, 740, 741, 742, 743, 744, 745, 746, 747, 748, 749, 750, 751, 752, 753, 754, 755, 756, 757, 758, 759, 760] (by decide +kernel) (by decide +kernel)
set_option maxRecDepth 20000 in
theorem gL_law_X8_items : GoodIn wsL_law (wsV RL 52 RX8 yX8_items wsX8_items) := goodIn_app (goodIn_of _ (by decide +kernel)) ggL_law_X8_items
set_option maxRecDepth 20000 in
theorem ggL_law_X7_item : GoodIn wsL_law wsX7_item := goodIn_r _ [650, 516, 609, 432, 359, 435, 651, 434, 361, 362, 363, 436, 243, 244, 245, 2, 246, 16, 122, 124, 125, 126, 15, 127, 128, 129, 130, 131, 132, 133, 134, 135, 136, 137, 138, 139, 140, 141, 142, 143, 144, 31, 579, 580, 581, 154, 582, 163, 522, 610, 611, 612, 613, 527, 652, 653, 654, 655, 521, 553, 656, 657, 554, 785, 786, 787, 788, 789, 790, 791, 792, 793, 794, 799, 800, 801, 802, 803, 804, 805, 806, 807, 708, 709, 710, 711, 712, 713, 714, 761, 762, 763] (by decide +kernel) (by decide +kernel)
set_option maxRecDepth 20000 in
theorem gL_law_X7_item : GoodIn wsL_law (wsV RL 53 RX7 yX7_item wsX7_item) := goodIn_app (goodIn_of _ (by decide +kernel)) ggL_law_X7_item
set_option maxRecDepth 20000 in
theorem ggL_law_X8_item : GoodIn wsL_law wsX8_item := goodIn_r _ [661, 223, 102, 103, 92, 104, 94, 93, 95, 96, 97, 100, 105, 224, 225, 5, 226, 715, 716, 717, 718, 719, 720, 721, 722, 723, 724, 725, 726, 727, 728, 729, 730, 731, 732, 733, 734, 735, 736, 737, 738, 739, 740, 741, 742, 743, 744, 745, 746, 747, 748, 749, 750, 751, 752, 753, 754, 755, 756, 757, 758, 759, 760] (by decide +kernel) (by decide +kernel)
set_option maxRecDepth 20000 in
theorem gL_law_X8_item : GoodIn wsL_law (wsV RL 57 RX8 yX8_item wsX8_item) := goodIn_app (goodIn_of _ (by decide +kernel)) ggL_law_X8_item
set_option maxRecDepth 20000 in
theorem ggL_law_X7_control : GoodIn wsL_law wsX7_control := goodIn_r _ [665, 666, 516, 667, 354, 668, 669, 670, 243, 244, 245, 2, 246, 16, 122, 124, 125, 126, 15, 127, 128, 129, 130, 131, 132, 133, 134, 135, 136, 137, 138, 139, 140, 141, 142, 143, 144, 31, 785, 786, 787, 788, 789, 790, 791, 792, 793, 794, 772, 773, 774, 775, 708, 709, 710, 711, 712, 713, 714, 761, 762, 763] (by decide +kernel) (by decide +kernel)
set_option maxRecDepth 20000 in
theorem gL_law_X7_control : GoodIn wsL_law (wsV RL 58 RX7 yX7_control wsX7_control) := goodIn_app (goodIn_of _ (by decide +kernel)) ggL_law_X7_control
set_option maxRecDepth 20000 in
theorem ggL_law_X8_control : GoodIn wsL_law wsX8_control := goodIn_r _ [674, 223, 675, 102, 103, 70, 94, 92, 96, 224, 225, 5, 226, 715, 716, 717, 718, 719, 720, 721, 722, 723, 724, 725, 726, 727, 728, 729, 730, 731, 732, 733, 734, 735, 736, 737, 738, 739, 740, 741, 742, 743, 744, 745, 746, 747, 748, 749, 750, 751, 752, 753, 754, 755, 756, 757, 758, 759, 760] (by decide +kernel) (by decide +kernel)
set_option maxRecDepth 20000 in
theorem gL_law_X8_control : GoodIn wsL_law (wsV RL 62 RX8 yX8_control wsX8_control) := goodIn_app (goodIn_of _ (by decide +kernel)) ggL_law_X8_control
set_option maxRecDepth 20000 in
theorem ggL_law_X7_balance : GoodIn wsL_law wsX7_balance := goodIn_r _ [679, 666, 618, 243, 244, 245, 2, 246, 16, 122, 124, 125, 126, 15, 127, 128, 129, 130, 131, 132, 133, 134, 135, 136, 137, 138, 139, 140, 141, 142, 143, 144, 31, 247, 248, 249, 250, 17, 251, 252, 253, 795, 796, 797, 798, 708, 709, 710, 711, 712, 713, 714, 761, 762, 763] (by decide +kernel) (by decide +kernel)
set_option maxRecDepth 20000 in
theorem gL_law_X7_balance : GoodIn wsL_law (wsV RL 63 RX7 yX7_balance wsX7_balance) := goodIn_app (goodIn_of _ (by decide +kernel)) ggL_law_X7_balance
set_option maxRecDepth 20000 in
theorem ggL_law_X8_balance : GoodIn wsL_law wsX8_balance := goodIn_r _ [683, 675, 75, 268, 269, 270, 5, 271, 267, 73, 74, 715, 716, 717, 718, 719, 720, 721, 722, 723, 724, 725, 726, 727, 728, 729, 730, 731, 732, 733, 734, 735, 736, 737, 738, 739, 740, 741, 742, 743, 744, 745, 746, 747, 748, 749, 750, 751, 752, 753, 754, 755, 756, 757, 758, 759, 760] (by decide +kernel) (by decide +kernel)
set_option maxRecDepth 20000 in
theorem gL_law_X8_balance : GoodIn wsL_law (wsV RL 66 RX8 yX8_balance wsX8_balance) := goodIn_app (goodIn_of _ (by decide +kernel)) ggL_law_X8_balance
set_option maxRecDepth 20000 in
theorem ggL_law_X7_ledger : GoodIn wsL_law wsX7_ledger := goodIn_r _ [687, 543, 243, 244, 245, 2, 246, 16, 122, 124, 125, 126, 15, 127, 128, 129, 130, 131, 132, 133, 134, 135, 136, 137, 138, 139, 140, 141, 142, 143, 144, 31, 785, 786, 787, 788, 789, 790, 708, 709, 710, 711, 712, 713, 714, 761, 762, 763] (by decide +kernel) (by decide +kernel)
set_option maxRecDepth 20000 in
theorem gL_law_X7_ledger : GoodIn wsL_law (wsV RL 67 RX7 yX7_ledger wsX7_ledger) := goodIn_app (goodIn_of _ (by decide +kernel)) ggL_law_X7_ledger
set_option maxRecDepth 20000 in
theorem ggL_law_X8_ledger : GoodIn wsL_law wsX8_ledger := goodIn_r _ [691, 223, 72, 224, 225, 5, 226, 715, 716, 717, 718, 719, 720, 721, 722, 723, 724, 725, 726, 727, 728, 729, 730, 731, 732, 733, 734, 735, 736, 737, 738, 739, 740, 741, 742, 743, 744, 745, 746, 747, 748, 749, 750, 751, 752, 753, 754, 755, 756, 757, 758, 759, 760] (by decide +kernel) (by decide +kernel)
set_option maxRecDepth 20000 in
theorem gL_law_X8_ledger : GoodIn wsL_law (wsV RL 71 RX8 yX8_ledger wsX8_ledger) := goodIn_app (goodIn_of _ (by decide +kernel)) ggL_law_X8_ledger
set_option maxRecDepth 20000 in
theorem ggL_law_X7_rejected : GoodIn wsL_law wsX7_rejected := goodIn_r _ [695, 25, 708, 709, 710, 711, 712, 713, 714] (by decide +kernel) (by decide +kernel)
set_option maxRecDepth 20000 in
theorem gL_law_X7_rejected : GoodIn wsL_law (wsV RL 72 RX7 yX7_rejected wsX7_rejected) := goodIn_app (goodIn_of _ (by decide +kernel)) ggL_law_X7_rejected
set_option maxRecDepth 20000 in
theorem ggL_law_X8_rejected : GoodIn wsL_law wsX8_rejected := goodIn_r _ [699, 106, 715, 716, 717, 718, 719, 720, 721, 722, 723, 724, 725, 726, 727, 728, 729, 730, 731, 732, 733, 734, 735, 736, 737, 738, 739, 740, 741, 742, 743, 744, 745, 746, 747, 748, 749, 750, 751, 752, 753, 754, 755, 756, 757, 758, 759, 760] (by decide +kernel) (by decide +kernel)
set_option maxRecDepth 20000 in
theorem gL_law_X8_rejected : GoodIn wsL_law (wsV RL 75 RX8 yX8_rejected wsX8_rejected) := goodIn_app (goodIn_of _ (by decide +kernel)) ggL_law_X8_rejected
set_option maxRecDepth 20000 in
theorem ggL_law_X7_waiting : GoodIn wsL_law wsX7_waiting := goodIn_r _ [703, 413, 533, 243, 244, 245, 2, 246, 16, 122, 124, 125, 126, 15, 127, 128, 129, 130, 131, 132, 133, 134, 135, 136, 137, 138, 139, 140, 141, 142, 143, 144, 31, 785, 786, 787, 788, 789, 790, 708, 709, 710, 711, 712, 713, 714, 761, 762, 763] (by decide +kernel) (by decide +kernel)
set_option maxRecDepth 20000 in
theorem gL_law_X7_waiting : GoodIn wsL_law (wsV RL 76 RX7 yX7_waiting wsX7_waiting) := goodIn_app (goodIn_of _ (by decide +kernel)) ggL_law_X7_waiting
set_option maxRecDepth 20000 in
theorem ggL_law_X8_waiting : GoodIn wsL_law wsX8_waiting := goodIn_r _ [707, 223, 495, 99, 94, 93, 224, 225, 5, 226, 715, 716, 717, 718, 719, 720, 721, 722, 723, 724, 725, 726, 727, 728, 729, 730, 731, 732, 733, 734, 735, 736, 737, 738, 739, 740, 741, 742, 743, 744, 745, 746, 747, 748, 749, 750, 751, 752, 753, 754, 755, 756, 757, 758, 759, 760] (by decide +kernel) (by decide +kernel)
set_option maxRecDepth 20000 in
theorem gL_law_X8_waiting : GoodIn wsL_law (wsV RL 79 RX8 yX8_waiting wsX8_waiting) := goodIn_app (goodIn_of _ (by decide +kernel)) ggL_law_X8_waiting
