theorem dX8_entry_65 : decode cX8_entry 65 = .ok (.lload_n 1, 1) := by decide +kernel
theorem dX8_entry_66 : decode cX8_entry 66 = .ok (.bipush 6, 2) := by decide +kernel
theorem dX8_entry_68 : decode cX8_entry 68 = .ok (.bipush 6, 2) := by decide +kernel
theorem dX8_entry_70 : decode cX8_entry 70 = .ok (.invokestatic 148, 3) := by decide +kernel
theorem dX8_entry_73 : decode cX8_entry 73 = .ok (.iastore, 1) := by decide +kernel
theorem dX8_entry_74 : decode cX8_entry 74 = .ok (.aload_n 0, 1) := by decide +kernel
theorem dX8_entry_75 : decode cX8_entry 75 = .ok (.getfield 63, 3) := by decide +kernel
theorem dX8_entry_78 : decode cX8_entry 78 = .ok (.aload_n 0, 1) := by decide +kernel
theorem dX8_entry_79 : decode cX8_entry 79 = .ok (.getfield 164, 3) := by decide +kernel
theorem dX8_entry_82 : decode cX8_entry 82 = .ok (.lload_n 3, 1) := by decide +kernel
theorem dX8_entry_83 : decode cX8_entry 83 = .ok (.iconst 0, 1) := by decide +kernel
theorem dX8_entry_84 : decode cX8_entry 84 = .ok (.bipush 7, 2) := by decide +kernel
theorem dX8_entry_86 : decode cX8_entry 86 = .ok (.invokestatic 148, 3) := by decide +kernel
theorem dX8_entry_89 : decode cX8_entry 89 = .ok (.iastore, 1) := by decide +kernel
theorem dX8_entry_90 : decode cX8_entry 90 = .ok (.aload_n 0, 1) := by decide +kernel
theorem dX8_entry_91 : decode cX8_entry 91 = .ok (.getfield 66, 3) := by decide +kernel
theorem dX8_entry_94 : decode cX8_entry 94 = .ok (.aload_n 0, 1) := by decide +kernel
theorem dX8_entry_95 : decode cX8_entry 95 = .ok (.getfield 164, 3) := by decide +kernel
theorem dX8_entry_98 : decode cX8_entry 98 = .ok (.lload_n 3, 1) := by decide +kernel
theorem dX8_entry_99 : decode cX8_entry 99 = .ok (.bipush 7, 2) := by decide +kernel
theorem dX8_entry_101 : decode cX8_entry 101 = .ok (.bipush 7, 2) := by decide +kernel
theorem dX8_entry_103 : decode cX8_entry 103 = .ok (.invokestatic 148, 3) := by decide +kernel
theorem dX8_entry_106 : decode cX8_entry 106 = .ok (.iastore, 1) := by decide +kernel
theorem dX8_entry_107 : decode cX8_entry 107 = .ok (.aload_n 0, 1) := by decide +kernel
theorem dX8_entry_108 : decode cX8_entry 108 = .ok (.dup, 1) := by decide +kernel
theorem dX8_entry_109 : decode cX8_entry 109 = .ok (.getfield 164, 3) := by decide +kernel
theorem dX8_entry_112 : decode cX8_entry 112 = .ok (.iconst 1, 1) := by decide +kernel
theorem dX8_entry_113 : decode cX8_entry 113 = .ok (.iadd, 1) := by decide +kernel
theorem dX8_entry_114 : decode cX8_entry 114 = .ok (.putfield 164, 3) := by decide +kernel
theorem dX8_entry_117 : decode cX8_entry 117 = .ok (.aload_n 0, 1) := by decide +kernel
theorem dX8_entry_118 : decode cX8_entry 118 = .ok (.iconst 2, 1) := by decide +kernel
theorem dX8_entry_119 : decode cX8_entry 119 = .ok (.putfield 152, 3) := by decide +kernel
theorem dX8_entry_122 : decode cX8_entry 122 = .ok (.iconst 0, 1) := by decide +kernel
theorem dX8_entry_123 : decode cX8_entry 123 = .ok (.ireturn, 1) := by decide +kernel
theorem dX8_total_0 : decode cX8_total 0 = .ok (.lconst 0, 1) := by decide +kernel
theorem dX8_total_1 : decode cX8_total 1 = .ok (.lstore_n 3, 1) := by decide +kernel
theorem dX8_total_2 : decode cX8_total 2 = .ok (.iconst 0, 1) := by decide +kernel
theorem dX8_total_3 : decode cX8_total 3 = .ok (.istore 5, 2) := by decide +kernel
theorem dX8_total_5 : decode cX8_total 5 = .ok (.iload 5, 2) := by decide +kernel
theorem dX8_total_7 : decode cX8_total 7 = .ok (.aload_n 0, 1) := by decide +kernel
theorem dX8_total_8 : decode cX8_total 8 = .ok (.getfield 164, 3) := by decide +kernel
theorem dX8_total_11 : decode cX8_total 11 = .ok (.if_icmp .ge 100, 3) := by decide +kernel
theorem dX8_total_14 : decode cX8_total 14 = .ok (.iload_n 1, 1) := by decide +kernel
theorem dX8_total_15 : decode cX8_total 15 = .ok (.ifCond .lt 14, 3) := by decide +kernel
theorem dX8_total_18 : decode cX8_total 18 = .ok (.aload_n 0, 1) := by decide +kernel
theorem dX8_total_19 : decode cX8_total 19 = .ok (.getfield 51, 3) := by decide +kernel
theorem dX8_total_22 : decode cX8_total 22 = .ok (.iload 5, 2) := by decide +kernel
theorem dX8_total_24 : decode cX8_total 24 = .ok (.iaload, 1) := by decide +kernel
theorem dX8_total_25 : decode cX8_total 25 = .ok (.iload_n 1, 1) := by decide +kernel
theorem dX8_total_26 : decode cX8_total 26 = .ok (.if_icmp .ne 79, 3) := by decide +kernel
theorem dX8_total_29 : decode cX8_total 29 = .ok (.iload_n 2, 1) := by decide +kernel
theorem dX8_total_30 : decode cX8_total 30 = .ok (.ifCond .ne 7, 3) := by decide +kernel
theorem dX8_total_33 : decode cX8_total 33 = .ok (.lconst 1, 1) := by decide +kernel
theorem dX8_total_34 : decode cX8_total 34 = .ok (.goto 64, 3) := by decide +kernel
theorem dX8_total_37 : decode cX8_total 37 = .ok (.iload_n 2, 1) := by decide +kernel
theorem dX8_total_38 : decode cX8_total 38 = .ok (.iconst 1, 1) := by decide +kernel
theorem dX8_total_39 : decode cX8_total 39 = .ok (.if_icmp .ne 14, 3) := by decide +kernel
theorem dX8_total_42 : decode cX8_total 42 = .ok (.aload_n 0, 1) := by decide +kernel
theorem dX8_total_43 : decode cX8_total 43 = .ok (.getfield 57, 3) := by decide +kernel
theorem dX8_total_46 : decode cX8_total 46 = .ok (.iload 5, 2) := by decide +kernel
theorem dX8_total_48 : decode cX8_total 48 = .ok (.iaload, 1) := by decide +kernel
theorem dX8_total_49 : decode cX8_total 49 = .ok (.i2l, 1) := by decide +kernel
theorem dX8_total_50 : decode cX8_total 50 = .ok (.goto 48, 3) := by decide +kernel
theorem dX8_total_53 : decode cX8_total 53 = .ok (.iload_n 2, 1) := by decide +kernel
theorem dX8_total_54 : decode cX8_total 54 = .ok (.iconst 2, 1) := by decide +kernel
theorem dX8_total_55 : decode cX8_total 55 = .ok (.if_icmp .ne 15, 3) := by decide +kernel
theorem dX8_total_58 : decode cX8_total 58 = .ok (.aload_n 0, 1) := by decide +kernel
theorem dX8_total_59 : decode cX8_total 59 = .ok (.getfield 54, 3) := by decide +kernel
theorem dX8_total_62 : decode cX8_total 62 = .ok (.iload 5, 2) := by decide +kernel
theorem dX8_total_64 : decode cX8_total 64 = .ok (.iaload, 1) := by decide +kernel
theorem dX8_total_65 : decode cX8_total 65 = .ok (.bipush 7, 2) := by decide +kernel
theorem dX8_total_67 : decode cX8_total 67 = .ok (.if_icmp .eq 19, 3) := by decide +kernel
theorem dX8_total_70 : decode cX8_total 70 = .ok (.iload_n 2, 1) := by decide +kernel
theorem dX8_total_71 : decode cX8_total 71 = .ok (.iconst 3, 1) := by decide +kernel
theorem dX8_total_72 : decode cX8_total 72 = .ok (.if_icmp .ne 25, 3) := by decide +kernel
theorem dX8_total_75 : decode cX8_total 75 = .ok (.aload_n 0, 1) := by decide +kernel
theorem dX8_total_76 : decode cX8_total 76 = .ok (.getfield 54, 3) := by decide +kernel
theorem dX8_total_79 : decode cX8_total 79 = .ok (.iload 5, 2) := by decide +kernel
theorem dX8_total_81 : decode cX8_total 81 = .ok (.iaload, 1) := by decide +kernel
theorem dX8_total_82 : decode cX8_total 82 = .ok (.iconst 2, 1) := by decide +kernel
theorem dX8_total_83 : decode cX8_total 83 = .ok (.if_icmp .ne 14, 3) := by decide +kernel
theorem dX8_total_86 : decode cX8_total 86 = .ok (.aload_n 0, 1) := by decide +kernel
theorem dX8_total_87 : decode cX8_total 87 = .ok (.getfield 63, 3) := by decide +kernel
theorem dX8_total_90 : decode cX8_total 90 = .ok (.iload 5, 2) := by decide +kernel
theorem dX8_total_92 : decode cX8_total 92 = .ok (.iaload, 1) := by decide +kernel
theorem dX8_total_93 : decode cX8_total 93 = .ok (.i2l, 1) := by decide +kernel
theorem dX8_total_94 : decode cX8_total 94 = .ok (.goto 4, 3) := by decide +kernel
theorem dX8_total_97 : decode cX8_total 97 = .ok (.lconst 0, 1) := by decide +kernel
theorem dX8_total_98 : decode cX8_total 98 = .ok (.lstore 6, 2) := by decide +kernel
theorem dX8_total_100 : decode cX8_total 100 = .ok (.lload_n 3, 1) := by decide +kernel
theorem dX8_total_101 : decode cX8_total 101 = .ok (.lload 6, 2) := by decide +kernel
theorem dX8_total_103 : decode cX8_total 103 = .ok (.ladd, 1) := by decide +kernel
theorem dX8_total_104 : decode cX8_total 104 = .ok (.lstore_n 3, 1) := by decide +kernel
theorem dX8_total_105 : decode cX8_total 105 = .ok (.iinc 5 1, 3) := by decide +kernel
theorem dX8_total_108 : decode cX8_total 108 = .ok (.goto (-103), 3) := by decide +kernel
theorem dX8_total_111 : decode cX8_total 111 = .ok (.lload_n 3, 1) := by decide +kernel
theorem dX8_total_112 : decode cX8_total 112 = .ok (.lreturn, 1) := by decide +kernel
set_option maxRecDepth 20000 in
theorem ggX8_batchFault_X8_bankOf : GoodIn wsX8_batchFault wsX8_bankOf := goodIn_r _ [16, 17, 18, 26, 27, 28, 29, 30, 31, 32, 33, 34, 35, 36, 37, 38, 39, 40, 41, 42, 43, 44, 45, 46, 47, 48, 49, 50, 51, 52, 53, 54, 55, 56, 57, 58, 59, 60, 61, 62, 63, 64, 65, 66, 67, 68, 69, 70, 71] (by decide +kernel) (by decide +kernel)
set_option maxRecDepth 20000 in
theorem gX8_batchFault_X8_bankOf : GoodIn wsX8_batchFault (wsV RX8 130 RX8 yX8_bankOf wsX8_bankOf) := goodIn_app (goodIn_of _ (by decide +kernel)) ggX8_batchFault_X8_bankOf
set_option maxRecDepth 20000 in
theorem ggX8_batchFault_X8_total : GoodIn wsX8_batchFault wsX8_total := goodIn_r _ [22, 9, 10, 23, 24, 25, 26, 27, 28, 29, 30, 31, 32, 33, 34, 35, 36, 37, 38, 39, 40, 41, 42, 43, 44, 45, 46, 47, 48, 49, 50, 51, 52, 53, 54, 55, 56, 57, 58, 59, 60, 61, 62, 63, 64, 65, 66, 67, 68, 69, 70, 71] (by decide +kernel) (by decide +kernel)
set_option maxRecDepth 20000 in
theorem gX8_batchFault_X8_total : GoodIn wsX8_batchFault (wsV RX8 178 RX8 yX8_total wsX8_total) := goodIn_app (goodIn_of _ (by decide +kernel)) ggX8_batchFault_X8_total
theorem dX8_batchFault_0 : decode cX8_batchFault 0 = .ok (.aload_n 0, 1) := by decide +kernel
theorem dX8_batchFault_1 : decode cX8_batchFault 1 = .ok (.aload_n 0, 1) := by decide +kernel
theorem dX8_batchFault_2 : decode cX8_batchFault 2 = .ok (.getfield 30, 3) := by decide +kernel
theorem dX8_batchFault_5 : decode cX8_batchFault 5 = .ok (.iload_n 1, 1) := by decide +kernel
theorem dX8_batchFault_6 : decode cX8_batchFault 6 = .ok (.iaload, 1) := by decide +kernel
theorem dX8_batchFault_7 : decode cX8_batchFault 7 = .ok (.invokevirtual 130, 3) := by decide +kernel
theorem dX8_batchFault_10 : decode cX8_batchFault 10 = .ok (.ifCond .ge 6, 3) := by decide +kernel
theorem dX8_batchFault_13 : decode cX8_batchFault 13 = .ok (.bipush 20, 2) := by decide +kernel
theorem dX8_batchFault_15 : decode cX8_batchFault 15 = .ok (.ireturn, 1) := by decide +kernel
theorem dX8_batchFault_16 : decode cX8_batchFault 16 = .ok (.iload_n 1, 1) := by decide +kernel
theorem dX8_batchFault_17 : decode cX8_batchFault 17 = .ok (.ifCond .le 23, 3) := by decide +kernel
theorem dX8_batchFault_20 : decode cX8_batchFault 20 = .ok (.aload_n 0, 1) := by decide +kernel
theorem dX8_batchFault_21 : decode cX8_batchFault 21 = .ok (.getfield 33, 3) := by decide +kernel
theorem dX8_batchFault_24 : decode cX8_batchFault 24 = .ok (.iload_n 1, 1) := by decide +kernel
theorem dX8_batchFault_25 : decode cX8_batchFault 25 = .ok (.iaload, 1) := by decide +kernel
theorem dX8_batchFault_26 : decode cX8_batchFault 26 = .ok (.aload_n 0, 1) := by decide +kernel
theorem dX8_batchFault_27 : decode cX8_batchFault 27 = .ok (.getfield 33, 3) := by decide +kernel
theorem dX8_batchFault_30 : decode cX8_batchFault 30 = .ok (.iload_n 1, 1) := by decide +kernel
theorem dX8_batchFault_31 : decode cX8_batchFault 31 = .ok (.iconst 1, 1) := by decide +kernel
theorem dX8_batchFault_32 : decode cX8_batchFault 32 = .ok (.isub, 1) := by decide +kernel
theorem dX8_batchFault_33 : decode cX8_batchFault 33 = .ok (.iaload, 1) := by decide +kernel
theorem dX8_batchFault_34 : decode cX8_batchFault 34 = .ok (.if_icmp .gt 6, 3) := by decide +kernel
theorem dX8_batchFault_37 : decode cX8_batchFault 37 = .ok (.bipush 21, 2) := by decide +kernel
theorem dX8_batchFault_39 : decode cX8_batchFault 39 = .ok (.ireturn, 1) := by decide +kernel
theorem dX8_batchFault_40 : decode cX8_batchFault 40 = .ok (.aload_n 0, 1) := by decide +kernel
theorem dX8_batchFault_41 : decode cX8_batchFault 41 = .ok (.getfield 36, 3) := by decide +kernel
theorem dX8_batchFault_44 : decode cX8_batchFault 44 = .ok (.iload_n 1, 1) := by decide +kernel
theorem dX8_batchFault_45 : decode cX8_batchFault 45 = .ok (.iaload, 1) := by decide +kernel
theorem dX8_batchFault_46 : decode cX8_batchFault 46 = .ok (.aload_n 0, 1) := by decide +kernel
theorem dX8_batchFault_47 : decode cX8_batchFault 47 = .ok (.getfield 143, 3) := by decide +kernel
theorem dX8_batchFault_50 : decode cX8_batchFault 50 = .ok (.if_icmp .ge 6, 3) := by decide +kernel
theorem dX8_batchFault_53 : decode cX8_batchFault 53 = .ok (.bipush 22, 2) := by decide +kernel
theorem dX8_batchFault_55 : decode cX8_batchFault 55 = .ok (.ireturn, 1) := by decide +kernel
theorem dX8_batchFault_56 : decode cX8_batchFault 56 = .ok (.aload_n 0, 1) := by decide +kernel
theorem dX8_batchFault_57 : decode cX8_batchFault 57 = .ok (.getfield 39, 3) := by decide +kernel
theorem dX8_batchFault_60 : decode cX8_batchFault 60 = .ok (.iload_n 1, 1) := by decide +kernel
theorem dX8_batchFault_61 : decode cX8_batchFault 61 = .ok (.iaload, 1) := by decide +kernel
theorem dX8_batchFault_62 : decode cX8_batchFault 62 = .ok (.i2l, 1) := by decide +kernel
theorem dX8_batchFault_63 : decode cX8_batchFault 63 = .ok (.aload_n 0, 1) := by decide +kernel
theorem dX8_batchFault_64 : decode cX8_batchFault 64 = .ok (.iload_n 1, 1) := by decide +kernel
theorem dX8_batchFault_65 : decode cX8_batchFault 65 = .ok (.iconst 0, 1) := by decide +kernel
theorem dX8_batchFault_66 : decode cX8_batchFault 66 = .ok (.invokevirtual 178, 3) := by decide +kernel
theorem dX8_batchFault_69 : decode cX8_batchFault 69 = .ok (.lcmp, 1) := by decide +kernel
theorem dX8_batchFault_70 : decode cX8_batchFault 70 = .ok (.ifCond .ne 54, 3) := by decide +kernel
theorem dX8_batchFault_73 : decode cX8_batchFault 73 = .ok (.aload_n 0, 1) := by decide +kernel
theorem dX8_batchFault_74 : decode cX8_batchFault 74 = .ok (.getfield 42, 3) := by decide +kernel
theorem dX8_batchFault_77 : decode cX8_batchFault 77 = .ok (.iload_n 1, 1) := by decide +kernel
theorem dX8_batchFault_78 : decode cX8_batchFault 78 = .ok (.iaload, 1) := by decide +kernel
theorem dX8_batchFault_79 : decode cX8_batchFault 79 = .ok (.i2l, 1) := by decide +kernel
theorem dX8_batchFault_80 : decode cX8_batchFault 80 = .ok (.aload_n 0, 1) := by decide +kernel
theorem dX8_batchFault_81 : decode cX8_batchFault 81 = .ok (.iload_n 1, 1) := by decide +kernel
theorem dX8_batchFault_82 : decode cX8_batchFault 82 = .ok (.iconst 1, 1) := by decide +kernel
theorem dX8_batchFault_83 : decode cX8_batchFault 83 = .ok (.invokevirtual 178, 3) := by decide +kernel
theorem dX8_batchFault_86 : decode cX8_batchFault 86 = .ok (.lcmp, 1) := by decide +kernel
theorem dX8_batchFault_87 : decode cX8_batchFault 87 = .ok (.ifCond .ne 37, 3) := by decide +kernel
theorem dX8_batchFault_90 : decode cX8_batchFault 90 = .ok (.aload_n 0, 1) := by decide +kernel
theorem dX8_batchFault_91 : decode cX8_batchFault 91 = .ok (.getfield 45, 3) := by decide +kernel
theorem dX8_batchFault_94 : decode cX8_batchFault 94 = .ok (.iload_n 1, 1) := by decide +kernel
theorem dX8_batchFault_95 : decode cX8_batchFault 95 = .ok (.iaload, 1) := by decide +kernel
theorem dX8_batchFault_96 : decode cX8_batchFault 96 = .ok (.i2l, 1) := by decide +kernel
theorem dX8_batchFault_97 : decode cX8_batchFault 97 = .ok (.aload_n 0, 1) := by decide +kernel
theorem dX8_batchFault_98 : decode cX8_batchFault 98 = .ok (.iload_n 1, 1) := by decide +kernel
theorem dX8_batchFault_99 : decode cX8_batchFault 99 = .ok (.iconst 2, 1) := by decide +kernel
theorem dX8_batchFault_100 : decode cX8_batchFault 100 = .ok (.invokevirtual 178, 3) := by decide +kernel
theorem dX8_batchFault_103 : decode cX8_batchFault 103 = .ok (.lcmp, 1) := by decide +kernel
theorem dX8_batchFault_104 : decode cX8_batchFault 104 = .ok (.ifCond .ne 20, 3) := by decide +kernel
theorem dX8_batchFault_107 : decode cX8_batchFault 107 = .ok (.aload_n 0, 1) := by decide +kernel
theorem dX8_batchFault_108 : decode cX8_batchFault 108 = .ok (.getfield 48, 3) := by decide +kernel
theorem dX8_batchFault_111 : decode cX8_batchFault 111 = .ok (.iload_n 1, 1) := by decide +kernel
theorem dX8_batchFault_112 : decode cX8_batchFault 112 = .ok (.iaload, 1) := by decide +kernel
theorem dX8_batchFault_113 : decode cX8_batchFault 113 = .ok (.i2l, 1) := by decide +kernel
theorem dX8_batchFault_114 : decode cX8_batchFault 114 = .ok (.aload_n 0, 1) := by decide +kernel
theorem dX8_batchFault_115 : decode cX8_batchFault 115 = .ok (.iload_n 1, 1) := by decide +kernel
theorem dX8_batchFault_116 : decode cX8_batchFault 116 = .ok (.iconst 3, 1) := by decide +kernel
theorem dX8_batchFault_117 : decode cX8_batchFault 117 = .ok (.invokevirtual 178, 3) := by decide +kernel
theorem dX8_batchFault_120 : decode cX8_batchFault 120 = .ok (.lcmp, 1) := by decide +kernel
theorem dX8_batchFault_121 : decode cX8_batchFault 121 = .ok (.ifCond .eq 6, 3) := by decide +kernel
theorem dX8_batchFault_124 : decode cX8_batchFault 124 = .ok (.bipush 23, 2) := by decide +kernel
theorem dX8_batchFault_126 : decode cX8_batchFault 126 = .ok (.ireturn, 1) := by decide +kernel
theorem dX8_batchFault_127 : decode cX8_batchFault 127 = .ok (.iconst 1, 1) := by decide +kernel
theorem dX8_batchFault_128 : decode cX8_batchFault 128 = .ok (.istore_n 2, 1) := by decide +kernel
theorem dX8_batchFault_129 : decode cX8_batchFault 129 = .ok (.iload_n 2, 1) := by decide +kernel
theorem dX8_batchFault_130 : decode cX8_batchFault 130 = .ok (.aload_n 0, 1) := by decide +kernel
theorem dX8_batchFault_131 : decode cX8_batchFault 131 = .ok (.getfield 164, 3) := by decide +kernel
theorem dX8_batchFault_134 : decode cX8_batchFault 134 = .ok (.if_icmp .ge 51, 3) := by decide +kernel
theorem dX8_batchFault_137 : decode cX8_batchFault 137 = .ok (.aload_n 0, 1) := by decide +kernel
theorem dX8_batchFault_138 : decode cX8_batchFault 138 = .ok (.getfield 51, 3) := by decide +kernel
theorem dX8_batchFault_141 : decode cX8_batchFault 141 = .ok (.iload_n 2, 1) := by decide +kernel
theorem dX8_batchFault_142 : decode cX8_batchFault 142 = .ok (.iaload, 1) := by decide +kernel
theorem dX8_batchFault_143 : decode cX8_batchFault 143 = .ok (.iload_n 1, 1) := by decide +kernel
theorem dX8_batchFault_144 : decode cX8_batchFault 144 = .ok (.if_icmp .ne 35, 3) := by decide +kernel
theorem dX8_batchFault_147 : decode cX8_batchFault 147 = .ok (.aload_n 0, 1) := by decide +kernel
theorem dX8_batchFault_148 : decode cX8_batchFault 148 = .ok (.getfield 51, 3) := by decide +kernel
theorem dX8_batchFault_151 : decode cX8_batchFault 151 = .ok (.iload_n 2, 1) := by decide +kernel
theorem dX8_batchFault_152 : decode cX8_batchFault 152 = .ok (.iconst 1, 1) := by decide +kernel
theorem dX8_batchFault_153 : decode cX8_batchFault 153 = .ok (.isub, 1) := by decide +kernel
theorem dX8_batchFault_154 : decode cX8_batchFault 154 = .ok (.iaload, 1) := by decide +kernel
theorem dX8_batchFault_155 : decode cX8_batchFault 155 = .ok (.iload_n 1, 1) := by decide +kernel
theorem dX8_batchFault_156 : decode cX8_batchFault 156 = .ok (.if_icmp .ne 23, 3) := by decide +kernel
theorem dX8_batchFault_159 : decode cX8_batchFault 159 = .ok (.aload_n 0, 1) := by decide +kernel
theorem dX8_batchFault_160 : decode cX8_batchFault 160 = .ok (.getfield 66, 3) := by decide +kernel
theorem dX8_batchFault_163 : decode cX8_batchFault 163 = .ok (.iload_n 2, 1) := by decide +kernel
theorem dX8_batchFault_164 : decode cX8_batchFault 164 = .ok (.iaload, 1) := by decide +kernel
theorem dX8_batchFault_165 : decode cX8_batchFault 165 = .ok (.aload_n 0, 1) := by decide +kernel
theorem dX8_batchFault_166 : decode cX8_batchFault 166 = .ok (.getfield 66, 3) := by decide +kernel
theorem dX8_batchFault_169 : decode cX8_batchFault 169 = .ok (.iload_n 2, 1) := by decide +kernel
theorem dX8_batchFault_170 : decode cX8_batchFault 170 = .ok (.iconst 1, 1) := by decide +kernel
theorem dX8_batchFault_171 : decode cX8_batchFault 171 = .ok (.isub, 1) := by decide +kernel
theorem dX8_batchFault_172 : decode cX8_batchFault 172 = .ok (.iaload, 1) := by decide +kernel
theorem dX8_batchFault_173 : decode cX8_batchFault 173 = .ok (.if_icmp .gt 6, 3) := by decide +kernel
theorem dX8_batchFault_176 : decode cX8_batchFault 176 = .ok (.bipush 24, 2) := by decide +kernel
theorem dX8_batchFault_178 : decode cX8_batchFault 178 = .ok (.ireturn, 1) := by decide +kernel
theorem dX8_batchFault_179 : decode cX8_batchFault 179 = .ok (.iinc 2 1, 3) := by decide +kernel
theorem dX8_batchFault_182 : decode cX8_batchFault 182 = .ok (.goto (-53), 3) := by decide +kernel
theorem dX8_batchFault_185 : decode cX8_batchFault 185 = .ok (.iconst 0, 1) := by decide +kernel
theorem dX8_batchFault_186 : decode cX8_batchFault 186 = .ok (.ireturn, 1) := by decide +kernel
set_option maxRecDepth 20000 in
theorem ggX8_entryFault_X8_right : GoodIn wsX8_entryFault wsX8_right := goodIn_r _ [7] (by decide +kernel) (by decide +kernel)
set_option maxRecDepth 20000 in
theorem gX8_entryFault_X8_right : GoodIn wsX8_entryFault (va_wsS RX8 127 yX8_right wsX8_right) := goodIn_app (goodIn_of _ (by decide +kernel)) ggX8_entryFault_X8_right
set_option maxRecDepth 20000 in
theorem ggX8_entryFault_X8_bankOf : GoodIn wsX8_entryFault wsX8_bankOf := goodIn_r _ [11, 12, 13, 14, 15, 16, 17, 18, 19, 20, 21, 22, 23, 24, 25, 26, 27, 28, 29, 30, 31, 32, 33, 34, 35, 36, 37, 38, 39, 40, 41, 42, 43, 44, 45, 46, 47, 48, 49, 50, 51, 52, 53, 54, 55, 56, 57, 58, 59] (by decide +kernel) (by decide +kernel)
set_option maxRecDepth 20000 in
theorem gX8_entryFault_X8_bankOf : GoodIn wsX8_entryFault (wsV RX8 130 RX8 yX8_bankOf wsX8_bankOf) := goodIn_app (goodIn_of _ (by decide +kernel)) ggX8_entryFault_X8_bankOf
theorem dX8_entryFault_0 : decode cX8_entryFault 0 = .ok (.aload_n 0, 1) := by decide +kernel
theorem dX8_entryFault_1 : decode cX8_entryFault 1 = .ok (.getfield 57, 3) := by decide +kernel
theorem dX8_entryFault_4 : decode cX8_entryFault 4 = .ok (.iload_n 1, 1) := by decide +kernel
theorem dX8_entryFault_5 : decode cX8_entryFault 5 = .ok (.iaload, 1) := by decide +kernel
theorem dX8_entryFault_6 : decode cX8_entryFault 6 = .ok (.iconst 4, 1) := by decide +kernel
theorem dX8_entryFault_7 : decode cX8_entryFault 7 = .ok (.invokestatic 127, 3) := by decide +kernel
theorem dX8_entryFault_10 : decode cX8_entryFault 10 = .ok (.ifCond .ne 6, 3) := by decide +kernel
theorem dX8_entryFault_13 : decode cX8_entryFault 13 = .ok (.bipush 30, 2) := by decide +kernel
theorem dX8_entryFault_15 : decode cX8_entryFault 15 = .ok (.ireturn, 1) := by decide +kernel
theorem dX8_entryFault_16 : decode cX8_entryFault 16 = .ok (.aload_n 0, 1) := by decide +kernel
theorem dX8_entryFault_17 : decode cX8_entryFault 17 = .ok (.aload_n 0, 1) := by decide +kernel
theorem dX8_entryFault_18 : decode cX8_entryFault 18 = .ok (.getfield 57, 3) := by decide +kernel
theorem dX8_entryFault_21 : decode cX8_entryFault 21 = .ok (.iload_n 1, 1) := by decide +kernel
theorem dX8_entryFault_22 : decode cX8_entryFault 22 = .ok (.iaload, 1) := by decide +kernel
theorem dX8_entryFault_23 : decode cX8_entryFault 23 = .ok (.invokevirtual 130, 3) := by decide +kernel
theorem dX8_entryFault_26 : decode cX8_entryFault 26 = .ok (.ifCond .ge 6, 3) := by decide +kernel
theorem dX8_entryFault_29 : decode cX8_entryFault 29 = .ok (.bipush 31, 2) := by decide +kernel
theorem dX8_entryFault_31 : decode cX8_entryFault 31 = .ok (.ireturn, 1) := by decide +kernel
theorem dX8_entryFault_32 : decode cX8_entryFault 32 = .ok (.aload_n 0, 1) := by decide +kernel
theorem dX8_entryFault_33 : decode cX8_entryFault 33 = .ok (.getfield 54, 3) := by decide +kernel
theorem dX8_entryFault_36 : decode cX8_entryFault 36 = .ok (.iload_n 1, 1) := by decide +kernel
theorem dX8_entryFault_37 : decode cX8_entryFault 37 = .ok (.iaload, 1) := by decide +kernel
theorem dX8_entryFault_38 : decode cX8_entryFault 38 = .ok (.iconst 2, 1) := by decide +kernel
theorem dX8_entryFault_39 : decode cX8_entryFault 39 = .ok (.if_icmp .eq 19, 3) := by decide +kernel
theorem dX8_entryFault_42 : decode cX8_entryFault 42 = .ok (.aload_n 0, 1) := by decide +kernel
theorem dX8_entryFault_43 : decode cX8_entryFault 43 = .ok (.getfield 54, 3) := by decide +kernel
theorem dX8_entryFault_46 : decode cX8_entryFault 46 = .ok (.iload_n 1, 1) := by decide +kernel
theorem dX8_entryFault_47 : decode cX8_entryFault 47 = .ok (.iaload, 1) := by decide +kernel
theorem dX8_entryFault_48 : decode cX8_entryFault 48 = .ok (.bipush 7, 2) := by decide +kernel
theorem dX8_entryFault_50 : decode cX8_entryFault 50 = .ok (.if_icmp .eq 8, 3) := by decide +kernel
theorem dX8_entryFault_53 : decode cX8_entryFault 53 = .ok (.bipush 32, 2) := by decide +kernel
theorem dX8_entryFault_55 : decode cX8_entryFault 55 = .ok (.goto 18, 3) := by decide +kernel
theorem dX8_entryFault_58 : decode cX8_entryFault 58 = .ok (.aload_n 0, 1) := by decide +kernel
theorem dX8_entryFault_59 : decode cX8_entryFault 59 = .ok (.getfield 63, 3) := by decide +kernel
theorem dX8_entryFault_62 : decode cX8_entryFault 62 = .ok (.iload_n 1, 1) := by decide +kernel
theorem dX8_entryFault_63 : decode cX8_entryFault 63 = .ok (.iaload, 1) := by decide +kernel
theorem dX8_entryFault_64 : decode cX8_entryFault 64 = .ok (.ifCond .ne 8, 3) := by decide +kernel
theorem dX8_entryFault_67 : decode cX8_entryFault 67 = .ok (.bipush 33, 2) := by decide +kernel
theorem dX8_entryFault_69 : decode cX8_entryFault 69 = .ok (.goto 4, 3) := by decide +kernel
theorem dX8_entryFault_72 : decode cX8_entryFault 72 = .ok (.iconst 0, 1) := by decide +kernel
theorem dX8_entryFault_73 : decode cX8_entryFault 73 = .ok (.ireturn, 1) := by decide +kernel
theorem dX8_waitingInAll_0 : decode cX8_waitingInAll 0 = .ok (.iconst 0, 1) := by decide +kernel
theorem dX8_waitingInAll_1 : decode cX8_waitingInAll 1 = .ok (.istore_n 1, 1) := by decide +kernel
theorem dX8_waitingInAll_2 : decode cX8_waitingInAll 2 = .ok (.iconst 0, 1) := by decide +kernel
theorem dX8_waitingInAll_3 : decode cX8_waitingInAll 3 = .ok (.istore_n 2, 1) := by decide +kernel
theorem dX8_waitingInAll_4 : decode cX8_waitingInAll 4 = .ok (.iload_n 2, 1) := by decide +kernel
theorem dX8_waitingInAll_5 : decode cX8_waitingInAll 5 = .ok (.aload_n 0, 1) := by decide +kernel
theorem dX8_waitingInAll_6 : decode cX8_waitingInAll 6 = .ok (.getfield 182, 3) := by decide +kernel
theorem dX8_waitingInAll_9 : decode cX8_waitingInAll 9 = .ok (.if_icmp .ge 26, 3) := by decide +kernel
theorem dX8_waitingInAll_12 : decode cX8_waitingInAll 12 = .ok (.aload_n 0, 1) := by decide +kernel
theorem dX8_waitingInAll_13 : decode cX8_waitingInAll 13 = .ok (.getfield 93, 3) := by decide +kernel
theorem dX8_waitingInAll_16 : decode cX8_waitingInAll 16 = .ok (.iload_n 2, 1) := by decide +kernel
theorem dX8_waitingInAll_17 : decode cX8_waitingInAll 17 = .ok (.iaload, 1) := by decide +kernel
theorem dX8_waitingInAll_18 : decode cX8_waitingInAll 18 = .ok (.ifCond .ne 9, 3) := by decide +kernel
theorem dX8_waitingInAll_21 : decode cX8_waitingInAll 21 = .ok (.iload_n 1, 1) := by decide +kernel
theorem dX8_waitingInAll_22 : decode cX8_waitingInAll 22 = .ok (.iconst 1, 1) := by decide +kernel
theorem dX8_waitingInAll_23 : decode cX8_waitingInAll 23 = .ok (.iadd, 1) := by decide +kernel
theorem dX8_waitingInAll_24 : decode cX8_waitingInAll 24 = .ok (.goto 4, 3) := by decide +kernel
theorem dX8_waitingInAll_27 : decode cX8_waitingInAll 27 = .ok (.iload_n 1, 1) := by decide +kernel
theorem dX8_waitingInAll_28 : decode cX8_waitingInAll 28 = .ok (.istore_n 1, 1) := by decide +kernel
theorem dX8_waitingInAll_29 : decode cX8_waitingInAll 29 = .ok (.iinc 2 1, 3) := by decide +kernel
theorem dX8_waitingInAll_32 : decode cX8_waitingInAll 32 = .ok (.goto (-28), 3) := by decide +kernel
theorem dX8_waitingInAll_35 : decode cX8_waitingInAll 35 = .ok (.iload_n 1, 1) := by decide +kernel
theorem dX8_waitingInAll_36 : decode cX8_waitingInAll 36 = .ok (.ireturn, 1) := by decide +kernel
set_option maxRecDepth 20000 in
theorem ggX8_goodEntries_X8_batchFault : GoodIn wsX8_goodEntries wsX8_batchFault := goodIn_r _ [7, 8, 9, 10, 11, 12, 13, 14, 15, 1, 2, 16, 17, 18, 19, 6, 20, 21, 22, 23, 24, 25, 26, 27, 28, 29, 37, 38, 39, 40, 41, 42, 43, 44, 45, 46, 47, 48, 49, 50, 51, 52, 53, 54, 55, 56, 57, 58, 59, 60, 61, 62, 63, 64, 65, 66, 67, 68, 69, 70, 71, 72, 73, 74, 75, 76, 77, 78, 79, 80, 81, 82] (by decide +kernel) (by decide +kernel)
set_option maxRecDepth 20000 in
theorem gX8_goodEntries_X8_batchFault : GoodIn wsX8_goodEntries (wsV RX8 185 RX8 yX8_batchFault wsX8_batchFault) := goodIn_app (goodIn_of _ (by decide +kernel)) ggX8_goodEntries_X8_batchFault
set_option maxRecDepth 20000 in
theorem ggX8_goodEntries_X8_entryFault : GoodIn wsX8_goodEntries wsX8_entryFault := goodIn_r _ [33, 27, 28, 29, 34, 35, 6, 36, 17, 18, 19, 20, 21, 22, 37, 38, 39, 40, 41, 42, 43, 44, 45, 46, 47, 48, 49, 50, 51, 52, 53, 54, 55, 56, 57, 58, 59, 60, 61, 62, 63, 64, 65, 66, 67, 68, 69, 70, 71, 72, 73, 74, 75, 76, 77, 78, 79, 80, 81, 82] (by decide +kernel) (by decide +kernel)
set_option maxRecDepth 20000 in
theorem gX8_goodEntries_X8_entryFault : GoodIn wsX8_goodEntries (wsV RX8 188 RX8 yX8_entryFault wsX8_entryFault) := goodIn_app (goodIn_of _ (by decide +kernel)) ggX8_goodEntries_X8_entryFault
theorem dX8_goodEntries_0 : decode cX8_goodEntries 0 = .ok (.iconst 0, 1) := by decide +kernel
theorem dX8_goodEntries_1 : decode cX8_goodEntries 1 = .ok (.istore_n 1, 1) := by decide +kernel
theorem dX8_goodEntries_2 : decode cX8_goodEntries 2 = .ok (.iconst 0, 1) := by decide +kernel
theorem dX8_goodEntries_3 : decode cX8_goodEntries 3 = .ok (.istore_n 2, 1) := by decide +kernel
theorem dX8_goodEntries_4 : decode cX8_goodEntries 4 = .ok (.iload_n 2, 1) := by decide +kernel
theorem dX8_goodEntries_5 : decode cX8_goodEntries 5 = .ok (.aload_n 0, 1) := by decide +kernel
theorem dX8_goodEntries_6 : decode cX8_goodEntries 6 = .ok (.getfield 164, 3) := by decide +kernel
theorem dX8_goodEntries_9 : decode cX8_goodEntries 9 = .ok (.if_icmp .ge 38, 3) := by decide +kernel
theorem dX8_goodEntries_12 : decode cX8_goodEntries 12 = .ok (.aload_n 0, 1) := by decide +kernel
theorem dX8_goodEntries_13 : decode cX8_goodEntries 13 = .ok (.aload_n 0, 1) := by decide +kernel
theorem dX8_goodEntries_14 : decode cX8_goodEntries 14 = .ok (.getfield 51, 3) := by decide +kernel
theorem dX8_goodEntries_17 : decode cX8_goodEntries 17 = .ok (.iload_n 2, 1) := by decide +kernel
theorem dX8_goodEntries_18 : decode cX8_goodEntries 18 = .ok (.iaload, 1) := by decide +kernel
theorem dX8_goodEntries_19 : decode cX8_goodEntries 19 = .ok (.invokevirtual 185, 3) := by decide +kernel
theorem dX8_goodEntries_22 : decode cX8_goodEntries 22 = .ok (.ifCond .ne 17, 3) := by decide +kernel
theorem dX8_goodEntries_25 : decode cX8_goodEntries 25 = .ok (.aload_n 0, 1) := by decide +kernel
theorem dX8_goodEntries_26 : decode cX8_goodEntries 26 = .ok (.iload_n 2, 1) := by decide +kernel
theorem dX8_goodEntries_27 : decode cX8_goodEntries 27 = .ok (.invokevirtual 188, 3) := by decide +kernel
theorem dX8_goodEntries_30 : decode cX8_goodEntries 30 = .ok (.ifCond .ne 9, 3) := by decide +kernel
theorem dX8_goodEntries_33 : decode cX8_goodEntries 33 = .ok (.iload_n 1, 1) := by decide +kernel
theorem dX8_goodEntries_34 : decode cX8_goodEntries 34 = .ok (.iconst 1, 1) := by decide +kernel
theorem dX8_goodEntries_35 : decode cX8_goodEntries 35 = .ok (.iadd, 1) := by decide +kernel
theorem dX8_goodEntries_36 : decode cX8_goodEntries 36 = .ok (.goto 4, 3) := by decide +kernel
theorem dX8_goodEntries_39 : decode cX8_goodEntries 39 = .ok (.iload_n 1, 1) := by decide +kernel
theorem dX8_goodEntries_40 : decode cX8_goodEntries 40 = .ok (.istore_n 1, 1) := by decide +kernel
theorem dX8_goodEntries_41 : decode cX8_goodEntries 41 = .ok (.iinc 2 1, 3) := by decide +kernel
theorem dX8_goodEntries_44 : decode cX8_goodEntries 44 = .ok (.goto (-40), 3) := by decide +kernel
theorem dX8_goodEntries_47 : decode cX8_goodEntries 47 = .ok (.iload_n 1, 1) := by decide +kernel
theorem dX8_goodEntries_48 : decode cX8_goodEntries 48 = .ok (.ireturn, 1) := by decide +kernel
set_option maxRecDepth 20000 in
theorem ggX8_fileFault_X8_bankOf : GoodIn wsX8_fileFault wsX8_bankOf := goodIn_r _ [11, 12, 13, 56, 57, 58, 59, 60, 61, 62, 63, 64, 65, 66, 67, 68, 69, 70, 71, 72, 73, 74, 75, 76, 77, 78, 79, 80, 81, 82, 83, 84, 85, 86, 87, 88, 89, 90, 91, 92, 93, 94, 95, 96, 97, 98, 99, 100, 101] (by decide +kernel) (by decide +kernel)
set_option maxRecDepth 20000 in
theorem gX8_fileFault_X8_bankOf : GoodIn wsX8_fileFault (wsV RX8 130 RX8 yX8_bankOf wsX8_bankOf) := goodIn_app (goodIn_of _ (by decide +kernel)) ggX8_fileFault_X8_bankOf
set_option maxRecDepth 20000 in
theorem ggX8_fileFault_X8_digits : GoodIn wsX8_fileFault wsX8_digits := goodIn_r _ [16, 17] (by decide +kernel) (by decide +kernel)
set_option maxRecDepth 20000 in
theorem gX8_fileFault_X8_digits : GoodIn wsX8_fileFault (va_wsS RX8 148 yX8_digits wsX8_digits) := goodIn_app (goodIn_of _ (by decide +kernel)) ggX8_fileFault_X8_digits
set_option maxRecDepth 20000 in
theorem ggX8_fileFault_X8_total : GoodIn wsX8_fileFault wsX8_total := goodIn_r _ [21, 6, 22, 23, 24, 25, 56, 57, 58, 59, 60, 61, 62, 63, 64, 65, 66, 67, 68, 69, 70, 71, 72, 73, 74, 75, 76, 77, 78, 79, 80, 81, 82, 83, 84, 85, 86, 87, 88, 89, 90, 91, 92, 93, 94, 95, 96, 97, 98, 99, 100, 101] (by decide +kernel) (by decide +kernel)
set_option maxRecDepth 20000 in
theorem gX8_fileFault_X8_total : GoodIn wsX8_fileFault (wsV RX8 178 RX8 yX8_total wsX8_total) := goodIn_app (goodIn_of _ (by decide +kernel)) ggX8_fileFault_X8_total
set_option maxRecDepth 20000 in
theorem ggX8_fileFault_X8_waitingInAll : GoodIn wsX8_fileFault wsX8_waitingInAll := goodIn_r _ [29, 30, 31, 56, 57, 58, 59, 60, 61, 62, 63, 64, 65, 66, 67, 68, 69, 70, 71, 72, 73, 74, 75, 76, 77, 78, 79, 80, 81, 82, 83, 84, 85, 86, 87, 88, 89, 90, 91, 92, 93, 94, 95, 96, 97, 98, 99, 100, 101] (by decide +kernel) (by decide +kernel)
set_option maxRecDepth 20000 in
theorem gX8_fileFault_X8_waitingInAll : GoodIn wsX8_fileFault (wsV RX8 194 RX8 yX8_waitingInAll wsX8_waitingInAll) := goodIn_app (goodIn_of _ (by decide +kernel)) ggX8_fileFault_X8_waitingInAll
set_option maxRecDepth 20000 in
theorem ggX8_fileFault_X8_goodEntries : GoodIn wsX8_fileFault wsX8_goodEntries := goodIn_r _ [35, 6, 22, 36, 37, 38, 10, 39, 40, 41, 42, 43, 44, 45, 46, 47, 48, 7, 8, 9, 11, 12, 13, 18, 19, 20, 21, 23, 24, 25, 49, 50, 51, 52, 53, 54, 55, 56, 57, 58, 59, 60, 61, 62, 63, 64, 65, 66, 67, 68, 69, 70, 71, 72, 73, 74, 75, 76, 77, 78, 79, 80, 81, 82, 83, 84, 85, 86, 87, 88, 89, 90, 91, 92, 93, 94, 95, 96, 97, 98, 99, 100, 101] (by decide +kernel) (by decide +kernel)
set_option maxRecDepth 20000 in
theorem gX8_fileFault_X8_goodEntries : GoodIn wsX8_fileFault (wsV RX8 198 RX8 yX8_goodEntries wsX8_goodEntries) := goodIn_app (goodIn_of _ (by decide +kernel)) ggX8_fileFault_X8_goodEntries
theorem dX8_fileFault_0 : decode cX8_fileFault 0 = .ok (.aload_n 0, 1) := by decide +kernel
theorem dX8_fileFault_1 : decode cX8_fileFault 1 = .ok (.aload_n 0, 1) := by decide +kernel
theorem dX8_fileFault_2 : decode cX8_fileFault 2 = .ok (.getfield 155, 3) := by decide +kernel
theorem dX8_fileFault_5 : decode cX8_fileFault 5 = .ok (.invokevirtual 130, 3) := by decide +kernel
theorem dX8_fileFault_8 : decode cX8_fileFault 8 = .ok (.istore 5, 2) := by decide +kernel
theorem dX8_fileFault_10 : decode cX8_fileFault 10 = .ok (.iload 5, 2) := by decide +kernel
theorem dX8_fileFault_12 : decode cX8_fileFault 12 = .ok (.ifCond .ge 6, 3) := by decide +kernel
theorem dX8_fileFault_15 : decode cX8_fileFault 15 = .ok (.bipush 10, 2) := by decide +kernel
theorem dX8_fileFault_17 : decode cX8_fileFault 17 = .ok (.ireturn, 1) := by decide +kernel
theorem dX8_fileFault_18 : decode cX8_fileFault 18 = .ok (.iconst 0, 1) := by decide +kernel
theorem dX8_fileFault_19 : decode cX8_fileFault 19 = .ok (.istore 6, 2) := by decide +kernel
theorem dX8_fileFault_21 : decode cX8_fileFault 21 = .ok (.iload 6, 2) := by decide +kernel
theorem dX8_fileFault_23 : decode cX8_fileFault 23 = .ok (.aload_n 0, 1) := by decide +kernel
theorem dX8_fileFault_24 : decode cX8_fileFault 24 = .ok (.getfield 191, 3) := by decide +kernel
theorem dX8_fileFault_27 : decode cX8_fileFault 27 = .ok (.if_icmp .ge 33, 3) := by decide +kernel
theorem dX8_fileFault_30 : decode cX8_fileFault 30 = .ok (.aload_n 0, 1) := by decide +kernel
theorem dX8_fileFault_31 : decode cX8_fileFault 31 = .ok (.getfield 69, 3) := by decide +kernel
theorem dX8_fileFault_34 : decode cX8_fileFault 34 = .ok (.iload 6, 2) := by decide +kernel
theorem dX8_fileFault_36 : decode cX8_fileFault 36 = .ok (.iaload, 1) := by decide +kernel
theorem dX8_fileFault_37 : decode cX8_fileFault 37 = .ok (.sipush 10000, 3) := by decide +kernel
theorem dX8_fileFault_40 : decode cX8_fileFault 40 = .ok (.iload 5, 2) := by decide +kernel
theorem dX8_fileFault_42 : decode cX8_fileFault 42 = .ok (.imul, 1) := by decide +kernel
theorem dX8_fileFault_43 : decode cX8_fileFault 43 = .ok (.aload_n 0, 1) := by decide +kernel
theorem dX8_fileFault_44 : decode cX8_fileFault 44 = .ok (.getfield 158, 3) := by decide +kernel
theorem dX8_fileFault_47 : decode cX8_fileFault 47 = .ok (.iadd, 1) := by decide +kernel
theorem dX8_fileFault_48 : decode cX8_fileFault 48 = .ok (.if_icmp .ne 6, 3) := by decide +kernel
theorem dX8_fileFault_51 : decode cX8_fileFault 51 = .ok (.bipush 11, 2) := by decide +kernel
theorem dX8_fileFault_53 : decode cX8_fileFault 53 = .ok (.ireturn, 1) := by decide +kernel
theorem dX8_fileFault_54 : decode cX8_fileFault 54 = .ok (.iinc 6 1, 3) := by decide +kernel
theorem dX8_fileFault_57 : decode cX8_fileFault 57 = .ok (.goto (-36), 3) := by decide +kernel
theorem dX8_fileFault_60 : decode cX8_fileFault 60 = .ok (.lload_n 1, 1) := by decide +kernel
theorem dX8_fileFault_61 : decode cX8_fileFault 61 = .ok (.iconst 1, 1) := by decide +kernel
theorem dX8_fileFault_62 : decode cX8_fileFault 62 = .ok (.iconst 4, 1) := by decide +kernel
theorem dX8_fileFault_63 : decode cX8_fileFault 63 = .ok (.invokestatic 148, 3) := by decide +kernel
theorem dX8_fileFault_66 : decode cX8_fileFault 66 = .ok (.aload_n 0, 1) := by decide +kernel
theorem dX8_fileFault_67 : decode cX8_fileFault 67 = .ok (.getfield 161, 3) := by decide +kernel
theorem dX8_fileFault_70 : decode cX8_fileFault 70 = .ok (.if_icmp .ne 39, 3) := by decide +kernel
theorem dX8_fileFault_73 : decode cX8_fileFault 73 = .ok (.lload_n 1, 1) := by decide +kernel
theorem dX8_fileFault_74 : decode cX8_fileFault 74 = .ok (.iconst 5, 1) := by decide +kernel
theorem dX8_fileFault_75 : decode cX8_fileFault 75 = .ok (.iconst 4, 1) := by decide +kernel
theorem dX8_fileFault_76 : decode cX8_fileFault 76 = .ok (.invokestatic 148, 3) := by decide +kernel
theorem dX8_fileFault_79 : decode cX8_fileFault 79 = .ok (.aload_n 0, 1) := by decide +kernel
theorem dX8_fileFault_80 : decode cX8_fileFault 80 = .ok (.getfield 164, 3) := by decide +kernel
theorem dX8_fileFault_83 : decode cX8_fileFault 83 = .ok (.if_icmp .ne 26, 3) := by decide +kernel
theorem dX8_fileFault_86 : decode cX8_fileFault 86 = .ok (.lload_n 1, 1) := by decide +kernel
theorem dX8_fileFault_87 : decode cX8_fileFault 87 = .ok (.bipush 9, 2) := by decide +kernel
theorem dX8_fileFault_89 : decode cX8_fileFault 89 = .ok (.bipush 6, 2) := by decide +kernel
theorem dX8_fileFault_91 : decode cX8_fileFault 91 = .ok (.invokestatic 148, 3) := by decide +kernel
theorem dX8_fileFault_94 : decode cX8_fileFault 94 = .ok (.i2l, 1) := by decide +kernel
theorem dX8_fileFault_95 : decode cX8_fileFault 95 = .ok (.aload_n 0, 1) := by decide +kernel
theorem dX8_fileFault_96 : decode cX8_fileFault 96 = .ok (.iconst (-1), 1) := by decide +kernel
theorem dX8_fileFault_97 : decode cX8_fileFault 97 = .ok (.iconst 1, 1) := by decide +kernel
theorem dX8_fileFault_98 : decode cX8_fileFault 98 = .ok (.invokevirtual 178, 3) := by decide +kernel
theorem dX8_fileFault_101 : decode cX8_fileFault 101 = .ok (.lcmp, 1) := by decide +kernel
theorem dX8_fileFault_102 : decode cX8_fileFault 102 = .ok (.ifCond .ne 7, 3) := by decide +kernel
theorem dX8_fileFault_105 : decode cX8_fileFault 105 = .ok (.iconst 1, 1) := by decide +kernel
theorem dX8_fileFault_106 : decode cX8_fileFault 106 = .ok (.goto 4, 3) := by decide +kernel
theorem dX8_fileFault_109 : decode cX8_fileFault 109 = .ok (.iconst 0, 1) := by decide +kernel
theorem dX8_fileFault_110 : decode cX8_fileFault 110 = .ok (.istore 6, 2) := by decide +kernel
theorem dX8_fileFault_112 : decode cX8_fileFault 112 = .ok (.iload 6, 2) := by decide +kernel
theorem dX8_fileFault_114 : decode cX8_fileFault 114 = .ok (.ifCond .eq 40, 3) := by decide +kernel
theorem dX8_fileFault_117 : decode cX8_fileFault 117 = .ok (.lload_n 3, 1) := by decide +kernel
theorem dX8_fileFault_118 : decode cX8_fileFault 118 = .ok (.iconst 0, 1) := by decide +kernel
theorem dX8_fileFault_119 : decode cX8_fileFault 119 = .ok (.bipush 9, 2) := by decide +kernel
theorem dX8_fileFault_121 : decode cX8_fileFault 121 = .ok (.invokestatic 148, 3) := by decide +kernel
theorem dX8_fileFault_124 : decode cX8_fileFault 124 = .ok (.i2l, 1) := by decide +kernel
theorem dX8_fileFault_125 : decode cX8_fileFault 125 = .ok (.aload_n 0, 1) := by decide +kernel
theorem dX8_fileFault_126 : decode cX8_fileFault 126 = .ok (.iconst (-1), 1) := by decide +kernel
theorem dX8_fileFault_127 : decode cX8_fileFault 127 = .ok (.iconst 2, 1) := by decide +kernel
theorem dX8_fileFault_128 : decode cX8_fileFault 128 = .ok (.invokevirtual 178, 3) := by decide +kernel
theorem dX8_fileFault_131 : decode cX8_fileFault 131 = .ok (.lcmp, 1) := by decide +kernel
theorem dX8_fileFault_132 : decode cX8_fileFault 132 = .ok (.ifCond .ne 22, 3) := by decide +kernel
theorem dX8_fileFault_135 : decode cX8_fileFault 135 = .ok (.lload_n 3, 1) := by decide +kernel
theorem dX8_fileFault_136 : decode cX8_fileFault 136 = .ok (.bipush 9, 2) := by decide +kernel
theorem dX8_fileFault_138 : decode cX8_fileFault 138 = .ok (.bipush 9, 2) := by decide +kernel
theorem dX8_fileFault_140 : decode cX8_fileFault 140 = .ok (.invokestatic 148, 3) := by decide +kernel
theorem dX8_fileFault_143 : decode cX8_fileFault 143 = .ok (.i2l, 1) := by decide +kernel
theorem dX8_fileFault_144 : decode cX8_fileFault 144 = .ok (.aload_n 0, 1) := by decide +kernel
theorem dX8_fileFault_145 : decode cX8_fileFault 145 = .ok (.iconst (-1), 1) := by decide +kernel
theorem dX8_fileFault_146 : decode cX8_fileFault 146 = .ok (.iconst 3, 1) := by decide +kernel
theorem dX8_fileFault_147 : decode cX8_fileFault 147 = .ok (.invokevirtual 178, 3) := by decide +kernel
theorem dX8_fileFault_150 : decode cX8_fileFault 150 = .ok (.lcmp, 1) := by decide +kernel
theorem dX8_fileFault_151 : decode cX8_fileFault 151 = .ok (.ifCond .eq 6, 3) := by decide +kernel
theorem dX8_fileFault_154 : decode cX8_fileFault 154 = .ok (.bipush 12, 2) := by decide +kernel
theorem dX8_fileFault_156 : decode cX8_fileFault 156 = .ok (.ireturn, 1) := by decide +kernel
theorem dX8_fileFault_157 : decode cX8_fileFault 157 = .ok (.aload_n 0, 1) := by decide +kernel
theorem dX8_fileFault_158 : decode cX8_fileFault 158 = .ok (.invokevirtual 194, 3) := by decide +kernel
theorem dX8_fileFault_161 : decode cX8_fileFault 161 = .ok (.aload_n 0, 1) := by decide +kernel
theorem dX8_fileFault_162 : decode cX8_fileFault 162 = .ok (.invokevirtual 198, 3) := by decide +kernel
theorem dX8_fileFault_165 : decode cX8_fileFault 165 = .ok (.iadd, 1) := by decide +kernel
theorem dX8_fileFault_166 : decode cX8_fileFault 166 = .ok (.bipush 40, 2) := by decide +kernel
theorem dX8_fileFault_168 : decode cX8_fileFault 168 = .ok (.if_icmp .le 8, 3) := by decide +kernel
theorem dX8_fileFault_171 : decode cX8_fileFault 171 = .ok (.bipush 13, 2) := by decide +kernel
theorem dX8_fileFault_173 : decode cX8_fileFault 173 = .ok (.goto 4, 3) := by decide +kernel
theorem dX8_fileFault_176 : decode cX8_fileFault 176 = .ok (.iconst 0, 1) := by decide +kernel
theorem dX8_fileFault_177 : decode cX8_fileFault 177 = .ok (.ireturn, 1) := by decide +kernel
set_option maxRecDepth 20000 in
theorem ggX8_ended_X8_fileFault : GoodIn wsX8_ended wsX8_fileFault := goodIn_r _ [13, 4, 3, 2, 5, 6, 7, 14, 15, 16, 12, 17, 18, 19, 20, 21, 22, 23, 24, 25, 26, 27, 8, 28, 29, 30, 31, 32, 33, 34, 35, 36, 37, 38, 39, 40, 41, 42, 43, 44, 45, 46, 47, 48, 49, 50, 51, 52, 53, 54, 55, 56, 57, 58, 59, 60, 73, 74, 75, 76, 77, 78, 79, 80, 81, 82, 83, 84, 85, 86, 87, 88, 89, 90, 91, 92, 93, 94, 95, 96, 97, 98, 99, 100, 101, 102, 103, 104, 105, 106, 107, 108, 109, 110, 111, 112, 113, 114, 115, 116, 117, 118] (by decide +kernel) (by decide +kernel)
set_option maxRecDepth 20000 in
theorem gX8_ended_X8_fileFault : GoodIn wsX8_ended (wsV RX8 201 RX8 yX8_fileFault wsX8_fileFault) := goodIn_app (goodIn_of _ (by decide +kernel)) ggX8_ended_X8_fileFault
set_option maxRecDepth 20000 in
theorem ggX8_ended_X8_bankOf : GoodIn wsX8_ended wsX8_bankOf := goodIn_r _ [17, 18, 19, 73, 74, 75, 76, 77, 78, 79, 80, 81, 82, 83, 84, 85, 86, 87, 88, 89, 90, 91, 92, 93, 94, 95, 96, 97, 98, 99, 100, 101, 102, 103, 104, 105, 106, 107, 108, 109, 110, 111, 112, 113, 114, 115, 116, 117, 118] (by decide +kernel) (by decide +kernel)
set_option maxRecDepth 20000 in
theorem gX8_ended_X8_bankOf : GoodIn wsX8_ended (wsV RX8 130 RX8 yX8_bankOf wsX8_bankOf) := goodIn_app (goodIn_of _ (by decide +kernel)) ggX8_ended_X8_bankOf
set_option maxRecDepth 20000 in
theorem ggX8_ended_X8_batchFault : GoodIn wsX8_ended wsX8_batchFault := goodIn_r _ [44, 45, 46, 47, 48, 49, 50, 51, 52, 7, 8, 53, 14, 15, 16, 12, 17, 18, 19, 24, 25, 26, 27, 28, 29, 30, 73, 74, 75, 76, 77, 78, 79, 80, 81, 82, 83, 84, 85, 86, 87, 88, 89, 90, 91, 92, 93, 94, 95, 96, 97, 98, 99, 100, 101, 102, 103, 104, 105, 106, 107, 108, 109, 110, 111, 112, 113, 114, 115, 116, 117, 118] (by decide +kernel) (by decide +kernel)
set_option maxRecDepth 20000 in
theorem gX8_ended_X8_batchFault : GoodIn wsX8_ended (wsV RX8 185 RX8 yX8_batchFault wsX8_batchFault) := goodIn_app (goodIn_of _ (by decide +kernel)) ggX8_ended_X8_batchFault
set_option maxRecDepth 20000 in
theorem ggX8_ended_X8_entryFault : GoodIn wsX8_ended wsX8_entryFault := goodIn_r _ [57, 28, 29, 30, 58, 59, 12, 60, 14, 15, 16, 17, 18, 19, 73, 74, 75, 76, 77, 78, 79, 80, 81, 82, 83, 84, 85, 86, 87, 88, 89, 90, 91, 92, 93, 94, 95, 96, 97, 98, 99, 100, 101, 102, 103, 104, 105, 106, 107, 108, 109, 110, 111, 112, 113, 114, 115, 116, 117, 118] (by decide +kernel) (by decide +kernel)
set_option maxRecDepth 20000 in
theorem gX8_ended_X8_entryFault : GoodIn wsX8_ended (wsV RX8 188 RX8 yX8_entryFault wsX8_entryFault) := goodIn_app (goodIn_of _ (by decide +kernel)) ggX8_ended_X8_entryFault
set_option maxRecDepth 20000 in
theorem ggX8_ended_X8_accept : GoodIn wsX8_ended wsX8_accept := goodIn_r _ [64, 8, 65, 35, 29, 66, 45, 67, 28, 68, 69, 70, 30, 71, 53, 72, 47, 36, 14, 15, 16, 12, 17, 18, 19, 73, 74, 75, 76, 77, 78, 79, 80, 81, 82, 83, 84, 85, 86, 87, 88, 89, 90, 91, 92, 93, 94, 95, 96, 97, 98, 99, 100, 101, 102, 103, 104, 105, 106, 107, 108, 109, 110, 111, 112, 113, 114, 115, 116, 117, 118] (by decide +kernel) (by decide +kernel)
set_option maxRecDepth 20000 in
theorem gX8_ended_X8_accept : GoodIn wsX8_ended (wsV RX8 204 RX8 yX8_accept wsX8_accept) := goodIn_app (goodIn_of _ (by decide +kernel)) ggX8_ended_X8_accept
theorem dX8_ended_0 : decode cX8_ended 0 = .ok (.aload_n 0, 1) := by decide +kernel
theorem dX8_ended_1 : decode cX8_ended 1 = .ok (.lload_n 1, 1) := by decide +kernel
theorem dX8_ended_2 : decode cX8_ended 2 = .ok (.lload_n 3, 1) := by decide +kernel
theorem dX8_ended_3 : decode cX8_ended 3 = .ok (.invokevirtual 201, 3) := by decide +kernel
theorem dX8_ended_6 : decode cX8_ended 6 = .ok (.istore 5, 2) := by decide +kernel
theorem dX8_ended_8 : decode cX8_ended 8 = .ok (.iload 5, 2) := by decide +kernel
theorem dX8_ended_10 : decode cX8_ended 10 = .ok (.ifCond .le 18, 3) := by decide +kernel
theorem dX8_ended_13 : decode cX8_ended 13 = .ok (.aload_n 0, 1) := by decide +kernel
theorem dX8_ended_14 : decode cX8_ended 14 = .ok (.getfield 114, 3) := by decide +kernel
theorem dX8_ended_17 : decode cX8_ended 17 = .ok (.iload 5, 2) := by decide +kernel
theorem dX8_ended_19 : decode cX8_ended 19 = .ok (.dup2, 1) := by decide +kernel
theorem dX8_ended_20 : decode cX8_ended 20 = .ok (.iaload, 1) := by decide +kernel
theorem dX8_ended_21 : decode cX8_ended 21 = .ok (.iconst 1, 1) := by decide +kernel
theorem dX8_ended_22 : decode cX8_ended 22 = .ok (.iadd, 1) := by decide +kernel
theorem dX8_ended_23 : decode cX8_ended 23 = .ok (.iastore, 1) := by decide +kernel
theorem dX8_ended_24 : decode cX8_ended 24 = .ok (.iload 5, 2) := by decide +kernel
theorem dX8_ended_26 : decode cX8_ended 26 = .ok (.ineg, 1) := by decide +kernel
theorem dX8_ended_27 : decode cX8_ended 27 = .ok (.ireturn, 1) := by decide +kernel
theorem dX8_ended_28 : decode cX8_ended 28 = .ok (.aload_n 0, 1) := by decide +kernel
theorem dX8_ended_29 : decode cX8_ended 29 = .ok (.getfield 69, 3) := by decide +kernel
theorem dX8_ended_32 : decode cX8_ended 32 = .ok (.aload_n 0, 1) := by decide +kernel
theorem dX8_ended_33 : decode cX8_ended 33 = .ok (.getfield 191, 3) := by decide +kernel
theorem dX8_ended_36 : decode cX8_ended 36 = .ok (.sipush 10000, 3) := by decide +kernel
theorem dX8_ended_39 : decode cX8_ended 39 = .ok (.aload_n 0, 1) := by decide +kernel
theorem dX8_ended_40 : decode cX8_ended 40 = .ok (.aload_n 0, 1) := by decide +kernel
theorem dX8_ended_41 : decode cX8_ended 41 = .ok (.getfield 155, 3) := by decide +kernel
theorem dX8_ended_44 : decode cX8_ended 44 = .ok (.invokevirtual 130, 3) := by decide +kernel
theorem dX8_ended_47 : decode cX8_ended 47 = .ok (.imul, 1) := by decide +kernel
theorem dX8_ended_48 : decode cX8_ended 48 = .ok (.aload_n 0, 1) := by decide +kernel
theorem dX8_ended_49 : decode cX8_ended 49 = .ok (.getfield 158, 3) := by decide +kernel
theorem dX8_ended_52 : decode cX8_ended 52 = .ok (.iadd, 1) := by decide +kernel
theorem dX8_ended_53 : decode cX8_ended 53 = .ok (.iastore, 1) := by decide +kernel
theorem dX8_ended_54 : decode cX8_ended 54 = .ok (.aload_n 0, 1) := by decide +kernel
theorem dX8_ended_55 : decode cX8_ended 55 = .ok (.dup, 1) := by decide +kernel
theorem dX8_ended_56 : decode cX8_ended 56 = .ok (.getfield 191, 3) := by decide +kernel
theorem dX8_ended_59 : decode cX8_ended 59 = .ok (.iconst 1, 1) := by decide +kernel
theorem dX8_ended_60 : decode cX8_ended 60 = .ok (.iadd, 1) := by decide +kernel
theorem dX8_ended_61 : decode cX8_ended 61 = .ok (.putfield 191, 3) := by decide +kernel
theorem dX8_ended_64 : decode cX8_ended 64 = .ok (.iconst 0, 1) := by decide +kernel
theorem dX8_ended_65 : decode cX8_ended 65 = .ok (.istore 6, 2) := by decide +kernel
theorem dX8_ended_67 : decode cX8_ended 67 = .ok (.iload 6, 2) := by decide +kernel
theorem dX8_ended_69 : decode cX8_ended 69 = .ok (.aload_n 0, 1) := by decide +kernel
theorem dX8_ended_70 : decode cX8_ended 70 = .ok (.getfield 161, 3) := by decide +kernel
theorem dX8_ended_73 : decode cX8_ended 73 = .ok (.if_icmp .ge 24, 3) := by decide +kernel
theorem dX8_ended_76 : decode cX8_ended 76 = .ok (.aload_n 0, 1) := by decide +kernel
theorem dX8_ended_77 : decode cX8_ended 77 = .ok (.getfield 114, 3) := by decide +kernel
theorem dX8_ended_80 : decode cX8_ended 80 = .ok (.aload_n 0, 1) := by decide +kernel
theorem dX8_ended_81 : decode cX8_ended 81 = .ok (.iload 6, 2) := by decide +kernel
theorem dX8_ended_83 : decode cX8_ended 83 = .ok (.invokevirtual 185, 3) := by decide +kernel
theorem dX8_ended_86 : decode cX8_ended 86 = .ok (.dup2, 1) := by decide +kernel
theorem dX8_ended_87 : decode cX8_ended 87 = .ok (.iaload, 1) := by decide +kernel
theorem dX8_ended_88 : decode cX8_ended 88 = .ok (.iconst 1, 1) := by decide +kernel
theorem dX8_ended_89 : decode cX8_ended 89 = .ok (.iadd, 1) := by decide +kernel
theorem dX8_ended_90 : decode cX8_ended 90 = .ok (.iastore, 1) := by decide +kernel
theorem dX8_ended_91 : decode cX8_ended 91 = .ok (.iinc 6 1, 3) := by decide +kernel
theorem dX8_ended_94 : decode cX8_ended 94 = .ok (.goto (-27), 3) := by decide +kernel
theorem dX8_ended_97 : decode cX8_ended 97 = .ok (.iconst 0, 1) := by decide +kernel
theorem dX8_ended_98 : decode cX8_ended 98 = .ok (.istore 6, 2) := by decide +kernel
theorem dX8_ended_100 : decode cX8_ended 100 = .ok (.iconst 0, 1) := by decide +kernel
theorem dX8_ended_101 : decode cX8_ended 101 = .ok (.istore 7, 2) := by decide +kernel
theorem dX8_ended_103 : decode cX8_ended 103 = .ok (.iload 7, 2) := by decide +kernel
theorem dX8_ended_105 : decode cX8_ended 105 = .ok (.aload_n 0, 1) := by decide +kernel
theorem dX8_ended_106 : decode cX8_ended 106 = .ok (.getfield 164, 3) := by decide +kernel
theorem dX8_ended_109 : decode cX8_ended 109 = .ok (.if_icmp .ge 56, 3) := by decide +kernel
theorem dX8_ended_112 : decode cX8_ended 112 = .ok (.aload_n 0, 1) := by decide +kernel
theorem dX8_ended_113 : decode cX8_ended 113 = .ok (.aload_n 0, 1) := by decide +kernel
theorem dX8_ended_114 : decode cX8_ended 114 = .ok (.getfield 51, 3) := by decide +kernel
theorem dX8_ended_117 : decode cX8_ended 117 = .ok (.iload 7, 2) := by decide +kernel
theorem dX8_ended_119 : decode cX8_ended 119 = .ok (.iaload, 1) := by decide +kernel
theorem dX8_ended_120 : decode cX8_ended 120 = .ok (.invokevirtual 185, 3) := by decide +kernel
theorem dX8_ended_123 : decode cX8_ended 123 = .ok (.ifCond .ne 36, 3) := by decide +kernel
theorem dX8_ended_126 : decode cX8_ended 126 = .ok (.aload_n 0, 1) := by decide +kernel
theorem dX8_ended_127 : decode cX8_ended 127 = .ok (.iload 7, 2) := by decide +kernel
theorem dX8_ended_129 : decode cX8_ended 129 = .ok (.invokevirtual 188, 3) := by decide +kernel
theorem dX8_ended_132 : decode cX8_ended 132 = .ok (.istore 8, 2) := by decide +kernel
theorem dX8_ended_134 : decode cX8_ended 134 = .ok (.aload_n 0, 1) := by decide +kernel
theorem dX8_ended_135 : decode cX8_ended 135 = .ok (.getfield 114, 3) := by decide +kernel
theorem dX8_ended_138 : decode cX8_ended 138 = .ok (.iload 8, 2) := by decide +kernel
theorem dX8_ended_140 : decode cX8_ended 140 = .ok (.dup2, 1) := by decide +kernel
theorem dX8_ended_141 : decode cX8_ended 141 = .ok (.iaload, 1) := by decide +kernel
theorem dX8_ended_142 : decode cX8_ended 142 = .ok (.iconst 1, 1) := by decide +kernel
theorem dX8_ended_143 : decode cX8_ended 143 = .ok (.iadd, 1) := by decide +kernel
theorem dX8_ended_144 : decode cX8_ended 144 = .ok (.iastore, 1) := by decide +kernel
theorem dX8_ended_145 : decode cX8_ended 145 = .ok (.iload 8, 2) := by decide +kernel
theorem dX8_ended_147 : decode cX8_ended 147 = .ok (.ifCond .ne 12, 3) := by decide +kernel
theorem dX8_ended_150 : decode cX8_ended 150 = .ok (.aload_n 0, 1) := by decide +kernel
theorem dX8_ended_151 : decode cX8_ended 151 = .ok (.iload 7, 2) := by decide +kernel
theorem dX8_ended_153 : decode cX8_ended 153 = .ok (.invokevirtual 204, 3) := by decide +kernel
theorem dX8_ended_156 : decode cX8_ended 156 = .ok (.iinc 6 1, 3) := by decide +kernel
theorem dX8_ended_159 : decode cX8_ended 159 = .ok (.iinc 7 1, 3) := by decide +kernel
theorem dX8_ended_162 : decode cX8_ended 162 = .ok (.goto (-59), 3) := by decide +kernel
theorem dX8_ended_165 : decode cX8_ended 165 = .ok (.iload 6, 2) := by decide +kernel
theorem dX8_ended_167 : decode cX8_ended 167 = .ok (.ireturn, 1) := by decide +kernel
set_option maxRecDepth 20000 in
theorem ggX8_accept_X8_bankOf : GoodIn wsX8_accept wsX8_bankOf := goodIn_r _ [22, 23, 24, 25, 26, 27, 28, 29, 30, 31, 32, 33, 34, 35, 36, 37, 38, 39, 40, 41, 42, 43, 44, 45, 46, 47, 48, 49, 50, 51, 52, 53, 54, 55, 56, 57, 58, 59, 60, 61, 62, 63, 64, 65, 66, 67, 68, 69, 70] (by decide +kernel) (by decide +kernel)
set_option maxRecDepth 20000 in
theorem gX8_accept_X8_bankOf : GoodIn wsX8_accept (wsV RX8 130 RX8 yX8_bankOf wsX8_bankOf) := goodIn_app (goodIn_of _ (by decide +kernel)) ggX8_accept_X8_bankOf
theorem dX8_accept_0 : decode cX8_accept 0 = .ok (.aload_n 0, 1) := by decide +kernel
theorem dX8_accept_1 : decode cX8_accept 1 = .ok (.getfield 51, 3) := by decide +kernel
theorem dX8_accept_4 : decode cX8_accept 4 = .ok (.iload_n 1, 1) := by decide +kernel
theorem dX8_accept_5 : decode cX8_accept 5 = .ok (.iaload, 1) := by decide +kernel
theorem dX8_accept_6 : decode cX8_accept 6 = .ok (.istore_n 2, 1) := by decide +kernel
theorem dX8_accept_7 : decode cX8_accept 7 = .ok (.aload_n 0, 1) := by decide +kernel
theorem dX8_accept_8 : decode cX8_accept 8 = .ok (.getfield 72, 3) := by decide +kernel
theorem dX8_accept_11 : decode cX8_accept 11 = .ok (.aload_n 0, 1) := by decide +kernel
theorem dX8_accept_12 : decode cX8_accept 12 = .ok (.getfield 182, 3) := by decide +kernel
theorem dX8_accept_15 : decode cX8_accept 15 = .ok (.aload_n 0, 1) := by decide +kernel
theorem dX8_accept_16 : decode cX8_accept 16 = .ok (.getfield 54, 3) := by decide +kernel
theorem dX8_accept_19 : decode cX8_accept 19 = .ok (.iload_n 1, 1) := by decide +kernel
theorem dX8_accept_20 : decode cX8_accept 20 = .ok (.iaload, 1) := by decide +kernel
theorem dX8_accept_21 : decode cX8_accept 21 = .ok (.iastore, 1) := by decide +kernel
theorem dX8_accept_22 : decode cX8_accept 22 = .ok (.aload_n 0, 1) := by decide +kernel
theorem dX8_accept_23 : decode cX8_accept 23 = .ok (.getfield 75, 3) := by decide +kernel
theorem dX8_accept_26 : decode cX8_accept 26 = .ok (.aload_n 0, 1) := by decide +kernel
theorem dX8_accept_27 : decode cX8_accept 27 = .ok (.getfield 182, 3) := by decide +kernel
theorem dX8_accept_30 : decode cX8_accept 30 = .ok (.aload_n 0, 1) := by decide +kernel
theorem dX8_accept_31 : decode cX8_accept 31 = .ok (.aload_n 0, 1) := by decide +kernel
theorem dX8_accept_32 : decode cX8_accept 32 = .ok (.getfield 30, 3) := by decide +kernel
theorem dX8_accept_35 : decode cX8_accept 35 = .ok (.iload_n 2, 1) := by decide +kernel
theorem dX8_accept_36 : decode cX8_accept 36 = .ok (.iaload, 1) := by decide +kernel
theorem dX8_accept_37 : decode cX8_accept 37 = .ok (.invokevirtual 130, 3) := by decide +kernel
theorem dX8_accept_40 : decode cX8_accept 40 = .ok (.iastore, 1) := by decide +kernel
theorem dX8_accept_41 : decode cX8_accept 41 = .ok (.aload_n 0, 1) := by decide +kernel
theorem dX8_accept_42 : decode cX8_accept 42 = .ok (.getfield 78, 3) := by decide +kernel
theorem dX8_accept_45 : decode cX8_accept 45 = .ok (.aload_n 0, 1) := by decide +kernel
theorem dX8_accept_46 : decode cX8_accept 46 = .ok (.getfield 182, 3) := by decide +kernel
theorem dX8_accept_49 : decode cX8_accept 49 = .ok (.aload_n 0, 1) := by decide +kernel
theorem dX8_accept_50 : decode cX8_accept 50 = .ok (.aload_n 0, 1) := by decide +kernel
theorem dX8_accept_51 : decode cX8_accept 51 = .ok (.getfield 57, 3) := by decide +kernel
theorem dX8_accept_54 : decode cX8_accept 54 = .ok (.iload_n 1, 1) := by decide +kernel
theorem dX8_accept_55 : decode cX8_accept 55 = .ok (.iaload, 1) := by decide +kernel
theorem dX8_accept_56 : decode cX8_accept 56 = .ok (.invokevirtual 130, 3) := by decide +kernel
theorem dX8_accept_59 : decode cX8_accept 59 = .ok (.iastore, 1) := by decide +kernel
theorem dX8_accept_60 : decode cX8_accept 60 = .ok (.aload_n 0, 1) := by decide +kernel
theorem dX8_accept_61 : decode cX8_accept 61 = .ok (.getfield 81, 3) := by decide +kernel
theorem dX8_accept_64 : decode cX8_accept 64 = .ok (.aload_n 0, 1) := by decide +kernel
theorem dX8_accept_65 : decode cX8_accept 65 = .ok (.getfield 182, 3) := by decide +kernel
theorem dX8_accept_68 : decode cX8_accept 68 = .ok (.aload_n 0, 1) := by decide +kernel
theorem dX8_accept_69 : decode cX8_accept 69 = .ok (.getfield 60, 3) := by decide +kernel
theorem dX8_accept_72 : decode cX8_accept 72 = .ok (.iload_n 1, 1) := by decide +kernel
theorem dX8_accept_73 : decode cX8_accept 73 = .ok (.iaload, 1) := by decide +kernel
theorem dX8_accept_74 : decode cX8_accept 74 = .ok (.iastore, 1) := by decide +kernel
theorem dX8_accept_75 : decode cX8_accept 75 = .ok (.aload_n 0, 1) := by decide +kernel
theorem dX8_accept_76 : decode cX8_accept 76 = .ok (.getfield 84, 3) := by decide +kernel
theorem dX8_accept_79 : decode cX8_accept 79 = .ok (.aload_n 0, 1) := by decide +kernel
theorem dX8_accept_80 : decode cX8_accept 80 = .ok (.getfield 182, 3) := by decide +kernel
theorem dX8_accept_83 : decode cX8_accept 83 = .ok (.aload_n 0, 1) := by decide +kernel
theorem dX8_accept_84 : decode cX8_accept 84 = .ok (.getfield 63, 3) := by decide +kernel
theorem dX8_accept_87 : decode cX8_accept 87 = .ok (.iload_n 1, 1) := by decide +kernel
theorem dX8_accept_88 : decode cX8_accept 88 = .ok (.iaload, 1) := by decide +kernel
theorem dX8_accept_89 : decode cX8_accept 89 = .ok (.iastore, 1) := by decide +kernel
theorem dX8_accept_90 : decode cX8_accept 90 = .ok (.aload_n 0, 1) := by decide +kernel
theorem dX8_accept_91 : decode cX8_accept 91 = .ok (.getfield 87, 3) := by decide +kernel
theorem dX8_accept_94 : decode cX8_accept 94 = .ok (.aload_n 0, 1) := by decide +kernel
theorem dX8_accept_95 : decode cX8_accept 95 = .ok (.getfield 182, 3) := by decide +kernel
theorem dX8_accept_98 : decode cX8_accept 98 = .ok (.aload_n 0, 1) := by decide +kernel
theorem dX8_accept_99 : decode cX8_accept 99 = .ok (.getfield 66, 3) := by decide +kernel
theorem dX8_accept_102 : decode cX8_accept 102 = .ok (.iload_n 1, 1) := by decide +kernel
theorem dX8_accept_103 : decode cX8_accept 103 = .ok (.iaload, 1) := by decide +kernel
theorem dX8_accept_104 : decode cX8_accept 104 = .ok (.iastore, 1) := by decide +kernel
theorem dX8_accept_105 : decode cX8_accept 105 = .ok (.aload_n 0, 1) := by decide +kernel
theorem dX8_accept_106 : decode cX8_accept 106 = .ok (.getfield 90, 3) := by decide +kernel
theorem dX8_accept_109 : decode cX8_accept 109 = .ok (.aload_n 0, 1) := by decide +kernel
theorem dX8_accept_110 : decode cX8_accept 110 = .ok (.getfield 182, 3) := by decide +kernel
theorem dX8_accept_113 : decode cX8_accept 113 = .ok (.aload_n 0, 1) := by decide +kernel
theorem dX8_accept_114 : decode cX8_accept 114 = .ok (.getfield 36, 3) := by decide +kernel
theorem dX8_accept_117 : decode cX8_accept 117 = .ok (.iload_n 2, 1) := by decide +kernel
theorem dX8_accept_118 : decode cX8_accept 118 = .ok (.iaload, 1) := by decide +kernel
theorem dX8_accept_119 : decode cX8_accept 119 = .ok (.iastore, 1) := by decide +kernel
theorem dX8_accept_120 : decode cX8_accept 120 = .ok (.aload_n 0, 1) := by decide +kernel
theorem dX8_accept_121 : decode cX8_accept 121 = .ok (.getfield 93, 3) := by decide +kernel
theorem dX8_accept_124 : decode cX8_accept 124 = .ok (.aload_n 0, 1) := by decide +kernel
theorem dX8_accept_125 : decode cX8_accept 125 = .ok (.getfield 182, 3) := by decide +kernel
theorem dX8_accept_128 : decode cX8_accept 128 = .ok (.iconst 0, 1) := by decide +kernel
theorem dX8_accept_129 : decode cX8_accept 129 = .ok (.iastore, 1) := by decide +kernel
theorem dX8_accept_130 : decode cX8_accept 130 = .ok (.aload_n 0, 1) := by decide +kernel
theorem dX8_accept_131 : decode cX8_accept 131 = .ok (.dup, 1) := by decide +kernel
theorem dX8_accept_132 : decode cX8_accept 132 = .ok (.getfield 182, 3) := by decide +kernel
theorem dX8_accept_135 : decode cX8_accept 135 = .ok (.iconst 1, 1) := by decide +kernel
theorem dX8_accept_136 : decode cX8_accept 136 = .ok (.iadd, 1) := by decide +kernel
theorem dX8_accept_137 : decode cX8_accept 137 = .ok (.putfield 182, 3) := by decide +kernel
theorem dX8_accept_140 : decode cX8_accept 140 = .ok (.return_, 1) := by decide +kernel
theorem dX8_allDone_0 : decode cX8_allDone 0 = .ok (.iconst 1, 1) := by decide +kernel
theorem dX8_allDone_1 : decode cX8_allDone 1 = .ok (.istore_n 2, 1) := by decide +kernel
theorem dX8_allDone_2 : decode cX8_allDone 2 = .ok (.iconst 0, 1) := by decide +kernel
theorem dX8_allDone_3 : decode cX8_allDone 3 = .ok (.istore_n 3, 1) := by decide +kernel
theorem dX8_allDone_4 : decode cX8_allDone 4 = .ok (.iload_n 3, 1) := by decide +kernel
theorem dX8_allDone_5 : decode cX8_allDone 5 = .ok (.aload_n 0, 1) := by decide +kernel
theorem dX8_allDone_6 : decode cX8_allDone 6 = .ok (.getfield 102, 3) := by decide +kernel
theorem dX8_allDone_9 : decode cX8_allDone 9 = .ok (.iload_n 1, 1) := by decide +kernel
theorem dX8_allDone_10 : decode cX8_allDone 10 = .ok (.iaload, 1) := by decide +kernel
theorem dX8_allDone_11 : decode cX8_allDone 11 = .ok (.if_icmp .ge 34, 3) := by decide +kernel
theorem dX8_allDone_14 : decode cX8_allDone 14 = .ok (.iload_n 2, 1) := by decide +kernel
theorem dX8_allDone_15 : decode cX8_allDone 15 = .ok (.ifCond .eq 22, 3) := by decide +kernel
theorem dX8_allDone_18 : decode cX8_allDone 18 = .ok (.aload_n 0, 1) := by decide +kernel
theorem dX8_allDone_19 : decode cX8_allDone 19 = .ok (.getfield 111, 3) := by decide +kernel
theorem dX8_allDone_22 : decode cX8_allDone 22 = .ok (.sipush 512, 3) := by decide +kernel
theorem dX8_allDone_25 : decode cX8_allDone 25 = .ok (.iload_n 1, 1) := by decide +kernel
theorem dX8_allDone_26 : decode cX8_allDone 26 = .ok (.imul, 1) := by decide +kernel
theorem dX8_allDone_27 : decode cX8_allDone 27 = .ok (.iload_n 3, 1) := by decide +kernel
theorem dX8_allDone_28 : decode cX8_allDone 28 = .ok (.iadd, 1) := by decide +kernel
theorem dX8_allDone_29 : decode cX8_allDone 29 = .ok (.iaload, 1) := by decide +kernel
theorem dX8_allDone_30 : decode cX8_allDone 30 = .ok (.ifCond .le 7, 3) := by decide +kernel
theorem dX8_allDone_33 : decode cX8_allDone 33 = .ok (.iconst 1, 1) := by decide +kernel
theorem dX8_allDone_34 : decode cX8_allDone 34 = .ok (.goto 4, 3) := by decide +kernel
theorem dX8_allDone_37 : decode cX8_allDone 37 = .ok (.iconst 0, 1) := by decide +kernel
theorem dX8_allDone_38 : decode cX8_allDone 38 = .ok (.istore_n 2, 1) := by decide +kernel
theorem dX8_allDone_39 : decode cX8_allDone 39 = .ok (.iinc 3 1, 3) := by decide +kernel
theorem dX8_allDone_42 : decode cX8_allDone 42 = .ok (.goto (-38), 3) := by decide +kernel
theorem dX8_allDone_45 : decode cX8_allDone 45 = .ok (.iload_n 2, 1) := by decide +kernel
theorem dX8_allDone_46 : decode cX8_allDone 46 = .ok (.ireturn, 1) := by decide +kernel
theorem dX8_take_0 : decode cX8_take 0 = .ok (.sipush 512, 3) := by decide +kernel
theorem dX8_take_3 : decode cX8_take 3 = .ok (.iload_n 1, 1) := by decide +kernel
theorem dX8_take_4 : decode cX8_take 4 = .ok (.imul, 1) := by decide +kernel
theorem dX8_take_5 : decode cX8_take 5 = .ok (.aload_n 0, 1) := by decide +kernel
theorem dX8_take_6 : decode cX8_take 6 = .ok (.getfield 102, 3) := by decide +kernel
theorem dX8_take_9 : decode cX8_take 9 = .ok (.iload_n 1, 1) := by decide +kernel
theorem dX8_take_10 : decode cX8_take 10 = .ok (.iaload, 1) := by decide +kernel
theorem dX8_take_11 : decode cX8_take 11 = .ok (.iadd, 1) := by decide +kernel
theorem dX8_take_12 : decode cX8_take 12 = .ok (.istore 4, 2) := by decide +kernel
theorem dX8_take_14 : decode cX8_take 14 = .ok (.aload_n 0, 1) := by decide +kernel
theorem dX8_take_15 : decode cX8_take 15 = .ok (.getfield 105, 3) := by decide +kernel
theorem dX8_take_18 : decode cX8_take 18 = .ok (.iload 4, 2) := by decide +kernel
theorem dX8_take_20 : decode cX8_take 20 = .ok (.iload_n 2, 1) := by decide +kernel
theorem dX8_take_21 : decode cX8_take 21 = .ok (.iastore, 1) := by decide +kernel
theorem dX8_take_22 : decode cX8_take 22 = .ok (.aload_n 0, 1) := by decide +kernel
theorem dX8_take_23 : decode cX8_take 23 = .ok (.getfield 108, 3) := by decide +kernel
theorem dX8_take_26 : decode cX8_take 26 = .ok (.iload 4, 2) := by decide +kernel
theorem dX8_take_28 : decode cX8_take 28 = .ok (.iload_n 3, 1) := by decide +kernel
theorem dX8_take_29 : decode cX8_take 29 = .ok (.bastore, 1) := by decide +kernel
theorem dX8_take_30 : decode cX8_take 30 = .ok (.aload_n 0, 1) := by decide +kernel
theorem dX8_take_31 : decode cX8_take 31 = .ok (.getfield 111, 3) := by decide +kernel
theorem dX8_take_34 : decode cX8_take 34 = .ok (.iload 4, 2) := by decide +kernel
theorem dX8_take_36 : decode cX8_take 36 = .ok (.iconst 0, 1) := by decide +kernel
theorem dX8_take_37 : decode cX8_take 37 = .ok (.iastore, 1) := by decide +kernel
theorem dX8_take_38 : decode cX8_take 38 = .ok (.aload_n 0, 1) := by decide +kernel
theorem dX8_take_39 : decode cX8_take 39 = .ok (.getfield 102, 3) := by decide +kernel
theorem dX8_take_42 : decode cX8_take 42 = .ok (.iload_n 1, 1) := by decide +kernel
theorem dX8_take_43 : decode cX8_take 43 = .ok (.dup2, 1) := by decide +kernel
theorem dX8_take_44 : decode cX8_take 44 = .ok (.iaload, 1) := by decide +kernel
theorem dX8_take_45 : decode cX8_take 45 = .ok (.iconst 1, 1) := by decide +kernel
theorem dX8_take_46 : decode cX8_take 46 = .ok (.iadd, 1) := by decide +kernel
theorem dX8_take_47 : decode cX8_take 47 = .ok (.iastore, 1) := by decide +kernel
theorem dX8_take_48 : decode cX8_take 48 = .ok (.aload_n 0, 1) := by decide +kernel
theorem dX8_take_49 : decode cX8_take 49 = .ok (.getfield 93, 3) := by decide +kernel
theorem dX8_take_52 : decode cX8_take 52 = .ok (.iload_n 2, 1) := by decide +kernel
theorem dX8_take_53 : decode cX8_take 53 = .ok (.iload_n 3, 1) := by decide +kernel
theorem dX8_take_54 : decode cX8_take 54 = .ok (.ifCond .eq 7, 3) := by decide +kernel
theorem dX8_take_57 : decode cX8_take 57 = .ok (.iconst 3, 1) := by decide +kernel
theorem dX8_take_58 : decode cX8_take 58 = .ok (.goto 4, 3) := by decide +kernel
theorem dX8_take_61 : decode cX8_take 61 = .ok (.iconst 1, 1) := by decide +kernel
theorem dX8_take_62 : decode cX8_take 62 = .ok (.iastore, 1) := by decide +kernel
theorem dX8_take_63 : decode cX8_take 63 = .ok (.aload_n 0, 1) := by decide +kernel
theorem dX8_take_64 : decode cX8_take 64 = .ok (.getfield 72, 3) := by decide +kernel
theorem dX8_take_67 : decode cX8_take 67 = .ok (.iload_n 2, 1) := by decide +kernel
theorem dX8_take_68 : decode cX8_take 68 = .ok (.iaload, 1) := by decide +kernel
theorem dX8_take_69 : decode cX8_take 69 = .ok (.iconst 2, 1) := by decide +kernel
theorem dX8_take_70 : decode cX8_take 70 = .ok (.if_icmp .ne 7, 3) := by decide +kernel
theorem dX8_take_73 : decode cX8_take 73 = .ok (.iconst 1, 1) := by decide +kernel
theorem dX8_take_74 : decode cX8_take 74 = .ok (.goto 4, 3) := by decide +kernel
theorem dX8_take_77 : decode cX8_take 77 = .ok (.iconst 0, 1) := by decide +kernel
theorem dX8_take_78 : decode cX8_take 78 = .ok (.iload_n 3, 1) := by decide +kernel
theorem dX8_take_79 : decode cX8_take 79 = .ok (.if_icmp .eq 13, 3) := by decide +kernel
theorem dX8_take_82 : decode cX8_take 82 = .ok (.aload_n 0, 1) := by decide +kernel
theorem dX8_take_83 : decode cX8_take 83 = .ok (.getfield 84, 3) := by decide +kernel
theorem dX8_take_86 : decode cX8_take 86 = .ok (.iload_n 2, 1) := by decide +kernel
theorem dX8_take_87 : decode cX8_take 87 = .ok (.iaload, 1) := by decide +kernel
theorem dX8_take_88 : decode cX8_take 88 = .ok (.i2l, 1) := by decide +kernel
theorem dX8_take_89 : decode cX8_take 89 = .ok (.goto 11, 3) := by decide +kernel
theorem dX8_take_92 : decode cX8_take 92 = .ok (.aload_n 0, 1) := by decide +kernel
theorem dX8_take_93 : decode cX8_take 93 = .ok (.getfield 84, 3) := by decide +kernel
theorem dX8_take_96 : decode cX8_take 96 = .ok (.iload_n 2, 1) := by decide +kernel
theorem dX8_take_97 : decode cX8_take 97 = .ok (.iaload, 1) := by decide +kernel
theorem dX8_take_98 : decode cX8_take 98 = .ok (.ineg, 1) := by decide +kernel
theorem dX8_take_99 : decode cX8_take 99 = .ok (.i2l, 1) := by decide +kernel
theorem dX8_take_100 : decode cX8_take 100 = .ok (.lstore 5, 2) := by decide +kernel
theorem dX8_take_102 : decode cX8_take 102 = .ok (.aload_n 0, 1) := by decide +kernel
theorem dX8_take_103 : decode cX8_take 103 = .ok (.getfield 13, 3) := by decide +kernel
theorem dX8_take_106 : decode cX8_take 106 = .ok (.aload_n 0, 1) := by decide +kernel
theorem dX8_take_107 : decode cX8_take 107 = .ok (.getfield 75, 3) := by decide +kernel
theorem dX8_take_110 : decode cX8_take 110 = .ok (.iload_n 2, 1) := by decide +kernel
theorem dX8_take_111 : decode cX8_take 111 = .ok (.iaload, 1) := by decide +kernel
theorem dX8_take_112 : decode cX8_take 112 = .ok (.dup2, 1) := by decide +kernel
theorem dX8_take_113 : decode cX8_take 113 = .ok (.laload, 1) := by decide +kernel
theorem dX8_take_114 : decode cX8_take 114 = .ok (.lload 5, 2) := by decide +kernel
theorem dX8_take_116 : decode cX8_take 116 = .ok (.lsub, 1) := by decide +kernel
theorem dX8_take_117 : decode cX8_take 117 = .ok (.lastore, 1) := by decide +kernel
theorem dX8_take_118 : decode cX8_take 118 = .ok (.aload_n 0, 1) := by decide +kernel
theorem dX8_take_119 : decode cX8_take 119 = .ok (.getfield 13, 3) := by decide +kernel
theorem dX8_take_122 : decode cX8_take 122 = .ok (.aload_n 0, 1) := by decide +kernel
theorem dX8_take_123 : decode cX8_take 123 = .ok (.getfield 78, 3) := by decide +kernel
theorem dX8_take_126 : decode cX8_take 126 = .ok (.iload_n 2, 1) := by decide +kernel
theorem dX8_take_127 : decode cX8_take 127 = .ok (.iaload, 1) := by decide +kernel
theorem dX8_take_128 : decode cX8_take 128 = .ok (.dup2, 1) := by decide +kernel
theorem dX8_take_129 : decode cX8_take 129 = .ok (.laload, 1) := by decide +kernel
theorem dX8_take_130 : decode cX8_take 130 = .ok (.lload 5, 2) := by decide +kernel
theorem dX8_take_132 : decode cX8_take 132 = .ok (.ladd, 1) := by decide +kernel
theorem dX8_take_133 : decode cX8_take 133 = .ok (.lastore, 1) := by decide +kernel
theorem dX8_take_134 : decode cX8_take 134 = .ok (.return_, 1) := by decide +kernel
set_option maxRecDepth 20000 in
theorem ggX8_first_X8_before : GoodIn wsX8_first wsX8_before := goodIn_r _ [11, 12, 5, 3, 13, 14, 15, 16, 17, 18, 19, 20, 21, 22, 23, 24, 25, 26, 27, 28, 29, 30, 31, 32, 33, 34, 35, 36, 37, 38, 39, 40, 41, 42, 43, 44, 45, 46, 47, 48, 49, 50, 51, 52, 53, 54, 55, 56, 57, 58] (by decide +kernel) (by decide +kernel)
set_option maxRecDepth 20000 in
theorem gX8_first_X8_before : GoodIn wsX8_first (wsV RX8 208 RX8 yX8_before wsX8_before) := goodIn_app (goodIn_of _ (by decide +kernel)) ggX8_first_X8_before
theorem dX8_first_0 : decode cX8_first 0 = .ok (.iconst (-1), 1) := by decide +kernel
theorem dX8_first_1 : decode cX8_first 1 = .ok (.istore_n 3, 1) := by decide +kernel
theorem dX8_first_2 : decode cX8_first 2 = .ok (.aload_n 0, 1) := by decide +kernel
theorem dX8_first_3 : decode cX8_first 3 = .ok (.getfield 182, 3) := by decide +kernel
theorem dX8_first_6 : decode cX8_first 6 = .ok (.iconst 1, 1) := by decide +kernel
theorem dX8_first_7 : decode cX8_first 7 = .ok (.isub, 1) := by decide +kernel
theorem dX8_first_8 : decode cX8_first 8 = .ok (.istore 4, 2) := by decide +kernel
theorem dX8_first_10 : decode cX8_first 10 = .ok (.iload 4, 2) := by decide +kernel
theorem dX8_first_12 : decode cX8_first 12 = .ok (.ifCond .lt 108, 3) := by decide +kernel
theorem dX8_first_15 : decode cX8_first 15 = .ok (.iload_n 2, 1) := by decide +kernel
theorem dX8_first_16 : decode cX8_first 16 = .ok (.ifCond .eq 33, 3) := by decide +kernel
theorem dX8_first_19 : decode cX8_first 19 = .ok (.aload_n 0, 1) := by decide +kernel
theorem dX8_first_20 : decode cX8_first 20 = .ok (.getfield 93, 3) := by decide +kernel
theorem dX8_first_23 : decode cX8_first 23 = .ok (.iload 4, 2) := by decide +kernel
theorem dX8_first_25 : decode cX8_first 25 = .ok (.iaload, 1) := by decide +kernel
theorem dX8_first_26 : decode cX8_first 26 = .ok (.iconst 2, 1) := by decide +kernel
theorem dX8_first_27 : decode cX8_first 27 = .ok (.if_icmp .ne 18, 3) := by decide +kernel
theorem dX8_first_30 : decode cX8_first 30 = .ok (.aload_n 0, 1) := by decide +kernel
theorem dX8_first_31 : decode cX8_first 31 = .ok (.getfield 75, 3) := by decide +kernel
theorem dX8_first_34 : decode cX8_first 34 = .ok (.iload 4, 2) := by decide +kernel
theorem dX8_first_36 : decode cX8_first 36 = .ok (.iaload, 1) := by decide +kernel
theorem dX8_first_37 : decode cX8_first 37 = .ok (.iload_n 1, 1) := by decide +kernel
theorem dX8_first_38 : decode cX8_first 38 = .ok (.if_icmp .ne 7, 3) := by decide +kernel
theorem dX8_first_41 : decode cX8_first 41 = .ok (.iconst 1, 1) := by decide +kernel
theorem dX8_first_42 : decode cX8_first 42 = .ok (.goto 47, 3) := by decide +kernel
theorem dX8_first_45 : decode cX8_first 45 = .ok (.iconst 0, 1) := by decide +kernel
theorem dX8_first_46 : decode cX8_first 46 = .ok (.goto 43, 3) := by decide +kernel
theorem dX8_first_49 : decode cX8_first 49 = .ok (.aload_n 0, 1) := by decide +kernel
theorem dX8_first_50 : decode cX8_first 50 = .ok (.getfield 93, 3) := by decide +kernel
theorem dX8_first_53 : decode cX8_first 53 = .ok (.iload 4, 2) := by decide +kernel
theorem dX8_first_55 : decode cX8_first 55 = .ok (.iaload, 1) := by decide +kernel
theorem dX8_first_56 : decode cX8_first 56 = .ok (.ifCond .ne 32, 3) := by decide +kernel
theorem dX8_first_59 : decode cX8_first 59 = .ok (.aload_n 0, 1) := by decide +kernel
theorem dX8_first_60 : decode cX8_first 60 = .ok (.getfield 78, 3) := by decide +kernel
theorem dX8_first_63 : decode cX8_first 63 = .ok (.iload 4, 2) := by decide +kernel
theorem dX8_first_65 : decode cX8_first 65 = .ok (.iaload, 1) := by decide +kernel
theorem dX8_first_66 : decode cX8_first 66 = .ok (.iload_n 1, 1) := by decide +kernel
theorem dX8_first_67 : decode cX8_first 67 = .ok (.if_icmp .ne 21, 3) := by decide +kernel
theorem dX8_first_70 : decode cX8_first 70 = .ok (.aload_n 0, 1) := by decide +kernel
theorem dX8_first_71 : decode cX8_first 71 = .ok (.getfield 90, 3) := by decide +kernel
theorem dX8_first_74 : decode cX8_first 74 = .ok (.iload 4, 2) := by decide +kernel
theorem dX8_first_76 : decode cX8_first 76 = .ok (.iaload, 1) := by decide +kernel
theorem dX8_first_77 : decode cX8_first 77 = .ok (.aload_n 0, 1) := by decide +kernel
theorem dX8_first_78 : decode cX8_first 78 = .ok (.getfield 143, 3) := by decide +kernel
theorem dX8_first_81 : decode cX8_first 81 = .ok (.if_icmp .gt 7, 3) := by decide +kernel
theorem dX8_first_84 : decode cX8_first 84 = .ok (.iconst 1, 1) := by decide +kernel
theorem dX8_first_85 : decode cX8_first 85 = .ok (.goto 4, 3) := by decide +kernel
theorem dX8_first_88 : decode cX8_first 88 = .ok (.iconst 0, 1) := by decide +kernel
theorem dX8_first_89 : decode cX8_first 89 = .ok (.istore 5, 2) := by decide +kernel
theorem dX8_first_91 : decode cX8_first 91 = .ok (.iload 5, 2) := by decide +kernel
theorem dX8_first_93 : decode cX8_first 93 = .ok (.ifCond .eq 21, 3) := by decide +kernel
theorem dX8_first_96 : decode cX8_first 96 = .ok (.iload_n 3, 1) := by decide +kernel
theorem dX8_first_97 : decode cX8_first 97 = .ok (.ifCond .lt 14, 3) := by decide +kernel
theorem dX8_first_100 : decode cX8_first 100 = .ok (.aload_n 0, 1) := by decide +kernel
theorem dX8_first_101 : decode cX8_first 101 = .ok (.iload 4, 2) := by decide +kernel
theorem dX8_first_103 : decode cX8_first 103 = .ok (.iload_n 3, 1) := by decide +kernel
theorem dX8_first_104 : decode cX8_first 104 = .ok (.iload_n 2, 1) := by decide +kernel
theorem dX8_first_105 : decode cX8_first 105 = .ok (.invokevirtual 208, 3) := by decide +kernel
theorem dX8_first_108 : decode cX8_first 108 = .ok (.ifCond .eq 6, 3) := by decide +kernel
theorem dX8_first_111 : decode cX8_first 111 = .ok (.iload 4, 2) := by decide +kernel
theorem dX8_first_113 : decode cX8_first 113 = .ok (.istore_n 3, 1) := by decide +kernel
theorem dX8_first_114 : decode cX8_first 114 = .ok (.iinc 4 (-1), 3) := by decide +kernel
theorem dX8_first_117 : decode cX8_first 117 = .ok (.goto (-107), 3) := by decide +kernel
theorem dX8_first_120 : decode cX8_first 120 = .ok (.iload_n 3, 1) := by decide +kernel
theorem dX8_first_121 : decode cX8_first 121 = .ok (.ireturn, 1) := by decide +kernel
theorem dX8_before_0 : decode cX8_before 0 = .ok (.iload_n 3, 1) := by decide +kernel
theorem dX8_before_1 : decode cX8_before 1 = .ok (.ifCond .eq 24, 3) := by decide +kernel
theorem dX8_before_4 : decode cX8_before 4 = .ok (.aload_n 0, 1) := by decide +kernel
theorem dX8_before_5 : decode cX8_before 5 = .ok (.getfield 99, 3) := by decide +kernel
theorem dX8_before_8 : decode cX8_before 8 = .ok (.iload_n 1, 1) := by decide +kernel
theorem dX8_before_9 : decode cX8_before 9 = .ok (.iaload, 1) := by decide +kernel
theorem dX8_before_10 : decode cX8_before 10 = .ok (.aload_n 0, 1) := by decide +kernel
theorem dX8_before_11 : decode cX8_before 11 = .ok (.getfield 99, 3) := by decide +kernel
theorem dX8_before_14 : decode cX8_before 14 = .ok (.iload_n 2, 1) := by decide +kernel
theorem dX8_before_15 : decode cX8_before 15 = .ok (.iaload, 1) := by decide +kernel
theorem dX8_before_16 : decode cX8_before 16 = .ok (.if_icmp .ge 7, 3) := by decide +kernel
theorem dX8_before_19 : decode cX8_before 19 = .ok (.iconst 1, 1) := by decide +kernel
theorem dX8_before_20 : decode cX8_before 20 = .ok (.goto 4, 3) := by decide +kernel
theorem dX8_before_23 : decode cX8_before 23 = .ok (.iconst 0, 1) := by decide +kernel
theorem dX8_before_24 : decode cX8_before 24 = .ok (.ireturn, 1) := by decide +kernel
theorem dX8_before_25 : decode cX8_before 25 = .ok (.aload_n 0, 1) := by decide +kernel
theorem dX8_before_26 : decode cX8_before 26 = .ok (.getfield 90, 3) := by decide +kernel
theorem dX8_before_29 : decode cX8_before 29 = .ok (.iload_n 1, 1) := by decide +kernel
theorem dX8_before_30 : decode cX8_before 30 = .ok (.iaload, 1) := by decide +kernel
theorem dX8_before_31 : decode cX8_before 31 = .ok (.aload_n 0, 1) := by decide +kernel
theorem dX8_before_32 : decode cX8_before 32 = .ok (.getfield 90, 3) := by decide +kernel
theorem dX8_before_35 : decode cX8_before 35 = .ok (.iload_n 2, 1) := by decide +kernel
theorem dX8_before_36 : decode cX8_before 36 = .ok (.iaload, 1) := by decide +kernel
theorem dX8_before_37 : decode cX8_before 37 = .ok (.if_icmp .eq 26, 3) := by decide +kernel
theorem dX8_before_40 : decode cX8_before 40 = .ok (.aload_n 0, 1) := by decide +kernel
theorem dX8_before_41 : decode cX8_before 41 = .ok (.getfield 90, 3) := by decide +kernel
theorem dX8_before_44 : decode cX8_before 44 = .ok (.iload_n 1, 1) := by decide +kernel
theorem dX8_before_45 : decode cX8_before 45 = .ok (.iaload, 1) := by decide +kernel
theorem dX8_before_46 : decode cX8_before 46 = .ok (.aload_n 0, 1) := by decide +kernel
theorem dX8_before_47 : decode cX8_before 47 = .ok (.getfield 90, 3) := by decide +kernel
theorem dX8_before_50 : decode cX8_before 50 = .ok (.iload_n 2, 1) := by decide +kernel
theorem dX8_before_51 : decode cX8_before 51 = .ok (.iaload, 1) := by decide +kernel
theorem dX8_before_52 : decode cX8_before 52 = .ok (.if_icmp .ge 7, 3) := by decide +kernel
theorem dX8_before_55 : decode cX8_before 55 = .ok (.iconst 1, 1) := by decide +kernel
theorem dX8_before_56 : decode cX8_before 56 = .ok (.goto 27, 3) := by decide +kernel
theorem dX8_before_59 : decode cX8_before 59 = .ok (.iconst 0, 1) := by decide +kernel
theorem dX8_before_60 : decode cX8_before 60 = .ok (.goto 23, 3) := by decide +kernel
theorem dX8_before_63 : decode cX8_before 63 = .ok (.aload_n 0, 1) := by decide +kernel
theorem dX8_before_64 : decode cX8_before 64 = .ok (.getfield 75, 3) := by decide +kernel
theorem dX8_before_67 : decode cX8_before 67 = .ok (.iload_n 1, 1) := by decide +kernel
theorem dX8_before_68 : decode cX8_before 68 = .ok (.iaload, 1) := by decide +kernel
theorem dX8_before_69 : decode cX8_before 69 = .ok (.aload_n 0, 1) := by decide +kernel
theorem dX8_before_70 : decode cX8_before 70 = .ok (.getfield 75, 3) := by decide +kernel
theorem dX8_before_73 : decode cX8_before 73 = .ok (.iload_n 2, 1) := by decide +kernel
theorem dX8_before_74 : decode cX8_before 74 = .ok (.iaload, 1) := by decide +kernel
theorem dX8_before_75 : decode cX8_before 75 = .ok (.if_icmp .gt 7, 3) := by decide +kernel
theorem dX8_before_78 : decode cX8_before 78 = .ok (.iconst 1, 1) := by decide +kernel
theorem dX8_before_79 : decode cX8_before 79 = .ok (.goto 4, 3) := by decide +kernel
theorem dX8_before_82 : decode cX8_before 82 = .ok (.iconst 0, 1) := by decide +kernel
theorem dX8_before_83 : decode cX8_before 83 = .ok (.ireturn, 1) := by decide +kernel
set_option maxRecDepth 20000 in
theorem ggX8_window_X8_within : GoodIn wsX8_window wsX8_within := goodIn_r _ [6] (by decide +kernel) (by decide +kernel)
set_option maxRecDepth 20000 in
theorem gX8_window_X8_within : GoodIn wsX8_window (va_wsS RX8 123 yX8_within wsX8_within) := goodIn_app (goodIn_of _ (by decide +kernel)) ggX8_window_X8_within
set_option maxRecDepth 20000 in
theorem ggX8_window_X8_allDone : GoodIn wsX8_window wsX8_allDone := goodIn_r _ [10, 2, 11, 36, 37, 38, 39, 40, 41, 42, 43, 44, 45, 46, 47, 48, 49, 50, 51, 52, 53, 54, 55, 56, 57, 58, 59, 60, 61, 62, 63, 64, 65, 66, 67, 68, 69, 70, 71, 72, 73, 74, 75, 76, 77, 78, 79, 80, 81] (by decide +kernel) (by decide +kernel)
set_option maxRecDepth 20000 in
theorem gX8_window_X8_allDone : GoodIn wsX8_window (wsV RX8 212 RX8 yX8_allDone wsX8_allDone) := goodIn_app (goodIn_of _ (by decide +kernel)) ggX8_window_X8_allDone
set_option maxRecDepth 20000 in
theorem ggX8_window_X8_first : GoodIn wsX8_window wsX8_first := goodIn_r _ [15, 16, 17, 18, 19, 20, 21, 22, 23, 24, 5, 25, 26, 36, 37, 38, 39, 40, 41, 42, 43, 44, 45, 46, 47, 48, 49, 50, 51, 52, 53, 54, 55, 56, 57, 58, 59, 60, 61, 62, 63, 64, 65, 66, 67, 68, 69, 70, 71, 72, 73, 74, 75, 76, 77, 78, 79, 80, 81] (by decide +kernel) (by decide +kernel)
set_option maxRecDepth 20000 in
theorem gX8_window_X8_first : GoodIn wsX8_window (wsV RX8 216 RX8 yX8_first wsX8_first) := goodIn_app (goodIn_of _ (by decide +kernel)) ggX8_window_X8_first
set_option maxRecDepth 20000 in
theorem ggX8_window_X8_take : GoodIn wsX8_window wsX8_take := goodIn_r _ [30, 2, 31, 32, 11, 17, 33, 34, 35, 18, 19, 36, 37, 38, 39, 40, 41, 42, 43, 44, 45, 46, 47, 48, 49, 50, 51, 52, 53, 54, 55, 56, 57, 58, 59, 60, 61, 62, 63, 64, 65, 66, 67, 68, 69, 70, 71, 72, 73, 74, 75, 76, 77, 78, 79, 80, 81] (by decide +kernel) (by decide +kernel)
set_option maxRecDepth 20000 in
theorem gX8_window_X8_take : GoodIn wsX8_window (wsV RX8 220 RX8 yX8_take wsX8_take) := goodIn_app (goodIn_of _ (by decide +kernel)) ggX8_window_X8_take
theorem dX8_window_0 : decode cX8_window 0 = .ok (.iload_n 1, 1) := by decide +kernel
theorem dX8_window_1 : decode cX8_window 1 = .ok (.aload_n 0, 1) := by decide +kernel
theorem dX8_window_2 : decode cX8_window 2 = .ok (.getfield 119, 3) := by decide +kernel
theorem dX8_window_5 : decode cX8_window 5 = .ok (.invokestatic 123, 3) := by decide +kernel
theorem dX8_window_8 : decode cX8_window 8 = .ok (.ifCond .ne 5, 3) := by decide +kernel
theorem dX8_window_11 : decode cX8_window 11 = .ok (.iconst (-1), 1) := by decide +kernel
theorem dX8_window_12 : decode cX8_window 12 = .ok (.ireturn, 1) := by decide +kernel
theorem dX8_window_13 : decode cX8_window 13 = .ok (.aload_n 0, 1) := by decide +kernel
theorem dX8_window_14 : decode cX8_window 14 = .ok (.iload_n 1, 1) := by decide +kernel
theorem dX8_window_15 : decode cX8_window 15 = .ok (.invokevirtual 212, 3) := by decide +kernel
theorem dX8_window_18 : decode cX8_window 18 = .ok (.ifCond .ne 6, 3) := by decide +kernel
theorem dX8_window_21 : decode cX8_window 21 = .ok (.bipush (-4), 2) := by decide +kernel
theorem dX8_window_23 : decode cX8_window 23 = .ok (.ireturn, 1) := by decide +kernel
theorem dX8_window_24 : decode cX8_window 24 = .ok (.aload_n 0, 1) := by decide +kernel
theorem dX8_window_25 : decode cX8_window 25 = .ok (.getfield 102, 3) := by decide +kernel
theorem dX8_window_28 : decode cX8_window 28 = .ok (.iload_n 1, 1) := by decide +kernel
theorem dX8_window_29 : decode cX8_window 29 = .ok (.iconst 0, 1) := by decide +kernel
theorem dX8_window_30 : decode cX8_window 30 = .ok (.iastore, 1) := by decide +kernel
theorem dX8_window_31 : decode cX8_window 31 = .ok (.iconst 0, 1) := by decide +kernel
theorem dX8_window_32 : decode cX8_window 32 = .ok (.istore_n 2, 1) := by decide +kernel
theorem dX8_window_33 : decode cX8_window 33 = .ok (.iload_n 2, 1) := by decide +kernel
theorem dX8_window_34 : decode cX8_window 34 = .ok (.iconst 2, 1) := by decide +kernel
theorem dX8_window_35 : decode cX8_window 35 = .ok (.if_icmp .ge 51, 3) := by decide +kernel
theorem dX8_window_38 : decode cX8_window 38 = .ok (.iload_n 2, 1) := by decide +kernel
theorem dX8_window_39 : decode cX8_window 39 = .ok (.ifCond .ne 7, 3) := by decide +kernel
theorem dX8_window_42 : decode cX8_window 42 = .ok (.iconst 1, 1) := by decide +kernel
theorem dX8_window_43 : decode cX8_window 43 = .ok (.goto 4, 3) := by decide +kernel
theorem dX8_window_46 : decode cX8_window 46 = .ok (.iconst 0, 1) := by decide +kernel
theorem dX8_window_47 : decode cX8_window 47 = .ok (.istore_n 3, 1) := by decide +kernel
theorem dX8_window_48 : decode cX8_window 48 = .ok (.aload_n 0, 1) := by decide +kernel
theorem dX8_window_49 : decode cX8_window 49 = .ok (.iload_n 1, 1) := by decide +kernel
theorem dX8_window_50 : decode cX8_window 50 = .ok (.iload_n 3, 1) := by decide +kernel
theorem dX8_window_51 : decode cX8_window 51 = .ok (.invokevirtual 216, 3) := by decide +kernel
theorem dX8_window_54 : decode cX8_window 54 = .ok (.istore 4, 2) := by decide +kernel
theorem dX8_window_56 : decode cX8_window 56 = .ok (.iload 4, 2) := by decide +kernel
theorem dX8_window_58 : decode cX8_window 58 = .ok (.ifCond .lt 22, 3) := by decide +kernel
theorem dX8_window_61 : decode cX8_window 61 = .ok (.aload_n 0, 1) := by decide +kernel
theorem dX8_window_62 : decode cX8_window 62 = .ok (.iload_n 1, 1) := by decide +kernel
theorem dX8_window_63 : decode cX8_window 63 = .ok (.iload 4, 2) := by decide +kernel
theorem dX8_window_65 : decode cX8_window 65 = .ok (.iload_n 3, 1) := by decide +kernel
theorem dX8_window_66 : decode cX8_window 66 = .ok (.invokevirtual 220, 3) := by decide +kernel
theorem dX8_window_69 : decode cX8_window 69 = .ok (.aload_n 0, 1) := by decide +kernel
theorem dX8_window_70 : decode cX8_window 70 = .ok (.iload_n 1, 1) := by decide +kernel
theorem dX8_window_71 : decode cX8_window 71 = .ok (.iload_n 3, 1) := by decide +kernel
theorem dX8_window_72 : decode cX8_window 72 = .ok (.invokevirtual 216, 3) := by decide +kernel
theorem dX8_window_75 : decode cX8_window 75 = .ok (.istore 4, 2) := by decide +kernel
theorem dX8_window_77 : decode cX8_window 77 = .ok (.goto (-21), 3) := by decide +kernel
theorem dX8_window_80 : decode cX8_window 80 = .ok (.iinc 2 1, 3) := by decide +kernel
theorem dX8_window_83 : decode cX8_window 83 = .ok (.goto (-50), 3) := by decide +kernel
theorem dX8_window_86 : decode cX8_window 86 = .ok (.aload_n 0, 1) := by decide +kernel
theorem dX8_window_87 : decode cX8_window 87 = .ok (.getfield 102, 3) := by decide +kernel
theorem dX8_window_90 : decode cX8_window 90 = .ok (.iload_n 1, 1) := by decide +kernel
theorem dX8_window_91 : decode cX8_window 91 = .ok (.iaload, 1) := by decide +kernel
theorem dX8_window_92 : decode cX8_window 92 = .ok (.ireturn, 1) := by decide +kernel
set_option maxRecDepth 20000 in
theorem ggX8_backFault_X8_right : GoodIn wsX8_backFault wsX8_right := goodIn_r _ [10] (by decide +kernel) (by decide +kernel)
set_option maxRecDepth 20000 in
theorem gX8_backFault_X8_right : GoodIn wsX8_backFault (va_wsS RX8 127 yX8_right wsX8_right) := goodIn_app (goodIn_of _ (by decide +kernel)) ggX8_backFault_X8_right
set_option maxRecDepth 20000 in
theorem ggX8_backFault_X8_accountOf : GoodIn wsX8_backFault wsX8_accountOf := goodIn_r _ [14, 15, 16, 17, 18, 19, 20, 21, 22, 23, 24, 25, 26, 27, 28, 29, 30, 31, 32, 33, 34, 35, 36, 37, 38, 39, 40, 41, 42, 43, 44, 45, 46, 47, 48, 49, 50, 51, 52, 53, 54, 55, 56, 57, 58, 59, 60, 61, 62, 63] (by decide +kernel) (by decide +kernel)
set_option maxRecDepth 20000 in
theorem gX8_backFault_X8_accountOf : GoodIn wsX8_backFault (wsV RX8 139 RX8 yX8_accountOf wsX8_accountOf) := goodIn_app (goodIn_of _ (by decide +kernel)) ggX8_backFault_X8_accountOf
theorem dX8_backFault_0 : decode cX8_backFault 0 = .ok (.aload_n 0, 1) := by decide +kernel
theorem dX8_backFault_1 : decode cX8_backFault 1 = .ok (.getfield 81, 3) := by decide +kernel
theorem dX8_backFault_4 : decode cX8_backFault 4 = .ok (.iload_n 1, 1) := by decide +kernel
theorem dX8_backFault_5 : decode cX8_backFault 5 = .ok (.iaload, 1) := by decide +kernel
theorem dX8_backFault_6 : decode cX8_backFault 6 = .ok (.bipush 6, 2) := by decide +kernel
theorem dX8_backFault_8 : decode cX8_backFault 8 = .ok (.invokestatic 127, 3) := by decide +kernel
theorem dX8_backFault_11 : decode cX8_backFault 11 = .ok (.ifCond .ne 5, 3) := by decide +kernel
theorem dX8_backFault_14 : decode cX8_backFault 14 = .ok (.iconst 4, 1) := by decide +kernel
theorem dX8_backFault_15 : decode cX8_backFault 15 = .ok (.ireturn, 1) := by decide +kernel
theorem dX8_backFault_16 : decode cX8_backFault 16 = .ok (.aload_n 0, 1) := by decide +kernel
theorem dX8_backFault_17 : decode cX8_backFault 17 = .ok (.aload_n 0, 1) := by decide +kernel
theorem dX8_backFault_18 : decode cX8_backFault 18 = .ok (.getfield 78, 3) := by decide +kernel
theorem dX8_backFault_21 : decode cX8_backFault 21 = .ok (.iload_n 1, 1) := by decide +kernel
theorem dX8_backFault_22 : decode cX8_backFault 22 = .ok (.iaload, 1) := by decide +kernel
theorem dX8_backFault_23 : decode cX8_backFault 23 = .ok (.aload_n 0, 1) := by decide +kernel
theorem dX8_backFault_24 : decode cX8_backFault 24 = .ok (.getfield 81, 3) := by decide +kernel
theorem dX8_backFault_27 : decode cX8_backFault 27 = .ok (.iload_n 1, 1) := by decide +kernel
theorem dX8_backFault_28 : decode cX8_backFault 28 = .ok (.iaload, 1) := by decide +kernel
theorem dX8_backFault_29 : decode cX8_backFault 29 = .ok (.invokevirtual 139, 3) := by decide +kernel
theorem dX8_backFault_32 : decode cX8_backFault 32 = .ok (.istore_n 2, 1) := by decide +kernel
theorem dX8_backFault_33 : decode cX8_backFault 33 = .ok (.iload_n 2, 1) := by decide +kernel
theorem dX8_backFault_34 : decode cX8_backFault 34 = .ok (.ifCond .ge 5, 3) := by decide +kernel
theorem dX8_backFault_37 : decode cX8_backFault 37 = .ok (.iconst 3, 1) := by decide +kernel
theorem dX8_backFault_38 : decode cX8_backFault 38 = .ok (.ireturn, 1) := by decide +kernel
theorem dX8_backFault_39 : decode cX8_backFault 39 = .ok (.aload_n 0, 1) := by decide +kernel
theorem dX8_backFault_40 : decode cX8_backFault 40 = .ok (.getfield 26, 3) := by decide +kernel
theorem dX8_backFault_43 : decode cX8_backFault 43 = .ok (.iload_n 2, 1) := by decide +kernel
theorem dX8_backFault_44 : decode cX8_backFault 44 = .ok (.baload, 1) := by decide +kernel
theorem dX8_backFault_45 : decode cX8_backFault 45 = .ok (.ifCond .eq 7, 3) := by decide +kernel
theorem dX8_backFault_48 : decode cX8_backFault 48 = .ok (.iconst 2, 1) := by decide +kernel
theorem dX8_backFault_49 : decode cX8_backFault 49 = .ok (.goto 36, 3) := by decide +kernel
theorem dX8_backFault_52 : decode cX8_backFault 52 = .ok (.aload_n 0, 1) := by decide +kernel
theorem dX8_backFault_53 : decode cX8_backFault 53 = .ok (.getfield 72, 3) := by decide +kernel
theorem dX8_backFault_56 : decode cX8_backFault 56 = .ok (.iload_n 1, 1) := by decide +kernel
theorem dX8_backFault_57 : decode cX8_backFault 57 = .ok (.iaload, 1) := by decide +kernel
theorem dX8_backFault_58 : decode cX8_backFault 58 = .ok (.bipush 7, 2) := by decide +kernel
theorem dX8_backFault_60 : decode cX8_backFault 60 = .ok (.if_icmp .ne 24, 3) := by decide +kernel
theorem dX8_backFault_63 : decode cX8_backFault 63 = .ok (.aload_n 0, 1) := by decide +kernel
