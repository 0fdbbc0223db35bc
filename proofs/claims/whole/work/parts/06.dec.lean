theorem dX12_holds_95 : decode cX12_holds 95 = .ok (.iconst 0, 1) := by decide +kernel
theorem dX12_holds_96 : decode cX12_holds 96 = .ok (.istore 8, 2) := by decide +kernel
theorem dX12_holds_98 : decode cX12_holds 98 = .ok (.iinc 9 1, 3) := by decide +kernel
theorem dX12_holds_101 : decode cX12_holds 101 = .ok (.goto (-65), 3) := by decide +kernel
theorem dX12_holds_104 : decode cX12_holds 104 = .ok (.iload 8, 2) := by decide +kernel
theorem dX12_holds_106 : decode cX12_holds 106 = .ok (.istore 5, 2) := by decide +kernel
theorem dX12_holds_108 : decode cX12_holds 108 = .ok (.iinc 6 1, 3) := by decide +kernel
theorem dX12_holds_111 : decode cX12_holds 111 = .ok (.goto (-105), 3) := by decide +kernel
theorem dX12_holds_114 : decode cX12_holds 114 = .ok (.iload 5, 2) := by decide +kernel
theorem dX12_holds_116 : decode cX12_holds 116 = .ok (.ireturn, 1) := by decide +kernel
theorem dX12_give_0 : decode cX12_give 0 = .ok (.aload_n 0, 1) := by decide +kernel
theorem dX12_give_1 : decode cX12_give 1 = .ok (.iload_n 2, 1) := by decide +kernel
theorem dX12_give_2 : decode cX12_give 2 = .ok (.aload_n 0, 1) := by decide +kernel
theorem dX12_give_3 : decode cX12_give 3 = .ok (.getfield 28, 3) := by decide +kernel
theorem dX12_give_6 : decode cX12_give 6 = .ok (.iload_n 1, 1) := by decide +kernel
theorem dX12_give_7 : decode cX12_give 7 = .ok (.iaload, 1) := by decide +kernel
theorem dX12_give_8 : decode cX12_give 8 = .ok (.invokevirtual 111, 3) := by decide +kernel
theorem dX12_give_11 : decode cX12_give 11 = .ok (.aload_n 0, 1) := by decide +kernel
theorem dX12_give_12 : decode cX12_give 12 = .ok (.iconst 0, 1) := by decide +kernel
theorem dX12_give_13 : decode cX12_give 13 = .ok (.putfield 254, 3) := by decide +kernel
theorem dX12_give_16 : decode cX12_give 16 = .ok (.iconst 0, 1) := by decide +kernel
theorem dX12_give_17 : decode cX12_give 17 = .ok (.istore_n 3, 1) := by decide +kernel
theorem dX12_give_18 : decode cX12_give 18 = .ok (.iload_n 3, 1) := by decide +kernel
theorem dX12_give_19 : decode cX12_give 19 = .ok (.aload_n 0, 1) := by decide +kernel
theorem dX12_give_20 : decode cX12_give 20 = .ok (.getfield 114, 3) := by decide +kernel
theorem dX12_give_23 : decode cX12_give 23 = .ok (.if_icmp .ge 55, 3) := by decide +kernel
theorem dX12_give_26 : decode cX12_give 26 = .ok (.aload_n 0, 1) := by decide +kernel
theorem dX12_give_27 : decode cX12_give 27 = .ok (.aload_n 0, 1) := by decide +kernel
theorem dX12_give_28 : decode cX12_give 28 = .ok (.getfield 22, 3) := by decide +kernel
theorem dX12_give_31 : decode cX12_give 31 = .ok (.iload_n 3, 1) := by decide +kernel
theorem dX12_give_32 : decode cX12_give 32 = .ok (.iaload, 1) := by decide +kernel
theorem dX12_give_33 : decode cX12_give 33 = .ok (.aload_n 0, 1) := by decide +kernel
theorem dX12_give_34 : decode cX12_give 34 = .ok (.getfield 28, 3) := by decide +kernel
theorem dX12_give_37 : decode cX12_give 37 = .ok (.iload_n 1, 1) := by decide +kernel
theorem dX12_give_38 : decode cX12_give 38 = .ok (.iconst 1, 1) := by decide +kernel
theorem dX12_give_39 : decode cX12_give 39 = .ok (.iadd, 1) := by decide +kernel
theorem dX12_give_40 : decode cX12_give 40 = .ok (.iaload, 1) := by decide +kernel
theorem dX12_give_41 : decode cX12_give 41 = .ok (.invokevirtual 244, 3) := by decide +kernel
theorem dX12_give_44 : decode cX12_give 44 = .ok (.ifCond .eq 28, 3) := by decide +kernel
theorem dX12_give_47 : decode cX12_give 47 = .ok (.aload_n 0, 1) := by decide +kernel
theorem dX12_give_48 : decode cX12_give 48 = .ok (.getfield 44, 3) := by decide +kernel
theorem dX12_give_51 : decode cX12_give 51 = .ok (.aload_n 0, 1) := by decide +kernel
theorem dX12_give_52 : decode cX12_give 52 = .ok (.getfield 254, 3) := by decide +kernel
theorem dX12_give_55 : decode cX12_give 55 = .ok (.aload_n 0, 1) := by decide +kernel
theorem dX12_give_56 : decode cX12_give 56 = .ok (.getfield 22, 3) := by decide +kernel
theorem dX12_give_59 : decode cX12_give 59 = .ok (.iload_n 3, 1) := by decide +kernel
theorem dX12_give_60 : decode cX12_give 60 = .ok (.iaload, 1) := by decide +kernel
theorem dX12_give_61 : decode cX12_give 61 = .ok (.iastore, 1) := by decide +kernel
theorem dX12_give_62 : decode cX12_give 62 = .ok (.aload_n 0, 1) := by decide +kernel
theorem dX12_give_63 : decode cX12_give 63 = .ok (.dup, 1) := by decide +kernel
theorem dX12_give_64 : decode cX12_give 64 = .ok (.getfield 254, 3) := by decide +kernel
theorem dX12_give_67 : decode cX12_give 67 = .ok (.iconst 1, 1) := by decide +kernel
theorem dX12_give_68 : decode cX12_give 68 = .ok (.iadd, 1) := by decide +kernel
theorem dX12_give_69 : decode cX12_give 69 = .ok (.putfield 254, 3) := by decide +kernel
theorem dX12_give_72 : decode cX12_give 72 = .ok (.iinc 3 1, 3) := by decide +kernel
theorem dX12_give_75 : decode cX12_give 75 = .ok (.goto (-57), 3) := by decide +kernel
theorem dX12_give_78 : decode cX12_give 78 = .ok (.iconst 0, 1) := by decide +kernel
theorem dX12_give_79 : decode cX12_give 79 = .ok (.istore_n 3, 1) := by decide +kernel
theorem dX12_give_80 : decode cX12_give 80 = .ok (.iload_n 3, 1) := by decide +kernel
theorem dX12_give_81 : decode cX12_give 81 = .ok (.aload_n 0, 1) := by decide +kernel
theorem dX12_give_82 : decode cX12_give 82 = .ok (.getfield 28, 3) := by decide +kernel
theorem dX12_give_85 : decode cX12_give 85 = .ok (.iload_n 1, 1) := by decide +kernel
theorem dX12_give_86 : decode cX12_give 86 = .ok (.iconst 2, 1) := by decide +kernel
theorem dX12_give_87 : decode cX12_give 87 = .ok (.iadd, 1) := by decide +kernel
theorem dX12_give_88 : decode cX12_give 88 = .ok (.iaload, 1) := by decide +kernel
theorem dX12_give_89 : decode cX12_give 89 = .ok (.if_icmp .ge 87, 3) := by decide +kernel
theorem dX12_give_92 : decode cX12_give 92 = .ok (.aload_n 0, 1) := by decide +kernel
theorem dX12_give_93 : decode cX12_give 93 = .ok (.getfield 254, 3) := by decide +kernel
theorem dX12_give_96 : decode cX12_give 96 = .ok (.istore 4, 2) := by decide +kernel
theorem dX12_give_98 : decode cX12_give 98 = .ok (.aload_n 0, 1) := by decide +kernel
theorem dX12_give_99 : decode cX12_give 99 = .ok (.iconst 0, 1) := by decide +kernel
theorem dX12_give_100 : decode cX12_give 100 = .ok (.putfield 254, 3) := by decide +kernel
theorem dX12_give_103 : decode cX12_give 103 = .ok (.iconst 0, 1) := by decide +kernel
theorem dX12_give_104 : decode cX12_give 104 = .ok (.istore 5, 2) := by decide +kernel
theorem dX12_give_106 : decode cX12_give 106 = .ok (.iload 5, 2) := by decide +kernel
theorem dX12_give_108 : decode cX12_give 108 = .ok (.iload 4, 2) := by decide +kernel
theorem dX12_give_110 : decode cX12_give 110 = .ok (.if_icmp .ge 60, 3) := by decide +kernel
theorem dX12_give_113 : decode cX12_give 113 = .ok (.aload_n 0, 1) := by decide +kernel
theorem dX12_give_114 : decode cX12_give 114 = .ok (.iload_n 1, 1) := by decide +kernel
theorem dX12_give_115 : decode cX12_give 115 = .ok (.iload_n 3, 1) := by decide +kernel
theorem dX12_give_116 : decode cX12_give 116 = .ok (.invokestatic 168, 3) := by decide +kernel
theorem dX12_give_119 : decode cX12_give 119 = .ok (.aload_n 0, 1) := by decide +kernel
theorem dX12_give_120 : decode cX12_give 120 = .ok (.getfield 44, 3) := by decide +kernel
theorem dX12_give_123 : decode cX12_give 123 = .ok (.iload 5, 2) := by decide +kernel
theorem dX12_give_125 : decode cX12_give 125 = .ok (.iaload, 1) := by decide +kernel
theorem dX12_give_126 : decode cX12_give 126 = .ok (.iload 5, 2) := by decide +kernel
theorem dX12_give_128 : decode cX12_give 128 = .ok (.iconst 1, 1) := by decide +kernel
theorem dX12_give_129 : decode cX12_give 129 = .ok (.iadd, 1) := by decide +kernel
theorem dX12_give_130 : decode cX12_give 130 = .ok (.iload 4, 2) := by decide +kernel
theorem dX12_give_132 : decode cX12_give 132 = .ok (.invokevirtual 257, 3) := by decide +kernel
theorem dX12_give_135 : decode cX12_give 135 = .ok (.ifCond .eq 29, 3) := by decide +kernel
theorem dX12_give_138 : decode cX12_give 138 = .ok (.aload_n 0, 1) := by decide +kernel
theorem dX12_give_139 : decode cX12_give 139 = .ok (.getfield 44, 3) := by decide +kernel
theorem dX12_give_142 : decode cX12_give 142 = .ok (.aload_n 0, 1) := by decide +kernel
theorem dX12_give_143 : decode cX12_give 143 = .ok (.getfield 254, 3) := by decide +kernel
theorem dX12_give_146 : decode cX12_give 146 = .ok (.aload_n 0, 1) := by decide +kernel
theorem dX12_give_147 : decode cX12_give 147 = .ok (.getfield 44, 3) := by decide +kernel
theorem dX12_give_150 : decode cX12_give 150 = .ok (.iload 5, 2) := by decide +kernel
theorem dX12_give_152 : decode cX12_give 152 = .ok (.iaload, 1) := by decide +kernel
theorem dX12_give_153 : decode cX12_give 153 = .ok (.iastore, 1) := by decide +kernel
theorem dX12_give_154 : decode cX12_give 154 = .ok (.aload_n 0, 1) := by decide +kernel
theorem dX12_give_155 : decode cX12_give 155 = .ok (.dup, 1) := by decide +kernel
theorem dX12_give_156 : decode cX12_give 156 = .ok (.getfield 254, 3) := by decide +kernel
theorem dX12_give_159 : decode cX12_give 159 = .ok (.iconst 1, 1) := by decide +kernel
theorem dX12_give_160 : decode cX12_give 160 = .ok (.iadd, 1) := by decide +kernel
theorem dX12_give_161 : decode cX12_give 161 = .ok (.putfield 254, 3) := by decide +kernel
theorem dX12_give_164 : decode cX12_give 164 = .ok (.iinc 5 1, 3) := by decide +kernel
theorem dX12_give_167 : decode cX12_give 167 = .ok (.goto (-61), 3) := by decide +kernel
theorem dX12_give_170 : decode cX12_give 170 = .ok (.iinc 3 1, 3) := by decide +kernel
theorem dX12_give_173 : decode cX12_give 173 = .ok (.goto (-93), 3) := by decide +kernel
theorem dX12_give_176 : decode cX12_give 176 = .ok (.return_, 1) := by decide +kernel
theorem dX12_selectPath_0 : decode cX12_selectPath 0 = .ok (.iconst 0, 1) := by decide +kernel
theorem dX12_selectPath_1 : decode cX12_selectPath 1 = .ok (.istore_n 3, 1) := by decide +kernel
theorem dX12_selectPath_2 : decode cX12_selectPath 2 = .ok (.iload_n 3, 1) := by decide +kernel
theorem dX12_selectPath_3 : decode cX12_selectPath 3 = .ok (.aload_n 0, 1) := by decide +kernel
theorem dX12_selectPath_4 : decode cX12_selectPath 4 = .ok (.getfield 7, 3) := by decide +kernel
theorem dX12_selectPath_7 : decode cX12_selectPath 7 = .ok (.iconst 0, 1) := by decide +kernel
theorem dX12_selectPath_8 : decode cX12_selectPath 8 = .ok (.iaload, 1) := by decide +kernel
theorem dX12_selectPath_9 : decode cX12_selectPath 9 = .ok (.if_icmp .ge 39, 3) := by decide +kernel
theorem dX12_selectPath_12 : decode cX12_selectPath 12 = .ok (.aload_n 0, 1) := by decide +kernel
theorem dX12_selectPath_13 : decode cX12_selectPath 13 = .ok (.getfield 47, 3) := by decide +kernel
theorem dX12_selectPath_16 : decode cX12_selectPath 16 = .ok (.iload_n 3, 1) := by decide +kernel
theorem dX12_selectPath_17 : decode cX12_selectPath 17 = .ok (.iload_n 3, 1) := by decide +kernel
theorem dX12_selectPath_18 : decode cX12_selectPath 18 = .ok (.aload_n 0, 1) := by decide +kernel
theorem dX12_selectPath_19 : decode cX12_selectPath 19 = .ok (.getfield 28, 3) := by decide +kernel
theorem dX12_selectPath_22 : decode cX12_selectPath 22 = .ok (.iload_n 1, 1) := by decide +kernel
theorem dX12_selectPath_23 : decode cX12_selectPath 23 = .ok (.iaload, 1) := by decide +kernel
theorem dX12_selectPath_24 : decode cX12_selectPath 24 = .ok (.iconst 1, 1) := by decide +kernel
theorem dX12_selectPath_25 : decode cX12_selectPath 25 = .ok (.if_icmp .ne 7, 3) := by decide +kernel
theorem dX12_selectPath_28 : decode cX12_selectPath 28 = .ok (.iconst 0, 1) := by decide +kernel
theorem dX12_selectPath_29 : decode cX12_selectPath 29 = .ok (.goto 4, 3) := by decide +kernel
theorem dX12_selectPath_32 : decode cX12_selectPath 32 = .ok (.iload_n 2, 1) := by decide +kernel
theorem dX12_selectPath_33 : decode cX12_selectPath 33 = .ok (.if_icmp .ne 7, 3) := by decide +kernel
theorem dX12_selectPath_36 : decode cX12_selectPath 36 = .ok (.iconst 1, 1) := by decide +kernel
theorem dX12_selectPath_37 : decode cX12_selectPath 37 = .ok (.goto 4, 3) := by decide +kernel
theorem dX12_selectPath_40 : decode cX12_selectPath 40 = .ok (.iconst 0, 1) := by decide +kernel
theorem dX12_selectPath_41 : decode cX12_selectPath 41 = .ok (.bastore, 1) := by decide +kernel
theorem dX12_selectPath_42 : decode cX12_selectPath 42 = .ok (.iinc 3 1, 3) := by decide +kernel
theorem dX12_selectPath_45 : decode cX12_selectPath 45 = .ok (.goto (-43), 3) := by decide +kernel
theorem dX12_selectPath_48 : decode cX12_selectPath 48 = .ok (.iconst 0, 1) := by decide +kernel
theorem dX12_selectPath_49 : decode cX12_selectPath 49 = .ok (.istore_n 3, 1) := by decide +kernel
theorem dX12_selectPath_50 : decode cX12_selectPath 50 = .ok (.iload_n 3, 1) := by decide +kernel
theorem dX12_selectPath_51 : decode cX12_selectPath 51 = .ok (.aload_n 0, 1) := by decide +kernel
theorem dX12_selectPath_52 : decode cX12_selectPath 52 = .ok (.getfield 28, 3) := by decide +kernel
theorem dX12_selectPath_55 : decode cX12_selectPath 55 = .ok (.iload_n 1, 1) := by decide +kernel
theorem dX12_selectPath_56 : decode cX12_selectPath 56 = .ok (.iconst 1, 1) := by decide +kernel
theorem dX12_selectPath_57 : decode cX12_selectPath 57 = .ok (.iadd, 1) := by decide +kernel
theorem dX12_selectPath_58 : decode cX12_selectPath 58 = .ok (.iaload, 1) := by decide +kernel
theorem dX12_selectPath_59 : decode cX12_selectPath 59 = .ok (.if_icmp .ge 143, 3) := by decide +kernel
theorem dX12_selectPath_62 : decode cX12_selectPath 62 = .ok (.iconst 0, 1) := by decide +kernel
theorem dX12_selectPath_63 : decode cX12_selectPath 63 = .ok (.istore 4, 2) := by decide +kernel
theorem dX12_selectPath_65 : decode cX12_selectPath 65 = .ok (.iload 4, 2) := by decide +kernel
theorem dX12_selectPath_67 : decode cX12_selectPath 67 = .ok (.aload_n 0, 1) := by decide +kernel
theorem dX12_selectPath_68 : decode cX12_selectPath 68 = .ok (.getfield 7, 3) := by decide +kernel
theorem dX12_selectPath_71 : decode cX12_selectPath 71 = .ok (.iconst 0, 1) := by decide +kernel
theorem dX12_selectPath_72 : decode cX12_selectPath 72 = .ok (.iaload, 1) := by decide +kernel
theorem dX12_selectPath_73 : decode cX12_selectPath 73 = .ok (.if_icmp .ge 17, 3) := by decide +kernel
theorem dX12_selectPath_76 : decode cX12_selectPath 76 = .ok (.aload_n 0, 1) := by decide +kernel
theorem dX12_selectPath_77 : decode cX12_selectPath 77 = .ok (.getfield 50, 3) := by decide +kernel
theorem dX12_selectPath_80 : decode cX12_selectPath 80 = .ok (.iload 4, 2) := by decide +kernel
theorem dX12_selectPath_82 : decode cX12_selectPath 82 = .ok (.iconst 0, 1) := by decide +kernel
theorem dX12_selectPath_83 : decode cX12_selectPath 83 = .ok (.bastore, 1) := by decide +kernel
theorem dX12_selectPath_84 : decode cX12_selectPath 84 = .ok (.iinc 4 1, 3) := by decide +kernel
theorem dX12_selectPath_87 : decode cX12_selectPath 87 = .ok (.goto (-22), 3) := by decide +kernel
theorem dX12_selectPath_90 : decode cX12_selectPath 90 = .ok (.iconst 0, 1) := by decide +kernel
theorem dX12_selectPath_91 : decode cX12_selectPath 91 = .ok (.istore 4, 2) := by decide +kernel
theorem dX12_selectPath_93 : decode cX12_selectPath 93 = .ok (.iload 4, 2) := by decide +kernel
theorem dX12_selectPath_95 : decode cX12_selectPath 95 = .ok (.aload_n 0, 1) := by decide +kernel
theorem dX12_selectPath_96 : decode cX12_selectPath 96 = .ok (.getfield 7, 3) := by decide +kernel
theorem dX12_selectPath_99 : decode cX12_selectPath 99 = .ok (.iconst 0, 1) := by decide +kernel
theorem dX12_selectPath_100 : decode cX12_selectPath 100 = .ok (.iaload, 1) := by decide +kernel
theorem dX12_selectPath_101 : decode cX12_selectPath 101 = .ok (.if_icmp .ge 61, 3) := by decide +kernel
theorem dX12_selectPath_104 : decode cX12_selectPath 104 = .ok (.aload_n 0, 1) := by decide +kernel
theorem dX12_selectPath_105 : decode cX12_selectPath 105 = .ok (.getfield 47, 3) := by decide +kernel
theorem dX12_selectPath_108 : decode cX12_selectPath 108 = .ok (.iload 4, 2) := by decide +kernel
theorem dX12_selectPath_110 : decode cX12_selectPath 110 = .ok (.baload, 1) := by decide +kernel
theorem dX12_selectPath_111 : decode cX12_selectPath 111 = .ok (.ifCond .eq 45, 3) := by decide +kernel
theorem dX12_selectPath_114 : decode cX12_selectPath 114 = .ok (.aload_n 0, 1) := by decide +kernel
theorem dX12_selectPath_115 : decode cX12_selectPath 115 = .ok (.iload_n 1, 1) := by decide +kernel
theorem dX12_selectPath_116 : decode cX12_selectPath 116 = .ok (.iload_n 3, 1) := by decide +kernel
theorem dX12_selectPath_117 : decode cX12_selectPath 117 = .ok (.invokestatic 165, 3) := by decide +kernel
theorem dX12_selectPath_120 : decode cX12_selectPath 120 = .ok (.iload 4, 2) := by decide +kernel
theorem dX12_selectPath_122 : decode cX12_selectPath 122 = .ok (.invokevirtual 260, 3) := by decide +kernel
theorem dX12_selectPath_125 : decode cX12_selectPath 125 = .ok (.iconst 0, 1) := by decide +kernel
theorem dX12_selectPath_126 : decode cX12_selectPath 126 = .ok (.istore 5, 2) := by decide +kernel
theorem dX12_selectPath_128 : decode cX12_selectPath 128 = .ok (.iload 5, 2) := by decide +kernel
theorem dX12_selectPath_130 : decode cX12_selectPath 130 = .ok (.aload_n 0, 1) := by decide +kernel
theorem dX12_selectPath_131 : decode cX12_selectPath 131 = .ok (.getfield 254, 3) := by decide +kernel
theorem dX12_selectPath_134 : decode cX12_selectPath 134 = .ok (.if_icmp .ge 22, 3) := by decide +kernel
theorem dX12_selectPath_137 : decode cX12_selectPath 137 = .ok (.aload_n 0, 1) := by decide +kernel
theorem dX12_selectPath_138 : decode cX12_selectPath 138 = .ok (.getfield 50, 3) := by decide +kernel
theorem dX12_selectPath_141 : decode cX12_selectPath 141 = .ok (.aload_n 0, 1) := by decide +kernel
theorem dX12_selectPath_142 : decode cX12_selectPath 142 = .ok (.getfield 44, 3) := by decide +kernel
theorem dX12_selectPath_145 : decode cX12_selectPath 145 = .ok (.iload 5, 2) := by decide +kernel
theorem dX12_selectPath_147 : decode cX12_selectPath 147 = .ok (.iaload, 1) := by decide +kernel
theorem dX12_selectPath_148 : decode cX12_selectPath 148 = .ok (.iconst 1, 1) := by decide +kernel
theorem dX12_selectPath_149 : decode cX12_selectPath 149 = .ok (.bastore, 1) := by decide +kernel
theorem dX12_selectPath_150 : decode cX12_selectPath 150 = .ok (.iinc 5 1, 3) := by decide +kernel
theorem dX12_selectPath_153 : decode cX12_selectPath 153 = .ok (.goto (-25), 3) := by decide +kernel
theorem dX12_selectPath_156 : decode cX12_selectPath 156 = .ok (.iinc 4 1, 3) := by decide +kernel
theorem dX12_selectPath_159 : decode cX12_selectPath 159 = .ok (.goto (-66), 3) := by decide +kernel
theorem dX12_selectPath_162 : decode cX12_selectPath 162 = .ok (.iconst 0, 1) := by decide +kernel
theorem dX12_selectPath_163 : decode cX12_selectPath 163 = .ok (.istore 4, 2) := by decide +kernel
theorem dX12_selectPath_165 : decode cX12_selectPath 165 = .ok (.iload 4, 2) := by decide +kernel
theorem dX12_selectPath_167 : decode cX12_selectPath 167 = .ok (.aload_n 0, 1) := by decide +kernel
theorem dX12_selectPath_168 : decode cX12_selectPath 168 = .ok (.getfield 7, 3) := by decide +kernel
theorem dX12_selectPath_171 : decode cX12_selectPath 171 = .ok (.iconst 0, 1) := by decide +kernel
theorem dX12_selectPath_172 : decode cX12_selectPath 172 = .ok (.iaload, 1) := by decide +kernel
theorem dX12_selectPath_173 : decode cX12_selectPath 173 = .ok (.if_icmp .ge 23, 3) := by decide +kernel
theorem dX12_selectPath_176 : decode cX12_selectPath 176 = .ok (.aload_n 0, 1) := by decide +kernel
theorem dX12_selectPath_177 : decode cX12_selectPath 177 = .ok (.getfield 47, 3) := by decide +kernel
theorem dX12_selectPath_180 : decode cX12_selectPath 180 = .ok (.iload 4, 2) := by decide +kernel
theorem dX12_selectPath_182 : decode cX12_selectPath 182 = .ok (.aload_n 0, 1) := by decide +kernel
theorem dX12_selectPath_183 : decode cX12_selectPath 183 = .ok (.getfield 50, 3) := by decide +kernel
theorem dX12_selectPath_186 : decode cX12_selectPath 186 = .ok (.iload 4, 2) := by decide +kernel
theorem dX12_selectPath_188 : decode cX12_selectPath 188 = .ok (.baload, 1) := by decide +kernel
theorem dX12_selectPath_189 : decode cX12_selectPath 189 = .ok (.bastore, 1) := by decide +kernel
theorem dX12_selectPath_190 : decode cX12_selectPath 190 = .ok (.iinc 4 1, 3) := by decide +kernel
theorem dX12_selectPath_193 : decode cX12_selectPath 193 = .ok (.goto (-28), 3) := by decide +kernel
theorem dX12_selectPath_196 : decode cX12_selectPath 196 = .ok (.iinc 3 1, 3) := by decide +kernel
theorem dX12_selectPath_199 : decode cX12_selectPath 199 = .ok (.goto (-149), 3) := by decide +kernel
theorem dX12_selectPath_202 : decode cX12_selectPath 202 = .ok (.return_, 1) := by decide +kernel
theorem dX12_select_0 : decode cX12_select 0 = .ok (.iconst 0, 1) := by decide +kernel
theorem dX12_select_1 : decode cX12_select 1 = .ok (.istore_n 2, 1) := by decide +kernel
theorem dX12_select_2 : decode cX12_select 2 = .ok (.iload_n 2, 1) := by decide +kernel
theorem dX12_select_3 : decode cX12_select 3 = .ok (.bipush 40, 2) := by decide +kernel
theorem dX12_select_5 : decode cX12_select 5 = .ok (.if_icmp .ge 16, 3) := by decide +kernel
theorem dX12_select_8 : decode cX12_select 8 = .ok (.aload_n 0, 1) := by decide +kernel
theorem dX12_select_9 : decode cX12_select 9 = .ok (.getfield 53, 3) := by decide +kernel
theorem dX12_select_12 : decode cX12_select 12 = .ok (.iload_n 2, 1) := by decide +kernel
theorem dX12_select_13 : decode cX12_select 13 = .ok (.iconst 0, 1) := by decide +kernel
theorem dX12_select_14 : decode cX12_select 14 = .ok (.bastore, 1) := by decide +kernel
theorem dX12_select_15 : decode cX12_select 15 = .ok (.iinc 2 1, 3) := by decide +kernel
theorem dX12_select_18 : decode cX12_select 18 = .ok (.goto (-16), 3) := by decide +kernel
theorem dX12_select_21 : decode cX12_select 21 = .ok (.iconst 0, 1) := by decide +kernel
theorem dX12_select_22 : decode cX12_select 22 = .ok (.istore_n 2, 1) := by decide +kernel
theorem dX12_select_23 : decode cX12_select 23 = .ok (.iload_n 2, 1) := by decide +kernel
theorem dX12_select_24 : decode cX12_select 24 = .ok (.aload_n 0, 1) := by decide +kernel
theorem dX12_select_25 : decode cX12_select 25 = .ok (.getfield 28, 3) := by decide +kernel
theorem dX12_select_28 : decode cX12_select 28 = .ok (.iconst 0, 1) := by decide +kernel
theorem dX12_select_29 : decode cX12_select 29 = .ok (.iaload, 1) := by decide +kernel
theorem dX12_select_30 : decode cX12_select 30 = .ok (.if_icmp .ge 65, 3) := by decide +kernel
theorem dX12_select_33 : decode cX12_select 33 = .ok (.aload_n 0, 1) := by decide +kernel
theorem dX12_select_34 : decode cX12_select 34 = .ok (.iload_n 2, 1) := by decide +kernel
theorem dX12_select_35 : decode cX12_select 35 = .ok (.invokestatic 180, 3) := by decide +kernel
theorem dX12_select_38 : decode cX12_select 38 = .ok (.iload_n 1, 1) := by decide +kernel
theorem dX12_select_39 : decode cX12_select 39 = .ok (.invokevirtual 263, 3) := by decide +kernel
theorem dX12_select_42 : decode cX12_select 42 = .ok (.iconst 0, 1) := by decide +kernel
theorem dX12_select_43 : decode cX12_select 43 = .ok (.istore_n 3, 1) := by decide +kernel
theorem dX12_select_44 : decode cX12_select 44 = .ok (.iload_n 3, 1) := by decide +kernel
theorem dX12_select_45 : decode cX12_select 45 = .ok (.aload_n 0, 1) := by decide +kernel
theorem dX12_select_46 : decode cX12_select 46 = .ok (.getfield 7, 3) := by decide +kernel
theorem dX12_select_49 : decode cX12_select 49 = .ok (.iconst 0, 1) := by decide +kernel
theorem dX12_select_50 : decode cX12_select 50 = .ok (.iaload, 1) := by decide +kernel
theorem dX12_select_51 : decode cX12_select 51 = .ok (.if_icmp .ge 38, 3) := by decide +kernel
theorem dX12_select_54 : decode cX12_select 54 = .ok (.aload_n 0, 1) := by decide +kernel
theorem dX12_select_55 : decode cX12_select 55 = .ok (.getfield 53, 3) := by decide +kernel
theorem dX12_select_58 : decode cX12_select 58 = .ok (.iload_n 3, 1) := by decide +kernel
theorem dX12_select_59 : decode cX12_select 59 = .ok (.aload_n 0, 1) := by decide +kernel
theorem dX12_select_60 : decode cX12_select 60 = .ok (.getfield 53, 3) := by decide +kernel
theorem dX12_select_63 : decode cX12_select 63 = .ok (.iload_n 3, 1) := by decide +kernel
theorem dX12_select_64 : decode cX12_select 64 = .ok (.baload, 1) := by decide +kernel
theorem dX12_select_65 : decode cX12_select 65 = .ok (.ifCond .ne 12, 3) := by decide +kernel
theorem dX12_select_68 : decode cX12_select 68 = .ok (.aload_n 0, 1) := by decide +kernel
theorem dX12_select_69 : decode cX12_select 69 = .ok (.getfield 47, 3) := by decide +kernel
theorem dX12_select_72 : decode cX12_select 72 = .ok (.iload_n 3, 1) := by decide +kernel
theorem dX12_select_73 : decode cX12_select 73 = .ok (.baload, 1) := by decide +kernel
theorem dX12_select_74 : decode cX12_select 74 = .ok (.ifCond .eq 7, 3) := by decide +kernel
theorem dX12_select_77 : decode cX12_select 77 = .ok (.iconst 1, 1) := by decide +kernel
theorem dX12_select_78 : decode cX12_select 78 = .ok (.goto 4, 3) := by decide +kernel
theorem dX12_select_81 : decode cX12_select 81 = .ok (.iconst 0, 1) := by decide +kernel
theorem dX12_select_82 : decode cX12_select 82 = .ok (.bastore, 1) := by decide +kernel
theorem dX12_select_83 : decode cX12_select 83 = .ok (.iinc 3 1, 3) := by decide +kernel
theorem dX12_select_86 : decode cX12_select 86 = .ok (.goto (-42), 3) := by decide +kernel
theorem dX12_select_89 : decode cX12_select 89 = .ok (.iinc 2 1, 3) := by decide +kernel
theorem dX12_select_92 : decode cX12_select 92 = .ok (.goto (-69), 3) := by decide +kernel
theorem dX12_select_95 : decode cX12_select 95 = .ok (.return_, 1) := by decide +kernel
theorem dX12_selectedCount_0 : decode cX12_selectedCount 0 = .ok (.iconst 0, 1) := by decide +kernel
theorem dX12_selectedCount_1 : decode cX12_selectedCount 1 = .ok (.istore_n 1, 1) := by decide +kernel
theorem dX12_selectedCount_2 : decode cX12_selectedCount 2 = .ok (.iconst 0, 1) := by decide +kernel
theorem dX12_selectedCount_3 : decode cX12_selectedCount 3 = .ok (.istore_n 2, 1) := by decide +kernel
theorem dX12_selectedCount_4 : decode cX12_selectedCount 4 = .ok (.iload_n 2, 1) := by decide +kernel
theorem dX12_selectedCount_5 : decode cX12_selectedCount 5 = .ok (.aload_n 0, 1) := by decide +kernel
theorem dX12_selectedCount_6 : decode cX12_selectedCount 6 = .ok (.getfield 7, 3) := by decide +kernel
theorem dX12_selectedCount_9 : decode cX12_selectedCount 9 = .ok (.iconst 0, 1) := by decide +kernel
theorem dX12_selectedCount_10 : decode cX12_selectedCount 10 = .ok (.iaload, 1) := by decide +kernel
theorem dX12_selectedCount_11 : decode cX12_selectedCount 11 = .ok (.if_icmp .ge 26, 3) := by decide +kernel
theorem dX12_selectedCount_14 : decode cX12_selectedCount 14 = .ok (.iload_n 1, 1) := by decide +kernel
theorem dX12_selectedCount_15 : decode cX12_selectedCount 15 = .ok (.aload_n 0, 1) := by decide +kernel
theorem dX12_selectedCount_16 : decode cX12_selectedCount 16 = .ok (.getfield 53, 3) := by decide +kernel
theorem dX12_selectedCount_19 : decode cX12_selectedCount 19 = .ok (.iload_n 2, 1) := by decide +kernel
theorem dX12_selectedCount_20 : decode cX12_selectedCount 20 = .ok (.baload, 1) := by decide +kernel
theorem dX12_selectedCount_21 : decode cX12_selectedCount 21 = .ok (.ifCond .eq 7, 3) := by decide +kernel
theorem dX12_selectedCount_24 : decode cX12_selectedCount 24 = .ok (.iconst 1, 1) := by decide +kernel
theorem dX12_selectedCount_25 : decode cX12_selectedCount 25 = .ok (.goto 4, 3) := by decide +kernel
theorem dX12_selectedCount_28 : decode cX12_selectedCount 28 = .ok (.iconst 0, 1) := by decide +kernel
theorem dX12_selectedCount_29 : decode cX12_selectedCount 29 = .ok (.iadd, 1) := by decide +kernel
theorem dX12_selectedCount_30 : decode cX12_selectedCount 30 = .ok (.istore_n 1, 1) := by decide +kernel
theorem dX12_selectedCount_31 : decode cX12_selectedCount 31 = .ok (.iinc 2 1, 3) := by decide +kernel
theorem dX12_selectedCount_34 : decode cX12_selectedCount 34 = .ok (.goto (-30), 3) := by decide +kernel
theorem dX12_selectedCount_37 : decode cX12_selectedCount 37 = .ok (.iload_n 1, 1) := by decide +kernel
theorem dX12_selectedCount_38 : decode cX12_selectedCount 38 = .ok (.ireturn, 1) := by decide +kernel
theorem dX12_selectedSum_0 : decode cX12_selectedSum 0 = .ok (.iconst 0, 1) := by decide +kernel
theorem dX12_selectedSum_1 : decode cX12_selectedSum 1 = .ok (.istore_n 1, 1) := by decide +kernel
theorem dX12_selectedSum_2 : decode cX12_selectedSum 2 = .ok (.iconst 0, 1) := by decide +kernel
theorem dX12_selectedSum_3 : decode cX12_selectedSum 3 = .ok (.istore_n 2, 1) := by decide +kernel
theorem dX12_selectedSum_4 : decode cX12_selectedSum 4 = .ok (.iload_n 2, 1) := by decide +kernel
theorem dX12_selectedSum_5 : decode cX12_selectedSum 5 = .ok (.aload_n 0, 1) := by decide +kernel
theorem dX12_selectedSum_6 : decode cX12_selectedSum 6 = .ok (.getfield 7, 3) := by decide +kernel
theorem dX12_selectedSum_9 : decode cX12_selectedSum 9 = .ok (.iconst 0, 1) := by decide +kernel
theorem dX12_selectedSum_10 : decode cX12_selectedSum 10 = .ok (.iaload, 1) := by decide +kernel
theorem dX12_selectedSum_11 : decode cX12_selectedSum 11 = .ok (.if_icmp .ge 30, 3) := by decide +kernel
theorem dX12_selectedSum_14 : decode cX12_selectedSum 14 = .ok (.iload_n 1, 1) := by decide +kernel
theorem dX12_selectedSum_15 : decode cX12_selectedSum 15 = .ok (.aload_n 0, 1) := by decide +kernel
theorem dX12_selectedSum_16 : decode cX12_selectedSum 16 = .ok (.getfield 53, 3) := by decide +kernel
theorem dX12_selectedSum_19 : decode cX12_selectedSum 19 = .ok (.iload_n 2, 1) := by decide +kernel
theorem dX12_selectedSum_20 : decode cX12_selectedSum 20 = .ok (.baload, 1) := by decide +kernel
theorem dX12_selectedSum_21 : decode cX12_selectedSum 21 = .ok (.ifCond .eq 11, 3) := by decide +kernel
theorem dX12_selectedSum_24 : decode cX12_selectedSum 24 = .ok (.aload_n 0, 1) := by decide +kernel
theorem dX12_selectedSum_25 : decode cX12_selectedSum 25 = .ok (.iload_n 2, 1) := by decide +kernel
theorem dX12_selectedSum_26 : decode cX12_selectedSum 26 = .ok (.invokevirtual 108, 3) := by decide +kernel
theorem dX12_selectedSum_29 : decode cX12_selectedSum 29 = .ok (.goto 4, 3) := by decide +kernel
theorem dX12_selectedSum_32 : decode cX12_selectedSum 32 = .ok (.iconst 0, 1) := by decide +kernel
theorem dX12_selectedSum_33 : decode cX12_selectedSum 33 = .ok (.iadd, 1) := by decide +kernel
theorem dX12_selectedSum_34 : decode cX12_selectedSum 34 = .ok (.istore_n 1, 1) := by decide +kernel
theorem dX12_selectedSum_35 : decode cX12_selectedSum 35 = .ok (.iinc 2 1, 3) := by decide +kernel
theorem dX12_selectedSum_38 : decode cX12_selectedSum 38 = .ok (.goto (-34), 3) := by decide +kernel
theorem dX12_selectedSum_41 : decode cX12_selectedSum 41 = .ok (.iload_n 1, 1) := by decide +kernel
theorem dX12_selectedSum_42 : decode cX12_selectedSum 42 = .ok (.ireturn, 1) := by decide +kernel
theorem dX12_count_0 : decode cX12_count 0 = .ok (.aload_n 0, 1) := by decide +kernel
theorem dX12_count_1 : decode cX12_count 1 = .ok (.iload_n 1, 1) := by decide +kernel
theorem dX12_count_2 : decode cX12_count 2 = .ok (.invokestatic 217, 3) := by decide +kernel
theorem dX12_count_5 : decode cX12_count 5 = .ok (.ifCond .eq 11, 3) := by decide +kernel
theorem dX12_count_8 : decode cX12_count 8 = .ok (.aload_n 0, 1) := by decide +kernel
theorem dX12_count_9 : decode cX12_count 9 = .ok (.iload_n 2, 1) := by decide +kernel
theorem dX12_count_10 : decode cX12_count 10 = .ok (.invokevirtual 77, 3) := by decide +kernel
theorem dX12_count_13 : decode cX12_count 13 = .ok (.ifCond .ne 7, 3) := by decide +kernel
theorem dX12_count_16 : decode cX12_count 16 = .ok (.iconst 1, 1) := by decide +kernel
theorem dX12_count_17 : decode cX12_count 17 = .ok (.goto 16, 3) := by decide +kernel
theorem dX12_count_20 : decode cX12_count 20 = .ok (.aload_n 0, 1) := by decide +kernel
theorem dX12_count_21 : decode cX12_count 21 = .ok (.iload_n 1, 1) := by decide +kernel
theorem dX12_count_22 : decode cX12_count 22 = .ok (.invokevirtual 223, 3) := by decide +kernel
theorem dX12_count_25 : decode cX12_count 25 = .ok (.ifCond .eq 7, 3) := by decide +kernel
theorem dX12_count_28 : decode cX12_count 28 = .ok (.iconst 0, 1) := by decide +kernel
theorem dX12_count_29 : decode cX12_count 29 = .ok (.goto 4, 3) := by decide +kernel
theorem dX12_count_32 : decode cX12_count 32 = .ok (.iconst 2, 1) := by decide +kernel
theorem dX12_count_33 : decode cX12_count 33 = .ok (.putfield 62, 3) := by decide +kernel
theorem dX12_count_36 : decode cX12_count 36 = .ok (.aload_n 0, 1) := by decide +kernel
theorem dX12_count_37 : decode cX12_count 37 = .ok (.getfield 62, 3) := by decide +kernel
theorem dX12_count_40 : decode cX12_count 40 = .ok (.ifCond .eq 5, 3) := by decide +kernel
theorem dX12_count_43 : decode cX12_count 43 = .ok (.iconst 0, 1) := by decide +kernel
theorem dX12_count_44 : decode cX12_count 44 = .ok (.ireturn, 1) := by decide +kernel
theorem dX12_count_45 : decode cX12_count 45 = .ok (.aload_n 0, 1) := by decide +kernel
theorem dX12_count_46 : decode cX12_count 46 = .ok (.iload_n 1, 1) := by decide +kernel
theorem dX12_count_47 : decode cX12_count 47 = .ok (.invokevirtual 235, 3) := by decide +kernel
theorem dX12_count_50 : decode cX12_count 50 = .ok (.aload_n 0, 1) := by decide +kernel
theorem dX12_count_51 : decode cX12_count 51 = .ok (.iload_n 2, 1) := by decide +kernel
theorem dX12_count_52 : decode cX12_count 52 = .ok (.invokevirtual 266, 3) := by decide +kernel
theorem dX12_count_55 : decode cX12_count 55 = .ok (.aload_n 0, 1) := by decide +kernel
theorem dX12_count_56 : decode cX12_count 56 = .ok (.invokevirtual 269, 3) := by decide +kernel
theorem dX12_count_59 : decode cX12_count 59 = .ok (.ireturn, 1) := by decide +kernel
theorem dX12_selected_0 : decode cX12_selected 0 = .ok (.aload_n 0, 1) := by decide +kernel
theorem dX12_selected_1 : decode cX12_selected 1 = .ok (.iload_n 1, 1) := by decide +kernel
theorem dX12_selected_2 : decode cX12_selected 2 = .ok (.invokestatic 217, 3) := by decide +kernel
theorem dX12_selected_5 : decode cX12_selected 5 = .ok (.ifCond .eq 11, 3) := by decide +kernel
theorem dX12_selected_8 : decode cX12_selected 8 = .ok (.aload_n 0, 1) := by decide +kernel
theorem dX12_selected_9 : decode cX12_selected 9 = .ok (.iload_n 2, 1) := by decide +kernel
theorem dX12_selected_10 : decode cX12_selected 10 = .ok (.invokevirtual 77, 3) := by decide +kernel
theorem dX12_selected_13 : decode cX12_selected 13 = .ok (.ifCond .ne 7, 3) := by decide +kernel
theorem dX12_selected_16 : decode cX12_selected 16 = .ok (.iconst 1, 1) := by decide +kernel
theorem dX12_selected_17 : decode cX12_selected 17 = .ok (.goto 24, 3) := by decide +kernel
theorem dX12_selected_20 : decode cX12_selected 20 = .ok (.iload_n 3, 1) := by decide +kernel
theorem dX12_selected_21 : decode cX12_selected 21 = .ok (.ifCond .ge 7, 3) := by decide +kernel
theorem dX12_selected_24 : decode cX12_selected 24 = .ok (.iconst 2, 1) := by decide +kernel
theorem dX12_selected_25 : decode cX12_selected 25 = .ok (.goto 16, 3) := by decide +kernel
theorem dX12_selected_28 : decode cX12_selected 28 = .ok (.aload_n 0, 1) := by decide +kernel
theorem dX12_selected_29 : decode cX12_selected 29 = .ok (.iload_n 1, 1) := by decide +kernel
theorem dX12_selected_30 : decode cX12_selected 30 = .ok (.invokevirtual 223, 3) := by decide +kernel
theorem dX12_selected_33 : decode cX12_selected 33 = .ok (.ifCond .eq 7, 3) := by decide +kernel
theorem dX12_selected_36 : decode cX12_selected 36 = .ok (.iconst 0, 1) := by decide +kernel
theorem dX12_selected_37 : decode cX12_selected 37 = .ok (.goto 4, 3) := by decide +kernel
theorem dX12_selected_40 : decode cX12_selected 40 = .ok (.iconst 3, 1) := by decide +kernel
theorem dX12_selected_41 : decode cX12_selected 41 = .ok (.putfield 62, 3) := by decide +kernel
theorem dX12_selected_44 : decode cX12_selected 44 = .ok (.aload_n 0, 1) := by decide +kernel
theorem dX12_selected_45 : decode cX12_selected 45 = .ok (.getfield 62, 3) := by decide +kernel
theorem dX12_selected_48 : decode cX12_selected 48 = .ok (.ifCond .eq 5, 3) := by decide +kernel
theorem dX12_selected_51 : decode cX12_selected 51 = .ok (.iconst 0, 1) := by decide +kernel
theorem dX12_selected_52 : decode cX12_selected 52 = .ok (.ireturn, 1) := by decide +kernel
theorem dX12_selected_53 : decode cX12_selected 53 = .ok (.aload_n 0, 1) := by decide +kernel
theorem dX12_selected_54 : decode cX12_selected 54 = .ok (.iload_n 1, 1) := by decide +kernel
theorem dX12_selected_55 : decode cX12_selected 55 = .ok (.invokevirtual 235, 3) := by decide +kernel
theorem dX12_selected_58 : decode cX12_selected 58 = .ok (.aload_n 0, 1) := by decide +kernel
theorem dX12_selected_59 : decode cX12_selected 59 = .ok (.iload_n 2, 1) := by decide +kernel
theorem dX12_selected_60 : decode cX12_selected 60 = .ok (.invokevirtual 266, 3) := by decide +kernel
theorem dX12_selected_63 : decode cX12_selected 63 = .ok (.iload_n 3, 1) := by decide +kernel
theorem dX12_selected_64 : decode cX12_selected 64 = .ok (.istore 4, 2) := by decide +kernel
theorem dX12_selected_66 : decode cX12_selected 66 = .ok (.iconst 0, 1) := by decide +kernel
theorem dX12_selected_67 : decode cX12_selected 67 = .ok (.istore 5, 2) := by decide +kernel
theorem dX12_selected_69 : decode cX12_selected 69 = .ok (.iload 5, 2) := by decide +kernel
theorem dX12_selected_71 : decode cX12_selected 71 = .ok (.aload_n 0, 1) := by decide +kernel
theorem dX12_selected_72 : decode cX12_selected 72 = .ok (.getfield 7, 3) := by decide +kernel
theorem dX12_selected_75 : decode cX12_selected 75 = .ok (.iconst 0, 1) := by decide +kernel
theorem dX12_selected_76 : decode cX12_selected 76 = .ok (.iaload, 1) := by decide +kernel
theorem dX12_selected_77 : decode cX12_selected 77 = .ok (.if_icmp .ge 47, 3) := by decide +kernel
theorem dX12_selected_80 : decode cX12_selected 80 = .ok (.aload_n 0, 1) := by decide +kernel
theorem dX12_selected_81 : decode cX12_selected 81 = .ok (.getfield 53, 3) := by decide +kernel
theorem dX12_selected_84 : decode cX12_selected 84 = .ok (.iload 5, 2) := by decide +kernel
theorem dX12_selected_86 : decode cX12_selected 86 = .ok (.baload, 1) := by decide +kernel
theorem dX12_selected_87 : decode cX12_selected 87 = .ok (.ifCond .eq 11, 3) := by decide +kernel
theorem dX12_selected_90 : decode cX12_selected 90 = .ok (.iload 4, 2) := by decide +kernel
theorem dX12_selected_92 : decode cX12_selected 92 = .ok (.ifCond .ne 6, 3) := by decide +kernel
theorem dX12_selected_95 : decode cX12_selected 95 = .ok (.iload 5, 2) := by decide +kernel
theorem dX12_selected_97 : decode cX12_selected 97 = .ok (.ireturn, 1) := by decide +kernel
theorem dX12_selected_98 : decode cX12_selected 98 = .ok (.iload 4, 2) := by decide +kernel
theorem dX12_selected_100 : decode cX12_selected 100 = .ok (.aload_n 0, 1) := by decide +kernel
theorem dX12_selected_101 : decode cX12_selected 101 = .ok (.getfield 53, 3) := by decide +kernel
theorem dX12_selected_104 : decode cX12_selected 104 = .ok (.iload 5, 2) := by decide +kernel
theorem dX12_selected_106 : decode cX12_selected 106 = .ok (.baload, 1) := by decide +kernel
theorem dX12_selected_107 : decode cX12_selected 107 = .ok (.ifCond .eq 7, 3) := by decide +kernel
theorem dX12_selected_110 : decode cX12_selected 110 = .ok (.iconst 1, 1) := by decide +kernel
theorem dX12_selected_111 : decode cX12_selected 111 = .ok (.goto 4, 3) := by decide +kernel
theorem dX12_selected_114 : decode cX12_selected 114 = .ok (.iconst 0, 1) := by decide +kernel
theorem dX12_selected_115 : decode cX12_selected 115 = .ok (.isub, 1) := by decide +kernel
theorem dX12_selected_116 : decode cX12_selected 116 = .ok (.istore 4, 2) := by decide +kernel
theorem dX12_selected_118 : decode cX12_selected 118 = .ok (.iinc 5 1, 3) := by decide +kernel
theorem dX12_selected_121 : decode cX12_selected 121 = .ok (.goto (-52), 3) := by decide +kernel
theorem dX12_selected_124 : decode cX12_selected 124 = .ok (.iconst (-1), 1) := by decide +kernel
theorem dX12_selected_125 : decode cX12_selected 125 = .ok (.ireturn, 1) := by decide +kernel
theorem dX12_sum_0 : decode cX12_sum 0 = .ok (.aload_n 0, 1) := by decide +kernel
theorem dX12_sum_1 : decode cX12_sum 1 = .ok (.iload_n 1, 1) := by decide +kernel
theorem dX12_sum_2 : decode cX12_sum 2 = .ok (.invokestatic 217, 3) := by decide +kernel
theorem dX12_sum_5 : decode cX12_sum 5 = .ok (.ifCond .eq 11, 3) := by decide +kernel
theorem dX12_sum_8 : decode cX12_sum 8 = .ok (.aload_n 0, 1) := by decide +kernel
theorem dX12_sum_9 : decode cX12_sum 9 = .ok (.iload_n 2, 1) := by decide +kernel
theorem dX12_sum_10 : decode cX12_sum 10 = .ok (.invokevirtual 77, 3) := by decide +kernel
theorem dX12_sum_13 : decode cX12_sum 13 = .ok (.ifCond .ne 7, 3) := by decide +kernel
theorem dX12_sum_16 : decode cX12_sum 16 = .ok (.iconst 1, 1) := by decide +kernel
theorem dX12_sum_17 : decode cX12_sum 17 = .ok (.goto 16, 3) := by decide +kernel
theorem dX12_sum_20 : decode cX12_sum 20 = .ok (.aload_n 0, 1) := by decide +kernel
theorem dX12_sum_21 : decode cX12_sum 21 = .ok (.iload_n 1, 1) := by decide +kernel
theorem dX12_sum_22 : decode cX12_sum 22 = .ok (.invokevirtual 223, 3) := by decide +kernel
theorem dX12_sum_25 : decode cX12_sum 25 = .ok (.ifCond .eq 7, 3) := by decide +kernel
theorem dX12_sum_28 : decode cX12_sum 28 = .ok (.iconst 0, 1) := by decide +kernel
theorem dX12_sum_29 : decode cX12_sum 29 = .ok (.goto 4, 3) := by decide +kernel
theorem dX12_sum_32 : decode cX12_sum 32 = .ok (.iconst 2, 1) := by decide +kernel
theorem dX12_sum_33 : decode cX12_sum 33 = .ok (.putfield 62, 3) := by decide +kernel
theorem dX12_sum_36 : decode cX12_sum 36 = .ok (.aload_n 0, 1) := by decide +kernel
theorem dX12_sum_37 : decode cX12_sum 37 = .ok (.getfield 62, 3) := by decide +kernel
theorem dX12_sum_40 : decode cX12_sum 40 = .ok (.ifCond .eq 5, 3) := by decide +kernel
theorem dX12_sum_43 : decode cX12_sum 43 = .ok (.iconst 0, 1) := by decide +kernel
theorem dX12_sum_44 : decode cX12_sum 44 = .ok (.ireturn, 1) := by decide +kernel
theorem dX12_sum_45 : decode cX12_sum 45 = .ok (.aload_n 0, 1) := by decide +kernel
theorem dX12_sum_46 : decode cX12_sum 46 = .ok (.iload_n 1, 1) := by decide +kernel
theorem dX12_sum_47 : decode cX12_sum 47 = .ok (.invokevirtual 235, 3) := by decide +kernel
theorem dX12_sum_50 : decode cX12_sum 50 = .ok (.aload_n 0, 1) := by decide +kernel
theorem dX12_sum_51 : decode cX12_sum 51 = .ok (.iload_n 2, 1) := by decide +kernel
theorem dX12_sum_52 : decode cX12_sum 52 = .ok (.invokevirtual 266, 3) := by decide +kernel
theorem dX12_sum_55 : decode cX12_sum 55 = .ok (.aload_n 0, 1) := by decide +kernel
theorem dX12_sum_56 : decode cX12_sum 56 = .ok (.invokevirtual 272, 3) := by decide +kernel
theorem dX12_sum_59 : decode cX12_sum 59 = .ok (.ireturn, 1) := by decide +kernel
theorem dX12_given_0 : decode cX12_given 0 = .ok (.aload_n 0, 1) := by decide +kernel
theorem dX12_given_1 : decode cX12_given 1 = .ok (.iload_n 1, 1) := by decide +kernel
theorem dX12_given_2 : decode cX12_given 2 = .ok (.invokestatic 217, 3) := by decide +kernel
theorem dX12_given_5 : decode cX12_given 5 = .ok (.ifCond .eq 12, 3) := by decide +kernel
theorem dX12_given_8 : decode cX12_given 8 = .ok (.aload_n 0, 1) := by decide +kernel
theorem dX12_given_9 : decode cX12_given 9 = .ok (.iload 4, 2) := by decide +kernel
theorem dX12_given_11 : decode cX12_given 11 = .ok (.invokevirtual 77, 3) := by decide +kernel
theorem dX12_given_14 : decode cX12_given 14 = .ok (.ifCond .ne 7, 3) := by decide +kernel
theorem dX12_given_17 : decode cX12_given 17 = .ok (.iconst 1, 1) := by decide +kernel
theorem dX12_given_18 : decode cX12_given 18 = .ok (.goto 16, 3) := by decide +kernel
theorem dX12_given_21 : decode cX12_given 21 = .ok (.aload_n 0, 1) := by decide +kernel
theorem dX12_given_22 : decode cX12_given 22 = .ok (.iload_n 1, 1) := by decide +kernel
theorem dX12_given_23 : decode cX12_given 23 = .ok (.invokevirtual 223, 3) := by decide +kernel
theorem dX12_given_26 : decode cX12_given 26 = .ok (.ifCond .eq 7, 3) := by decide +kernel
theorem dX12_given_29 : decode cX12_given 29 = .ok (.iconst 0, 1) := by decide +kernel
theorem dX12_given_30 : decode cX12_given 30 = .ok (.goto 4, 3) := by decide +kernel
theorem dX12_given_33 : decode cX12_given 33 = .ok (.iconst 2, 1) := by decide +kernel
theorem dX12_given_34 : decode cX12_given 34 = .ok (.putfield 62, 3) := by decide +kernel
theorem dX12_given_37 : decode cX12_given 37 = .ok (.aload_n 0, 1) := by decide +kernel
theorem dX12_given_38 : decode cX12_given 38 = .ok (.getfield 62, 3) := by decide +kernel
theorem dX12_given_41 : decode cX12_given 41 = .ok (.ifCond .eq 5, 3) := by decide +kernel
theorem dX12_given_44 : decode cX12_given 44 = .ok (.iconst 0, 1) := by decide +kernel
theorem dX12_given_45 : decode cX12_given 45 = .ok (.ireturn, 1) := by decide +kernel
theorem dX12_given_46 : decode cX12_given 46 = .ok (.aload_n 0, 1) := by decide +kernel
theorem dX12_given_47 : decode cX12_given 47 = .ok (.iload_n 1, 1) := by decide +kernel
theorem dX12_given_48 : decode cX12_given 48 = .ok (.invokevirtual 235, 3) := by decide +kernel
theorem dX12_given_51 : decode cX12_given 51 = .ok (.iload_n 2, 1) := by decide +kernel
theorem dX12_given_52 : decode cX12_given 52 = .ok (.iconst 0, 1) := by decide +kernel
theorem dX12_given_53 : decode cX12_given 53 = .ok (.aload_n 0, 1) := by decide +kernel
theorem dX12_given_54 : decode cX12_given 54 = .ok (.getfield 28, 3) := by decide +kernel
theorem dX12_given_57 : decode cX12_given 57 = .ok (.iconst 0, 1) := by decide +kernel
theorem dX12_given_58 : decode cX12_given 58 = .ok (.iaload, 1) := by decide +kernel
theorem dX12_given_59 : decode cX12_given 59 = .ok (.iconst 1, 1) := by decide +kernel
theorem dX12_given_60 : decode cX12_given 60 = .ok (.isub, 1) := by decide +kernel
theorem dX12_given_61 : decode cX12_given 61 = .ok (.invokestatic 69, 3) := by decide +kernel
theorem dX12_given_64 : decode cX12_given 64 = .ok (.ifCond .eq 24, 3) := by decide +kernel
theorem dX12_given_67 : decode cX12_given 67 = .ok (.iload_n 3, 1) := by decide +kernel
theorem dX12_given_68 : decode cX12_given 68 = .ok (.iconst 0, 1) := by decide +kernel
theorem dX12_given_69 : decode cX12_given 69 = .ok (.aload_n 0, 1) := by decide +kernel
theorem dX12_given_70 : decode cX12_given 70 = .ok (.getfield 28, 3) := by decide +kernel
theorem dX12_given_73 : decode cX12_given 73 = .ok (.iload_n 2, 1) := by decide +kernel
theorem dX12_given_74 : decode cX12_given 74 = .ok (.invokestatic 180, 3) := by decide +kernel
theorem dX12_given_77 : decode cX12_given 77 = .ok (.iconst 1, 1) := by decide +kernel
theorem dX12_given_78 : decode cX12_given 78 = .ok (.iadd, 1) := by decide +kernel
theorem dX12_given_79 : decode cX12_given 79 = .ok (.iaload, 1) := by decide +kernel
theorem dX12_given_80 : decode cX12_given 80 = .ok (.iconst 1, 1) := by decide +kernel
theorem dX12_given_81 : decode cX12_given 81 = .ok (.isub, 1) := by decide +kernel
theorem dX12_given_82 : decode cX12_given 82 = .ok (.invokestatic 69, 3) := by decide +kernel
theorem dX12_given_85 : decode cX12_given 85 = .ok (.ifCond .ne 9, 3) := by decide +kernel
theorem dX12_given_88 : decode cX12_given 88 = .ok (.aload_n 0, 1) := by decide +kernel
theorem dX12_given_89 : decode cX12_given 89 = .ok (.iconst 3, 1) := by decide +kernel
theorem dX12_given_90 : decode cX12_given 90 = .ok (.invokevirtual 102, 3) := by decide +kernel
theorem dX12_given_93 : decode cX12_given 93 = .ok (.ireturn, 1) := by decide +kernel
theorem dX12_given_94 : decode cX12_given 94 = .ok (.aload_n 0, 1) := by decide +kernel
theorem dX12_given_95 : decode cX12_given 95 = .ok (.iload_n 2, 1) := by decide +kernel
theorem dX12_given_96 : decode cX12_given 96 = .ok (.invokestatic 180, 3) := by decide +kernel
theorem dX12_given_99 : decode cX12_given 99 = .ok (.iload_n 3, 1) := by decide +kernel
theorem dX12_given_100 : decode cX12_given 100 = .ok (.invokestatic 165, 3) := by decide +kernel
theorem dX12_given_103 : decode cX12_given 103 = .ok (.iload 4, 2) := by decide +kernel
theorem dX12_given_105 : decode cX12_given 105 = .ok (.invokevirtual 260, 3) := by decide +kernel
theorem dX12_given_108 : decode cX12_given 108 = .ok (.aload_n 0, 1) := by decide +kernel
theorem dX12_given_109 : decode cX12_given 109 = .ok (.getfield 254, 3) := by decide +kernel
theorem dX12_given_112 : decode cX12_given 112 = .ok (.ireturn, 1) := by decide +kernel
theorem dX12_differences_0 : decode cX12_differences 0 = .ok (.aload_n 0, 1) := by decide +kernel
theorem dX12_differences_1 : decode cX12_differences 1 = .ok (.iload_n 1, 1) := by decide +kernel
theorem dX12_differences_2 : decode cX12_differences 2 = .ok (.invokestatic 217, 3) := by decide +kernel
theorem dX12_differences_5 : decode cX12_differences 5 = .ok (.ifCond .eq 10, 3) := by decide +kernel
theorem dX12_differences_8 : decode cX12_differences 8 = .ok (.iload_n 2, 1) := by decide +kernel
theorem dX12_differences_9 : decode cX12_differences 9 = .ok (.invokestatic 217, 3) := by decide +kernel
theorem dX12_differences_12 : decode cX12_differences 12 = .ok (.ifCond .ne 7, 3) := by decide +kernel
theorem dX12_differences_15 : decode cX12_differences 15 = .ok (.iconst 1, 1) := by decide +kernel
theorem dX12_differences_16 : decode cX12_differences 16 = .ok (.goto 24, 3) := by decide +kernel
theorem dX12_differences_19 : decode cX12_differences 19 = .ok (.aload_n 0, 1) := by decide +kernel
theorem dX12_differences_20 : decode cX12_differences 20 = .ok (.iload_n 1, 1) := by decide +kernel
theorem dX12_differences_21 : decode cX12_differences 21 = .ok (.invokevirtual 223, 3) := by decide +kernel
theorem dX12_differences_24 : decode cX12_differences 24 = .ok (.ifCond .eq 15, 3) := by decide +kernel
theorem dX12_differences_27 : decode cX12_differences 27 = .ok (.aload_n 0, 1) := by decide +kernel
theorem dX12_differences_28 : decode cX12_differences 28 = .ok (.iload_n 2, 1) := by decide +kernel
theorem dX12_differences_29 : decode cX12_differences 29 = .ok (.invokevirtual 223, 3) := by decide +kernel
theorem dX12_differences_32 : decode cX12_differences 32 = .ok (.ifCond .eq 7, 3) := by decide +kernel
theorem dX12_differences_35 : decode cX12_differences 35 = .ok (.iconst 0, 1) := by decide +kernel
theorem dX12_differences_36 : decode cX12_differences 36 = .ok (.goto 4, 3) := by decide +kernel
theorem dX12_differences_39 : decode cX12_differences 39 = .ok (.iconst 2, 1) := by decide +kernel
theorem dX12_differences_40 : decode cX12_differences 40 = .ok (.putfield 62, 3) := by decide +kernel
theorem dX12_differences_43 : decode cX12_differences 43 = .ok (.aload_n 0, 1) := by decide +kernel
theorem dX12_differences_44 : decode cX12_differences 44 = .ok (.getfield 62, 3) := by decide +kernel
theorem dX12_differences_47 : decode cX12_differences 47 = .ok (.ifCond .eq 5, 3) := by decide +kernel
theorem dX12_differences_50 : decode cX12_differences 50 = .ok (.iconst 0, 1) := by decide +kernel
theorem dX12_differences_51 : decode cX12_differences 51 = .ok (.ireturn, 1) := by decide +kernel
theorem dX12_differences_52 : decode cX12_differences 52 = .ok (.aload_n 0, 1) := by decide +kernel
theorem dX12_differences_53 : decode cX12_differences 53 = .ok (.iload_n 1, 1) := by decide +kernel
theorem dX12_differences_54 : decode cX12_differences 54 = .ok (.invokevirtual 235, 3) := by decide +kernel
theorem dX12_differences_57 : decode cX12_differences 57 = .ok (.iconst 0, 1) := by decide +kernel
theorem dX12_differences_58 : decode cX12_differences 58 = .ok (.istore_n 3, 1) := by decide +kernel
theorem dX12_differences_59 : decode cX12_differences 59 = .ok (.iload_n 3, 1) := by decide +kernel
theorem dX12_differences_60 : decode cX12_differences 60 = .ok (.aload_n 0, 1) := by decide +kernel
theorem dX12_differences_61 : decode cX12_differences 61 = .ok (.getfield 7, 3) := by decide +kernel
theorem dX12_differences_64 : decode cX12_differences 64 = .ok (.iconst 0, 1) := by decide +kernel
theorem dX12_differences_65 : decode cX12_differences 65 = .ok (.iaload, 1) := by decide +kernel
theorem dX12_differences_66 : decode cX12_differences 66 = .ok (.if_icmp .ge 49, 3) := by decide +kernel
theorem dX12_differences_69 : decode cX12_differences 69 = .ok (.aload_n 0, 1) := by decide +kernel
theorem dX12_differences_70 : decode cX12_differences 70 = .ok (.iload_n 3, 1) := by decide +kernel
theorem dX12_differences_71 : decode cX12_differences 71 = .ok (.invokevirtual 266, 3) := by decide +kernel
theorem dX12_differences_74 : decode cX12_differences 74 = .ok (.iconst 0, 1) := by decide +kernel
theorem dX12_differences_75 : decode cX12_differences 75 = .ok (.istore 4, 2) := by decide +kernel
theorem dX12_differences_77 : decode cX12_differences 77 = .ok (.iload 4, 2) := by decide +kernel
theorem dX12_differences_79 : decode cX12_differences 79 = .ok (.bipush 40, 2) := by decide +kernel
theorem dX12_differences_81 : decode cX12_differences 81 = .ok (.if_icmp .ge 28, 3) := by decide +kernel
theorem dX12_differences_84 : decode cX12_differences 84 = .ok (.aload_n 0, 1) := by decide +kernel
theorem dX12_differences_85 : decode cX12_differences 85 = .ok (.getfield 56, 3) := by decide +kernel
theorem dX12_differences_88 : decode cX12_differences 88 = .ok (.bipush 40, 2) := by decide +kernel
theorem dX12_differences_90 : decode cX12_differences 90 = .ok (.iload_n 3, 1) := by decide +kernel
theorem dX12_differences_91 : decode cX12_differences 91 = .ok (.imul, 1) := by decide +kernel
theorem dX12_differences_92 : decode cX12_differences 92 = .ok (.iload 4, 2) := by decide +kernel
theorem dX12_differences_94 : decode cX12_differences 94 = .ok (.iadd, 1) := by decide +kernel
theorem dX12_differences_95 : decode cX12_differences 95 = .ok (.aload_n 0, 1) := by decide +kernel
theorem dX12_differences_96 : decode cX12_differences 96 = .ok (.getfield 53, 3) := by decide +kernel
theorem dX12_differences_99 : decode cX12_differences 99 = .ok (.iload 4, 2) := by decide +kernel
theorem dX12_differences_101 : decode cX12_differences 101 = .ok (.baload, 1) := by decide +kernel
theorem dX12_differences_102 : decode cX12_differences 102 = .ok (.bastore, 1) := by decide +kernel
theorem dX12_differences_103 : decode cX12_differences 103 = .ok (.iinc 4 1, 3) := by decide +kernel
theorem dX12_differences_106 : decode cX12_differences 106 = .ok (.goto (-29), 3) := by decide +kernel
theorem dX12_differences_109 : decode cX12_differences 109 = .ok (.iinc 3 1, 3) := by decide +kernel
theorem dX12_differences_112 : decode cX12_differences 112 = .ok (.goto (-53), 3) := by decide +kernel
theorem dX12_differences_115 : decode cX12_differences 115 = .ok (.aload_n 0, 1) := by decide +kernel
theorem dX12_differences_116 : decode cX12_differences 116 = .ok (.iload_n 2, 1) := by decide +kernel
theorem dX12_differences_117 : decode cX12_differences 117 = .ok (.invokevirtual 235, 3) := by decide +kernel
theorem dX12_differences_120 : decode cX12_differences 120 = .ok (.iconst 0, 1) := by decide +kernel
theorem dX12_differences_121 : decode cX12_differences 121 = .ok (.istore_n 3, 1) := by decide +kernel
theorem dX12_differences_122 : decode cX12_differences 122 = .ok (.iconst 0, 1) := by decide +kernel
theorem dX12_differences_123 : decode cX12_differences 123 = .ok (.istore 4, 2) := by decide +kernel
theorem dX12_differences_125 : decode cX12_differences 125 = .ok (.iload 4, 2) := by decide +kernel
theorem dX12_differences_127 : decode cX12_differences 127 = .ok (.aload_n 0, 1) := by decide +kernel
theorem dX12_differences_128 : decode cX12_differences 128 = .ok (.getfield 7, 3) := by decide +kernel
theorem dX12_differences_131 : decode cX12_differences 131 = .ok (.iconst 0, 1) := by decide +kernel
theorem dX12_differences_132 : decode cX12_differences 132 = .ok (.iaload, 1) := by decide +kernel
theorem dX12_differences_133 : decode cX12_differences 133 = .ok (.if_icmp .ge 82, 3) := by decide +kernel
theorem dX12_differences_136 : decode cX12_differences 136 = .ok (.aload_n 0, 1) := by decide +kernel
theorem dX12_differences_137 : decode cX12_differences 137 = .ok (.iload 4, 2) := by decide +kernel
theorem dX12_differences_139 : decode cX12_differences 139 = .ok (.invokevirtual 266, 3) := by decide +kernel
theorem dX12_differences_142 : decode cX12_differences 142 = .ok (.iconst 1, 1) := by decide +kernel
theorem dX12_differences_143 : decode cX12_differences 143 = .ok (.istore 5, 2) := by decide +kernel
theorem dX12_differences_145 : decode cX12_differences 145 = .ok (.iconst 0, 1) := by decide +kernel
theorem dX12_differences_146 : decode cX12_differences 146 = .ok (.istore 6, 2) := by decide +kernel
theorem dX12_differences_148 : decode cX12_differences 148 = .ok (.iload 6, 2) := by decide +kernel
theorem dX12_differences_150 : decode cX12_differences 150 = .ok (.bipush 40, 2) := by decide +kernel
theorem dX12_differences_152 : decode cX12_differences 152 = .ok (.if_icmp .ge 44, 3) := by decide +kernel
theorem dX12_differences_155 : decode cX12_differences 155 = .ok (.iload 5, 2) := by decide +kernel
theorem dX12_differences_157 : decode cX12_differences 157 = .ok (.ifCond .eq 30, 3) := by decide +kernel
theorem dX12_differences_160 : decode cX12_differences 160 = .ok (.aload_n 0, 1) := by decide +kernel
theorem dX12_differences_161 : decode cX12_differences 161 = .ok (.getfield 56, 3) := by decide +kernel
theorem dX12_differences_164 : decode cX12_differences 164 = .ok (.bipush 40, 2) := by decide +kernel
theorem dX12_differences_166 : decode cX12_differences 166 = .ok (.iload 4, 2) := by decide +kernel
theorem dX12_differences_168 : decode cX12_differences 168 = .ok (.imul, 1) := by decide +kernel
theorem dX12_differences_169 : decode cX12_differences 169 = .ok (.iload 6, 2) := by decide +kernel
theorem dX12_differences_171 : decode cX12_differences 171 = .ok (.iadd, 1) := by decide +kernel
theorem dX12_differences_172 : decode cX12_differences 172 = .ok (.baload, 1) := by decide +kernel
theorem dX12_differences_173 : decode cX12_differences 173 = .ok (.aload_n 0, 1) := by decide +kernel
theorem dX12_differences_174 : decode cX12_differences 174 = .ok (.getfield 53, 3) := by decide +kernel
theorem dX12_differences_177 : decode cX12_differences 177 = .ok (.iload 6, 2) := by decide +kernel
theorem dX12_differences_179 : decode cX12_differences 179 = .ok (.baload, 1) := by decide +kernel
theorem dX12_differences_180 : decode cX12_differences 180 = .ok (.if_icmp .ne 7, 3) := by decide +kernel
theorem dX12_differences_183 : decode cX12_differences 183 = .ok (.iconst 1, 1) := by decide +kernel
theorem dX12_differences_184 : decode cX12_differences 184 = .ok (.goto 4, 3) := by decide +kernel
theorem dX12_differences_187 : decode cX12_differences 187 = .ok (.iconst 0, 1) := by decide +kernel
theorem dX12_differences_188 : decode cX12_differences 188 = .ok (.istore 5, 2) := by decide +kernel
theorem dX12_differences_190 : decode cX12_differences 190 = .ok (.iinc 6 1, 3) := by decide +kernel
theorem dX12_differences_193 : decode cX12_differences 193 = .ok (.goto (-45), 3) := by decide +kernel
theorem dX12_differences_196 : decode cX12_differences 196 = .ok (.iload_n 3, 1) := by decide +kernel
theorem dX12_differences_197 : decode cX12_differences 197 = .ok (.iload 5, 2) := by decide +kernel
theorem dX12_differences_199 : decode cX12_differences 199 = .ok (.ifCond .eq 7, 3) := by decide +kernel
theorem dX12_differences_202 : decode cX12_differences 202 = .ok (.iconst 0, 1) := by decide +kernel
theorem dX12_differences_203 : decode cX12_differences 203 = .ok (.goto 4, 3) := by decide +kernel
theorem dX12_differences_206 : decode cX12_differences 206 = .ok (.iconst 1, 1) := by decide +kernel
theorem dX12_differences_207 : decode cX12_differences 207 = .ok (.iadd, 1) := by decide +kernel
theorem dX12_differences_208 : decode cX12_differences 208 = .ok (.istore_n 3, 1) := by decide +kernel
theorem dX12_differences_209 : decode cX12_differences 209 = .ok (.iinc 4 1, 3) := by decide +kernel
theorem dX12_differences_212 : decode cX12_differences 212 = .ok (.goto (-87), 3) := by decide +kernel
theorem dX12_differences_215 : decode cX12_differences 215 = .ok (.iload_n 3, 1) := by decide +kernel
theorem dX12_differences_216 : decode cX12_differences 216 = .ok (.ireturn, 1) := by decide +kernel
theorem dX12_isTest_0 : decode cX12_isTest 0 = .ok (.aload_n 0, 1) := by decide +kernel
theorem dX12_isTest_1 : decode cX12_isTest 1 = .ok (.getfield 28, 3) := by decide +kernel
theorem dX12_isTest_4 : decode cX12_isTest 4 = .ok (.iload_n 1, 1) := by decide +kernel
theorem dX12_isTest_5 : decode cX12_isTest 5 = .ok (.iaload, 1) := by decide +kernel
theorem dX12_isTest_6 : decode cX12_isTest 6 = .ok (.iload_n 2, 1) := by decide +kernel
theorem dX12_isTest_7 : decode cX12_isTest 7 = .ok (.if_icmp .ne 20, 3) := by decide +kernel
theorem dX12_isTest_10 : decode cX12_isTest 10 = .ok (.aload_n 0, 1) := by decide +kernel
theorem dX12_isTest_11 : decode cX12_isTest 11 = .ok (.getfield 28, 3) := by decide +kernel
theorem dX12_isTest_14 : decode cX12_isTest 14 = .ok (.iload_n 1, 1) := by decide +kernel
theorem dX12_isTest_15 : decode cX12_isTest 15 = .ok (.iconst 1, 1) := by decide +kernel
theorem dX12_isTest_16 : decode cX12_isTest 16 = .ok (.iadd, 1) := by decide +kernel
theorem dX12_isTest_17 : decode cX12_isTest 17 = .ok (.iaload, 1) := by decide +kernel
theorem dX12_isTest_18 : decode cX12_isTest 18 = .ok (.bipush 8, 2) := by decide +kernel
theorem dX12_isTest_20 : decode cX12_isTest 20 = .ok (.if_icmp .ne 7, 3) := by decide +kernel
theorem dX12_isTest_23 : decode cX12_isTest 23 = .ok (.iconst 1, 1) := by decide +kernel
theorem dX12_isTest_24 : decode cX12_isTest 24 = .ok (.goto 4, 3) := by decide +kernel
theorem dX12_isTest_27 : decode cX12_isTest 27 = .ok (.iconst 0, 1) := by decide +kernel
theorem dX12_isTest_28 : decode cX12_isTest 28 = .ok (.ireturn, 1) := by decide +kernel
theorem dX12_isPlain_0 : decode cX12_isPlain 0 = .ok (.aload_n 0, 1) := by decide +kernel
theorem dX12_isPlain_1 : decode cX12_isPlain 1 = .ok (.iload_n 1, 1) := by decide +kernel
theorem dX12_isPlain_2 : decode cX12_isPlain 2 = .ok (.iload_n 2, 1) := by decide +kernel
theorem dX12_isPlain_3 : decode cX12_isPlain 3 = .ok (.invokevirtual 275, 3) := by decide +kernel
theorem dX12_isPlain_6 : decode cX12_isPlain 6 = .ok (.ifCond .eq 18, 3) := by decide +kernel
theorem dX12_isPlain_9 : decode cX12_isPlain 9 = .ok (.aload_n 0, 1) := by decide +kernel
theorem dX12_isPlain_10 : decode cX12_isPlain 10 = .ok (.getfield 28, 3) := by decide +kernel
theorem dX12_isPlain_13 : decode cX12_isPlain 13 = .ok (.iload_n 1, 1) := by decide +kernel
theorem dX12_isPlain_14 : decode cX12_isPlain 14 = .ok (.iconst 2, 1) := by decide +kernel
theorem dX12_isPlain_15 : decode cX12_isPlain 15 = .ok (.iadd, 1) := by decide +kernel
theorem dX12_isPlain_16 : decode cX12_isPlain 16 = .ok (.iaload, 1) := by decide +kernel
theorem dX12_isPlain_17 : decode cX12_isPlain 17 = .ok (.ifCond .ne 7, 3) := by decide +kernel
theorem dX12_isPlain_20 : decode cX12_isPlain 20 = .ok (.iconst 1, 1) := by decide +kernel
theorem dX12_isPlain_21 : decode cX12_isPlain 21 = .ok (.goto 4, 3) := by decide +kernel
theorem dX12_isPlain_24 : decode cX12_isPlain 24 = .ok (.iconst 0, 1) := by decide +kernel
theorem dX12_isPlain_25 : decode cX12_isPlain 25 = .ok (.ireturn, 1) := by decide +kernel
theorem dX12_move_0 : decode cX12_move 0 = .ok (.iconst 0, 1) := by decide +kernel
theorem dX12_move_1 : decode cX12_move 1 = .ok (.istore 4, 2) := by decide +kernel
theorem dX12_move_3 : decode cX12_move 3 = .ok (.iload 4, 2) := by decide +kernel
theorem dX12_move_5 : decode cX12_move 5 = .ok (.iload_n 3, 1) := by decide +kernel
theorem dX12_move_6 : decode cX12_move 6 = .ok (.if_icmp .ge 27, 3) := by decide +kernel
theorem dX12_move_9 : decode cX12_move 9 = .ok (.aload_n 0, 1) := by decide +kernel
theorem dX12_move_10 : decode cX12_move 10 = .ok (.getfield 28, 3) := by decide +kernel
theorem dX12_move_13 : decode cX12_move 13 = .ok (.iload_n 2, 1) := by decide +kernel
theorem dX12_move_14 : decode cX12_move 14 = .ok (.iload 4, 2) := by decide +kernel
theorem dX12_move_16 : decode cX12_move 16 = .ok (.iadd, 1) := by decide +kernel
theorem dX12_move_17 : decode cX12_move 17 = .ok (.aload_n 0, 1) := by decide +kernel
theorem dX12_move_18 : decode cX12_move 18 = .ok (.getfield 28, 3) := by decide +kernel
theorem dX12_move_21 : decode cX12_move 21 = .ok (.iload_n 1, 1) := by decide +kernel
theorem dX12_move_22 : decode cX12_move 22 = .ok (.iload 4, 2) := by decide +kernel
theorem dX12_move_24 : decode cX12_move 24 = .ok (.iadd, 1) := by decide +kernel
theorem dX12_move_25 : decode cX12_move 25 = .ok (.iaload, 1) := by decide +kernel
theorem dX12_move_26 : decode cX12_move 26 = .ok (.iastore, 1) := by decide +kernel
theorem dX12_move_27 : decode cX12_move 27 = .ok (.iinc 4 1, 3) := by decide +kernel
theorem dX12_move_30 : decode cX12_move 30 = .ok (.goto (-27), 3) := by decide +kernel
theorem dX12_move_33 : decode cX12_move 33 = .ok (.return_, 1) := by decide +kernel
theorem dX12_removeStep_0 : decode cX12_removeStep 0 = .ok (.aload_n 0, 1) := by decide +kernel
theorem dX12_removeStep_1 : decode cX12_removeStep 1 = .ok (.iload_n 1, 1) := by decide +kernel
theorem dX12_removeStep_2 : decode cX12_removeStep 2 = .ok (.iload_n 2, 1) := by decide +kernel
theorem dX12_removeStep_3 : decode cX12_removeStep 3 = .ok (.iconst 1, 1) := by decide +kernel
theorem dX12_removeStep_4 : decode cX12_removeStep 4 = .ok (.iadd, 1) := by decide +kernel
theorem dX12_removeStep_5 : decode cX12_removeStep 5 = .ok (.invokestatic 165, 3) := by decide +kernel
theorem dX12_removeStep_8 : decode cX12_removeStep 8 = .ok (.iload_n 1, 1) := by decide +kernel
theorem dX12_removeStep_9 : decode cX12_removeStep 9 = .ok (.iload_n 2, 1) := by decide +kernel
theorem dX12_removeStep_10 : decode cX12_removeStep 10 = .ok (.invokestatic 165, 3) := by decide +kernel
theorem dX12_removeStep_13 : decode cX12_removeStep 13 = .ok (.sipush 204, 3) := by decide +kernel
theorem dX12_removeStep_16 : decode cX12_removeStep 16 = .ok (.aload_n 0, 1) := by decide +kernel
theorem dX12_removeStep_17 : decode cX12_removeStep 17 = .ok (.getfield 28, 3) := by decide +kernel
theorem dX12_removeStep_20 : decode cX12_removeStep 20 = .ok (.iload_n 1, 1) := by decide +kernel
theorem dX12_removeStep_21 : decode cX12_removeStep 21 = .ok (.iconst 1, 1) := by decide +kernel
theorem dX12_removeStep_22 : decode cX12_removeStep 22 = .ok (.iadd, 1) := by decide +kernel
theorem dX12_removeStep_23 : decode cX12_removeStep 23 = .ok (.iaload, 1) := by decide +kernel
theorem dX12_removeStep_24 : decode cX12_removeStep 24 = .ok (.iload_n 2, 1) := by decide +kernel
theorem dX12_removeStep_25 : decode cX12_removeStep 25 = .ok (.isub, 1) := by decide +kernel
theorem dX12_removeStep_26 : decode cX12_removeStep 26 = .ok (.iconst 1, 1) := by decide +kernel
theorem dX12_removeStep_27 : decode cX12_removeStep 27 = .ok (.isub, 1) := by decide +kernel
theorem dX12_removeStep_28 : decode cX12_removeStep 28 = .ok (.imul, 1) := by decide +kernel
theorem dX12_removeStep_29 : decode cX12_removeStep 29 = .ok (.invokevirtual 278, 3) := by decide +kernel
theorem dX12_removeStep_32 : decode cX12_removeStep 32 = .ok (.aload_n 0, 1) := by decide +kernel
theorem dX12_removeStep_33 : decode cX12_removeStep 33 = .ok (.getfield 28, 3) := by decide +kernel
theorem dX12_removeStep_36 : decode cX12_removeStep 36 = .ok (.iload_n 1, 1) := by decide +kernel
theorem dX12_removeStep_37 : decode cX12_removeStep 37 = .ok (.iconst 1, 1) := by decide +kernel
theorem dX12_removeStep_38 : decode cX12_removeStep 38 = .ok (.iadd, 1) := by decide +kernel
theorem dX12_removeStep_39 : decode cX12_removeStep 39 = .ok (.dup2, 1) := by decide +kernel
theorem dX12_removeStep_40 : decode cX12_removeStep 40 = .ok (.iaload, 1) := by decide +kernel
theorem dX12_removeStep_41 : decode cX12_removeStep 41 = .ok (.iconst 1, 1) := by decide +kernel
theorem dX12_removeStep_42 : decode cX12_removeStep 42 = .ok (.isub, 1) := by decide +kernel
theorem dX12_removeStep_43 : decode cX12_removeStep 43 = .ok (.iastore, 1) := by decide +kernel
theorem dX12_removeStep_44 : decode cX12_removeStep 44 = .ok (.return_, 1) := by decide +kernel
theorem dX12_removePredicate_0 : decode cX12_removePredicate 0 = .ok (.aload_n 0, 1) := by decide +kernel
theorem dX12_removePredicate_1 : decode cX12_removePredicate 1 = .ok (.iload_n 1, 1) := by decide +kernel
theorem dX12_removePredicate_2 : decode cX12_removePredicate 2 = .ok (.iload_n 2, 1) := by decide +kernel
theorem dX12_removePredicate_3 : decode cX12_removePredicate 3 = .ok (.iconst 1, 1) := by decide +kernel
theorem dX12_removePredicate_4 : decode cX12_removePredicate 4 = .ok (.iadd, 1) := by decide +kernel
theorem dX12_removePredicate_5 : decode cX12_removePredicate 5 = .ok (.invokestatic 168, 3) := by decide +kernel
theorem dX12_removePredicate_8 : decode cX12_removePredicate 8 = .ok (.iload_n 1, 1) := by decide +kernel
theorem dX12_removePredicate_9 : decode cX12_removePredicate 9 = .ok (.iload_n 2, 1) := by decide +kernel
theorem dX12_removePredicate_10 : decode cX12_removePredicate 10 = .ok (.invokestatic 168, 3) := by decide +kernel
theorem dX12_removePredicate_13 : decode cX12_removePredicate 13 = .ok (.bipush 67, 2) := by decide +kernel
theorem dX12_removePredicate_15 : decode cX12_removePredicate 15 = .ok (.aload_n 0, 1) := by decide +kernel
theorem dX12_removePredicate_16 : decode cX12_removePredicate 16 = .ok (.getfield 28, 3) := by decide +kernel
theorem dX12_removePredicate_19 : decode cX12_removePredicate 19 = .ok (.iload_n 1, 1) := by decide +kernel
theorem dX12_removePredicate_20 : decode cX12_removePredicate 20 = .ok (.iconst 2, 1) := by decide +kernel
theorem dX12_removePredicate_21 : decode cX12_removePredicate 21 = .ok (.iadd, 1) := by decide +kernel
theorem dX12_removePredicate_22 : decode cX12_removePredicate 22 = .ok (.iaload, 1) := by decide +kernel
theorem dX12_removePredicate_23 : decode cX12_removePredicate 23 = .ok (.iload_n 2, 1) := by decide +kernel
theorem dX12_removePredicate_24 : decode cX12_removePredicate 24 = .ok (.isub, 1) := by decide +kernel
theorem dX12_removePredicate_25 : decode cX12_removePredicate 25 = .ok (.iconst 1, 1) := by decide +kernel
theorem dX12_removePredicate_26 : decode cX12_removePredicate 26 = .ok (.isub, 1) := by decide +kernel
theorem dX12_removePredicate_27 : decode cX12_removePredicate 27 = .ok (.imul, 1) := by decide +kernel
theorem dX12_removePredicate_28 : decode cX12_removePredicate 28 = .ok (.invokevirtual 278, 3) := by decide +kernel
theorem dX12_removePredicate_31 : decode cX12_removePredicate 31 = .ok (.aload_n 0, 1) := by decide +kernel
theorem dX12_removePredicate_32 : decode cX12_removePredicate 32 = .ok (.getfield 28, 3) := by decide +kernel
theorem dX12_removePredicate_35 : decode cX12_removePredicate 35 = .ok (.iload_n 1, 1) := by decide +kernel
theorem dX12_removePredicate_36 : decode cX12_removePredicate 36 = .ok (.iconst 2, 1) := by decide +kernel
theorem dX12_removePredicate_37 : decode cX12_removePredicate 37 = .ok (.iadd, 1) := by decide +kernel
theorem dX12_removePredicate_38 : decode cX12_removePredicate 38 = .ok (.dup2, 1) := by decide +kernel
theorem dX12_removePredicate_39 : decode cX12_removePredicate 39 = .ok (.iaload, 1) := by decide +kernel
theorem dX12_removePredicate_40 : decode cX12_removePredicate 40 = .ok (.iconst 1, 1) := by decide +kernel
theorem dX12_removePredicate_41 : decode cX12_removePredicate 41 = .ok (.isub, 1) := by decide +kernel
theorem dX12_removePredicate_42 : decode cX12_removePredicate 42 = .ok (.iastore, 1) := by decide +kernel
theorem dX12_removePredicate_43 : decode cX12_removePredicate 43 = .ok (.return_, 1) := by decide +kernel
theorem dX12_usesAt_0 : decode cX12_usesAt 0 = .ok (.iload_n 2, 1) := by decide +kernel
theorem dX12_usesAt_1 : decode cX12_usesAt 1 = .ok (.iload_n 3, 1) := by decide +kernel
theorem dX12_usesAt_2 : decode cX12_usesAt 2 = .ok (.invokestatic 165, 3) := by decide +kernel
theorem dX12_usesAt_5 : decode cX12_usesAt 5 = .ok (.istore 4, 2) := by decide +kernel
theorem dX12_usesAt_7 : decode cX12_usesAt 7 = .ok (.iload_n 3, 1) := by decide +kernel
theorem dX12_usesAt_8 : decode cX12_usesAt 8 = .ok (.iconst 1, 1) := by decide +kernel
theorem dX12_usesAt_9 : decode cX12_usesAt 9 = .ok (.iadd, 1) := by decide +kernel
theorem dX12_usesAt_10 : decode cX12_usesAt 10 = .ok (.aload_n 0, 1) := by decide +kernel
theorem dX12_usesAt_11 : decode cX12_usesAt 11 = .ok (.getfield 28, 3) := by decide +kernel
theorem dX12_usesAt_14 : decode cX12_usesAt 14 = .ok (.iload_n 2, 1) := by decide +kernel
theorem dX12_usesAt_15 : decode cX12_usesAt 15 = .ok (.iconst 1, 1) := by decide +kernel
theorem dX12_usesAt_16 : decode cX12_usesAt 16 = .ok (.iadd, 1) := by decide +kernel
theorem dX12_usesAt_17 : decode cX12_usesAt 17 = .ok (.iaload, 1) := by decide +kernel
theorem dX12_usesAt_18 : decode cX12_usesAt 18 = .ok (.if_icmp .ge 13, 3) := by decide +kernel
theorem dX12_usesAt_21 : decode cX12_usesAt 21 = .ok (.iload_n 2, 1) := by decide +kernel
theorem dX12_usesAt_22 : decode cX12_usesAt 22 = .ok (.iload_n 3, 1) := by decide +kernel
theorem dX12_usesAt_23 : decode cX12_usesAt 23 = .ok (.iconst 1, 1) := by decide +kernel
theorem dX12_usesAt_24 : decode cX12_usesAt 24 = .ok (.iadd, 1) := by decide +kernel
theorem dX12_usesAt_25 : decode cX12_usesAt 25 = .ok (.invokestatic 165, 3) := by decide +kernel
theorem dX12_usesAt_28 : decode cX12_usesAt 28 = .ok (.goto 4, 3) := by decide +kernel
theorem dX12_usesAt_31 : decode cX12_usesAt 31 = .ok (.iconst (-1), 1) := by decide +kernel
theorem dX12_usesAt_32 : decode cX12_usesAt 32 = .ok (.istore 5, 2) := by decide +kernel
theorem dX12_usesAt_34 : decode cX12_usesAt 34 = .ok (.iload_n 1, 1) := by decide +kernel
theorem dX12_usesAt_35 : decode cX12_usesAt 35 = .ok (.tableswitch 225 1 4 #[29, 66, 116, 171], 29) := by decide +kernel
theorem dX12_usesAt_64 : decode cX12_usesAt 64 = .ok (.aload_n 0, 1) := by decide +kernel
theorem dX12_usesAt_65 : decode cX12_usesAt 65 = .ok (.iload 4, 2) := by decide +kernel
theorem dX12_usesAt_67 : decode cX12_usesAt 67 = .ok (.iconst 1, 1) := by decide +kernel
theorem dX12_usesAt_68 : decode cX12_usesAt 68 = .ok (.invokevirtual 282, 3) := by decide +kernel
theorem dX12_usesAt_71 : decode cX12_usesAt 71 = .ok (.ifCond .eq 28, 3) := by decide +kernel
theorem dX12_usesAt_74 : decode cX12_usesAt 74 = .ok (.aload_n 0, 1) := by decide +kernel
theorem dX12_usesAt_75 : decode cX12_usesAt 75 = .ok (.getfield 28, 3) := by decide +kernel
theorem dX12_usesAt_78 : decode cX12_usesAt 78 = .ok (.iload_n 2, 1) := by decide +kernel
theorem dX12_usesAt_79 : decode cX12_usesAt 79 = .ok (.iconst 1, 1) := by decide +kernel
theorem dX12_usesAt_80 : decode cX12_usesAt 80 = .ok (.iadd, 1) := by decide +kernel
theorem dX12_usesAt_81 : decode cX12_usesAt 81 = .ok (.iaload, 1) := by decide +kernel
theorem dX12_usesAt_82 : decode cX12_usesAt 82 = .ok (.iconst 1, 1) := by decide +kernel
theorem dX12_usesAt_83 : decode cX12_usesAt 83 = .ok (.if_icmp .le 16, 3) := by decide +kernel
theorem dX12_usesAt_86 : decode cX12_usesAt 86 = .ok (.aload_n 0, 1) := by decide +kernel
theorem dX12_usesAt_87 : decode cX12_usesAt 87 = .ok (.iload_n 2, 1) := by decide +kernel
theorem dX12_usesAt_88 : decode cX12_usesAt 88 = .ok (.iload_n 3, 1) := by decide +kernel
theorem dX12_usesAt_89 : decode cX12_usesAt 89 = .ok (.invokevirtual 285, 3) := by decide +kernel
theorem dX12_usesAt_92 : decode cX12_usesAt 92 = .ok (.ifCond .eq 7, 3) := by decide +kernel
theorem dX12_usesAt_95 : decode cX12_usesAt 95 = .ok (.iconst 1, 1) := by decide +kernel
theorem dX12_usesAt_96 : decode cX12_usesAt 96 = .ok (.goto 4, 3) := by decide +kernel
theorem dX12_usesAt_99 : decode cX12_usesAt 99 = .ok (.iconst 0, 1) := by decide +kernel
theorem dX12_usesAt_100 : decode cX12_usesAt 100 = .ok (.ireturn, 1) := by decide +kernel
theorem dX12_usesAt_101 : decode cX12_usesAt 101 = .ok (.iload 5, 2) := by decide +kernel
theorem dX12_usesAt_103 : decode cX12_usesAt 103 = .ok (.iconst (-1), 1) := by decide +kernel
theorem dX12_usesAt_104 : decode cX12_usesAt 104 = .ok (.if_icmp .eq 45, 3) := by decide +kernel
theorem dX12_usesAt_107 : decode cX12_usesAt 107 = .ok (.aload_n 0, 1) := by decide +kernel
theorem dX12_usesAt_108 : decode cX12_usesAt 108 = .ok (.iload 4, 2) := by decide +kernel
theorem dX12_usesAt_110 : decode cX12_usesAt 110 = .ok (.iconst 3, 1) := by decide +kernel
theorem dX12_usesAt_111 : decode cX12_usesAt 111 = .ok (.invokevirtual 282, 3) := by decide +kernel
theorem dX12_usesAt_114 : decode cX12_usesAt 114 = .ok (.ifCond .eq 35, 3) := by decide +kernel
theorem dX12_usesAt_117 : decode cX12_usesAt 117 = .ok (.aload_n 0, 1) := by decide +kernel
theorem dX12_usesAt_118 : decode cX12_usesAt 118 = .ok (.getfield 28, 3) := by decide +kernel
theorem dX12_usesAt_121 : decode cX12_usesAt 121 = .ok (.iload 5, 2) := by decide +kernel
theorem dX12_usesAt_123 : decode cX12_usesAt 123 = .ok (.iaload, 1) := by decide +kernel
theorem dX12_usesAt_124 : decode cX12_usesAt 124 = .ok (.ifCond .ne 25, 3) := by decide +kernel
theorem dX12_usesAt_127 : decode cX12_usesAt 127 = .ok (.aload_n 0, 1) := by decide +kernel
theorem dX12_usesAt_128 : decode cX12_usesAt 128 = .ok (.iload 5, 2) := by decide +kernel
theorem dX12_usesAt_130 : decode cX12_usesAt 130 = .ok (.invokevirtual 229, 3) := by decide +kernel
theorem dX12_usesAt_133 : decode cX12_usesAt 133 = .ok (.ifCond .ne 16, 3) := by decide +kernel
theorem dX12_usesAt_136 : decode cX12_usesAt 136 = .ok (.aload_n 0, 1) := by decide +kernel
theorem dX12_usesAt_137 : decode cX12_usesAt 137 = .ok (.iload_n 2, 1) := by decide +kernel
theorem dX12_usesAt_138 : decode cX12_usesAt 138 = .ok (.iload_n 3, 1) := by decide +kernel
theorem dX12_usesAt_139 : decode cX12_usesAt 139 = .ok (.invokevirtual 288, 3) := by decide +kernel
theorem dX12_usesAt_142 : decode cX12_usesAt 142 = .ok (.ifCond .eq 7, 3) := by decide +kernel
theorem dX12_usesAt_145 : decode cX12_usesAt 145 = .ok (.iconst 1, 1) := by decide +kernel
theorem dX12_usesAt_146 : decode cX12_usesAt 146 = .ok (.goto 4, 3) := by decide +kernel
theorem dX12_usesAt_149 : decode cX12_usesAt 149 = .ok (.iconst 0, 1) := by decide +kernel
theorem dX12_usesAt_150 : decode cX12_usesAt 150 = .ok (.ireturn, 1) := by decide +kernel
theorem dX12_usesAt_151 : decode cX12_usesAt 151 = .ok (.iload 5, 2) := by decide +kernel
theorem dX12_usesAt_153 : decode cX12_usesAt 153 = .ok (.iconst (-1), 1) := by decide +kernel
theorem dX12_usesAt_154 : decode cX12_usesAt 154 = .ok (.if_icmp .eq 50, 3) := by decide +kernel
theorem dX12_usesAt_157 : decode cX12_usesAt 157 = .ok (.aload_n 0, 1) := by decide +kernel
theorem dX12_usesAt_158 : decode cX12_usesAt 158 = .ok (.iload 4, 2) := by decide +kernel
theorem dX12_usesAt_160 : decode cX12_usesAt 160 = .ok (.iconst 3, 1) := by decide +kernel
theorem dX12_usesAt_161 : decode cX12_usesAt 161 = .ok (.invokevirtual 282, 3) := by decide +kernel
theorem dX12_usesAt_164 : decode cX12_usesAt 164 = .ok (.ifCond .eq 40, 3) := by decide +kernel
theorem dX12_usesAt_167 : decode cX12_usesAt 167 = .ok (.aload_n 0, 1) := by decide +kernel
theorem dX12_usesAt_168 : decode cX12_usesAt 168 = .ok (.getfield 28, 3) := by decide +kernel
theorem dX12_usesAt_171 : decode cX12_usesAt 171 = .ok (.iload 5, 2) := by decide +kernel
theorem dX12_usesAt_173 : decode cX12_usesAt 173 = .ok (.iaload, 1) := by decide +kernel
theorem dX12_usesAt_174 : decode cX12_usesAt 174 = .ok (.iconst 2, 1) := by decide +kernel
theorem dX12_usesAt_175 : decode cX12_usesAt 175 = .ok (.iconst 3, 1) := by decide +kernel
theorem dX12_usesAt_176 : decode cX12_usesAt 176 = .ok (.invokestatic 69, 3) := by decide +kernel
theorem dX12_usesAt_179 : decode cX12_usesAt 179 = .ok (.ifCond .eq 25, 3) := by decide +kernel
theorem dX12_usesAt_182 : decode cX12_usesAt 182 = .ok (.aload_n 0, 1) := by decide +kernel
theorem dX12_usesAt_183 : decode cX12_usesAt 183 = .ok (.iload 5, 2) := by decide +kernel
theorem dX12_usesAt_185 : decode cX12_usesAt 185 = .ok (.invokevirtual 229, 3) := by decide +kernel
theorem dX12_usesAt_188 : decode cX12_usesAt 188 = .ok (.ifCond .ne 16, 3) := by decide +kernel
theorem dX12_usesAt_191 : decode cX12_usesAt 191 = .ok (.aload_n 0, 1) := by decide +kernel
theorem dX12_usesAt_192 : decode cX12_usesAt 192 = .ok (.iload_n 2, 1) := by decide +kernel
theorem dX12_usesAt_193 : decode cX12_usesAt 193 = .ok (.iload_n 3, 1) := by decide +kernel
theorem dX12_usesAt_194 : decode cX12_usesAt 194 = .ok (.invokevirtual 285, 3) := by decide +kernel
theorem dX12_usesAt_197 : decode cX12_usesAt 197 = .ok (.ifCond .eq 7, 3) := by decide +kernel
theorem dX12_usesAt_200 : decode cX12_usesAt 200 = .ok (.iconst 1, 1) := by decide +kernel
theorem dX12_usesAt_201 : decode cX12_usesAt 201 = .ok (.goto 4, 3) := by decide +kernel
theorem dX12_usesAt_204 : decode cX12_usesAt 204 = .ok (.iconst 0, 1) := by decide +kernel
theorem dX12_usesAt_205 : decode cX12_usesAt 205 = .ok (.ireturn, 1) := by decide +kernel
theorem dX12_usesAt_206 : decode cX12_usesAt 206 = .ok (.iload 5, 2) := by decide +kernel
theorem dX12_usesAt_208 : decode cX12_usesAt 208 = .ok (.iconst (-1), 1) := by decide +kernel
theorem dX12_usesAt_209 : decode cX12_usesAt 209 = .ok (.if_icmp .eq 49, 3) := by decide +kernel
theorem dX12_usesAt_212 : decode cX12_usesAt 212 = .ok (.aload_n 0, 1) := by decide +kernel
theorem dX12_usesAt_213 : decode cX12_usesAt 213 = .ok (.getfield 28, 3) := by decide +kernel
theorem dX12_usesAt_216 : decode cX12_usesAt 216 = .ok (.iload 4, 2) := by decide +kernel
theorem dX12_usesAt_218 : decode cX12_usesAt 218 = .ok (.iaload, 1) := by decide +kernel
theorem dX12_usesAt_219 : decode cX12_usesAt 219 = .ok (.ifCond .ne 39, 3) := by decide +kernel
theorem dX12_usesAt_222 : decode cX12_usesAt 222 = .ok (.aload_n 0, 1) := by decide +kernel
theorem dX12_usesAt_223 : decode cX12_usesAt 223 = .ok (.getfield 28, 3) := by decide +kernel
theorem dX12_usesAt_226 : decode cX12_usesAt 226 = .ok (.iload 4, 2) := by decide +kernel
theorem dX12_usesAt_228 : decode cX12_usesAt 228 = .ok (.iconst 2, 1) := by decide +kernel
theorem dX12_usesAt_229 : decode cX12_usesAt 229 = .ok (.iadd, 1) := by decide +kernel
theorem dX12_usesAt_230 : decode cX12_usesAt 230 = .ok (.iaload, 1) := by decide +kernel
theorem dX12_usesAt_231 : decode cX12_usesAt 231 = .ok (.ifCond .ne 27, 3) := by decide +kernel
theorem dX12_usesAt_234 : decode cX12_usesAt 234 = .ok (.aload_n 0, 1) := by decide +kernel
theorem dX12_usesAt_235 : decode cX12_usesAt 235 = .ok (.iload 5, 2) := by decide +kernel
theorem dX12_usesAt_237 : decode cX12_usesAt 237 = .ok (.bipush 6, 2) := by decide +kernel
theorem dX12_usesAt_239 : decode cX12_usesAt 239 = .ok (.invokevirtual 282, 3) := by decide +kernel
theorem dX12_usesAt_242 : decode cX12_usesAt 242 = .ok (.ifCond .eq 16, 3) := by decide +kernel
theorem dX12_usesAt_245 : decode cX12_usesAt 245 = .ok (.aload_n 0, 1) := by decide +kernel
theorem dX12_usesAt_246 : decode cX12_usesAt 246 = .ok (.iload_n 2, 1) := by decide +kernel
theorem dX12_usesAt_247 : decode cX12_usesAt 247 = .ok (.iload_n 3, 1) := by decide +kernel
theorem dX12_usesAt_248 : decode cX12_usesAt 248 = .ok (.invokevirtual 291, 3) := by decide +kernel
theorem dX12_usesAt_251 : decode cX12_usesAt 251 = .ok (.ifCond .eq 7, 3) := by decide +kernel
theorem dX12_usesAt_254 : decode cX12_usesAt 254 = .ok (.iconst 1, 1) := by decide +kernel
theorem dX12_usesAt_255 : decode cX12_usesAt 255 = .ok (.goto 4, 3) := by decide +kernel
theorem dX12_usesAt_258 : decode cX12_usesAt 258 = .ok (.iconst 0, 1) := by decide +kernel
theorem dX12_usesAt_259 : decode cX12_usesAt 259 = .ok (.ireturn, 1) := by decide +kernel
theorem dX12_usesAt_260 : decode cX12_usesAt 260 = .ok (.iload 5, 2) := by decide +kernel
theorem dX12_usesAt_262 : decode cX12_usesAt 262 = .ok (.iconst (-1), 1) := by decide +kernel
theorem dX12_usesAt_263 : decode cX12_usesAt 263 = .ok (.if_icmp .eq 58, 3) := by decide +kernel
theorem dX12_usesAt_266 : decode cX12_usesAt 266 = .ok (.aload_n 0, 1) := by decide +kernel
theorem dX12_usesAt_267 : decode cX12_usesAt 267 = .ok (.iload 5, 2) := by decide +kernel
theorem dX12_usesAt_269 : decode cX12_usesAt 269 = .ok (.iconst 1, 1) := by decide +kernel
theorem dX12_usesAt_270 : decode cX12_usesAt 270 = .ok (.invokevirtual 275, 3) := by decide +kernel
theorem dX12_usesAt_273 : decode cX12_usesAt 273 = .ok (.ifCond .eq 48, 3) := by decide +kernel
theorem dX12_usesAt_276 : decode cX12_usesAt 276 = .ok (.aload_n 0, 1) := by decide +kernel
theorem dX12_usesAt_277 : decode cX12_usesAt 277 = .ok (.iload 5, 2) := by decide +kernel
theorem dX12_usesAt_279 : decode cX12_usesAt 279 = .ok (.invokevirtual 229, 3) := by decide +kernel
theorem dX12_usesAt_282 : decode cX12_usesAt 282 = .ok (.ifCond .ne 39, 3) := by decide +kernel
theorem dX12_usesAt_285 : decode cX12_usesAt 285 = .ok (.aload_n 0, 1) := by decide +kernel
theorem dX12_usesAt_286 : decode cX12_usesAt 286 = .ok (.getfield 28, 3) := by decide +kernel
theorem dX12_usesAt_289 : decode cX12_usesAt 289 = .ok (.iload 4, 2) := by decide +kernel
theorem dX12_usesAt_291 : decode cX12_usesAt 291 = .ok (.iconst 2, 1) := by decide +kernel
theorem dX12_usesAt_292 : decode cX12_usesAt 292 = .ok (.iadd, 1) := by decide +kernel
theorem dX12_usesAt_293 : decode cX12_usesAt 293 = .ok (.iaload, 1) := by decide +kernel
theorem dX12_usesAt_294 : decode cX12_usesAt 294 = .ok (.aload_n 0, 1) := by decide +kernel
theorem dX12_usesAt_295 : decode cX12_usesAt 295 = .ok (.getfield 28, 3) := by decide +kernel
theorem dX12_usesAt_298 : decode cX12_usesAt 298 = .ok (.iload 5, 2) := by decide +kernel
theorem dX12_usesAt_300 : decode cX12_usesAt 300 = .ok (.iconst 2, 1) := by decide +kernel
theorem dX12_usesAt_301 : decode cX12_usesAt 301 = .ok (.iadd, 1) := by decide +kernel
theorem dX12_usesAt_302 : decode cX12_usesAt 302 = .ok (.iaload, 1) := by decide +kernel
theorem dX12_usesAt_303 : decode cX12_usesAt 303 = .ok (.iadd, 1) := by decide +kernel
theorem dX12_usesAt_304 : decode cX12_usesAt 304 = .ok (.iconst 3, 1) := by decide +kernel
theorem dX12_usesAt_305 : decode cX12_usesAt 305 = .ok (.if_icmp .gt 16, 3) := by decide +kernel
theorem dX12_usesAt_308 : decode cX12_usesAt 308 = .ok (.aload_n 0, 1) := by decide +kernel
theorem dX12_usesAt_309 : decode cX12_usesAt 309 = .ok (.iload_n 2, 1) := by decide +kernel
theorem dX12_usesAt_310 : decode cX12_usesAt 310 = .ok (.iload_n 3, 1) := by decide +kernel
theorem dX12_usesAt_311 : decode cX12_usesAt 311 = .ok (.invokevirtual 294, 3) := by decide +kernel
theorem dX12_usesAt_314 : decode cX12_usesAt 314 = .ok (.ifCond .eq 7, 3) := by decide +kernel
theorem dX12_usesAt_317 : decode cX12_usesAt 317 = .ok (.iconst 1, 1) := by decide +kernel
theorem dX12_usesAt_318 : decode cX12_usesAt 318 = .ok (.goto 4, 3) := by decide +kernel
theorem dX12_usesAt_321 : decode cX12_usesAt 321 = .ok (.iconst 0, 1) := by decide +kernel
theorem dX12_usesAt_322 : decode cX12_usesAt 322 = .ok (.ireturn, 1) := by decide +kernel
theorem dX12_removes_0 : decode cX12_removes 0 = .ok (.aload_n 0, 1) := by decide +kernel
theorem dX12_removes_1 : decode cX12_removes 1 = .ok (.iload_n 1, 1) := by decide +kernel
theorem dX12_removes_2 : decode cX12_removes 2 = .ok (.iload_n 2, 1) := by decide +kernel
theorem dX12_removes_3 : decode cX12_removes 3 = .ok (.invokevirtual 297, 3) := by decide +kernel
theorem dX12_removes_6 : decode cX12_removes 6 = .ok (.iconst 1, 1) := by decide +kernel
theorem dX12_removes_7 : decode cX12_removes 7 = .ok (.ireturn, 1) := by decide +kernel
theorem dX12_joins_0 : decode cX12_joins 0 = .ok (.aload_n 0, 1) := by decide +kernel
theorem dX12_joins_1 : decode cX12_joins 1 = .ok (.iload_n 1, 1) := by decide +kernel
theorem dX12_joins_2 : decode cX12_joins 2 = .ok (.iload_n 2, 1) := by decide +kernel
theorem dX12_joins_3 : decode cX12_joins 3 = .ok (.invokevirtual 297, 3) := by decide +kernel
theorem dX12_joins_6 : decode cX12_joins 6 = .ok (.aload_n 0, 1) := by decide +kernel
theorem dX12_joins_7 : decode cX12_joins 7 = .ok (.getfield 28, 3) := by decide +kernel
theorem dX12_joins_10 : decode cX12_joins 10 = .ok (.iload_n 1, 1) := by decide +kernel
theorem dX12_joins_11 : decode cX12_joins 11 = .ok (.iload_n 2, 1) := by decide +kernel
theorem dX12_joins_12 : decode cX12_joins 12 = .ok (.invokestatic 165, 3) := by decide +kernel
theorem dX12_joins_15 : decode cX12_joins 15 = .ok (.iconst 2, 1) := by decide +kernel
theorem dX12_joins_16 : decode cX12_joins 16 = .ok (.iastore, 1) := by decide +kernel
theorem dX12_joins_17 : decode cX12_joins 17 = .ok (.iconst 1, 1) := by decide +kernel
theorem dX12_joins_18 : decode cX12_joins 18 = .ok (.ireturn, 1) := by decide +kernel
theorem dX12_asks_0 : decode cX12_asks 0 = .ok (.iload_n 1, 1) := by decide +kernel
theorem dX12_asks_1 : decode cX12_asks 1 = .ok (.iload_n 2, 1) := by decide +kernel
theorem dX12_asks_2 : decode cX12_asks 2 = .ok (.invokestatic 165, 3) := by decide +kernel
theorem dX12_asks_5 : decode cX12_asks 5 = .ok (.istore_n 3, 1) := by decide +kernel
theorem dX12_asks_6 : decode cX12_asks 6 = .ok (.aload_n 0, 1) := by decide +kernel
theorem dX12_asks_7 : decode cX12_asks 7 = .ok (.getfield 28, 3) := by decide +kernel
theorem dX12_asks_10 : decode cX12_asks 10 = .ok (.iload_n 3, 1) := by decide +kernel
theorem dX12_asks_11 : decode cX12_asks 11 = .ok (.iconst 1, 1) := by decide +kernel
theorem dX12_asks_12 : decode cX12_asks 12 = .ok (.iadd, 1) := by decide +kernel
theorem dX12_asks_13 : decode cX12_asks 13 = .ok (.iaload, 1) := by decide +kernel
theorem dX12_asks_14 : decode cX12_asks 14 = .ok (.istore 4, 2) := by decide +kernel
theorem dX12_asks_16 : decode cX12_asks 16 = .ok (.aload_n 0, 1) := by decide +kernel
theorem dX12_asks_17 : decode cX12_asks 17 = .ok (.iload_n 1, 1) := by decide +kernel
theorem dX12_asks_18 : decode cX12_asks 18 = .ok (.iload_n 2, 1) := by decide +kernel
theorem dX12_asks_19 : decode cX12_asks 19 = .ok (.iconst 1, 1) := by decide +kernel
theorem dX12_asks_20 : decode cX12_asks 20 = .ok (.iadd, 1) := by decide +kernel
theorem dX12_asks_21 : decode cX12_asks 21 = .ok (.invokevirtual 297, 3) := by decide +kernel
theorem dX12_asks_24 : decode cX12_asks 24 = .ok (.aload_n 0, 1) := by decide +kernel
theorem dX12_asks_25 : decode cX12_asks 25 = .ok (.getfield 28, 3) := by decide +kernel
theorem dX12_asks_28 : decode cX12_asks 28 = .ok (.iload_n 3, 1) := by decide +kernel
theorem dX12_asks_29 : decode cX12_asks 29 = .ok (.iconst 1, 1) := by decide +kernel
theorem dX12_asks_30 : decode cX12_asks 30 = .ok (.iastore, 1) := by decide +kernel
theorem dX12_asks_31 : decode cX12_asks 31 = .ok (.aload_n 0, 1) := by decide +kernel
theorem dX12_asks_32 : decode cX12_asks 32 = .ok (.getfield 28, 3) := by decide +kernel
theorem dX12_asks_35 : decode cX12_asks 35 = .ok (.iload_n 3, 1) := by decide +kernel
theorem dX12_asks_36 : decode cX12_asks 36 = .ok (.iconst 1, 1) := by decide +kernel
theorem dX12_asks_37 : decode cX12_asks 37 = .ok (.iadd, 1) := by decide +kernel
theorem dX12_asks_38 : decode cX12_asks 38 = .ok (.bipush 8, 2) := by decide +kernel
theorem dX12_asks_40 : decode cX12_asks 40 = .ok (.iastore, 1) := by decide +kernel
theorem dX12_asks_41 : decode cX12_asks 41 = .ok (.aload_n 0, 1) := by decide +kernel
theorem dX12_asks_42 : decode cX12_asks 42 = .ok (.getfield 28, 3) := by decide +kernel
theorem dX12_asks_45 : decode cX12_asks 45 = .ok (.iload_n 3, 1) := by decide +kernel
theorem dX12_asks_46 : decode cX12_asks 46 = .ok (.iconst 2, 1) := by decide +kernel
theorem dX12_asks_47 : decode cX12_asks 47 = .ok (.iadd, 1) := by decide +kernel
theorem dX12_asks_48 : decode cX12_asks 48 = .ok (.iconst 1, 1) := by decide +kernel
theorem dX12_asks_49 : decode cX12_asks 49 = .ok (.iastore, 1) := by decide +kernel
theorem dX12_asks_50 : decode cX12_asks 50 = .ok (.iload_n 3, 1) := by decide +kernel
theorem dX12_asks_51 : decode cX12_asks 51 = .ok (.iconst 0, 1) := by decide +kernel
theorem dX12_asks_52 : decode cX12_asks 52 = .ok (.invokestatic 168, 3) := by decide +kernel
theorem dX12_asks_55 : decode cX12_asks 55 = .ok (.istore 5, 2) := by decide +kernel
theorem dX12_asks_57 : decode cX12_asks 57 = .ok (.aload_n 0, 1) := by decide +kernel
theorem dX12_asks_58 : decode cX12_asks 58 = .ok (.getfield 28, 3) := by decide +kernel
theorem dX12_asks_61 : decode cX12_asks 61 = .ok (.iload 5, 2) := by decide +kernel
theorem dX12_asks_63 : decode cX12_asks 63 = .ok (.iconst 1, 1) := by decide +kernel
theorem dX12_asks_64 : decode cX12_asks 64 = .ok (.iastore, 1) := by decide +kernel
theorem dX12_asks_65 : decode cX12_asks 65 = .ok (.iload 5, 2) := by decide +kernel
theorem dX12_asks_67 : decode cX12_asks 67 = .ok (.iconst 0, 1) := by decide +kernel
theorem dX12_asks_68 : decode cX12_asks 68 = .ok (.invokestatic 159, 3) := by decide +kernel
theorem dX12_asks_71 : decode cX12_asks 71 = .ok (.istore 6, 2) := by decide +kernel
theorem dX12_asks_73 : decode cX12_asks 73 = .ok (.aload_n 0, 1) := by decide +kernel
theorem dX12_asks_74 : decode cX12_asks 74 = .ok (.getfield 28, 3) := by decide +kernel
theorem dX12_asks_77 : decode cX12_asks 77 = .ok (.iload 6, 2) := by decide +kernel
theorem dX12_asks_79 : decode cX12_asks 79 = .ok (.iconst 1, 1) := by decide +kernel
theorem dX12_asks_80 : decode cX12_asks 80 = .ok (.iastore, 1) := by decide +kernel
theorem dX12_asks_81 : decode cX12_asks 81 = .ok (.iload 6, 2) := by decide +kernel
theorem dX12_asks_83 : decode cX12_asks 83 = .ok (.iconst 0, 1) := by decide +kernel
theorem dX12_asks_84 : decode cX12_asks 84 = .ok (.invokestatic 153, 3) := by decide +kernel
theorem dX12_asks_87 : decode cX12_asks 87 = .ok (.istore 7, 2) := by decide +kernel
theorem dX12_asks_89 : decode cX12_asks 89 = .ok (.aload_n 0, 1) := by decide +kernel
theorem dX12_asks_90 : decode cX12_asks 90 = .ok (.getfield 28, 3) := by decide +kernel
theorem dX12_asks_93 : decode cX12_asks 93 = .ok (.iload 7, 2) := by decide +kernel
theorem dX12_asks_95 : decode cX12_asks 95 = .ok (.iconst 0, 1) := by decide +kernel
theorem dX12_asks_96 : decode cX12_asks 96 = .ok (.iastore, 1) := by decide +kernel
theorem dX12_asks_97 : decode cX12_asks 97 = .ok (.aload_n 0, 1) := by decide +kernel
theorem dX12_asks_98 : decode cX12_asks 98 = .ok (.getfield 28, 3) := by decide +kernel
theorem dX12_asks_101 : decode cX12_asks 101 = .ok (.iload 7, 2) := by decide +kernel
theorem dX12_asks_103 : decode cX12_asks 103 = .ok (.iconst 1, 1) := by decide +kernel
theorem dX12_asks_104 : decode cX12_asks 104 = .ok (.iadd, 1) := by decide +kernel
theorem dX12_asks_105 : decode cX12_asks 105 = .ok (.iconst 3, 1) := by decide +kernel
theorem dX12_asks_106 : decode cX12_asks 106 = .ok (.iastore, 1) := by decide +kernel
theorem dX12_asks_107 : decode cX12_asks 107 = .ok (.aload_n 0, 1) := by decide +kernel
theorem dX12_asks_108 : decode cX12_asks 108 = .ok (.getfield 28, 3) := by decide +kernel
theorem dX12_asks_111 : decode cX12_asks 111 = .ok (.iload 7, 2) := by decide +kernel
theorem dX12_asks_113 : decode cX12_asks 113 = .ok (.iconst 2, 1) := by decide +kernel
theorem dX12_asks_114 : decode cX12_asks 114 = .ok (.iadd, 1) := by decide +kernel
theorem dX12_asks_115 : decode cX12_asks 115 = .ok (.iconst 0, 1) := by decide +kernel
theorem dX12_asks_116 : decode cX12_asks 116 = .ok (.iastore, 1) := by decide +kernel
theorem dX12_asks_117 : decode cX12_asks 117 = .ok (.aload_n 0, 1) := by decide +kernel
theorem dX12_asks_118 : decode cX12_asks 118 = .ok (.getfield 28, 3) := by decide +kernel
theorem dX12_asks_121 : decode cX12_asks 121 = .ok (.iload 7, 2) := by decide +kernel
theorem dX12_asks_123 : decode cX12_asks 123 = .ok (.iconst 3, 1) := by decide +kernel
theorem dX12_asks_124 : decode cX12_asks 124 = .ok (.iadd, 1) := by decide +kernel
theorem dX12_asks_125 : decode cX12_asks 125 = .ok (.iconst 1, 1) := by decide +kernel
theorem dX12_asks_126 : decode cX12_asks 126 = .ok (.iastore, 1) := by decide +kernel
theorem dX12_asks_127 : decode cX12_asks 127 = .ok (.aload_n 0, 1) := by decide +kernel
theorem dX12_asks_128 : decode cX12_asks 128 = .ok (.getfield 28, 3) := by decide +kernel
theorem dX12_asks_131 : decode cX12_asks 131 = .ok (.iload 7, 2) := by decide +kernel
theorem dX12_asks_133 : decode cX12_asks 133 = .ok (.iconst 4, 1) := by decide +kernel
theorem dX12_asks_134 : decode cX12_asks 134 = .ok (.iadd, 1) := by decide +kernel
theorem dX12_asks_135 : decode cX12_asks 135 = .ok (.iload 4, 2) := by decide +kernel
theorem dX12_asks_137 : decode cX12_asks 137 = .ok (.iastore, 1) := by decide +kernel
theorem dX12_asks_138 : decode cX12_asks 138 = .ok (.iconst 1, 1) := by decide +kernel
theorem dX12_asks_139 : decode cX12_asks 139 = .ok (.ireturn, 1) := by decide +kernel
theorem dX12_gathers_0 : decode cX12_gathers 0 = .ok (.iload_n 1, 1) := by decide +kernel
theorem dX12_gathers_1 : decode cX12_gathers 1 = .ok (.iload_n 2, 1) := by decide +kernel
theorem dX12_gathers_2 : decode cX12_gathers 2 = .ok (.invokestatic 165, 3) := by decide +kernel
theorem dX12_gathers_5 : decode cX12_gathers 5 = .ok (.istore_n 3, 1) := by decide +kernel
theorem dX12_gathers_6 : decode cX12_gathers 6 = .ok (.iload_n 1, 1) := by decide +kernel
theorem dX12_gathers_7 : decode cX12_gathers 7 = .ok (.iload_n 2, 1) := by decide +kernel
theorem dX12_gathers_8 : decode cX12_gathers 8 = .ok (.iconst 1, 1) := by decide +kernel
theorem dX12_gathers_9 : decode cX12_gathers 9 = .ok (.iadd, 1) := by decide +kernel
theorem dX12_gathers_10 : decode cX12_gathers 10 = .ok (.invokestatic 165, 3) := by decide +kernel
theorem dX12_gathers_13 : decode cX12_gathers 13 = .ok (.istore 4, 2) := by decide +kernel
theorem dX12_gathers_15 : decode cX12_gathers 15 = .ok (.aload_n 0, 1) := by decide +kernel
theorem dX12_gathers_16 : decode cX12_gathers 16 = .ok (.iload 4, 2) := by decide +kernel
theorem dX12_gathers_18 : decode cX12_gathers 18 = .ok (.iconst 0, 1) := by decide +kernel
theorem dX12_gathers_19 : decode cX12_gathers 19 = .ok (.invokestatic 168, 3) := by decide +kernel
theorem dX12_gathers_22 : decode cX12_gathers 22 = .ok (.iload_n 3, 1) := by decide +kernel
theorem dX12_gathers_23 : decode cX12_gathers 23 = .ok (.aload_n 0, 1) := by decide +kernel
theorem dX12_gathers_24 : decode cX12_gathers 24 = .ok (.getfield 28, 3) := by decide +kernel
theorem dX12_gathers_27 : decode cX12_gathers 27 = .ok (.iload_n 3, 1) := by decide +kernel
theorem dX12_gathers_28 : decode cX12_gathers 28 = .ok (.iconst 2, 1) := by decide +kernel
theorem dX12_gathers_29 : decode cX12_gathers 29 = .ok (.iadd, 1) := by decide +kernel
theorem dX12_gathers_30 : decode cX12_gathers 30 = .ok (.iaload, 1) := by decide +kernel
theorem dX12_gathers_31 : decode cX12_gathers 31 = .ok (.invokestatic 168, 3) := by decide +kernel
theorem dX12_gathers_34 : decode cX12_gathers 34 = .ok (.bipush 67, 2) := by decide +kernel
theorem dX12_gathers_36 : decode cX12_gathers 36 = .ok (.aload_n 0, 1) := by decide +kernel
theorem dX12_gathers_37 : decode cX12_gathers 37 = .ok (.getfield 28, 3) := by decide +kernel
theorem dX12_gathers_40 : decode cX12_gathers 40 = .ok (.iload 4, 2) := by decide +kernel
theorem dX12_gathers_42 : decode cX12_gathers 42 = .ok (.iconst 2, 1) := by decide +kernel
theorem dX12_gathers_43 : decode cX12_gathers 43 = .ok (.iadd, 1) := by decide +kernel
theorem dX12_gathers_44 : decode cX12_gathers 44 = .ok (.iaload, 1) := by decide +kernel
theorem dX12_gathers_45 : decode cX12_gathers 45 = .ok (.imul, 1) := by decide +kernel
theorem dX12_gathers_46 : decode cX12_gathers 46 = .ok (.invokevirtual 278, 3) := by decide +kernel
theorem dX12_gathers_49 : decode cX12_gathers 49 = .ok (.aload_n 0, 1) := by decide +kernel
theorem dX12_gathers_50 : decode cX12_gathers 50 = .ok (.getfield 28, 3) := by decide +kernel
theorem dX12_gathers_53 : decode cX12_gathers 53 = .ok (.iload_n 3, 1) := by decide +kernel
theorem dX12_gathers_54 : decode cX12_gathers 54 = .ok (.iconst 2, 1) := by decide +kernel
theorem dX12_gathers_55 : decode cX12_gathers 55 = .ok (.iadd, 1) := by decide +kernel
theorem dX12_gathers_56 : decode cX12_gathers 56 = .ok (.dup2, 1) := by decide +kernel
theorem dX12_gathers_57 : decode cX12_gathers 57 = .ok (.iaload, 1) := by decide +kernel
theorem dX12_gathers_58 : decode cX12_gathers 58 = .ok (.aload_n 0, 1) := by decide +kernel
theorem dX12_gathers_59 : decode cX12_gathers 59 = .ok (.getfield 28, 3) := by decide +kernel
theorem dX12_gathers_62 : decode cX12_gathers 62 = .ok (.iload 4, 2) := by decide +kernel
theorem dX12_gathers_64 : decode cX12_gathers 64 = .ok (.iconst 2, 1) := by decide +kernel
theorem dX12_gathers_65 : decode cX12_gathers 65 = .ok (.iadd, 1) := by decide +kernel
theorem dX12_gathers_66 : decode cX12_gathers 66 = .ok (.iaload, 1) := by decide +kernel
theorem dX12_gathers_67 : decode cX12_gathers 67 = .ok (.iadd, 1) := by decide +kernel
theorem dX12_gathers_68 : decode cX12_gathers 68 = .ok (.iastore, 1) := by decide +kernel
theorem dX12_gathers_69 : decode cX12_gathers 69 = .ok (.aload_n 0, 1) := by decide +kernel
theorem dX12_gathers_70 : decode cX12_gathers 70 = .ok (.iload_n 1, 1) := by decide +kernel
theorem dX12_gathers_71 : decode cX12_gathers 71 = .ok (.iload_n 2, 1) := by decide +kernel
theorem dX12_gathers_72 : decode cX12_gathers 72 = .ok (.iconst 1, 1) := by decide +kernel
theorem dX12_gathers_73 : decode cX12_gathers 73 = .ok (.iadd, 1) := by decide +kernel
theorem dX12_gathers_74 : decode cX12_gathers 74 = .ok (.invokevirtual 297, 3) := by decide +kernel
theorem dX12_gathers_77 : decode cX12_gathers 77 = .ok (.iconst 1, 1) := by decide +kernel
theorem dX12_gathers_78 : decode cX12_gathers 78 = .ok (.ireturn, 1) := by decide +kernel
theorem dX12_isSure_0 : decode cX12_isSure 0 = .ok (.aload_n 0, 1) := by decide +kernel
theorem dX12_isSure_1 : decode cX12_isSure 1 = .ok (.getfield 28, 3) := by decide +kernel
theorem dX12_isSure_4 : decode cX12_isSure 4 = .ok (.iload_n 1, 1) := by decide +kernel
theorem dX12_isSure_5 : decode cX12_isSure 5 = .ok (.iaload, 1) := by decide +kernel
theorem dX12_isSure_6 : decode cX12_isSure 6 = .ok (.ifCond .ne 44, 3) := by decide +kernel
theorem dX12_isSure_9 : decode cX12_isSure 9 = .ok (.aload_n 0, 1) := by decide +kernel
theorem dX12_isSure_10 : decode cX12_isSure 10 = .ok (.getfield 28, 3) := by decide +kernel
theorem dX12_isSure_13 : decode cX12_isSure 13 = .ok (.iload_n 1, 1) := by decide +kernel
theorem dX12_isSure_14 : decode cX12_isSure 14 = .ok (.iconst 1, 1) := by decide +kernel
theorem dX12_isSure_15 : decode cX12_isSure 15 = .ok (.iadd, 1) := by decide +kernel
theorem dX12_isSure_16 : decode cX12_isSure 16 = .ok (.iaload, 1) := by decide +kernel
theorem dX12_isSure_17 : decode cX12_isSure 17 = .ok (.iconst 3, 1) := by decide +kernel
theorem dX12_isSure_18 : decode cX12_isSure 18 = .ok (.if_icmp .ne 32, 3) := by decide +kernel
theorem dX12_isSure_21 : decode cX12_isSure 21 = .ok (.aload_n 0, 1) := by decide +kernel
theorem dX12_isSure_22 : decode cX12_isSure 22 = .ok (.getfield 28, 3) := by decide +kernel
theorem dX12_isSure_25 : decode cX12_isSure 25 = .ok (.iload_n 1, 1) := by decide +kernel
theorem dX12_isSure_26 : decode cX12_isSure 26 = .ok (.iconst 3, 1) := by decide +kernel
theorem dX12_isSure_27 : decode cX12_isSure 27 = .ok (.iadd, 1) := by decide +kernel
theorem dX12_isSure_28 : decode cX12_isSure 28 = .ok (.iaload, 1) := by decide +kernel
theorem dX12_isSure_29 : decode cX12_isSure 29 = .ok (.iconst 1, 1) := by decide +kernel
theorem dX12_isSure_30 : decode cX12_isSure 30 = .ok (.if_icmp .ne 20, 3) := by decide +kernel
theorem dX12_isSure_33 : decode cX12_isSure 33 = .ok (.aload_n 0, 1) := by decide +kernel
theorem dX12_isSure_34 : decode cX12_isSure 34 = .ok (.getfield 28, 3) := by decide +kernel
theorem dX12_isSure_37 : decode cX12_isSure 37 = .ok (.iload_n 1, 1) := by decide +kernel
theorem dX12_isSure_38 : decode cX12_isSure 38 = .ok (.iconst 4, 1) := by decide +kernel
theorem dX12_isSure_39 : decode cX12_isSure 39 = .ok (.iadd, 1) := by decide +kernel
theorem dX12_isSure_40 : decode cX12_isSure 40 = .ok (.iaload, 1) := by decide +kernel
theorem dX12_isSure_41 : decode cX12_isSure 41 = .ok (.bipush 18, 2) := by decide +kernel
theorem dX12_isSure_43 : decode cX12_isSure 43 = .ok (.if_icmp .ne 7, 3) := by decide +kernel
theorem dX12_isSure_46 : decode cX12_isSure 46 = .ok (.iconst 1, 1) := by decide +kernel
theorem dX12_isSure_47 : decode cX12_isSure 47 = .ok (.goto 4, 3) := by decide +kernel
theorem dX12_isSure_50 : decode cX12_isSure 50 = .ok (.iconst 0, 1) := by decide +kernel
theorem dX12_isSure_51 : decode cX12_isSure 51 = .ok (.ireturn, 1) := by decide +kernel
theorem dX12_usesCondition_0 : decode cX12_usesCondition 0 = .ok (.iconst 0, 1) := by decide +kernel
theorem dX12_usesCondition_1 : decode cX12_usesCondition 1 = .ok (.istore_n 2, 1) := by decide +kernel
theorem dX12_usesCondition_2 : decode cX12_usesCondition 2 = .ok (.iload_n 2, 1) := by decide +kernel
theorem dX12_usesCondition_3 : decode cX12_usesCondition 3 = .ok (.aload_n 0, 1) := by decide +kernel
theorem dX12_usesCondition_4 : decode cX12_usesCondition 4 = .ok (.getfield 28, 3) := by decide +kernel
theorem dX12_usesCondition_7 : decode cX12_usesCondition 7 = .ok (.iload_n 1, 1) := by decide +kernel
theorem dX12_usesCondition_8 : decode cX12_usesCondition 8 = .ok (.iaload, 1) := by decide +kernel
theorem dX12_usesCondition_9 : decode cX12_usesCondition 9 = .ok (.if_icmp .ge 102, 3) := by decide +kernel
theorem dX12_usesCondition_12 : decode cX12_usesCondition 12 = .ok (.iload_n 1, 1) := by decide +kernel
theorem dX12_usesCondition_13 : decode cX12_usesCondition 13 = .ok (.iload_n 2, 1) := by decide +kernel
theorem dX12_usesCondition_14 : decode cX12_usesCondition 14 = .ok (.invokestatic 159, 3) := by decide +kernel
theorem dX12_usesCondition_17 : decode cX12_usesCondition 17 = .ok (.istore_n 3, 1) := by decide +kernel
theorem dX12_usesCondition_18 : decode cX12_usesCondition 18 = .ok (.iconst 0, 1) := by decide +kernel
theorem dX12_usesCondition_19 : decode cX12_usesCondition 19 = .ok (.istore 4, 2) := by decide +kernel
theorem dX12_usesCondition_21 : decode cX12_usesCondition 21 = .ok (.iload 4, 2) := by decide +kernel
theorem dX12_usesCondition_23 : decode cX12_usesCondition 23 = .ok (.aload_n 0, 1) := by decide +kernel
theorem dX12_usesCondition_24 : decode cX12_usesCondition 24 = .ok (.getfield 28, 3) := by decide +kernel
theorem dX12_usesCondition_27 : decode cX12_usesCondition 27 = .ok (.iload_n 3, 1) := by decide +kernel
theorem dX12_usesCondition_28 : decode cX12_usesCondition 28 = .ok (.iaload, 1) := by decide +kernel
theorem dX12_usesCondition_29 : decode cX12_usesCondition 29 = .ok (.if_icmp .ge 76, 3) := by decide +kernel
theorem dX12_usesCondition_32 : decode cX12_usesCondition 32 = .ok (.aload_n 0, 1) := by decide +kernel
theorem dX12_usesCondition_33 : decode cX12_usesCondition 33 = .ok (.iload_n 3, 1) := by decide +kernel
theorem dX12_usesCondition_34 : decode cX12_usesCondition 34 = .ok (.iload 4, 2) := by decide +kernel
theorem dX12_usesCondition_36 : decode cX12_usesCondition 36 = .ok (.invokestatic 153, 3) := by decide +kernel
theorem dX12_usesCondition_39 : decode cX12_usesCondition 39 = .ok (.invokevirtual 300, 3) := by decide +kernel
theorem dX12_usesCondition_42 : decode cX12_usesCondition 42 = .ok (.ifCond .eq 57, 3) := by decide +kernel
theorem dX12_usesCondition_45 : decode cX12_usesCondition 45 = .ok (.aload_n 0, 1) := by decide +kernel
theorem dX12_usesCondition_46 : decode cX12_usesCondition 46 = .ok (.getfield 28, 3) := by decide +kernel
theorem dX12_usesCondition_49 : decode cX12_usesCondition 49 = .ok (.iload_n 3, 1) := by decide +kernel
theorem dX12_usesCondition_50 : decode cX12_usesCondition 50 = .ok (.iaload, 1) := by decide +kernel
theorem dX12_usesCondition_51 : decode cX12_usesCondition 51 = .ok (.iconst 1, 1) := by decide +kernel
theorem dX12_usesCondition_52 : decode cX12_usesCondition 52 = .ok (.if_icmp .le 47, 3) := by decide +kernel
theorem dX12_usesCondition_55 : decode cX12_usesCondition 55 = .ok (.aload_n 0, 1) := by decide +kernel
theorem dX12_usesCondition_56 : decode cX12_usesCondition 56 = .ok (.iload_n 3, 1) := by decide +kernel
theorem dX12_usesCondition_57 : decode cX12_usesCondition 57 = .ok (.iload 4, 2) := by decide +kernel
theorem dX12_usesCondition_59 : decode cX12_usesCondition 59 = .ok (.iconst 1, 1) := by decide +kernel
theorem dX12_usesCondition_60 : decode cX12_usesCondition 60 = .ok (.iadd, 1) := by decide +kernel
theorem dX12_usesCondition_61 : decode cX12_usesCondition 61 = .ok (.invokestatic 153, 3) := by decide +kernel
theorem dX12_usesCondition_64 : decode cX12_usesCondition 64 = .ok (.iload_n 3, 1) := by decide +kernel
theorem dX12_usesCondition_65 : decode cX12_usesCondition 65 = .ok (.iload 4, 2) := by decide +kernel
theorem dX12_usesCondition_67 : decode cX12_usesCondition 67 = .ok (.invokestatic 153, 3) := by decide +kernel
theorem dX12_usesCondition_70 : decode cX12_usesCondition 70 = .ok (.bipush 7, 2) := by decide +kernel
theorem dX12_usesCondition_72 : decode cX12_usesCondition 72 = .ok (.aload_n 0, 1) := by decide +kernel
theorem dX12_usesCondition_73 : decode cX12_usesCondition 73 = .ok (.getfield 28, 3) := by decide +kernel
theorem dX12_usesCondition_76 : decode cX12_usesCondition 76 = .ok (.iload_n 3, 1) := by decide +kernel
theorem dX12_usesCondition_77 : decode cX12_usesCondition 77 = .ok (.iaload, 1) := by decide +kernel
theorem dX12_usesCondition_78 : decode cX12_usesCondition 78 = .ok (.iload 4, 2) := by decide +kernel
theorem dX12_usesCondition_80 : decode cX12_usesCondition 80 = .ok (.isub, 1) := by decide +kernel
theorem dX12_usesCondition_81 : decode cX12_usesCondition 81 = .ok (.iconst 1, 1) := by decide +kernel
theorem dX12_usesCondition_82 : decode cX12_usesCondition 82 = .ok (.isub, 1) := by decide +kernel
theorem dX12_usesCondition_83 : decode cX12_usesCondition 83 = .ok (.imul, 1) := by decide +kernel
theorem dX12_usesCondition_84 : decode cX12_usesCondition 84 = .ok (.invokevirtual 278, 3) := by decide +kernel
theorem dX12_usesCondition_87 : decode cX12_usesCondition 87 = .ok (.aload_n 0, 1) := by decide +kernel
theorem dX12_usesCondition_88 : decode cX12_usesCondition 88 = .ok (.getfield 28, 3) := by decide +kernel
theorem dX12_usesCondition_91 : decode cX12_usesCondition 91 = .ok (.iload_n 3, 1) := by decide +kernel
theorem dX12_usesCondition_92 : decode cX12_usesCondition 92 = .ok (.dup2, 1) := by decide +kernel
theorem dX12_usesCondition_93 : decode cX12_usesCondition 93 = .ok (.iaload, 1) := by decide +kernel
theorem dX12_usesCondition_94 : decode cX12_usesCondition 94 = .ok (.iconst 1, 1) := by decide +kernel
theorem dX12_usesCondition_95 : decode cX12_usesCondition 95 = .ok (.isub, 1) := by decide +kernel
theorem dX12_usesCondition_96 : decode cX12_usesCondition 96 = .ok (.iastore, 1) := by decide +kernel
theorem dX12_usesCondition_97 : decode cX12_usesCondition 97 = .ok (.iconst 1, 1) := by decide +kernel
theorem dX12_usesCondition_98 : decode cX12_usesCondition 98 = .ok (.ireturn, 1) := by decide +kernel
theorem dX12_usesCondition_99 : decode cX12_usesCondition 99 = .ok (.iinc 4 1, 3) := by decide +kernel
theorem dX12_usesCondition_102 : decode cX12_usesCondition 102 = .ok (.goto (-81), 3) := by decide +kernel
theorem dX12_usesCondition_105 : decode cX12_usesCondition 105 = .ok (.iinc 2 1, 3) := by decide +kernel
theorem dX12_usesCondition_108 : decode cX12_usesCondition 108 = .ok (.goto (-106), 3) := by decide +kernel
theorem dX12_usesCondition_111 : decode cX12_usesCondition 111 = .ok (.iconst 0, 1) := by decide +kernel
theorem dX12_usesCondition_112 : decode cX12_usesCondition 112 = .ok (.ireturn, 1) := by decide +kernel
theorem dX12_isSurePredicate_0 : decode cX12_isSurePredicate 0 = .ok (.iconst 0, 1) := by decide +kernel
theorem dX12_isSurePredicate_1 : decode cX12_isSurePredicate 1 = .ok (.istore_n 2, 1) := by decide +kernel
theorem dX12_isSurePredicate_2 : decode cX12_isSurePredicate 2 = .ok (.iconst 0, 1) := by decide +kernel
theorem dX12_isSurePredicate_3 : decode cX12_isSurePredicate 3 = .ok (.istore_n 3, 1) := by decide +kernel
theorem dX12_isSurePredicate_4 : decode cX12_isSurePredicate 4 = .ok (.iload_n 3, 1) := by decide +kernel
theorem dX12_isSurePredicate_5 : decode cX12_isSurePredicate 5 = .ok (.aload_n 0, 1) := by decide +kernel
theorem dX12_isSurePredicate_6 : decode cX12_isSurePredicate 6 = .ok (.getfield 28, 3) := by decide +kernel
theorem dX12_isSurePredicate_9 : decode cX12_isSurePredicate 9 = .ok (.iload_n 1, 1) := by decide +kernel
theorem dX12_isSurePredicate_10 : decode cX12_isSurePredicate 10 = .ok (.iaload, 1) := by decide +kernel
theorem dX12_isSurePredicate_11 : decode cX12_isSurePredicate 11 = .ok (.if_icmp .ge 50, 3) := by decide +kernel
theorem dX12_isSurePredicate_14 : decode cX12_isSurePredicate 14 = .ok (.iload_n 1, 1) := by decide +kernel
theorem dX12_isSurePredicate_15 : decode cX12_isSurePredicate 15 = .ok (.iload_n 3, 1) := by decide +kernel
theorem dX12_isSurePredicate_16 : decode cX12_isSurePredicate 16 = .ok (.invokestatic 159, 3) := by decide +kernel
theorem dX12_isSurePredicate_19 : decode cX12_isSurePredicate 19 = .ok (.istore 4, 2) := by decide +kernel
theorem dX12_isSurePredicate_21 : decode cX12_isSurePredicate 21 = .ok (.iload_n 2, 1) := by decide +kernel
theorem dX12_isSurePredicate_22 : decode cX12_isSurePredicate 22 = .ok (.ifCond .ne 27, 3) := by decide +kernel
theorem dX12_isSurePredicate_25 : decode cX12_isSurePredicate 25 = .ok (.aload_n 0, 1) := by decide +kernel
theorem dX12_isSurePredicate_26 : decode cX12_isSurePredicate 26 = .ok (.getfield 28, 3) := by decide +kernel
theorem dX12_isSurePredicate_29 : decode cX12_isSurePredicate 29 = .ok (.iload 4, 2) := by decide +kernel
theorem dX12_isSurePredicate_31 : decode cX12_isSurePredicate 31 = .ok (.iaload, 1) := by decide +kernel
theorem dX12_isSurePredicate_32 : decode cX12_isSurePredicate 32 = .ok (.iconst 1, 1) := by decide +kernel
theorem dX12_isSurePredicate_33 : decode cX12_isSurePredicate 33 = .ok (.if_icmp .ne 20, 3) := by decide +kernel
theorem dX12_isSurePredicate_36 : decode cX12_isSurePredicate 36 = .ok (.aload_n 0, 1) := by decide +kernel
theorem dX12_isSurePredicate_37 : decode cX12_isSurePredicate 37 = .ok (.iload 4, 2) := by decide +kernel
theorem dX12_isSurePredicate_39 : decode cX12_isSurePredicate 39 = .ok (.iconst 0, 1) := by decide +kernel
theorem dX12_isSurePredicate_40 : decode cX12_isSurePredicate 40 = .ok (.invokestatic 153, 3) := by decide +kernel
theorem dX12_isSurePredicate_43 : decode cX12_isSurePredicate 43 = .ok (.invokevirtual 300, 3) := by decide +kernel
theorem dX12_isSurePredicate_46 : decode cX12_isSurePredicate 46 = .ok (.ifCond .eq 7, 3) := by decide +kernel
theorem dX12_isSurePredicate_49 : decode cX12_isSurePredicate 49 = .ok (.iconst 1, 1) := by decide +kernel
theorem dX12_isSurePredicate_50 : decode cX12_isSurePredicate 50 = .ok (.goto 4, 3) := by decide +kernel
theorem dX12_isSurePredicate_53 : decode cX12_isSurePredicate 53 = .ok (.iconst 0, 1) := by decide +kernel
theorem dX12_isSurePredicate_54 : decode cX12_isSurePredicate 54 = .ok (.istore_n 2, 1) := by decide +kernel
theorem dX12_isSurePredicate_55 : decode cX12_isSurePredicate 55 = .ok (.iinc 3 1, 3) := by decide +kernel
theorem dX12_isSurePredicate_58 : decode cX12_isSurePredicate 58 = .ok (.goto (-54), 3) := by decide +kernel
theorem dX12_isSurePredicate_61 : decode cX12_isSurePredicate 61 = .ok (.iload_n 2, 1) := by decide +kernel
theorem dX12_isSurePredicate_62 : decode cX12_isSurePredicate 62 = .ok (.ireturn, 1) := by decide +kernel
theorem dX12_areAlike_0 : decode cX12_areAlike 0 = .ok (.aload_n 0, 1) := by decide +kernel
theorem dX12_areAlike_1 : decode cX12_areAlike 1 = .ok (.iconst 0, 1) := by decide +kernel
theorem dX12_areAlike_2 : decode cX12_areAlike 2 = .ok (.putfield 186, 3) := by decide +kernel
theorem dX12_areAlike_5 : decode cX12_areAlike 5 = .ok (.aload_n 0, 1) := by decide +kernel
theorem dX12_areAlike_6 : decode cX12_areAlike 6 = .ok (.iload_n 1, 1) := by decide +kernel
theorem dX12_areAlike_7 : decode cX12_areAlike 7 = .ok (.invokevirtual 201, 3) := by decide +kernel
theorem dX12_areAlike_10 : decode cX12_areAlike 10 = .ok (.aload_n 0, 1) := by decide +kernel
theorem dX12_areAlike_11 : decode cX12_areAlike 11 = .ok (.getfield 186, 3) := by decide +kernel
theorem dX12_areAlike_14 : decode cX12_areAlike 14 = .ok (.istore_n 3, 1) := by decide +kernel
theorem dX12_areAlike_15 : decode cX12_areAlike 15 = .ok (.aload_n 0, 1) := by decide +kernel
theorem dX12_areAlike_16 : decode cX12_areAlike 16 = .ok (.iload_n 2, 1) := by decide +kernel
theorem dX12_areAlike_17 : decode cX12_areAlike 17 = .ok (.invokevirtual 201, 3) := by decide +kernel
theorem dX12_areAlike_20 : decode cX12_areAlike 20 = .ok (.aload_n 0, 1) := by decide +kernel
theorem dX12_areAlike_21 : decode cX12_areAlike 21 = .ok (.iload_n 3, 1) := by decide +kernel
theorem dX12_areAlike_22 : decode cX12_areAlike 22 = .ok (.invokevirtual 303, 3) := by decide +kernel
theorem dX12_areAlike_25 : decode cX12_areAlike 25 = .ok (.ireturn, 1) := by decide +kernel
theorem dX12_usesWithin_0 : decode cX12_usesWithin 0 = .ok (.iconst 0, 1) := by decide +kernel
theorem dX12_usesWithin_1 : decode cX12_usesWithin 1 = .ok (.istore_n 3, 1) := by decide +kernel
theorem dX12_usesWithin_2 : decode cX12_usesWithin 2 = .ok (.iload_n 3, 1) := by decide +kernel
theorem dX12_usesWithin_3 : decode cX12_usesWithin 3 = .ok (.aload_n 0, 1) := by decide +kernel
theorem dX12_usesWithin_4 : decode cX12_usesWithin 4 = .ok (.getfield 28, 3) := by decide +kernel
theorem dX12_usesWithin_7 : decode cX12_usesWithin 7 = .ok (.iload_n 2, 1) := by decide +kernel
theorem dX12_usesWithin_8 : decode cX12_usesWithin 8 = .ok (.iconst 2, 1) := by decide +kernel
theorem dX12_usesWithin_9 : decode cX12_usesWithin 9 = .ok (.iadd, 1) := by decide +kernel
theorem dX12_usesWithin_10 : decode cX12_usesWithin 10 = .ok (.iaload, 1) := by decide +kernel
theorem dX12_usesWithin_11 : decode cX12_usesWithin 11 = .ok (.if_icmp .ge 99, 3) := by decide +kernel
theorem dX12_usesWithin_14 : decode cX12_usesWithin 14 = .ok (.iload_n 2, 1) := by decide +kernel
theorem dX12_usesWithin_15 : decode cX12_usesWithin 15 = .ok (.iload_n 3, 1) := by decide +kernel
theorem dX12_usesWithin_16 : decode cX12_usesWithin 16 = .ok (.invokestatic 168, 3) := by decide +kernel
theorem dX12_usesWithin_19 : decode cX12_usesWithin 19 = .ok (.istore 4, 2) := by decide +kernel
theorem dX12_usesWithin_21 : decode cX12_usesWithin 21 = .ok (.iload_n 1, 1) := by decide +kernel
theorem dX12_usesWithin_22 : decode cX12_usesWithin 22 = .ok (.bipush 6, 2) := by decide +kernel
theorem dX12_usesWithin_24 : decode cX12_usesWithin 24 = .ok (.if_icmp .ne 14, 3) := by decide +kernel
theorem dX12_usesWithin_27 : decode cX12_usesWithin 27 = .ok (.aload_n 0, 1) := by decide +kernel
theorem dX12_usesWithin_28 : decode cX12_usesWithin 28 = .ok (.iload 4, 2) := by decide +kernel
theorem dX12_usesWithin_30 : decode cX12_usesWithin 30 = .ok (.invokevirtual 306, 3) := by decide +kernel
theorem dX12_usesWithin_33 : decode cX12_usesWithin 33 = .ok (.ifCond .eq 5, 3) := by decide +kernel
theorem dX12_usesWithin_36 : decode cX12_usesWithin 36 = .ok (.iconst 1, 1) := by decide +kernel
theorem dX12_usesWithin_37 : decode cX12_usesWithin 37 = .ok (.ireturn, 1) := by decide +kernel
theorem dX12_usesWithin_38 : decode cX12_usesWithin 38 = .ok (.iload_n 1, 1) := by decide +kernel
theorem dX12_usesWithin_39 : decode cX12_usesWithin 39 = .ok (.bipush 7, 2) := by decide +kernel
theorem dX12_usesWithin_41 : decode cX12_usesWithin 41 = .ok (.if_icmp .ne 20, 3) := by decide +kernel
theorem dX12_usesWithin_44 : decode cX12_usesWithin 44 = .ok (.aload_n 0, 1) := by decide +kernel
theorem dX12_usesWithin_45 : decode cX12_usesWithin 45 = .ok (.iload 4, 2) := by decide +kernel
theorem dX12_usesWithin_47 : decode cX12_usesWithin 47 = .ok (.invokevirtual 309, 3) := by decide +kernel
theorem dX12_usesWithin_50 : decode cX12_usesWithin 50 = .ok (.ifCond .eq 11, 3) := by decide +kernel
theorem dX12_usesWithin_53 : decode cX12_usesWithin 53 = .ok (.aload_n 0, 1) := by decide +kernel
theorem dX12_usesWithin_54 : decode cX12_usesWithin 54 = .ok (.iload_n 2, 1) := by decide +kernel
theorem dX12_usesWithin_55 : decode cX12_usesWithin 55 = .ok (.iload_n 3, 1) := by decide +kernel
theorem dX12_usesWithin_56 : decode cX12_usesWithin 56 = .ok (.invokevirtual 312, 3) := by decide +kernel
theorem dX12_usesWithin_59 : decode cX12_usesWithin 59 = .ok (.iconst 1, 1) := by decide +kernel
theorem dX12_usesWithin_60 : decode cX12_usesWithin 60 = .ok (.ireturn, 1) := by decide +kernel
theorem dX12_usesWithin_61 : decode cX12_usesWithin 61 = .ok (.iload_n 1, 1) := by decide +kernel
theorem dX12_usesWithin_62 : decode cX12_usesWithin 62 = .ok (.bipush 8, 2) := by decide +kernel
theorem dX12_usesWithin_64 : decode cX12_usesWithin 64 = .ok (.if_icmp .ne 40, 3) := by decide +kernel
theorem dX12_usesWithin_67 : decode cX12_usesWithin 67 = .ok (.iload_n 3, 1) := by decide +kernel
theorem dX12_usesWithin_68 : decode cX12_usesWithin 68 = .ok (.ifCond .le 36, 3) := by decide +kernel
theorem dX12_usesWithin_71 : decode cX12_usesWithin 71 = .ok (.aload_n 0, 1) := by decide +kernel
theorem dX12_usesWithin_72 : decode cX12_usesWithin 72 = .ok (.iload 4, 2) := by decide +kernel
theorem dX12_usesWithin_74 : decode cX12_usesWithin 74 = .ok (.invokevirtual 226, 3) := by decide +kernel
theorem dX12_usesWithin_77 : decode cX12_usesWithin 77 = .ok (.ifCond .ne 27, 3) := by decide +kernel
theorem dX12_usesWithin_80 : decode cX12_usesWithin 80 = .ok (.aload_n 0, 1) := by decide +kernel
theorem dX12_usesWithin_81 : decode cX12_usesWithin 81 = .ok (.iload_n 2, 1) := by decide +kernel
theorem dX12_usesWithin_82 : decode cX12_usesWithin 82 = .ok (.iload_n 3, 1) := by decide +kernel
theorem dX12_usesWithin_83 : decode cX12_usesWithin 83 = .ok (.iconst 1, 1) := by decide +kernel
theorem dX12_usesWithin_84 : decode cX12_usesWithin 84 = .ok (.isub, 1) := by decide +kernel
theorem dX12_usesWithin_85 : decode cX12_usesWithin 85 = .ok (.invokestatic 168, 3) := by decide +kernel
theorem dX12_usesWithin_88 : decode cX12_usesWithin 88 = .ok (.iload 4, 2) := by decide +kernel
theorem dX12_usesWithin_90 : decode cX12_usesWithin 90 = .ok (.invokevirtual 315, 3) := by decide +kernel
theorem dX12_usesWithin_93 : decode cX12_usesWithin 93 = .ok (.ifCond .eq 11, 3) := by decide +kernel
theorem dX12_usesWithin_96 : decode cX12_usesWithin 96 = .ok (.aload_n 0, 1) := by decide +kernel
theorem dX12_usesWithin_97 : decode cX12_usesWithin 97 = .ok (.iload_n 2, 1) := by decide +kernel
theorem dX12_usesWithin_98 : decode cX12_usesWithin 98 = .ok (.iload_n 3, 1) := by decide +kernel
theorem dX12_usesWithin_99 : decode cX12_usesWithin 99 = .ok (.invokevirtual 312, 3) := by decide +kernel
theorem dX12_usesWithin_102 : decode cX12_usesWithin 102 = .ok (.iconst 1, 1) := by decide +kernel
theorem dX12_usesWithin_103 : decode cX12_usesWithin 103 = .ok (.ireturn, 1) := by decide +kernel
theorem dX12_usesWithin_104 : decode cX12_usesWithin 104 = .ok (.iinc 3 1, 3) := by decide +kernel
theorem dX12_usesWithin_107 : decode cX12_usesWithin 107 = .ok (.goto (-105), 3) := by decide +kernel
theorem dX12_usesWithin_110 : decode cX12_usesWithin 110 = .ok (.iconst 0, 1) := by decide +kernel
theorem dX12_usesWithin_111 : decode cX12_usesWithin 111 = .ok (.ireturn, 1) := by decide +kernel
theorem dX12_usesRule_0 : decode cX12_usesRule 0 = .ok (.iconst 0, 1) := by decide +kernel
theorem dX12_usesRule_1 : decode cX12_usesRule 1 = .ok (.istore_n 3, 1) := by decide +kernel
theorem dX12_usesRule_2 : decode cX12_usesRule 2 = .ok (.iload_n 3, 1) := by decide +kernel
theorem dX12_usesRule_3 : decode cX12_usesRule 3 = .ok (.aload_n 0, 1) := by decide +kernel
theorem dX12_usesRule_4 : decode cX12_usesRule 4 = .ok (.getfield 28, 3) := by decide +kernel
theorem dX12_usesRule_7 : decode cX12_usesRule 7 = .ok (.iload_n 2, 1) := by decide +kernel
theorem dX12_usesRule_8 : decode cX12_usesRule 8 = .ok (.iconst 1, 1) := by decide +kernel
theorem dX12_usesRule_9 : decode cX12_usesRule 9 = .ok (.iadd, 1) := by decide +kernel
theorem dX12_usesRule_10 : decode cX12_usesRule 10 = .ok (.iaload, 1) := by decide +kernel
theorem dX12_usesRule_11 : decode cX12_usesRule 11 = .ok (.if_icmp .ge 53, 3) := by decide +kernel
theorem dX12_usesRule_14 : decode cX12_usesRule 14 = .ok (.iload_n 1, 1) := by decide +kernel
theorem dX12_usesRule_15 : decode cX12_usesRule 15 = .ok (.bipush 6, 2) := by decide +kernel
theorem dX12_usesRule_17 : decode cX12_usesRule 17 = .ok (.if_icmp .ge 16, 3) := by decide +kernel
theorem dX12_usesRule_20 : decode cX12_usesRule 20 = .ok (.aload_n 0, 1) := by decide +kernel
theorem dX12_usesRule_21 : decode cX12_usesRule 21 = .ok (.iload_n 1, 1) := by decide +kernel
theorem dX12_usesRule_22 : decode cX12_usesRule 22 = .ok (.iload_n 2, 1) := by decide +kernel
theorem dX12_usesRule_23 : decode cX12_usesRule 23 = .ok (.iload_n 3, 1) := by decide +kernel
theorem dX12_usesRule_24 : decode cX12_usesRule 24 = .ok (.invokevirtual 318, 3) := by decide +kernel
theorem dX12_usesRule_27 : decode cX12_usesRule 27 = .ok (.ifCond .eq 31, 3) := by decide +kernel
theorem dX12_usesRule_30 : decode cX12_usesRule 30 = .ok (.goto 16, 3) := by decide +kernel
theorem dX12_usesRule_33 : decode cX12_usesRule 33 = .ok (.aload_n 0, 1) := by decide +kernel
theorem dX12_usesRule_34 : decode cX12_usesRule 34 = .ok (.iload_n 1, 1) := by decide +kernel
theorem dX12_usesRule_35 : decode cX12_usesRule 35 = .ok (.iload_n 2, 1) := by decide +kernel
theorem dX12_usesRule_36 : decode cX12_usesRule 36 = .ok (.iload_n 3, 1) := by decide +kernel
theorem dX12_usesRule_37 : decode cX12_usesRule 37 = .ok (.invokestatic 165, 3) := by decide +kernel
theorem dX12_usesRule_40 : decode cX12_usesRule 40 = .ok (.invokevirtual 321, 3) := by decide +kernel
theorem dX12_usesRule_43 : decode cX12_usesRule 43 = .ok (.ifCond .eq 15, 3) := by decide +kernel
theorem dX12_usesRule_46 : decode cX12_usesRule 46 = .ok (.aload_n 0, 1) := by decide +kernel
theorem dX12_usesRule_47 : decode cX12_usesRule 47 = .ok (.getfield 59, 3) := by decide +kernel
theorem dX12_usesRule_50 : decode cX12_usesRule 50 = .ok (.iload_n 1, 1) := by decide +kernel
theorem dX12_usesRule_51 : decode cX12_usesRule 51 = .ok (.dup2, 1) := by decide +kernel
theorem dX12_usesRule_52 : decode cX12_usesRule 52 = .ok (.iaload, 1) := by decide +kernel
theorem dX12_usesRule_53 : decode cX12_usesRule 53 = .ok (.iconst 1, 1) := by decide +kernel
theorem dX12_usesRule_54 : decode cX12_usesRule 54 = .ok (.iadd, 1) := by decide +kernel
theorem dX12_usesRule_55 : decode cX12_usesRule 55 = .ok (.iastore, 1) := by decide +kernel
theorem dX12_usesRule_56 : decode cX12_usesRule 56 = .ok (.iconst 1, 1) := by decide +kernel
theorem dX12_usesRule_57 : decode cX12_usesRule 57 = .ok (.ireturn, 1) := by decide +kernel
theorem dX12_usesRule_58 : decode cX12_usesRule 58 = .ok (.iinc 3 1, 3) := by decide +kernel
theorem dX12_usesRule_61 : decode cX12_usesRule 61 = .ok (.goto (-59), 3) := by decide +kernel
theorem dX12_usesRule_64 : decode cX12_usesRule 64 = .ok (.iconst 0, 1) := by decide +kernel
theorem dX12_usesRule_65 : decode cX12_usesRule 65 = .ok (.ireturn, 1) := by decide +kernel
theorem dX12_rewritePath_0 : decode cX12_rewritePath 0 = .ok (.iconst 1, 1) := by decide +kernel
theorem dX12_rewritePath_1 : decode cX12_rewritePath 1 = .ok (.istore_n 2, 1) := by decide +kernel
theorem dX12_rewritePath_2 : decode cX12_rewritePath 2 = .ok (.iload_n 2, 1) := by decide +kernel
theorem dX12_rewritePath_3 : decode cX12_rewritePath 3 = .ok (.bipush 8, 2) := by decide +kernel
theorem dX12_rewritePath_5 : decode cX12_rewritePath 5 = .ok (.if_icmp .gt 23, 3) := by decide +kernel
theorem dX12_rewritePath_8 : decode cX12_rewritePath 8 = .ok (.aload_n 0, 1) := by decide +kernel
theorem dX12_rewritePath_9 : decode cX12_rewritePath 9 = .ok (.iload_n 2, 1) := by decide +kernel
theorem dX12_rewritePath_10 : decode cX12_rewritePath 10 = .ok (.iload_n 1, 1) := by decide +kernel
theorem dX12_rewritePath_11 : decode cX12_rewritePath 11 = .ok (.invokevirtual 324, 3) := by decide +kernel
theorem dX12_rewritePath_14 : decode cX12_rewritePath 14 = .ok (.ifCond .eq 7, 3) := by decide +kernel
theorem dX12_rewritePath_17 : decode cX12_rewritePath 17 = .ok (.iconst 1, 1) := by decide +kernel
theorem dX12_rewritePath_18 : decode cX12_rewritePath 18 = .ok (.goto 6, 3) := by decide +kernel
theorem dX12_rewritePath_21 : decode cX12_rewritePath 21 = .ok (.iload_n 2, 1) := by decide +kernel
theorem dX12_rewritePath_22 : decode cX12_rewritePath 22 = .ok (.iconst 1, 1) := by decide +kernel
theorem dX12_rewritePath_23 : decode cX12_rewritePath 23 = .ok (.iadd, 1) := by decide +kernel
theorem dX12_rewritePath_24 : decode cX12_rewritePath 24 = .ok (.istore_n 2, 1) := by decide +kernel
theorem dX12_rewritePath_25 : decode cX12_rewritePath 25 = .ok (.goto (-23), 3) := by decide +kernel
theorem dX12_rewritePath_28 : decode cX12_rewritePath 28 = .ok (.return_, 1) := by decide +kernel
theorem dX12_arePathsAlike_0 : decode cX12_arePathsAlike 0 = .ok (.aload_n 0, 1) := by decide +kernel
theorem dX12_arePathsAlike_1 : decode cX12_arePathsAlike 1 = .ok (.iconst 0, 1) := by decide +kernel
theorem dX12_arePathsAlike_2 : decode cX12_arePathsAlike 2 = .ok (.putfield 186, 3) := by decide +kernel
theorem dX12_arePathsAlike_5 : decode cX12_arePathsAlike 5 = .ok (.aload_n 0, 1) := by decide +kernel
theorem dX12_arePathsAlike_6 : decode cX12_arePathsAlike 6 = .ok (.iload_n 1, 1) := by decide +kernel
theorem dX12_arePathsAlike_7 : decode cX12_arePathsAlike 7 = .ok (.invokestatic 180, 3) := by decide +kernel
theorem dX12_arePathsAlike_10 : decode cX12_arePathsAlike 10 = .ok (.invokevirtual 204, 3) := by decide +kernel
theorem dX12_arePathsAlike_13 : decode cX12_arePathsAlike 13 = .ok (.aload_n 0, 1) := by decide +kernel
theorem dX12_arePathsAlike_14 : decode cX12_arePathsAlike 14 = .ok (.getfield 186, 3) := by decide +kernel
theorem dX12_arePathsAlike_17 : decode cX12_arePathsAlike 17 = .ok (.istore_n 3, 1) := by decide +kernel
theorem dX12_arePathsAlike_18 : decode cX12_arePathsAlike 18 = .ok (.aload_n 0, 1) := by decide +kernel
theorem dX12_arePathsAlike_19 : decode cX12_arePathsAlike 19 = .ok (.iload_n 2, 1) := by decide +kernel
theorem dX12_arePathsAlike_20 : decode cX12_arePathsAlike 20 = .ok (.invokestatic 180, 3) := by decide +kernel
theorem dX12_arePathsAlike_23 : decode cX12_arePathsAlike 23 = .ok (.invokevirtual 204, 3) := by decide +kernel
theorem dX12_arePathsAlike_26 : decode cX12_arePathsAlike 26 = .ok (.aload_n 0, 1) := by decide +kernel
theorem dX12_arePathsAlike_27 : decode cX12_arePathsAlike 27 = .ok (.iload_n 3, 1) := by decide +kernel
theorem dX12_arePathsAlike_28 : decode cX12_arePathsAlike 28 = .ok (.invokevirtual 303, 3) := by decide +kernel
theorem dX12_arePathsAlike_31 : decode cX12_arePathsAlike 31 = .ok (.ireturn, 1) := by decide +kernel
theorem dX12_rewriteAll_0 : decode cX12_rewriteAll 0 = .ok (.iconst 0, 1) := by decide +kernel
theorem dX12_rewriteAll_1 : decode cX12_rewriteAll 1 = .ok (.istore_n 1, 1) := by decide +kernel
theorem dX12_rewriteAll_2 : decode cX12_rewriteAll 2 = .ok (.iload_n 1, 1) := by decide +kernel
theorem dX12_rewriteAll_3 : decode cX12_rewriteAll 3 = .ok (.bipush 10, 2) := by decide +kernel
theorem dX12_rewriteAll_5 : decode cX12_rewriteAll 5 = .ok (.if_icmp .ge 16, 3) := by decide +kernel
theorem dX12_rewriteAll_8 : decode cX12_rewriteAll 8 = .ok (.aload_n 0, 1) := by decide +kernel
theorem dX12_rewriteAll_9 : decode cX12_rewriteAll 9 = .ok (.getfield 59, 3) := by decide +kernel
theorem dX12_rewriteAll_12 : decode cX12_rewriteAll 12 = .ok (.iload_n 1, 1) := by decide +kernel
theorem dX12_rewriteAll_13 : decode cX12_rewriteAll 13 = .ok (.iconst 0, 1) := by decide +kernel
theorem dX12_rewriteAll_14 : decode cX12_rewriteAll 14 = .ok (.iastore, 1) := by decide +kernel
theorem dX12_rewriteAll_15 : decode cX12_rewriteAll 15 = .ok (.iinc 1 1, 3) := by decide +kernel
theorem dX12_rewriteAll_18 : decode cX12_rewriteAll 18 = .ok (.goto (-16), 3) := by decide +kernel
theorem dX12_rewriteAll_21 : decode cX12_rewriteAll 21 = .ok (.iconst 0, 1) := by decide +kernel
theorem dX12_rewriteAll_22 : decode cX12_rewriteAll 22 = .ok (.istore_n 1, 1) := by decide +kernel
theorem dX12_rewriteAll_23 : decode cX12_rewriteAll 23 = .ok (.iload_n 1, 1) := by decide +kernel
theorem dX12_rewriteAll_24 : decode cX12_rewriteAll 24 = .ok (.aload_n 0, 1) := by decide +kernel
theorem dX12_rewriteAll_25 : decode cX12_rewriteAll 25 = .ok (.getfield 28, 3) := by decide +kernel
theorem dX12_rewriteAll_28 : decode cX12_rewriteAll 28 = .ok (.iconst 0, 1) := by decide +kernel
theorem dX12_rewriteAll_29 : decode cX12_rewriteAll 29 = .ok (.iaload, 1) := by decide +kernel
theorem dX12_rewriteAll_30 : decode cX12_rewriteAll 30 = .ok (.if_icmp .ge 17, 3) := by decide +kernel
theorem dX12_rewriteAll_33 : decode cX12_rewriteAll 33 = .ok (.aload_n 0, 1) := by decide +kernel
theorem dX12_rewriteAll_34 : decode cX12_rewriteAll 34 = .ok (.iload_n 1, 1) := by decide +kernel
theorem dX12_rewriteAll_35 : decode cX12_rewriteAll 35 = .ok (.invokestatic 180, 3) := by decide +kernel
theorem dX12_rewriteAll_38 : decode cX12_rewriteAll 38 = .ok (.invokevirtual 327, 3) := by decide +kernel
theorem dX12_rewriteAll_41 : decode cX12_rewriteAll 41 = .ok (.iinc 1 1, 3) := by decide +kernel
theorem dX12_rewriteAll_44 : decode cX12_rewriteAll 44 = .ok (.goto (-21), 3) := by decide +kernel
theorem dX12_rewriteAll_47 : decode cX12_rewriteAll 47 = .ok (.iconst 1, 1) := by decide +kernel
theorem dX12_rewriteAll_48 : decode cX12_rewriteAll 48 = .ok (.istore_n 1, 1) := by decide +kernel
theorem dX12_rewriteAll_49 : decode cX12_rewriteAll 49 = .ok (.iload_n 1, 1) := by decide +kernel
theorem dX12_rewriteAll_50 : decode cX12_rewriteAll 50 = .ok (.aload_n 0, 1) := by decide +kernel
theorem dX12_rewriteAll_51 : decode cX12_rewriteAll 51 = .ok (.getfield 28, 3) := by decide +kernel
theorem dX12_rewriteAll_54 : decode cX12_rewriteAll 54 = .ok (.iconst 0, 1) := by decide +kernel
theorem dX12_rewriteAll_55 : decode cX12_rewriteAll 55 = .ok (.iaload, 1) := by decide +kernel
theorem dX12_rewriteAll_56 : decode cX12_rewriteAll 56 = .ok (.if_icmp .ge 99, 3) := by decide +kernel
theorem dX12_rewriteAll_59 : decode cX12_rewriteAll 59 = .ok (.iconst 0, 1) := by decide +kernel
theorem dX12_rewriteAll_60 : decode cX12_rewriteAll 60 = .ok (.istore_n 2, 1) := by decide +kernel
theorem dX12_rewriteAll_61 : decode cX12_rewriteAll 61 = .ok (.iconst 0, 1) := by decide +kernel
theorem dX12_rewriteAll_62 : decode cX12_rewriteAll 62 = .ok (.istore_n 3, 1) := by decide +kernel
theorem dX12_rewriteAll_63 : decode cX12_rewriteAll 63 = .ok (.iload_n 3, 1) := by decide +kernel
theorem dX12_rewriteAll_64 : decode cX12_rewriteAll 64 = .ok (.iload_n 1, 1) := by decide +kernel
theorem dX12_rewriteAll_65 : decode cX12_rewriteAll 65 = .ok (.if_icmp .ge 28, 3) := by decide +kernel
theorem dX12_rewriteAll_68 : decode cX12_rewriteAll 68 = .ok (.iload_n 2, 1) := by decide +kernel
theorem dX12_rewriteAll_69 : decode cX12_rewriteAll 69 = .ok (.ifCond .ne 12, 3) := by decide +kernel
theorem dX12_rewriteAll_72 : decode cX12_rewriteAll 72 = .ok (.aload_n 0, 1) := by decide +kernel
theorem dX12_rewriteAll_73 : decode cX12_rewriteAll 73 = .ok (.iload_n 3, 1) := by decide +kernel
theorem dX12_rewriteAll_74 : decode cX12_rewriteAll 74 = .ok (.iload_n 1, 1) := by decide +kernel
theorem dX12_rewriteAll_75 : decode cX12_rewriteAll 75 = .ok (.invokevirtual 330, 3) := by decide +kernel
theorem dX12_rewriteAll_78 : decode cX12_rewriteAll 78 = .ok (.ifCond .eq 7, 3) := by decide +kernel
theorem dX12_rewriteAll_81 : decode cX12_rewriteAll 81 = .ok (.iconst 1, 1) := by decide +kernel
theorem dX12_rewriteAll_82 : decode cX12_rewriteAll 82 = .ok (.goto 4, 3) := by decide +kernel
theorem dX12_rewriteAll_85 : decode cX12_rewriteAll 85 = .ok (.iconst 0, 1) := by decide +kernel
theorem dX12_rewriteAll_86 : decode cX12_rewriteAll 86 = .ok (.istore_n 2, 1) := by decide +kernel
theorem dX12_rewriteAll_87 : decode cX12_rewriteAll 87 = .ok (.iinc 3 1, 3) := by decide +kernel
theorem dX12_rewriteAll_90 : decode cX12_rewriteAll 90 = .ok (.goto (-27), 3) := by decide +kernel
theorem dX12_rewriteAll_93 : decode cX12_rewriteAll 93 = .ok (.iload_n 2, 1) := by decide +kernel
theorem dX12_rewriteAll_94 : decode cX12_rewriteAll 94 = .ok (.ifCond .eq 55, 3) := by decide +kernel
theorem dX12_rewriteAll_97 : decode cX12_rewriteAll 97 = .ok (.aload_n 0, 1) := by decide +kernel
theorem dX12_rewriteAll_98 : decode cX12_rewriteAll 98 = .ok (.iload_n 1, 1) := by decide +kernel
theorem dX12_rewriteAll_99 : decode cX12_rewriteAll 99 = .ok (.iconst 1, 1) := by decide +kernel
theorem dX12_rewriteAll_100 : decode cX12_rewriteAll 100 = .ok (.iadd, 1) := by decide +kernel
theorem dX12_rewriteAll_101 : decode cX12_rewriteAll 101 = .ok (.invokestatic 180, 3) := by decide +kernel
theorem dX12_rewriteAll_104 : decode cX12_rewriteAll 104 = .ok (.iload_n 1, 1) := by decide +kernel
theorem dX12_rewriteAll_105 : decode cX12_rewriteAll 105 = .ok (.invokestatic 180, 3) := by decide +kernel
theorem dX12_rewriteAll_108 : decode cX12_rewriteAll 108 = .ok (.sipush 1634, 3) := by decide +kernel
theorem dX12_rewriteAll_111 : decode cX12_rewriteAll 111 = .ok (.aload_n 0, 1) := by decide +kernel
theorem dX12_rewriteAll_112 : decode cX12_rewriteAll 112 = .ok (.getfield 28, 3) := by decide +kernel
theorem dX12_rewriteAll_115 : decode cX12_rewriteAll 115 = .ok (.iconst 0, 1) := by decide +kernel
theorem dX12_rewriteAll_116 : decode cX12_rewriteAll 116 = .ok (.iaload, 1) := by decide +kernel
theorem dX12_rewriteAll_117 : decode cX12_rewriteAll 117 = .ok (.iload_n 1, 1) := by decide +kernel
theorem dX12_rewriteAll_118 : decode cX12_rewriteAll 118 = .ok (.isub, 1) := by decide +kernel
theorem dX12_rewriteAll_119 : decode cX12_rewriteAll 119 = .ok (.iconst 1, 1) := by decide +kernel
theorem dX12_rewriteAll_120 : decode cX12_rewriteAll 120 = .ok (.isub, 1) := by decide +kernel
theorem dX12_rewriteAll_121 : decode cX12_rewriteAll 121 = .ok (.imul, 1) := by decide +kernel
theorem dX12_rewriteAll_122 : decode cX12_rewriteAll 122 = .ok (.invokevirtual 278, 3) := by decide +kernel
theorem dX12_rewriteAll_125 : decode cX12_rewriteAll 125 = .ok (.aload_n 0, 1) := by decide +kernel
theorem dX12_rewriteAll_126 : decode cX12_rewriteAll 126 = .ok (.getfield 28, 3) := by decide +kernel
theorem dX12_rewriteAll_129 : decode cX12_rewriteAll 129 = .ok (.iconst 0, 1) := by decide +kernel
theorem dX12_rewriteAll_130 : decode cX12_rewriteAll 130 = .ok (.dup2, 1) := by decide +kernel
theorem dX12_rewriteAll_131 : decode cX12_rewriteAll 131 = .ok (.iaload, 1) := by decide +kernel
theorem dX12_rewriteAll_132 : decode cX12_rewriteAll 132 = .ok (.iconst 1, 1) := by decide +kernel
theorem dX12_rewriteAll_133 : decode cX12_rewriteAll 133 = .ok (.isub, 1) := by decide +kernel
theorem dX12_rewriteAll_134 : decode cX12_rewriteAll 134 = .ok (.iastore, 1) := by decide +kernel
theorem dX12_rewriteAll_135 : decode cX12_rewriteAll 135 = .ok (.aload_n 0, 1) := by decide +kernel
theorem dX12_rewriteAll_136 : decode cX12_rewriteAll 136 = .ok (.getfield 59, 3) := by decide +kernel
theorem dX12_rewriteAll_139 : decode cX12_rewriteAll 139 = .ok (.bipush 9, 2) := by decide +kernel
theorem dX12_rewriteAll_141 : decode cX12_rewriteAll 141 = .ok (.dup2, 1) := by decide +kernel
theorem dX12_rewriteAll_142 : decode cX12_rewriteAll 142 = .ok (.iaload, 1) := by decide +kernel
theorem dX12_rewriteAll_143 : decode cX12_rewriteAll 143 = .ok (.iconst 1, 1) := by decide +kernel
theorem dX12_rewriteAll_144 : decode cX12_rewriteAll 144 = .ok (.iadd, 1) := by decide +kernel
theorem dX12_rewriteAll_145 : decode cX12_rewriteAll 145 = .ok (.iastore, 1) := by decide +kernel
theorem dX12_rewriteAll_146 : decode cX12_rewriteAll 146 = .ok (.goto 6, 3) := by decide +kernel
theorem dX12_rewriteAll_149 : decode cX12_rewriteAll 149 = .ok (.iinc 1 1, 3) := by decide +kernel
theorem dX12_rewriteAll_152 : decode cX12_rewriteAll 152 = .ok (.goto (-103), 3) := by decide +kernel
theorem dX12_rewriteAll_155 : decode cX12_rewriteAll 155 = .ok (.return_, 1) := by decide +kernel
theorem dX12_rewrite_0 : decode cX12_rewrite 0 = .ok (.aload_n 0, 1) := by decide +kernel
theorem dX12_rewrite_1 : decode cX12_rewrite 1 = .ok (.iload_n 1, 1) := by decide +kernel
theorem dX12_rewrite_2 : decode cX12_rewrite 2 = .ok (.invokestatic 217, 3) := by decide +kernel
theorem dX12_rewrite_5 : decode cX12_rewrite 5 = .ok (.ifCond .ne 7, 3) := by decide +kernel
theorem dX12_rewrite_8 : decode cX12_rewrite 8 = .ok (.iconst 1, 1) := by decide +kernel
theorem dX12_rewrite_9 : decode cX12_rewrite 9 = .ok (.goto 16, 3) := by decide +kernel
theorem dX12_rewrite_12 : decode cX12_rewrite 12 = .ok (.aload_n 0, 1) := by decide +kernel
theorem dX12_rewrite_13 : decode cX12_rewrite 13 = .ok (.iload_n 1, 1) := by decide +kernel
theorem dX12_rewrite_14 : decode cX12_rewrite 14 = .ok (.invokevirtual 223, 3) := by decide +kernel
theorem dX12_rewrite_17 : decode cX12_rewrite 17 = .ok (.ifCond .eq 7, 3) := by decide +kernel
theorem dX12_rewrite_20 : decode cX12_rewrite 20 = .ok (.iconst 0, 1) := by decide +kernel
theorem dX12_rewrite_21 : decode cX12_rewrite 21 = .ok (.goto 4, 3) := by decide +kernel
theorem dX12_rewrite_24 : decode cX12_rewrite 24 = .ok (.iconst 2, 1) := by decide +kernel
theorem dX12_rewrite_25 : decode cX12_rewrite 25 = .ok (.putfield 62, 3) := by decide +kernel
theorem dX12_rewrite_28 : decode cX12_rewrite 28 = .ok (.aload_n 0, 1) := by decide +kernel
theorem dX12_rewrite_29 : decode cX12_rewrite 29 = .ok (.getfield 62, 3) := by decide +kernel
theorem dX12_rewrite_32 : decode cX12_rewrite 32 = .ok (.ifCond .eq 5, 3) := by decide +kernel
theorem dX12_rewrite_35 : decode cX12_rewrite 35 = .ok (.iconst 0, 1) := by decide +kernel
theorem dX12_rewrite_36 : decode cX12_rewrite 36 = .ok (.ireturn, 1) := by decide +kernel
theorem dX12_rewrite_37 : decode cX12_rewrite 37 = .ok (.aload_n 0, 1) := by decide +kernel
theorem dX12_rewrite_38 : decode cX12_rewrite 38 = .ok (.invokevirtual 85, 3) := by decide +kernel
theorem dX12_rewrite_41 : decode cX12_rewrite 41 = .ok (.aload_n 0, 1) := by decide +kernel
theorem dX12_rewrite_42 : decode cX12_rewrite 42 = .ok (.iload_n 1, 1) := by decide +kernel
theorem dX12_rewrite_43 : decode cX12_rewrite 43 = .ok (.invokevirtual 235, 3) := by decide +kernel
theorem dX12_rewrite_46 : decode cX12_rewrite 46 = .ok (.aload_n 0, 1) := by decide +kernel
theorem dX12_rewrite_47 : decode cX12_rewrite 47 = .ok (.invokevirtual 333, 3) := by decide +kernel
theorem dX12_rewrite_50 : decode cX12_rewrite 50 = .ok (.aload_n 0, 1) := by decide +kernel
theorem dX12_rewrite_51 : decode cX12_rewrite 51 = .ok (.iload_n 1, 1) := by decide +kernel
theorem dX12_rewrite_52 : decode cX12_rewrite 52 = .ok (.invokevirtual 220, 3) := by decide +kernel
theorem dX12_rewrite_55 : decode cX12_rewrite 55 = .ok (.iconst 0, 1) := by decide +kernel
theorem dX12_rewrite_56 : decode cX12_rewrite 56 = .ok (.istore_n 2, 1) := by decide +kernel
theorem dX12_rewrite_57 : decode cX12_rewrite 57 = .ok (.iconst 1, 1) := by decide +kernel
theorem dX12_rewrite_58 : decode cX12_rewrite 58 = .ok (.istore_n 3, 1) := by decide +kernel
theorem dX12_rewrite_59 : decode cX12_rewrite 59 = .ok (.iload_n 3, 1) := by decide +kernel
theorem dX12_rewrite_60 : decode cX12_rewrite 60 = .ok (.bipush 10, 2) := by decide +kernel
theorem dX12_rewrite_62 : decode cX12_rewrite 62 = .ok (.if_icmp .ge 18, 3) := by decide +kernel
theorem dX12_rewrite_65 : decode cX12_rewrite 65 = .ok (.iload_n 2, 1) := by decide +kernel
theorem dX12_rewrite_66 : decode cX12_rewrite 66 = .ok (.aload_n 0, 1) := by decide +kernel
theorem dX12_rewrite_67 : decode cX12_rewrite 67 = .ok (.getfield 59, 3) := by decide +kernel
theorem dX12_rewrite_70 : decode cX12_rewrite 70 = .ok (.iload_n 3, 1) := by decide +kernel
theorem dX12_rewrite_71 : decode cX12_rewrite 71 = .ok (.iaload, 1) := by decide +kernel
theorem dX12_rewrite_72 : decode cX12_rewrite 72 = .ok (.iadd, 1) := by decide +kernel
theorem dX12_rewrite_73 : decode cX12_rewrite 73 = .ok (.istore_n 2, 1) := by decide +kernel
theorem dX12_rewrite_74 : decode cX12_rewrite 74 = .ok (.iinc 3 1, 3) := by decide +kernel
theorem dX12_rewrite_77 : decode cX12_rewrite 77 = .ok (.goto (-18), 3) := by decide +kernel
theorem dX12_rewrite_80 : decode cX12_rewrite 80 = .ok (.iload_n 2, 1) := by decide +kernel
theorem dX12_rewrite_81 : decode cX12_rewrite 81 = .ok (.ireturn, 1) := by decide +kernel
theorem dX12_uses_0 : decode cX12_uses 0 = .ok (.aload_n 0, 1) := by decide +kernel
theorem dX12_uses_1 : decode cX12_uses 1 = .ok (.iload_n 1, 1) := by decide +kernel
theorem dX12_uses_2 : decode cX12_uses 2 = .ok (.invokestatic 217, 3) := by decide +kernel
theorem dX12_uses_5 : decode cX12_uses 5 = .ok (.ifCond .ne 7, 3) := by decide +kernel
theorem dX12_uses_8 : decode cX12_uses 8 = .ok (.iconst 1, 1) := by decide +kernel
theorem dX12_uses_9 : decode cX12_uses 9 = .ok (.goto 30, 3) := by decide +kernel
theorem dX12_uses_12 : decode cX12_uses 12 = .ok (.iload_n 2, 1) := by decide +kernel
theorem dX12_uses_13 : decode cX12_uses 13 = .ok (.iconst 1, 1) := by decide +kernel
theorem dX12_uses_14 : decode cX12_uses 14 = .ok (.bipush 9, 2) := by decide +kernel
theorem dX12_uses_16 : decode cX12_uses 16 = .ok (.invokestatic 69, 3) := by decide +kernel
theorem dX12_uses_19 : decode cX12_uses 19 = .ok (.ifCond .ne 7, 3) := by decide +kernel
theorem dX12_uses_22 : decode cX12_uses 22 = .ok (.iconst 2, 1) := by decide +kernel
theorem dX12_uses_23 : decode cX12_uses 23 = .ok (.goto 16, 3) := by decide +kernel
theorem dX12_uses_26 : decode cX12_uses 26 = .ok (.aload_n 0, 1) := by decide +kernel
theorem dX12_uses_27 : decode cX12_uses 27 = .ok (.iload_n 1, 1) := by decide +kernel
theorem dX12_uses_28 : decode cX12_uses 28 = .ok (.invokevirtual 223, 3) := by decide +kernel
theorem dX12_uses_31 : decode cX12_uses 31 = .ok (.ifCond .eq 7, 3) := by decide +kernel
theorem dX12_uses_34 : decode cX12_uses 34 = .ok (.iconst 0, 1) := by decide +kernel
theorem dX12_uses_35 : decode cX12_uses 35 = .ok (.goto 4, 3) := by decide +kernel
theorem dX12_uses_38 : decode cX12_uses 38 = .ok (.iconst 3, 1) := by decide +kernel
theorem dX12_uses_39 : decode cX12_uses 39 = .ok (.putfield 62, 3) := by decide +kernel
theorem dX12_uses_42 : decode cX12_uses 42 = .ok (.aload_n 0, 1) := by decide +kernel
theorem dX12_uses_43 : decode cX12_uses 43 = .ok (.getfield 62, 3) := by decide +kernel
theorem dX12_uses_46 : decode cX12_uses 46 = .ok (.ifCond .eq 5, 3) := by decide +kernel
theorem dX12_uses_49 : decode cX12_uses 49 = .ok (.iconst 0, 1) := by decide +kernel
theorem dX12_uses_50 : decode cX12_uses 50 = .ok (.ireturn, 1) := by decide +kernel
theorem dX12_uses_51 : decode cX12_uses 51 = .ok (.aload_n 0, 1) := by decide +kernel
theorem dX12_uses_52 : decode cX12_uses 52 = .ok (.iload_n 1, 1) := by decide +kernel
theorem dX12_uses_53 : decode cX12_uses 53 = .ok (.invokevirtual 235, 3) := by decide +kernel
theorem dX12_uses_56 : decode cX12_uses 56 = .ok (.aload_n 0, 1) := by decide +kernel
theorem dX12_uses_57 : decode cX12_uses 57 = .ok (.invokevirtual 333, 3) := by decide +kernel
theorem dX12_uses_60 : decode cX12_uses 60 = .ok (.aload_n 0, 1) := by decide +kernel
theorem dX12_uses_61 : decode cX12_uses 61 = .ok (.getfield 59, 3) := by decide +kernel
theorem dX12_uses_64 : decode cX12_uses 64 = .ok (.iload_n 2, 1) := by decide +kernel
theorem dX12_uses_65 : decode cX12_uses 65 = .ok (.iaload, 1) := by decide +kernel
theorem dX12_uses_66 : decode cX12_uses 66 = .ok (.ireturn, 1) := by decide +kernel
theorem dX12_undo_0 : decode cX12_undo 0 = .ok (.aload_n 0, 1) := by decide +kernel
theorem dX12_undo_1 : decode cX12_undo 1 = .ok (.aload_n 0, 1) := by decide +kernel
theorem dX12_undo_2 : decode cX12_undo 2 = .ok (.getfield 66, 3) := by decide +kernel
theorem dX12_undo_5 : decode cX12_undo 5 = .ok (.ifCond .ne 7, 3) := by decide +kernel
theorem dX12_undo_8 : decode cX12_undo 8 = .ok (.iconst 1, 1) := by decide +kernel
theorem dX12_undo_9 : decode cX12_undo 9 = .ok (.goto 4, 3) := by decide +kernel
theorem dX12_undo_12 : decode cX12_undo 12 = .ok (.iconst 0, 1) := by decide +kernel
theorem dX12_undo_13 : decode cX12_undo 13 = .ok (.putfield 62, 3) := by decide +kernel
theorem dX12_undo_16 : decode cX12_undo 16 = .ok (.aload_n 0, 1) := by decide +kernel
theorem dX12_undo_17 : decode cX12_undo 17 = .ok (.getfield 62, 3) := by decide +kernel
theorem dX12_undo_20 : decode cX12_undo 20 = .ok (.ifCond .eq 5, 3) := by decide +kernel
theorem dX12_undo_23 : decode cX12_undo 23 = .ok (.iconst 0, 1) := by decide +kernel
theorem dX12_undo_24 : decode cX12_undo 24 = .ok (.ireturn, 1) := by decide +kernel
theorem dX12_undo_25 : decode cX12_undo 25 = .ok (.aload_n 0, 1) := by decide +kernel
theorem dX12_undo_26 : decode cX12_undo 26 = .ok (.dup, 1) := by decide +kernel
theorem dX12_undo_27 : decode cX12_undo 27 = .ok (.getfield 66, 3) := by decide +kernel
theorem dX12_undo_30 : decode cX12_undo 30 = .ok (.iconst 1, 1) := by decide +kernel
theorem dX12_undo_31 : decode cX12_undo 31 = .ok (.isub, 1) := by decide +kernel
theorem dX12_undo_32 : decode cX12_undo 32 = .ok (.putfield 66, 3) := by decide +kernel
theorem dX12_undo_35 : decode cX12_undo 35 = .ok (.iconst 0, 1) := by decide +kernel
theorem dX12_undo_36 : decode cX12_undo 36 = .ok (.istore_n 1, 1) := by decide +kernel
theorem dX12_undo_37 : decode cX12_undo 37 = .ok (.iload_n 1, 1) := by decide +kernel
theorem dX12_undo_38 : decode cX12_undo 38 = .ok (.sipush 1725, 3) := by decide +kernel
theorem dX12_undo_41 : decode cX12_undo 41 = .ok (.if_icmp .ge 30, 3) := by decide +kernel
theorem dX12_undo_44 : decode cX12_undo 44 = .ok (.aload_n 0, 1) := by decide +kernel
theorem dX12_undo_45 : decode cX12_undo 45 = .ok (.getfield 7, 3) := by decide +kernel
theorem dX12_undo_48 : decode cX12_undo 48 = .ok (.iload_n 1, 1) := by decide +kernel
theorem dX12_undo_49 : decode cX12_undo 49 = .ok (.aload_n 0, 1) := by decide +kernel
theorem dX12_undo_50 : decode cX12_undo 50 = .ok (.getfield 13, 3) := by decide +kernel
theorem dX12_undo_53 : decode cX12_undo 53 = .ok (.sipush 1725, 3) := by decide +kernel
theorem dX12_undo_56 : decode cX12_undo 56 = .ok (.aload_n 0, 1) := by decide +kernel
theorem dX12_undo_57 : decode cX12_undo 57 = .ok (.getfield 66, 3) := by decide +kernel
theorem dX12_undo_60 : decode cX12_undo 60 = .ok (.imul, 1) := by decide +kernel
theorem dX12_undo_61 : decode cX12_undo 61 = .ok (.iload_n 1, 1) := by decide +kernel
theorem dX12_undo_62 : decode cX12_undo 62 = .ok (.iadd, 1) := by decide +kernel
theorem dX12_undo_63 : decode cX12_undo 63 = .ok (.iaload, 1) := by decide +kernel
theorem dX12_undo_64 : decode cX12_undo 64 = .ok (.iastore, 1) := by decide +kernel
theorem dX12_undo_65 : decode cX12_undo 65 = .ok (.iinc 1 1, 3) := by decide +kernel
theorem dX12_undo_68 : decode cX12_undo 68 = .ok (.goto (-31), 3) := by decide +kernel
theorem dX12_undo_71 : decode cX12_undo 71 = .ok (.aload_n 0, 1) := by decide +kernel
theorem dX12_undo_72 : decode cX12_undo 72 = .ok (.getfield 66, 3) := by decide +kernel
theorem dX12_undo_75 : decode cX12_undo 75 = .ok (.ireturn, 1) := by decide +kernel
theorem dX12_mix_0 : decode cX12_mix 0 = .ok (.aload_n 0, 1) := by decide +kernel
theorem dX12_mix_1 : decode cX12_mix 1 = .ok (.ldc2_w 336, 3) := by decide +kernel
theorem dX12_mix_4 : decode cX12_mix 4 = .ok (.aload_n 0, 1) := by decide +kernel
theorem dX12_mix_5 : decode cX12_mix 5 = .ok (.getfield 338, 3) := by decide +kernel
theorem dX12_mix_8 : decode cX12_mix 8 = .ok (.lmul, 1) := by decide +kernel
theorem dX12_mix_9 : decode cX12_mix 9 = .ok (.lload_n 1, 1) := by decide +kernel
theorem dX12_mix_10 : decode cX12_mix 10 = .ok (.ladd, 1) := by decide +kernel
theorem dX12_mix_11 : decode cX12_mix 11 = .ok (.putfield 338, 3) := by decide +kernel
theorem dX12_mix_14 : decode cX12_mix 14 = .ok (.return_, 1) := by decide +kernel
theorem dX12_mixPlace_0 : decode cX12_mixPlace 0 = .ok (.aload_n 0, 1) := by decide +kernel
theorem dX12_mixPlace_1 : decode cX12_mixPlace 1 = .ok (.iload_n 1, 1) := by decide +kernel
theorem dX12_mixPlace_2 : decode cX12_mixPlace 2 = .ok (.invokevirtual 235, 3) := by decide +kernel
theorem dX12_mixPlace_5 : decode cX12_mixPlace 5 = .ok (.iconst 0, 1) := by decide +kernel
theorem dX12_mixPlace_6 : decode cX12_mixPlace 6 = .ok (.istore_n 2, 1) := by decide +kernel
theorem dX12_mixPlace_7 : decode cX12_mixPlace 7 = .ok (.iload_n 2, 1) := by decide +kernel
theorem dX12_mixPlace_8 : decode cX12_mixPlace 8 = .ok (.bipush 6, 2) := by decide +kernel
theorem dX12_mixPlace_10 : decode cX12_mixPlace 10 = .ok (.if_icmp .ge 20, 3) := by decide +kernel
theorem dX12_mixPlace_13 : decode cX12_mixPlace 13 = .ok (.aload_n 0, 1) := by decide +kernel
theorem dX12_mixPlace_14 : decode cX12_mixPlace 14 = .ok (.aload_n 0, 1) := by decide +kernel
theorem dX12_mixPlace_15 : decode cX12_mixPlace 15 = .ok (.iload_n 1, 1) := by decide +kernel
theorem dX12_mixPlace_16 : decode cX12_mixPlace 16 = .ok (.iload_n 2, 1) := by decide +kernel
theorem dX12_mixPlace_17 : decode cX12_mixPlace 17 = .ok (.invokevirtual 238, 3) := by decide +kernel
theorem dX12_mixPlace_20 : decode cX12_mixPlace 20 = .ok (.i2l, 1) := by decide +kernel
theorem dX12_mixPlace_21 : decode cX12_mixPlace 21 = .ok (.invokevirtual 342, 3) := by decide +kernel
theorem dX12_mixPlace_24 : decode cX12_mixPlace 24 = .ok (.iinc 2 1, 3) := by decide +kernel
theorem dX12_mixPlace_27 : decode cX12_mixPlace 27 = .ok (.goto (-20), 3) := by decide +kernel
theorem dX12_mixPlace_30 : decode cX12_mixPlace 30 = .ok (.iconst 0, 1) := by decide +kernel
theorem dX12_mixPlace_31 : decode cX12_mixPlace 31 = .ok (.istore_n 2, 1) := by decide +kernel
theorem dX12_mixPlace_32 : decode cX12_mixPlace 32 = .ok (.iload_n 2, 1) := by decide +kernel
theorem dX12_mixPlace_33 : decode cX12_mixPlace 33 = .ok (.aload_n 0, 1) := by decide +kernel
theorem dX12_mixPlace_34 : decode cX12_mixPlace 34 = .ok (.getfield 7, 3) := by decide +kernel
theorem dX12_mixPlace_37 : decode cX12_mixPlace 37 = .ok (.bipush 121, 2) := by decide +kernel
theorem dX12_mixPlace_39 : decode cX12_mixPlace 39 = .ok (.iload_n 1, 1) := by decide +kernel
theorem dX12_mixPlace_40 : decode cX12_mixPlace 40 = .ok (.iadd, 1) := by decide +kernel
theorem dX12_mixPlace_41 : decode cX12_mixPlace 41 = .ok (.iaload, 1) := by decide +kernel
theorem dX12_mixPlace_42 : decode cX12_mixPlace 42 = .ok (.if_icmp .ge 29, 3) := by decide +kernel
theorem dX12_mixPlace_45 : decode cX12_mixPlace 45 = .ok (.aload_n 0, 1) := by decide +kernel
theorem dX12_mixPlace_46 : decode cX12_mixPlace 46 = .ok (.aload_n 0, 1) := by decide +kernel
theorem dX12_mixPlace_47 : decode cX12_mixPlace 47 = .ok (.getfield 7, 3) := by decide +kernel
theorem dX12_mixPlace_50 : decode cX12_mixPlace 50 = .ok (.bipush 125, 2) := by decide +kernel
theorem dX12_mixPlace_52 : decode cX12_mixPlace 52 = .ok (.sipush 400, 3) := by decide +kernel
theorem dX12_mixPlace_55 : decode cX12_mixPlace 55 = .ok (.iload_n 1, 1) := by decide +kernel
theorem dX12_mixPlace_56 : decode cX12_mixPlace 56 = .ok (.imul, 1) := by decide +kernel
theorem dX12_mixPlace_57 : decode cX12_mixPlace 57 = .ok (.iadd, 1) := by decide +kernel
theorem dX12_mixPlace_58 : decode cX12_mixPlace 58 = .ok (.iload_n 2, 1) := by decide +kernel
theorem dX12_mixPlace_59 : decode cX12_mixPlace 59 = .ok (.iadd, 1) := by decide +kernel
theorem dX12_mixPlace_60 : decode cX12_mixPlace 60 = .ok (.iaload, 1) := by decide +kernel
theorem dX12_mixPlace_61 : decode cX12_mixPlace 61 = .ok (.i2l, 1) := by decide +kernel
theorem dX12_mixPlace_62 : decode cX12_mixPlace 62 = .ok (.invokevirtual 342, 3) := by decide +kernel
theorem dX12_mixPlace_65 : decode cX12_mixPlace 65 = .ok (.iinc 2 1, 3) := by decide +kernel
theorem dX12_mixPlace_68 : decode cX12_mixPlace 68 = .ok (.goto (-36), 3) := by decide +kernel
theorem dX12_mixPlace_71 : decode cX12_mixPlace 71 = .ok (.iconst 0, 1) := by decide +kernel
theorem dX12_mixPlace_72 : decode cX12_mixPlace 72 = .ok (.istore_n 2, 1) := by decide +kernel
theorem dX12_mixPlace_73 : decode cX12_mixPlace 73 = .ok (.iload_n 2, 1) := by decide +kernel
theorem dX12_mixPlace_74 : decode cX12_mixPlace 74 = .ok (.aload_n 0, 1) := by decide +kernel
theorem dX12_mixPlace_75 : decode cX12_mixPlace 75 = .ok (.getfield 7, 3) := by decide +kernel
theorem dX12_mixPlace_78 : decode cX12_mixPlace 78 = .ok (.iconst 0, 1) := by decide +kernel
theorem dX12_mixPlace_79 : decode cX12_mixPlace 79 = .ok (.iaload, 1) := by decide +kernel
theorem dX12_mixPlace_80 : decode cX12_mixPlace 80 = .ok (.if_icmp .ge 32, 3) := by decide +kernel
theorem dX12_mixPlace_83 : decode cX12_mixPlace 83 = .ok (.aload_n 0, 1) := by decide +kernel
theorem dX12_mixPlace_84 : decode cX12_mixPlace 84 = .ok (.iload_n 2, 1) := by decide +kernel
theorem dX12_mixPlace_85 : decode cX12_mixPlace 85 = .ok (.invokevirtual 266, 3) := by decide +kernel
theorem dX12_mixPlace_88 : decode cX12_mixPlace 88 = .ok (.aload_n 0, 1) := by decide +kernel
theorem dX12_mixPlace_89 : decode cX12_mixPlace 89 = .ok (.aload_n 0, 1) := by decide +kernel
theorem dX12_mixPlace_90 : decode cX12_mixPlace 90 = .ok (.invokevirtual 269, 3) := by decide +kernel
theorem dX12_mixPlace_93 : decode cX12_mixPlace 93 = .ok (.i2l, 1) := by decide +kernel
theorem dX12_mixPlace_94 : decode cX12_mixPlace 94 = .ok (.invokevirtual 342, 3) := by decide +kernel
theorem dX12_mixPlace_97 : decode cX12_mixPlace 97 = .ok (.aload_n 0, 1) := by decide +kernel
theorem dX12_mixPlace_98 : decode cX12_mixPlace 98 = .ok (.aload_n 0, 1) := by decide +kernel
theorem dX12_mixPlace_99 : decode cX12_mixPlace 99 = .ok (.invokevirtual 272, 3) := by decide +kernel
theorem dX12_mixPlace_102 : decode cX12_mixPlace 102 = .ok (.i2l, 1) := by decide +kernel
theorem dX12_mixPlace_103 : decode cX12_mixPlace 103 = .ok (.invokevirtual 342, 3) := by decide +kernel
theorem dX12_mixPlace_106 : decode cX12_mixPlace 106 = .ok (.iinc 2 1, 3) := by decide +kernel
theorem dX12_mixPlace_109 : decode cX12_mixPlace 109 = .ok (.goto (-36), 3) := by decide +kernel
theorem dX12_mixPlace_112 : decode cX12_mixPlace 112 = .ok (.aload_n 0, 1) := by decide +kernel
theorem dX12_mixPlace_113 : decode cX12_mixPlace 113 = .ok (.invokevirtual 333, 3) := by decide +kernel
theorem dX12_mixPlace_116 : decode cX12_mixPlace 116 = .ok (.iconst 1, 1) := by decide +kernel
theorem dX12_mixPlace_117 : decode cX12_mixPlace 117 = .ok (.istore_n 2, 1) := by decide +kernel
theorem dX12_mixPlace_118 : decode cX12_mixPlace 118 = .ok (.iload_n 2, 1) := by decide +kernel
theorem dX12_mixPlace_119 : decode cX12_mixPlace 119 = .ok (.bipush 10, 2) := by decide +kernel
theorem dX12_mixPlace_121 : decode cX12_mixPlace 121 = .ok (.if_icmp .ge 20, 3) := by decide +kernel
theorem dX12_mixPlace_124 : decode cX12_mixPlace 124 = .ok (.aload_n 0, 1) := by decide +kernel
theorem dX12_mixPlace_125 : decode cX12_mixPlace 125 = .ok (.aload_n 0, 1) := by decide +kernel
theorem dX12_mixPlace_126 : decode cX12_mixPlace 126 = .ok (.getfield 59, 3) := by decide +kernel
theorem dX12_mixPlace_129 : decode cX12_mixPlace 129 = .ok (.iload_n 2, 1) := by decide +kernel
theorem dX12_mixPlace_130 : decode cX12_mixPlace 130 = .ok (.iaload, 1) := by decide +kernel
theorem dX12_mixPlace_131 : decode cX12_mixPlace 131 = .ok (.i2l, 1) := by decide +kernel
theorem dX12_mixPlace_132 : decode cX12_mixPlace 132 = .ok (.invokevirtual 342, 3) := by decide +kernel
theorem dX12_mixPlace_135 : decode cX12_mixPlace 135 = .ok (.iinc 2 1, 3) := by decide +kernel
theorem dX12_mixPlace_138 : decode cX12_mixPlace 138 = .ok (.goto (-20), 3) := by decide +kernel
theorem dX12_mixPlace_141 : decode cX12_mixPlace 141 = .ok (.return_, 1) := by decide +kernel
theorem dX12_digest_0 : decode cX12_digest 0 = .ok (.aload_n 0, 1) := by decide +kernel
theorem dX12_digest_1 : decode cX12_digest 1 = .ok (.iconst 0, 1) := by decide +kernel
theorem dX12_digest_2 : decode cX12_digest 2 = .ok (.putfield 62, 3) := by decide +kernel
theorem dX12_digest_5 : decode cX12_digest 5 = .ok (.aload_n 0, 1) := by decide +kernel
theorem dX12_digest_6 : decode cX12_digest 6 = .ok (.ldc2_w 346, 3) := by decide +kernel
theorem dX12_digest_9 : decode cX12_digest 9 = .ok (.putfield 338, 3) := by decide +kernel
theorem dX12_digest_12 : decode cX12_digest 12 = .ok (.aload_n 0, 1) := by decide +kernel
theorem dX12_digest_13 : decode cX12_digest 13 = .ok (.aload_n 0, 1) := by decide +kernel
theorem dX12_digest_14 : decode cX12_digest 14 = .ok (.getfield 66, 3) := by decide +kernel
theorem dX12_digest_17 : decode cX12_digest 17 = .ok (.i2l, 1) := by decide +kernel
theorem dX12_digest_18 : decode cX12_digest 18 = .ok (.invokevirtual 342, 3) := by decide +kernel
theorem dX12_digest_21 : decode cX12_digest 21 = .ok (.aload_n 0, 1) := by decide +kernel
theorem dX12_digest_22 : decode cX12_digest 22 = .ok (.aload_n 0, 1) := by decide +kernel
theorem dX12_digest_23 : decode cX12_digest 23 = .ok (.getfield 214, 3) := by decide +kernel
theorem dX12_digest_26 : decode cX12_digest 26 = .ok (.i2l, 1) := by decide +kernel
theorem dX12_digest_27 : decode cX12_digest 27 = .ok (.invokevirtual 342, 3) := by decide +kernel
theorem dX12_digest_30 : decode cX12_digest 30 = .ok (.aload_n 0, 1) := by decide +kernel
theorem dX12_digest_31 : decode cX12_digest 31 = .ok (.aload_n 0, 1) := by decide +kernel
theorem dX12_digest_32 : decode cX12_digest 32 = .ok (.getfield 7, 3) := by decide +kernel
theorem dX12_digest_35 : decode cX12_digest 35 = .ok (.iconst 0, 1) := by decide +kernel
theorem dX12_digest_36 : decode cX12_digest 36 = .ok (.iaload, 1) := by decide +kernel
theorem dX12_digest_37 : decode cX12_digest 37 = .ok (.i2l, 1) := by decide +kernel
theorem dX12_digest_38 : decode cX12_digest 38 = .ok (.invokevirtual 342, 3) := by decide +kernel
theorem dX12_digest_41 : decode cX12_digest 41 = .ok (.iconst 0, 1) := by decide +kernel
theorem dX12_digest_42 : decode cX12_digest 42 = .ok (.istore_n 1, 1) := by decide +kernel
theorem dX12_digest_43 : decode cX12_digest 43 = .ok (.iload_n 1, 1) := by decide +kernel
theorem dX12_digest_44 : decode cX12_digest 44 = .ok (.aload_n 0, 1) := by decide +kernel
theorem dX12_digest_45 : decode cX12_digest 45 = .ok (.getfield 7, 3) := by decide +kernel
theorem dX12_digest_48 : decode cX12_digest 48 = .ok (.iconst 0, 1) := by decide +kernel
theorem dX12_digest_49 : decode cX12_digest 49 = .ok (.iaload, 1) := by decide +kernel
theorem dX12_digest_50 : decode cX12_digest 50 = .ok (.if_icmp .ge 34, 3) := by decide +kernel
theorem dX12_digest_53 : decode cX12_digest 53 = .ok (.iconst 0, 1) := by decide +kernel
theorem dX12_digest_54 : decode cX12_digest 54 = .ok (.istore_n 2, 1) := by decide +kernel
theorem dX12_digest_55 : decode cX12_digest 55 = .ok (.iload_n 2, 1) := by decide +kernel
theorem dX12_digest_56 : decode cX12_digest 56 = .ok (.bipush 6, 2) := by decide +kernel
theorem dX12_digest_58 : decode cX12_digest 58 = .ok (.if_icmp .ge 20, 3) := by decide +kernel
theorem dX12_digest_61 : decode cX12_digest 61 = .ok (.aload_n 0, 1) := by decide +kernel
theorem dX12_digest_62 : decode cX12_digest 62 = .ok (.aload_n 0, 1) := by decide +kernel
theorem dX12_digest_63 : decode cX12_digest 63 = .ok (.iload_n 1, 1) := by decide +kernel
theorem dX12_digest_64 : decode cX12_digest 64 = .ok (.iload_n 2, 1) := by decide +kernel
theorem dX12_digest_65 : decode cX12_digest 65 = .ok (.invokevirtual 117, 3) := by decide +kernel
theorem dX12_digest_68 : decode cX12_digest 68 = .ok (.i2l, 1) := by decide +kernel
theorem dX12_digest_69 : decode cX12_digest 69 = .ok (.invokevirtual 342, 3) := by decide +kernel
theorem dX12_digest_72 : decode cX12_digest 72 = .ok (.iinc 2 1, 3) := by decide +kernel
theorem dX12_digest_75 : decode cX12_digest 75 = .ok (.goto (-20), 3) := by decide +kernel
theorem dX12_digest_78 : decode cX12_digest 78 = .ok (.iinc 1 1, 3) := by decide +kernel
theorem dX12_digest_81 : decode cX12_digest 81 = .ok (.goto (-38), 3) := by decide +kernel
theorem dX12_digest_84 : decode cX12_digest 84 = .ok (.iconst 0, 1) := by decide +kernel
theorem dX12_digest_85 : decode cX12_digest 85 = .ok (.istore_n 1, 1) := by decide +kernel
theorem dX12_digest_86 : decode cX12_digest 86 = .ok (.iload_n 1, 1) := by decide +kernel
theorem dX12_digest_87 : decode cX12_digest 87 = .ok (.iconst 4, 1) := by decide +kernel
theorem dX12_digest_88 : decode cX12_digest 88 = .ok (.if_icmp .ge 39, 3) := by decide +kernel
theorem dX12_digest_91 : decode cX12_digest 91 = .ok (.aload_n 0, 1) := by decide +kernel
theorem dX12_digest_92 : decode cX12_digest 92 = .ok (.aload_n 0, 1) := by decide +kernel
theorem dX12_digest_93 : decode cX12_digest 93 = .ok (.iload_n 1, 1) := by decide +kernel
theorem dX12_digest_94 : decode cX12_digest 94 = .ok (.invokevirtual 223, 3) := by decide +kernel
theorem dX12_digest_97 : decode cX12_digest 97 = .ok (.ifCond .eq 7, 3) := by decide +kernel
theorem dX12_digest_100 : decode cX12_digest 100 = .ok (.lconst 1, 1) := by decide +kernel
theorem dX12_digest_101 : decode cX12_digest 101 = .ok (.goto 4, 3) := by decide +kernel
theorem dX12_digest_104 : decode cX12_digest 104 = .ok (.lconst 0, 1) := by decide +kernel
theorem dX12_digest_105 : decode cX12_digest 105 = .ok (.invokevirtual 342, 3) := by decide +kernel
theorem dX12_digest_108 : decode cX12_digest 108 = .ok (.aload_n 0, 1) := by decide +kernel
theorem dX12_digest_109 : decode cX12_digest 109 = .ok (.iload_n 1, 1) := by decide +kernel
theorem dX12_digest_110 : decode cX12_digest 110 = .ok (.invokevirtual 223, 3) := by decide +kernel
theorem dX12_digest_113 : decode cX12_digest 113 = .ok (.ifCond .eq 8, 3) := by decide +kernel
theorem dX12_digest_116 : decode cX12_digest 116 = .ok (.aload_n 0, 1) := by decide +kernel
theorem dX12_digest_117 : decode cX12_digest 117 = .ok (.iload_n 1, 1) := by decide +kernel
theorem dX12_digest_118 : decode cX12_digest 118 = .ok (.invokevirtual 348, 3) := by decide +kernel
theorem dX12_digest_121 : decode cX12_digest 121 = .ok (.iinc 1 1, 3) := by decide +kernel
theorem dX12_digest_124 : decode cX12_digest 124 = .ok (.goto (-38), 3) := by decide +kernel
theorem dX12_digest_127 : decode cX12_digest 127 = .ok (.aload_n 0, 1) := by decide +kernel
theorem dX12_digest_128 : decode cX12_digest 128 = .ok (.getfield 338, 3) := by decide +kernel
theorem dX12_digest_131 : decode cX12_digest 131 = .ok (.lreturn, 1) := by decide +kernel
theorem dJ11_isValidCodePoint_9a6ad_0 : decode cJ11_isValidCodePoint_9a6ad 0 = .ok (.iload_n 0, 1) := by decide +kernel
theorem dJ11_isValidCodePoint_9a6ad_1 : decode cJ11_isValidCodePoint_9a6ad 1 = .ok (.bipush 16, 2) := by decide +kernel
theorem dJ11_isValidCodePoint_9a6ad_3 : decode cJ11_isValidCodePoint_9a6ad 3 = .ok (.iushr, 1) := by decide +kernel
theorem dJ11_isValidCodePoint_9a6ad_4 : decode cJ11_isValidCodePoint_9a6ad 4 = .ok (.istore_n 1, 1) := by decide +kernel
theorem dJ11_isValidCodePoint_9a6ad_5 : decode cJ11_isValidCodePoint_9a6ad 5 = .ok (.iload_n 1, 1) := by decide +kernel
theorem dJ11_isValidCodePoint_9a6ad_6 : decode cJ11_isValidCodePoint_9a6ad 6 = .ok (.bipush 17, 2) := by decide +kernel
theorem dJ11_isValidCodePoint_9a6ad_8 : decode cJ11_isValidCodePoint_9a6ad 8 = .ok (.if_icmp .ge 7, 3) := by decide +kernel
theorem dJ11_isValidCodePoint_9a6ad_11 : decode cJ11_isValidCodePoint_9a6ad 11 = .ok (.iconst 1, 1) := by decide +kernel
theorem dJ11_isValidCodePoint_9a6ad_12 : decode cJ11_isValidCodePoint_9a6ad 12 = .ok (.goto 4, 3) := by decide +kernel
theorem dJ11_isValidCodePoint_9a6ad_15 : decode cJ11_isValidCodePoint_9a6ad 15 = .ok (.iconst 0, 1) := by decide +kernel
theorem dJ11_isValidCodePoint_9a6ad_16 : decode cJ11_isValidCodePoint_9a6ad 16 = .ok (.ireturn, 1) := by decide +kernel
theorem dJ11_highSurrogate_5068e_0 : decode cJ11_highSurrogate_5068e 0 = .ok (.iload_n 0, 1) := by decide +kernel
theorem dJ11_highSurrogate_5068e_1 : decode cJ11_highSurrogate_5068e 1 = .ok (.bipush 10, 2) := by decide +kernel
theorem dJ11_highSurrogate_5068e_3 : decode cJ11_highSurrogate_5068e 3 = .ok (.iushr, 1) := by decide +kernel
theorem dJ11_highSurrogate_5068e_4 : decode cJ11_highSurrogate_5068e 4 = .ok (.ldc 110, 2) := by decide +kernel
theorem dJ11_highSurrogate_5068e_6 : decode cJ11_highSurrogate_5068e 6 = .ok (.iadd, 1) := by decide +kernel
theorem dJ11_highSurrogate_5068e_7 : decode cJ11_highSurrogate_5068e 7 = .ok (.i2c, 1) := by decide +kernel
theorem dJ11_highSurrogate_5068e_8 : decode cJ11_highSurrogate_5068e 8 = .ok (.ireturn, 1) := by decide +kernel
theorem dJ11_lowSurrogate_5068e_0 : decode cJ11_lowSurrogate_5068e 0 = .ok (.iload_n 0, 1) := by decide +kernel
theorem dJ11_lowSurrogate_5068e_1 : decode cJ11_lowSurrogate_5068e 1 = .ok (.sipush 1023, 3) := by decide +kernel
theorem dJ11_lowSurrogate_5068e_4 : decode cJ11_lowSurrogate_5068e 4 = .ok (.iand, 1) := by decide +kernel
theorem dJ11_lowSurrogate_5068e_5 : decode cJ11_lowSurrogate_5068e 5 = .ok (.ldc 76, 2) := by decide +kernel
theorem dJ11_lowSurrogate_5068e_7 : decode cJ11_lowSurrogate_5068e 7 = .ok (.iadd, 1) := by decide +kernel
theorem dJ11_lowSurrogate_5068e_8 : decode cJ11_lowSurrogate_5068e 8 = .ok (.i2c, 1) := by decide +kernel
theorem dJ11_lowSurrogate_5068e_9 : decode cJ11_lowSurrogate_5068e 9 = .ok (.ireturn, 1) := by decide +kernel
theorem dJ13_bitCount_95d88_0 : decode cJ13_bitCount_95d88 0 = .ok (.lload_n 0, 1) := by decide +kernel
theorem dJ13_bitCount_95d88_1 : decode cJ13_bitCount_95d88 1 = .ok (.lload_n 0, 1) := by decide +kernel
theorem dJ13_bitCount_95d88_2 : decode cJ13_bitCount_95d88 2 = .ok (.iconst 1, 1) := by decide +kernel
theorem dJ13_bitCount_95d88_3 : decode cJ13_bitCount_95d88 3 = .ok (.lushr, 1) := by decide +kernel
theorem dJ13_bitCount_95d88_4 : decode cJ13_bitCount_95d88 4 = .ok (.ldc2_w 314, 3) := by decide +kernel
theorem dJ13_bitCount_95d88_7 : decode cJ13_bitCount_95d88 7 = .ok (.land, 1) := by decide +kernel
theorem dJ13_bitCount_95d88_8 : decode cJ13_bitCount_95d88 8 = .ok (.lsub, 1) := by decide +kernel
theorem dJ13_bitCount_95d88_9 : decode cJ13_bitCount_95d88 9 = .ok (.lstore_n 0, 1) := by decide +kernel
theorem dJ13_bitCount_95d88_10 : decode cJ13_bitCount_95d88 10 = .ok (.lload_n 0, 1) := by decide +kernel
theorem dJ13_bitCount_95d88_11 : decode cJ13_bitCount_95d88 11 = .ok (.ldc2_w 316, 3) := by decide +kernel
theorem dJ13_bitCount_95d88_14 : decode cJ13_bitCount_95d88 14 = .ok (.land, 1) := by decide +kernel
theorem dJ13_bitCount_95d88_15 : decode cJ13_bitCount_95d88 15 = .ok (.lload_n 0, 1) := by decide +kernel
theorem dJ13_bitCount_95d88_16 : decode cJ13_bitCount_95d88 16 = .ok (.iconst 2, 1) := by decide +kernel
theorem dJ13_bitCount_95d88_17 : decode cJ13_bitCount_95d88 17 = .ok (.lushr, 1) := by decide +kernel
theorem dJ13_bitCount_95d88_18 : decode cJ13_bitCount_95d88 18 = .ok (.ldc2_w 316, 3) := by decide +kernel
theorem dJ13_bitCount_95d88_21 : decode cJ13_bitCount_95d88 21 = .ok (.land, 1) := by decide +kernel
theorem dJ13_bitCount_95d88_22 : decode cJ13_bitCount_95d88 22 = .ok (.ladd, 1) := by decide +kernel
theorem dJ13_bitCount_95d88_23 : decode cJ13_bitCount_95d88 23 = .ok (.lstore_n 0, 1) := by decide +kernel
theorem dJ13_bitCount_95d88_24 : decode cJ13_bitCount_95d88 24 = .ok (.lload_n 0, 1) := by decide +kernel
theorem dJ13_bitCount_95d88_25 : decode cJ13_bitCount_95d88 25 = .ok (.lload_n 0, 1) := by decide +kernel
theorem dJ13_bitCount_95d88_26 : decode cJ13_bitCount_95d88 26 = .ok (.iconst 4, 1) := by decide +kernel
theorem dJ13_bitCount_95d88_27 : decode cJ13_bitCount_95d88 27 = .ok (.lushr, 1) := by decide +kernel
theorem dJ13_bitCount_95d88_28 : decode cJ13_bitCount_95d88 28 = .ok (.ladd, 1) := by decide +kernel
theorem dJ13_bitCount_95d88_29 : decode cJ13_bitCount_95d88 29 = .ok (.ldc2_w 318, 3) := by decide +kernel
theorem dJ13_bitCount_95d88_32 : decode cJ13_bitCount_95d88 32 = .ok (.land, 1) := by decide +kernel
theorem dJ13_bitCount_95d88_33 : decode cJ13_bitCount_95d88 33 = .ok (.lstore_n 0, 1) := by decide +kernel
theorem dJ13_bitCount_95d88_34 : decode cJ13_bitCount_95d88 34 = .ok (.lload_n 0, 1) := by decide +kernel
theorem dJ13_bitCount_95d88_35 : decode cJ13_bitCount_95d88 35 = .ok (.lload_n 0, 1) := by decide +kernel
theorem dJ13_bitCount_95d88_36 : decode cJ13_bitCount_95d88 36 = .ok (.bipush 8, 2) := by decide +kernel
theorem dJ13_bitCount_95d88_38 : decode cJ13_bitCount_95d88 38 = .ok (.lushr, 1) := by decide +kernel
theorem dJ13_bitCount_95d88_39 : decode cJ13_bitCount_95d88 39 = .ok (.ladd, 1) := by decide +kernel
theorem dJ13_bitCount_95d88_40 : decode cJ13_bitCount_95d88 40 = .ok (.lstore_n 0, 1) := by decide +kernel
theorem dJ13_bitCount_95d88_41 : decode cJ13_bitCount_95d88 41 = .ok (.lload_n 0, 1) := by decide +kernel
theorem dJ13_bitCount_95d88_42 : decode cJ13_bitCount_95d88 42 = .ok (.lload_n 0, 1) := by decide +kernel
theorem dJ13_bitCount_95d88_43 : decode cJ13_bitCount_95d88 43 = .ok (.bipush 16, 2) := by decide +kernel
theorem dJ13_bitCount_95d88_45 : decode cJ13_bitCount_95d88 45 = .ok (.lushr, 1) := by decide +kernel
theorem dJ13_bitCount_95d88_46 : decode cJ13_bitCount_95d88 46 = .ok (.ladd, 1) := by decide +kernel
theorem dJ13_bitCount_95d88_47 : decode cJ13_bitCount_95d88 47 = .ok (.lstore_n 0, 1) := by decide +kernel
theorem dJ13_bitCount_95d88_48 : decode cJ13_bitCount_95d88 48 = .ok (.lload_n 0, 1) := by decide +kernel
theorem dJ13_bitCount_95d88_49 : decode cJ13_bitCount_95d88 49 = .ok (.lload_n 0, 1) := by decide +kernel
theorem dJ13_bitCount_95d88_50 : decode cJ13_bitCount_95d88 50 = .ok (.bipush 32, 2) := by decide +kernel
theorem dJ13_bitCount_95d88_52 : decode cJ13_bitCount_95d88 52 = .ok (.lushr, 1) := by decide +kernel
theorem dJ13_bitCount_95d88_53 : decode cJ13_bitCount_95d88 53 = .ok (.ladd, 1) := by decide +kernel
theorem dJ13_bitCount_95d88_54 : decode cJ13_bitCount_95d88 54 = .ok (.lstore_n 0, 1) := by decide +kernel
theorem dJ13_bitCount_95d88_55 : decode cJ13_bitCount_95d88 55 = .ok (.lload_n 0, 1) := by decide +kernel
theorem dJ13_bitCount_95d88_56 : decode cJ13_bitCount_95d88 56 = .ok (.l2i, 1) := by decide +kernel
theorem dJ13_bitCount_95d88_57 : decode cJ13_bitCount_95d88 57 = .ok (.bipush 127, 2) := by decide +kernel
theorem dJ13_bitCount_95d88_59 : decode cJ13_bitCount_95d88 59 = .ok (.iand, 1) := by decide +kernel
theorem dJ13_bitCount_95d88_60 : decode cJ13_bitCount_95d88 60 = .ok (.ireturn, 1) := by decide +kernel
theorem dJ9_max_7cf53_0 : decode cJ9_max_7cf53 0 = .ok (.iload_n 0, 1) := by decide +kernel
theorem dJ9_max_7cf53_1 : decode cJ9_max_7cf53 1 = .ok (.iload_n 1, 1) := by decide +kernel
theorem dJ9_max_7cf53_2 : decode cJ9_max_7cf53 2 = .ok (.if_icmp .lt 7, 3) := by decide +kernel
theorem dJ9_max_7cf53_5 : decode cJ9_max_7cf53 5 = .ok (.iload_n 0, 1) := by decide +kernel
theorem dJ9_max_7cf53_6 : decode cJ9_max_7cf53 6 = .ok (.goto 4, 3) := by decide +kernel
theorem dJ9_max_7cf53_9 : decode cJ9_max_7cf53 9 = .ok (.iload_n 1, 1) := by decide +kernel
theorem dJ9_max_7cf53_10 : decode cJ9_max_7cf53 10 = .ok (.ireturn, 1) := by decide +kernel
theorem dJ9_min_7cf53_0 : decode cJ9_min_7cf53 0 = .ok (.iload_n 0, 1) := by decide +kernel
theorem dJ9_min_7cf53_1 : decode cJ9_min_7cf53 1 = .ok (.iload_n 1, 1) := by decide +kernel
theorem dJ9_min_7cf53_2 : decode cJ9_min_7cf53 2 = .ok (.if_icmp .gt 7, 3) := by decide +kernel
theorem dJ9_min_7cf53_5 : decode cJ9_min_7cf53 5 = .ok (.iload_n 0, 1) := by decide +kernel
theorem dJ9_min_7cf53_6 : decode cJ9_min_7cf53 6 = .ok (.goto 4, 3) := by decide +kernel
theorem dJ9_min_7cf53_9 : decode cJ9_min_7cf53 9 = .ok (.iload_n 1, 1) := by decide +kernel
theorem dJ9_min_7cf53_10 : decode cJ9_min_7cf53 10 = .ok (.ireturn, 1) := by decide +kernel
theorem dJ0_length_8abf5_0 : decode cJ0_length_8abf5 0 = .ok (.aload_n 0, 1) := by decide +kernel
theorem dJ0_length_8abf5_1 : decode cJ0_length_8abf5 1 = .ok (.getfield 9, 3) := by decide +kernel
theorem dJ0_length_8abf5_4 : decode cJ0_length_8abf5 4 = .ok (.arraylength, 1) := by decide +kernel
theorem dJ0_length_8abf5_5 : decode cJ0_length_8abf5 5 = .ok (.aload_n 0, 1) := by decide +kernel
theorem dJ0_length_8abf5_6 : decode cJ0_length_8abf5 6 = .ok (.invokevirtual 335, 3) := by decide +kernel
theorem dJ0_length_8abf5_9 : decode cJ0_length_8abf5 9 = .ok (.ishr, 1) := by decide +kernel
theorem dJ0_length_8abf5_10 : decode cJ0_length_8abf5 10 = .ok (.ireturn, 1) := by decide +kernel
theorem dJ0_charAt_5068e_0 : decode cJ0_charAt_5068e 0 = .ok (.aload_n 0, 1) := by decide +kernel
theorem dJ0_charAt_5068e_1 : decode cJ0_charAt_5068e 1 = .ok (.invokevirtual 492, 3) := by decide +kernel
theorem dJ0_charAt_5068e_4 : decode cJ0_charAt_5068e 4 = .ok (.ifCond .eq 12, 3) := by decide +kernel
theorem dJ0_charAt_5068e_7 : decode cJ0_charAt_5068e 7 = .ok (.aload_n 0, 1) := by decide +kernel
theorem dJ0_charAt_5068e_8 : decode cJ0_charAt_5068e 8 = .ok (.getfield 9, 3) := by decide +kernel
theorem dJ0_charAt_5068e_11 : decode cJ0_charAt_5068e 11 = .ok (.iload_n 1, 1) := by decide +kernel
theorem dJ0_charAt_5068e_12 : decode cJ0_charAt_5068e 12 = .ok (.invokestatic 495, 3) := by decide +kernel
theorem dJ0_charAt_5068e_15 : decode cJ0_charAt_5068e 15 = .ok (.ireturn, 1) := by decide +kernel
theorem dJ0_charAt_5068e_16 : decode cJ0_charAt_5068e 16 = .ok (.aload_n 0, 1) := by decide +kernel
theorem dJ0_charAt_5068e_17 : decode cJ0_charAt_5068e 17 = .ok (.getfield 9, 3) := by decide +kernel
theorem dJ0_charAt_5068e_20 : decode cJ0_charAt_5068e 20 = .ok (.iload_n 1, 1) := by decide +kernel
theorem dJ0_charAt_5068e_21 : decode cJ0_charAt_5068e 21 = .ok (.invokestatic 498, 3) := by decide +kernel
theorem dJ0_charAt_5068e_24 : decode cJ0_charAt_5068e 24 = .ok (.ireturn, 1) := by decide +kernel
theorem dJ0_indexOf_0f7a4_0 : decode cJ0_indexOf_0f7a4 0 = .ok (.aload_n 0, 1) := by decide +kernel
theorem dJ0_indexOf_0f7a4_1 : decode cJ0_indexOf_0f7a4 1 = .ok (.iload_n 1, 1) := by decide +kernel
theorem dJ0_indexOf_0f7a4_2 : decode cJ0_indexOf_0f7a4 2 = .ok (.iconst 0, 1) := by decide +kernel
theorem dJ0_indexOf_0f7a4_3 : decode cJ0_indexOf_0f7a4 3 = .ok (.invokevirtual 633, 3) := by decide +kernel
theorem dJ0_indexOf_0f7a4_6 : decode cJ0_indexOf_0f7a4 6 = .ok (.ireturn, 1) := by decide +kernel
theorem dJ0_indexOf_7cf53_0 : decode cJ0_indexOf_7cf53 0 = .ok (.aload_n 0, 1) := by decide +kernel
theorem dJ0_indexOf_7cf53_1 : decode cJ0_indexOf_7cf53 1 = .ok (.invokevirtual 492, 3) := by decide +kernel
theorem dJ0_indexOf_7cf53_4 : decode cJ0_indexOf_7cf53 4 = .ok (.ifCond .eq 19, 3) := by decide +kernel
theorem dJ0_indexOf_7cf53_7 : decode cJ0_indexOf_7cf53 7 = .ok (.aload_n 0, 1) := by decide +kernel
theorem dJ0_indexOf_7cf53_8 : decode cJ0_indexOf_7cf53 8 = .ok (.getfield 9, 3) := by decide +kernel
theorem dJ0_indexOf_7cf53_11 : decode cJ0_indexOf_7cf53 11 = .ok (.iload_n 1, 1) := by decide +kernel
theorem dJ0_indexOf_7cf53_12 : decode cJ0_indexOf_7cf53 12 = .ok (.iload_n 2, 1) := by decide +kernel
theorem dJ0_indexOf_7cf53_13 : decode cJ0_indexOf_7cf53 13 = .ok (.aload_n 0, 1) := by decide +kernel
theorem dJ0_indexOf_7cf53_14 : decode cJ0_indexOf_7cf53 14 = .ok (.invokevirtual 505, 3) := by decide +kernel
theorem dJ0_indexOf_7cf53_17 : decode cJ0_indexOf_7cf53 17 = .ok (.invokestatic 637, 3) := by decide +kernel
theorem dJ0_indexOf_7cf53_20 : decode cJ0_indexOf_7cf53 20 = .ok (.goto 16, 3) := by decide +kernel
theorem dJ0_indexOf_7cf53_23 : decode cJ0_indexOf_7cf53 23 = .ok (.aload_n 0, 1) := by decide +kernel
theorem dJ0_indexOf_7cf53_24 : decode cJ0_indexOf_7cf53 24 = .ok (.getfield 9, 3) := by decide +kernel
theorem dJ0_indexOf_7cf53_27 : decode cJ0_indexOf_7cf53 27 = .ok (.iload_n 1, 1) := by decide +kernel
theorem dJ0_indexOf_7cf53_28 : decode cJ0_indexOf_7cf53 28 = .ok (.iload_n 2, 1) := by decide +kernel
theorem dJ0_indexOf_7cf53_29 : decode cJ0_indexOf_7cf53 29 = .ok (.aload_n 0, 1) := by decide +kernel
theorem dJ0_indexOf_7cf53_30 : decode cJ0_indexOf_7cf53 30 = .ok (.invokevirtual 505, 3) := by decide +kernel
theorem dJ0_indexOf_7cf53_33 : decode cJ0_indexOf_7cf53 33 = .ok (.invokestatic 640, 3) := by decide +kernel
theorem dJ0_indexOf_7cf53_36 : decode cJ0_indexOf_7cf53 36 = .ok (.ireturn, 1) := by decide +kernel
theorem dJ0_coder_7d493_0 : decode cJ0_coder_7d493 0 = .ok (.getstatic 38, 3) := by decide +kernel
theorem dJ0_coder_7d493_3 : decode cJ0_coder_7d493 3 = .ok (.ifCond .eq 10, 3) := by decide +kernel
theorem dJ0_coder_7d493_6 : decode cJ0_coder_7d493 6 = .ok (.aload_n 0, 1) := by decide +kernel
theorem dJ0_coder_7d493_7 : decode cJ0_coder_7d493 7 = .ok (.getfield 15, 3) := by decide +kernel
theorem dJ0_coder_7d493_10 : decode cJ0_coder_7d493 10 = .ok (.goto 4, 3) := by decide +kernel
theorem dJ0_coder_7d493_13 : decode cJ0_coder_7d493 13 = .ok (.iconst 1, 1) := by decide +kernel
theorem dJ0_coder_7d493_14 : decode cJ0_coder_7d493 14 = .ok (.ireturn, 1) := by decide +kernel
theorem dJ0_isLatin1_aae02_0 : decode cJ0_isLatin1_aae02 0 = .ok (.getstatic 38, 3) := by decide +kernel
theorem dJ0_isLatin1_aae02_3 : decode cJ0_isLatin1_aae02 3 = .ok (.ifCond .eq 14, 3) := by decide +kernel
theorem dJ0_isLatin1_aae02_6 : decode cJ0_isLatin1_aae02 6 = .ok (.aload_n 0, 1) := by decide +kernel
theorem dJ0_isLatin1_aae02_7 : decode cJ0_isLatin1_aae02 7 = .ok (.getfield 15, 3) := by decide +kernel
theorem dJ0_isLatin1_aae02_10 : decode cJ0_isLatin1_aae02 10 = .ok (.ifCond .ne 7, 3) := by decide +kernel
theorem dJ0_isLatin1_aae02_13 : decode cJ0_isLatin1_aae02 13 = .ok (.iconst 1, 1) := by decide +kernel
theorem dJ0_isLatin1_aae02_14 : decode cJ0_isLatin1_aae02 14 = .ok (.goto 4, 3) := by decide +kernel
theorem dJ0_isLatin1_aae02_17 : decode cJ0_isLatin1_aae02 17 = .ok (.iconst 0, 1) := by decide +kernel
theorem dJ0_isLatin1_aae02_18 : decode cJ0_isLatin1_aae02 18 = .ok (.ireturn, 1) := by decide +kernel
theorem dJ0_checkIndex_df160_0 : decode cJ0_checkIndex_df160 0 = .ok (.iload_n 0, 1) := by decide +kernel
theorem dJ0_checkIndex_df160_1 : decode cJ0_checkIndex_df160 1 = .ok (.iload_n 1, 1) := by decide +kernel
theorem dJ0_checkIndex_df160_2 : decode cJ0_checkIndex_df160 2 = .ok (.getstatic 1053, 3) := by decide +kernel
theorem dJ0_checkIndex_df160_5 : decode cJ0_checkIndex_df160 5 = .ok (.invokestatic 1059, 3) := by decide +kernel
theorem dJ0_checkIndex_df160_8 : decode cJ0_checkIndex_df160 8 = .ok (.pop, 1) := by decide +kernel
theorem dJ0_checkIndex_df160_9 : decode cJ0_checkIndex_df160 9 = .ok (.return_, 1) := by decide +kernel
theorem dJ0_checkBoundsBeginEnd_23922_0 : decode cJ0_checkBoundsBeginEnd_23922 0 = .ok (.iload_n 0, 1) := by decide +kernel
theorem dJ0_checkBoundsBeginEnd_23922_1 : decode cJ0_checkBoundsBeginEnd_23922 1 = .ok (.iload_n 1, 1) := by decide +kernel
theorem dJ0_checkBoundsBeginEnd_23922_2 : decode cJ0_checkBoundsBeginEnd_23922 2 = .ok (.iload_n 2, 1) := by decide +kernel
theorem dJ0_checkBoundsBeginEnd_23922_3 : decode cJ0_checkBoundsBeginEnd_23922 3 = .ok (.getstatic 1053, 3) := by decide +kernel
theorem dJ0_checkBoundsBeginEnd_23922_6 : decode cJ0_checkBoundsBeginEnd_23922 6 = .ok (.invokestatic 1062, 3) := by decide +kernel
theorem dJ0_checkBoundsBeginEnd_23922_9 : decode cJ0_checkBoundsBeginEnd_23922 9 = .ok (.pop, 1) := by decide +kernel
theorem dJ0_checkBoundsBeginEnd_23922_10 : decode cJ0_checkBoundsBeginEnd_23922 10 = .ok (.return_, 1) := by decide +kernel
theorem dJ1_charAt_3b067_0 : decode cJ1_charAt_3b067 0 = .ok (.iload_n 1, 1) := by decide +kernel
theorem dJ1_charAt_3b067_1 : decode cJ1_charAt_3b067 1 = .ok (.aload_n 0, 1) := by decide +kernel
theorem dJ1_charAt_3b067_2 : decode cJ1_charAt_3b067 2 = .ok (.arraylength, 1) := by decide +kernel
theorem dJ1_charAt_3b067_3 : decode cJ1_charAt_3b067 3 = .ok (.invokestatic 9, 3) := by decide +kernel
theorem dJ1_charAt_3b067_6 : decode cJ1_charAt_3b067 6 = .ok (.aload_n 0, 1) := by decide +kernel
theorem dJ1_charAt_3b067_7 : decode cJ1_charAt_3b067 7 = .ok (.iload_n 1, 1) := by decide +kernel
theorem dJ1_charAt_3b067_8 : decode cJ1_charAt_3b067 8 = .ok (.baload, 1) := by decide +kernel
theorem dJ1_charAt_3b067_9 : decode cJ1_charAt_3b067 9 = .ok (.sipush 255, 3) := by decide +kernel
theorem dJ1_charAt_3b067_12 : decode cJ1_charAt_3b067 12 = .ok (.iand, 1) := by decide +kernel
theorem dJ1_charAt_3b067_13 : decode cJ1_charAt_3b067 13 = .ok (.i2c, 1) := by decide +kernel
theorem dJ1_charAt_3b067_14 : decode cJ1_charAt_3b067 14 = .ok (.ireturn, 1) := by decide +kernel
theorem dJ1_canEncode_9a6ad_0 : decode cJ1_canEncode_9a6ad 0 = .ok (.iload_n 0, 1) := by decide +kernel
theorem dJ1_canEncode_9a6ad_1 : decode cJ1_canEncode_9a6ad 1 = .ok (.ifCond .lt 14, 3) := by decide +kernel
theorem dJ1_canEncode_9a6ad_4 : decode cJ1_canEncode_9a6ad 4 = .ok (.iload_n 0, 1) := by decide +kernel
theorem dJ1_canEncode_9a6ad_5 : decode cJ1_canEncode_9a6ad 5 = .ok (.sipush 255, 3) := by decide +kernel
theorem dJ1_canEncode_9a6ad_8 : decode cJ1_canEncode_9a6ad 8 = .ok (.if_icmp .gt 7, 3) := by decide +kernel
theorem dJ1_canEncode_9a6ad_11 : decode cJ1_canEncode_9a6ad 11 = .ok (.iconst 1, 1) := by decide +kernel
theorem dJ1_canEncode_9a6ad_12 : decode cJ1_canEncode_9a6ad 12 = .ok (.goto 4, 3) := by decide +kernel
theorem dJ1_canEncode_9a6ad_15 : decode cJ1_canEncode_9a6ad 15 = .ok (.iconst 0, 1) := by decide +kernel
theorem dJ1_canEncode_9a6ad_16 : decode cJ1_canEncode_9a6ad 16 = .ok (.ireturn, 1) := by decide +kernel
theorem dJ1_indexOf_4cfef_0 : decode cJ1_indexOf_4cfef 0 = .ok (.iload_n 1, 1) := by decide +kernel
theorem dJ1_indexOf_4cfef_1 : decode cJ1_indexOf_4cfef 1 = .ok (.invokestatic 88, 3) := by decide +kernel
theorem dJ1_indexOf_4cfef_4 : decode cJ1_indexOf_4cfef 4 = .ok (.ifCond .ne 5, 3) := by decide +kernel
theorem dJ1_indexOf_4cfef_7 : decode cJ1_indexOf_4cfef 7 = .ok (.iconst (-1), 1) := by decide +kernel
theorem dJ1_indexOf_4cfef_8 : decode cJ1_indexOf_4cfef 8 = .ok (.ireturn, 1) := by decide +kernel
theorem dJ1_indexOf_4cfef_9 : decode cJ1_indexOf_4cfef 9 = .ok (.iload_n 2, 1) := by decide +kernel
theorem dJ1_indexOf_4cfef_10 : decode cJ1_indexOf_4cfef 10 = .ok (.iconst 0, 1) := by decide +kernel
theorem dJ1_indexOf_4cfef_11 : decode cJ1_indexOf_4cfef 11 = .ok (.invokestatic 92, 3) := by decide +kernel
theorem dJ1_indexOf_4cfef_14 : decode cJ1_indexOf_4cfef 14 = .ok (.istore_n 2, 1) := by decide +kernel
theorem dJ1_indexOf_4cfef_15 : decode cJ1_indexOf_4cfef 15 = .ok (.iload_n 3, 1) := by decide +kernel
theorem dJ1_indexOf_4cfef_16 : decode cJ1_indexOf_4cfef 16 = .ok (.aload_n 0, 1) := by decide +kernel
theorem dJ1_indexOf_4cfef_17 : decode cJ1_indexOf_4cfef 17 = .ok (.arraylength, 1) := by decide +kernel
theorem dJ1_indexOf_4cfef_18 : decode cJ1_indexOf_4cfef 18 = .ok (.invokestatic 38, 3) := by decide +kernel
theorem dJ1_indexOf_4cfef_21 : decode cJ1_indexOf_4cfef 21 = .ok (.istore_n 3, 1) := by decide +kernel
theorem dJ1_indexOf_4cfef_22 : decode cJ1_indexOf_4cfef 22 = .ok (.iload_n 2, 1) := by decide +kernel
theorem dJ1_indexOf_4cfef_23 : decode cJ1_indexOf_4cfef 23 = .ok (.iload_n 3, 1) := by decide +kernel
theorem dJ1_indexOf_4cfef_24 : decode cJ1_indexOf_4cfef 24 = .ok (.if_icmp .lt 5, 3) := by decide +kernel
theorem dJ1_indexOf_4cfef_27 : decode cJ1_indexOf_4cfef 27 = .ok (.iconst (-1), 1) := by decide +kernel
theorem dJ1_indexOf_4cfef_28 : decode cJ1_indexOf_4cfef 28 = .ok (.ireturn, 1) := by decide +kernel
theorem dJ1_indexOf_4cfef_29 : decode cJ1_indexOf_4cfef 29 = .ok (.aload_n 0, 1) := by decide +kernel
theorem dJ1_indexOf_4cfef_30 : decode cJ1_indexOf_4cfef 30 = .ok (.iload_n 1, 1) := by decide +kernel
theorem dJ1_indexOf_4cfef_31 : decode cJ1_indexOf_4cfef 31 = .ok (.iload_n 2, 1) := by decide +kernel
theorem dJ1_indexOf_4cfef_32 : decode cJ1_indexOf_4cfef 32 = .ok (.iload_n 3, 1) := by decide +kernel
theorem dJ1_indexOf_4cfef_33 : decode cJ1_indexOf_4cfef 33 = .ok (.invokestatic 95, 3) := by decide +kernel
theorem dJ1_indexOf_4cfef_36 : decode cJ1_indexOf_4cfef 36 = .ok (.ireturn, 1) := by decide +kernel
theorem dJ1_indexOfChar_4cfef_0 : decode cJ1_indexOfChar_4cfef 0 = .ok (.iload_n 1, 1) := by decide +kernel
theorem dJ1_indexOfChar_4cfef_1 : decode cJ1_indexOfChar_4cfef 1 = .ok (.i2b, 1) := by decide +kernel
theorem dJ1_indexOfChar_4cfef_2 : decode cJ1_indexOfChar_4cfef 2 = .ok (.istore 4, 2) := by decide +kernel
theorem dJ1_indexOfChar_4cfef_4 : decode cJ1_indexOfChar_4cfef 4 = .ok (.iload_n 2, 1) := by decide +kernel
theorem dJ1_indexOfChar_4cfef_5 : decode cJ1_indexOfChar_4cfef 5 = .ok (.istore 5, 2) := by decide +kernel
theorem dJ1_indexOfChar_4cfef_7 : decode cJ1_indexOfChar_4cfef 7 = .ok (.iload 5, 2) := by decide +kernel
theorem dJ1_indexOfChar_4cfef_9 : decode cJ1_indexOfChar_4cfef 9 = .ok (.iload_n 3, 1) := by decide +kernel
theorem dJ1_indexOfChar_4cfef_10 : decode cJ1_indexOfChar_4cfef 10 = .ok (.if_icmp .ge 21, 3) := by decide +kernel
theorem dJ1_indexOfChar_4cfef_13 : decode cJ1_indexOfChar_4cfef 13 = .ok (.aload_n 0, 1) := by decide +kernel
theorem dJ1_indexOfChar_4cfef_14 : decode cJ1_indexOfChar_4cfef 14 = .ok (.iload 5, 2) := by decide +kernel
theorem dJ1_indexOfChar_4cfef_16 : decode cJ1_indexOfChar_4cfef 16 = .ok (.baload, 1) := by decide +kernel
theorem dJ1_indexOfChar_4cfef_17 : decode cJ1_indexOfChar_4cfef 17 = .ok (.iload 4, 2) := by decide +kernel
theorem dJ1_indexOfChar_4cfef_19 : decode cJ1_indexOfChar_4cfef 19 = .ok (.if_icmp .ne 6, 3) := by decide +kernel
theorem dJ1_indexOfChar_4cfef_22 : decode cJ1_indexOfChar_4cfef 22 = .ok (.iload 5, 2) := by decide +kernel
theorem dJ1_indexOfChar_4cfef_24 : decode cJ1_indexOfChar_4cfef 24 = .ok (.ireturn, 1) := by decide +kernel
theorem dJ1_indexOfChar_4cfef_25 : decode cJ1_indexOfChar_4cfef 25 = .ok (.iinc 5 1, 3) := by decide +kernel
theorem dJ1_indexOfChar_4cfef_28 : decode cJ1_indexOfChar_4cfef 28 = .ok (.goto (-21), 3) := by decide +kernel
theorem dJ1_indexOfChar_4cfef_31 : decode cJ1_indexOfChar_4cfef 31 = .ok (.iconst (-1), 1) := by decide +kernel
theorem dJ1_indexOfChar_4cfef_32 : decode cJ1_indexOfChar_4cfef 32 = .ok (.ireturn, 1) := by decide +kernel
theorem dJ2_getChar_3b067_0 : decode cJ2_getChar_3b067 0 = .ok (.getstatic 44, 3) := by decide +kernel
theorem dJ2_getChar_3b067_3 : decode cJ2_getChar_3b067 3 = .ok (.ifCond .ne 25, 3) := by decide +kernel
theorem dJ2_getChar_3b067_6 : decode cJ2_getChar_3b067 6 = .ok (.iload_n 1, 1) := by decide +kernel
theorem dJ2_getChar_3b067_7 : decode cJ2_getChar_3b067 7 = .ok (.ifCond .lt 11, 3) := by decide +kernel
theorem dJ2_getChar_3b067_10 : decode cJ2_getChar_3b067 10 = .ok (.iload_n 1, 1) := by decide +kernel
theorem dJ2_getChar_3b067_11 : decode cJ2_getChar_3b067 11 = .ok (.aload_n 0, 1) := by decide +kernel
theorem dJ2_getChar_3b067_12 : decode cJ2_getChar_3b067 12 = .ok (.invokestatic 48, 3) := by decide +kernel
theorem dJ2_getChar_3b067_15 : decode cJ2_getChar_3b067 15 = .ok (.if_icmp .lt 13, 3) := by decide +kernel
theorem dJ2_getChar_3b067_18 : decode cJ2_getChar_3b067 18 = .ok (.new 52, 3) := by decide +kernel
theorem dJ2_getChar_3b067_21 : decode cJ2_getChar_3b067 21 = .ok (.dup, 1) := by decide +kernel
theorem dJ2_getChar_3b067_22 : decode cJ2_getChar_3b067 22 = .ok (.ldc 54, 2) := by decide +kernel
theorem dJ2_getChar_3b067_24 : decode cJ2_getChar_3b067 24 = .ok (.invokespecial 56, 3) := by decide +kernel
theorem dJ2_getChar_3b067_27 : decode cJ2_getChar_3b067 27 = .ok (.athrow, 1) := by decide +kernel
theorem dJ2_getChar_3b067_28 : decode cJ2_getChar_3b067 28 = .ok (.iload_n 1, 1) := by decide +kernel
theorem dJ2_getChar_3b067_29 : decode cJ2_getChar_3b067 29 = .ok (.iconst 1, 1) := by decide +kernel
theorem dJ2_getChar_3b067_30 : decode cJ2_getChar_3b067 30 = .ok (.ishl, 1) := by decide +kernel
theorem dJ2_getChar_3b067_31 : decode cJ2_getChar_3b067 31 = .ok (.istore_n 1, 1) := by decide +kernel
theorem dJ2_getChar_3b067_32 : decode cJ2_getChar_3b067 32 = .ok (.aload_n 0, 1) := by decide +kernel
theorem dJ2_getChar_3b067_33 : decode cJ2_getChar_3b067 33 = .ok (.iload_n 1, 1) := by decide +kernel
theorem dJ2_getChar_3b067_34 : decode cJ2_getChar_3b067 34 = .ok (.iinc 1 1, 3) := by decide +kernel
theorem dJ2_getChar_3b067_37 : decode cJ2_getChar_3b067 37 = .ok (.baload, 1) := by decide +kernel
theorem dJ2_getChar_3b067_38 : decode cJ2_getChar_3b067 38 = .ok (.sipush 255, 3) := by decide +kernel
theorem dJ2_getChar_3b067_41 : decode cJ2_getChar_3b067 41 = .ok (.iand, 1) := by decide +kernel
theorem dJ2_getChar_3b067_42 : decode cJ2_getChar_3b067 42 = .ok (.getstatic 59, 3) := by decide +kernel
theorem dJ2_getChar_3b067_45 : decode cJ2_getChar_3b067 45 = .ok (.ishl, 1) := by decide +kernel
theorem dJ2_getChar_3b067_46 : decode cJ2_getChar_3b067 46 = .ok (.aload_n 0, 1) := by decide +kernel
theorem dJ2_getChar_3b067_47 : decode cJ2_getChar_3b067 47 = .ok (.iload_n 1, 1) := by decide +kernel
theorem dJ2_getChar_3b067_48 : decode cJ2_getChar_3b067 48 = .ok (.baload, 1) := by decide +kernel
theorem dJ2_getChar_3b067_49 : decode cJ2_getChar_3b067 49 = .ok (.sipush 255, 3) := by decide +kernel
theorem dJ2_getChar_3b067_52 : decode cJ2_getChar_3b067 52 = .ok (.iand, 1) := by decide +kernel
theorem dJ2_getChar_3b067_53 : decode cJ2_getChar_3b067 53 = .ok (.getstatic 63, 3) := by decide +kernel
theorem dJ2_getChar_3b067_56 : decode cJ2_getChar_3b067 56 = .ok (.ishl, 1) := by decide +kernel
theorem dJ2_getChar_3b067_57 : decode cJ2_getChar_3b067 57 = .ok (.ior, 1) := by decide +kernel
theorem dJ2_getChar_3b067_58 : decode cJ2_getChar_3b067 58 = .ok (.i2c, 1) := by decide +kernel
theorem dJ2_getChar_3b067_59 : decode cJ2_getChar_3b067 59 = .ok (.ireturn, 1) := by decide +kernel
theorem dJ2_length_9d52b_0 : decode cJ2_length_9d52b 0 = .ok (.aload_n 0, 1) := by decide +kernel
theorem dJ2_length_9d52b_1 : decode cJ2_length_9d52b 1 = .ok (.arraylength, 1) := by decide +kernel
theorem dJ2_length_9d52b_2 : decode cJ2_length_9d52b 2 = .ok (.iconst 1, 1) := by decide +kernel
theorem dJ2_length_9d52b_3 : decode cJ2_length_9d52b 3 = .ok (.ishr, 1) := by decide +kernel
theorem dJ2_length_9d52b_4 : decode cJ2_length_9d52b 4 = .ok (.ireturn, 1) := by decide +kernel
theorem dJ2_indexOf_4cfef_0 : decode cJ2_indexOf_4cfef 0 = .ok (.iload_n 2, 1) := by decide +kernel
theorem dJ2_indexOf_4cfef_1 : decode cJ2_indexOf_4cfef 1 = .ok (.iconst 0, 1) := by decide +kernel
theorem dJ2_indexOf_4cfef_2 : decode cJ2_indexOf_4cfef 2 = .ok (.invokestatic 224, 3) := by decide +kernel
theorem dJ2_indexOf_4cfef_5 : decode cJ2_indexOf_4cfef 5 = .ok (.istore_n 2, 1) := by decide +kernel
theorem dJ2_indexOf_4cfef_6 : decode cJ2_indexOf_4cfef 6 = .ok (.iload_n 3, 1) := by decide +kernel
theorem dJ2_indexOf_4cfef_7 : decode cJ2_indexOf_4cfef 7 = .ok (.aload_n 0, 1) := by decide +kernel
theorem dJ2_indexOf_4cfef_8 : decode cJ2_indexOf_4cfef 8 = .ok (.arraylength, 1) := by decide +kernel
theorem dJ2_indexOf_4cfef_9 : decode cJ2_indexOf_4cfef 9 = .ok (.iconst 1, 1) := by decide +kernel
theorem dJ2_indexOf_4cfef_10 : decode cJ2_indexOf_4cfef 10 = .ok (.ishr, 1) := by decide +kernel
theorem dJ2_indexOf_4cfef_11 : decode cJ2_indexOf_4cfef 11 = .ok (.invokestatic 183, 3) := by decide +kernel
theorem dJ2_indexOf_4cfef_14 : decode cJ2_indexOf_4cfef 14 = .ok (.istore_n 3, 1) := by decide +kernel
theorem dJ2_indexOf_4cfef_15 : decode cJ2_indexOf_4cfef 15 = .ok (.iload_n 2, 1) := by decide +kernel
theorem dJ2_indexOf_4cfef_16 : decode cJ2_indexOf_4cfef 16 = .ok (.iload_n 3, 1) := by decide +kernel
theorem dJ2_indexOf_4cfef_17 : decode cJ2_indexOf_4cfef 17 = .ok (.if_icmp .lt 5, 3) := by decide +kernel
theorem dJ2_indexOf_4cfef_20 : decode cJ2_indexOf_4cfef 20 = .ok (.iconst (-1), 1) := by decide +kernel
theorem dJ2_indexOf_4cfef_21 : decode cJ2_indexOf_4cfef 21 = .ok (.ireturn, 1) := by decide +kernel
theorem dJ2_indexOf_4cfef_22 : decode cJ2_indexOf_4cfef 22 = .ok (.iload_n 1, 1) := by decide +kernel
theorem dJ2_indexOf_4cfef_23 : decode cJ2_indexOf_4cfef 23 = .ok (.ldc 227, 2) := by decide +kernel
theorem dJ2_indexOf_4cfef_25 : decode cJ2_indexOf_4cfef 25 = .ok (.if_icmp .ge 11, 3) := by decide +kernel
theorem dJ2_indexOf_4cfef_28 : decode cJ2_indexOf_4cfef 28 = .ok (.aload_n 0, 1) := by decide +kernel
theorem dJ2_indexOf_4cfef_29 : decode cJ2_indexOf_4cfef 29 = .ok (.iload_n 1, 1) := by decide +kernel
theorem dJ2_indexOf_4cfef_30 : decode cJ2_indexOf_4cfef 30 = .ok (.iload_n 2, 1) := by decide +kernel
theorem dJ2_indexOf_4cfef_31 : decode cJ2_indexOf_4cfef 31 = .ok (.iload_n 3, 1) := by decide +kernel
theorem dJ2_indexOf_4cfef_32 : decode cJ2_indexOf_4cfef 32 = .ok (.invokestatic 228, 3) := by decide +kernel
theorem dJ2_indexOf_4cfef_35 : decode cJ2_indexOf_4cfef 35 = .ok (.ireturn, 1) := by decide +kernel
theorem dJ2_indexOf_4cfef_36 : decode cJ2_indexOf_4cfef 36 = .ok (.aload_n 0, 1) := by decide +kernel
theorem dJ2_indexOf_4cfef_37 : decode cJ2_indexOf_4cfef 37 = .ok (.iload_n 1, 1) := by decide +kernel
theorem dJ2_indexOf_4cfef_38 : decode cJ2_indexOf_4cfef 38 = .ok (.iload_n 2, 1) := by decide +kernel
theorem dJ2_indexOf_4cfef_39 : decode cJ2_indexOf_4cfef 39 = .ok (.iload_n 3, 1) := by decide +kernel
theorem dJ2_indexOf_4cfef_40 : decode cJ2_indexOf_4cfef 40 = .ok (.invokestatic 232, 3) := by decide +kernel
theorem dJ2_indexOf_4cfef_43 : decode cJ2_indexOf_4cfef 43 = .ok (.ireturn, 1) := by decide +kernel
theorem dJ2_indexOfChar_4cfef_0 : decode cJ2_indexOfChar_4cfef 0 = .ok (.iload_n 2, 1) := by decide +kernel
theorem dJ2_indexOfChar_4cfef_1 : decode cJ2_indexOfChar_4cfef 1 = .ok (.iload_n 3, 1) := by decide +kernel
theorem dJ2_indexOfChar_4cfef_2 : decode cJ2_indexOfChar_4cfef 2 = .ok (.aload_n 0, 1) := by decide +kernel
theorem dJ2_indexOfChar_4cfef_3 : decode cJ2_indexOfChar_4cfef 3 = .ok (.invokestatic 96, 3) := by decide +kernel
theorem dJ2_indexOfChar_4cfef_6 : decode cJ2_indexOfChar_4cfef 6 = .ok (.aload_n 0, 1) := by decide +kernel
theorem dJ2_indexOfChar_4cfef_7 : decode cJ2_indexOfChar_4cfef 7 = .ok (.iload_n 1, 1) := by decide +kernel
theorem dJ2_indexOfChar_4cfef_8 : decode cJ2_indexOfChar_4cfef 8 = .ok (.iload_n 2, 1) := by decide +kernel
theorem dJ2_indexOfChar_4cfef_9 : decode cJ2_indexOfChar_4cfef 9 = .ok (.iload_n 3, 1) := by decide +kernel
theorem dJ2_indexOfChar_4cfef_10 : decode cJ2_indexOfChar_4cfef 10 = .ok (.invokestatic 244, 3) := by decide +kernel
theorem dJ2_indexOfChar_4cfef_13 : decode cJ2_indexOfChar_4cfef 13 = .ok (.ireturn, 1) := by decide +kernel
theorem dJ2_indexOfCharUnsafe_4cfef_0 : decode cJ2_indexOfCharUnsafe_4cfef 0 = .ok (.iload_n 2, 1) := by decide +kernel
theorem dJ2_indexOfCharUnsafe_4cfef_1 : decode cJ2_indexOfCharUnsafe_4cfef 1 = .ok (.istore 4, 2) := by decide +kernel
theorem dJ2_indexOfCharUnsafe_4cfef_3 : decode cJ2_indexOfCharUnsafe_4cfef 3 = .ok (.iload 4, 2) := by decide +kernel
theorem dJ2_indexOfCharUnsafe_4cfef_5 : decode cJ2_indexOfCharUnsafe_4cfef 5 = .ok (.iload_n 3, 1) := by decide +kernel
theorem dJ2_indexOfCharUnsafe_4cfef_6 : decode cJ2_indexOfCharUnsafe_4cfef 6 = .ok (.if_icmp .ge 22, 3) := by decide +kernel
theorem dJ2_indexOfCharUnsafe_4cfef_9 : decode cJ2_indexOfCharUnsafe_4cfef 9 = .ok (.aload_n 0, 1) := by decide +kernel
theorem dJ2_indexOfCharUnsafe_4cfef_10 : decode cJ2_indexOfCharUnsafe_4cfef 10 = .ok (.iload 4, 2) := by decide +kernel
theorem dJ2_indexOfCharUnsafe_4cfef_12 : decode cJ2_indexOfCharUnsafe_4cfef 12 = .ok (.invokestatic 71, 3) := by decide +kernel
theorem dJ2_indexOfCharUnsafe_4cfef_15 : decode cJ2_indexOfCharUnsafe_4cfef 15 = .ok (.iload_n 1, 1) := by decide +kernel
theorem dJ2_indexOfCharUnsafe_4cfef_16 : decode cJ2_indexOfCharUnsafe_4cfef 16 = .ok (.if_icmp .ne 6, 3) := by decide +kernel
theorem dJ2_indexOfCharUnsafe_4cfef_19 : decode cJ2_indexOfCharUnsafe_4cfef 19 = .ok (.iload 4, 2) := by decide +kernel
theorem dJ2_indexOfCharUnsafe_4cfef_21 : decode cJ2_indexOfCharUnsafe_4cfef 21 = .ok (.ireturn, 1) := by decide +kernel
theorem dJ2_indexOfCharUnsafe_4cfef_22 : decode cJ2_indexOfCharUnsafe_4cfef 22 = .ok (.iinc 4 1, 3) := by decide +kernel
theorem dJ2_indexOfCharUnsafe_4cfef_25 : decode cJ2_indexOfCharUnsafe_4cfef 25 = .ok (.goto (-22), 3) := by decide +kernel
theorem dJ2_indexOfCharUnsafe_4cfef_28 : decode cJ2_indexOfCharUnsafe_4cfef 28 = .ok (.iconst (-1), 1) := by decide +kernel
theorem dJ2_indexOfCharUnsafe_4cfef_29 : decode cJ2_indexOfCharUnsafe_4cfef 29 = .ok (.ireturn, 1) := by decide +kernel
theorem dJ2_indexOfSupplementary_4cfef_0 : decode cJ2_indexOfSupplementary_4cfef 0 = .ok (.iload_n 1, 1) := by decide +kernel
theorem dJ2_indexOfSupplementary_4cfef_1 : decode cJ2_indexOfSupplementary_4cfef 1 = .ok (.invokestatic 164, 3) := by decide +kernel
theorem dJ2_indexOfSupplementary_4cfef_4 : decode cJ2_indexOfSupplementary_4cfef 4 = .ok (.ifCond .eq 65, 3) := by decide +kernel
theorem dJ2_indexOfSupplementary_4cfef_7 : decode cJ2_indexOfSupplementary_4cfef 7 = .ok (.iload_n 1, 1) := by decide +kernel
theorem dJ2_indexOfSupplementary_4cfef_8 : decode cJ2_indexOfSupplementary_4cfef 8 = .ok (.invokestatic 157, 3) := by decide +kernel
theorem dJ2_indexOfSupplementary_4cfef_11 : decode cJ2_indexOfSupplementary_4cfef 11 = .ok (.istore 4, 2) := by decide +kernel
theorem dJ2_indexOfSupplementary_4cfef_13 : decode cJ2_indexOfSupplementary_4cfef 13 = .ok (.iload_n 1, 1) := by decide +kernel
theorem dJ2_indexOfSupplementary_4cfef_14 : decode cJ2_indexOfSupplementary_4cfef 14 = .ok (.invokestatic 161, 3) := by decide +kernel
theorem dJ2_indexOfSupplementary_4cfef_17 : decode cJ2_indexOfSupplementary_4cfef 17 = .ok (.istore 5, 2) := by decide +kernel
theorem dJ2_indexOfSupplementary_4cfef_19 : decode cJ2_indexOfSupplementary_4cfef 19 = .ok (.iload_n 2, 1) := by decide +kernel
theorem dJ2_indexOfSupplementary_4cfef_20 : decode cJ2_indexOfSupplementary_4cfef 20 = .ok (.iload_n 3, 1) := by decide +kernel
theorem dJ2_indexOfSupplementary_4cfef_21 : decode cJ2_indexOfSupplementary_4cfef 21 = .ok (.aload_n 0, 1) := by decide +kernel
theorem dJ2_indexOfSupplementary_4cfef_22 : decode cJ2_indexOfSupplementary_4cfef 22 = .ok (.invokestatic 96, 3) := by decide +kernel
theorem dJ2_indexOfSupplementary_4cfef_25 : decode cJ2_indexOfSupplementary_4cfef 25 = .ok (.iload_n 2, 1) := by decide +kernel
theorem dJ2_indexOfSupplementary_4cfef_26 : decode cJ2_indexOfSupplementary_4cfef 26 = .ok (.istore 6, 2) := by decide +kernel
theorem dJ2_indexOfSupplementary_4cfef_28 : decode cJ2_indexOfSupplementary_4cfef 28 = .ok (.iload 6, 2) := by decide +kernel
theorem dJ2_indexOfSupplementary_4cfef_30 : decode cJ2_indexOfSupplementary_4cfef 30 = .ok (.iload_n 3, 1) := by decide +kernel
theorem dJ2_indexOfSupplementary_4cfef_31 : decode cJ2_indexOfSupplementary_4cfef 31 = .ok (.iconst 1, 1) := by decide +kernel
theorem dJ2_indexOfSupplementary_4cfef_32 : decode cJ2_indexOfSupplementary_4cfef 32 = .ok (.isub, 1) := by decide +kernel
theorem dJ2_indexOfSupplementary_4cfef_33 : decode cJ2_indexOfSupplementary_4cfef 33 = .ok (.if_icmp .ge 36, 3) := by decide +kernel
theorem dJ2_indexOfSupplementary_4cfef_36 : decode cJ2_indexOfSupplementary_4cfef 36 = .ok (.aload_n 0, 1) := by decide +kernel
theorem dJ2_indexOfSupplementary_4cfef_37 : decode cJ2_indexOfSupplementary_4cfef 37 = .ok (.iload 6, 2) := by decide +kernel
theorem dJ2_indexOfSupplementary_4cfef_39 : decode cJ2_indexOfSupplementary_4cfef 39 = .ok (.invokestatic 71, 3) := by decide +kernel
theorem dJ2_indexOfSupplementary_4cfef_42 : decode cJ2_indexOfSupplementary_4cfef 42 = .ok (.iload 4, 2) := by decide +kernel
theorem dJ2_indexOfSupplementary_4cfef_44 : decode cJ2_indexOfSupplementary_4cfef 44 = .ok (.if_icmp .ne 19, 3) := by decide +kernel
theorem dJ2_indexOfSupplementary_4cfef_47 : decode cJ2_indexOfSupplementary_4cfef 47 = .ok (.aload_n 0, 1) := by decide +kernel
theorem dJ2_indexOfSupplementary_4cfef_48 : decode cJ2_indexOfSupplementary_4cfef 48 = .ok (.iload 6, 2) := by decide +kernel
theorem dJ2_indexOfSupplementary_4cfef_50 : decode cJ2_indexOfSupplementary_4cfef 50 = .ok (.iconst 1, 1) := by decide +kernel
theorem dJ2_indexOfSupplementary_4cfef_51 : decode cJ2_indexOfSupplementary_4cfef 51 = .ok (.iadd, 1) := by decide +kernel
theorem dJ2_indexOfSupplementary_4cfef_52 : decode cJ2_indexOfSupplementary_4cfef 52 = .ok (.invokestatic 71, 3) := by decide +kernel
theorem dJ2_indexOfSupplementary_4cfef_55 : decode cJ2_indexOfSupplementary_4cfef 55 = .ok (.iload 5, 2) := by decide +kernel
theorem dJ2_indexOfSupplementary_4cfef_57 : decode cJ2_indexOfSupplementary_4cfef 57 = .ok (.if_icmp .ne 6, 3) := by decide +kernel
theorem dJ2_indexOfSupplementary_4cfef_60 : decode cJ2_indexOfSupplementary_4cfef 60 = .ok (.iload 6, 2) := by decide +kernel
theorem dJ2_indexOfSupplementary_4cfef_62 : decode cJ2_indexOfSupplementary_4cfef 62 = .ok (.ireturn, 1) := by decide +kernel
theorem dJ2_indexOfSupplementary_4cfef_63 : decode cJ2_indexOfSupplementary_4cfef 63 = .ok (.iinc 6 1, 3) := by decide +kernel
theorem dJ2_indexOfSupplementary_4cfef_66 : decode cJ2_indexOfSupplementary_4cfef 66 = .ok (.goto (-38), 3) := by decide +kernel
theorem dJ2_indexOfSupplementary_4cfef_69 : decode cJ2_indexOfSupplementary_4cfef 69 = .ok (.iconst (-1), 1) := by decide +kernel
theorem dJ2_indexOfSupplementary_4cfef_70 : decode cJ2_indexOfSupplementary_4cfef 70 = .ok (.ireturn, 1) := by decide +kernel
theorem dJ2_charAt_3b067_0 : decode cJ2_charAt_3b067 0 = .ok (.iload_n 1, 1) := by decide +kernel
theorem dJ2_charAt_3b067_1 : decode cJ2_charAt_3b067 1 = .ok (.aload_n 0, 1) := by decide +kernel
theorem dJ2_charAt_3b067_2 : decode cJ2_charAt_3b067 2 = .ok (.invokestatic 67, 3) := by decide +kernel
theorem dJ2_charAt_3b067_5 : decode cJ2_charAt_3b067 5 = .ok (.aload_n 0, 1) := by decide +kernel
theorem dJ2_charAt_3b067_6 : decode cJ2_charAt_3b067 6 = .ok (.iload_n 1, 1) := by decide +kernel
theorem dJ2_charAt_3b067_7 : decode cJ2_charAt_3b067 7 = .ok (.invokestatic 71, 3) := by decide +kernel
theorem dJ2_charAt_3b067_10 : decode cJ2_charAt_3b067 10 = .ok (.ireturn, 1) := by decide +kernel
theorem dJ2_checkIndex_2214a_0 : decode cJ2_checkIndex_2214a 0 = .ok (.iload_n 0, 1) := by decide +kernel
theorem dJ2_checkIndex_2214a_1 : decode cJ2_checkIndex_2214a 1 = .ok (.aload_n 1, 1) := by decide +kernel
theorem dJ2_checkIndex_2214a_2 : decode cJ2_checkIndex_2214a 2 = .ok (.invokestatic 48, 3) := by decide +kernel
theorem dJ2_checkIndex_2214a_5 : decode cJ2_checkIndex_2214a 5 = .ok (.invokestatic 414, 3) := by decide +kernel
theorem dJ2_checkIndex_2214a_8 : decode cJ2_checkIndex_2214a 8 = .ok (.return_, 1) := by decide +kernel
theorem dJ2_checkBoundsBeginEnd_d044e_0 : decode cJ2_checkBoundsBeginEnd_d044e 0 = .ok (.iload_n 0, 1) := by decide +kernel
theorem dJ2_checkBoundsBeginEnd_d044e_1 : decode cJ2_checkBoundsBeginEnd_d044e 1 = .ok (.iload_n 1, 1) := by decide +kernel
theorem dJ2_checkBoundsBeginEnd_d044e_2 : decode cJ2_checkBoundsBeginEnd_d044e 2 = .ok (.aload_n 2, 1) := by decide +kernel
theorem dJ2_checkBoundsBeginEnd_d044e_3 : decode cJ2_checkBoundsBeginEnd_d044e 3 = .ok (.invokestatic 48, 3) := by decide +kernel
theorem dJ2_checkBoundsBeginEnd_d044e_6 : decode cJ2_checkBoundsBeginEnd_d044e 6 = .ok (.invokestatic 241, 3) := by decide +kernel
theorem dJ2_checkBoundsBeginEnd_d044e_9 : decode cJ2_checkBoundsBeginEnd_d044e 9 = .ok (.return_, 1) := by decide +kernel
theorem dJ7_fill_53178_0 : decode cJ7_fill_53178 0 = .ok (.iconst 0, 1) := by decide +kernel
theorem dJ7_fill_53178_1 : decode cJ7_fill_53178 1 = .ok (.istore_n 2, 1) := by decide +kernel
theorem dJ7_fill_53178_2 : decode cJ7_fill_53178 2 = .ok (.aload_n 0, 1) := by decide +kernel
theorem dJ7_fill_53178_3 : decode cJ7_fill_53178 3 = .ok (.arraylength, 1) := by decide +kernel
theorem dJ7_fill_53178_4 : decode cJ7_fill_53178 4 = .ok (.istore_n 3, 1) := by decide +kernel
theorem dJ7_fill_53178_5 : decode cJ7_fill_53178 5 = .ok (.iload_n 2, 1) := by decide +kernel
theorem dJ7_fill_53178_6 : decode cJ7_fill_53178 6 = .ok (.iload_n 3, 1) := by decide +kernel
theorem dJ7_fill_53178_7 : decode cJ7_fill_53178 7 = .ok (.if_icmp .ge 13, 3) := by decide +kernel
theorem dJ7_fill_53178_10 : decode cJ7_fill_53178 10 = .ok (.aload_n 0, 1) := by decide +kernel
theorem dJ7_fill_53178_11 : decode cJ7_fill_53178 11 = .ok (.iload_n 2, 1) := by decide +kernel
theorem dJ7_fill_53178_12 : decode cJ7_fill_53178 12 = .ok (.iload_n 1, 1) := by decide +kernel
theorem dJ7_fill_53178_13 : decode cJ7_fill_53178 13 = .ok (.iastore, 1) := by decide +kernel
theorem dJ7_fill_53178_14 : decode cJ7_fill_53178 14 = .ok (.iinc 2 1, 3) := by decide +kernel
theorem dJ7_fill_53178_17 : decode cJ7_fill_53178 17 = .ok (.goto (-12), 3) := by decide +kernel
theorem dJ7_fill_53178_20 : decode cJ7_fill_53178 20 = .ok (.return_, 1) := by decide +kernel
theorem dJ3_checkIndex_8e157_0 : decode cJ3_checkIndex_8e157 0 = .ok (.iload_n 0, 1) := by decide +kernel
theorem dJ3_checkIndex_8e157_1 : decode cJ3_checkIndex_8e157 1 = .ok (.ifCond .lt 8, 3) := by decide +kernel
theorem dJ3_checkIndex_8e157_4 : decode cJ3_checkIndex_8e157 4 = .ok (.iload_n 0, 1) := by decide +kernel
theorem dJ3_checkIndex_8e157_5 : decode cJ3_checkIndex_8e157 5 = .ok (.iload_n 1, 1) := by decide +kernel
theorem dJ3_checkIndex_8e157_6 : decode cJ3_checkIndex_8e157 6 = .ok (.if_icmp .lt 10, 3) := by decide +kernel
theorem dJ3_checkIndex_8e157_9 : decode cJ3_checkIndex_8e157 9 = .ok (.aload_n 2, 1) := by decide +kernel
theorem dJ3_checkIndex_8e157_10 : decode cJ3_checkIndex_8e157 10 = .ok (.iload_n 0, 1) := by decide +kernel
theorem dJ3_checkIndex_8e157_11 : decode cJ3_checkIndex_8e157 11 = .ok (.iload_n 1, 1) := by decide +kernel
theorem dJ3_checkIndex_8e157_12 : decode cJ3_checkIndex_8e157 12 = .ok (.invokestatic 95, 3) := by decide +kernel
theorem dJ3_checkIndex_8e157_15 : decode cJ3_checkIndex_8e157 15 = .ok (.athrow, 1) := by decide +kernel
theorem dJ3_checkIndex_8e157_16 : decode cJ3_checkIndex_8e157 16 = .ok (.iload_n 0, 1) := by decide +kernel
theorem dJ3_checkIndex_8e157_17 : decode cJ3_checkIndex_8e157 17 = .ok (.ireturn, 1) := by decide +kernel
theorem dJ3_checkFromToIndex_8c36e_0 : decode cJ3_checkFromToIndex_8c36e 0 = .ok (.iload_n 0, 1) := by decide +kernel
theorem dJ3_checkFromToIndex_8c36e_1 : decode cJ3_checkFromToIndex_8c36e 1 = .ok (.ifCond .lt 13, 3) := by decide +kernel
theorem dJ3_checkFromToIndex_8c36e_4 : decode cJ3_checkFromToIndex_8c36e 4 = .ok (.iload_n 0, 1) := by decide +kernel
theorem dJ3_checkFromToIndex_8c36e_5 : decode cJ3_checkFromToIndex_8c36e 5 = .ok (.iload_n 1, 1) := by decide +kernel
theorem dJ3_checkFromToIndex_8c36e_6 : decode cJ3_checkFromToIndex_8c36e 6 = .ok (.if_icmp .gt 8, 3) := by decide +kernel
theorem dJ3_checkFromToIndex_8c36e_9 : decode cJ3_checkFromToIndex_8c36e 9 = .ok (.iload_n 1, 1) := by decide +kernel
theorem dJ3_checkFromToIndex_8c36e_10 : decode cJ3_checkFromToIndex_8c36e 10 = .ok (.iload_n 2, 1) := by decide +kernel
theorem dJ3_checkFromToIndex_8c36e_11 : decode cJ3_checkFromToIndex_8c36e 11 = .ok (.if_icmp .le 11, 3) := by decide +kernel
theorem dJ3_checkFromToIndex_8c36e_14 : decode cJ3_checkFromToIndex_8c36e 14 = .ok (.aload_n 3, 1) := by decide +kernel
theorem dJ3_checkFromToIndex_8c36e_15 : decode cJ3_checkFromToIndex_8c36e 15 = .ok (.iload_n 0, 1) := by decide +kernel
theorem dJ3_checkFromToIndex_8c36e_16 : decode cJ3_checkFromToIndex_8c36e 16 = .ok (.iload_n 1, 1) := by decide +kernel
theorem dJ3_checkFromToIndex_8c36e_17 : decode cJ3_checkFromToIndex_8c36e 17 = .ok (.iload_n 2, 1) := by decide +kernel
theorem dJ3_checkFromToIndex_8c36e_18 : decode cJ3_checkFromToIndex_8c36e 18 = .ok (.invokestatic 99, 3) := by decide +kernel
theorem dJ3_checkFromToIndex_8c36e_21 : decode cJ3_checkFromToIndex_8c36e 21 = .ok (.athrow, 1) := by decide +kernel
theorem dJ3_checkFromToIndex_8c36e_22 : decode cJ3_checkFromToIndex_8c36e 22 = .ok (.iload_n 0, 1) := by decide +kernel
theorem dJ3_checkFromToIndex_8c36e_23 : decode cJ3_checkFromToIndex_8c36e 23 = .ok (.ireturn, 1) := by decide +kernel
theorem dL_addNode_0 : decode cL_addNode 0 = .ok (.aload 4, 2) := by decide +kernel
theorem dL_addNode_2 : decode cL_addNode 2 = .ok (.iconst 0, 1) := by decide +kernel
theorem dL_addNode_3 : decode cL_addNode 3 = .ok (.aload_n 0, 1) := by decide +kernel
theorem dL_addNode_4 : decode cL_addNode 4 = .ok (.iload_n 1, 1) := by decide +kernel
theorem dL_addNode_5 : decode cL_addNode 5 = .ok (.iload_n 2, 1) := by decide +kernel
theorem dL_addNode_6 : decode cL_addNode 6 = .ok (.iload_n 3, 1) := by decide +kernel
theorem dL_addNode_7 : decode cL_addNode 7 = .ok (.invokevirtual 7, 3) := by decide +kernel
theorem dL_addNode_10 : decode cL_addNode 10 = .ok (.i2l, 1) := by decide +kernel
theorem dL_addNode_11 : decode cL_addNode 11 = .ok (.lastore, 1) := by decide +kernel
theorem dL_addNode_12 : decode cL_addNode 12 = .ok (.goto 15, 3) := by decide +kernel
theorem dL_addNode_15 : decode cL_addNode 15 = .ok (.astore 5, 2) := by decide +kernel
theorem dL_addNode_17 : decode cL_addNode 17 = .ok (.iconst 1, 1) := by decide +kernel
theorem dL_addNode_18 : decode cL_addNode 18 = .ok (.ireturn, 1) := by decide +kernel
theorem dL_addNode_19 : decode cL_addNode 19 = .ok (.astore 5, 2) := by decide +kernel
theorem dL_addNode_21 : decode cL_addNode 21 = .ok (.iconst 2, 1) := by decide +kernel
theorem dL_addNode_22 : decode cL_addNode 22 = .ok (.ireturn, 1) := by decide +kernel
theorem dL_addNode_23 : decode cL_addNode 23 = .ok (.astore 5, 2) := by decide +kernel
theorem dL_addNode_25 : decode cL_addNode 25 = .ok (.iconst 3, 1) := by decide +kernel
theorem dL_addNode_26 : decode cL_addNode 26 = .ok (.ireturn, 1) := by decide +kernel
theorem dL_addNode_27 : decode cL_addNode 27 = .ok (.iconst 0, 1) := by decide +kernel
theorem dL_addNode_28 : decode cL_addNode 28 = .ok (.ireturn, 1) := by decide +kernel
theorem dL_removeNode_0 : decode cL_removeNode 0 = .ok (.aload_n 2, 1) := by decide +kernel
theorem dL_removeNode_1 : decode cL_removeNode 1 = .ok (.iconst 0, 1) := by decide +kernel
theorem dL_removeNode_2 : decode cL_removeNode 2 = .ok (.aload_n 0, 1) := by decide +kernel
theorem dL_removeNode_3 : decode cL_removeNode 3 = .ok (.iload_n 1, 1) := by decide +kernel
theorem dL_removeNode_4 : decode cL_removeNode 4 = .ok (.invokevirtual 19, 3) := by decide +kernel
theorem dL_removeNode_7 : decode cL_removeNode 7 = .ok (.i2l, 1) := by decide +kernel
theorem dL_removeNode_8 : decode cL_removeNode 8 = .ok (.lastore, 1) := by decide +kernel
theorem dL_removeNode_9 : decode cL_removeNode 9 = .ok (.goto 9, 3) := by decide +kernel
theorem dL_removeNode_12 : decode cL_removeNode 12 = .ok (.astore_n 3, 1) := by decide +kernel
theorem dL_removeNode_13 : decode cL_removeNode 13 = .ok (.iconst 1, 1) := by decide +kernel
theorem dL_removeNode_14 : decode cL_removeNode 14 = .ok (.ireturn, 1) := by decide +kernel
theorem dL_removeNode_15 : decode cL_removeNode 15 = .ok (.astore_n 3, 1) := by decide +kernel
theorem dL_removeNode_16 : decode cL_removeNode 16 = .ok (.iconst 2, 1) := by decide +kernel
theorem dL_removeNode_17 : decode cL_removeNode 17 = .ok (.ireturn, 1) := by decide +kernel
theorem dL_removeNode_18 : decode cL_removeNode 18 = .ok (.iconst 0, 1) := by decide +kernel
theorem dL_removeNode_19 : decode cL_removeNode 19 = .ok (.ireturn, 1) := by decide +kernel
theorem dL_moveNode_0 : decode cL_moveNode 0 = .ok (.aload_n 3, 1) := by decide +kernel
theorem dL_moveNode_1 : decode cL_moveNode 1 = .ok (.iconst 0, 1) := by decide +kernel
theorem dL_moveNode_2 : decode cL_moveNode 2 = .ok (.aload_n 0, 1) := by decide +kernel
theorem dL_moveNode_3 : decode cL_moveNode 3 = .ok (.iload_n 1, 1) := by decide +kernel
theorem dL_moveNode_4 : decode cL_moveNode 4 = .ok (.iload_n 2, 1) := by decide +kernel
theorem dL_moveNode_5 : decode cL_moveNode 5 = .ok (.invokevirtual 25, 3) := by decide +kernel
theorem dL_moveNode_8 : decode cL_moveNode 8 = .ok (.i2l, 1) := by decide +kernel
theorem dL_moveNode_9 : decode cL_moveNode 9 = .ok (.lastore, 1) := by decide +kernel
theorem dL_moveNode_10 : decode cL_moveNode 10 = .ok (.goto 11, 3) := by decide +kernel
theorem dL_moveNode_13 : decode cL_moveNode 13 = .ok (.astore 4, 2) := by decide +kernel
theorem dL_moveNode_15 : decode cL_moveNode 15 = .ok (.iconst 1, 1) := by decide +kernel
theorem dL_moveNode_16 : decode cL_moveNode 16 = .ok (.ireturn, 1) := by decide +kernel
theorem dL_moveNode_17 : decode cL_moveNode 17 = .ok (.astore 4, 2) := by decide +kernel
theorem dL_moveNode_19 : decode cL_moveNode 19 = .ok (.iconst 2, 1) := by decide +kernel
theorem dL_moveNode_20 : decode cL_moveNode 20 = .ok (.ireturn, 1) := by decide +kernel
theorem dL_moveNode_21 : decode cL_moveNode 21 = .ok (.iconst 0, 1) := by decide +kernel
theorem dL_moveNode_22 : decode cL_moveNode 22 = .ok (.ireturn, 1) := by decide +kernel
theorem dL_setNode_0 : decode cL_setNode 0 = .ok (.aload 4, 2) := by decide +kernel
theorem dL_setNode_2 : decode cL_setNode 2 = .ok (.iconst 0, 1) := by decide +kernel
theorem dL_setNode_3 : decode cL_setNode 3 = .ok (.aload_n 0, 1) := by decide +kernel
theorem dL_setNode_4 : decode cL_setNode 4 = .ok (.iload_n 1, 1) := by decide +kernel
theorem dL_setNode_5 : decode cL_setNode 5 = .ok (.iload_n 2, 1) := by decide +kernel
theorem dL_setNode_6 : decode cL_setNode 6 = .ok (.iload_n 3, 1) := by decide +kernel
theorem dL_setNode_7 : decode cL_setNode 7 = .ok (.invokevirtual 29, 3) := by decide +kernel
theorem dL_setNode_10 : decode cL_setNode 10 = .ok (.i2l, 1) := by decide +kernel
theorem dL_setNode_11 : decode cL_setNode 11 = .ok (.lastore, 1) := by decide +kernel
theorem dL_setNode_12 : decode cL_setNode 12 = .ok (.goto 11, 3) := by decide +kernel
theorem dL_setNode_15 : decode cL_setNode 15 = .ok (.astore 5, 2) := by decide +kernel
theorem dL_setNode_17 : decode cL_setNode 17 = .ok (.iconst 1, 1) := by decide +kernel
theorem dL_setNode_18 : decode cL_setNode 18 = .ok (.ireturn, 1) := by decide +kernel
theorem dL_setNode_19 : decode cL_setNode 19 = .ok (.astore 5, 2) := by decide +kernel
theorem dL_setNode_21 : decode cL_setNode 21 = .ok (.iconst 2, 1) := by decide +kernel
theorem dL_setNode_22 : decode cL_setNode 22 = .ok (.ireturn, 1) := by decide +kernel
theorem dL_setNode_23 : decode cL_setNode 23 = .ok (.iconst 0, 1) := by decide +kernel
theorem dL_setNode_24 : decode cL_setNode 24 = .ok (.ireturn, 1) := by decide +kernel
theorem dL_node_0 : decode cL_node 0 = .ok (.aload_n 3, 1) := by decide +kernel
theorem dL_node_1 : decode cL_node 1 = .ok (.iconst 0, 1) := by decide +kernel
theorem dL_node_2 : decode cL_node 2 = .ok (.aload_n 0, 1) := by decide +kernel
theorem dL_node_3 : decode cL_node 3 = .ok (.iload_n 1, 1) := by decide +kernel
theorem dL_node_4 : decode cL_node 4 = .ok (.iload_n 2, 1) := by decide +kernel
theorem dL_node_5 : decode cL_node 5 = .ok (.invokevirtual 32, 3) := by decide +kernel
theorem dL_node_8 : decode cL_node 8 = .ok (.i2l, 1) := by decide +kernel
theorem dL_node_9 : decode cL_node 9 = .ok (.lastore, 1) := by decide +kernel
theorem dL_node_10 : decode cL_node 10 = .ok (.goto 11, 3) := by decide +kernel
theorem dL_node_13 : decode cL_node 13 = .ok (.astore 4, 2) := by decide +kernel
theorem dL_node_15 : decode cL_node 15 = .ok (.iconst 1, 1) := by decide +kernel
theorem dL_node_16 : decode cL_node 16 = .ok (.ireturn, 1) := by decide +kernel
theorem dL_node_17 : decode cL_node 17 = .ok (.astore 4, 2) := by decide +kernel
theorem dL_node_19 : decode cL_node 19 = .ok (.iconst 2, 1) := by decide +kernel
theorem dL_node_20 : decode cL_node 20 = .ok (.ireturn, 1) := by decide +kernel
theorem dL_node_21 : decode cL_node 21 = .ok (.iconst 0, 1) := by decide +kernel
theorem dL_node_22 : decode cL_node 22 = .ok (.ireturn, 1) := by decide +kernel
theorem dL_axis_0 : decode cL_axis 0 = .ok (.aload 4, 2) := by decide +kernel
theorem dL_axis_2 : decode cL_axis 2 = .ok (.iconst 0, 1) := by decide +kernel
theorem dL_axis_3 : decode cL_axis 3 = .ok (.aload_n 0, 1) := by decide +kernel
theorem dL_axis_4 : decode cL_axis 4 = .ok (.iload_n 1, 1) := by decide +kernel
theorem dL_axis_5 : decode cL_axis 5 = .ok (.iload_n 2, 1) := by decide +kernel
theorem dL_axis_6 : decode cL_axis 6 = .ok (.iload_n 3, 1) := by decide +kernel
theorem dL_axis_7 : decode cL_axis 7 = .ok (.invokevirtual 35, 3) := by decide +kernel
theorem dL_axis_10 : decode cL_axis 10 = .ok (.i2l, 1) := by decide +kernel
theorem dL_axis_11 : decode cL_axis 11 = .ok (.lastore, 1) := by decide +kernel
theorem dL_axis_12 : decode cL_axis 12 = .ok (.goto 11, 3) := by decide +kernel
theorem dL_axis_15 : decode cL_axis 15 = .ok (.astore 5, 2) := by decide +kernel
theorem dL_axis_17 : decode cL_axis 17 = .ok (.iconst 1, 1) := by decide +kernel
theorem dL_axis_18 : decode cL_axis 18 = .ok (.ireturn, 1) := by decide +kernel
theorem dL_axis_19 : decode cL_axis 19 = .ok (.astore 5, 2) := by decide +kernel
theorem dL_axis_21 : decode cL_axis 21 = .ok (.iconst 2, 1) := by decide +kernel
theorem dL_axis_22 : decode cL_axis 22 = .ok (.ireturn, 1) := by decide +kernel
theorem dL_axis_23 : decode cL_axis 23 = .ok (.iconst 0, 1) := by decide +kernel
theorem dL_axis_24 : decode cL_axis 24 = .ok (.ireturn, 1) := by decide +kernel
theorem dL_type_0 : decode cL_type 0 = .ok (.aload_n 2, 1) := by decide +kernel
theorem dL_type_1 : decode cL_type 1 = .ok (.iconst 0, 1) := by decide +kernel
theorem dL_type_2 : decode cL_type 2 = .ok (.aload_n 0, 1) := by decide +kernel
theorem dL_type_3 : decode cL_type 3 = .ok (.iload_n 1, 1) := by decide +kernel
theorem dL_type_4 : decode cL_type 4 = .ok (.invokevirtual 38, 3) := by decide +kernel
theorem dL_type_7 : decode cL_type 7 = .ok (.i2l, 1) := by decide +kernel
theorem dL_type_8 : decode cL_type 8 = .ok (.lastore, 1) := by decide +kernel
theorem dL_type_9 : decode cL_type 9 = .ok (.goto 9, 3) := by decide +kernel
theorem dL_type_12 : decode cL_type 12 = .ok (.astore_n 3, 1) := by decide +kernel
theorem dL_type_13 : decode cL_type 13 = .ok (.iconst 1, 1) := by decide +kernel
theorem dL_type_14 : decode cL_type 14 = .ok (.ireturn, 1) := by decide +kernel
theorem dL_type_15 : decode cL_type 15 = .ok (.astore_n 3, 1) := by decide +kernel
theorem dL_type_16 : decode cL_type 16 = .ok (.iconst 2, 1) := by decide +kernel
theorem dL_type_17 : decode cL_type 17 = .ok (.ireturn, 1) := by decide +kernel
theorem dL_type_18 : decode cL_type 18 = .ok (.iconst 0, 1) := by decide +kernel
theorem dL_type_19 : decode cL_type 19 = .ok (.ireturn, 1) := by decide +kernel
theorem dL_read_0 : decode cL_read 0 = .ok (.aload_n 2, 1) := by decide +kernel
theorem dL_read_1 : decode cL_read 1 = .ok (.iconst 0, 1) := by decide +kernel
theorem dL_read_2 : decode cL_read 2 = .ok (.aload_n 0, 1) := by decide +kernel
theorem dL_read_3 : decode cL_read 3 = .ok (.iload_n 1, 1) := by decide +kernel
theorem dL_read_4 : decode cL_read 4 = .ok (.invokevirtual 41, 3) := by decide +kernel
theorem dL_read_7 : decode cL_read 7 = .ok (.i2l, 1) := by decide +kernel
theorem dL_read_8 : decode cL_read 8 = .ok (.lastore, 1) := by decide +kernel
theorem dL_read_9 : decode cL_read 9 = .ok (.goto 6, 3) := by decide +kernel
theorem dL_read_12 : decode cL_read 12 = .ok (.astore_n 3, 1) := by decide +kernel
theorem dL_read_13 : decode cL_read 13 = .ok (.iconst 1, 1) := by decide +kernel
theorem dL_read_14 : decode cL_read 14 = .ok (.ireturn, 1) := by decide +kernel
theorem dL_read_15 : decode cL_read 15 = .ok (.iconst 0, 1) := by decide +kernel
theorem dL_read_16 : decode cL_read 16 = .ok (.ireturn, 1) := by decide +kernel
theorem dL_written_0 : decode cL_written 0 = .ok (.aload_n 3, 1) := by decide +kernel
theorem dL_written_1 : decode cL_written 1 = .ok (.iconst 0, 1) := by decide +kernel
theorem dL_written_2 : decode cL_written 2 = .ok (.aload_n 0, 1) := by decide +kernel
theorem dL_written_3 : decode cL_written 3 = .ok (.iload_n 1, 1) := by decide +kernel
theorem dL_written_4 : decode cL_written 4 = .ok (.iload_n 2, 1) := by decide +kernel
theorem dL_written_5 : decode cL_written 5 = .ok (.invokevirtual 44, 3) := by decide +kernel
theorem dL_written_8 : decode cL_written 8 = .ok (.i2l, 1) := by decide +kernel
theorem dL_written_9 : decode cL_written 9 = .ok (.lastore, 1) := by decide +kernel
theorem dL_written_10 : decode cL_written 10 = .ok (.goto 15, 3) := by decide +kernel
theorem dL_written_13 : decode cL_written 13 = .ok (.astore 4, 2) := by decide +kernel
theorem dL_written_15 : decode cL_written 15 = .ok (.iconst 1, 1) := by decide +kernel
theorem dL_written_16 : decode cL_written 16 = .ok (.ireturn, 1) := by decide +kernel
theorem dL_written_17 : decode cL_written 17 = .ok (.astore 4, 2) := by decide +kernel
theorem dL_written_19 : decode cL_written 19 = .ok (.iconst 2, 1) := by decide +kernel
theorem dL_written_20 : decode cL_written 20 = .ok (.ireturn, 1) := by decide +kernel
theorem dL_written_21 : decode cL_written 21 = .ok (.astore 4, 2) := by decide +kernel
theorem dL_written_23 : decode cL_written 23 = .ok (.iconst 3, 1) := by decide +kernel
theorem dL_written_24 : decode cL_written 24 = .ok (.ireturn, 1) := by decide +kernel
theorem dL_written_25 : decode cL_written 25 = .ok (.iconst 0, 1) := by decide +kernel
theorem dL_written_26 : decode cL_written 26 = .ok (.ireturn, 1) := by decide +kernel
theorem dL_size_0 : decode cL_size 0 = .ok (.aload_n 3, 1) := by decide +kernel
theorem dL_size_1 : decode cL_size 1 = .ok (.iconst 0, 1) := by decide +kernel
theorem dL_size_2 : decode cL_size 2 = .ok (.aload_n 0, 1) := by decide +kernel
theorem dL_size_3 : decode cL_size 3 = .ok (.iload_n 1, 1) := by decide +kernel
theorem dL_size_4 : decode cL_size 4 = .ok (.iload_n 2, 1) := by decide +kernel
theorem dL_size_5 : decode cL_size 5 = .ok (.invokevirtual 47, 3) := by decide +kernel
theorem dL_size_8 : decode cL_size 8 = .ok (.i2l, 1) := by decide +kernel
theorem dL_size_9 : decode cL_size 9 = .ok (.lastore, 1) := by decide +kernel
theorem dL_size_10 : decode cL_size 10 = .ok (.goto 15, 3) := by decide +kernel
theorem dL_size_13 : decode cL_size 13 = .ok (.astore 4, 2) := by decide +kernel
theorem dL_size_15 : decode cL_size 15 = .ok (.iconst 1, 1) := by decide +kernel
theorem dL_size_16 : decode cL_size 16 = .ok (.ireturn, 1) := by decide +kernel
theorem dL_size_17 : decode cL_size 17 = .ok (.astore 4, 2) := by decide +kernel
theorem dL_size_19 : decode cL_size 19 = .ok (.iconst 2, 1) := by decide +kernel
theorem dL_size_20 : decode cL_size 20 = .ok (.ireturn, 1) := by decide +kernel
theorem dL_size_21 : decode cL_size 21 = .ok (.astore 4, 2) := by decide +kernel
theorem dL_size_23 : decode cL_size 23 = .ok (.iconst 3, 1) := by decide +kernel
theorem dL_size_24 : decode cL_size 24 = .ok (.ireturn, 1) := by decide +kernel
theorem dL_size_25 : decode cL_size 25 = .ok (.iconst 0, 1) := by decide +kernel
theorem dL_size_26 : decode cL_size 26 = .ok (.ireturn, 1) := by decide +kernel
theorem dL_unite_0 : decode cL_unite 0 = .ok (.aload 4, 2) := by decide +kernel
theorem dL_unite_2 : decode cL_unite 2 = .ok (.iconst 0, 1) := by decide +kernel
theorem dL_unite_3 : decode cL_unite 3 = .ok (.aload_n 0, 1) := by decide +kernel
theorem dL_unite_4 : decode cL_unite 4 = .ok (.iload_n 1, 1) := by decide +kernel
theorem dL_unite_5 : decode cL_unite 5 = .ok (.iload_n 2, 1) := by decide +kernel
theorem dL_unite_6 : decode cL_unite 6 = .ok (.iload_n 3, 1) := by decide +kernel
theorem dL_unite_7 : decode cL_unite 7 = .ok (.invokevirtual 50, 3) := by decide +kernel
theorem dL_unite_10 : decode cL_unite 10 = .ok (.i2l, 1) := by decide +kernel
theorem dL_unite_11 : decode cL_unite 11 = .ok (.lastore, 1) := by decide +kernel
theorem dL_unite_12 : decode cL_unite 12 = .ok (.goto 11, 3) := by decide +kernel
theorem dL_unite_15 : decode cL_unite 15 = .ok (.astore 5, 2) := by decide +kernel
theorem dL_unite_17 : decode cL_unite 17 = .ok (.iconst 1, 1) := by decide +kernel
theorem dL_unite_18 : decode cL_unite 18 = .ok (.ireturn, 1) := by decide +kernel
theorem dL_unite_19 : decode cL_unite 19 = .ok (.astore 5, 2) := by decide +kernel
theorem dL_unite_21 : decode cL_unite 21 = .ok (.iconst 2, 1) := by decide +kernel
theorem dL_unite_22 : decode cL_unite 22 = .ok (.ireturn, 1) := by decide +kernel
theorem dL_unite_23 : decode cL_unite 23 = .ok (.iconst 0, 1) := by decide +kernel
theorem dL_unite_24 : decode cL_unite 24 = .ok (.ireturn, 1) := by decide +kernel
theorem dL_drop_0 : decode cL_drop 0 = .ok (.aload_n 2, 1) := by decide +kernel
theorem dL_drop_1 : decode cL_drop 1 = .ok (.iconst 0, 1) := by decide +kernel
theorem dL_drop_2 : decode cL_drop 2 = .ok (.aload_n 0, 1) := by decide +kernel
theorem dL_drop_3 : decode cL_drop 3 = .ok (.iload_n 1, 1) := by decide +kernel
theorem dL_drop_4 : decode cL_drop 4 = .ok (.invokevirtual 53, 3) := by decide +kernel
theorem dL_drop_7 : decode cL_drop 7 = .ok (.i2l, 1) := by decide +kernel
theorem dL_drop_8 : decode cL_drop 8 = .ok (.lastore, 1) := by decide +kernel
theorem dL_drop_9 : decode cL_drop 9 = .ok (.goto 6, 3) := by decide +kernel
theorem dL_drop_12 : decode cL_drop 12 = .ok (.astore_n 3, 1) := by decide +kernel
theorem dL_drop_13 : decode cL_drop 13 = .ok (.iconst 1, 1) := by decide +kernel
theorem dL_drop_14 : decode cL_drop 14 = .ok (.ireturn, 1) := by decide +kernel
theorem dL_drop_15 : decode cL_drop 15 = .ok (.iconst 0, 1) := by decide +kernel
theorem dL_drop_16 : decode cL_drop 16 = .ok (.ireturn, 1) := by decide +kernel
theorem dL_count_0 : decode cL_count 0 = .ok (.aload_n 3, 1) := by decide +kernel
theorem dL_count_1 : decode cL_count 1 = .ok (.iconst 0, 1) := by decide +kernel
theorem dL_count_2 : decode cL_count 2 = .ok (.aload_n 0, 1) := by decide +kernel
