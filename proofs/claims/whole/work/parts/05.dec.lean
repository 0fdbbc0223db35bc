theorem dX12_moveNode_29 : decode cX12_moveNode 29 = .ok (.ifCond .eq 5, 3) := by decide +kernel
theorem dX12_moveNode_32 : decode cX12_moveNode 32 = .ok (.iconst 0, 1) := by decide +kernel
theorem dX12_moveNode_33 : decode cX12_moveNode 33 = .ok (.ireturn, 1) := by decide +kernel
theorem dX12_moveNode_34 : decode cX12_moveNode 34 = .ok (.aload_n 0, 1) := by decide +kernel
theorem dX12_moveNode_35 : decode cX12_moveNode 35 = .ok (.iload_n 1, 1) := by decide +kernel
theorem dX12_moveNode_36 : decode cX12_moveNode 36 = .ok (.invokevirtual 88, 3) := by decide +kernel
theorem dX12_moveNode_39 : decode cX12_moveNode 39 = .ok (.iload_n 1, 1) := by decide +kernel
theorem dX12_moveNode_40 : decode cX12_moveNode 40 = .ok (.isub, 1) := by decide +kernel
theorem dX12_moveNode_41 : decode cX12_moveNode 41 = .ok (.istore_n 3, 1) := by decide +kernel
theorem dX12_moveNode_42 : decode cX12_moveNode 42 = .ok (.iload_n 2, 1) := by decide +kernel
theorem dX12_moveNode_43 : decode cX12_moveNode 43 = .ok (.iload_n 1, 1) := by decide +kernel
theorem dX12_moveNode_44 : decode cX12_moveNode 44 = .ok (.iload_n 1, 1) := by decide +kernel
theorem dX12_moveNode_45 : decode cX12_moveNode 45 = .ok (.iload_n 3, 1) := by decide +kernel
theorem dX12_moveNode_46 : decode cX12_moveNode 46 = .ok (.iadd, 1) := by decide +kernel
theorem dX12_moveNode_47 : decode cX12_moveNode 47 = .ok (.iconst 1, 1) := by decide +kernel
theorem dX12_moveNode_48 : decode cX12_moveNode 48 = .ok (.isub, 1) := by decide +kernel
theorem dX12_moveNode_49 : decode cX12_moveNode 49 = .ok (.invokestatic 69, 3) := by decide +kernel
theorem dX12_moveNode_52 : decode cX12_moveNode 52 = .ok (.ifCond .eq 9, 3) := by decide +kernel
theorem dX12_moveNode_55 : decode cX12_moveNode 55 = .ok (.aload_n 0, 1) := by decide +kernel
theorem dX12_moveNode_56 : decode cX12_moveNode 56 = .ok (.iconst 2, 1) := by decide +kernel
theorem dX12_moveNode_57 : decode cX12_moveNode 57 = .ok (.invokevirtual 102, 3) := by decide +kernel
theorem dX12_moveNode_60 : decode cX12_moveNode 60 = .ok (.ireturn, 1) := by decide +kernel
theorem dX12_moveNode_61 : decode cX12_moveNode 61 = .ok (.aload_n 0, 1) := by decide +kernel
theorem dX12_moveNode_62 : decode cX12_moveNode 62 = .ok (.invokevirtual 85, 3) := by decide +kernel
theorem dX12_moveNode_65 : decode cX12_moveNode 65 = .ok (.iconst 0, 1) := by decide +kernel
theorem dX12_moveNode_66 : decode cX12_moveNode 66 = .ok (.istore 4, 2) := by decide +kernel
theorem dX12_moveNode_68 : decode cX12_moveNode 68 = .ok (.iload 4, 2) := by decide +kernel
theorem dX12_moveNode_70 : decode cX12_moveNode 70 = .ok (.iconst 3, 1) := by decide +kernel
theorem dX12_moveNode_71 : decode cX12_moveNode 71 = .ok (.iload_n 3, 1) := by decide +kernel
theorem dX12_moveNode_72 : decode cX12_moveNode 72 = .ok (.imul, 1) := by decide +kernel
theorem dX12_moveNode_73 : decode cX12_moveNode 73 = .ok (.if_icmp .ge 29, 3) := by decide +kernel
theorem dX12_moveNode_76 : decode cX12_moveNode 76 = .ok (.aload_n 0, 1) := by decide +kernel
theorem dX12_moveNode_77 : decode cX12_moveNode 77 = .ok (.getfield 19, 3) := by decide +kernel
theorem dX12_moveNode_80 : decode cX12_moveNode 80 = .ok (.iload 4, 2) := by decide +kernel
theorem dX12_moveNode_82 : decode cX12_moveNode 82 = .ok (.aload_n 0, 1) := by decide +kernel
theorem dX12_moveNode_83 : decode cX12_moveNode 83 = .ok (.getfield 7, 3) := by decide +kernel
theorem dX12_moveNode_86 : decode cX12_moveNode 86 = .ok (.iconst 1, 1) := by decide +kernel
theorem dX12_moveNode_87 : decode cX12_moveNode 87 = .ok (.iconst 3, 1) := by decide +kernel
theorem dX12_moveNode_88 : decode cX12_moveNode 88 = .ok (.iload_n 1, 1) := by decide +kernel
theorem dX12_moveNode_89 : decode cX12_moveNode 89 = .ok (.imul, 1) := by decide +kernel
theorem dX12_moveNode_90 : decode cX12_moveNode 90 = .ok (.iadd, 1) := by decide +kernel
theorem dX12_moveNode_91 : decode cX12_moveNode 91 = .ok (.iload 4, 2) := by decide +kernel
theorem dX12_moveNode_93 : decode cX12_moveNode 93 = .ok (.iadd, 1) := by decide +kernel
theorem dX12_moveNode_94 : decode cX12_moveNode 94 = .ok (.iaload, 1) := by decide +kernel
theorem dX12_moveNode_95 : decode cX12_moveNode 95 = .ok (.iastore, 1) := by decide +kernel
theorem dX12_moveNode_96 : decode cX12_moveNode 96 = .ok (.iinc 4 1, 3) := by decide +kernel
theorem dX12_moveNode_99 : decode cX12_moveNode 99 = .ok (.goto (-31), 3) := by decide +kernel
theorem dX12_moveNode_102 : decode cX12_moveNode 102 = .ok (.aload_n 0, 1) := by decide +kernel
theorem dX12_moveNode_103 : decode cX12_moveNode 103 = .ok (.iload_n 1, 1) := by decide +kernel
theorem dX12_moveNode_104 : decode cX12_moveNode 104 = .ok (.iload_n 3, 1) := by decide +kernel
theorem dX12_moveNode_105 : decode cX12_moveNode 105 = .ok (.invokevirtual 99, 3) := by decide +kernel
theorem dX12_moveNode_108 : decode cX12_moveNode 108 = .ok (.iload_n 2, 1) := by decide +kernel
theorem dX12_moveNode_109 : decode cX12_moveNode 109 = .ok (.iload_n 1, 1) := by decide +kernel
theorem dX12_moveNode_110 : decode cX12_moveNode 110 = .ok (.if_icmp .le 9, 3) := by decide +kernel
theorem dX12_moveNode_113 : decode cX12_moveNode 113 = .ok (.iload_n 2, 1) := by decide +kernel
theorem dX12_moveNode_114 : decode cX12_moveNode 114 = .ok (.iload_n 3, 1) := by decide +kernel
theorem dX12_moveNode_115 : decode cX12_moveNode 115 = .ok (.isub, 1) := by decide +kernel
theorem dX12_moveNode_116 : decode cX12_moveNode 116 = .ok (.goto 4, 3) := by decide +kernel
theorem dX12_moveNode_119 : decode cX12_moveNode 119 = .ok (.iload_n 2, 1) := by decide +kernel
theorem dX12_moveNode_120 : decode cX12_moveNode 120 = .ok (.istore 4, 2) := by decide +kernel
theorem dX12_moveNode_122 : decode cX12_moveNode 122 = .ok (.aload_n 0, 1) := by decide +kernel
theorem dX12_moveNode_123 : decode cX12_moveNode 123 = .ok (.iload 4, 2) := by decide +kernel
theorem dX12_moveNode_125 : decode cX12_moveNode 125 = .ok (.invokevirtual 88, 3) := by decide +kernel
theorem dX12_moveNode_128 : decode cX12_moveNode 128 = .ok (.istore 5, 2) := by decide +kernel
theorem dX12_moveNode_130 : decode cX12_moveNode 130 = .ok (.aload_n 0, 1) := by decide +kernel
theorem dX12_moveNode_131 : decode cX12_moveNode 131 = .ok (.iload 5, 2) := by decide +kernel
theorem dX12_moveNode_133 : decode cX12_moveNode 133 = .ok (.iload_n 3, 1) := by decide +kernel
theorem dX12_moveNode_134 : decode cX12_moveNode 134 = .ok (.invokevirtual 91, 3) := by decide +kernel
theorem dX12_moveNode_137 : decode cX12_moveNode 137 = .ok (.iconst 0, 1) := by decide +kernel
theorem dX12_moveNode_138 : decode cX12_moveNode 138 = .ok (.istore 6, 2) := by decide +kernel
theorem dX12_moveNode_140 : decode cX12_moveNode 140 = .ok (.iload 6, 2) := by decide +kernel
theorem dX12_moveNode_142 : decode cX12_moveNode 142 = .ok (.iload_n 3, 1) := by decide +kernel
theorem dX12_moveNode_143 : decode cX12_moveNode 143 = .ok (.if_icmp .ge 64, 3) := by decide +kernel
theorem dX12_moveNode_146 : decode cX12_moveNode 146 = .ok (.aload_n 0, 1) := by decide +kernel
theorem dX12_moveNode_147 : decode cX12_moveNode 147 = .ok (.iload 5, 2) := by decide +kernel
theorem dX12_moveNode_149 : decode cX12_moveNode 149 = .ok (.iload 6, 2) := by decide +kernel
theorem dX12_moveNode_151 : decode cX12_moveNode 151 = .ok (.iadd, 1) := by decide +kernel
theorem dX12_moveNode_152 : decode cX12_moveNode 152 = .ok (.aload_n 0, 1) := by decide +kernel
theorem dX12_moveNode_153 : decode cX12_moveNode 153 = .ok (.getfield 19, 3) := by decide +kernel
theorem dX12_moveNode_156 : decode cX12_moveNode 156 = .ok (.iconst 3, 1) := by decide +kernel
theorem dX12_moveNode_157 : decode cX12_moveNode 157 = .ok (.iload 6, 2) := by decide +kernel
theorem dX12_moveNode_159 : decode cX12_moveNode 159 = .ok (.imul, 1) := by decide +kernel
theorem dX12_moveNode_160 : decode cX12_moveNode 160 = .ok (.iaload, 1) := by decide +kernel
theorem dX12_moveNode_161 : decode cX12_moveNode 161 = .ok (.aload_n 0, 1) := by decide +kernel
theorem dX12_moveNode_162 : decode cX12_moveNode 162 = .ok (.getfield 19, 3) := by decide +kernel
theorem dX12_moveNode_165 : decode cX12_moveNode 165 = .ok (.iconst 3, 1) := by decide +kernel
theorem dX12_moveNode_166 : decode cX12_moveNode 166 = .ok (.iload 6, 2) := by decide +kernel
theorem dX12_moveNode_168 : decode cX12_moveNode 168 = .ok (.imul, 1) := by decide +kernel
theorem dX12_moveNode_169 : decode cX12_moveNode 169 = .ok (.iconst 1, 1) := by decide +kernel
theorem dX12_moveNode_170 : decode cX12_moveNode 170 = .ok (.iadd, 1) := by decide +kernel
theorem dX12_moveNode_171 : decode cX12_moveNode 171 = .ok (.iaload, 1) := by decide +kernel
theorem dX12_moveNode_172 : decode cX12_moveNode 172 = .ok (.iload 6, 2) := by decide +kernel
theorem dX12_moveNode_174 : decode cX12_moveNode 174 = .ok (.ifCond .ne 8, 3) := by decide +kernel
theorem dX12_moveNode_177 : decode cX12_moveNode 177 = .ok (.iload 4, 2) := by decide +kernel
theorem dX12_moveNode_179 : decode cX12_moveNode 179 = .ok (.goto 19, 3) := by decide +kernel
theorem dX12_moveNode_182 : decode cX12_moveNode 182 = .ok (.aload_n 0, 1) := by decide +kernel
theorem dX12_moveNode_183 : decode cX12_moveNode 183 = .ok (.getfield 19, 3) := by decide +kernel
theorem dX12_moveNode_186 : decode cX12_moveNode 186 = .ok (.iconst 3, 1) := by decide +kernel
theorem dX12_moveNode_187 : decode cX12_moveNode 187 = .ok (.iload 6, 2) := by decide +kernel
theorem dX12_moveNode_189 : decode cX12_moveNode 189 = .ok (.imul, 1) := by decide +kernel
theorem dX12_moveNode_190 : decode cX12_moveNode 190 = .ok (.iconst 2, 1) := by decide +kernel
theorem dX12_moveNode_191 : decode cX12_moveNode 191 = .ok (.iadd, 1) := by decide +kernel
theorem dX12_moveNode_192 : decode cX12_moveNode 192 = .ok (.iaload, 1) := by decide +kernel
theorem dX12_moveNode_193 : decode cX12_moveNode 193 = .ok (.iload_n 1, 1) := by decide +kernel
theorem dX12_moveNode_194 : decode cX12_moveNode 194 = .ok (.isub, 1) := by decide +kernel
theorem dX12_moveNode_195 : decode cX12_moveNode 195 = .ok (.iload 5, 2) := by decide +kernel
theorem dX12_moveNode_197 : decode cX12_moveNode 197 = .ok (.iadd, 1) := by decide +kernel
theorem dX12_moveNode_198 : decode cX12_moveNode 198 = .ok (.invokevirtual 95, 3) := by decide +kernel
theorem dX12_moveNode_201 : decode cX12_moveNode 201 = .ok (.iinc 6 1, 3) := by decide +kernel
theorem dX12_moveNode_204 : decode cX12_moveNode 204 = .ok (.goto (-64), 3) := by decide +kernel
theorem dX12_moveNode_207 : decode cX12_moveNode 207 = .ok (.iload 5, 2) := by decide +kernel
theorem dX12_moveNode_209 : decode cX12_moveNode 209 = .ok (.ireturn, 1) := by decide +kernel
theorem dX12_setNode_0 : decode cX12_setNode 0 = .ok (.aload_n 0, 1) := by decide +kernel
theorem dX12_setNode_1 : decode cX12_setNode 1 = .ok (.aload_n 0, 1) := by decide +kernel
theorem dX12_setNode_2 : decode cX12_setNode 2 = .ok (.iload_n 1, 1) := by decide +kernel
theorem dX12_setNode_3 : decode cX12_setNode 3 = .ok (.invokevirtual 77, 3) := by decide +kernel
theorem dX12_setNode_6 : decode cX12_setNode 6 = .ok (.ifCond .ne 7, 3) := by decide +kernel
theorem dX12_setNode_9 : decode cX12_setNode 9 = .ok (.iconst 1, 1) := by decide +kernel
theorem dX12_setNode_10 : decode cX12_setNode 10 = .ok (.goto 16, 3) := by decide +kernel
theorem dX12_setNode_13 : decode cX12_setNode 13 = .ok (.iload_n 2, 1) := by decide +kernel
theorem dX12_setNode_14 : decode cX12_setNode 14 = .ok (.iload_n 3, 1) := by decide +kernel
theorem dX12_setNode_15 : decode cX12_setNode 15 = .ok (.invokestatic 81, 3) := by decide +kernel
theorem dX12_setNode_18 : decode cX12_setNode 18 = .ok (.ifCond .ne 7, 3) := by decide +kernel
theorem dX12_setNode_21 : decode cX12_setNode 21 = .ok (.iconst 2, 1) := by decide +kernel
theorem dX12_setNode_22 : decode cX12_setNode 22 = .ok (.goto 4, 3) := by decide +kernel
theorem dX12_setNode_25 : decode cX12_setNode 25 = .ok (.iconst 0, 1) := by decide +kernel
theorem dX12_setNode_26 : decode cX12_setNode 26 = .ok (.putfield 62, 3) := by decide +kernel
theorem dX12_setNode_29 : decode cX12_setNode 29 = .ok (.aload_n 0, 1) := by decide +kernel
theorem dX12_setNode_30 : decode cX12_setNode 30 = .ok (.getfield 62, 3) := by decide +kernel
theorem dX12_setNode_33 : decode cX12_setNode 33 = .ok (.ifCond .eq 5, 3) := by decide +kernel
theorem dX12_setNode_36 : decode cX12_setNode 36 = .ok (.iconst 0, 1) := by decide +kernel
theorem dX12_setNode_37 : decode cX12_setNode 37 = .ok (.ireturn, 1) := by decide +kernel
theorem dX12_setNode_38 : decode cX12_setNode 38 = .ok (.aload_n 0, 1) := by decide +kernel
theorem dX12_setNode_39 : decode cX12_setNode 39 = .ok (.invokevirtual 85, 3) := by decide +kernel
theorem dX12_setNode_42 : decode cX12_setNode 42 = .ok (.bipush 10, 2) := by decide +kernel
theorem dX12_setNode_44 : decode cX12_setNode 44 = .ok (.aload_n 0, 1) := by decide +kernel
theorem dX12_setNode_45 : decode cX12_setNode 45 = .ok (.iload_n 1, 1) := by decide +kernel
theorem dX12_setNode_46 : decode cX12_setNode 46 = .ok (.invokevirtual 105, 3) := by decide +kernel
theorem dX12_setNode_49 : decode cX12_setNode 49 = .ok (.imul, 1) := by decide +kernel
theorem dX12_setNode_50 : decode cX12_setNode 50 = .ok (.aload_n 0, 1) := by decide +kernel
theorem dX12_setNode_51 : decode cX12_setNode 51 = .ok (.iload_n 1, 1) := by decide +kernel
theorem dX12_setNode_52 : decode cX12_setNode 52 = .ok (.invokevirtual 108, 3) := by decide +kernel
theorem dX12_setNode_55 : decode cX12_setNode 55 = .ok (.iadd, 1) := by decide +kernel
theorem dX12_setNode_56 : decode cX12_setNode 56 = .ok (.istore 4, 2) := by decide +kernel
theorem dX12_setNode_58 : decode cX12_setNode 58 = .ok (.aload_n 0, 1) := by decide +kernel
theorem dX12_setNode_59 : decode cX12_setNode 59 = .ok (.iload_n 1, 1) := by decide +kernel
theorem dX12_setNode_60 : decode cX12_setNode 60 = .ok (.iload_n 2, 1) := by decide +kernel
theorem dX12_setNode_61 : decode cX12_setNode 61 = .ok (.iload_n 3, 1) := by decide +kernel
theorem dX12_setNode_62 : decode cX12_setNode 62 = .ok (.aload_n 0, 1) := by decide +kernel
theorem dX12_setNode_63 : decode cX12_setNode 63 = .ok (.iload_n 1, 1) := by decide +kernel
theorem dX12_setNode_64 : decode cX12_setNode 64 = .ok (.invokevirtual 73, 3) := by decide +kernel
theorem dX12_setNode_67 : decode cX12_setNode 67 = .ok (.invokevirtual 95, 3) := by decide +kernel
theorem dX12_setNode_70 : decode cX12_setNode 70 = .ok (.iload 4, 2) := by decide +kernel
theorem dX12_setNode_72 : decode cX12_setNode 72 = .ok (.ireturn, 1) := by decide +kernel
theorem dX12_nodes_0 : decode cX12_nodes 0 = .ok (.aload_n 0, 1) := by decide +kernel
theorem dX12_nodes_1 : decode cX12_nodes 1 = .ok (.iconst 0, 1) := by decide +kernel
theorem dX12_nodes_2 : decode cX12_nodes 2 = .ok (.putfield 62, 3) := by decide +kernel
theorem dX12_nodes_5 : decode cX12_nodes 5 = .ok (.aload_n 0, 1) := by decide +kernel
theorem dX12_nodes_6 : decode cX12_nodes 6 = .ok (.getfield 7, 3) := by decide +kernel
theorem dX12_nodes_9 : decode cX12_nodes 9 = .ok (.iconst 0, 1) := by decide +kernel
theorem dX12_nodes_10 : decode cX12_nodes 10 = .ok (.iaload, 1) := by decide +kernel
theorem dX12_nodes_11 : decode cX12_nodes 11 = .ok (.ireturn, 1) := by decide +kernel
theorem dX12_nodeValue_0 : decode cX12_nodeValue 0 = .ok (.iload_n 2, 1) := by decide +kernel
theorem dX12_nodeValue_1 : decode cX12_nodeValue 1 = .ok (.tableswitch 60 3 5 #[27, 38, 48], 27) := by decide +kernel
theorem dX12_nodeValue_28 : decode cX12_nodeValue 28 = .ok (.aload_n 0, 1) := by decide +kernel
theorem dX12_nodeValue_29 : decode cX12_nodeValue 29 = .ok (.iload_n 1, 1) := by decide +kernel
theorem dX12_nodeValue_30 : decode cX12_nodeValue 30 = .ok (.iconst 0, 1) := by decide +kernel
theorem dX12_nodeValue_31 : decode cX12_nodeValue 31 = .ok (.invokevirtual 111, 3) := by decide +kernel
theorem dX12_nodeValue_34 : decode cX12_nodeValue 34 = .ok (.aload_n 0, 1) := by decide +kernel
theorem dX12_nodeValue_35 : decode cX12_nodeValue 35 = .ok (.getfield 114, 3) := by decide +kernel
theorem dX12_nodeValue_38 : decode cX12_nodeValue 38 = .ok (.ireturn, 1) := by decide +kernel
theorem dX12_nodeValue_39 : decode cX12_nodeValue 39 = .ok (.aload_n 0, 1) := by decide +kernel
theorem dX12_nodeValue_40 : decode cX12_nodeValue 40 = .ok (.iload_n 1, 1) := by decide +kernel
theorem dX12_nodeValue_41 : decode cX12_nodeValue 41 = .ok (.invokevirtual 88, 3) := by decide +kernel
theorem dX12_nodeValue_44 : decode cX12_nodeValue 44 = .ok (.iload_n 1, 1) := by decide +kernel
theorem dX12_nodeValue_45 : decode cX12_nodeValue 45 = .ok (.isub, 1) := by decide +kernel
theorem dX12_nodeValue_46 : decode cX12_nodeValue 46 = .ok (.iconst 1, 1) := by decide +kernel
theorem dX12_nodeValue_47 : decode cX12_nodeValue 47 = .ok (.isub, 1) := by decide +kernel
theorem dX12_nodeValue_48 : decode cX12_nodeValue 48 = .ok (.ireturn, 1) := by decide +kernel
theorem dX12_nodeValue_49 : decode cX12_nodeValue 49 = .ok (.aload_n 0, 1) := by decide +kernel
theorem dX12_nodeValue_50 : decode cX12_nodeValue 50 = .ok (.iload_n 1, 1) := by decide +kernel
theorem dX12_nodeValue_51 : decode cX12_nodeValue 51 = .ok (.bipush 7, 2) := by decide +kernel
theorem dX12_nodeValue_53 : decode cX12_nodeValue 53 = .ok (.invokevirtual 111, 3) := by decide +kernel
theorem dX12_nodeValue_56 : decode cX12_nodeValue 56 = .ok (.aload_n 0, 1) := by decide +kernel
theorem dX12_nodeValue_57 : decode cX12_nodeValue 57 = .ok (.getfield 114, 3) := by decide +kernel
theorem dX12_nodeValue_60 : decode cX12_nodeValue 60 = .ok (.ireturn, 1) := by decide +kernel
theorem dX12_nodeValue_61 : decode cX12_nodeValue 61 = .ok (.aload_n 0, 1) := by decide +kernel
theorem dX12_nodeValue_62 : decode cX12_nodeValue 62 = .ok (.getfield 7, 3) := by decide +kernel
theorem dX12_nodeValue_65 : decode cX12_nodeValue 65 = .ok (.iconst 1, 1) := by decide +kernel
theorem dX12_nodeValue_66 : decode cX12_nodeValue 66 = .ok (.iconst 3, 1) := by decide +kernel
theorem dX12_nodeValue_67 : decode cX12_nodeValue 67 = .ok (.iload_n 1, 1) := by decide +kernel
theorem dX12_nodeValue_68 : decode cX12_nodeValue 68 = .ok (.imul, 1) := by decide +kernel
theorem dX12_nodeValue_69 : decode cX12_nodeValue 69 = .ok (.iadd, 1) := by decide +kernel
theorem dX12_nodeValue_70 : decode cX12_nodeValue 70 = .ok (.iload_n 2, 1) := by decide +kernel
theorem dX12_nodeValue_71 : decode cX12_nodeValue 71 = .ok (.iadd, 1) := by decide +kernel
theorem dX12_nodeValue_72 : decode cX12_nodeValue 72 = .ok (.iaload, 1) := by decide +kernel
theorem dX12_nodeValue_73 : decode cX12_nodeValue 73 = .ok (.ireturn, 1) := by decide +kernel
theorem dX12_node_0 : decode cX12_node 0 = .ok (.aload_n 0, 1) := by decide +kernel
theorem dX12_node_1 : decode cX12_node 1 = .ok (.aload_n 0, 1) := by decide +kernel
theorem dX12_node_2 : decode cX12_node 2 = .ok (.iload_n 1, 1) := by decide +kernel
theorem dX12_node_3 : decode cX12_node 3 = .ok (.invokevirtual 77, 3) := by decide +kernel
theorem dX12_node_6 : decode cX12_node 6 = .ok (.ifCond .ne 7, 3) := by decide +kernel
theorem dX12_node_9 : decode cX12_node 9 = .ok (.iconst 1, 1) := by decide +kernel
theorem dX12_node_10 : decode cX12_node 10 = .ok (.goto 17, 3) := by decide +kernel
theorem dX12_node_13 : decode cX12_node 13 = .ok (.iload_n 2, 1) := by decide +kernel
theorem dX12_node_14 : decode cX12_node 14 = .ok (.iconst 0, 1) := by decide +kernel
theorem dX12_node_15 : decode cX12_node 15 = .ok (.iconst 5, 1) := by decide +kernel
theorem dX12_node_16 : decode cX12_node 16 = .ok (.invokestatic 69, 3) := by decide +kernel
theorem dX12_node_19 : decode cX12_node 19 = .ok (.ifCond .ne 7, 3) := by decide +kernel
theorem dX12_node_22 : decode cX12_node 22 = .ok (.iconst 2, 1) := by decide +kernel
theorem dX12_node_23 : decode cX12_node 23 = .ok (.goto 4, 3) := by decide +kernel
theorem dX12_node_26 : decode cX12_node 26 = .ok (.iconst 0, 1) := by decide +kernel
theorem dX12_node_27 : decode cX12_node 27 = .ok (.putfield 62, 3) := by decide +kernel
theorem dX12_node_30 : decode cX12_node 30 = .ok (.aload_n 0, 1) := by decide +kernel
theorem dX12_node_31 : decode cX12_node 31 = .ok (.getfield 62, 3) := by decide +kernel
theorem dX12_node_34 : decode cX12_node 34 = .ok (.ifCond .eq 7, 3) := by decide +kernel
theorem dX12_node_37 : decode cX12_node 37 = .ok (.iconst 0, 1) := by decide +kernel
theorem dX12_node_38 : decode cX12_node 38 = .ok (.goto 9, 3) := by decide +kernel
theorem dX12_node_41 : decode cX12_node 41 = .ok (.aload_n 0, 1) := by decide +kernel
theorem dX12_node_42 : decode cX12_node 42 = .ok (.iload_n 1, 1) := by decide +kernel
theorem dX12_node_43 : decode cX12_node 43 = .ok (.iload_n 2, 1) := by decide +kernel
theorem dX12_node_44 : decode cX12_node 44 = .ok (.invokevirtual 117, 3) := by decide +kernel
theorem dX12_node_47 : decode cX12_node 47 = .ok (.ireturn, 1) := by decide +kernel
theorem dX12_lists_0 : decode cX12_lists 0 = .ok (.aload_n 0, 1) := by decide +kernel
theorem dX12_lists_1 : decode cX12_lists 1 = .ok (.getfield 22, 3) := by decide +kernel
theorem dX12_lists_4 : decode cX12_lists 4 = .ok (.aload_n 0, 1) := by decide +kernel
theorem dX12_lists_5 : decode cX12_lists 5 = .ok (.getfield 114, 3) := by decide +kernel
theorem dX12_lists_8 : decode cX12_lists 8 = .ok (.iload_n 1, 1) := by decide +kernel
theorem dX12_lists_9 : decode cX12_lists 9 = .ok (.iastore, 1) := by decide +kernel
theorem dX12_lists_10 : decode cX12_lists 10 = .ok (.aload_n 0, 1) := by decide +kernel
theorem dX12_lists_11 : decode cX12_lists 11 = .ok (.dup, 1) := by decide +kernel
theorem dX12_lists_12 : decode cX12_lists 12 = .ok (.getfield 114, 3) := by decide +kernel
theorem dX12_lists_15 : decode cX12_lists 15 = .ok (.iconst 1, 1) := by decide +kernel
theorem dX12_lists_16 : decode cX12_lists 16 = .ok (.iadd, 1) := by decide +kernel
theorem dX12_lists_17 : decode cX12_lists 17 = .ok (.putfield 114, 3) := by decide +kernel
theorem dX12_lists_20 : decode cX12_lists 20 = .ok (.return_, 1) := by decide +kernel
theorem dX12_isAncestor_0 : decode cX12_isAncestor 0 = .ok (.iload_n 1, 1) := by decide +kernel
theorem dX12_isAncestor_1 : decode cX12_isAncestor 1 = .ok (.iload_n 2, 1) := by decide +kernel
theorem dX12_isAncestor_2 : decode cX12_isAncestor 2 = .ok (.if_icmp .ge 16, 3) := by decide +kernel
theorem dX12_isAncestor_5 : decode cX12_isAncestor 5 = .ok (.aload_n 0, 1) := by decide +kernel
theorem dX12_isAncestor_6 : decode cX12_isAncestor 6 = .ok (.iload_n 1, 1) := by decide +kernel
theorem dX12_isAncestor_7 : decode cX12_isAncestor 7 = .ok (.invokevirtual 88, 3) := by decide +kernel
theorem dX12_isAncestor_10 : decode cX12_isAncestor 10 = .ok (.iload_n 2, 1) := by decide +kernel
theorem dX12_isAncestor_11 : decode cX12_isAncestor 11 = .ok (.if_icmp .le 7, 3) := by decide +kernel
theorem dX12_isAncestor_14 : decode cX12_isAncestor 14 = .ok (.iconst 1, 1) := by decide +kernel
theorem dX12_isAncestor_15 : decode cX12_isAncestor 15 = .ok (.goto 4, 3) := by decide +kernel
theorem dX12_isAncestor_18 : decode cX12_isAncestor 18 = .ok (.iconst 0, 1) := by decide +kernel
theorem dX12_isAncestor_19 : decode cX12_isAncestor 19 = .ok (.ireturn, 1) := by decide +kernel
theorem dX12_listAxis_0 : decode cX12_listAxis 0 = .ok (.aload_n 0, 1) := by decide +kernel
theorem dX12_listAxis_1 : decode cX12_listAxis 1 = .ok (.iconst 0, 1) := by decide +kernel
theorem dX12_listAxis_2 : decode cX12_listAxis 2 = .ok (.putfield 114, 3) := by decide +kernel
theorem dX12_listAxis_5 : decode cX12_listAxis 5 = .ok (.aload_n 0, 1) := by decide +kernel
theorem dX12_listAxis_6 : decode cX12_listAxis 6 = .ok (.iload_n 1, 1) := by decide +kernel
theorem dX12_listAxis_7 : decode cX12_listAxis 7 = .ok (.invokevirtual 88, 3) := by decide +kernel
theorem dX12_listAxis_10 : decode cX12_listAxis 10 = .ok (.istore_n 3, 1) := by decide +kernel
theorem dX12_listAxis_11 : decode cX12_listAxis 11 = .ok (.iload_n 2, 1) := by decide +kernel
theorem dX12_listAxis_12 : decode cX12_listAxis 12 = .ok (.tableswitch 191 0 5 #[83, 40, 48, 48, 148, 119], 40) := by decide +kernel
theorem dX12_listAxis_52 : decode cX12_listAxis 52 = .ok (.aload_n 0, 1) := by decide +kernel
theorem dX12_listAxis_53 : decode cX12_listAxis 53 = .ok (.iload_n 1, 1) := by decide +kernel
theorem dX12_listAxis_54 : decode cX12_listAxis 54 = .ok (.invokevirtual 121, 3) := by decide +kernel
theorem dX12_listAxis_57 : decode cX12_listAxis 57 = .ok (.goto 152, 3) := by decide +kernel
theorem dX12_listAxis_60 : decode cX12_listAxis 60 = .ok (.iload_n 2, 1) := by decide +kernel
theorem dX12_listAxis_61 : decode cX12_listAxis 61 = .ok (.iconst 2, 1) := by decide +kernel
theorem dX12_listAxis_62 : decode cX12_listAxis 62 = .ok (.if_icmp .ne 9, 3) := by decide +kernel
theorem dX12_listAxis_65 : decode cX12_listAxis 65 = .ok (.iload_n 1, 1) := by decide +kernel
theorem dX12_listAxis_66 : decode cX12_listAxis 66 = .ok (.iconst 1, 1) := by decide +kernel
theorem dX12_listAxis_67 : decode cX12_listAxis 67 = .ok (.iadd, 1) := by decide +kernel
theorem dX12_listAxis_68 : decode cX12_listAxis 68 = .ok (.goto 4, 3) := by decide +kernel
theorem dX12_listAxis_71 : decode cX12_listAxis 71 = .ok (.iload_n 1, 1) := by decide +kernel
theorem dX12_listAxis_72 : decode cX12_listAxis 72 = .ok (.istore 4, 2) := by decide +kernel
theorem dX12_listAxis_74 : decode cX12_listAxis 74 = .ok (.iload 4, 2) := by decide +kernel
theorem dX12_listAxis_76 : decode cX12_listAxis 76 = .ok (.iload_n 3, 1) := by decide +kernel
theorem dX12_listAxis_77 : decode cX12_listAxis 77 = .ok (.if_icmp .ge 15, 3) := by decide +kernel
theorem dX12_listAxis_80 : decode cX12_listAxis 80 = .ok (.aload_n 0, 1) := by decide +kernel
theorem dX12_listAxis_81 : decode cX12_listAxis 81 = .ok (.iload 4, 2) := by decide +kernel
theorem dX12_listAxis_83 : decode cX12_listAxis 83 = .ok (.invokevirtual 121, 3) := by decide +kernel
theorem dX12_listAxis_86 : decode cX12_listAxis 86 = .ok (.iinc 4 1, 3) := by decide +kernel
theorem dX12_listAxis_89 : decode cX12_listAxis 89 = .ok (.goto (-15), 3) := by decide +kernel
theorem dX12_listAxis_92 : decode cX12_listAxis 92 = .ok (.goto 117, 3) := by decide +kernel
theorem dX12_listAxis_95 : decode cX12_listAxis 95 = .ok (.iload_n 1, 1) := by decide +kernel
theorem dX12_listAxis_96 : decode cX12_listAxis 96 = .ok (.iconst 1, 1) := by decide +kernel
theorem dX12_listAxis_97 : decode cX12_listAxis 97 = .ok (.iadd, 1) := by decide +kernel
theorem dX12_listAxis_98 : decode cX12_listAxis 98 = .ok (.istore 4, 2) := by decide +kernel
theorem dX12_listAxis_100 : decode cX12_listAxis 100 = .ok (.iload 4, 2) := by decide +kernel
theorem dX12_listAxis_102 : decode cX12_listAxis 102 = .ok (.iload_n 3, 1) := by decide +kernel
theorem dX12_listAxis_103 : decode cX12_listAxis 103 = .ok (.if_icmp .ge 25, 3) := by decide +kernel
theorem dX12_listAxis_106 : decode cX12_listAxis 106 = .ok (.aload_n 0, 1) := by decide +kernel
theorem dX12_listAxis_107 : decode cX12_listAxis 107 = .ok (.iload 4, 2) := by decide +kernel
theorem dX12_listAxis_109 : decode cX12_listAxis 109 = .ok (.invokevirtual 73, 3) := by decide +kernel
theorem dX12_listAxis_112 : decode cX12_listAxis 112 = .ok (.iload_n 1, 1) := by decide +kernel
theorem dX12_listAxis_113 : decode cX12_listAxis 113 = .ok (.if_icmp .ne 9, 3) := by decide +kernel
theorem dX12_listAxis_116 : decode cX12_listAxis 116 = .ok (.aload_n 0, 1) := by decide +kernel
theorem dX12_listAxis_117 : decode cX12_listAxis 117 = .ok (.iload 4, 2) := by decide +kernel
theorem dX12_listAxis_119 : decode cX12_listAxis 119 = .ok (.invokevirtual 121, 3) := by decide +kernel
theorem dX12_listAxis_122 : decode cX12_listAxis 122 = .ok (.iinc 4 1, 3) := by decide +kernel
theorem dX12_listAxis_125 : decode cX12_listAxis 125 = .ok (.goto (-25), 3) := by decide +kernel
theorem dX12_listAxis_128 : decode cX12_listAxis 128 = .ok (.goto 81, 3) := by decide +kernel
theorem dX12_listAxis_131 : decode cX12_listAxis 131 = .ok (.iload_n 3, 1) := by decide +kernel
theorem dX12_listAxis_132 : decode cX12_listAxis 132 = .ok (.istore 4, 2) := by decide +kernel
theorem dX12_listAxis_134 : decode cX12_listAxis 134 = .ok (.iload 4, 2) := by decide +kernel
theorem dX12_listAxis_136 : decode cX12_listAxis 136 = .ok (.aload_n 0, 1) := by decide +kernel
theorem dX12_listAxis_137 : decode cX12_listAxis 137 = .ok (.getfield 7, 3) := by decide +kernel
theorem dX12_listAxis_140 : decode cX12_listAxis 140 = .ok (.iconst 0, 1) := by decide +kernel
theorem dX12_listAxis_141 : decode cX12_listAxis 141 = .ok (.iaload, 1) := by decide +kernel
theorem dX12_listAxis_142 : decode cX12_listAxis 142 = .ok (.if_icmp .ge 15, 3) := by decide +kernel
theorem dX12_listAxis_145 : decode cX12_listAxis 145 = .ok (.aload_n 0, 1) := by decide +kernel
theorem dX12_listAxis_146 : decode cX12_listAxis 146 = .ok (.iload 4, 2) := by decide +kernel
theorem dX12_listAxis_148 : decode cX12_listAxis 148 = .ok (.invokevirtual 121, 3) := by decide +kernel
theorem dX12_listAxis_151 : decode cX12_listAxis 151 = .ok (.iinc 4 1, 3) := by decide +kernel
theorem dX12_listAxis_154 : decode cX12_listAxis 154 = .ok (.goto (-20), 3) := by decide +kernel
theorem dX12_listAxis_157 : decode cX12_listAxis 157 = .ok (.goto 52, 3) := by decide +kernel
theorem dX12_listAxis_160 : decode cX12_listAxis 160 = .ok (.iload_n 3, 1) := by decide +kernel
theorem dX12_listAxis_161 : decode cX12_listAxis 161 = .ok (.istore 4, 2) := by decide +kernel
theorem dX12_listAxis_163 : decode cX12_listAxis 163 = .ok (.iload 4, 2) := by decide +kernel
theorem dX12_listAxis_165 : decode cX12_listAxis 165 = .ok (.aload_n 0, 1) := by decide +kernel
theorem dX12_listAxis_166 : decode cX12_listAxis 166 = .ok (.getfield 7, 3) := by decide +kernel
theorem dX12_listAxis_169 : decode cX12_listAxis 169 = .ok (.iconst 0, 1) := by decide +kernel
theorem dX12_listAxis_170 : decode cX12_listAxis 170 = .ok (.iaload, 1) := by decide +kernel
theorem dX12_listAxis_171 : decode cX12_listAxis 171 = .ok (.if_icmp .ge 29, 3) := by decide +kernel
theorem dX12_listAxis_174 : decode cX12_listAxis 174 = .ok (.aload_n 0, 1) := by decide +kernel
theorem dX12_listAxis_175 : decode cX12_listAxis 175 = .ok (.iload 4, 2) := by decide +kernel
theorem dX12_listAxis_177 : decode cX12_listAxis 177 = .ok (.invokevirtual 73, 3) := by decide +kernel
theorem dX12_listAxis_180 : decode cX12_listAxis 180 = .ok (.aload_n 0, 1) := by decide +kernel
theorem dX12_listAxis_181 : decode cX12_listAxis 181 = .ok (.iload_n 1, 1) := by decide +kernel
theorem dX12_listAxis_182 : decode cX12_listAxis 182 = .ok (.invokevirtual 73, 3) := by decide +kernel
theorem dX12_listAxis_185 : decode cX12_listAxis 185 = .ok (.if_icmp .ne 9, 3) := by decide +kernel
theorem dX12_listAxis_188 : decode cX12_listAxis 188 = .ok (.aload_n 0, 1) := by decide +kernel
theorem dX12_listAxis_189 : decode cX12_listAxis 189 = .ok (.iload 4, 2) := by decide +kernel
theorem dX12_listAxis_191 : decode cX12_listAxis 191 = .ok (.invokevirtual 121, 3) := by decide +kernel
theorem dX12_listAxis_194 : decode cX12_listAxis 194 = .ok (.iinc 4 1, 3) := by decide +kernel
theorem dX12_listAxis_197 : decode cX12_listAxis 197 = .ok (.goto (-34), 3) := by decide +kernel
theorem dX12_listAxis_200 : decode cX12_listAxis 200 = .ok (.goto 9, 3) := by decide +kernel
theorem dX12_listAxis_203 : decode cX12_listAxis 203 = .ok (.aload_n 0, 1) := by decide +kernel
theorem dX12_listAxis_204 : decode cX12_listAxis 204 = .ok (.iload_n 1, 1) := by decide +kernel
theorem dX12_listAxis_205 : decode cX12_listAxis 205 = .ok (.iload_n 2, 1) := by decide +kernel
theorem dX12_listAxis_206 : decode cX12_listAxis 206 = .ok (.invokevirtual 125, 3) := by decide +kernel
theorem dX12_listAxis_209 : decode cX12_listAxis 209 = .ok (.return_, 1) := by decide +kernel
theorem dX12_listBack_0 : decode cX12_listBack 0 = .ok (.iload_n 1, 1) := by decide +kernel
theorem dX12_listBack_1 : decode cX12_listBack 1 = .ok (.iconst 1, 1) := by decide +kernel
theorem dX12_listBack_2 : decode cX12_listBack 2 = .ok (.isub, 1) := by decide +kernel
theorem dX12_listBack_3 : decode cX12_listBack 3 = .ok (.istore_n 3, 1) := by decide +kernel
theorem dX12_listBack_4 : decode cX12_listBack 4 = .ok (.iload_n 3, 1) := by decide +kernel
theorem dX12_listBack_5 : decode cX12_listBack 5 = .ok (.ifCond .lt 100, 3) := by decide +kernel
theorem dX12_listBack_8 : decode cX12_listBack 8 = .ok (.aload_n 0, 1) := by decide +kernel
theorem dX12_listBack_9 : decode cX12_listBack 9 = .ok (.iload_n 3, 1) := by decide +kernel
theorem dX12_listBack_10 : decode cX12_listBack 10 = .ok (.iload_n 1, 1) := by decide +kernel
theorem dX12_listBack_11 : decode cX12_listBack 11 = .ok (.invokevirtual 128, 3) := by decide +kernel
theorem dX12_listBack_14 : decode cX12_listBack 14 = .ok (.istore 4, 2) := by decide +kernel
theorem dX12_listBack_16 : decode cX12_listBack 16 = .ok (.iload_n 2, 1) := by decide +kernel
theorem dX12_listBack_17 : decode cX12_listBack 17 = .ok (.bipush 6, 2) := by decide +kernel
theorem dX12_listBack_19 : decode cX12_listBack 19 = .ok (.if_icmp .ne 20, 3) := by decide +kernel
theorem dX12_listBack_22 : decode cX12_listBack 22 = .ok (.iload_n 3, 1) := by decide +kernel
theorem dX12_listBack_23 : decode cX12_listBack 23 = .ok (.aload_n 0, 1) := by decide +kernel
theorem dX12_listBack_24 : decode cX12_listBack 24 = .ok (.iload_n 1, 1) := by decide +kernel
theorem dX12_listBack_25 : decode cX12_listBack 25 = .ok (.invokevirtual 73, 3) := by decide +kernel
theorem dX12_listBack_28 : decode cX12_listBack 28 = .ok (.if_icmp .ne 7, 3) := by decide +kernel
theorem dX12_listBack_31 : decode cX12_listBack 31 = .ok (.iconst 1, 1) := by decide +kernel
theorem dX12_listBack_32 : decode cX12_listBack 32 = .ok (.goto 55, 3) := by decide +kernel
theorem dX12_listBack_35 : decode cX12_listBack 35 = .ok (.iconst 0, 1) := by decide +kernel
theorem dX12_listBack_36 : decode cX12_listBack 36 = .ok (.goto 51, 3) := by decide +kernel
theorem dX12_listBack_39 : decode cX12_listBack 39 = .ok (.iload_n 2, 1) := by decide +kernel
theorem dX12_listBack_40 : decode cX12_listBack 40 = .ok (.bipush 7, 2) := by decide +kernel
theorem dX12_listBack_42 : decode cX12_listBack 42 = .ok (.if_icmp .ne 8, 3) := by decide +kernel
theorem dX12_listBack_45 : decode cX12_listBack 45 = .ok (.iload 4, 2) := by decide +kernel
theorem dX12_listBack_47 : decode cX12_listBack 47 = .ok (.goto 40, 3) := by decide +kernel
theorem dX12_listBack_50 : decode cX12_listBack 50 = .ok (.iload_n 2, 1) := by decide +kernel
theorem dX12_listBack_51 : decode cX12_listBack 51 = .ok (.bipush 8, 2) := by decide +kernel
theorem dX12_listBack_53 : decode cX12_listBack 53 = .ok (.if_icmp .ne 24, 3) := by decide +kernel
theorem dX12_listBack_56 : decode cX12_listBack 56 = .ok (.aload_n 0, 1) := by decide +kernel
theorem dX12_listBack_57 : decode cX12_listBack 57 = .ok (.iload_n 3, 1) := by decide +kernel
theorem dX12_listBack_58 : decode cX12_listBack 58 = .ok (.invokevirtual 73, 3) := by decide +kernel
theorem dX12_listBack_61 : decode cX12_listBack 61 = .ok (.aload_n 0, 1) := by decide +kernel
theorem dX12_listBack_62 : decode cX12_listBack 62 = .ok (.iload_n 1, 1) := by decide +kernel
theorem dX12_listBack_63 : decode cX12_listBack 63 = .ok (.invokevirtual 73, 3) := by decide +kernel
theorem dX12_listBack_66 : decode cX12_listBack 66 = .ok (.if_icmp .ne 7, 3) := by decide +kernel
theorem dX12_listBack_69 : decode cX12_listBack 69 = .ok (.iconst 1, 1) := by decide +kernel
theorem dX12_listBack_70 : decode cX12_listBack 70 = .ok (.goto 17, 3) := by decide +kernel
theorem dX12_listBack_73 : decode cX12_listBack 73 = .ok (.iconst 0, 1) := by decide +kernel
theorem dX12_listBack_74 : decode cX12_listBack 74 = .ok (.goto 13, 3) := by decide +kernel
theorem dX12_listBack_77 : decode cX12_listBack 77 = .ok (.iload 4, 2) := by decide +kernel
theorem dX12_listBack_79 : decode cX12_listBack 79 = .ok (.ifCond .ne 7, 3) := by decide +kernel
theorem dX12_listBack_82 : decode cX12_listBack 82 = .ok (.iconst 1, 1) := by decide +kernel
theorem dX12_listBack_83 : decode cX12_listBack 83 = .ok (.goto 4, 3) := by decide +kernel
theorem dX12_listBack_86 : decode cX12_listBack 86 = .ok (.iconst 0, 1) := by decide +kernel
theorem dX12_listBack_87 : decode cX12_listBack 87 = .ok (.istore 5, 2) := by decide +kernel
theorem dX12_listBack_89 : decode cX12_listBack 89 = .ok (.iload 5, 2) := by decide +kernel
theorem dX12_listBack_91 : decode cX12_listBack 91 = .ok (.ifCond .eq 8, 3) := by decide +kernel
theorem dX12_listBack_94 : decode cX12_listBack 94 = .ok (.aload_n 0, 1) := by decide +kernel
theorem dX12_listBack_95 : decode cX12_listBack 95 = .ok (.iload_n 3, 1) := by decide +kernel
theorem dX12_listBack_96 : decode cX12_listBack 96 = .ok (.invokevirtual 121, 3) := by decide +kernel
theorem dX12_listBack_99 : decode cX12_listBack 99 = .ok (.iinc 3 (-1), 3) := by decide +kernel
theorem dX12_listBack_102 : decode cX12_listBack 102 = .ok (.goto (-98), 3) := by decide +kernel
theorem dX12_listBack_105 : decode cX12_listBack 105 = .ok (.return_, 1) := by decide +kernel
theorem dX12_axis_0 : decode cX12_axis 0 = .ok (.aload_n 0, 1) := by decide +kernel
theorem dX12_axis_1 : decode cX12_axis 1 = .ok (.aload_n 0, 1) := by decide +kernel
theorem dX12_axis_2 : decode cX12_axis 2 = .ok (.iload_n 1, 1) := by decide +kernel
theorem dX12_axis_3 : decode cX12_axis 3 = .ok (.invokevirtual 77, 3) := by decide +kernel
theorem dX12_axis_6 : decode cX12_axis 6 = .ok (.ifCond .ne 7, 3) := by decide +kernel
theorem dX12_axis_9 : decode cX12_axis 9 = .ok (.iconst 1, 1) := by decide +kernel
theorem dX12_axis_10 : decode cX12_axis 10 = .ok (.goto 22, 3) := by decide +kernel
theorem dX12_axis_13 : decode cX12_axis 13 = .ok (.iload_n 2, 1) := by decide +kernel
theorem dX12_axis_14 : decode cX12_axis 14 = .ok (.iconst 0, 1) := by decide +kernel
theorem dX12_axis_15 : decode cX12_axis 15 = .ok (.bipush 9, 2) := by decide +kernel
theorem dX12_axis_17 : decode cX12_axis 17 = .ok (.invokestatic 69, 3) := by decide +kernel
theorem dX12_axis_20 : decode cX12_axis 20 = .ok (.ifCond .eq 7, 3) := by decide +kernel
theorem dX12_axis_23 : decode cX12_axis 23 = .ok (.iload_n 3, 1) := by decide +kernel
theorem dX12_axis_24 : decode cX12_axis 24 = .ok (.ifCond .ge 7, 3) := by decide +kernel
theorem dX12_axis_27 : decode cX12_axis 27 = .ok (.iconst 2, 1) := by decide +kernel
theorem dX12_axis_28 : decode cX12_axis 28 = .ok (.goto 4, 3) := by decide +kernel
theorem dX12_axis_31 : decode cX12_axis 31 = .ok (.iconst 0, 1) := by decide +kernel
theorem dX12_axis_32 : decode cX12_axis 32 = .ok (.putfield 62, 3) := by decide +kernel
theorem dX12_axis_35 : decode cX12_axis 35 = .ok (.aload_n 0, 1) := by decide +kernel
theorem dX12_axis_36 : decode cX12_axis 36 = .ok (.getfield 62, 3) := by decide +kernel
theorem dX12_axis_39 : decode cX12_axis 39 = .ok (.ifCond .eq 5, 3) := by decide +kernel
theorem dX12_axis_42 : decode cX12_axis 42 = .ok (.iconst 0, 1) := by decide +kernel
theorem dX12_axis_43 : decode cX12_axis 43 = .ok (.ireturn, 1) := by decide +kernel
theorem dX12_axis_44 : decode cX12_axis 44 = .ok (.aload_n 0, 1) := by decide +kernel
theorem dX12_axis_45 : decode cX12_axis 45 = .ok (.iload_n 1, 1) := by decide +kernel
theorem dX12_axis_46 : decode cX12_axis 46 = .ok (.iload_n 2, 1) := by decide +kernel
theorem dX12_axis_47 : decode cX12_axis 47 = .ok (.invokevirtual 111, 3) := by decide +kernel
theorem dX12_axis_50 : decode cX12_axis 50 = .ok (.iload_n 3, 1) := by decide +kernel
theorem dX12_axis_51 : decode cX12_axis 51 = .ok (.aload_n 0, 1) := by decide +kernel
theorem dX12_axis_52 : decode cX12_axis 52 = .ok (.getfield 114, 3) := by decide +kernel
theorem dX12_axis_55 : decode cX12_axis 55 = .ok (.if_icmp .ge 12, 3) := by decide +kernel
theorem dX12_axis_58 : decode cX12_axis 58 = .ok (.aload_n 0, 1) := by decide +kernel
theorem dX12_axis_59 : decode cX12_axis 59 = .ok (.getfield 22, 3) := by decide +kernel
theorem dX12_axis_62 : decode cX12_axis 62 = .ok (.iload_n 3, 1) := by decide +kernel
theorem dX12_axis_63 : decode cX12_axis 63 = .ok (.iaload, 1) := by decide +kernel
theorem dX12_axis_64 : decode cX12_axis 64 = .ok (.goto 4, 3) := by decide +kernel
theorem dX12_axis_67 : decode cX12_axis 67 = .ok (.iconst (-1), 1) := by decide +kernel
theorem dX12_axis_68 : decode cX12_axis 68 = .ok (.ireturn, 1) := by decide +kernel
theorem dX12_pathAt_0 : decode cX12_pathAt 0 = .ok (.iconst 1, 1) := by decide +kernel
theorem dX12_pathAt_1 : decode cX12_pathAt 1 = .ok (.sipush 1634, 3) := by decide +kernel
theorem dX12_pathAt_4 : decode cX12_pathAt 4 = .ok (.iload_n 0, 1) := by decide +kernel
theorem dX12_pathAt_5 : decode cX12_pathAt 5 = .ok (.imul, 1) := by decide +kernel
theorem dX12_pathAt_6 : decode cX12_pathAt 6 = .ok (.iadd, 1) := by decide +kernel
theorem dX12_pathAt_7 : decode cX12_pathAt 7 = .ok (.ireturn, 1) := by decide +kernel
theorem dX12_stepAt_0 : decode cX12_stepAt 0 = .ok (.iload_n 0, 1) := by decide +kernel
theorem dX12_stepAt_1 : decode cX12_stepAt 1 = .ok (.iconst 2, 1) := by decide +kernel
theorem dX12_stepAt_2 : decode cX12_stepAt 2 = .ok (.iadd, 1) := by decide +kernel
theorem dX12_stepAt_3 : decode cX12_stepAt 3 = .ok (.sipush 204, 3) := by decide +kernel
theorem dX12_stepAt_6 : decode cX12_stepAt 6 = .ok (.iload_n 1, 1) := by decide +kernel
theorem dX12_stepAt_7 : decode cX12_stepAt 7 = .ok (.imul, 1) := by decide +kernel
theorem dX12_stepAt_8 : decode cX12_stepAt 8 = .ok (.iadd, 1) := by decide +kernel
theorem dX12_stepAt_9 : decode cX12_stepAt 9 = .ok (.ireturn, 1) := by decide +kernel
theorem dX12_predicateAt_0 : decode cX12_predicateAt 0 = .ok (.iload_n 0, 1) := by decide +kernel
theorem dX12_predicateAt_1 : decode cX12_predicateAt 1 = .ok (.iconst 3, 1) := by decide +kernel
theorem dX12_predicateAt_2 : decode cX12_predicateAt 2 = .ok (.iadd, 1) := by decide +kernel
theorem dX12_predicateAt_3 : decode cX12_predicateAt 3 = .ok (.bipush 67, 2) := by decide +kernel
theorem dX12_predicateAt_5 : decode cX12_predicateAt 5 = .ok (.iload_n 1, 1) := by decide +kernel
theorem dX12_predicateAt_6 : decode cX12_predicateAt 6 = .ok (.imul, 1) := by decide +kernel
theorem dX12_predicateAt_7 : decode cX12_predicateAt 7 = .ok (.iadd, 1) := by decide +kernel
theorem dX12_predicateAt_8 : decode cX12_predicateAt 8 = .ok (.ireturn, 1) := by decide +kernel
theorem dX12_alternativeAt_0 : decode cX12_alternativeAt 0 = .ok (.iload_n 0, 1) := by decide +kernel
theorem dX12_alternativeAt_1 : decode cX12_alternativeAt 1 = .ok (.iconst 1, 1) := by decide +kernel
theorem dX12_alternativeAt_2 : decode cX12_alternativeAt 2 = .ok (.iadd, 1) := by decide +kernel
theorem dX12_alternativeAt_3 : decode cX12_alternativeAt 3 = .ok (.bipush 22, 2) := by decide +kernel
theorem dX12_alternativeAt_5 : decode cX12_alternativeAt 5 = .ok (.iload_n 1, 1) := by decide +kernel
theorem dX12_alternativeAt_6 : decode cX12_alternativeAt 6 = .ok (.imul, 1) := by decide +kernel
theorem dX12_alternativeAt_7 : decode cX12_alternativeAt 7 = .ok (.iadd, 1) := by decide +kernel
theorem dX12_alternativeAt_8 : decode cX12_alternativeAt 8 = .ok (.ireturn, 1) := by decide +kernel
theorem dX12_conditionAt_0 : decode cX12_conditionAt 0 = .ok (.iload_n 0, 1) := by decide +kernel
theorem dX12_conditionAt_1 : decode cX12_conditionAt 1 = .ok (.iconst 1, 1) := by decide +kernel
theorem dX12_conditionAt_2 : decode cX12_conditionAt 2 = .ok (.iadd, 1) := by decide +kernel
theorem dX12_conditionAt_3 : decode cX12_conditionAt 3 = .ok (.bipush 7, 2) := by decide +kernel
theorem dX12_conditionAt_5 : decode cX12_conditionAt 5 = .ok (.iload_n 1, 1) := by decide +kernel
theorem dX12_conditionAt_6 : decode cX12_conditionAt 6 = .ok (.imul, 1) := by decide +kernel
theorem dX12_conditionAt_7 : decode cX12_conditionAt 7 = .ok (.iadd, 1) := by decide +kernel
theorem dX12_conditionAt_8 : decode cX12_conditionAt 8 = .ok (.ireturn, 1) := by decide +kernel
theorem dX12_here_0 : decode cX12_here 0 = .ok (.aload_n 0, 1) := by decide +kernel
theorem dX12_here_1 : decode cX12_here 1 = .ok (.getfield 131, 3) := by decide +kernel
theorem dX12_here_4 : decode cX12_here 4 = .ok (.aload_n 0, 1) := by decide +kernel
theorem dX12_here_5 : decode cX12_here 5 = .ok (.getfield 134, 3) := by decide +kernel
theorem dX12_here_8 : decode cX12_here 8 = .ok (.if_icmp .ge 15, 3) := by decide +kernel
theorem dX12_here_11 : decode cX12_here 11 = .ok (.aload_n 0, 1) := by decide +kernel
theorem dX12_here_12 : decode cX12_here 12 = .ok (.getfield 25, 3) := by decide +kernel
theorem dX12_here_15 : decode cX12_here 15 = .ok (.aload_n 0, 1) := by decide +kernel
theorem dX12_here_16 : decode cX12_here 16 = .ok (.getfield 131, 3) := by decide +kernel
theorem dX12_here_19 : decode cX12_here 19 = .ok (.iaload, 1) := by decide +kernel
theorem dX12_here_20 : decode cX12_here 20 = .ok (.goto 4, 3) := by decide +kernel
theorem dX12_here_23 : decode cX12_here 23 = .ok (.iconst (-1), 1) := by decide +kernel
theorem dX12_here_24 : decode cX12_here 24 = .ok (.ireturn, 1) := by decide +kernel
theorem dX12_takes_0 : decode cX12_takes 0 = .ok (.aload_n 0, 1) := by decide +kernel
theorem dX12_takes_1 : decode cX12_takes 1 = .ok (.invokevirtual 137, 3) := by decide +kernel
theorem dX12_takes_4 : decode cX12_takes 4 = .ok (.iload_n 1, 1) := by decide +kernel
theorem dX12_takes_5 : decode cX12_takes 5 = .ok (.if_icmp .ne 7, 3) := by decide +kernel
theorem dX12_takes_8 : decode cX12_takes 8 = .ok (.iconst 1, 1) := by decide +kernel
theorem dX12_takes_9 : decode cX12_takes 9 = .ok (.goto 4, 3) := by decide +kernel
theorem dX12_takes_12 : decode cX12_takes 12 = .ok (.iconst 0, 1) := by decide +kernel
theorem dX12_takes_13 : decode cX12_takes 13 = .ok (.istore_n 2, 1) := by decide +kernel
theorem dX12_takes_14 : decode cX12_takes 14 = .ok (.aload_n 0, 1) := by decide +kernel
theorem dX12_takes_15 : decode cX12_takes 15 = .ok (.dup, 1) := by decide +kernel
theorem dX12_takes_16 : decode cX12_takes 16 = .ok (.getfield 131, 3) := by decide +kernel
theorem dX12_takes_19 : decode cX12_takes 19 = .ok (.iload_n 2, 1) := by decide +kernel
theorem dX12_takes_20 : decode cX12_takes 20 = .ok (.ifCond .eq 7, 3) := by decide +kernel
theorem dX12_takes_23 : decode cX12_takes 23 = .ok (.iconst 1, 1) := by decide +kernel
theorem dX12_takes_24 : decode cX12_takes 24 = .ok (.goto 4, 3) := by decide +kernel
theorem dX12_takes_27 : decode cX12_takes 27 = .ok (.iconst 0, 1) := by decide +kernel
theorem dX12_takes_28 : decode cX12_takes 28 = .ok (.iadd, 1) := by decide +kernel
theorem dX12_takes_29 : decode cX12_takes 29 = .ok (.putfield 131, 3) := by decide +kernel
theorem dX12_takes_32 : decode cX12_takes 32 = .ok (.iload_n 2, 1) := by decide +kernel
theorem dX12_takes_33 : decode cX12_takes 33 = .ok (.ireturn, 1) := by decide +kernel
theorem dX12_axisBy_0 : decode cX12_axisBy 0 = .ok (.iload_n 0, 1) := by decide +kernel
theorem dX12_axisBy_1 : decode cX12_axisBy 1 = .ok (.lookupswitch 105 #[(35, 87), (37, 85), (46, 83), (60, 99), (62, 89), (94, 93), (123, 102), (125, 91), (126, 96)], 83) := by decide +kernel
theorem dX12_axisBy_84 : decode cX12_axisBy 84 = .ok (.iconst 1, 1) := by decide +kernel
theorem dX12_axisBy_85 : decode cX12_axisBy 85 = .ok (.ireturn, 1) := by decide +kernel
theorem dX12_axisBy_86 : decode cX12_axisBy 86 = .ok (.iconst 2, 1) := by decide +kernel
theorem dX12_axisBy_87 : decode cX12_axisBy 87 = .ok (.ireturn, 1) := by decide +kernel
theorem dX12_axisBy_88 : decode cX12_axisBy 88 = .ok (.iconst 3, 1) := by decide +kernel
theorem dX12_axisBy_89 : decode cX12_axisBy 89 = .ok (.ireturn, 1) := by decide +kernel
theorem dX12_axisBy_90 : decode cX12_axisBy 90 = .ok (.iconst 4, 1) := by decide +kernel
theorem dX12_axisBy_91 : decode cX12_axisBy 91 = .ok (.ireturn, 1) := by decide +kernel
theorem dX12_axisBy_92 : decode cX12_axisBy 92 = .ok (.iconst 5, 1) := by decide +kernel
theorem dX12_axisBy_93 : decode cX12_axisBy 93 = .ok (.ireturn, 1) := by decide +kernel
theorem dX12_axisBy_94 : decode cX12_axisBy 94 = .ok (.bipush 6, 2) := by decide +kernel
theorem dX12_axisBy_96 : decode cX12_axisBy 96 = .ok (.ireturn, 1) := by decide +kernel
theorem dX12_axisBy_97 : decode cX12_axisBy 97 = .ok (.bipush 7, 2) := by decide +kernel
theorem dX12_axisBy_99 : decode cX12_axisBy 99 = .ok (.ireturn, 1) := by decide +kernel
theorem dX12_axisBy_100 : decode cX12_axisBy 100 = .ok (.bipush 8, 2) := by decide +kernel
theorem dX12_axisBy_102 : decode cX12_axisBy 102 = .ok (.ireturn, 1) := by decide +kernel
theorem dX12_axisBy_103 : decode cX12_axisBy 103 = .ok (.bipush 9, 2) := by decide +kernel
theorem dX12_axisBy_105 : decode cX12_axisBy 105 = .ok (.ireturn, 1) := by decide +kernel
theorem dX12_axisBy_106 : decode cX12_axisBy 106 = .ok (.iconst 0, 1) := by decide +kernel
theorem dX12_axisBy_107 : decode cX12_axisBy 107 = .ok (.ireturn, 1) := by decide +kernel
theorem dX12_readTest_0 : decode cX12_readTest 0 = .ok (.aload_n 0, 1) := by decide +kernel
theorem dX12_readTest_1 : decode cX12_readTest 1 = .ok (.invokevirtual 137, 3) := by decide +kernel
theorem dX12_readTest_4 : decode cX12_readTest 4 = .ok (.invokestatic 141, 3) := by decide +kernel
theorem dX12_readTest_7 : decode cX12_readTest 7 = .ok (.istore_n 1, 1) := by decide +kernel
theorem dX12_readTest_8 : decode cX12_readTest 8 = .ok (.aload_n 0, 1) := by decide +kernel
theorem dX12_readTest_9 : decode cX12_readTest 9 = .ok (.dup, 1) := by decide +kernel
theorem dX12_readTest_10 : decode cX12_readTest 10 = .ok (.getfield 131, 3) := by decide +kernel
theorem dX12_readTest_13 : decode cX12_readTest 13 = .ok (.iload_n 1, 1) := by decide +kernel
theorem dX12_readTest_14 : decode cX12_readTest 14 = .ok (.ifCond .le 7, 3) := by decide +kernel
theorem dX12_readTest_17 : decode cX12_readTest 17 = .ok (.iconst 1, 1) := by decide +kernel
theorem dX12_readTest_18 : decode cX12_readTest 18 = .ok (.goto 4, 3) := by decide +kernel
theorem dX12_readTest_21 : decode cX12_readTest 21 = .ok (.iconst 0, 1) := by decide +kernel
theorem dX12_readTest_22 : decode cX12_readTest 22 = .ok (.iadd, 1) := by decide +kernel
theorem dX12_readTest_23 : decode cX12_readTest 23 = .ok (.putfield 131, 3) := by decide +kernel
theorem dX12_readTest_26 : decode cX12_readTest 26 = .ok (.aload_n 0, 1) := by decide +kernel
theorem dX12_readTest_27 : decode cX12_readTest 27 = .ok (.invokevirtual 137, 3) := by decide +kernel
theorem dX12_readTest_30 : decode cX12_readTest 30 = .ok (.istore_n 2, 1) := by decide +kernel
theorem dX12_readTest_31 : decode cX12_readTest 31 = .ok (.iload_n 2, 1) := by decide +kernel
theorem dX12_readTest_32 : decode cX12_readTest 32 = .ok (.bipush 97, 2) := by decide +kernel
theorem dX12_readTest_34 : decode cX12_readTest 34 = .ok (.bipush 104, 2) := by decide +kernel
theorem dX12_readTest_36 : decode cX12_readTest 36 = .ok (.invokestatic 69, 3) := by decide +kernel
theorem dX12_readTest_39 : decode cX12_readTest 39 = .ok (.ifCond .eq 10, 3) := by decide +kernel
theorem dX12_readTest_42 : decode cX12_readTest 42 = .ok (.iload_n 2, 1) := by decide +kernel
theorem dX12_readTest_43 : decode cX12_readTest 43 = .ok (.bipush 97, 2) := by decide +kernel
theorem dX12_readTest_45 : decode cX12_readTest 45 = .ok (.isub, 1) := by decide +kernel
theorem dX12_readTest_46 : decode cX12_readTest 46 = .ok (.goto 15, 3) := by decide +kernel
theorem dX12_readTest_49 : decode cX12_readTest 49 = .ok (.iload_n 2, 1) := by decide +kernel
theorem dX12_readTest_50 : decode cX12_readTest 50 = .ok (.bipush 42, 2) := by decide +kernel
theorem dX12_readTest_52 : decode cX12_readTest 52 = .ok (.if_icmp .ne 8, 3) := by decide +kernel
theorem dX12_readTest_55 : decode cX12_readTest 55 = .ok (.bipush 8, 2) := by decide +kernel
theorem dX12_readTest_57 : decode cX12_readTest 57 = .ok (.goto 4, 3) := by decide +kernel
theorem dX12_readTest_60 : decode cX12_readTest 60 = .ok (.iconst (-1), 1) := by decide +kernel
theorem dX12_readTest_61 : decode cX12_readTest 61 = .ok (.istore_n 3, 1) := by decide +kernel
theorem dX12_readTest_62 : decode cX12_readTest 62 = .ok (.aload_n 0, 1) := by decide +kernel
theorem dX12_readTest_63 : decode cX12_readTest 63 = .ok (.dup, 1) := by decide +kernel
theorem dX12_readTest_64 : decode cX12_readTest 64 = .ok (.getfield 131, 3) := by decide +kernel
theorem dX12_readTest_67 : decode cX12_readTest 67 = .ok (.iload_n 3, 1) := by decide +kernel
theorem dX12_readTest_68 : decode cX12_readTest 68 = .ok (.iconst (-1), 1) := by decide +kernel
theorem dX12_readTest_69 : decode cX12_readTest 69 = .ok (.if_icmp .ne 7, 3) := by decide +kernel
theorem dX12_readTest_72 : decode cX12_readTest 72 = .ok (.iconst 0, 1) := by decide +kernel
theorem dX12_readTest_73 : decode cX12_readTest 73 = .ok (.goto 4, 3) := by decide +kernel
theorem dX12_readTest_76 : decode cX12_readTest 76 = .ok (.iconst 1, 1) := by decide +kernel
theorem dX12_readTest_77 : decode cX12_readTest 77 = .ok (.iadd, 1) := by decide +kernel
theorem dX12_readTest_78 : decode cX12_readTest 78 = .ok (.putfield 131, 3) := by decide +kernel
theorem dX12_readTest_81 : decode cX12_readTest 81 = .ok (.iload_n 3, 1) := by decide +kernel
theorem dX12_readTest_82 : decode cX12_readTest 82 = .ok (.iconst (-1), 1) := by decide +kernel
theorem dX12_readTest_83 : decode cX12_readTest 83 = .ok (.if_icmp .ne 7, 3) := by decide +kernel
theorem dX12_readTest_86 : decode cX12_readTest 86 = .ok (.iconst (-1), 1) := by decide +kernel
theorem dX12_readTest_87 : decode cX12_readTest 87 = .ok (.goto 9, 3) := by decide +kernel
theorem dX12_readTest_90 : decode cX12_readTest 90 = .ok (.bipush 10, 2) := by decide +kernel
theorem dX12_readTest_92 : decode cX12_readTest 92 = .ok (.iload_n 1, 1) := by decide +kernel
theorem dX12_readTest_93 : decode cX12_readTest 93 = .ok (.imul, 1) := by decide +kernel
theorem dX12_readTest_94 : decode cX12_readTest 94 = .ok (.iload_n 3, 1) := by decide +kernel
theorem dX12_readTest_95 : decode cX12_readTest 95 = .ok (.iadd, 1) := by decide +kernel
theorem dX12_readTest_96 : decode cX12_readTest 96 = .ok (.ireturn, 1) := by decide +kernel
theorem dX12_readShort_0 : decode cX12_readShort 0 = .ok (.iconst 1, 1) := by decide +kernel
theorem dX12_readShort_1 : decode cX12_readShort 1 = .ok (.istore_n 2, 1) := by decide +kernel
theorem dX12_readShort_2 : decode cX12_readShort 2 = .ok (.iload_n 2, 1) := by decide +kernel
theorem dX12_readShort_3 : decode cX12_readShort 3 = .ok (.ifCond .eq 77, 3) := by decide +kernel
theorem dX12_readShort_6 : decode cX12_readShort 6 = .ok (.aload_n 0, 1) := by decide +kernel
theorem dX12_readShort_7 : decode cX12_readShort 7 = .ok (.getfield 28, 3) := by decide +kernel
theorem dX12_readShort_10 : decode cX12_readShort 10 = .ok (.iload_n 1, 1) := by decide +kernel
theorem dX12_readShort_11 : decode cX12_readShort 11 = .ok (.iconst 3, 1) := by decide +kernel
theorem dX12_readShort_12 : decode cX12_readShort 12 = .ok (.iadd, 1) := by decide +kernel
theorem dX12_readShort_13 : decode cX12_readShort 13 = .ok (.iaload, 1) := by decide +kernel
theorem dX12_readShort_14 : decode cX12_readShort 14 = .ok (.istore_n 3, 1) := by decide +kernel
theorem dX12_readShort_15 : decode cX12_readShort 15 = .ok (.iload_n 3, 1) := by decide +kernel
theorem dX12_readShort_16 : decode cX12_readShort 16 = .ok (.iconst 3, 1) := by decide +kernel
theorem dX12_readShort_17 : decode cX12_readShort 17 = .ok (.if_icmp .ne 15, 3) := by decide +kernel
theorem dX12_readShort_20 : decode cX12_readShort 20 = .ok (.aload_n 0, 1) := by decide +kernel
theorem dX12_readShort_21 : decode cX12_readShort 21 = .ok (.dup, 1) := by decide +kernel
theorem dX12_readShort_22 : decode cX12_readShort 22 = .ok (.getfield 131, 3) := by decide +kernel
theorem dX12_readShort_25 : decode cX12_readShort 25 = .ok (.iconst 1, 1) := by decide +kernel
theorem dX12_readShort_26 : decode cX12_readShort 26 = .ok (.isub, 1) := by decide +kernel
theorem dX12_readShort_27 : decode cX12_readShort 27 = .ok (.putfield 131, 3) := by decide +kernel
theorem dX12_readShort_30 : decode cX12_readShort 30 = .ok (.iconst 0, 1) := by decide +kernel
theorem dX12_readShort_31 : decode cX12_readShort 31 = .ok (.ireturn, 1) := by decide +kernel
theorem dX12_readShort_32 : decode cX12_readShort 32 = .ok (.aload_n 0, 1) := by decide +kernel
theorem dX12_readShort_33 : decode cX12_readShort 33 = .ok (.invokevirtual 144, 3) := by decide +kernel
theorem dX12_readShort_36 : decode cX12_readShort 36 = .ok (.istore 4, 2) := by decide +kernel
theorem dX12_readShort_38 : decode cX12_readShort 38 = .ok (.iload 4, 2) := by decide +kernel
theorem dX12_readShort_40 : decode cX12_readShort 40 = .ok (.iconst (-1), 1) := by decide +kernel
theorem dX12_readShort_41 : decode cX12_readShort 41 = .ok (.if_icmp .ne 5, 3) := by decide +kernel
theorem dX12_readShort_44 : decode cX12_readShort 44 = .ok (.iconst 0, 1) := by decide +kernel
theorem dX12_readShort_45 : decode cX12_readShort 45 = .ok (.ireturn, 1) := by decide +kernel
theorem dX12_readShort_46 : decode cX12_readShort 46 = .ok (.aload_n 0, 1) := by decide +kernel
theorem dX12_readShort_47 : decode cX12_readShort 47 = .ok (.getfield 28, 3) := by decide +kernel
theorem dX12_readShort_50 : decode cX12_readShort 50 = .ok (.iload_n 1, 1) := by decide +kernel
theorem dX12_readShort_51 : decode cX12_readShort 51 = .ok (.iconst 4, 1) := by decide +kernel
theorem dX12_readShort_52 : decode cX12_readShort 52 = .ok (.iadd, 1) := by decide +kernel
theorem dX12_readShort_53 : decode cX12_readShort 53 = .ok (.iload_n 3, 1) := by decide +kernel
theorem dX12_readShort_54 : decode cX12_readShort 54 = .ok (.iadd, 1) := by decide +kernel
theorem dX12_readShort_55 : decode cX12_readShort 55 = .ok (.iload 4, 2) := by decide +kernel
theorem dX12_readShort_57 : decode cX12_readShort 57 = .ok (.iastore, 1) := by decide +kernel
theorem dX12_readShort_58 : decode cX12_readShort 58 = .ok (.aload_n 0, 1) := by decide +kernel
theorem dX12_readShort_59 : decode cX12_readShort 59 = .ok (.getfield 28, 3) := by decide +kernel
theorem dX12_readShort_62 : decode cX12_readShort 62 = .ok (.iload_n 1, 1) := by decide +kernel
theorem dX12_readShort_63 : decode cX12_readShort 63 = .ok (.iconst 3, 1) := by decide +kernel
theorem dX12_readShort_64 : decode cX12_readShort 64 = .ok (.iadd, 1) := by decide +kernel
theorem dX12_readShort_65 : decode cX12_readShort 65 = .ok (.dup2, 1) := by decide +kernel
theorem dX12_readShort_66 : decode cX12_readShort 66 = .ok (.iaload, 1) := by decide +kernel
theorem dX12_readShort_67 : decode cX12_readShort 67 = .ok (.iconst 1, 1) := by decide +kernel
theorem dX12_readShort_68 : decode cX12_readShort 68 = .ok (.iadd, 1) := by decide +kernel
theorem dX12_readShort_69 : decode cX12_readShort 69 = .ok (.iastore, 1) := by decide +kernel
theorem dX12_readShort_70 : decode cX12_readShort 70 = .ok (.aload_n 0, 1) := by decide +kernel
theorem dX12_readShort_71 : decode cX12_readShort 71 = .ok (.bipush 47, 2) := by decide +kernel
theorem dX12_readShort_73 : decode cX12_readShort 73 = .ok (.invokevirtual 147, 3) := by decide +kernel
theorem dX12_readShort_76 : decode cX12_readShort 76 = .ok (.istore_n 2, 1) := by decide +kernel
theorem dX12_readShort_77 : decode cX12_readShort 77 = .ok (.goto (-75), 3) := by decide +kernel
theorem dX12_readShort_80 : decode cX12_readShort 80 = .ok (.iconst 1, 1) := by decide +kernel
theorem dX12_readShort_81 : decode cX12_readShort 81 = .ok (.ireturn, 1) := by decide +kernel
theorem dX12_readAtom_0 : decode cX12_readAtom 0 = .ok (.aload_n 0, 1) := by decide +kernel
theorem dX12_readAtom_1 : decode cX12_readAtom 1 = .ok (.invokevirtual 137, 3) := by decide +kernel
theorem dX12_readAtom_4 : decode cX12_readAtom 4 = .ok (.istore_n 2, 1) := by decide +kernel
theorem dX12_readAtom_5 : decode cX12_readAtom 5 = .ok (.aload_n 0, 1) := by decide +kernel
theorem dX12_readAtom_6 : decode cX12_readAtom 6 = .ok (.getfield 28, 3) := by decide +kernel
theorem dX12_readAtom_9 : decode cX12_readAtom 9 = .ok (.iload_n 1, 1) := by decide +kernel
theorem dX12_readAtom_10 : decode cX12_readAtom 10 = .ok (.iconst 2, 1) := by decide +kernel
theorem dX12_readAtom_11 : decode cX12_readAtom 11 = .ok (.iadd, 1) := by decide +kernel
theorem dX12_readAtom_12 : decode cX12_readAtom 12 = .ok (.iconst 0, 1) := by decide +kernel
theorem dX12_readAtom_13 : decode cX12_readAtom 13 = .ok (.iastore, 1) := by decide +kernel
theorem dX12_readAtom_14 : decode cX12_readAtom 14 = .ok (.aload_n 0, 1) := by decide +kernel
theorem dX12_readAtom_15 : decode cX12_readAtom 15 = .ok (.getfield 28, 3) := by decide +kernel
theorem dX12_readAtom_18 : decode cX12_readAtom 18 = .ok (.iload_n 1, 1) := by decide +kernel
theorem dX12_readAtom_19 : decode cX12_readAtom 19 = .ok (.iconst 3, 1) := by decide +kernel
theorem dX12_readAtom_20 : decode cX12_readAtom 20 = .ok (.iadd, 1) := by decide +kernel
theorem dX12_readAtom_21 : decode cX12_readAtom 21 = .ok (.iconst 0, 1) := by decide +kernel
theorem dX12_readAtom_22 : decode cX12_readAtom 22 = .ok (.iastore, 1) := by decide +kernel
theorem dX12_readAtom_23 : decode cX12_readAtom 23 = .ok (.iload_n 2, 1) := by decide +kernel
theorem dX12_readAtom_24 : decode cX12_readAtom 24 = .ok (.bipush 49, 2) := by decide +kernel
theorem dX12_readAtom_26 : decode cX12_readAtom 26 = .ok (.bipush 57, 2) := by decide +kernel
theorem dX12_readAtom_28 : decode cX12_readAtom 28 = .ok (.invokestatic 69, 3) := by decide +kernel
theorem dX12_readAtom_31 : decode cX12_readAtom 31 = .ok (.ifCond .eq 36, 3) := by decide +kernel
theorem dX12_readAtom_34 : decode cX12_readAtom 34 = .ok (.aload_n 0, 1) := by decide +kernel
theorem dX12_readAtom_35 : decode cX12_readAtom 35 = .ok (.getfield 28, 3) := by decide +kernel
theorem dX12_readAtom_38 : decode cX12_readAtom 38 = .ok (.iload_n 1, 1) := by decide +kernel
theorem dX12_readAtom_39 : decode cX12_readAtom 39 = .ok (.iconst 1, 1) := by decide +kernel
theorem dX12_readAtom_40 : decode cX12_readAtom 40 = .ok (.iadd, 1) := by decide +kernel
theorem dX12_readAtom_41 : decode cX12_readAtom 41 = .ok (.iconst 0, 1) := by decide +kernel
theorem dX12_readAtom_42 : decode cX12_readAtom 42 = .ok (.iastore, 1) := by decide +kernel
theorem dX12_readAtom_43 : decode cX12_readAtom 43 = .ok (.aload_n 0, 1) := by decide +kernel
theorem dX12_readAtom_44 : decode cX12_readAtom 44 = .ok (.getfield 28, 3) := by decide +kernel
theorem dX12_readAtom_47 : decode cX12_readAtom 47 = .ok (.iload_n 1, 1) := by decide +kernel
theorem dX12_readAtom_48 : decode cX12_readAtom 48 = .ok (.iconst 2, 1) := by decide +kernel
theorem dX12_readAtom_49 : decode cX12_readAtom 49 = .ok (.iadd, 1) := by decide +kernel
theorem dX12_readAtom_50 : decode cX12_readAtom 50 = .ok (.iload_n 2, 1) := by decide +kernel
theorem dX12_readAtom_51 : decode cX12_readAtom 51 = .ok (.bipush 48, 2) := by decide +kernel
theorem dX12_readAtom_53 : decode cX12_readAtom 53 = .ok (.isub, 1) := by decide +kernel
theorem dX12_readAtom_54 : decode cX12_readAtom 54 = .ok (.iastore, 1) := by decide +kernel
theorem dX12_readAtom_55 : decode cX12_readAtom 55 = .ok (.aload_n 0, 1) := by decide +kernel
theorem dX12_readAtom_56 : decode cX12_readAtom 56 = .ok (.dup, 1) := by decide +kernel
theorem dX12_readAtom_57 : decode cX12_readAtom 57 = .ok (.getfield 131, 3) := by decide +kernel
theorem dX12_readAtom_60 : decode cX12_readAtom 60 = .ok (.iconst 1, 1) := by decide +kernel
theorem dX12_readAtom_61 : decode cX12_readAtom 61 = .ok (.iadd, 1) := by decide +kernel
theorem dX12_readAtom_62 : decode cX12_readAtom 62 = .ok (.putfield 131, 3) := by decide +kernel
theorem dX12_readAtom_65 : decode cX12_readAtom 65 = .ok (.iconst 1, 1) := by decide +kernel
theorem dX12_readAtom_66 : decode cX12_readAtom 66 = .ok (.ireturn, 1) := by decide +kernel
theorem dX12_readAtom_67 : decode cX12_readAtom 67 = .ok (.aload_n 0, 1) := by decide +kernel
theorem dX12_readAtom_68 : decode cX12_readAtom 68 = .ok (.getfield 28, 3) := by decide +kernel
theorem dX12_readAtom_71 : decode cX12_readAtom 71 = .ok (.iload_n 1, 1) := by decide +kernel
theorem dX12_readAtom_72 : decode cX12_readAtom 72 = .ok (.iconst 1, 1) := by decide +kernel
theorem dX12_readAtom_73 : decode cX12_readAtom 73 = .ok (.iadd, 1) := by decide +kernel
theorem dX12_readAtom_74 : decode cX12_readAtom 74 = .ok (.iload_n 2, 1) := by decide +kernel
theorem dX12_readAtom_75 : decode cX12_readAtom 75 = .ok (.bipush 36, 2) := by decide +kernel
theorem dX12_readAtom_77 : decode cX12_readAtom 77 = .ok (.if_icmp .ne 7, 3) := by decide +kernel
theorem dX12_readAtom_80 : decode cX12_readAtom 80 = .ok (.iconst 1, 1) := by decide +kernel
theorem dX12_readAtom_81 : decode cX12_readAtom 81 = .ok (.goto 14, 3) := by decide +kernel
theorem dX12_readAtom_84 : decode cX12_readAtom 84 = .ok (.iload_n 2, 1) := by decide +kernel
theorem dX12_readAtom_85 : decode cX12_readAtom 85 = .ok (.bipush 61, 2) := by decide +kernel
theorem dX12_readAtom_87 : decode cX12_readAtom 87 = .ok (.if_icmp .ne 7, 3) := by decide +kernel
theorem dX12_readAtom_90 : decode cX12_readAtom 90 = .ok (.iconst 2, 1) := by decide +kernel
theorem dX12_readAtom_91 : decode cX12_readAtom 91 = .ok (.goto 4, 3) := by decide +kernel
theorem dX12_readAtom_94 : decode cX12_readAtom 94 = .ok (.iconst 3, 1) := by decide +kernel
theorem dX12_readAtom_95 : decode cX12_readAtom 95 = .ok (.iastore, 1) := by decide +kernel
theorem dX12_readAtom_96 : decode cX12_readAtom 96 = .ok (.iload_n 2, 1) := by decide +kernel
theorem dX12_readAtom_97 : decode cX12_readAtom 97 = .ok (.bipush 36, 2) := by decide +kernel
theorem dX12_readAtom_99 : decode cX12_readAtom 99 = .ok (.if_icmp .eq 17, 3) := by decide +kernel
theorem dX12_readAtom_102 : decode cX12_readAtom 102 = .ok (.iload_n 2, 1) := by decide +kernel
theorem dX12_readAtom_103 : decode cX12_readAtom 103 = .ok (.bipush 61, 2) := by decide +kernel
theorem dX12_readAtom_105 : decode cX12_readAtom 105 = .ok (.if_icmp .eq 11, 3) := by decide +kernel
theorem dX12_readAtom_108 : decode cX12_readAtom 108 = .ok (.iload_n 2, 1) := by decide +kernel
theorem dX12_readAtom_109 : decode cX12_readAtom 109 = .ok (.bipush 63, 2) := by decide +kernel
theorem dX12_readAtom_111 : decode cX12_readAtom 111 = .ok (.if_icmp .eq 5, 3) := by decide +kernel
theorem dX12_readAtom_114 : decode cX12_readAtom 114 = .ok (.iconst 0, 1) := by decide +kernel
theorem dX12_readAtom_115 : decode cX12_readAtom 115 = .ok (.ireturn, 1) := by decide +kernel
theorem dX12_readAtom_116 : decode cX12_readAtom 116 = .ok (.aload_n 0, 1) := by decide +kernel
theorem dX12_readAtom_117 : decode cX12_readAtom 117 = .ok (.dup, 1) := by decide +kernel
theorem dX12_readAtom_118 : decode cX12_readAtom 118 = .ok (.getfield 131, 3) := by decide +kernel
theorem dX12_readAtom_121 : decode cX12_readAtom 121 = .ok (.iconst 1, 1) := by decide +kernel
theorem dX12_readAtom_122 : decode cX12_readAtom 122 = .ok (.iadd, 1) := by decide +kernel
theorem dX12_readAtom_123 : decode cX12_readAtom 123 = .ok (.putfield 131, 3) := by decide +kernel
theorem dX12_readAtom_126 : decode cX12_readAtom 126 = .ok (.iload_n 2, 1) := by decide +kernel
theorem dX12_readAtom_127 : decode cX12_readAtom 127 = .ok (.bipush 61, 2) := by decide +kernel
theorem dX12_readAtom_129 : decode cX12_readAtom 129 = .ok (.if_icmp .ne 58, 3) := by decide +kernel
theorem dX12_readAtom_132 : decode cX12_readAtom 132 = .ok (.aload_n 0, 1) := by decide +kernel
theorem dX12_readAtom_133 : decode cX12_readAtom 133 = .ok (.invokevirtual 137, 3) := by decide +kernel
theorem dX12_readAtom_136 : decode cX12_readAtom 136 = .ok (.bipush 48, 2) := by decide +kernel
theorem dX12_readAtom_138 : decode cX12_readAtom 138 = .ok (.bipush 57, 2) := by decide +kernel
theorem dX12_readAtom_140 : decode cX12_readAtom 140 = .ok (.invokestatic 69, 3) := by decide +kernel
theorem dX12_readAtom_143 : decode cX12_readAtom 143 = .ok (.istore_n 3, 1) := by decide +kernel
theorem dX12_readAtom_144 : decode cX12_readAtom 144 = .ok (.aload_n 0, 1) := by decide +kernel
theorem dX12_readAtom_145 : decode cX12_readAtom 145 = .ok (.getfield 28, 3) := by decide +kernel
theorem dX12_readAtom_148 : decode cX12_readAtom 148 = .ok (.iload_n 1, 1) := by decide +kernel
theorem dX12_readAtom_149 : decode cX12_readAtom 149 = .ok (.iconst 2, 1) := by decide +kernel
theorem dX12_readAtom_150 : decode cX12_readAtom 150 = .ok (.iadd, 1) := by decide +kernel
theorem dX12_readAtom_151 : decode cX12_readAtom 151 = .ok (.iload_n 3, 1) := by decide +kernel
theorem dX12_readAtom_152 : decode cX12_readAtom 152 = .ok (.ifCond .eq 13, 3) := by decide +kernel
theorem dX12_readAtom_155 : decode cX12_readAtom 155 = .ok (.aload_n 0, 1) := by decide +kernel
theorem dX12_readAtom_156 : decode cX12_readAtom 156 = .ok (.invokevirtual 137, 3) := by decide +kernel
theorem dX12_readAtom_159 : decode cX12_readAtom 159 = .ok (.bipush 48, 2) := by decide +kernel
theorem dX12_readAtom_161 : decode cX12_readAtom 161 = .ok (.isub, 1) := by decide +kernel
theorem dX12_readAtom_162 : decode cX12_readAtom 162 = .ok (.goto 4, 3) := by decide +kernel
theorem dX12_readAtom_165 : decode cX12_readAtom 165 = .ok (.iconst 0, 1) := by decide +kernel
theorem dX12_readAtom_166 : decode cX12_readAtom 166 = .ok (.iastore, 1) := by decide +kernel
theorem dX12_readAtom_167 : decode cX12_readAtom 167 = .ok (.aload_n 0, 1) := by decide +kernel
theorem dX12_readAtom_168 : decode cX12_readAtom 168 = .ok (.dup, 1) := by decide +kernel
theorem dX12_readAtom_169 : decode cX12_readAtom 169 = .ok (.getfield 131, 3) := by decide +kernel
theorem dX12_readAtom_172 : decode cX12_readAtom 172 = .ok (.iload_n 3, 1) := by decide +kernel
theorem dX12_readAtom_173 : decode cX12_readAtom 173 = .ok (.ifCond .eq 7, 3) := by decide +kernel
theorem dX12_readAtom_176 : decode cX12_readAtom 176 = .ok (.iconst 1, 1) := by decide +kernel
theorem dX12_readAtom_177 : decode cX12_readAtom 177 = .ok (.goto 4, 3) := by decide +kernel
theorem dX12_readAtom_180 : decode cX12_readAtom 180 = .ok (.iconst 0, 1) := by decide +kernel
theorem dX12_readAtom_181 : decode cX12_readAtom 181 = .ok (.iadd, 1) := by decide +kernel
theorem dX12_readAtom_182 : decode cX12_readAtom 182 = .ok (.putfield 131, 3) := by decide +kernel
theorem dX12_readAtom_185 : decode cX12_readAtom 185 = .ok (.iload_n 3, 1) := by decide +kernel
theorem dX12_readAtom_186 : decode cX12_readAtom 186 = .ok (.ireturn, 1) := by decide +kernel
theorem dX12_readAtom_187 : decode cX12_readAtom 187 = .ok (.iload_n 2, 1) := by decide +kernel
theorem dX12_readAtom_188 : decode cX12_readAtom 188 = .ok (.bipush 36, 2) := by decide +kernel
theorem dX12_readAtom_190 : decode cX12_readAtom 190 = .ok (.if_icmp .eq 11, 3) := by decide +kernel
theorem dX12_readAtom_193 : decode cX12_readAtom 193 = .ok (.aload_n 0, 1) := by decide +kernel
theorem dX12_readAtom_194 : decode cX12_readAtom 194 = .ok (.iload_n 1, 1) := by decide +kernel
theorem dX12_readAtom_195 : decode cX12_readAtom 195 = .ok (.invokevirtual 150, 3) := by decide +kernel
theorem dX12_readAtom_198 : decode cX12_readAtom 198 = .ok (.ifCond .eq 7, 3) := by decide +kernel
theorem dX12_readAtom_201 : decode cX12_readAtom 201 = .ok (.iconst 1, 1) := by decide +kernel
theorem dX12_readAtom_202 : decode cX12_readAtom 202 = .ok (.goto 4, 3) := by decide +kernel
theorem dX12_readAtom_205 : decode cX12_readAtom 205 = .ok (.iconst 0, 1) := by decide +kernel
theorem dX12_readAtom_206 : decode cX12_readAtom 206 = .ok (.ireturn, 1) := by decide +kernel
theorem dX12_readAlternative_0 : decode cX12_readAlternative 0 = .ok (.aload_n 0, 1) := by decide +kernel
theorem dX12_readAlternative_1 : decode cX12_readAlternative 1 = .ok (.getfield 28, 3) := by decide +kernel
theorem dX12_readAlternative_4 : decode cX12_readAlternative 4 = .ok (.iload_n 1, 1) := by decide +kernel
theorem dX12_readAlternative_5 : decode cX12_readAlternative 5 = .ok (.iconst 0, 1) := by decide +kernel
theorem dX12_readAlternative_6 : decode cX12_readAlternative 6 = .ok (.iastore, 1) := by decide +kernel
theorem dX12_readAlternative_7 : decode cX12_readAlternative 7 = .ok (.iconst 1, 1) := by decide +kernel
theorem dX12_readAlternative_8 : decode cX12_readAlternative 8 = .ok (.istore_n 2, 1) := by decide +kernel
theorem dX12_readAlternative_9 : decode cX12_readAlternative 9 = .ok (.iload_n 2, 1) := by decide +kernel
theorem dX12_readAlternative_10 : decode cX12_readAlternative 10 = .ok (.ifCond .eq 106, 3) := by decide +kernel
theorem dX12_readAlternative_13 : decode cX12_readAlternative 13 = .ok (.iload_n 1, 1) := by decide +kernel
theorem dX12_readAlternative_14 : decode cX12_readAlternative 14 = .ok (.aload_n 0, 1) := by decide +kernel
theorem dX12_readAlternative_15 : decode cX12_readAlternative 15 = .ok (.getfield 28, 3) := by decide +kernel
theorem dX12_readAlternative_18 : decode cX12_readAlternative 18 = .ok (.iload_n 1, 1) := by decide +kernel
theorem dX12_readAlternative_19 : decode cX12_readAlternative 19 = .ok (.iaload, 1) := by decide +kernel
theorem dX12_readAlternative_20 : decode cX12_readAlternative 20 = .ok (.invokestatic 153, 3) := by decide +kernel
theorem dX12_readAlternative_23 : decode cX12_readAlternative 23 = .ok (.istore_n 3, 1) := by decide +kernel
theorem dX12_readAlternative_24 : decode cX12_readAlternative 24 = .ok (.aload_n 0, 1) := by decide +kernel
theorem dX12_readAlternative_25 : decode cX12_readAlternative 25 = .ok (.getfield 28, 3) := by decide +kernel
theorem dX12_readAlternative_28 : decode cX12_readAlternative 28 = .ok (.iload_n 3, 1) := by decide +kernel
theorem dX12_readAlternative_29 : decode cX12_readAlternative 29 = .ok (.aload_n 0, 1) := by decide +kernel
theorem dX12_readAlternative_30 : decode cX12_readAlternative 30 = .ok (.bipush 45, 2) := by decide +kernel
theorem dX12_readAlternative_32 : decode cX12_readAlternative 32 = .ok (.invokevirtual 147, 3) := by decide +kernel
theorem dX12_readAlternative_35 : decode cX12_readAlternative 35 = .ok (.ifCond .eq 7, 3) := by decide +kernel
theorem dX12_readAlternative_38 : decode cX12_readAlternative 38 = .ok (.iconst 1, 1) := by decide +kernel
theorem dX12_readAlternative_39 : decode cX12_readAlternative 39 = .ok (.goto 4, 3) := by decide +kernel
theorem dX12_readAlternative_42 : decode cX12_readAlternative 42 = .ok (.iconst 0, 1) := by decide +kernel
theorem dX12_readAlternative_43 : decode cX12_readAlternative 43 = .ok (.iastore, 1) := by decide +kernel
theorem dX12_readAlternative_44 : decode cX12_readAlternative 44 = .ok (.aload_n 0, 1) := by decide +kernel
theorem dX12_readAlternative_45 : decode cX12_readAlternative 45 = .ok (.iload_n 3, 1) := by decide +kernel
theorem dX12_readAlternative_46 : decode cX12_readAlternative 46 = .ok (.invokevirtual 156, 3) := by decide +kernel
theorem dX12_readAlternative_49 : decode cX12_readAlternative 49 = .ok (.ifCond .ne 5, 3) := by decide +kernel
theorem dX12_readAlternative_52 : decode cX12_readAlternative 52 = .ok (.iconst 0, 1) := by decide +kernel
theorem dX12_readAlternative_53 : decode cX12_readAlternative 53 = .ok (.ireturn, 1) := by decide +kernel
theorem dX12_readAlternative_54 : decode cX12_readAlternative 54 = .ok (.aload_n 0, 1) := by decide +kernel
theorem dX12_readAlternative_55 : decode cX12_readAlternative 55 = .ok (.getfield 28, 3) := by decide +kernel
theorem dX12_readAlternative_58 : decode cX12_readAlternative 58 = .ok (.iload_n 1, 1) := by decide +kernel
theorem dX12_readAlternative_59 : decode cX12_readAlternative 59 = .ok (.dup2, 1) := by decide +kernel
theorem dX12_readAlternative_60 : decode cX12_readAlternative 60 = .ok (.iaload, 1) := by decide +kernel
theorem dX12_readAlternative_61 : decode cX12_readAlternative 61 = .ok (.iconst 1, 1) := by decide +kernel
theorem dX12_readAlternative_62 : decode cX12_readAlternative 62 = .ok (.iadd, 1) := by decide +kernel
theorem dX12_readAlternative_63 : decode cX12_readAlternative 63 = .ok (.iastore, 1) := by decide +kernel
theorem dX12_readAlternative_64 : decode cX12_readAlternative 64 = .ok (.aload_n 0, 1) := by decide +kernel
theorem dX12_readAlternative_65 : decode cX12_readAlternative 65 = .ok (.invokevirtual 137, 3) := by decide +kernel
theorem dX12_readAlternative_68 : decode cX12_readAlternative 68 = .ok (.bipush 44, 2) := by decide +kernel
theorem dX12_readAlternative_70 : decode cX12_readAlternative 70 = .ok (.if_icmp .ne 7, 3) := by decide +kernel
theorem dX12_readAlternative_73 : decode cX12_readAlternative 73 = .ok (.iconst 1, 1) := by decide +kernel
theorem dX12_readAlternative_74 : decode cX12_readAlternative 74 = .ok (.goto 4, 3) := by decide +kernel
theorem dX12_readAlternative_77 : decode cX12_readAlternative 77 = .ok (.iconst 0, 1) := by decide +kernel
theorem dX12_readAlternative_78 : decode cX12_readAlternative 78 = .ok (.istore_n 2, 1) := by decide +kernel
theorem dX12_readAlternative_79 : decode cX12_readAlternative 79 = .ok (.iload_n 2, 1) := by decide +kernel
theorem dX12_readAlternative_80 : decode cX12_readAlternative 80 = .ok (.ifCond .eq 15, 3) := by decide +kernel
theorem dX12_readAlternative_83 : decode cX12_readAlternative 83 = .ok (.aload_n 0, 1) := by decide +kernel
theorem dX12_readAlternative_84 : decode cX12_readAlternative 84 = .ok (.getfield 28, 3) := by decide +kernel
theorem dX12_readAlternative_87 : decode cX12_readAlternative 87 = .ok (.iload_n 1, 1) := by decide +kernel
theorem dX12_readAlternative_88 : decode cX12_readAlternative 88 = .ok (.iaload, 1) := by decide +kernel
theorem dX12_readAlternative_89 : decode cX12_readAlternative 89 = .ok (.iconst 3, 1) := by decide +kernel
theorem dX12_readAlternative_90 : decode cX12_readAlternative 90 = .ok (.if_icmp .ne 5, 3) := by decide +kernel
theorem dX12_readAlternative_93 : decode cX12_readAlternative 93 = .ok (.iconst 0, 1) := by decide +kernel
theorem dX12_readAlternative_94 : decode cX12_readAlternative 94 = .ok (.ireturn, 1) := by decide +kernel
theorem dX12_readAlternative_95 : decode cX12_readAlternative 95 = .ok (.aload_n 0, 1) := by decide +kernel
theorem dX12_readAlternative_96 : decode cX12_readAlternative 96 = .ok (.dup, 1) := by decide +kernel
theorem dX12_readAlternative_97 : decode cX12_readAlternative 97 = .ok (.getfield 131, 3) := by decide +kernel
theorem dX12_readAlternative_100 : decode cX12_readAlternative 100 = .ok (.iload_n 2, 1) := by decide +kernel
theorem dX12_readAlternative_101 : decode cX12_readAlternative 101 = .ok (.ifCond .eq 7, 3) := by decide +kernel
theorem dX12_readAlternative_104 : decode cX12_readAlternative 104 = .ok (.iconst 1, 1) := by decide +kernel
theorem dX12_readAlternative_105 : decode cX12_readAlternative 105 = .ok (.goto 4, 3) := by decide +kernel
theorem dX12_readAlternative_108 : decode cX12_readAlternative 108 = .ok (.iconst 0, 1) := by decide +kernel
theorem dX12_readAlternative_109 : decode cX12_readAlternative 109 = .ok (.iadd, 1) := by decide +kernel
theorem dX12_readAlternative_110 : decode cX12_readAlternative 110 = .ok (.putfield 131, 3) := by decide +kernel
theorem dX12_readAlternative_113 : decode cX12_readAlternative 113 = .ok (.goto (-104), 3) := by decide +kernel
theorem dX12_readAlternative_116 : decode cX12_readAlternative 116 = .ok (.iconst 1, 1) := by decide +kernel
theorem dX12_readAlternative_117 : decode cX12_readAlternative 117 = .ok (.ireturn, 1) := by decide +kernel
theorem dX12_readPredicate_0 : decode cX12_readPredicate 0 = .ok (.aload_n 0, 1) := by decide +kernel
theorem dX12_readPredicate_1 : decode cX12_readPredicate 1 = .ok (.getfield 28, 3) := by decide +kernel
theorem dX12_readPredicate_4 : decode cX12_readPredicate 4 = .ok (.iload_n 1, 1) := by decide +kernel
theorem dX12_readPredicate_5 : decode cX12_readPredicate 5 = .ok (.iconst 0, 1) := by decide +kernel
theorem dX12_readPredicate_6 : decode cX12_readPredicate 6 = .ok (.iastore, 1) := by decide +kernel
theorem dX12_readPredicate_7 : decode cX12_readPredicate 7 = .ok (.iconst 1, 1) := by decide +kernel
theorem dX12_readPredicate_8 : decode cX12_readPredicate 8 = .ok (.istore_n 2, 1) := by decide +kernel
theorem dX12_readPredicate_9 : decode cX12_readPredicate 9 = .ok (.iload_n 2, 1) := by decide +kernel
theorem dX12_readPredicate_10 : decode cX12_readPredicate 10 = .ok (.ifCond .eq 84, 3) := by decide +kernel
theorem dX12_readPredicate_13 : decode cX12_readPredicate 13 = .ok (.aload_n 0, 1) := by decide +kernel
theorem dX12_readPredicate_14 : decode cX12_readPredicate 14 = .ok (.iload_n 1, 1) := by decide +kernel
theorem dX12_readPredicate_15 : decode cX12_readPredicate 15 = .ok (.aload_n 0, 1) := by decide +kernel
theorem dX12_readPredicate_16 : decode cX12_readPredicate 16 = .ok (.getfield 28, 3) := by decide +kernel
theorem dX12_readPredicate_19 : decode cX12_readPredicate 19 = .ok (.iload_n 1, 1) := by decide +kernel
theorem dX12_readPredicate_20 : decode cX12_readPredicate 20 = .ok (.iaload, 1) := by decide +kernel
theorem dX12_readPredicate_21 : decode cX12_readPredicate 21 = .ok (.invokestatic 159, 3) := by decide +kernel
theorem dX12_readPredicate_24 : decode cX12_readPredicate 24 = .ok (.invokevirtual 162, 3) := by decide +kernel
theorem dX12_readPredicate_27 : decode cX12_readPredicate 27 = .ok (.ifCond .ne 5, 3) := by decide +kernel
theorem dX12_readPredicate_30 : decode cX12_readPredicate 30 = .ok (.iconst 0, 1) := by decide +kernel
theorem dX12_readPredicate_31 : decode cX12_readPredicate 31 = .ok (.ireturn, 1) := by decide +kernel
theorem dX12_readPredicate_32 : decode cX12_readPredicate 32 = .ok (.aload_n 0, 1) := by decide +kernel
theorem dX12_readPredicate_33 : decode cX12_readPredicate 33 = .ok (.getfield 28, 3) := by decide +kernel
theorem dX12_readPredicate_36 : decode cX12_readPredicate 36 = .ok (.iload_n 1, 1) := by decide +kernel
theorem dX12_readPredicate_37 : decode cX12_readPredicate 37 = .ok (.dup2, 1) := by decide +kernel
theorem dX12_readPredicate_38 : decode cX12_readPredicate 38 = .ok (.iaload, 1) := by decide +kernel
theorem dX12_readPredicate_39 : decode cX12_readPredicate 39 = .ok (.iconst 1, 1) := by decide +kernel
theorem dX12_readPredicate_40 : decode cX12_readPredicate 40 = .ok (.iadd, 1) := by decide +kernel
theorem dX12_readPredicate_41 : decode cX12_readPredicate 41 = .ok (.iastore, 1) := by decide +kernel
theorem dX12_readPredicate_42 : decode cX12_readPredicate 42 = .ok (.aload_n 0, 1) := by decide +kernel
theorem dX12_readPredicate_43 : decode cX12_readPredicate 43 = .ok (.invokevirtual 137, 3) := by decide +kernel
theorem dX12_readPredicate_46 : decode cX12_readPredicate 46 = .ok (.bipush 43, 2) := by decide +kernel
theorem dX12_readPredicate_48 : decode cX12_readPredicate 48 = .ok (.if_icmp .ne 7, 3) := by decide +kernel
theorem dX12_readPredicate_51 : decode cX12_readPredicate 51 = .ok (.iconst 1, 1) := by decide +kernel
theorem dX12_readPredicate_52 : decode cX12_readPredicate 52 = .ok (.goto 4, 3) := by decide +kernel
theorem dX12_readPredicate_55 : decode cX12_readPredicate 55 = .ok (.iconst 0, 1) := by decide +kernel
theorem dX12_readPredicate_56 : decode cX12_readPredicate 56 = .ok (.istore_n 2, 1) := by decide +kernel
theorem dX12_readPredicate_57 : decode cX12_readPredicate 57 = .ok (.iload_n 2, 1) := by decide +kernel
theorem dX12_readPredicate_58 : decode cX12_readPredicate 58 = .ok (.ifCond .eq 15, 3) := by decide +kernel
theorem dX12_readPredicate_61 : decode cX12_readPredicate 61 = .ok (.aload_n 0, 1) := by decide +kernel
theorem dX12_readPredicate_62 : decode cX12_readPredicate 62 = .ok (.getfield 28, 3) := by decide +kernel
theorem dX12_readPredicate_65 : decode cX12_readPredicate 65 = .ok (.iload_n 1, 1) := by decide +kernel
theorem dX12_readPredicate_66 : decode cX12_readPredicate 66 = .ok (.iaload, 1) := by decide +kernel
theorem dX12_readPredicate_67 : decode cX12_readPredicate 67 = .ok (.iconst 3, 1) := by decide +kernel
theorem dX12_readPredicate_68 : decode cX12_readPredicate 68 = .ok (.if_icmp .ne 5, 3) := by decide +kernel
theorem dX12_readPredicate_71 : decode cX12_readPredicate 71 = .ok (.iconst 0, 1) := by decide +kernel
theorem dX12_readPredicate_72 : decode cX12_readPredicate 72 = .ok (.ireturn, 1) := by decide +kernel
theorem dX12_readPredicate_73 : decode cX12_readPredicate 73 = .ok (.aload_n 0, 1) := by decide +kernel
theorem dX12_readPredicate_74 : decode cX12_readPredicate 74 = .ok (.dup, 1) := by decide +kernel
theorem dX12_readPredicate_75 : decode cX12_readPredicate 75 = .ok (.getfield 131, 3) := by decide +kernel
theorem dX12_readPredicate_78 : decode cX12_readPredicate 78 = .ok (.iload_n 2, 1) := by decide +kernel
theorem dX12_readPredicate_79 : decode cX12_readPredicate 79 = .ok (.ifCond .eq 7, 3) := by decide +kernel
theorem dX12_readPredicate_82 : decode cX12_readPredicate 82 = .ok (.iconst 1, 1) := by decide +kernel
theorem dX12_readPredicate_83 : decode cX12_readPredicate 83 = .ok (.goto 4, 3) := by decide +kernel
theorem dX12_readPredicate_86 : decode cX12_readPredicate 86 = .ok (.iconst 0, 1) := by decide +kernel
theorem dX12_readPredicate_87 : decode cX12_readPredicate 87 = .ok (.iadd, 1) := by decide +kernel
theorem dX12_readPredicate_88 : decode cX12_readPredicate 88 = .ok (.putfield 131, 3) := by decide +kernel
theorem dX12_readPredicate_91 : decode cX12_readPredicate 91 = .ok (.goto (-82), 3) := by decide +kernel
theorem dX12_readPredicate_94 : decode cX12_readPredicate 94 = .ok (.aload_n 0, 1) := by decide +kernel
theorem dX12_readPredicate_95 : decode cX12_readPredicate 95 = .ok (.bipush 93, 2) := by decide +kernel
theorem dX12_readPredicate_97 : decode cX12_readPredicate 97 = .ok (.invokevirtual 147, 3) := by decide +kernel
theorem dX12_readPredicate_100 : decode cX12_readPredicate 100 = .ok (.ireturn, 1) := by decide +kernel
theorem dX12_readStep_0 : decode cX12_readStep 0 = .ok (.aload_n 0, 1) := by decide +kernel
theorem dX12_readStep_1 : decode cX12_readStep 1 = .ok (.getfield 28, 3) := by decide +kernel
theorem dX12_readStep_4 : decode cX12_readStep 4 = .ok (.iload_n 1, 1) := by decide +kernel
theorem dX12_readStep_5 : decode cX12_readStep 5 = .ok (.iconst 1, 1) := by decide +kernel
theorem dX12_readStep_6 : decode cX12_readStep 6 = .ok (.iadd, 1) := by decide +kernel
theorem dX12_readStep_7 : decode cX12_readStep 7 = .ok (.iaload, 1) := by decide +kernel
theorem dX12_readStep_8 : decode cX12_readStep 8 = .ok (.bipush 8, 2) := by decide +kernel
theorem dX12_readStep_10 : decode cX12_readStep 10 = .ok (.if_icmp .ne 5, 3) := by decide +kernel
theorem dX12_readStep_13 : decode cX12_readStep 13 = .ok (.iconst 0, 1) := by decide +kernel
theorem dX12_readStep_14 : decode cX12_readStep 14 = .ok (.ireturn, 1) := by decide +kernel
theorem dX12_readStep_15 : decode cX12_readStep 15 = .ok (.iload_n 1, 1) := by decide +kernel
theorem dX12_readStep_16 : decode cX12_readStep 16 = .ok (.aload_n 0, 1) := by decide +kernel
theorem dX12_readStep_17 : decode cX12_readStep 17 = .ok (.getfield 28, 3) := by decide +kernel
theorem dX12_readStep_20 : decode cX12_readStep 20 = .ok (.iload_n 1, 1) := by decide +kernel
theorem dX12_readStep_21 : decode cX12_readStep 21 = .ok (.iconst 1, 1) := by decide +kernel
theorem dX12_readStep_22 : decode cX12_readStep 22 = .ok (.iadd, 1) := by decide +kernel
theorem dX12_readStep_23 : decode cX12_readStep 23 = .ok (.iaload, 1) := by decide +kernel
theorem dX12_readStep_24 : decode cX12_readStep 24 = .ok (.invokestatic 165, 3) := by decide +kernel
theorem dX12_readStep_27 : decode cX12_readStep 27 = .ok (.istore_n 2, 1) := by decide +kernel
theorem dX12_readStep_28 : decode cX12_readStep 28 = .ok (.aload_n 0, 1) := by decide +kernel
theorem dX12_readStep_29 : decode cX12_readStep 29 = .ok (.invokevirtual 144, 3) := by decide +kernel
theorem dX12_readStep_32 : decode cX12_readStep 32 = .ok (.istore_n 3, 1) := by decide +kernel
theorem dX12_readStep_33 : decode cX12_readStep 33 = .ok (.iload_n 3, 1) := by decide +kernel
theorem dX12_readStep_34 : decode cX12_readStep 34 = .ok (.iconst (-1), 1) := by decide +kernel
theorem dX12_readStep_35 : decode cX12_readStep 35 = .ok (.if_icmp .ne 5, 3) := by decide +kernel
theorem dX12_readStep_38 : decode cX12_readStep 38 = .ok (.iconst 0, 1) := by decide +kernel
theorem dX12_readStep_39 : decode cX12_readStep 39 = .ok (.ireturn, 1) := by decide +kernel
theorem dX12_readStep_40 : decode cX12_readStep 40 = .ok (.aload_n 0, 1) := by decide +kernel
theorem dX12_readStep_41 : decode cX12_readStep 41 = .ok (.getfield 28, 3) := by decide +kernel
theorem dX12_readStep_44 : decode cX12_readStep 44 = .ok (.iload_n 2, 1) := by decide +kernel
theorem dX12_readStep_45 : decode cX12_readStep 45 = .ok (.iload_n 3, 1) := by decide +kernel
theorem dX12_readStep_46 : decode cX12_readStep 46 = .ok (.bipush 10, 2) := by decide +kernel
theorem dX12_readStep_48 : decode cX12_readStep 48 = .ok (.idiv, 1) := by decide +kernel
theorem dX12_readStep_49 : decode cX12_readStep 49 = .ok (.iastore, 1) := by decide +kernel
theorem dX12_readStep_50 : decode cX12_readStep 50 = .ok (.aload_n 0, 1) := by decide +kernel
theorem dX12_readStep_51 : decode cX12_readStep 51 = .ok (.getfield 28, 3) := by decide +kernel
theorem dX12_readStep_54 : decode cX12_readStep 54 = .ok (.iload_n 2, 1) := by decide +kernel
theorem dX12_readStep_55 : decode cX12_readStep 55 = .ok (.iconst 1, 1) := by decide +kernel
theorem dX12_readStep_56 : decode cX12_readStep 56 = .ok (.iadd, 1) := by decide +kernel
theorem dX12_readStep_57 : decode cX12_readStep 57 = .ok (.iload_n 3, 1) := by decide +kernel
theorem dX12_readStep_58 : decode cX12_readStep 58 = .ok (.bipush 10, 2) := by decide +kernel
theorem dX12_readStep_60 : decode cX12_readStep 60 = .ok (.irem, 1) := by decide +kernel
theorem dX12_readStep_61 : decode cX12_readStep 61 = .ok (.iastore, 1) := by decide +kernel
theorem dX12_readStep_62 : decode cX12_readStep 62 = .ok (.aload_n 0, 1) := by decide +kernel
theorem dX12_readStep_63 : decode cX12_readStep 63 = .ok (.getfield 28, 3) := by decide +kernel
theorem dX12_readStep_66 : decode cX12_readStep 66 = .ok (.iload_n 2, 1) := by decide +kernel
theorem dX12_readStep_67 : decode cX12_readStep 67 = .ok (.iconst 2, 1) := by decide +kernel
theorem dX12_readStep_68 : decode cX12_readStep 68 = .ok (.iadd, 1) := by decide +kernel
theorem dX12_readStep_69 : decode cX12_readStep 69 = .ok (.iconst 0, 1) := by decide +kernel
theorem dX12_readStep_70 : decode cX12_readStep 70 = .ok (.iastore, 1) := by decide +kernel
theorem dX12_readStep_71 : decode cX12_readStep 71 = .ok (.aload_n 0, 1) := by decide +kernel
theorem dX12_readStep_72 : decode cX12_readStep 72 = .ok (.invokevirtual 137, 3) := by decide +kernel
theorem dX12_readStep_75 : decode cX12_readStep 75 = .ok (.bipush 91, 2) := by decide +kernel
theorem dX12_readStep_77 : decode cX12_readStep 77 = .ok (.if_icmp .ne 63, 3) := by decide +kernel
theorem dX12_readStep_80 : decode cX12_readStep 80 = .ok (.aload_n 0, 1) := by decide +kernel
theorem dX12_readStep_81 : decode cX12_readStep 81 = .ok (.getfield 28, 3) := by decide +kernel
theorem dX12_readStep_84 : decode cX12_readStep 84 = .ok (.iload_n 2, 1) := by decide +kernel
theorem dX12_readStep_85 : decode cX12_readStep 85 = .ok (.iconst 2, 1) := by decide +kernel
theorem dX12_readStep_86 : decode cX12_readStep 86 = .ok (.iadd, 1) := by decide +kernel
theorem dX12_readStep_87 : decode cX12_readStep 87 = .ok (.iaload, 1) := by decide +kernel
theorem dX12_readStep_88 : decode cX12_readStep 88 = .ok (.iconst 3, 1) := by decide +kernel
theorem dX12_readStep_89 : decode cX12_readStep 89 = .ok (.if_icmp .ne 5, 3) := by decide +kernel
theorem dX12_readStep_92 : decode cX12_readStep 92 = .ok (.iconst 0, 1) := by decide +kernel
theorem dX12_readStep_93 : decode cX12_readStep 93 = .ok (.ireturn, 1) := by decide +kernel
theorem dX12_readStep_94 : decode cX12_readStep 94 = .ok (.aload_n 0, 1) := by decide +kernel
theorem dX12_readStep_95 : decode cX12_readStep 95 = .ok (.dup, 1) := by decide +kernel
theorem dX12_readStep_96 : decode cX12_readStep 96 = .ok (.getfield 131, 3) := by decide +kernel
theorem dX12_readStep_99 : decode cX12_readStep 99 = .ok (.iconst 1, 1) := by decide +kernel
theorem dX12_readStep_100 : decode cX12_readStep 100 = .ok (.iadd, 1) := by decide +kernel
theorem dX12_readStep_101 : decode cX12_readStep 101 = .ok (.putfield 131, 3) := by decide +kernel
theorem dX12_readStep_104 : decode cX12_readStep 104 = .ok (.aload_n 0, 1) := by decide +kernel
theorem dX12_readStep_105 : decode cX12_readStep 105 = .ok (.iload_n 2, 1) := by decide +kernel
theorem dX12_readStep_106 : decode cX12_readStep 106 = .ok (.aload_n 0, 1) := by decide +kernel
theorem dX12_readStep_107 : decode cX12_readStep 107 = .ok (.getfield 28, 3) := by decide +kernel
theorem dX12_readStep_110 : decode cX12_readStep 110 = .ok (.iload_n 2, 1) := by decide +kernel
theorem dX12_readStep_111 : decode cX12_readStep 111 = .ok (.iconst 2, 1) := by decide +kernel
theorem dX12_readStep_112 : decode cX12_readStep 112 = .ok (.iadd, 1) := by decide +kernel
theorem dX12_readStep_113 : decode cX12_readStep 113 = .ok (.iaload, 1) := by decide +kernel
theorem dX12_readStep_114 : decode cX12_readStep 114 = .ok (.invokestatic 168, 3) := by decide +kernel
theorem dX12_readStep_117 : decode cX12_readStep 117 = .ok (.invokevirtual 171, 3) := by decide +kernel
theorem dX12_readStep_120 : decode cX12_readStep 120 = .ok (.ifCond .ne 5, 3) := by decide +kernel
theorem dX12_readStep_123 : decode cX12_readStep 123 = .ok (.iconst 0, 1) := by decide +kernel
theorem dX12_readStep_124 : decode cX12_readStep 124 = .ok (.ireturn, 1) := by decide +kernel
theorem dX12_readStep_125 : decode cX12_readStep 125 = .ok (.aload_n 0, 1) := by decide +kernel
theorem dX12_readStep_126 : decode cX12_readStep 126 = .ok (.getfield 28, 3) := by decide +kernel
theorem dX12_readStep_129 : decode cX12_readStep 129 = .ok (.iload_n 2, 1) := by decide +kernel
theorem dX12_readStep_130 : decode cX12_readStep 130 = .ok (.iconst 2, 1) := by decide +kernel
theorem dX12_readStep_131 : decode cX12_readStep 131 = .ok (.iadd, 1) := by decide +kernel
theorem dX12_readStep_132 : decode cX12_readStep 132 = .ok (.dup2, 1) := by decide +kernel
theorem dX12_readStep_133 : decode cX12_readStep 133 = .ok (.iaload, 1) := by decide +kernel
theorem dX12_readStep_134 : decode cX12_readStep 134 = .ok (.iconst 1, 1) := by decide +kernel
theorem dX12_readStep_135 : decode cX12_readStep 135 = .ok (.iadd, 1) := by decide +kernel
theorem dX12_readStep_136 : decode cX12_readStep 136 = .ok (.iastore, 1) := by decide +kernel
theorem dX12_readStep_137 : decode cX12_readStep 137 = .ok (.goto (-66), 3) := by decide +kernel
theorem dX12_readStep_140 : decode cX12_readStep 140 = .ok (.aload_n 0, 1) := by decide +kernel
theorem dX12_readStep_141 : decode cX12_readStep 141 = .ok (.getfield 28, 3) := by decide +kernel
theorem dX12_readStep_144 : decode cX12_readStep 144 = .ok (.iload_n 1, 1) := by decide +kernel
theorem dX12_readStep_145 : decode cX12_readStep 145 = .ok (.iconst 1, 1) := by decide +kernel
theorem dX12_readStep_146 : decode cX12_readStep 146 = .ok (.iadd, 1) := by decide +kernel
theorem dX12_readStep_147 : decode cX12_readStep 147 = .ok (.dup2, 1) := by decide +kernel
theorem dX12_readStep_148 : decode cX12_readStep 148 = .ok (.iaload, 1) := by decide +kernel
theorem dX12_readStep_149 : decode cX12_readStep 149 = .ok (.iconst 1, 1) := by decide +kernel
theorem dX12_readStep_150 : decode cX12_readStep 150 = .ok (.iadd, 1) := by decide +kernel
theorem dX12_readStep_151 : decode cX12_readStep 151 = .ok (.iastore, 1) := by decide +kernel
theorem dX12_readStep_152 : decode cX12_readStep 152 = .ok (.iconst 1, 1) := by decide +kernel
theorem dX12_readStep_153 : decode cX12_readStep 153 = .ok (.ireturn, 1) := by decide +kernel
theorem dX12_readSlash_0 : decode cX12_readSlash 0 = .ok (.aload_n 0, 1) := by decide +kernel
theorem dX12_readSlash_1 : decode cX12_readSlash 1 = .ok (.invokevirtual 137, 3) := by decide +kernel
theorem dX12_readSlash_4 : decode cX12_readSlash 4 = .ok (.bipush 47, 2) := by decide +kernel
theorem dX12_readSlash_6 : decode cX12_readSlash 6 = .ok (.if_icmp .eq 5, 3) := by decide +kernel
theorem dX12_readSlash_9 : decode cX12_readSlash 9 = .ok (.iconst 1, 1) := by decide +kernel
theorem dX12_readSlash_10 : decode cX12_readSlash 10 = .ok (.ireturn, 1) := by decide +kernel
theorem dX12_readSlash_11 : decode cX12_readSlash 11 = .ok (.aload_n 0, 1) := by decide +kernel
theorem dX12_readSlash_12 : decode cX12_readSlash 12 = .ok (.getfield 28, 3) := by decide +kernel
theorem dX12_readSlash_15 : decode cX12_readSlash 15 = .ok (.iload_n 1, 1) := by decide +kernel
theorem dX12_readSlash_16 : decode cX12_readSlash 16 = .ok (.iconst 1, 1) := by decide +kernel
theorem dX12_readSlash_17 : decode cX12_readSlash 17 = .ok (.iadd, 1) := by decide +kernel
theorem dX12_readSlash_18 : decode cX12_readSlash 18 = .ok (.iaload, 1) := by decide +kernel
theorem dX12_readSlash_19 : decode cX12_readSlash 19 = .ok (.bipush 8, 2) := by decide +kernel
theorem dX12_readSlash_21 : decode cX12_readSlash 21 = .ok (.if_icmp .ne 5, 3) := by decide +kernel
theorem dX12_readSlash_24 : decode cX12_readSlash 24 = .ok (.iconst 0, 1) := by decide +kernel
theorem dX12_readSlash_25 : decode cX12_readSlash 25 = .ok (.ireturn, 1) := by decide +kernel
theorem dX12_readSlash_26 : decode cX12_readSlash 26 = .ok (.iload_n 1, 1) := by decide +kernel
theorem dX12_readSlash_27 : decode cX12_readSlash 27 = .ok (.aload_n 0, 1) := by decide +kernel
theorem dX12_readSlash_28 : decode cX12_readSlash 28 = .ok (.getfield 28, 3) := by decide +kernel
theorem dX12_readSlash_31 : decode cX12_readSlash 31 = .ok (.iload_n 1, 1) := by decide +kernel
theorem dX12_readSlash_32 : decode cX12_readSlash 32 = .ok (.iconst 1, 1) := by decide +kernel
theorem dX12_readSlash_33 : decode cX12_readSlash 33 = .ok (.iadd, 1) := by decide +kernel
theorem dX12_readSlash_34 : decode cX12_readSlash 34 = .ok (.iaload, 1) := by decide +kernel
theorem dX12_readSlash_35 : decode cX12_readSlash 35 = .ok (.invokestatic 165, 3) := by decide +kernel
theorem dX12_readSlash_38 : decode cX12_readSlash 38 = .ok (.istore_n 2, 1) := by decide +kernel
theorem dX12_readSlash_39 : decode cX12_readSlash 39 = .ok (.aload_n 0, 1) := by decide +kernel
theorem dX12_readSlash_40 : decode cX12_readSlash 40 = .ok (.getfield 28, 3) := by decide +kernel
theorem dX12_readSlash_43 : decode cX12_readSlash 43 = .ok (.iload_n 2, 1) := by decide +kernel
theorem dX12_readSlash_44 : decode cX12_readSlash 44 = .ok (.iconst 3, 1) := by decide +kernel
theorem dX12_readSlash_45 : decode cX12_readSlash 45 = .ok (.iastore, 1) := by decide +kernel
theorem dX12_readSlash_46 : decode cX12_readSlash 46 = .ok (.aload_n 0, 1) := by decide +kernel
theorem dX12_readSlash_47 : decode cX12_readSlash 47 = .ok (.getfield 28, 3) := by decide +kernel
theorem dX12_readSlash_50 : decode cX12_readSlash 50 = .ok (.iload_n 2, 1) := by decide +kernel
theorem dX12_readSlash_51 : decode cX12_readSlash 51 = .ok (.iconst 1, 1) := by decide +kernel
theorem dX12_readSlash_52 : decode cX12_readSlash 52 = .ok (.iadd, 1) := by decide +kernel
theorem dX12_readSlash_53 : decode cX12_readSlash 53 = .ok (.bipush 8, 2) := by decide +kernel
theorem dX12_readSlash_55 : decode cX12_readSlash 55 = .ok (.iastore, 1) := by decide +kernel
theorem dX12_readSlash_56 : decode cX12_readSlash 56 = .ok (.aload_n 0, 1) := by decide +kernel
theorem dX12_readSlash_57 : decode cX12_readSlash 57 = .ok (.getfield 28, 3) := by decide +kernel
theorem dX12_readSlash_60 : decode cX12_readSlash 60 = .ok (.iload_n 2, 1) := by decide +kernel
theorem dX12_readSlash_61 : decode cX12_readSlash 61 = .ok (.iconst 2, 1) := by decide +kernel
theorem dX12_readSlash_62 : decode cX12_readSlash 62 = .ok (.iadd, 1) := by decide +kernel
theorem dX12_readSlash_63 : decode cX12_readSlash 63 = .ok (.iconst 0, 1) := by decide +kernel
theorem dX12_readSlash_64 : decode cX12_readSlash 64 = .ok (.iastore, 1) := by decide +kernel
theorem dX12_readSlash_65 : decode cX12_readSlash 65 = .ok (.aload_n 0, 1) := by decide +kernel
theorem dX12_readSlash_66 : decode cX12_readSlash 66 = .ok (.getfield 28, 3) := by decide +kernel
theorem dX12_readSlash_69 : decode cX12_readSlash 69 = .ok (.iload_n 1, 1) := by decide +kernel
theorem dX12_readSlash_70 : decode cX12_readSlash 70 = .ok (.iconst 1, 1) := by decide +kernel
theorem dX12_readSlash_71 : decode cX12_readSlash 71 = .ok (.iadd, 1) := by decide +kernel
theorem dX12_readSlash_72 : decode cX12_readSlash 72 = .ok (.dup2, 1) := by decide +kernel
theorem dX12_readSlash_73 : decode cX12_readSlash 73 = .ok (.iaload, 1) := by decide +kernel
theorem dX12_readSlash_74 : decode cX12_readSlash 74 = .ok (.iconst 1, 1) := by decide +kernel
theorem dX12_readSlash_75 : decode cX12_readSlash 75 = .ok (.iadd, 1) := by decide +kernel
theorem dX12_readSlash_76 : decode cX12_readSlash 76 = .ok (.iastore, 1) := by decide +kernel
theorem dX12_readSlash_77 : decode cX12_readSlash 77 = .ok (.aload_n 0, 1) := by decide +kernel
theorem dX12_readSlash_78 : decode cX12_readSlash 78 = .ok (.dup, 1) := by decide +kernel
theorem dX12_readSlash_79 : decode cX12_readSlash 79 = .ok (.getfield 131, 3) := by decide +kernel
theorem dX12_readSlash_82 : decode cX12_readSlash 82 = .ok (.iconst 1, 1) := by decide +kernel
theorem dX12_readSlash_83 : decode cX12_readSlash 83 = .ok (.iadd, 1) := by decide +kernel
theorem dX12_readSlash_84 : decode cX12_readSlash 84 = .ok (.putfield 131, 3) := by decide +kernel
theorem dX12_readSlash_87 : decode cX12_readSlash 87 = .ok (.iconst 1, 1) := by decide +kernel
theorem dX12_readSlash_88 : decode cX12_readSlash 88 = .ok (.ireturn, 1) := by decide +kernel
theorem dX12_readPath_0 : decode cX12_readPath 0 = .ok (.aload_n 0, 1) := by decide +kernel
theorem dX12_readPath_1 : decode cX12_readPath 1 = .ok (.getfield 28, 3) := by decide +kernel
theorem dX12_readPath_4 : decode cX12_readPath 4 = .ok (.iload_n 1, 1) := by decide +kernel
theorem dX12_readPath_5 : decode cX12_readPath 5 = .ok (.iconst 1, 1) := by decide +kernel
theorem dX12_readPath_6 : decode cX12_readPath 6 = .ok (.iadd, 1) := by decide +kernel
theorem dX12_readPath_7 : decode cX12_readPath 7 = .ok (.iconst 0, 1) := by decide +kernel
theorem dX12_readPath_8 : decode cX12_readPath 8 = .ok (.iastore, 1) := by decide +kernel
theorem dX12_readPath_9 : decode cX12_readPath 9 = .ok (.aload_n 0, 1) := by decide +kernel
theorem dX12_readPath_10 : decode cX12_readPath 10 = .ok (.getfield 28, 3) := by decide +kernel
theorem dX12_readPath_13 : decode cX12_readPath 13 = .ok (.iload_n 1, 1) := by decide +kernel
theorem dX12_readPath_14 : decode cX12_readPath 14 = .ok (.aload_n 0, 1) := by decide +kernel
theorem dX12_readPath_15 : decode cX12_readPath 15 = .ok (.bipush 47, 2) := by decide +kernel
theorem dX12_readPath_17 : decode cX12_readPath 17 = .ok (.invokevirtual 147, 3) := by decide +kernel
theorem dX12_readPath_20 : decode cX12_readPath 20 = .ok (.ifCond .eq 7, 3) := by decide +kernel
theorem dX12_readPath_23 : decode cX12_readPath 23 = .ok (.iconst 1, 1) := by decide +kernel
theorem dX12_readPath_24 : decode cX12_readPath 24 = .ok (.goto 4, 3) := by decide +kernel
theorem dX12_readPath_27 : decode cX12_readPath 27 = .ok (.iconst 0, 1) := by decide +kernel
theorem dX12_readPath_28 : decode cX12_readPath 28 = .ok (.iastore, 1) := by decide +kernel
theorem dX12_readPath_29 : decode cX12_readPath 29 = .ok (.aload_n 0, 1) := by decide +kernel
theorem dX12_readPath_30 : decode cX12_readPath 30 = .ok (.getfield 28, 3) := by decide +kernel
theorem dX12_readPath_33 : decode cX12_readPath 33 = .ok (.iload_n 1, 1) := by decide +kernel
theorem dX12_readPath_34 : decode cX12_readPath 34 = .ok (.iaload, 1) := by decide +kernel
theorem dX12_readPath_35 : decode cX12_readPath 35 = .ok (.ifCond .eq 11, 3) := by decide +kernel
theorem dX12_readPath_38 : decode cX12_readPath 38 = .ok (.aload_n 0, 1) := by decide +kernel
theorem dX12_readPath_39 : decode cX12_readPath 39 = .ok (.iload_n 1, 1) := by decide +kernel
theorem dX12_readPath_40 : decode cX12_readPath 40 = .ok (.invokevirtual 174, 3) := by decide +kernel
theorem dX12_readPath_43 : decode cX12_readPath 43 = .ok (.ifCond .eq 15, 3) := by decide +kernel
theorem dX12_readPath_46 : decode cX12_readPath 46 = .ok (.aload_n 0, 1) := by decide +kernel
theorem dX12_readPath_47 : decode cX12_readPath 47 = .ok (.iload_n 1, 1) := by decide +kernel
theorem dX12_readPath_48 : decode cX12_readPath 48 = .ok (.invokevirtual 177, 3) := by decide +kernel
theorem dX12_readPath_51 : decode cX12_readPath 51 = .ok (.ifCond .eq 7, 3) := by decide +kernel
theorem dX12_readPath_54 : decode cX12_readPath 54 = .ok (.iconst 1, 1) := by decide +kernel
theorem dX12_readPath_55 : decode cX12_readPath 55 = .ok (.goto 4, 3) := by decide +kernel
theorem dX12_readPath_58 : decode cX12_readPath 58 = .ok (.iconst 0, 1) := by decide +kernel
theorem dX12_readPath_59 : decode cX12_readPath 59 = .ok (.istore_n 2, 1) := by decide +kernel
theorem dX12_readPath_60 : decode cX12_readPath 60 = .ok (.iload_n 2, 1) := by decide +kernel
theorem dX12_readPath_61 : decode cX12_readPath 61 = .ok (.ifCond .eq 37, 3) := by decide +kernel
theorem dX12_readPath_64 : decode cX12_readPath 64 = .ok (.aload_n 0, 1) := by decide +kernel
theorem dX12_readPath_65 : decode cX12_readPath 65 = .ok (.bipush 47, 2) := by decide +kernel
theorem dX12_readPath_67 : decode cX12_readPath 67 = .ok (.invokevirtual 147, 3) := by decide +kernel
theorem dX12_readPath_70 : decode cX12_readPath 70 = .ok (.ifCond .eq 28, 3) := by decide +kernel
theorem dX12_readPath_73 : decode cX12_readPath 73 = .ok (.aload_n 0, 1) := by decide +kernel
theorem dX12_readPath_74 : decode cX12_readPath 74 = .ok (.iload_n 1, 1) := by decide +kernel
theorem dX12_readPath_75 : decode cX12_readPath 75 = .ok (.invokevirtual 174, 3) := by decide +kernel
theorem dX12_readPath_78 : decode cX12_readPath 78 = .ok (.ifCond .eq 15, 3) := by decide +kernel
theorem dX12_readPath_81 : decode cX12_readPath 81 = .ok (.aload_n 0, 1) := by decide +kernel
theorem dX12_readPath_82 : decode cX12_readPath 82 = .ok (.iload_n 1, 1) := by decide +kernel
theorem dX12_readPath_83 : decode cX12_readPath 83 = .ok (.invokevirtual 177, 3) := by decide +kernel
theorem dX12_readPath_86 : decode cX12_readPath 86 = .ok (.ifCond .eq 7, 3) := by decide +kernel
theorem dX12_readPath_89 : decode cX12_readPath 89 = .ok (.iconst 1, 1) := by decide +kernel
theorem dX12_readPath_90 : decode cX12_readPath 90 = .ok (.goto 4, 3) := by decide +kernel
theorem dX12_readPath_93 : decode cX12_readPath 93 = .ok (.iconst 0, 1) := by decide +kernel
theorem dX12_readPath_94 : decode cX12_readPath 94 = .ok (.istore_n 2, 1) := by decide +kernel
theorem dX12_readPath_95 : decode cX12_readPath 95 = .ok (.goto (-35), 3) := by decide +kernel
theorem dX12_readPath_98 : decode cX12_readPath 98 = .ok (.iload_n 2, 1) := by decide +kernel
theorem dX12_readPath_99 : decode cX12_readPath 99 = .ok (.ireturn, 1) := by decide +kernel
theorem dX12_readAll_0 : decode cX12_readAll 0 = .ok (.aload_n 0, 1) := by decide +kernel
theorem dX12_readAll_1 : decode cX12_readAll 1 = .ok (.iconst 0, 1) := by decide +kernel
theorem dX12_readAll_2 : decode cX12_readAll 2 = .ok (.putfield 131, 3) := by decide +kernel
theorem dX12_readAll_5 : decode cX12_readAll 5 = .ok (.aload_n 0, 1) := by decide +kernel
theorem dX12_readAll_6 : decode cX12_readAll 6 = .ok (.getfield 28, 3) := by decide +kernel
theorem dX12_readAll_9 : decode cX12_readAll 9 = .ok (.iconst 0, 1) := by decide +kernel
theorem dX12_readAll_10 : decode cX12_readAll 10 = .ok (.iconst 0, 1) := by decide +kernel
theorem dX12_readAll_11 : decode cX12_readAll 11 = .ok (.iastore, 1) := by decide +kernel
theorem dX12_readAll_12 : decode cX12_readAll 12 = .ok (.iconst 1, 1) := by decide +kernel
theorem dX12_readAll_13 : decode cX12_readAll 13 = .ok (.istore_n 1, 1) := by decide +kernel
theorem dX12_readAll_14 : decode cX12_readAll 14 = .ok (.iload_n 1, 1) := by decide +kernel
theorem dX12_readAll_15 : decode cX12_readAll 15 = .ok (.ifCond .eq 83, 3) := by decide +kernel
theorem dX12_readAll_18 : decode cX12_readAll 18 = .ok (.aload_n 0, 1) := by decide +kernel
theorem dX12_readAll_19 : decode cX12_readAll 19 = .ok (.aload_n 0, 1) := by decide +kernel
theorem dX12_readAll_20 : decode cX12_readAll 20 = .ok (.getfield 28, 3) := by decide +kernel
theorem dX12_readAll_23 : decode cX12_readAll 23 = .ok (.iconst 0, 1) := by decide +kernel
theorem dX12_readAll_24 : decode cX12_readAll 24 = .ok (.iaload, 1) := by decide +kernel
theorem dX12_readAll_25 : decode cX12_readAll 25 = .ok (.invokestatic 180, 3) := by decide +kernel
theorem dX12_readAll_28 : decode cX12_readAll 28 = .ok (.invokevirtual 183, 3) := by decide +kernel
theorem dX12_readAll_31 : decode cX12_readAll 31 = .ok (.ifCond .ne 5, 3) := by decide +kernel
theorem dX12_readAll_34 : decode cX12_readAll 34 = .ok (.iconst 0, 1) := by decide +kernel
theorem dX12_readAll_35 : decode cX12_readAll 35 = .ok (.ireturn, 1) := by decide +kernel
theorem dX12_readAll_36 : decode cX12_readAll 36 = .ok (.aload_n 0, 1) := by decide +kernel
theorem dX12_readAll_37 : decode cX12_readAll 37 = .ok (.getfield 28, 3) := by decide +kernel
theorem dX12_readAll_40 : decode cX12_readAll 40 = .ok (.iconst 0, 1) := by decide +kernel
theorem dX12_readAll_41 : decode cX12_readAll 41 = .ok (.dup2, 1) := by decide +kernel
theorem dX12_readAll_42 : decode cX12_readAll 42 = .ok (.iaload, 1) := by decide +kernel
theorem dX12_readAll_43 : decode cX12_readAll 43 = .ok (.iconst 1, 1) := by decide +kernel
theorem dX12_readAll_44 : decode cX12_readAll 44 = .ok (.iadd, 1) := by decide +kernel
theorem dX12_readAll_45 : decode cX12_readAll 45 = .ok (.iastore, 1) := by decide +kernel
theorem dX12_readAll_46 : decode cX12_readAll 46 = .ok (.aload_n 0, 1) := by decide +kernel
theorem dX12_readAll_47 : decode cX12_readAll 47 = .ok (.invokevirtual 137, 3) := by decide +kernel
theorem dX12_readAll_50 : decode cX12_readAll 50 = .ok (.bipush 124, 2) := by decide +kernel
theorem dX12_readAll_52 : decode cX12_readAll 52 = .ok (.if_icmp .ne 7, 3) := by decide +kernel
theorem dX12_readAll_55 : decode cX12_readAll 55 = .ok (.iconst 1, 1) := by decide +kernel
theorem dX12_readAll_56 : decode cX12_readAll 56 = .ok (.goto 4, 3) := by decide +kernel
theorem dX12_readAll_59 : decode cX12_readAll 59 = .ok (.iconst 0, 1) := by decide +kernel
theorem dX12_readAll_60 : decode cX12_readAll 60 = .ok (.istore_n 1, 1) := by decide +kernel
theorem dX12_readAll_61 : decode cX12_readAll 61 = .ok (.iload_n 1, 1) := by decide +kernel
theorem dX12_readAll_62 : decode cX12_readAll 62 = .ok (.ifCond .eq 15, 3) := by decide +kernel
theorem dX12_readAll_65 : decode cX12_readAll 65 = .ok (.aload_n 0, 1) := by decide +kernel
theorem dX12_readAll_66 : decode cX12_readAll 66 = .ok (.getfield 28, 3) := by decide +kernel
theorem dX12_readAll_69 : decode cX12_readAll 69 = .ok (.iconst 0, 1) := by decide +kernel
theorem dX12_readAll_70 : decode cX12_readAll 70 = .ok (.iaload, 1) := by decide +kernel
theorem dX12_readAll_71 : decode cX12_readAll 71 = .ok (.iconst 4, 1) := by decide +kernel
theorem dX12_readAll_72 : decode cX12_readAll 72 = .ok (.if_icmp .ne 5, 3) := by decide +kernel
theorem dX12_readAll_75 : decode cX12_readAll 75 = .ok (.iconst 0, 1) := by decide +kernel
theorem dX12_readAll_76 : decode cX12_readAll 76 = .ok (.ireturn, 1) := by decide +kernel
theorem dX12_readAll_77 : decode cX12_readAll 77 = .ok (.aload_n 0, 1) := by decide +kernel
theorem dX12_readAll_78 : decode cX12_readAll 78 = .ok (.dup, 1) := by decide +kernel
theorem dX12_readAll_79 : decode cX12_readAll 79 = .ok (.getfield 131, 3) := by decide +kernel
theorem dX12_readAll_82 : decode cX12_readAll 82 = .ok (.iload_n 1, 1) := by decide +kernel
theorem dX12_readAll_83 : decode cX12_readAll 83 = .ok (.ifCond .eq 7, 3) := by decide +kernel
theorem dX12_readAll_86 : decode cX12_readAll 86 = .ok (.iconst 1, 1) := by decide +kernel
theorem dX12_readAll_87 : decode cX12_readAll 87 = .ok (.goto 4, 3) := by decide +kernel
theorem dX12_readAll_90 : decode cX12_readAll 90 = .ok (.iconst 0, 1) := by decide +kernel
theorem dX12_readAll_91 : decode cX12_readAll 91 = .ok (.iadd, 1) := by decide +kernel
theorem dX12_readAll_92 : decode cX12_readAll 92 = .ok (.putfield 131, 3) := by decide +kernel
theorem dX12_readAll_95 : decode cX12_readAll 95 = .ok (.goto (-81), 3) := by decide +kernel
theorem dX12_readAll_98 : decode cX12_readAll 98 = .ok (.aload_n 0, 1) := by decide +kernel
theorem dX12_readAll_99 : decode cX12_readAll 99 = .ok (.getfield 131, 3) := by decide +kernel
theorem dX12_readAll_102 : decode cX12_readAll 102 = .ok (.aload_n 0, 1) := by decide +kernel
theorem dX12_readAll_103 : decode cX12_readAll 103 = .ok (.getfield 134, 3) := by decide +kernel
theorem dX12_readAll_106 : decode cX12_readAll 106 = .ok (.if_icmp .ne 7, 3) := by decide +kernel
theorem dX12_readAll_109 : decode cX12_readAll 109 = .ok (.iconst 1, 1) := by decide +kernel
theorem dX12_readAll_110 : decode cX12_readAll 110 = .ok (.goto 4, 3) := by decide +kernel
theorem dX12_readAll_113 : decode cX12_readAll 113 = .ok (.iconst 0, 1) := by decide +kernel
theorem dX12_readAll_114 : decode cX12_readAll 114 = .ok (.ireturn, 1) := by decide +kernel
theorem dX12_put_0 : decode cX12_put 0 = .ok (.aload_n 0, 1) := by decide +kernel
theorem dX12_put_1 : decode cX12_put 1 = .ok (.getfield 31, 3) := by decide +kernel
theorem dX12_put_4 : decode cX12_put 4 = .ok (.aload_n 0, 1) := by decide +kernel
theorem dX12_put_5 : decode cX12_put 5 = .ok (.getfield 186, 3) := by decide +kernel
theorem dX12_put_8 : decode cX12_put 8 = .ok (.iload_n 1, 1) := by decide +kernel
theorem dX12_put_9 : decode cX12_put 9 = .ok (.iastore, 1) := by decide +kernel
theorem dX12_put_10 : decode cX12_put 10 = .ok (.aload_n 0, 1) := by decide +kernel
theorem dX12_put_11 : decode cX12_put 11 = .ok (.dup, 1) := by decide +kernel
theorem dX12_put_12 : decode cX12_put 12 = .ok (.getfield 186, 3) := by decide +kernel
theorem dX12_put_15 : decode cX12_put 15 = .ok (.iconst 1, 1) := by decide +kernel
theorem dX12_put_16 : decode cX12_put 16 = .ok (.iadd, 1) := by decide +kernel
theorem dX12_put_17 : decode cX12_put 17 = .ok (.putfield 186, 3) := by decide +kernel
theorem dX12_put_20 : decode cX12_put 20 = .ok (.return_, 1) := by decide +kernel
theorem dX12_signOf_0 : decode cX12_signOf 0 = .ok (.iload_n 0, 1) := by decide +kernel
theorem dX12_signOf_1 : decode cX12_signOf 1 = .ok (.tableswitch 71 1 8 #[47, 50, 53, 56, 59, 62, 65, 68], 47) := by decide +kernel
theorem dX12_signOf_48 : decode cX12_signOf 48 = .ok (.bipush 46, 2) := by decide +kernel
theorem dX12_signOf_50 : decode cX12_signOf 50 = .ok (.ireturn, 1) := by decide +kernel
theorem dX12_signOf_51 : decode cX12_signOf 51 = .ok (.bipush 37, 2) := by decide +kernel
theorem dX12_signOf_53 : decode cX12_signOf 53 = .ok (.ireturn, 1) := by decide +kernel
theorem dX12_signOf_54 : decode cX12_signOf 54 = .ok (.bipush 35, 2) := by decide +kernel
theorem dX12_signOf_56 : decode cX12_signOf 56 = .ok (.ireturn, 1) := by decide +kernel
theorem dX12_signOf_57 : decode cX12_signOf 57 = .ok (.bipush 62, 2) := by decide +kernel
theorem dX12_signOf_59 : decode cX12_signOf 59 = .ok (.ireturn, 1) := by decide +kernel
theorem dX12_signOf_60 : decode cX12_signOf 60 = .ok (.bipush 125, 2) := by decide +kernel
theorem dX12_signOf_62 : decode cX12_signOf 62 = .ok (.ireturn, 1) := by decide +kernel
theorem dX12_signOf_63 : decode cX12_signOf 63 = .ok (.bipush 94, 2) := by decide +kernel
theorem dX12_signOf_65 : decode cX12_signOf 65 = .ok (.ireturn, 1) := by decide +kernel
theorem dX12_signOf_66 : decode cX12_signOf 66 = .ok (.bipush 126, 2) := by decide +kernel
theorem dX12_signOf_68 : decode cX12_signOf 68 = .ok (.ireturn, 1) := by decide +kernel
theorem dX12_signOf_69 : decode cX12_signOf 69 = .ok (.bipush 60, 2) := by decide +kernel
theorem dX12_signOf_71 : decode cX12_signOf 71 = .ok (.ireturn, 1) := by decide +kernel
theorem dX12_signOf_72 : decode cX12_signOf 72 = .ok (.bipush 123, 2) := by decide +kernel
theorem dX12_signOf_74 : decode cX12_signOf 74 = .ok (.ireturn, 1) := by decide +kernel
theorem dX12_putTest_0 : decode cX12_putTest 0 = .ok (.iload_n 1, 1) := by decide +kernel
theorem dX12_putTest_1 : decode cX12_putTest 1 = .ok (.ifCond .le 11, 3) := by decide +kernel
theorem dX12_putTest_4 : decode cX12_putTest 4 = .ok (.aload_n 0, 1) := by decide +kernel
theorem dX12_putTest_5 : decode cX12_putTest 5 = .ok (.iload_n 1, 1) := by decide +kernel
theorem dX12_putTest_6 : decode cX12_putTest 6 = .ok (.invokestatic 189, 3) := by decide +kernel
theorem dX12_putTest_9 : decode cX12_putTest 9 = .ok (.invokevirtual 192, 3) := by decide +kernel
theorem dX12_putTest_12 : decode cX12_putTest 12 = .ok (.aload_n 0, 1) := by decide +kernel
theorem dX12_putTest_13 : decode cX12_putTest 13 = .ok (.iload_n 2, 1) := by decide +kernel
theorem dX12_putTest_14 : decode cX12_putTest 14 = .ok (.bipush 8, 2) := by decide +kernel
theorem dX12_putTest_16 : decode cX12_putTest 16 = .ok (.if_icmp .ne 8, 3) := by decide +kernel
theorem dX12_putTest_19 : decode cX12_putTest 19 = .ok (.bipush 42, 2) := by decide +kernel
theorem dX12_putTest_21 : decode cX12_putTest 21 = .ok (.goto 7, 3) := by decide +kernel
theorem dX12_putTest_24 : decode cX12_putTest 24 = .ok (.bipush 97, 2) := by decide +kernel
theorem dX12_putTest_26 : decode cX12_putTest 26 = .ok (.iload_n 2, 1) := by decide +kernel
theorem dX12_putTest_27 : decode cX12_putTest 27 = .ok (.iadd, 1) := by decide +kernel
theorem dX12_putTest_28 : decode cX12_putTest 28 = .ok (.invokevirtual 192, 3) := by decide +kernel
theorem dX12_putTest_31 : decode cX12_putTest 31 = .ok (.return_, 1) := by decide +kernel
theorem dX12_putCondition_0 : decode cX12_putCondition 0 = .ok (.aload_n 0, 1) := by decide +kernel
theorem dX12_putCondition_1 : decode cX12_putCondition 1 = .ok (.getfield 28, 3) := by decide +kernel
theorem dX12_putCondition_4 : decode cX12_putCondition 4 = .ok (.iload_n 1, 1) := by decide +kernel
theorem dX12_putCondition_5 : decode cX12_putCondition 5 = .ok (.iaload, 1) := by decide +kernel
theorem dX12_putCondition_6 : decode cX12_putCondition 6 = .ok (.iconst 1, 1) := by decide +kernel
theorem dX12_putCondition_7 : decode cX12_putCondition 7 = .ok (.if_icmp .ne 9, 3) := by decide +kernel
theorem dX12_putCondition_10 : decode cX12_putCondition 10 = .ok (.aload_n 0, 1) := by decide +kernel
theorem dX12_putCondition_11 : decode cX12_putCondition 11 = .ok (.bipush 45, 2) := by decide +kernel
theorem dX12_putCondition_13 : decode cX12_putCondition 13 = .ok (.invokevirtual 192, 3) := by decide +kernel
theorem dX12_putCondition_16 : decode cX12_putCondition 16 = .ok (.aload_n 0, 1) := by decide +kernel
theorem dX12_putCondition_17 : decode cX12_putCondition 17 = .ok (.getfield 28, 3) := by decide +kernel
theorem dX12_putCondition_20 : decode cX12_putCondition 20 = .ok (.iload_n 1, 1) := by decide +kernel
theorem dX12_putCondition_21 : decode cX12_putCondition 21 = .ok (.iconst 1, 1) := by decide +kernel
theorem dX12_putCondition_22 : decode cX12_putCondition 22 = .ok (.iadd, 1) := by decide +kernel
theorem dX12_putCondition_23 : decode cX12_putCondition 23 = .ok (.iaload, 1) := by decide +kernel
theorem dX12_putCondition_24 : decode cX12_putCondition 24 = .ok (.istore_n 2, 1) := by decide +kernel
theorem dX12_putCondition_25 : decode cX12_putCondition 25 = .ok (.iload_n 2, 1) := by decide +kernel
theorem dX12_putCondition_26 : decode cX12_putCondition 26 = .ok (.ifCond .eq 29, 3) := by decide +kernel
theorem dX12_putCondition_29 : decode cX12_putCondition 29 = .ok (.aload_n 0, 1) := by decide +kernel
theorem dX12_putCondition_30 : decode cX12_putCondition 30 = .ok (.iload_n 2, 1) := by decide +kernel
theorem dX12_putCondition_31 : decode cX12_putCondition 31 = .ok (.iconst 1, 1) := by decide +kernel
theorem dX12_putCondition_32 : decode cX12_putCondition 32 = .ok (.if_icmp .ne 8, 3) := by decide +kernel
theorem dX12_putCondition_35 : decode cX12_putCondition 35 = .ok (.bipush 36, 2) := by decide +kernel
theorem dX12_putCondition_37 : decode cX12_putCondition 37 = .ok (.goto 15, 3) := by decide +kernel
theorem dX12_putCondition_40 : decode cX12_putCondition 40 = .ok (.iload_n 2, 1) := by decide +kernel
theorem dX12_putCondition_41 : decode cX12_putCondition 41 = .ok (.iconst 2, 1) := by decide +kernel
theorem dX12_putCondition_42 : decode cX12_putCondition 42 = .ok (.if_icmp .ne 8, 3) := by decide +kernel
theorem dX12_putCondition_45 : decode cX12_putCondition 45 = .ok (.bipush 61, 2) := by decide +kernel
theorem dX12_putCondition_47 : decode cX12_putCondition 47 = .ok (.goto 5, 3) := by decide +kernel
theorem dX12_putCondition_50 : decode cX12_putCondition 50 = .ok (.bipush 63, 2) := by decide +kernel
theorem dX12_putCondition_52 : decode cX12_putCondition 52 = .ok (.invokevirtual 192, 3) := by decide +kernel
theorem dX12_putCondition_55 : decode cX12_putCondition 55 = .ok (.iload_n 2, 1) := by decide +kernel
theorem dX12_putCondition_56 : decode cX12_putCondition 56 = .ok (.ifCond .eq 8, 3) := by decide +kernel
theorem dX12_putCondition_59 : decode cX12_putCondition 59 = .ok (.iload_n 2, 1) := by decide +kernel
theorem dX12_putCondition_60 : decode cX12_putCondition 60 = .ok (.iconst 2, 1) := by decide +kernel
theorem dX12_putCondition_61 : decode cX12_putCondition 61 = .ok (.if_icmp .ne 18, 3) := by decide +kernel
theorem dX12_putCondition_64 : decode cX12_putCondition 64 = .ok (.aload_n 0, 1) := by decide +kernel
theorem dX12_putCondition_65 : decode cX12_putCondition 65 = .ok (.bipush 48, 2) := by decide +kernel
theorem dX12_putCondition_67 : decode cX12_putCondition 67 = .ok (.aload_n 0, 1) := by decide +kernel
theorem dX12_putCondition_68 : decode cX12_putCondition 68 = .ok (.getfield 28, 3) := by decide +kernel
theorem dX12_putCondition_71 : decode cX12_putCondition 71 = .ok (.iload_n 1, 1) := by decide +kernel
theorem dX12_putCondition_72 : decode cX12_putCondition 72 = .ok (.iconst 2, 1) := by decide +kernel
theorem dX12_putCondition_73 : decode cX12_putCondition 73 = .ok (.iadd, 1) := by decide +kernel
theorem dX12_putCondition_74 : decode cX12_putCondition 74 = .ok (.iaload, 1) := by decide +kernel
theorem dX12_putCondition_75 : decode cX12_putCondition 75 = .ok (.iadd, 1) := by decide +kernel
theorem dX12_putCondition_76 : decode cX12_putCondition 76 = .ok (.invokevirtual 192, 3) := by decide +kernel
theorem dX12_putCondition_79 : decode cX12_putCondition 79 = .ok (.iconst 0, 1) := by decide +kernel
theorem dX12_putCondition_80 : decode cX12_putCondition 80 = .ok (.istore_n 3, 1) := by decide +kernel
theorem dX12_putCondition_81 : decode cX12_putCondition 81 = .ok (.iload_n 3, 1) := by decide +kernel
theorem dX12_putCondition_82 : decode cX12_putCondition 82 = .ok (.aload_n 0, 1) := by decide +kernel
theorem dX12_putCondition_83 : decode cX12_putCondition 83 = .ok (.getfield 28, 3) := by decide +kernel
theorem dX12_putCondition_86 : decode cX12_putCondition 86 = .ok (.iload_n 1, 1) := by decide +kernel
theorem dX12_putCondition_87 : decode cX12_putCondition 87 = .ok (.iconst 3, 1) := by decide +kernel
theorem dX12_putCondition_88 : decode cX12_putCondition 88 = .ok (.iadd, 1) := by decide +kernel
theorem dX12_putCondition_89 : decode cX12_putCondition 89 = .ok (.iaload, 1) := by decide +kernel
theorem dX12_putCondition_90 : decode cX12_putCondition 90 = .ok (.if_icmp .ge 49, 3) := by decide +kernel
theorem dX12_putCondition_93 : decode cX12_putCondition 93 = .ok (.iload_n 3, 1) := by decide +kernel
theorem dX12_putCondition_94 : decode cX12_putCondition 94 = .ok (.ifCond .le 9, 3) := by decide +kernel
theorem dX12_putCondition_97 : decode cX12_putCondition 97 = .ok (.aload_n 0, 1) := by decide +kernel
theorem dX12_putCondition_98 : decode cX12_putCondition 98 = .ok (.bipush 47, 2) := by decide +kernel
theorem dX12_putCondition_100 : decode cX12_putCondition 100 = .ok (.invokevirtual 192, 3) := by decide +kernel
theorem dX12_putCondition_103 : decode cX12_putCondition 103 = .ok (.aload_n 0, 1) := by decide +kernel
theorem dX12_putCondition_104 : decode cX12_putCondition 104 = .ok (.aload_n 0, 1) := by decide +kernel
theorem dX12_putCondition_105 : decode cX12_putCondition 105 = .ok (.getfield 28, 3) := by decide +kernel
theorem dX12_putCondition_108 : decode cX12_putCondition 108 = .ok (.iload_n 1, 1) := by decide +kernel
theorem dX12_putCondition_109 : decode cX12_putCondition 109 = .ok (.iconst 4, 1) := by decide +kernel
theorem dX12_putCondition_110 : decode cX12_putCondition 110 = .ok (.iadd, 1) := by decide +kernel
theorem dX12_putCondition_111 : decode cX12_putCondition 111 = .ok (.iload_n 3, 1) := by decide +kernel
theorem dX12_putCondition_112 : decode cX12_putCondition 112 = .ok (.iadd, 1) := by decide +kernel
theorem dX12_putCondition_113 : decode cX12_putCondition 113 = .ok (.iaload, 1) := by decide +kernel
theorem dX12_putCondition_114 : decode cX12_putCondition 114 = .ok (.bipush 10, 2) := by decide +kernel
theorem dX12_putCondition_116 : decode cX12_putCondition 116 = .ok (.idiv, 1) := by decide +kernel
theorem dX12_putCondition_117 : decode cX12_putCondition 117 = .ok (.aload_n 0, 1) := by decide +kernel
theorem dX12_putCondition_118 : decode cX12_putCondition 118 = .ok (.getfield 28, 3) := by decide +kernel
theorem dX12_putCondition_121 : decode cX12_putCondition 121 = .ok (.iload_n 1, 1) := by decide +kernel
theorem dX12_putCondition_122 : decode cX12_putCondition 122 = .ok (.iconst 4, 1) := by decide +kernel
theorem dX12_putCondition_123 : decode cX12_putCondition 123 = .ok (.iadd, 1) := by decide +kernel
theorem dX12_putCondition_124 : decode cX12_putCondition 124 = .ok (.iload_n 3, 1) := by decide +kernel
theorem dX12_putCondition_125 : decode cX12_putCondition 125 = .ok (.iadd, 1) := by decide +kernel
theorem dX12_putCondition_126 : decode cX12_putCondition 126 = .ok (.iaload, 1) := by decide +kernel
theorem dX12_putCondition_127 : decode cX12_putCondition 127 = .ok (.bipush 10, 2) := by decide +kernel
theorem dX12_putCondition_129 : decode cX12_putCondition 129 = .ok (.irem, 1) := by decide +kernel
theorem dX12_putCondition_130 : decode cX12_putCondition 130 = .ok (.invokevirtual 195, 3) := by decide +kernel
theorem dX12_putCondition_133 : decode cX12_putCondition 133 = .ok (.iinc 3 1, 3) := by decide +kernel
theorem dX12_putCondition_136 : decode cX12_putCondition 136 = .ok (.goto (-55), 3) := by decide +kernel
theorem dX12_putCondition_139 : decode cX12_putCondition 139 = .ok (.return_, 1) := by decide +kernel
theorem dX12_putPredicate_0 : decode cX12_putPredicate 0 = .ok (.aload_n 0, 1) := by decide +kernel
theorem dX12_putPredicate_1 : decode cX12_putPredicate 1 = .ok (.bipush 91, 2) := by decide +kernel
theorem dX12_putPredicate_3 : decode cX12_putPredicate 3 = .ok (.invokevirtual 192, 3) := by decide +kernel
theorem dX12_putPredicate_6 : decode cX12_putPredicate 6 = .ok (.iconst 0, 1) := by decide +kernel
theorem dX12_putPredicate_7 : decode cX12_putPredicate 7 = .ok (.istore_n 2, 1) := by decide +kernel
theorem dX12_putPredicate_8 : decode cX12_putPredicate 8 = .ok (.iload_n 2, 1) := by decide +kernel
theorem dX12_putPredicate_9 : decode cX12_putPredicate 9 = .ok (.aload_n 0, 1) := by decide +kernel
theorem dX12_putPredicate_10 : decode cX12_putPredicate 10 = .ok (.getfield 28, 3) := by decide +kernel
theorem dX12_putPredicate_13 : decode cX12_putPredicate 13 = .ok (.iload_n 1, 1) := by decide +kernel
theorem dX12_putPredicate_14 : decode cX12_putPredicate 14 = .ok (.iaload, 1) := by decide +kernel
theorem dX12_putPredicate_15 : decode cX12_putPredicate 15 = .ok (.if_icmp .ge 66, 3) := by decide +kernel
theorem dX12_putPredicate_18 : decode cX12_putPredicate 18 = .ok (.iload_n 2, 1) := by decide +kernel
theorem dX12_putPredicate_19 : decode cX12_putPredicate 19 = .ok (.ifCond .le 9, 3) := by decide +kernel
theorem dX12_putPredicate_22 : decode cX12_putPredicate 22 = .ok (.aload_n 0, 1) := by decide +kernel
theorem dX12_putPredicate_23 : decode cX12_putPredicate 23 = .ok (.bipush 43, 2) := by decide +kernel
theorem dX12_putPredicate_25 : decode cX12_putPredicate 25 = .ok (.invokevirtual 192, 3) := by decide +kernel
theorem dX12_putPredicate_28 : decode cX12_putPredicate 28 = .ok (.iload_n 1, 1) := by decide +kernel
theorem dX12_putPredicate_29 : decode cX12_putPredicate 29 = .ok (.iload_n 2, 1) := by decide +kernel
theorem dX12_putPredicate_30 : decode cX12_putPredicate 30 = .ok (.invokestatic 159, 3) := by decide +kernel
theorem dX12_putPredicate_33 : decode cX12_putPredicate 33 = .ok (.istore_n 3, 1) := by decide +kernel
theorem dX12_putPredicate_34 : decode cX12_putPredicate 34 = .ok (.iconst 0, 1) := by decide +kernel
theorem dX12_putPredicate_35 : decode cX12_putPredicate 35 = .ok (.istore 4, 2) := by decide +kernel
theorem dX12_putPredicate_37 : decode cX12_putPredicate 37 = .ok (.iload 4, 2) := by decide +kernel
theorem dX12_putPredicate_39 : decode cX12_putPredicate 39 = .ok (.aload_n 0, 1) := by decide +kernel
theorem dX12_putPredicate_40 : decode cX12_putPredicate 40 = .ok (.getfield 28, 3) := by decide +kernel
theorem dX12_putPredicate_43 : decode cX12_putPredicate 43 = .ok (.iload_n 3, 1) := by decide +kernel
theorem dX12_putPredicate_44 : decode cX12_putPredicate 44 = .ok (.iaload, 1) := by decide +kernel
theorem dX12_putPredicate_45 : decode cX12_putPredicate 45 = .ok (.if_icmp .ge 30, 3) := by decide +kernel
theorem dX12_putPredicate_48 : decode cX12_putPredicate 48 = .ok (.iload 4, 2) := by decide +kernel
theorem dX12_putPredicate_50 : decode cX12_putPredicate 50 = .ok (.ifCond .le 9, 3) := by decide +kernel
theorem dX12_putPredicate_53 : decode cX12_putPredicate 53 = .ok (.aload_n 0, 1) := by decide +kernel
theorem dX12_putPredicate_54 : decode cX12_putPredicate 54 = .ok (.bipush 44, 2) := by decide +kernel
theorem dX12_putPredicate_56 : decode cX12_putPredicate 56 = .ok (.invokevirtual 192, 3) := by decide +kernel
theorem dX12_putPredicate_59 : decode cX12_putPredicate 59 = .ok (.aload_n 0, 1) := by decide +kernel
theorem dX12_putPredicate_60 : decode cX12_putPredicate 60 = .ok (.iload_n 3, 1) := by decide +kernel
theorem dX12_putPredicate_61 : decode cX12_putPredicate 61 = .ok (.iload 4, 2) := by decide +kernel
theorem dX12_putPredicate_63 : decode cX12_putPredicate 63 = .ok (.invokestatic 153, 3) := by decide +kernel
theorem dX12_putPredicate_66 : decode cX12_putPredicate 66 = .ok (.invokevirtual 198, 3) := by decide +kernel
theorem dX12_putPredicate_69 : decode cX12_putPredicate 69 = .ok (.iinc 4 1, 3) := by decide +kernel
theorem dX12_putPredicate_72 : decode cX12_putPredicate 72 = .ok (.goto (-35), 3) := by decide +kernel
theorem dX12_putPredicate_75 : decode cX12_putPredicate 75 = .ok (.iinc 2 1, 3) := by decide +kernel
theorem dX12_putPredicate_78 : decode cX12_putPredicate 78 = .ok (.goto (-70), 3) := by decide +kernel
theorem dX12_putPredicate_81 : decode cX12_putPredicate 81 = .ok (.aload_n 0, 1) := by decide +kernel
theorem dX12_putPredicate_82 : decode cX12_putPredicate 82 = .ok (.bipush 93, 2) := by decide +kernel
theorem dX12_putPredicate_84 : decode cX12_putPredicate 84 = .ok (.invokevirtual 192, 3) := by decide +kernel
theorem dX12_putPredicate_87 : decode cX12_putPredicate 87 = .ok (.return_, 1) := by decide +kernel
theorem dX12_putPath_0 : decode cX12_putPath 0 = .ok (.iconst 0, 1) := by decide +kernel
theorem dX12_putPath_1 : decode cX12_putPath 1 = .ok (.istore_n 2, 1) := by decide +kernel
theorem dX12_putPath_2 : decode cX12_putPath 2 = .ok (.iload_n 2, 1) := by decide +kernel
theorem dX12_putPath_3 : decode cX12_putPath 3 = .ok (.aload_n 0, 1) := by decide +kernel
theorem dX12_putPath_4 : decode cX12_putPath 4 = .ok (.getfield 28, 3) := by decide +kernel
theorem dX12_putPath_7 : decode cX12_putPath 7 = .ok (.iload_n 1, 1) := by decide +kernel
theorem dX12_putPath_8 : decode cX12_putPath 8 = .ok (.iconst 1, 1) := by decide +kernel
theorem dX12_putPath_9 : decode cX12_putPath 9 = .ok (.iadd, 1) := by decide +kernel
theorem dX12_putPath_10 : decode cX12_putPath 10 = .ok (.iaload, 1) := by decide +kernel
theorem dX12_putPath_11 : decode cX12_putPath 11 = .ok (.if_icmp .ge 85, 3) := by decide +kernel
theorem dX12_putPath_14 : decode cX12_putPath 14 = .ok (.iload_n 2, 1) := by decide +kernel
theorem dX12_putPath_15 : decode cX12_putPath 15 = .ok (.ifCond .gt 13, 3) := by decide +kernel
theorem dX12_putPath_18 : decode cX12_putPath 18 = .ok (.aload_n 0, 1) := by decide +kernel
theorem dX12_putPath_19 : decode cX12_putPath 19 = .ok (.getfield 28, 3) := by decide +kernel
theorem dX12_putPath_22 : decode cX12_putPath 22 = .ok (.iload_n 1, 1) := by decide +kernel
theorem dX12_putPath_23 : decode cX12_putPath 23 = .ok (.iaload, 1) := by decide +kernel
theorem dX12_putPath_24 : decode cX12_putPath 24 = .ok (.iconst 1, 1) := by decide +kernel
theorem dX12_putPath_25 : decode cX12_putPath 25 = .ok (.if_icmp .ne 9, 3) := by decide +kernel
theorem dX12_putPath_28 : decode cX12_putPath 28 = .ok (.aload_n 0, 1) := by decide +kernel
theorem dX12_putPath_29 : decode cX12_putPath 29 = .ok (.bipush 47, 2) := by decide +kernel
theorem dX12_putPath_31 : decode cX12_putPath 31 = .ok (.invokevirtual 192, 3) := by decide +kernel
theorem dX12_putPath_34 : decode cX12_putPath 34 = .ok (.iload_n 1, 1) := by decide +kernel
theorem dX12_putPath_35 : decode cX12_putPath 35 = .ok (.iload_n 2, 1) := by decide +kernel
theorem dX12_putPath_36 : decode cX12_putPath 36 = .ok (.invokestatic 165, 3) := by decide +kernel
theorem dX12_putPath_39 : decode cX12_putPath 39 = .ok (.istore_n 3, 1) := by decide +kernel
theorem dX12_putPath_40 : decode cX12_putPath 40 = .ok (.aload_n 0, 1) := by decide +kernel
theorem dX12_putPath_41 : decode cX12_putPath 41 = .ok (.aload_n 0, 1) := by decide +kernel
theorem dX12_putPath_42 : decode cX12_putPath 42 = .ok (.getfield 28, 3) := by decide +kernel
theorem dX12_putPath_45 : decode cX12_putPath 45 = .ok (.iload_n 3, 1) := by decide +kernel
theorem dX12_putPath_46 : decode cX12_putPath 46 = .ok (.iaload, 1) := by decide +kernel
theorem dX12_putPath_47 : decode cX12_putPath 47 = .ok (.aload_n 0, 1) := by decide +kernel
theorem dX12_putPath_48 : decode cX12_putPath 48 = .ok (.getfield 28, 3) := by decide +kernel
theorem dX12_putPath_51 : decode cX12_putPath 51 = .ok (.iload_n 3, 1) := by decide +kernel
theorem dX12_putPath_52 : decode cX12_putPath 52 = .ok (.iconst 1, 1) := by decide +kernel
theorem dX12_putPath_53 : decode cX12_putPath 53 = .ok (.iadd, 1) := by decide +kernel
theorem dX12_putPath_54 : decode cX12_putPath 54 = .ok (.iaload, 1) := by decide +kernel
theorem dX12_putPath_55 : decode cX12_putPath 55 = .ok (.invokevirtual 195, 3) := by decide +kernel
theorem dX12_putPath_58 : decode cX12_putPath 58 = .ok (.iconst 0, 1) := by decide +kernel
theorem dX12_putPath_59 : decode cX12_putPath 59 = .ok (.istore 4, 2) := by decide +kernel
theorem dX12_putPath_61 : decode cX12_putPath 61 = .ok (.iload 4, 2) := by decide +kernel
theorem dX12_putPath_63 : decode cX12_putPath 63 = .ok (.aload_n 0, 1) := by decide +kernel
theorem dX12_putPath_64 : decode cX12_putPath 64 = .ok (.getfield 28, 3) := by decide +kernel
theorem dX12_putPath_67 : decode cX12_putPath 67 = .ok (.iload_n 3, 1) := by decide +kernel
theorem dX12_putPath_68 : decode cX12_putPath 68 = .ok (.iconst 2, 1) := by decide +kernel
theorem dX12_putPath_69 : decode cX12_putPath 69 = .ok (.iadd, 1) := by decide +kernel
theorem dX12_putPath_70 : decode cX12_putPath 70 = .ok (.iaload, 1) := by decide +kernel
theorem dX12_putPath_71 : decode cX12_putPath 71 = .ok (.if_icmp .ge 19, 3) := by decide +kernel
theorem dX12_putPath_74 : decode cX12_putPath 74 = .ok (.aload_n 0, 1) := by decide +kernel
theorem dX12_putPath_75 : decode cX12_putPath 75 = .ok (.iload_n 3, 1) := by decide +kernel
theorem dX12_putPath_76 : decode cX12_putPath 76 = .ok (.iload 4, 2) := by decide +kernel
theorem dX12_putPath_78 : decode cX12_putPath 78 = .ok (.invokestatic 168, 3) := by decide +kernel
theorem dX12_putPath_81 : decode cX12_putPath 81 = .ok (.invokevirtual 201, 3) := by decide +kernel
theorem dX12_putPath_84 : decode cX12_putPath 84 = .ok (.iinc 4 1, 3) := by decide +kernel
theorem dX12_putPath_87 : decode cX12_putPath 87 = .ok (.goto (-26), 3) := by decide +kernel
theorem dX12_putPath_90 : decode cX12_putPath 90 = .ok (.iinc 2 1, 3) := by decide +kernel
theorem dX12_putPath_93 : decode cX12_putPath 93 = .ok (.goto (-91), 3) := by decide +kernel
theorem dX12_putPath_96 : decode cX12_putPath 96 = .ok (.return_, 1) := by decide +kernel
theorem dX12_putAll_0 : decode cX12_putAll 0 = .ok (.aload_n 0, 1) := by decide +kernel
theorem dX12_putAll_1 : decode cX12_putAll 1 = .ok (.iconst 0, 1) := by decide +kernel
theorem dX12_putAll_2 : decode cX12_putAll 2 = .ok (.putfield 186, 3) := by decide +kernel
theorem dX12_putAll_5 : decode cX12_putAll 5 = .ok (.iconst 0, 1) := by decide +kernel
theorem dX12_putAll_6 : decode cX12_putAll 6 = .ok (.istore_n 1, 1) := by decide +kernel
theorem dX12_putAll_7 : decode cX12_putAll 7 = .ok (.iload_n 1, 1) := by decide +kernel
theorem dX12_putAll_8 : decode cX12_putAll 8 = .ok (.aload_n 0, 1) := by decide +kernel
theorem dX12_putAll_9 : decode cX12_putAll 9 = .ok (.getfield 28, 3) := by decide +kernel
theorem dX12_putAll_12 : decode cX12_putAll 12 = .ok (.iconst 0, 1) := by decide +kernel
theorem dX12_putAll_13 : decode cX12_putAll 13 = .ok (.iaload, 1) := by decide +kernel
theorem dX12_putAll_14 : decode cX12_putAll 14 = .ok (.if_icmp .ge 27, 3) := by decide +kernel
theorem dX12_putAll_17 : decode cX12_putAll 17 = .ok (.iload_n 1, 1) := by decide +kernel
theorem dX12_putAll_18 : decode cX12_putAll 18 = .ok (.ifCond .le 9, 3) := by decide +kernel
theorem dX12_putAll_21 : decode cX12_putAll 21 = .ok (.aload_n 0, 1) := by decide +kernel
theorem dX12_putAll_22 : decode cX12_putAll 22 = .ok (.bipush 124, 2) := by decide +kernel
theorem dX12_putAll_24 : decode cX12_putAll 24 = .ok (.invokevirtual 192, 3) := by decide +kernel
theorem dX12_putAll_27 : decode cX12_putAll 27 = .ok (.aload_n 0, 1) := by decide +kernel
theorem dX12_putAll_28 : decode cX12_putAll 28 = .ok (.iload_n 1, 1) := by decide +kernel
theorem dX12_putAll_29 : decode cX12_putAll 29 = .ok (.invokestatic 180, 3) := by decide +kernel
theorem dX12_putAll_32 : decode cX12_putAll 32 = .ok (.invokevirtual 204, 3) := by decide +kernel
theorem dX12_putAll_35 : decode cX12_putAll 35 = .ok (.iinc 1 1, 3) := by decide +kernel
theorem dX12_putAll_38 : decode cX12_putAll 38 = .ok (.goto (-31), 3) := by decide +kernel
theorem dX12_putAll_41 : decode cX12_putAll 41 = .ok (.return_, 1) := by decide +kernel
theorem dX12_areHalvesAlike_0 : decode cX12_areHalvesAlike 0 = .ok (.aload_n 0, 1) := by decide +kernel
theorem dX12_areHalvesAlike_1 : decode cX12_areHalvesAlike 1 = .ok (.getfield 186, 3) := by decide +kernel
theorem dX12_areHalvesAlike_4 : decode cX12_areHalvesAlike 4 = .ok (.iconst 2, 1) := by decide +kernel
theorem dX12_areHalvesAlike_5 : decode cX12_areHalvesAlike 5 = .ok (.iload_n 1, 1) := by decide +kernel
theorem dX12_areHalvesAlike_6 : decode cX12_areHalvesAlike 6 = .ok (.imul, 1) := by decide +kernel
theorem dX12_areHalvesAlike_7 : decode cX12_areHalvesAlike 7 = .ok (.if_icmp .ne 7, 3) := by decide +kernel
theorem dX12_areHalvesAlike_10 : decode cX12_areHalvesAlike 10 = .ok (.iconst 1, 1) := by decide +kernel
theorem dX12_areHalvesAlike_11 : decode cX12_areHalvesAlike 11 = .ok (.goto 4, 3) := by decide +kernel
theorem dX12_areHalvesAlike_14 : decode cX12_areHalvesAlike 14 = .ok (.iconst 0, 1) := by decide +kernel
theorem dX12_areHalvesAlike_15 : decode cX12_areHalvesAlike 15 = .ok (.istore_n 2, 1) := by decide +kernel
theorem dX12_areHalvesAlike_16 : decode cX12_areHalvesAlike 16 = .ok (.iconst 0, 1) := by decide +kernel
theorem dX12_areHalvesAlike_17 : decode cX12_areHalvesAlike 17 = .ok (.istore_n 3, 1) := by decide +kernel
theorem dX12_areHalvesAlike_18 : decode cX12_areHalvesAlike 18 = .ok (.iload_n 3, 1) := by decide +kernel
theorem dX12_areHalvesAlike_19 : decode cX12_areHalvesAlike 19 = .ok (.iload_n 1, 1) := by decide +kernel
theorem dX12_areHalvesAlike_20 : decode cX12_areHalvesAlike 20 = .ok (.if_icmp .ge 36, 3) := by decide +kernel
theorem dX12_areHalvesAlike_23 : decode cX12_areHalvesAlike 23 = .ok (.iload_n 2, 1) := by decide +kernel
theorem dX12_areHalvesAlike_24 : decode cX12_areHalvesAlike 24 = .ok (.ifCond .eq 32, 3) := by decide +kernel
theorem dX12_areHalvesAlike_27 : decode cX12_areHalvesAlike 27 = .ok (.aload_n 0, 1) := by decide +kernel
theorem dX12_areHalvesAlike_28 : decode cX12_areHalvesAlike 28 = .ok (.getfield 31, 3) := by decide +kernel
theorem dX12_areHalvesAlike_31 : decode cX12_areHalvesAlike 31 = .ok (.iload_n 3, 1) := by decide +kernel
theorem dX12_areHalvesAlike_32 : decode cX12_areHalvesAlike 32 = .ok (.iaload, 1) := by decide +kernel
theorem dX12_areHalvesAlike_33 : decode cX12_areHalvesAlike 33 = .ok (.aload_n 0, 1) := by decide +kernel
theorem dX12_areHalvesAlike_34 : decode cX12_areHalvesAlike 34 = .ok (.getfield 31, 3) := by decide +kernel
theorem dX12_areHalvesAlike_37 : decode cX12_areHalvesAlike 37 = .ok (.iload_n 1, 1) := by decide +kernel
theorem dX12_areHalvesAlike_38 : decode cX12_areHalvesAlike 38 = .ok (.iload_n 3, 1) := by decide +kernel
theorem dX12_areHalvesAlike_39 : decode cX12_areHalvesAlike 39 = .ok (.iadd, 1) := by decide +kernel
theorem dX12_areHalvesAlike_40 : decode cX12_areHalvesAlike 40 = .ok (.iaload, 1) := by decide +kernel
theorem dX12_areHalvesAlike_41 : decode cX12_areHalvesAlike 41 = .ok (.if_icmp .ne 7, 3) := by decide +kernel
theorem dX12_areHalvesAlike_44 : decode cX12_areHalvesAlike 44 = .ok (.iconst 1, 1) := by decide +kernel
theorem dX12_areHalvesAlike_45 : decode cX12_areHalvesAlike 45 = .ok (.goto 4, 3) := by decide +kernel
theorem dX12_areHalvesAlike_48 : decode cX12_areHalvesAlike 48 = .ok (.iconst 0, 1) := by decide +kernel
theorem dX12_areHalvesAlike_49 : decode cX12_areHalvesAlike 49 = .ok (.istore_n 2, 1) := by decide +kernel
theorem dX12_areHalvesAlike_50 : decode cX12_areHalvesAlike 50 = .ok (.iinc 3 1, 3) := by decide +kernel
theorem dX12_areHalvesAlike_53 : decode cX12_areHalvesAlike 53 = .ok (.goto (-35), 3) := by decide +kernel
theorem dX12_areHalvesAlike_56 : decode cX12_areHalvesAlike 56 = .ok (.iload_n 2, 1) := by decide +kernel
theorem dX12_areHalvesAlike_57 : decode cX12_areHalvesAlike 57 = .ok (.ireturn, 1) := by decide +kernel
theorem dX12_isPlace_0 : decode cX12_isPlace 0 = .ok (.iload_n 0, 1) := by decide +kernel
theorem dX12_isPlace_1 : decode cX12_isPlace 1 = .ok (.iconst 0, 1) := by decide +kernel
theorem dX12_isPlace_2 : decode cX12_isPlace 2 = .ok (.iconst 3, 1) := by decide +kernel
theorem dX12_isPlace_3 : decode cX12_isPlace 3 = .ok (.invokestatic 69, 3) := by decide +kernel
theorem dX12_isPlace_6 : decode cX12_isPlace 6 = .ok (.ireturn, 1) := by decide +kernel
theorem dX12_has_0 : decode cX12_has 0 = .ok (.aload_n 0, 1) := by decide +kernel
theorem dX12_has_1 : decode cX12_has 1 = .ok (.getfield 7, 3) := by decide +kernel
theorem dX12_has_4 : decode cX12_has 4 = .ok (.bipush 121, 2) := by decide +kernel
theorem dX12_has_6 : decode cX12_has 6 = .ok (.iload_n 1, 1) := by decide +kernel
theorem dX12_has_7 : decode cX12_has 7 = .ok (.iadd, 1) := by decide +kernel
theorem dX12_has_8 : decode cX12_has 8 = .ok (.iaload, 1) := by decide +kernel
theorem dX12_has_9 : decode cX12_has 9 = .ok (.ifCond .le 7, 3) := by decide +kernel
theorem dX12_has_12 : decode cX12_has 12 = .ok (.iconst 1, 1) := by decide +kernel
theorem dX12_has_13 : decode cX12_has 13 = .ok (.goto 4, 3) := by decide +kernel
theorem dX12_has_16 : decode cX12_has 16 = .ok (.iconst 0, 1) := by decide +kernel
theorem dX12_has_17 : decode cX12_has 17 = .ok (.ireturn, 1) := by decide +kernel
theorem dX12_take_0 : decode cX12_take 0 = .ok (.aload_n 0, 1) := by decide +kernel
theorem dX12_take_1 : decode cX12_take 1 = .ok (.aload_n 0, 1) := by decide +kernel
theorem dX12_take_2 : decode cX12_take 2 = .ok (.getfield 7, 3) := by decide +kernel
theorem dX12_take_5 : decode cX12_take 5 = .ok (.bipush 121, 2) := by decide +kernel
theorem dX12_take_7 : decode cX12_take 7 = .ok (.iload_n 1, 1) := by decide +kernel
theorem dX12_take_8 : decode cX12_take 8 = .ok (.iadd, 1) := by decide +kernel
theorem dX12_take_9 : decode cX12_take 9 = .ok (.iaload, 1) := by decide +kernel
theorem dX12_take_10 : decode cX12_take 10 = .ok (.putfield 134, 3) := by decide +kernel
theorem dX12_take_13 : decode cX12_take 13 = .ok (.iconst 0, 1) := by decide +kernel
theorem dX12_take_14 : decode cX12_take 14 = .ok (.istore_n 2, 1) := by decide +kernel
theorem dX12_take_15 : decode cX12_take 15 = .ok (.iload_n 2, 1) := by decide +kernel
theorem dX12_take_16 : decode cX12_take 16 = .ok (.aload_n 0, 1) := by decide +kernel
theorem dX12_take_17 : decode cX12_take 17 = .ok (.getfield 134, 3) := by decide +kernel
theorem dX12_take_20 : decode cX12_take 20 = .ok (.if_icmp .ge 30, 3) := by decide +kernel
theorem dX12_take_23 : decode cX12_take 23 = .ok (.aload_n 0, 1) := by decide +kernel
theorem dX12_take_24 : decode cX12_take 24 = .ok (.getfield 25, 3) := by decide +kernel
theorem dX12_take_27 : decode cX12_take 27 = .ok (.iload_n 2, 1) := by decide +kernel
theorem dX12_take_28 : decode cX12_take 28 = .ok (.aload_n 0, 1) := by decide +kernel
theorem dX12_take_29 : decode cX12_take 29 = .ok (.getfield 7, 3) := by decide +kernel
theorem dX12_take_32 : decode cX12_take 32 = .ok (.bipush 125, 2) := by decide +kernel
theorem dX12_take_34 : decode cX12_take 34 = .ok (.sipush 400, 3) := by decide +kernel
theorem dX12_take_37 : decode cX12_take 37 = .ok (.iload_n 1, 1) := by decide +kernel
theorem dX12_take_38 : decode cX12_take 38 = .ok (.imul, 1) := by decide +kernel
theorem dX12_take_39 : decode cX12_take 39 = .ok (.iadd, 1) := by decide +kernel
theorem dX12_take_40 : decode cX12_take 40 = .ok (.iload_n 2, 1) := by decide +kernel
theorem dX12_take_41 : decode cX12_take 41 = .ok (.iadd, 1) := by decide +kernel
theorem dX12_take_42 : decode cX12_take 42 = .ok (.iaload, 1) := by decide +kernel
theorem dX12_take_43 : decode cX12_take 43 = .ok (.iastore, 1) := by decide +kernel
theorem dX12_take_44 : decode cX12_take 44 = .ok (.iinc 2 1, 3) := by decide +kernel
theorem dX12_take_47 : decode cX12_take 47 = .ok (.goto (-32), 3) := by decide +kernel
theorem dX12_take_50 : decode cX12_take 50 = .ok (.aload_n 0, 1) := by decide +kernel
theorem dX12_take_51 : decode cX12_take 51 = .ok (.aload_n 0, 1) := by decide +kernel
theorem dX12_take_52 : decode cX12_take 52 = .ok (.invokevirtual 207, 3) := by decide +kernel
theorem dX12_take_55 : decode cX12_take 55 = .ok (.ifCond .eq 7, 3) := by decide +kernel
theorem dX12_take_58 : decode cX12_take 58 = .ok (.iconst 0, 1) := by decide +kernel
theorem dX12_take_59 : decode cX12_take 59 = .ok (.goto 7, 3) := by decide +kernel
theorem dX12_take_62 : decode cX12_take 62 = .ok (.aload_n 0, 1) := by decide +kernel
theorem dX12_take_63 : decode cX12_take 63 = .ok (.getfield 131, 3) := by decide +kernel
theorem dX12_take_66 : decode cX12_take 66 = .ok (.putfield 131, 3) := by decide +kernel
theorem dX12_take_69 : decode cX12_take 69 = .ok (.return_, 1) := by decide +kernel
theorem dX12_lay_0 : decode cX12_lay 0 = .ok (.aload_n 0, 1) := by decide +kernel
theorem dX12_lay_1 : decode cX12_lay 1 = .ok (.invokevirtual 211, 3) := by decide +kernel
theorem dX12_lay_4 : decode cX12_lay 4 = .ok (.aload_n 0, 1) := by decide +kernel
theorem dX12_lay_5 : decode cX12_lay 5 = .ok (.getfield 7, 3) := by decide +kernel
theorem dX12_lay_8 : decode cX12_lay 8 = .ok (.bipush 121, 2) := by decide +kernel
theorem dX12_lay_10 : decode cX12_lay 10 = .ok (.iload_n 1, 1) := by decide +kernel
theorem dX12_lay_11 : decode cX12_lay 11 = .ok (.iadd, 1) := by decide +kernel
theorem dX12_lay_12 : decode cX12_lay 12 = .ok (.aload_n 0, 1) := by decide +kernel
theorem dX12_lay_13 : decode cX12_lay 13 = .ok (.getfield 186, 3) := by decide +kernel
theorem dX12_lay_16 : decode cX12_lay 16 = .ok (.iastore, 1) := by decide +kernel
theorem dX12_lay_17 : decode cX12_lay 17 = .ok (.iconst 0, 1) := by decide +kernel
theorem dX12_lay_18 : decode cX12_lay 18 = .ok (.istore_n 2, 1) := by decide +kernel
theorem dX12_lay_19 : decode cX12_lay 19 = .ok (.iload_n 2, 1) := by decide +kernel
theorem dX12_lay_20 : decode cX12_lay 20 = .ok (.aload_n 0, 1) := by decide +kernel
theorem dX12_lay_21 : decode cX12_lay 21 = .ok (.getfield 186, 3) := by decide +kernel
theorem dX12_lay_24 : decode cX12_lay 24 = .ok (.if_icmp .ge 30, 3) := by decide +kernel
theorem dX12_lay_27 : decode cX12_lay 27 = .ok (.aload_n 0, 1) := by decide +kernel
theorem dX12_lay_28 : decode cX12_lay 28 = .ok (.getfield 7, 3) := by decide +kernel
theorem dX12_lay_31 : decode cX12_lay 31 = .ok (.bipush 125, 2) := by decide +kernel
theorem dX12_lay_33 : decode cX12_lay 33 = .ok (.sipush 400, 3) := by decide +kernel
theorem dX12_lay_36 : decode cX12_lay 36 = .ok (.iload_n 1, 1) := by decide +kernel
theorem dX12_lay_37 : decode cX12_lay 37 = .ok (.imul, 1) := by decide +kernel
theorem dX12_lay_38 : decode cX12_lay 38 = .ok (.iadd, 1) := by decide +kernel
theorem dX12_lay_39 : decode cX12_lay 39 = .ok (.iload_n 2, 1) := by decide +kernel
theorem dX12_lay_40 : decode cX12_lay 40 = .ok (.iadd, 1) := by decide +kernel
theorem dX12_lay_41 : decode cX12_lay 41 = .ok (.aload_n 0, 1) := by decide +kernel
theorem dX12_lay_42 : decode cX12_lay 42 = .ok (.getfield 31, 3) := by decide +kernel
theorem dX12_lay_45 : decode cX12_lay 45 = .ok (.iload_n 2, 1) := by decide +kernel
theorem dX12_lay_46 : decode cX12_lay 46 = .ok (.iaload, 1) := by decide +kernel
theorem dX12_lay_47 : decode cX12_lay 47 = .ok (.iastore, 1) := by decide +kernel
theorem dX12_lay_48 : decode cX12_lay 48 = .ok (.iinc 2 1, 3) := by decide +kernel
theorem dX12_lay_51 : decode cX12_lay 51 = .ok (.goto (-32), 3) := by decide +kernel
theorem dX12_lay_54 : decode cX12_lay 54 = .ok (.return_, 1) := by decide +kernel
theorem dX12_type_0 : decode cX12_type 0 = .ok (.aload_n 0, 1) := by decide +kernel
theorem dX12_type_1 : decode cX12_type 1 = .ok (.iload_n 1, 1) := by decide +kernel
theorem dX12_type_2 : decode cX12_type 2 = .ok (.iconst 0, 1) := by decide +kernel
theorem dX12_type_3 : decode cX12_type 3 = .ok (.bipush 127, 2) := by decide +kernel
theorem dX12_type_5 : decode cX12_type 5 = .ok (.invokestatic 69, 3) := by decide +kernel
theorem dX12_type_8 : decode cX12_type 8 = .ok (.ifCond .ne 7, 3) := by decide +kernel
theorem dX12_type_11 : decode cX12_type 11 = .ok (.iconst 1, 1) := by decide +kernel
theorem dX12_type_12 : decode cX12_type 12 = .ok (.goto 17, 3) := by decide +kernel
theorem dX12_type_15 : decode cX12_type 15 = .ok (.aload_n 0, 1) := by decide +kernel
theorem dX12_type_16 : decode cX12_type 16 = .ok (.getfield 214, 3) := by decide +kernel
theorem dX12_type_19 : decode cX12_type 19 = .ok (.bipush 80, 2) := by decide +kernel
theorem dX12_type_21 : decode cX12_type 21 = .ok (.if_icmp .ne 7, 3) := by decide +kernel
theorem dX12_type_24 : decode cX12_type 24 = .ok (.iconst 2, 1) := by decide +kernel
theorem dX12_type_25 : decode cX12_type 25 = .ok (.goto 4, 3) := by decide +kernel
theorem dX12_type_28 : decode cX12_type 28 = .ok (.iconst 0, 1) := by decide +kernel
theorem dX12_type_29 : decode cX12_type 29 = .ok (.putfield 62, 3) := by decide +kernel
theorem dX12_type_32 : decode cX12_type 32 = .ok (.aload_n 0, 1) := by decide +kernel
theorem dX12_type_33 : decode cX12_type 33 = .ok (.getfield 62, 3) := by decide +kernel
theorem dX12_type_36 : decode cX12_type 36 = .ok (.ifCond .eq 5, 3) := by decide +kernel
theorem dX12_type_39 : decode cX12_type 39 = .ok (.iconst 0, 1) := by decide +kernel
theorem dX12_type_40 : decode cX12_type 40 = .ok (.ireturn, 1) := by decide +kernel
theorem dX12_type_41 : decode cX12_type 41 = .ok (.aload_n 0, 1) := by decide +kernel
theorem dX12_type_42 : decode cX12_type 42 = .ok (.getfield 16, 3) := by decide +kernel
theorem dX12_type_45 : decode cX12_type 45 = .ok (.aload_n 0, 1) := by decide +kernel
theorem dX12_type_46 : decode cX12_type 46 = .ok (.getfield 214, 3) := by decide +kernel
theorem dX12_type_49 : decode cX12_type 49 = .ok (.iload_n 1, 1) := by decide +kernel
theorem dX12_type_50 : decode cX12_type 50 = .ok (.iastore, 1) := by decide +kernel
theorem dX12_type_51 : decode cX12_type 51 = .ok (.aload_n 0, 1) := by decide +kernel
theorem dX12_type_52 : decode cX12_type 52 = .ok (.dup, 1) := by decide +kernel
theorem dX12_type_53 : decode cX12_type 53 = .ok (.getfield 214, 3) := by decide +kernel
theorem dX12_type_56 : decode cX12_type 56 = .ok (.iconst 1, 1) := by decide +kernel
theorem dX12_type_57 : decode cX12_type 57 = .ok (.iadd, 1) := by decide +kernel
theorem dX12_type_58 : decode cX12_type 58 = .ok (.putfield 214, 3) := by decide +kernel
theorem dX12_type_61 : decode cX12_type 61 = .ok (.aload_n 0, 1) := by decide +kernel
theorem dX12_type_62 : decode cX12_type 62 = .ok (.getfield 214, 3) := by decide +kernel
theorem dX12_type_65 : decode cX12_type 65 = .ok (.ireturn, 1) := by decide +kernel
theorem dX12_clearText_0 : decode cX12_clearText 0 = .ok (.aload_n 0, 1) := by decide +kernel
theorem dX12_clearText_1 : decode cX12_clearText 1 = .ok (.iconst 0, 1) := by decide +kernel
theorem dX12_clearText_2 : decode cX12_clearText 2 = .ok (.putfield 62, 3) := by decide +kernel
theorem dX12_clearText_5 : decode cX12_clearText 5 = .ok (.aload_n 0, 1) := by decide +kernel
theorem dX12_clearText_6 : decode cX12_clearText 6 = .ok (.getfield 214, 3) := by decide +kernel
theorem dX12_clearText_9 : decode cX12_clearText 9 = .ok (.istore_n 1, 1) := by decide +kernel
theorem dX12_clearText_10 : decode cX12_clearText 10 = .ok (.aload_n 0, 1) := by decide +kernel
theorem dX12_clearText_11 : decode cX12_clearText 11 = .ok (.iconst 0, 1) := by decide +kernel
theorem dX12_clearText_12 : decode cX12_clearText 12 = .ok (.putfield 214, 3) := by decide +kernel
theorem dX12_clearText_15 : decode cX12_clearText 15 = .ok (.iload_n 1, 1) := by decide +kernel
theorem dX12_clearText_16 : decode cX12_clearText 16 = .ok (.ireturn, 1) := by decide +kernel
theorem dX12_read_0 : decode cX12_read 0 = .ok (.aload_n 0, 1) := by decide +kernel
theorem dX12_read_1 : decode cX12_read 1 = .ok (.iload_n 1, 1) := by decide +kernel
theorem dX12_read_2 : decode cX12_read 2 = .ok (.invokestatic 217, 3) := by decide +kernel
theorem dX12_read_5 : decode cX12_read 5 = .ok (.ifCond .eq 7, 3) := by decide +kernel
theorem dX12_read_8 : decode cX12_read 8 = .ok (.iconst 0, 1) := by decide +kernel
theorem dX12_read_9 : decode cX12_read 9 = .ok (.goto 4, 3) := by decide +kernel
theorem dX12_read_12 : decode cX12_read 12 = .ok (.iconst 1, 1) := by decide +kernel
theorem dX12_read_13 : decode cX12_read 13 = .ok (.putfield 62, 3) := by decide +kernel
theorem dX12_read_16 : decode cX12_read 16 = .ok (.aload_n 0, 1) := by decide +kernel
theorem dX12_read_17 : decode cX12_read 17 = .ok (.getfield 62, 3) := by decide +kernel
theorem dX12_read_20 : decode cX12_read 20 = .ok (.ifCond .eq 5, 3) := by decide +kernel
theorem dX12_read_23 : decode cX12_read 23 = .ok (.iconst 0, 1) := by decide +kernel
theorem dX12_read_24 : decode cX12_read 24 = .ok (.ireturn, 1) := by decide +kernel
theorem dX12_read_25 : decode cX12_read 25 = .ok (.aload_n 0, 1) := by decide +kernel
theorem dX12_read_26 : decode cX12_read 26 = .ok (.aload_n 0, 1) := by decide +kernel
theorem dX12_read_27 : decode cX12_read 27 = .ok (.getfield 214, 3) := by decide +kernel
theorem dX12_read_30 : decode cX12_read 30 = .ok (.putfield 134, 3) := by decide +kernel
theorem dX12_read_33 : decode cX12_read 33 = .ok (.iconst 0, 1) := by decide +kernel
theorem dX12_read_34 : decode cX12_read 34 = .ok (.istore_n 2, 1) := by decide +kernel
theorem dX12_read_35 : decode cX12_read 35 = .ok (.iload_n 2, 1) := by decide +kernel
theorem dX12_read_36 : decode cX12_read 36 = .ok (.aload_n 0, 1) := by decide +kernel
theorem dX12_read_37 : decode cX12_read 37 = .ok (.getfield 214, 3) := by decide +kernel
theorem dX12_read_40 : decode cX12_read 40 = .ok (.if_icmp .ge 21, 3) := by decide +kernel
theorem dX12_read_43 : decode cX12_read 43 = .ok (.aload_n 0, 1) := by decide +kernel
theorem dX12_read_44 : decode cX12_read 44 = .ok (.getfield 25, 3) := by decide +kernel
theorem dX12_read_47 : decode cX12_read 47 = .ok (.iload_n 2, 1) := by decide +kernel
theorem dX12_read_48 : decode cX12_read 48 = .ok (.aload_n 0, 1) := by decide +kernel
theorem dX12_read_49 : decode cX12_read 49 = .ok (.getfield 16, 3) := by decide +kernel
theorem dX12_read_52 : decode cX12_read 52 = .ok (.iload_n 2, 1) := by decide +kernel
theorem dX12_read_53 : decode cX12_read 53 = .ok (.iaload, 1) := by decide +kernel
theorem dX12_read_54 : decode cX12_read 54 = .ok (.iastore, 1) := by decide +kernel
theorem dX12_read_55 : decode cX12_read 55 = .ok (.iinc 2 1, 3) := by decide +kernel
theorem dX12_read_58 : decode cX12_read 58 = .ok (.goto (-23), 3) := by decide +kernel
theorem dX12_read_61 : decode cX12_read 61 = .ok (.aload_n 0, 1) := by decide +kernel
theorem dX12_read_62 : decode cX12_read 62 = .ok (.invokevirtual 207, 3) := by decide +kernel
theorem dX12_read_65 : decode cX12_read 65 = .ok (.ifCond .ne 11, 3) := by decide +kernel
theorem dX12_read_68 : decode cX12_read 68 = .ok (.bipush (-10), 2) := by decide +kernel
theorem dX12_read_70 : decode cX12_read 70 = .ok (.aload_n 0, 1) := by decide +kernel
theorem dX12_read_71 : decode cX12_read 71 = .ok (.getfield 131, 3) := by decide +kernel
theorem dX12_read_74 : decode cX12_read 74 = .ok (.isub, 1) := by decide +kernel
theorem dX12_read_75 : decode cX12_read 75 = .ok (.ireturn, 1) := by decide +kernel
theorem dX12_read_76 : decode cX12_read 76 = .ok (.aload_n 0, 1) := by decide +kernel
theorem dX12_read_77 : decode cX12_read 77 = .ok (.invokevirtual 85, 3) := by decide +kernel
theorem dX12_read_80 : decode cX12_read 80 = .ok (.aload_n 0, 1) := by decide +kernel
theorem dX12_read_81 : decode cX12_read 81 = .ok (.iload_n 1, 1) := by decide +kernel
theorem dX12_read_82 : decode cX12_read 82 = .ok (.invokevirtual 220, 3) := by decide +kernel
theorem dX12_read_85 : decode cX12_read 85 = .ok (.aload_n 0, 1) := by decide +kernel
theorem dX12_read_86 : decode cX12_read 86 = .ok (.getfield 28, 3) := by decide +kernel
theorem dX12_read_89 : decode cX12_read 89 = .ok (.iconst 0, 1) := by decide +kernel
theorem dX12_read_90 : decode cX12_read 90 = .ok (.iaload, 1) := by decide +kernel
theorem dX12_read_91 : decode cX12_read 91 = .ok (.ireturn, 1) := by decide +kernel
theorem dX12_written_0 : decode cX12_written 0 = .ok (.aload_n 0, 1) := by decide +kernel
theorem dX12_written_1 : decode cX12_written 1 = .ok (.iload_n 1, 1) := by decide +kernel
theorem dX12_written_2 : decode cX12_written 2 = .ok (.invokestatic 217, 3) := by decide +kernel
theorem dX12_written_5 : decode cX12_written 5 = .ok (.ifCond .ne 7, 3) := by decide +kernel
theorem dX12_written_8 : decode cX12_written 8 = .ok (.iconst 1, 1) := by decide +kernel
theorem dX12_written_9 : decode cX12_written 9 = .ok (.goto 24, 3) := by decide +kernel
theorem dX12_written_12 : decode cX12_written 12 = .ok (.iload_n 2, 1) := by decide +kernel
theorem dX12_written_13 : decode cX12_written 13 = .ok (.ifCond .ge 7, 3) := by decide +kernel
theorem dX12_written_16 : decode cX12_written 16 = .ok (.iconst 2, 1) := by decide +kernel
theorem dX12_written_17 : decode cX12_written 17 = .ok (.goto 16, 3) := by decide +kernel
theorem dX12_written_20 : decode cX12_written 20 = .ok (.aload_n 0, 1) := by decide +kernel
theorem dX12_written_21 : decode cX12_written 21 = .ok (.iload_n 1, 1) := by decide +kernel
theorem dX12_written_22 : decode cX12_written 22 = .ok (.invokevirtual 223, 3) := by decide +kernel
theorem dX12_written_25 : decode cX12_written 25 = .ok (.ifCond .eq 7, 3) := by decide +kernel
theorem dX12_written_28 : decode cX12_written 28 = .ok (.iconst 0, 1) := by decide +kernel
theorem dX12_written_29 : decode cX12_written 29 = .ok (.goto 4, 3) := by decide +kernel
theorem dX12_written_32 : decode cX12_written 32 = .ok (.iconst 3, 1) := by decide +kernel
theorem dX12_written_33 : decode cX12_written 33 = .ok (.putfield 62, 3) := by decide +kernel
theorem dX12_written_36 : decode cX12_written 36 = .ok (.aload_n 0, 1) := by decide +kernel
theorem dX12_written_37 : decode cX12_written 37 = .ok (.getfield 62, 3) := by decide +kernel
theorem dX12_written_40 : decode cX12_written 40 = .ok (.ifCond .eq 5, 3) := by decide +kernel
theorem dX12_written_43 : decode cX12_written 43 = .ok (.iconst 0, 1) := by decide +kernel
theorem dX12_written_44 : decode cX12_written 44 = .ok (.ireturn, 1) := by decide +kernel
theorem dX12_written_45 : decode cX12_written 45 = .ok (.iload_n 2, 1) := by decide +kernel
theorem dX12_written_46 : decode cX12_written 46 = .ok (.aload_n 0, 1) := by decide +kernel
theorem dX12_written_47 : decode cX12_written 47 = .ok (.getfield 7, 3) := by decide +kernel
theorem dX12_written_50 : decode cX12_written 50 = .ok (.bipush 121, 2) := by decide +kernel
theorem dX12_written_52 : decode cX12_written 52 = .ok (.iload_n 1, 1) := by decide +kernel
theorem dX12_written_53 : decode cX12_written 53 = .ok (.iadd, 1) := by decide +kernel
theorem dX12_written_54 : decode cX12_written 54 = .ok (.iaload, 1) := by decide +kernel
theorem dX12_written_55 : decode cX12_written 55 = .ok (.if_icmp .ge 21, 3) := by decide +kernel
theorem dX12_written_58 : decode cX12_written 58 = .ok (.aload_n 0, 1) := by decide +kernel
theorem dX12_written_59 : decode cX12_written 59 = .ok (.getfield 7, 3) := by decide +kernel
theorem dX12_written_62 : decode cX12_written 62 = .ok (.bipush 125, 2) := by decide +kernel
theorem dX12_written_64 : decode cX12_written 64 = .ok (.sipush 400, 3) := by decide +kernel
theorem dX12_written_67 : decode cX12_written 67 = .ok (.iload_n 1, 1) := by decide +kernel
theorem dX12_written_68 : decode cX12_written 68 = .ok (.imul, 1) := by decide +kernel
theorem dX12_written_69 : decode cX12_written 69 = .ok (.iadd, 1) := by decide +kernel
theorem dX12_written_70 : decode cX12_written 70 = .ok (.iload_n 2, 1) := by decide +kernel
theorem dX12_written_71 : decode cX12_written 71 = .ok (.iadd, 1) := by decide +kernel
theorem dX12_written_72 : decode cX12_written 72 = .ok (.iaload, 1) := by decide +kernel
theorem dX12_written_73 : decode cX12_written 73 = .ok (.goto 4, 3) := by decide +kernel
theorem dX12_written_76 : decode cX12_written 76 = .ok (.iconst (-1), 1) := by decide +kernel
theorem dX12_written_77 : decode cX12_written 77 = .ok (.ireturn, 1) := by decide +kernel
theorem dX12_isPositional_0 : decode cX12_isPositional 0 = .ok (.iconst 0, 1) := by decide +kernel
theorem dX12_isPositional_1 : decode cX12_isPositional 1 = .ok (.istore_n 2, 1) := by decide +kernel
theorem dX12_isPositional_2 : decode cX12_isPositional 2 = .ok (.iconst 0, 1) := by decide +kernel
theorem dX12_isPositional_3 : decode cX12_isPositional 3 = .ok (.istore_n 3, 1) := by decide +kernel
theorem dX12_isPositional_4 : decode cX12_isPositional 4 = .ok (.iload_n 3, 1) := by decide +kernel
theorem dX12_isPositional_5 : decode cX12_isPositional 5 = .ok (.aload_n 0, 1) := by decide +kernel
theorem dX12_isPositional_6 : decode cX12_isPositional 6 = .ok (.getfield 28, 3) := by decide +kernel
theorem dX12_isPositional_9 : decode cX12_isPositional 9 = .ok (.iload_n 1, 1) := by decide +kernel
theorem dX12_isPositional_10 : decode cX12_isPositional 10 = .ok (.iaload, 1) := by decide +kernel
theorem dX12_isPositional_11 : decode cX12_isPositional 11 = .ok (.if_icmp .ge 65, 3) := by decide +kernel
theorem dX12_isPositional_14 : decode cX12_isPositional 14 = .ok (.iload_n 1, 1) := by decide +kernel
theorem dX12_isPositional_15 : decode cX12_isPositional 15 = .ok (.iload_n 3, 1) := by decide +kernel
theorem dX12_isPositional_16 : decode cX12_isPositional 16 = .ok (.invokestatic 159, 3) := by decide +kernel
theorem dX12_isPositional_19 : decode cX12_isPositional 19 = .ok (.istore 4, 2) := by decide +kernel
theorem dX12_isPositional_21 : decode cX12_isPositional 21 = .ok (.iconst 0, 1) := by decide +kernel
theorem dX12_isPositional_22 : decode cX12_isPositional 22 = .ok (.istore 5, 2) := by decide +kernel
theorem dX12_isPositional_24 : decode cX12_isPositional 24 = .ok (.iload 5, 2) := by decide +kernel
theorem dX12_isPositional_26 : decode cX12_isPositional 26 = .ok (.aload_n 0, 1) := by decide +kernel
theorem dX12_isPositional_27 : decode cX12_isPositional 27 = .ok (.getfield 28, 3) := by decide +kernel
theorem dX12_isPositional_30 : decode cX12_isPositional 30 = .ok (.iload 4, 2) := by decide +kernel
theorem dX12_isPositional_32 : decode cX12_isPositional 32 = .ok (.iaload, 1) := by decide +kernel
theorem dX12_isPositional_33 : decode cX12_isPositional 33 = .ok (.if_icmp .ge 37, 3) := by decide +kernel
theorem dX12_isPositional_36 : decode cX12_isPositional 36 = .ok (.iload_n 2, 1) := by decide +kernel
theorem dX12_isPositional_37 : decode cX12_isPositional 37 = .ok (.ifCond .ne 21, 3) := by decide +kernel
theorem dX12_isPositional_40 : decode cX12_isPositional 40 = .ok (.aload_n 0, 1) := by decide +kernel
theorem dX12_isPositional_41 : decode cX12_isPositional 41 = .ok (.getfield 28, 3) := by decide +kernel
theorem dX12_isPositional_44 : decode cX12_isPositional 44 = .ok (.iload 4, 2) := by decide +kernel
theorem dX12_isPositional_46 : decode cX12_isPositional 46 = .ok (.iload 5, 2) := by decide +kernel
theorem dX12_isPositional_48 : decode cX12_isPositional 48 = .ok (.invokestatic 153, 3) := by decide +kernel
theorem dX12_isPositional_51 : decode cX12_isPositional 51 = .ok (.iconst 1, 1) := by decide +kernel
theorem dX12_isPositional_52 : decode cX12_isPositional 52 = .ok (.iadd, 1) := by decide +kernel
theorem dX12_isPositional_53 : decode cX12_isPositional 53 = .ok (.iaload, 1) := by decide +kernel
theorem dX12_isPositional_54 : decode cX12_isPositional 54 = .ok (.iconst 1, 1) := by decide +kernel
theorem dX12_isPositional_55 : decode cX12_isPositional 55 = .ok (.if_icmp .gt 7, 3) := by decide +kernel
theorem dX12_isPositional_58 : decode cX12_isPositional 58 = .ok (.iconst 1, 1) := by decide +kernel
theorem dX12_isPositional_59 : decode cX12_isPositional 59 = .ok (.goto 4, 3) := by decide +kernel
theorem dX12_isPositional_62 : decode cX12_isPositional 62 = .ok (.iconst 0, 1) := by decide +kernel
theorem dX12_isPositional_63 : decode cX12_isPositional 63 = .ok (.istore_n 2, 1) := by decide +kernel
theorem dX12_isPositional_64 : decode cX12_isPositional 64 = .ok (.iinc 5 1, 3) := by decide +kernel
theorem dX12_isPositional_67 : decode cX12_isPositional 67 = .ok (.goto (-43), 3) := by decide +kernel
theorem dX12_isPositional_70 : decode cX12_isPositional 70 = .ok (.iinc 3 1, 3) := by decide +kernel
theorem dX12_isPositional_73 : decode cX12_isPositional 73 = .ok (.goto (-69), 3) := by decide +kernel
theorem dX12_isPositional_76 : decode cX12_isPositional 76 = .ok (.iload_n 2, 1) := by decide +kernel
theorem dX12_isPositional_77 : decode cX12_isPositional 77 = .ok (.ireturn, 1) := by decide +kernel
theorem dX12_isPositionalStep_0 : decode cX12_isPositionalStep 0 = .ok (.iconst 0, 1) := by decide +kernel
theorem dX12_isPositionalStep_1 : decode cX12_isPositionalStep 1 = .ok (.istore_n 2, 1) := by decide +kernel
theorem dX12_isPositionalStep_2 : decode cX12_isPositionalStep 2 = .ok (.iconst 0, 1) := by decide +kernel
theorem dX12_isPositionalStep_3 : decode cX12_isPositionalStep 3 = .ok (.istore_n 3, 1) := by decide +kernel
theorem dX12_isPositionalStep_4 : decode cX12_isPositionalStep 4 = .ok (.iload_n 3, 1) := by decide +kernel
theorem dX12_isPositionalStep_5 : decode cX12_isPositionalStep 5 = .ok (.aload_n 0, 1) := by decide +kernel
theorem dX12_isPositionalStep_6 : decode cX12_isPositionalStep 6 = .ok (.getfield 28, 3) := by decide +kernel
theorem dX12_isPositionalStep_9 : decode cX12_isPositionalStep 9 = .ok (.iload_n 1, 1) := by decide +kernel
theorem dX12_isPositionalStep_10 : decode cX12_isPositionalStep 10 = .ok (.iconst 2, 1) := by decide +kernel
theorem dX12_isPositionalStep_11 : decode cX12_isPositionalStep 11 = .ok (.iadd, 1) := by decide +kernel
theorem dX12_isPositionalStep_12 : decode cX12_isPositionalStep 12 = .ok (.iaload, 1) := by decide +kernel
theorem dX12_isPositionalStep_13 : decode cX12_isPositionalStep 13 = .ok (.if_icmp .ge 31, 3) := by decide +kernel
theorem dX12_isPositionalStep_16 : decode cX12_isPositionalStep 16 = .ok (.iload_n 2, 1) := by decide +kernel
theorem dX12_isPositionalStep_17 : decode cX12_isPositionalStep 17 = .ok (.ifCond .ne 15, 3) := by decide +kernel
theorem dX12_isPositionalStep_20 : decode cX12_isPositionalStep 20 = .ok (.aload_n 0, 1) := by decide +kernel
theorem dX12_isPositionalStep_21 : decode cX12_isPositionalStep 21 = .ok (.iload_n 1, 1) := by decide +kernel
theorem dX12_isPositionalStep_22 : decode cX12_isPositionalStep 22 = .ok (.iload_n 3, 1) := by decide +kernel
theorem dX12_isPositionalStep_23 : decode cX12_isPositionalStep 23 = .ok (.invokestatic 168, 3) := by decide +kernel
theorem dX12_isPositionalStep_26 : decode cX12_isPositionalStep 26 = .ok (.invokevirtual 226, 3) := by decide +kernel
theorem dX12_isPositionalStep_29 : decode cX12_isPositionalStep 29 = .ok (.ifCond .eq 7, 3) := by decide +kernel
theorem dX12_isPositionalStep_32 : decode cX12_isPositionalStep 32 = .ok (.iconst 1, 1) := by decide +kernel
theorem dX12_isPositionalStep_33 : decode cX12_isPositionalStep 33 = .ok (.goto 4, 3) := by decide +kernel
theorem dX12_isPositionalStep_36 : decode cX12_isPositionalStep 36 = .ok (.iconst 0, 1) := by decide +kernel
theorem dX12_isPositionalStep_37 : decode cX12_isPositionalStep 37 = .ok (.istore_n 2, 1) := by decide +kernel
theorem dX12_isPositionalStep_38 : decode cX12_isPositionalStep 38 = .ok (.iinc 3 1, 3) := by decide +kernel
theorem dX12_isPositionalStep_41 : decode cX12_isPositionalStep 41 = .ok (.goto (-37), 3) := by decide +kernel
theorem dX12_isPositionalStep_44 : decode cX12_isPositionalStep 44 = .ok (.iload_n 2, 1) := by decide +kernel
theorem dX12_isPositionalStep_45 : decode cX12_isPositionalStep 45 = .ok (.ireturn, 1) := by decide +kernel
theorem dX12_sizeStep_0 : decode cX12_sizeStep 0 = .ok (.aload_n 0, 1) := by decide +kernel
theorem dX12_sizeStep_1 : decode cX12_sizeStep 1 = .ok (.getfield 34, 3) := by decide +kernel
theorem dX12_sizeStep_4 : decode cX12_sizeStep 4 = .ok (.iconst 0, 1) := by decide +kernel
theorem dX12_sizeStep_5 : decode cX12_sizeStep 5 = .ok (.dup2, 1) := by decide +kernel
theorem dX12_sizeStep_6 : decode cX12_sizeStep 6 = .ok (.iaload, 1) := by decide +kernel
theorem dX12_sizeStep_7 : decode cX12_sizeStep 7 = .ok (.iconst 1, 1) := by decide +kernel
theorem dX12_sizeStep_8 : decode cX12_sizeStep 8 = .ok (.iadd, 1) := by decide +kernel
theorem dX12_sizeStep_9 : decode cX12_sizeStep 9 = .ok (.iastore, 1) := by decide +kernel
theorem dX12_sizeStep_10 : decode cX12_sizeStep 10 = .ok (.aload_n 0, 1) := by decide +kernel
theorem dX12_sizeStep_11 : decode cX12_sizeStep 11 = .ok (.getfield 34, 3) := by decide +kernel
theorem dX12_sizeStep_14 : decode cX12_sizeStep 14 = .ok (.iconst 1, 1) := by decide +kernel
theorem dX12_sizeStep_15 : decode cX12_sizeStep 15 = .ok (.dup2, 1) := by decide +kernel
theorem dX12_sizeStep_16 : decode cX12_sizeStep 16 = .ok (.iaload, 1) := by decide +kernel
theorem dX12_sizeStep_17 : decode cX12_sizeStep 17 = .ok (.aload_n 0, 1) := by decide +kernel
theorem dX12_sizeStep_18 : decode cX12_sizeStep 18 = .ok (.getfield 28, 3) := by decide +kernel
theorem dX12_sizeStep_21 : decode cX12_sizeStep 21 = .ok (.iload_n 1, 1) := by decide +kernel
theorem dX12_sizeStep_22 : decode cX12_sizeStep 22 = .ok (.iconst 2, 1) := by decide +kernel
theorem dX12_sizeStep_23 : decode cX12_sizeStep 23 = .ok (.iadd, 1) := by decide +kernel
theorem dX12_sizeStep_24 : decode cX12_sizeStep 24 = .ok (.iaload, 1) := by decide +kernel
theorem dX12_sizeStep_25 : decode cX12_sizeStep 25 = .ok (.iadd, 1) := by decide +kernel
theorem dX12_sizeStep_26 : decode cX12_sizeStep 26 = .ok (.iastore, 1) := by decide +kernel
theorem dX12_sizeStep_27 : decode cX12_sizeStep 27 = .ok (.aload_n 0, 1) := by decide +kernel
theorem dX12_sizeStep_28 : decode cX12_sizeStep 28 = .ok (.getfield 34, 3) := by decide +kernel
theorem dX12_sizeStep_31 : decode cX12_sizeStep 31 = .ok (.iconst 3, 1) := by decide +kernel
theorem dX12_sizeStep_32 : decode cX12_sizeStep 32 = .ok (.aload_n 0, 1) := by decide +kernel
theorem dX12_sizeStep_33 : decode cX12_sizeStep 33 = .ok (.iload_n 1, 1) := by decide +kernel
theorem dX12_sizeStep_34 : decode cX12_sizeStep 34 = .ok (.invokevirtual 229, 3) := by decide +kernel
theorem dX12_sizeStep_37 : decode cX12_sizeStep 37 = .ok (.ifCond .eq 7, 3) := by decide +kernel
theorem dX12_sizeStep_40 : decode cX12_sizeStep 40 = .ok (.iconst 1, 1) := by decide +kernel
theorem dX12_sizeStep_41 : decode cX12_sizeStep 41 = .ok (.goto 9, 3) := by decide +kernel
theorem dX12_sizeStep_44 : decode cX12_sizeStep 44 = .ok (.aload_n 0, 1) := by decide +kernel
theorem dX12_sizeStep_45 : decode cX12_sizeStep 45 = .ok (.getfield 34, 3) := by decide +kernel
theorem dX12_sizeStep_48 : decode cX12_sizeStep 48 = .ok (.iconst 3, 1) := by decide +kernel
theorem dX12_sizeStep_49 : decode cX12_sizeStep 49 = .ok (.iaload, 1) := by decide +kernel
theorem dX12_sizeStep_50 : decode cX12_sizeStep 50 = .ok (.iastore, 1) := by decide +kernel
theorem dX12_sizeStep_51 : decode cX12_sizeStep 51 = .ok (.iconst 0, 1) := by decide +kernel
theorem dX12_sizeStep_52 : decode cX12_sizeStep 52 = .ok (.istore_n 2, 1) := by decide +kernel
theorem dX12_sizeStep_53 : decode cX12_sizeStep 53 = .ok (.iload_n 2, 1) := by decide +kernel
theorem dX12_sizeStep_54 : decode cX12_sizeStep 54 = .ok (.aload_n 0, 1) := by decide +kernel
theorem dX12_sizeStep_55 : decode cX12_sizeStep 55 = .ok (.getfield 28, 3) := by decide +kernel
theorem dX12_sizeStep_58 : decode cX12_sizeStep 58 = .ok (.iload_n 1, 1) := by decide +kernel
theorem dX12_sizeStep_59 : decode cX12_sizeStep 59 = .ok (.iconst 2, 1) := by decide +kernel
theorem dX12_sizeStep_60 : decode cX12_sizeStep 60 = .ok (.iadd, 1) := by decide +kernel
theorem dX12_sizeStep_61 : decode cX12_sizeStep 61 = .ok (.iaload, 1) := by decide +kernel
theorem dX12_sizeStep_62 : decode cX12_sizeStep 62 = .ok (.if_icmp .ge 55, 3) := by decide +kernel
theorem dX12_sizeStep_65 : decode cX12_sizeStep 65 = .ok (.iload_n 1, 1) := by decide +kernel
theorem dX12_sizeStep_66 : decode cX12_sizeStep 66 = .ok (.iload_n 2, 1) := by decide +kernel
theorem dX12_sizeStep_67 : decode cX12_sizeStep 67 = .ok (.invokestatic 168, 3) := by decide +kernel
theorem dX12_sizeStep_70 : decode cX12_sizeStep 70 = .ok (.istore_n 3, 1) := by decide +kernel
theorem dX12_sizeStep_71 : decode cX12_sizeStep 71 = .ok (.iconst 0, 1) := by decide +kernel
theorem dX12_sizeStep_72 : decode cX12_sizeStep 72 = .ok (.istore 4, 2) := by decide +kernel
theorem dX12_sizeStep_74 : decode cX12_sizeStep 74 = .ok (.iload 4, 2) := by decide +kernel
theorem dX12_sizeStep_76 : decode cX12_sizeStep 76 = .ok (.aload_n 0, 1) := by decide +kernel
theorem dX12_sizeStep_77 : decode cX12_sizeStep 77 = .ok (.getfield 28, 3) := by decide +kernel
theorem dX12_sizeStep_80 : decode cX12_sizeStep 80 = .ok (.iload_n 3, 1) := by decide +kernel
theorem dX12_sizeStep_81 : decode cX12_sizeStep 81 = .ok (.iaload, 1) := by decide +kernel
theorem dX12_sizeStep_82 : decode cX12_sizeStep 82 = .ok (.if_icmp .ge 29, 3) := by decide +kernel
theorem dX12_sizeStep_85 : decode cX12_sizeStep 85 = .ok (.aload_n 0, 1) := by decide +kernel
theorem dX12_sizeStep_86 : decode cX12_sizeStep 86 = .ok (.getfield 34, 3) := by decide +kernel
theorem dX12_sizeStep_89 : decode cX12_sizeStep 89 = .ok (.iconst 2, 1) := by decide +kernel
theorem dX12_sizeStep_90 : decode cX12_sizeStep 90 = .ok (.dup2, 1) := by decide +kernel
theorem dX12_sizeStep_91 : decode cX12_sizeStep 91 = .ok (.iaload, 1) := by decide +kernel
theorem dX12_sizeStep_92 : decode cX12_sizeStep 92 = .ok (.aload_n 0, 1) := by decide +kernel
theorem dX12_sizeStep_93 : decode cX12_sizeStep 93 = .ok (.getfield 28, 3) := by decide +kernel
theorem dX12_sizeStep_96 : decode cX12_sizeStep 96 = .ok (.iload_n 3, 1) := by decide +kernel
theorem dX12_sizeStep_97 : decode cX12_sizeStep 97 = .ok (.iload 4, 2) := by decide +kernel
theorem dX12_sizeStep_99 : decode cX12_sizeStep 99 = .ok (.invokestatic 159, 3) := by decide +kernel
theorem dX12_sizeStep_102 : decode cX12_sizeStep 102 = .ok (.iaload, 1) := by decide +kernel
theorem dX12_sizeStep_103 : decode cX12_sizeStep 103 = .ok (.iadd, 1) := by decide +kernel
theorem dX12_sizeStep_104 : decode cX12_sizeStep 104 = .ok (.iastore, 1) := by decide +kernel
theorem dX12_sizeStep_105 : decode cX12_sizeStep 105 = .ok (.iinc 4 1, 3) := by decide +kernel
theorem dX12_sizeStep_108 : decode cX12_sizeStep 108 = .ok (.goto (-34), 3) := by decide +kernel
theorem dX12_sizeStep_111 : decode cX12_sizeStep 111 = .ok (.iinc 2 1, 3) := by decide +kernel
theorem dX12_sizeStep_114 : decode cX12_sizeStep 114 = .ok (.goto (-61), 3) := by decide +kernel
theorem dX12_sizeStep_117 : decode cX12_sizeStep 117 = .ok (.return_, 1) := by decide +kernel
theorem dX12_sizeOf_0 : decode cX12_sizeOf 0 = .ok (.iload_n 2, 1) := by decide +kernel
theorem dX12_sizeOf_1 : decode cX12_sizeOf 1 = .ok (.ifCond .eq 8, 3) := by decide +kernel
theorem dX12_sizeOf_4 : decode cX12_sizeOf 4 = .ok (.iload_n 2, 1) := by decide +kernel
theorem dX12_sizeOf_5 : decode cX12_sizeOf 5 = .ok (.iconst 5, 1) := by decide +kernel
theorem dX12_sizeOf_6 : decode cX12_sizeOf 6 = .ok (.if_icmp .ne 26, 3) := by decide +kernel
theorem dX12_sizeOf_9 : decode cX12_sizeOf 9 = .ok (.iload_n 2, 1) := by decide +kernel
theorem dX12_sizeOf_10 : decode cX12_sizeOf 10 = .ok (.ifCond .ne 12, 3) := by decide +kernel
theorem dX12_sizeOf_13 : decode cX12_sizeOf 13 = .ok (.aload_n 0, 1) := by decide +kernel
theorem dX12_sizeOf_14 : decode cX12_sizeOf 14 = .ok (.getfield 28, 3) := by decide +kernel
theorem dX12_sizeOf_17 : decode cX12_sizeOf 17 = .ok (.iconst 0, 1) := by decide +kernel
theorem dX12_sizeOf_18 : decode cX12_sizeOf 18 = .ok (.iaload, 1) := by decide +kernel
theorem dX12_sizeOf_19 : decode cX12_sizeOf 19 = .ok (.goto 12, 3) := by decide +kernel
theorem dX12_sizeOf_22 : decode cX12_sizeOf 22 = .ok (.aload_n 0, 1) := by decide +kernel
theorem dX12_sizeOf_23 : decode cX12_sizeOf 23 = .ok (.getfield 7, 3) := by decide +kernel
theorem dX12_sizeOf_26 : decode cX12_sizeOf 26 = .ok (.bipush 121, 2) := by decide +kernel
theorem dX12_sizeOf_28 : decode cX12_sizeOf 28 = .ok (.iload_n 1, 1) := by decide +kernel
theorem dX12_sizeOf_29 : decode cX12_sizeOf 29 = .ok (.iadd, 1) := by decide +kernel
theorem dX12_sizeOf_30 : decode cX12_sizeOf 30 = .ok (.iaload, 1) := by decide +kernel
theorem dX12_sizeOf_31 : decode cX12_sizeOf 31 = .ok (.ireturn, 1) := by decide +kernel
theorem dX12_sizeOf_32 : decode cX12_sizeOf 32 = .ok (.iconst 0, 1) := by decide +kernel
theorem dX12_sizeOf_33 : decode cX12_sizeOf 33 = .ok (.istore_n 3, 1) := by decide +kernel
theorem dX12_sizeOf_34 : decode cX12_sizeOf 34 = .ok (.iload_n 3, 1) := by decide +kernel
theorem dX12_sizeOf_35 : decode cX12_sizeOf 35 = .ok (.iconst 4, 1) := by decide +kernel
theorem dX12_sizeOf_36 : decode cX12_sizeOf 36 = .ok (.if_icmp .ge 16, 3) := by decide +kernel
theorem dX12_sizeOf_39 : decode cX12_sizeOf 39 = .ok (.aload_n 0, 1) := by decide +kernel
theorem dX12_sizeOf_40 : decode cX12_sizeOf 40 = .ok (.getfield 34, 3) := by decide +kernel
theorem dX12_sizeOf_43 : decode cX12_sizeOf 43 = .ok (.iload_n 3, 1) := by decide +kernel
theorem dX12_sizeOf_44 : decode cX12_sizeOf 44 = .ok (.iconst 0, 1) := by decide +kernel
theorem dX12_sizeOf_45 : decode cX12_sizeOf 45 = .ok (.iastore, 1) := by decide +kernel
theorem dX12_sizeOf_46 : decode cX12_sizeOf 46 = .ok (.iinc 3 1, 3) := by decide +kernel
theorem dX12_sizeOf_49 : decode cX12_sizeOf 49 = .ok (.goto (-15), 3) := by decide +kernel
theorem dX12_sizeOf_52 : decode cX12_sizeOf 52 = .ok (.iconst 0, 1) := by decide +kernel
theorem dX12_sizeOf_53 : decode cX12_sizeOf 53 = .ok (.istore_n 3, 1) := by decide +kernel
theorem dX12_sizeOf_54 : decode cX12_sizeOf 54 = .ok (.iload_n 3, 1) := by decide +kernel
theorem dX12_sizeOf_55 : decode cX12_sizeOf 55 = .ok (.aload_n 0, 1) := by decide +kernel
theorem dX12_sizeOf_56 : decode cX12_sizeOf 56 = .ok (.getfield 28, 3) := by decide +kernel
theorem dX12_sizeOf_59 : decode cX12_sizeOf 59 = .ok (.iconst 0, 1) := by decide +kernel
theorem dX12_sizeOf_60 : decode cX12_sizeOf 60 = .ok (.iaload, 1) := by decide +kernel
theorem dX12_sizeOf_61 : decode cX12_sizeOf 61 = .ok (.if_icmp .ge 49, 3) := by decide +kernel
theorem dX12_sizeOf_64 : decode cX12_sizeOf 64 = .ok (.iload_n 3, 1) := by decide +kernel
theorem dX12_sizeOf_65 : decode cX12_sizeOf 65 = .ok (.invokestatic 180, 3) := by decide +kernel
theorem dX12_sizeOf_68 : decode cX12_sizeOf 68 = .ok (.istore 4, 2) := by decide +kernel
theorem dX12_sizeOf_70 : decode cX12_sizeOf 70 = .ok (.iconst 0, 1) := by decide +kernel
theorem dX12_sizeOf_71 : decode cX12_sizeOf 71 = .ok (.istore 5, 2) := by decide +kernel
theorem dX12_sizeOf_73 : decode cX12_sizeOf 73 = .ok (.iload 5, 2) := by decide +kernel
theorem dX12_sizeOf_75 : decode cX12_sizeOf 75 = .ok (.aload_n 0, 1) := by decide +kernel
theorem dX12_sizeOf_76 : decode cX12_sizeOf 76 = .ok (.getfield 28, 3) := by decide +kernel
theorem dX12_sizeOf_79 : decode cX12_sizeOf 79 = .ok (.iload 4, 2) := by decide +kernel
theorem dX12_sizeOf_81 : decode cX12_sizeOf 81 = .ok (.iconst 1, 1) := by decide +kernel
theorem dX12_sizeOf_82 : decode cX12_sizeOf 82 = .ok (.iadd, 1) := by decide +kernel
theorem dX12_sizeOf_83 : decode cX12_sizeOf 83 = .ok (.iaload, 1) := by decide +kernel
theorem dX12_sizeOf_84 : decode cX12_sizeOf 84 = .ok (.if_icmp .ge 20, 3) := by decide +kernel
theorem dX12_sizeOf_87 : decode cX12_sizeOf 87 = .ok (.aload_n 0, 1) := by decide +kernel
theorem dX12_sizeOf_88 : decode cX12_sizeOf 88 = .ok (.iload 4, 2) := by decide +kernel
theorem dX12_sizeOf_90 : decode cX12_sizeOf 90 = .ok (.iload 5, 2) := by decide +kernel
theorem dX12_sizeOf_92 : decode cX12_sizeOf 92 = .ok (.invokestatic 165, 3) := by decide +kernel
theorem dX12_sizeOf_95 : decode cX12_sizeOf 95 = .ok (.invokevirtual 232, 3) := by decide +kernel
theorem dX12_sizeOf_98 : decode cX12_sizeOf 98 = .ok (.iinc 5 1, 3) := by decide +kernel
theorem dX12_sizeOf_101 : decode cX12_sizeOf 101 = .ok (.goto (-28), 3) := by decide +kernel
theorem dX12_sizeOf_104 : decode cX12_sizeOf 104 = .ok (.iinc 3 1, 3) := by decide +kernel
theorem dX12_sizeOf_107 : decode cX12_sizeOf 107 = .ok (.goto (-53), 3) := by decide +kernel
theorem dX12_sizeOf_110 : decode cX12_sizeOf 110 = .ok (.aload_n 0, 1) := by decide +kernel
theorem dX12_sizeOf_111 : decode cX12_sizeOf 111 = .ok (.getfield 34, 3) := by decide +kernel
theorem dX12_sizeOf_114 : decode cX12_sizeOf 114 = .ok (.iload_n 2, 1) := by decide +kernel
theorem dX12_sizeOf_115 : decode cX12_sizeOf 115 = .ok (.iconst 1, 1) := by decide +kernel
theorem dX12_sizeOf_116 : decode cX12_sizeOf 116 = .ok (.isub, 1) := by decide +kernel
theorem dX12_sizeOf_117 : decode cX12_sizeOf 117 = .ok (.iaload, 1) := by decide +kernel
theorem dX12_sizeOf_118 : decode cX12_sizeOf 118 = .ok (.ireturn, 1) := by decide +kernel
theorem dX12_size_0 : decode cX12_size 0 = .ok (.aload_n 0, 1) := by decide +kernel
theorem dX12_size_1 : decode cX12_size 1 = .ok (.iload_n 1, 1) := by decide +kernel
theorem dX12_size_2 : decode cX12_size 2 = .ok (.invokestatic 217, 3) := by decide +kernel
theorem dX12_size_5 : decode cX12_size 5 = .ok (.ifCond .ne 7, 3) := by decide +kernel
theorem dX12_size_8 : decode cX12_size 8 = .ok (.iconst 1, 1) := by decide +kernel
theorem dX12_size_9 : decode cX12_size 9 = .ok (.goto 29, 3) := by decide +kernel
theorem dX12_size_12 : decode cX12_size 12 = .ok (.iload_n 2, 1) := by decide +kernel
theorem dX12_size_13 : decode cX12_size 13 = .ok (.iconst 0, 1) := by decide +kernel
theorem dX12_size_14 : decode cX12_size 14 = .ok (.iconst 5, 1) := by decide +kernel
theorem dX12_size_15 : decode cX12_size 15 = .ok (.invokestatic 69, 3) := by decide +kernel
theorem dX12_size_18 : decode cX12_size 18 = .ok (.ifCond .ne 7, 3) := by decide +kernel
theorem dX12_size_21 : decode cX12_size 21 = .ok (.iconst 2, 1) := by decide +kernel
theorem dX12_size_22 : decode cX12_size 22 = .ok (.goto 16, 3) := by decide +kernel
theorem dX12_size_25 : decode cX12_size 25 = .ok (.aload_n 0, 1) := by decide +kernel
theorem dX12_size_26 : decode cX12_size 26 = .ok (.iload_n 1, 1) := by decide +kernel
theorem dX12_size_27 : decode cX12_size 27 = .ok (.invokevirtual 223, 3) := by decide +kernel
theorem dX12_size_30 : decode cX12_size 30 = .ok (.ifCond .eq 7, 3) := by decide +kernel
theorem dX12_size_33 : decode cX12_size 33 = .ok (.iconst 0, 1) := by decide +kernel
theorem dX12_size_34 : decode cX12_size 34 = .ok (.goto 4, 3) := by decide +kernel
theorem dX12_size_37 : decode cX12_size 37 = .ok (.iconst 3, 1) := by decide +kernel
theorem dX12_size_38 : decode cX12_size 38 = .ok (.putfield 62, 3) := by decide +kernel
theorem dX12_size_41 : decode cX12_size 41 = .ok (.aload_n 0, 1) := by decide +kernel
theorem dX12_size_42 : decode cX12_size 42 = .ok (.getfield 62, 3) := by decide +kernel
theorem dX12_size_45 : decode cX12_size 45 = .ok (.ifCond .eq 5, 3) := by decide +kernel
theorem dX12_size_48 : decode cX12_size 48 = .ok (.iconst 0, 1) := by decide +kernel
theorem dX12_size_49 : decode cX12_size 49 = .ok (.ireturn, 1) := by decide +kernel
theorem dX12_size_50 : decode cX12_size 50 = .ok (.aload_n 0, 1) := by decide +kernel
theorem dX12_size_51 : decode cX12_size 51 = .ok (.iload_n 1, 1) := by decide +kernel
theorem dX12_size_52 : decode cX12_size 52 = .ok (.invokevirtual 235, 3) := by decide +kernel
theorem dX12_size_55 : decode cX12_size 55 = .ok (.aload_n 0, 1) := by decide +kernel
theorem dX12_size_56 : decode cX12_size 56 = .ok (.iload_n 1, 1) := by decide +kernel
theorem dX12_size_57 : decode cX12_size 57 = .ok (.iload_n 2, 1) := by decide +kernel
theorem dX12_size_58 : decode cX12_size 58 = .ok (.invokevirtual 238, 3) := by decide +kernel
theorem dX12_size_61 : decode cX12_size 61 = .ok (.ireturn, 1) := by decide +kernel
theorem dX12_unite_0 : decode cX12_unite 0 = .ok (.aload_n 0, 1) := by decide +kernel
theorem dX12_unite_1 : decode cX12_unite 1 = .ok (.iload_n 1, 1) := by decide +kernel
theorem dX12_unite_2 : decode cX12_unite 2 = .ok (.invokestatic 217, 3) := by decide +kernel
theorem dX12_unite_5 : decode cX12_unite 5 = .ok (.ifCond .eq 17, 3) := by decide +kernel
theorem dX12_unite_8 : decode cX12_unite 8 = .ok (.iload_n 2, 1) := by decide +kernel
theorem dX12_unite_9 : decode cX12_unite 9 = .ok (.invokestatic 217, 3) := by decide +kernel
theorem dX12_unite_12 : decode cX12_unite 12 = .ok (.ifCond .eq 10, 3) := by decide +kernel
theorem dX12_unite_15 : decode cX12_unite 15 = .ok (.iload_n 3, 1) := by decide +kernel
theorem dX12_unite_16 : decode cX12_unite 16 = .ok (.invokestatic 217, 3) := by decide +kernel
theorem dX12_unite_19 : decode cX12_unite 19 = .ok (.ifCond .ne 7, 3) := by decide +kernel
theorem dX12_unite_22 : decode cX12_unite 22 = .ok (.iconst 1, 1) := by decide +kernel
theorem dX12_unite_23 : decode cX12_unite 23 = .ok (.goto 24, 3) := by decide +kernel
theorem dX12_unite_26 : decode cX12_unite 26 = .ok (.aload_n 0, 1) := by decide +kernel
theorem dX12_unite_27 : decode cX12_unite 27 = .ok (.iload_n 2, 1) := by decide +kernel
theorem dX12_unite_28 : decode cX12_unite 28 = .ok (.invokevirtual 223, 3) := by decide +kernel
theorem dX12_unite_31 : decode cX12_unite 31 = .ok (.ifCond .eq 11, 3) := by decide +kernel
theorem dX12_unite_34 : decode cX12_unite 34 = .ok (.aload_n 0, 1) := by decide +kernel
theorem dX12_unite_35 : decode cX12_unite 35 = .ok (.iload_n 3, 1) := by decide +kernel
theorem dX12_unite_36 : decode cX12_unite 36 = .ok (.invokevirtual 223, 3) := by decide +kernel
theorem dX12_unite_39 : decode cX12_unite 39 = .ok (.ifCond .ne 7, 3) := by decide +kernel
theorem dX12_unite_42 : decode cX12_unite 42 = .ok (.iconst 2, 1) := by decide +kernel
theorem dX12_unite_43 : decode cX12_unite 43 = .ok (.goto 4, 3) := by decide +kernel
theorem dX12_unite_46 : decode cX12_unite 46 = .ok (.iconst 0, 1) := by decide +kernel
theorem dX12_unite_47 : decode cX12_unite 47 = .ok (.putfield 62, 3) := by decide +kernel
theorem dX12_unite_50 : decode cX12_unite 50 = .ok (.aload_n 0, 1) := by decide +kernel
theorem dX12_unite_51 : decode cX12_unite 51 = .ok (.getfield 62, 3) := by decide +kernel
theorem dX12_unite_54 : decode cX12_unite 54 = .ok (.ifCond .eq 5, 3) := by decide +kernel
theorem dX12_unite_57 : decode cX12_unite 57 = .ok (.iconst 0, 1) := by decide +kernel
theorem dX12_unite_58 : decode cX12_unite 58 = .ok (.ireturn, 1) := by decide +kernel
theorem dX12_unite_59 : decode cX12_unite 59 = .ok (.aload_n 0, 1) := by decide +kernel
theorem dX12_unite_60 : decode cX12_unite 60 = .ok (.iload_n 2, 1) := by decide +kernel
theorem dX12_unite_61 : decode cX12_unite 61 = .ok (.invokevirtual 235, 3) := by decide +kernel
theorem dX12_unite_64 : decode cX12_unite 64 = .ok (.aload_n 0, 1) := by decide +kernel
theorem dX12_unite_65 : decode cX12_unite 65 = .ok (.getfield 28, 3) := by decide +kernel
theorem dX12_unite_68 : decode cX12_unite 68 = .ok (.iconst 0, 1) := by decide +kernel
theorem dX12_unite_69 : decode cX12_unite 69 = .ok (.iaload, 1) := by decide +kernel
theorem dX12_unite_70 : decode cX12_unite 70 = .ok (.istore 4, 2) := by decide +kernel
theorem dX12_unite_72 : decode cX12_unite 72 = .ok (.aload_n 0, 1) := by decide +kernel
theorem dX12_unite_73 : decode cX12_unite 73 = .ok (.iload_n 3, 1) := by decide +kernel
theorem dX12_unite_74 : decode cX12_unite 74 = .ok (.invokevirtual 235, 3) := by decide +kernel
theorem dX12_unite_77 : decode cX12_unite 77 = .ok (.iload 4, 2) := by decide +kernel
theorem dX12_unite_79 : decode cX12_unite 79 = .ok (.aload_n 0, 1) := by decide +kernel
theorem dX12_unite_80 : decode cX12_unite 80 = .ok (.getfield 28, 3) := by decide +kernel
theorem dX12_unite_83 : decode cX12_unite 83 = .ok (.iconst 0, 1) := by decide +kernel
theorem dX12_unite_84 : decode cX12_unite 84 = .ok (.iaload, 1) := by decide +kernel
theorem dX12_unite_85 : decode cX12_unite 85 = .ok (.iadd, 1) := by decide +kernel
theorem dX12_unite_86 : decode cX12_unite 86 = .ok (.iconst 4, 1) := by decide +kernel
theorem dX12_unite_87 : decode cX12_unite 87 = .ok (.if_icmp .le 9, 3) := by decide +kernel
theorem dX12_unite_90 : decode cX12_unite 90 = .ok (.aload_n 0, 1) := by decide +kernel
theorem dX12_unite_91 : decode cX12_unite 91 = .ok (.iconst 2, 1) := by decide +kernel
theorem dX12_unite_92 : decode cX12_unite 92 = .ok (.invokevirtual 102, 3) := by decide +kernel
theorem dX12_unite_95 : decode cX12_unite 95 = .ok (.ireturn, 1) := by decide +kernel
theorem dX12_unite_96 : decode cX12_unite 96 = .ok (.aload_n 0, 1) := by decide +kernel
theorem dX12_unite_97 : decode cX12_unite 97 = .ok (.invokevirtual 85, 3) := by decide +kernel
theorem dX12_unite_100 : decode cX12_unite 100 = .ok (.aload_n 0, 1) := by decide +kernel
theorem dX12_unite_101 : decode cX12_unite 101 = .ok (.iconst 0, 1) := by decide +kernel
theorem dX12_unite_102 : decode cX12_unite 102 = .ok (.putfield 186, 3) := by decide +kernel
theorem dX12_unite_105 : decode cX12_unite 105 = .ok (.iconst 0, 1) := by decide +kernel
theorem dX12_unite_106 : decode cX12_unite 106 = .ok (.istore 5, 2) := by decide +kernel
theorem dX12_unite_108 : decode cX12_unite 108 = .ok (.iload 5, 2) := by decide +kernel
theorem dX12_unite_110 : decode cX12_unite 110 = .ok (.aload_n 0, 1) := by decide +kernel
theorem dX12_unite_111 : decode cX12_unite 111 = .ok (.getfield 7, 3) := by decide +kernel
theorem dX12_unite_114 : decode cX12_unite 114 = .ok (.bipush 121, 2) := by decide +kernel
theorem dX12_unite_116 : decode cX12_unite 116 = .ok (.iload_n 2, 1) := by decide +kernel
theorem dX12_unite_117 : decode cX12_unite 117 = .ok (.iadd, 1) := by decide +kernel
theorem dX12_unite_118 : decode cX12_unite 118 = .ok (.iaload, 1) := by decide +kernel
theorem dX12_unite_119 : decode cX12_unite 119 = .ok (.if_icmp .ge 29, 3) := by decide +kernel
theorem dX12_unite_122 : decode cX12_unite 122 = .ok (.aload_n 0, 1) := by decide +kernel
theorem dX12_unite_123 : decode cX12_unite 123 = .ok (.aload_n 0, 1) := by decide +kernel
theorem dX12_unite_124 : decode cX12_unite 124 = .ok (.getfield 7, 3) := by decide +kernel
theorem dX12_unite_127 : decode cX12_unite 127 = .ok (.bipush 125, 2) := by decide +kernel
theorem dX12_unite_129 : decode cX12_unite 129 = .ok (.sipush 400, 3) := by decide +kernel
theorem dX12_unite_132 : decode cX12_unite 132 = .ok (.iload_n 2, 1) := by decide +kernel
theorem dX12_unite_133 : decode cX12_unite 133 = .ok (.imul, 1) := by decide +kernel
theorem dX12_unite_134 : decode cX12_unite 134 = .ok (.iadd, 1) := by decide +kernel
theorem dX12_unite_135 : decode cX12_unite 135 = .ok (.iload 5, 2) := by decide +kernel
theorem dX12_unite_137 : decode cX12_unite 137 = .ok (.iadd, 1) := by decide +kernel
theorem dX12_unite_138 : decode cX12_unite 138 = .ok (.iaload, 1) := by decide +kernel
theorem dX12_unite_139 : decode cX12_unite 139 = .ok (.invokevirtual 192, 3) := by decide +kernel
theorem dX12_unite_142 : decode cX12_unite 142 = .ok (.iinc 5 1, 3) := by decide +kernel
theorem dX12_unite_145 : decode cX12_unite 145 = .ok (.goto (-37), 3) := by decide +kernel
theorem dX12_unite_148 : decode cX12_unite 148 = .ok (.aload_n 0, 1) := by decide +kernel
theorem dX12_unite_149 : decode cX12_unite 149 = .ok (.bipush 124, 2) := by decide +kernel
theorem dX12_unite_151 : decode cX12_unite 151 = .ok (.invokevirtual 192, 3) := by decide +kernel
theorem dX12_unite_154 : decode cX12_unite 154 = .ok (.iconst 0, 1) := by decide +kernel
theorem dX12_unite_155 : decode cX12_unite 155 = .ok (.istore 5, 2) := by decide +kernel
theorem dX12_unite_157 : decode cX12_unite 157 = .ok (.iload 5, 2) := by decide +kernel
theorem dX12_unite_159 : decode cX12_unite 159 = .ok (.aload_n 0, 1) := by decide +kernel
theorem dX12_unite_160 : decode cX12_unite 160 = .ok (.getfield 7, 3) := by decide +kernel
theorem dX12_unite_163 : decode cX12_unite 163 = .ok (.bipush 121, 2) := by decide +kernel
theorem dX12_unite_165 : decode cX12_unite 165 = .ok (.iload_n 3, 1) := by decide +kernel
theorem dX12_unite_166 : decode cX12_unite 166 = .ok (.iadd, 1) := by decide +kernel
theorem dX12_unite_167 : decode cX12_unite 167 = .ok (.iaload, 1) := by decide +kernel
theorem dX12_unite_168 : decode cX12_unite 168 = .ok (.if_icmp .ge 29, 3) := by decide +kernel
theorem dX12_unite_171 : decode cX12_unite 171 = .ok (.aload_n 0, 1) := by decide +kernel
theorem dX12_unite_172 : decode cX12_unite 172 = .ok (.aload_n 0, 1) := by decide +kernel
theorem dX12_unite_173 : decode cX12_unite 173 = .ok (.getfield 7, 3) := by decide +kernel
theorem dX12_unite_176 : decode cX12_unite 176 = .ok (.bipush 125, 2) := by decide +kernel
theorem dX12_unite_178 : decode cX12_unite 178 = .ok (.sipush 400, 3) := by decide +kernel
theorem dX12_unite_181 : decode cX12_unite 181 = .ok (.iload_n 3, 1) := by decide +kernel
theorem dX12_unite_182 : decode cX12_unite 182 = .ok (.imul, 1) := by decide +kernel
theorem dX12_unite_183 : decode cX12_unite 183 = .ok (.iadd, 1) := by decide +kernel
theorem dX12_unite_184 : decode cX12_unite 184 = .ok (.iload 5, 2) := by decide +kernel
theorem dX12_unite_186 : decode cX12_unite 186 = .ok (.iadd, 1) := by decide +kernel
theorem dX12_unite_187 : decode cX12_unite 187 = .ok (.iaload, 1) := by decide +kernel
theorem dX12_unite_188 : decode cX12_unite 188 = .ok (.invokevirtual 192, 3) := by decide +kernel
theorem dX12_unite_191 : decode cX12_unite 191 = .ok (.iinc 5 1, 3) := by decide +kernel
theorem dX12_unite_194 : decode cX12_unite 194 = .ok (.goto (-37), 3) := by decide +kernel
theorem dX12_unite_197 : decode cX12_unite 197 = .ok (.aload_n 0, 1) := by decide +kernel
theorem dX12_unite_198 : decode cX12_unite 198 = .ok (.getfield 7, 3) := by decide +kernel
theorem dX12_unite_201 : decode cX12_unite 201 = .ok (.bipush 121, 2) := by decide +kernel
theorem dX12_unite_203 : decode cX12_unite 203 = .ok (.iload_n 1, 1) := by decide +kernel
theorem dX12_unite_204 : decode cX12_unite 204 = .ok (.iadd, 1) := by decide +kernel
theorem dX12_unite_205 : decode cX12_unite 205 = .ok (.aload_n 0, 1) := by decide +kernel
theorem dX12_unite_206 : decode cX12_unite 206 = .ok (.getfield 186, 3) := by decide +kernel
theorem dX12_unite_209 : decode cX12_unite 209 = .ok (.iastore, 1) := by decide +kernel
theorem dX12_unite_210 : decode cX12_unite 210 = .ok (.iconst 0, 1) := by decide +kernel
theorem dX12_unite_211 : decode cX12_unite 211 = .ok (.istore 5, 2) := by decide +kernel
theorem dX12_unite_213 : decode cX12_unite 213 = .ok (.iload 5, 2) := by decide +kernel
theorem dX12_unite_215 : decode cX12_unite 215 = .ok (.aload_n 0, 1) := by decide +kernel
theorem dX12_unite_216 : decode cX12_unite 216 = .ok (.getfield 186, 3) := by decide +kernel
theorem dX12_unite_219 : decode cX12_unite 219 = .ok (.if_icmp .ge 32, 3) := by decide +kernel
theorem dX12_unite_222 : decode cX12_unite 222 = .ok (.aload_n 0, 1) := by decide +kernel
theorem dX12_unite_223 : decode cX12_unite 223 = .ok (.getfield 7, 3) := by decide +kernel
theorem dX12_unite_226 : decode cX12_unite 226 = .ok (.bipush 125, 2) := by decide +kernel
theorem dX12_unite_228 : decode cX12_unite 228 = .ok (.sipush 400, 3) := by decide +kernel
theorem dX12_unite_231 : decode cX12_unite 231 = .ok (.iload_n 1, 1) := by decide +kernel
theorem dX12_unite_232 : decode cX12_unite 232 = .ok (.imul, 1) := by decide +kernel
theorem dX12_unite_233 : decode cX12_unite 233 = .ok (.iadd, 1) := by decide +kernel
theorem dX12_unite_234 : decode cX12_unite 234 = .ok (.iload 5, 2) := by decide +kernel
theorem dX12_unite_236 : decode cX12_unite 236 = .ok (.iadd, 1) := by decide +kernel
theorem dX12_unite_237 : decode cX12_unite 237 = .ok (.aload_n 0, 1) := by decide +kernel
theorem dX12_unite_238 : decode cX12_unite 238 = .ok (.getfield 31, 3) := by decide +kernel
theorem dX12_unite_241 : decode cX12_unite 241 = .ok (.iload 5, 2) := by decide +kernel
theorem dX12_unite_243 : decode cX12_unite 243 = .ok (.iaload, 1) := by decide +kernel
theorem dX12_unite_244 : decode cX12_unite 244 = .ok (.iastore, 1) := by decide +kernel
theorem dX12_unite_245 : decode cX12_unite 245 = .ok (.iinc 5 1, 3) := by decide +kernel
theorem dX12_unite_248 : decode cX12_unite 248 = .ok (.goto (-35), 3) := by decide +kernel
theorem dX12_unite_251 : decode cX12_unite 251 = .ok (.iload 4, 2) := by decide +kernel
theorem dX12_unite_253 : decode cX12_unite 253 = .ok (.aload_n 0, 1) := by decide +kernel
theorem dX12_unite_254 : decode cX12_unite 254 = .ok (.getfield 28, 3) := by decide +kernel
theorem dX12_unite_257 : decode cX12_unite 257 = .ok (.iconst 0, 1) := by decide +kernel
theorem dX12_unite_258 : decode cX12_unite 258 = .ok (.iaload, 1) := by decide +kernel
theorem dX12_unite_259 : decode cX12_unite 259 = .ok (.iadd, 1) := by decide +kernel
theorem dX12_unite_260 : decode cX12_unite 260 = .ok (.ireturn, 1) := by decide +kernel
theorem dX12_drop_0 : decode cX12_drop 0 = .ok (.aload_n 0, 1) := by decide +kernel
theorem dX12_drop_1 : decode cX12_drop 1 = .ok (.iload_n 1, 1) := by decide +kernel
theorem dX12_drop_2 : decode cX12_drop 2 = .ok (.invokestatic 217, 3) := by decide +kernel
theorem dX12_drop_5 : decode cX12_drop 5 = .ok (.ifCond .eq 7, 3) := by decide +kernel
theorem dX12_drop_8 : decode cX12_drop 8 = .ok (.iconst 0, 1) := by decide +kernel
theorem dX12_drop_9 : decode cX12_drop 9 = .ok (.goto 4, 3) := by decide +kernel
theorem dX12_drop_12 : decode cX12_drop 12 = .ok (.iconst 1, 1) := by decide +kernel
theorem dX12_drop_13 : decode cX12_drop 13 = .ok (.putfield 62, 3) := by decide +kernel
theorem dX12_drop_16 : decode cX12_drop 16 = .ok (.aload_n 0, 1) := by decide +kernel
theorem dX12_drop_17 : decode cX12_drop 17 = .ok (.getfield 62, 3) := by decide +kernel
theorem dX12_drop_20 : decode cX12_drop 20 = .ok (.ifCond .eq 5, 3) := by decide +kernel
theorem dX12_drop_23 : decode cX12_drop 23 = .ok (.iconst 0, 1) := by decide +kernel
theorem dX12_drop_24 : decode cX12_drop 24 = .ok (.ireturn, 1) := by decide +kernel
theorem dX12_drop_25 : decode cX12_drop 25 = .ok (.aload_n 0, 1) := by decide +kernel
theorem dX12_drop_26 : decode cX12_drop 26 = .ok (.invokevirtual 85, 3) := by decide +kernel
theorem dX12_drop_29 : decode cX12_drop 29 = .ok (.aload_n 0, 1) := by decide +kernel
theorem dX12_drop_30 : decode cX12_drop 30 = .ok (.iload_n 1, 1) := by decide +kernel
theorem dX12_drop_31 : decode cX12_drop 31 = .ok (.invokevirtual 223, 3) := by decide +kernel
theorem dX12_drop_34 : decode cX12_drop 34 = .ok (.ifCond .eq 7, 3) := by decide +kernel
theorem dX12_drop_37 : decode cX12_drop 37 = .ok (.iconst 1, 1) := by decide +kernel
theorem dX12_drop_38 : decode cX12_drop 38 = .ok (.goto 4, 3) := by decide +kernel
theorem dX12_drop_41 : decode cX12_drop 41 = .ok (.iconst 0, 1) := by decide +kernel
theorem dX12_drop_42 : decode cX12_drop 42 = .ok (.istore_n 2, 1) := by decide +kernel
theorem dX12_drop_43 : decode cX12_drop 43 = .ok (.aload_n 0, 1) := by decide +kernel
theorem dX12_drop_44 : decode cX12_drop 44 = .ok (.getfield 7, 3) := by decide +kernel
theorem dX12_drop_47 : decode cX12_drop 47 = .ok (.bipush 121, 2) := by decide +kernel
theorem dX12_drop_49 : decode cX12_drop 49 = .ok (.iload_n 1, 1) := by decide +kernel
theorem dX12_drop_50 : decode cX12_drop 50 = .ok (.iadd, 1) := by decide +kernel
theorem dX12_drop_51 : decode cX12_drop 51 = .ok (.iconst 0, 1) := by decide +kernel
theorem dX12_drop_52 : decode cX12_drop 52 = .ok (.iastore, 1) := by decide +kernel
theorem dX12_drop_53 : decode cX12_drop 53 = .ok (.iload_n 2, 1) := by decide +kernel
theorem dX12_drop_54 : decode cX12_drop 54 = .ok (.ireturn, 1) := by decide +kernel
theorem dX12_passes_0 : decode cX12_passes 0 = .ok (.iload_n 2, 1) := by decide +kernel
theorem dX12_passes_1 : decode cX12_passes 1 = .ok (.bipush 8, 2) := by decide +kernel
theorem dX12_passes_3 : decode cX12_passes 3 = .ok (.if_icmp .eq 12, 3) := by decide +kernel
theorem dX12_passes_6 : decode cX12_passes 6 = .ok (.aload_n 0, 1) := by decide +kernel
theorem dX12_passes_7 : decode cX12_passes 7 = .ok (.iload_n 1, 1) := by decide +kernel
theorem dX12_passes_8 : decode cX12_passes 8 = .ok (.invokevirtual 105, 3) := by decide +kernel
theorem dX12_passes_11 : decode cX12_passes 11 = .ok (.iload_n 2, 1) := by decide +kernel
theorem dX12_passes_12 : decode cX12_passes 12 = .ok (.if_icmp .ne 7, 3) := by decide +kernel
theorem dX12_passes_15 : decode cX12_passes 15 = .ok (.iconst 1, 1) := by decide +kernel
theorem dX12_passes_16 : decode cX12_passes 16 = .ok (.goto 4, 3) := by decide +kernel
theorem dX12_passes_19 : decode cX12_passes 19 = .ok (.iconst 0, 1) := by decide +kernel
theorem dX12_passes_20 : decode cX12_passes 20 = .ok (.ireturn, 1) := by decide +kernel
theorem dX12_exists_0 : decode cX12_exists 0 = .ok (.iconst 0, 1) := by decide +kernel
theorem dX12_exists_1 : decode cX12_exists 1 = .ok (.istore_n 3, 1) := by decide +kernel
theorem dX12_exists_2 : decode cX12_exists 2 = .ok (.iload_n 3, 1) := by decide +kernel
theorem dX12_exists_3 : decode cX12_exists 3 = .ok (.aload_n 0, 1) := by decide +kernel
theorem dX12_exists_4 : decode cX12_exists 4 = .ok (.getfield 7, 3) := by decide +kernel
theorem dX12_exists_7 : decode cX12_exists 7 = .ok (.iconst 0, 1) := by decide +kernel
theorem dX12_exists_8 : decode cX12_exists 8 = .ok (.iaload, 1) := by decide +kernel
theorem dX12_exists_9 : decode cX12_exists 9 = .ok (.if_icmp .ge 25, 3) := by decide +kernel
theorem dX12_exists_12 : decode cX12_exists 12 = .ok (.aload_n 0, 1) := by decide +kernel
theorem dX12_exists_13 : decode cX12_exists 13 = .ok (.getfield 37, 3) := by decide +kernel
theorem dX12_exists_16 : decode cX12_exists 16 = .ok (.iload_n 3, 1) := by decide +kernel
theorem dX12_exists_17 : decode cX12_exists 17 = .ok (.iload_n 3, 1) := by decide +kernel
theorem dX12_exists_18 : decode cX12_exists 18 = .ok (.iload_n 2, 1) := by decide +kernel
theorem dX12_exists_19 : decode cX12_exists 19 = .ok (.if_icmp .ne 7, 3) := by decide +kernel
theorem dX12_exists_22 : decode cX12_exists 22 = .ok (.iconst 1, 1) := by decide +kernel
theorem dX12_exists_23 : decode cX12_exists 23 = .ok (.goto 4, 3) := by decide +kernel
theorem dX12_exists_26 : decode cX12_exists 26 = .ok (.iconst 0, 1) := by decide +kernel
theorem dX12_exists_27 : decode cX12_exists 27 = .ok (.bastore, 1) := by decide +kernel
theorem dX12_exists_28 : decode cX12_exists 28 = .ok (.iinc 3 1, 3) := by decide +kernel
theorem dX12_exists_31 : decode cX12_exists 31 = .ok (.goto (-29), 3) := by decide +kernel
theorem dX12_exists_34 : decode cX12_exists 34 = .ok (.iconst 1, 1) := by decide +kernel
theorem dX12_exists_35 : decode cX12_exists 35 = .ok (.istore_n 3, 1) := by decide +kernel
theorem dX12_exists_36 : decode cX12_exists 36 = .ok (.iconst 0, 1) := by decide +kernel
theorem dX12_exists_37 : decode cX12_exists 37 = .ok (.istore 4, 2) := by decide +kernel
theorem dX12_exists_39 : decode cX12_exists 39 = .ok (.iload 4, 2) := by decide +kernel
theorem dX12_exists_41 : decode cX12_exists 41 = .ok (.aload_n 0, 1) := by decide +kernel
theorem dX12_exists_42 : decode cX12_exists 42 = .ok (.getfield 28, 3) := by decide +kernel
theorem dX12_exists_45 : decode cX12_exists 45 = .ok (.iload_n 1, 1) := by decide +kernel
theorem dX12_exists_46 : decode cX12_exists 46 = .ok (.iconst 3, 1) := by decide +kernel
theorem dX12_exists_47 : decode cX12_exists 47 = .ok (.iadd, 1) := by decide +kernel
theorem dX12_exists_48 : decode cX12_exists 48 = .ok (.iaload, 1) := by decide +kernel
theorem dX12_exists_49 : decode cX12_exists 49 = .ok (.if_icmp .ge 25, 3) := by decide +kernel
theorem dX12_exists_52 : decode cX12_exists 52 = .ok (.aload_n 0, 1) := by decide +kernel
theorem dX12_exists_53 : decode cX12_exists 53 = .ok (.aload_n 0, 1) := by decide +kernel
theorem dX12_exists_54 : decode cX12_exists 54 = .ok (.getfield 28, 3) := by decide +kernel
theorem dX12_exists_57 : decode cX12_exists 57 = .ok (.iload_n 1, 1) := by decide +kernel
theorem dX12_exists_58 : decode cX12_exists 58 = .ok (.iconst 4, 1) := by decide +kernel
theorem dX12_exists_59 : decode cX12_exists 59 = .ok (.iadd, 1) := by decide +kernel
theorem dX12_exists_60 : decode cX12_exists 60 = .ok (.iload 4, 2) := by decide +kernel
theorem dX12_exists_62 : decode cX12_exists 62 = .ok (.iadd, 1) := by decide +kernel
theorem dX12_exists_63 : decode cX12_exists 63 = .ok (.iaload, 1) := by decide +kernel
theorem dX12_exists_64 : decode cX12_exists 64 = .ok (.invokevirtual 241, 3) := by decide +kernel
theorem dX12_exists_67 : decode cX12_exists 67 = .ok (.istore_n 3, 1) := by decide +kernel
theorem dX12_exists_68 : decode cX12_exists 68 = .ok (.iinc 4 1, 3) := by decide +kernel
theorem dX12_exists_71 : decode cX12_exists 71 = .ok (.goto (-32), 3) := by decide +kernel
theorem dX12_exists_74 : decode cX12_exists 74 = .ok (.iload_n 3, 1) := by decide +kernel
theorem dX12_exists_75 : decode cX12_exists 75 = .ok (.ireturn, 1) := by decide +kernel
theorem dX12_goesShort_0 : decode cX12_goesShort 0 = .ok (.iconst 0, 1) := by decide +kernel
theorem dX12_goesShort_1 : decode cX12_goesShort 1 = .ok (.istore_n 2, 1) := by decide +kernel
theorem dX12_goesShort_2 : decode cX12_goesShort 2 = .ok (.iload_n 2, 1) := by decide +kernel
theorem dX12_goesShort_3 : decode cX12_goesShort 3 = .ok (.aload_n 0, 1) := by decide +kernel
theorem dX12_goesShort_4 : decode cX12_goesShort 4 = .ok (.getfield 7, 3) := by decide +kernel
theorem dX12_goesShort_7 : decode cX12_goesShort 7 = .ok (.iconst 0, 1) := by decide +kernel
theorem dX12_goesShort_8 : decode cX12_goesShort 8 = .ok (.iaload, 1) := by decide +kernel
theorem dX12_goesShort_9 : decode cX12_goesShort 9 = .ok (.if_icmp .ge 16, 3) := by decide +kernel
theorem dX12_goesShort_12 : decode cX12_goesShort 12 = .ok (.aload_n 0, 1) := by decide +kernel
theorem dX12_goesShort_13 : decode cX12_goesShort 13 = .ok (.getfield 41, 3) := by decide +kernel
theorem dX12_goesShort_16 : decode cX12_goesShort 16 = .ok (.iload_n 2, 1) := by decide +kernel
theorem dX12_goesShort_17 : decode cX12_goesShort 17 = .ok (.iconst 0, 1) := by decide +kernel
theorem dX12_goesShort_18 : decode cX12_goesShort 18 = .ok (.bastore, 1) := by decide +kernel
theorem dX12_goesShort_19 : decode cX12_goesShort 19 = .ok (.iinc 2 1, 3) := by decide +kernel
theorem dX12_goesShort_22 : decode cX12_goesShort 22 = .ok (.goto (-20), 3) := by decide +kernel
theorem dX12_goesShort_25 : decode cX12_goesShort 25 = .ok (.iconst 0, 1) := by decide +kernel
theorem dX12_goesShort_26 : decode cX12_goesShort 26 = .ok (.istore_n 2, 1) := by decide +kernel
theorem dX12_goesShort_27 : decode cX12_goesShort 27 = .ok (.iload_n 2, 1) := by decide +kernel
theorem dX12_goesShort_28 : decode cX12_goesShort 28 = .ok (.aload_n 0, 1) := by decide +kernel
theorem dX12_goesShort_29 : decode cX12_goesShort 29 = .ok (.getfield 7, 3) := by decide +kernel
theorem dX12_goesShort_32 : decode cX12_goesShort 32 = .ok (.iconst 0, 1) := by decide +kernel
theorem dX12_goesShort_33 : decode cX12_goesShort 33 = .ok (.iaload, 1) := by decide +kernel
theorem dX12_goesShort_34 : decode cX12_goesShort 34 = .ok (.if_icmp .ge 90, 3) := by decide +kernel
theorem dX12_goesShort_37 : decode cX12_goesShort 37 = .ok (.aload_n 0, 1) := by decide +kernel
theorem dX12_goesShort_38 : decode cX12_goesShort 38 = .ok (.getfield 37, 3) := by decide +kernel
theorem dX12_goesShort_41 : decode cX12_goesShort 41 = .ok (.iload_n 2, 1) := by decide +kernel
theorem dX12_goesShort_42 : decode cX12_goesShort 42 = .ok (.baload, 1) := by decide +kernel
theorem dX12_goesShort_43 : decode cX12_goesShort 43 = .ok (.ifCond .eq 75, 3) := by decide +kernel
theorem dX12_goesShort_46 : decode cX12_goesShort 46 = .ok (.aload_n 0, 1) := by decide +kernel
theorem dX12_goesShort_47 : decode cX12_goesShort 47 = .ok (.iload_n 2, 1) := by decide +kernel
theorem dX12_goesShort_48 : decode cX12_goesShort 48 = .ok (.iload_n 1, 1) := by decide +kernel
theorem dX12_goesShort_49 : decode cX12_goesShort 49 = .ok (.bipush 10, 2) := by decide +kernel
theorem dX12_goesShort_51 : decode cX12_goesShort 51 = .ok (.idiv, 1) := by decide +kernel
theorem dX12_goesShort_52 : decode cX12_goesShort 52 = .ok (.invokevirtual 111, 3) := by decide +kernel
theorem dX12_goesShort_55 : decode cX12_goesShort 55 = .ok (.iconst 0, 1) := by decide +kernel
theorem dX12_goesShort_56 : decode cX12_goesShort 56 = .ok (.istore_n 3, 1) := by decide +kernel
theorem dX12_goesShort_57 : decode cX12_goesShort 57 = .ok (.iload_n 3, 1) := by decide +kernel
theorem dX12_goesShort_58 : decode cX12_goesShort 58 = .ok (.aload_n 0, 1) := by decide +kernel
theorem dX12_goesShort_59 : decode cX12_goesShort 59 = .ok (.getfield 114, 3) := by decide +kernel
theorem dX12_goesShort_62 : decode cX12_goesShort 62 = .ok (.if_icmp .ge 56, 3) := by decide +kernel
theorem dX12_goesShort_65 : decode cX12_goesShort 65 = .ok (.aload_n 0, 1) := by decide +kernel
theorem dX12_goesShort_66 : decode cX12_goesShort 66 = .ok (.getfield 41, 3) := by decide +kernel
theorem dX12_goesShort_69 : decode cX12_goesShort 69 = .ok (.aload_n 0, 1) := by decide +kernel
theorem dX12_goesShort_70 : decode cX12_goesShort 70 = .ok (.getfield 22, 3) := by decide +kernel
theorem dX12_goesShort_73 : decode cX12_goesShort 73 = .ok (.iload_n 3, 1) := by decide +kernel
theorem dX12_goesShort_74 : decode cX12_goesShort 74 = .ok (.iaload, 1) := by decide +kernel
theorem dX12_goesShort_75 : decode cX12_goesShort 75 = .ok (.aload_n 0, 1) := by decide +kernel
theorem dX12_goesShort_76 : decode cX12_goesShort 76 = .ok (.getfield 41, 3) := by decide +kernel
theorem dX12_goesShort_79 : decode cX12_goesShort 79 = .ok (.aload_n 0, 1) := by decide +kernel
theorem dX12_goesShort_80 : decode cX12_goesShort 80 = .ok (.getfield 22, 3) := by decide +kernel
theorem dX12_goesShort_83 : decode cX12_goesShort 83 = .ok (.iload_n 3, 1) := by decide +kernel
theorem dX12_goesShort_84 : decode cX12_goesShort 84 = .ok (.iaload, 1) := by decide +kernel
theorem dX12_goesShort_85 : decode cX12_goesShort 85 = .ok (.baload, 1) := by decide +kernel
theorem dX12_goesShort_86 : decode cX12_goesShort 86 = .ok (.ifCond .ne 20, 3) := by decide +kernel
theorem dX12_goesShort_89 : decode cX12_goesShort 89 = .ok (.aload_n 0, 1) := by decide +kernel
theorem dX12_goesShort_90 : decode cX12_goesShort 90 = .ok (.aload_n 0, 1) := by decide +kernel
theorem dX12_goesShort_91 : decode cX12_goesShort 91 = .ok (.getfield 22, 3) := by decide +kernel
theorem dX12_goesShort_94 : decode cX12_goesShort 94 = .ok (.iload_n 3, 1) := by decide +kernel
theorem dX12_goesShort_95 : decode cX12_goesShort 95 = .ok (.iaload, 1) := by decide +kernel
theorem dX12_goesShort_96 : decode cX12_goesShort 96 = .ok (.iload_n 1, 1) := by decide +kernel
theorem dX12_goesShort_97 : decode cX12_goesShort 97 = .ok (.bipush 10, 2) := by decide +kernel
theorem dX12_goesShort_99 : decode cX12_goesShort 99 = .ok (.irem, 1) := by decide +kernel
theorem dX12_goesShort_100 : decode cX12_goesShort 100 = .ok (.invokevirtual 244, 3) := by decide +kernel
theorem dX12_goesShort_103 : decode cX12_goesShort 103 = .ok (.ifCond .eq 7, 3) := by decide +kernel
theorem dX12_goesShort_106 : decode cX12_goesShort 106 = .ok (.iconst 1, 1) := by decide +kernel
theorem dX12_goesShort_107 : decode cX12_goesShort 107 = .ok (.goto 4, 3) := by decide +kernel
theorem dX12_goesShort_110 : decode cX12_goesShort 110 = .ok (.iconst 0, 1) := by decide +kernel
theorem dX12_goesShort_111 : decode cX12_goesShort 111 = .ok (.bastore, 1) := by decide +kernel
theorem dX12_goesShort_112 : decode cX12_goesShort 112 = .ok (.iinc 3 1, 3) := by decide +kernel
theorem dX12_goesShort_115 : decode cX12_goesShort 115 = .ok (.goto (-58), 3) := by decide +kernel
theorem dX12_goesShort_118 : decode cX12_goesShort 118 = .ok (.iinc 2 1, 3) := by decide +kernel
theorem dX12_goesShort_121 : decode cX12_goesShort 121 = .ok (.goto (-94), 3) := by decide +kernel
theorem dX12_goesShort_124 : decode cX12_goesShort 124 = .ok (.iconst 0, 1) := by decide +kernel
theorem dX12_goesShort_125 : decode cX12_goesShort 125 = .ok (.istore_n 2, 1) := by decide +kernel
theorem dX12_goesShort_126 : decode cX12_goesShort 126 = .ok (.iconst 0, 1) := by decide +kernel
theorem dX12_goesShort_127 : decode cX12_goesShort 127 = .ok (.istore_n 3, 1) := by decide +kernel
theorem dX12_goesShort_128 : decode cX12_goesShort 128 = .ok (.iload_n 3, 1) := by decide +kernel
theorem dX12_goesShort_129 : decode cX12_goesShort 129 = .ok (.aload_n 0, 1) := by decide +kernel
theorem dX12_goesShort_130 : decode cX12_goesShort 130 = .ok (.getfield 7, 3) := by decide +kernel
theorem dX12_goesShort_133 : decode cX12_goesShort 133 = .ok (.iconst 0, 1) := by decide +kernel
theorem dX12_goesShort_134 : decode cX12_goesShort 134 = .ok (.iaload, 1) := by decide +kernel
theorem dX12_goesShort_135 : decode cX12_goesShort 135 = .ok (.if_icmp .ge 40, 3) := by decide +kernel
theorem dX12_goesShort_138 : decode cX12_goesShort 138 = .ok (.aload_n 0, 1) := by decide +kernel
theorem dX12_goesShort_139 : decode cX12_goesShort 139 = .ok (.getfield 37, 3) := by decide +kernel
theorem dX12_goesShort_142 : decode cX12_goesShort 142 = .ok (.iload_n 3, 1) := by decide +kernel
theorem dX12_goesShort_143 : decode cX12_goesShort 143 = .ok (.aload_n 0, 1) := by decide +kernel
theorem dX12_goesShort_144 : decode cX12_goesShort 144 = .ok (.getfield 41, 3) := by decide +kernel
theorem dX12_goesShort_147 : decode cX12_goesShort 147 = .ok (.iload_n 3, 1) := by decide +kernel
theorem dX12_goesShort_148 : decode cX12_goesShort 148 = .ok (.baload, 1) := by decide +kernel
theorem dX12_goesShort_149 : decode cX12_goesShort 149 = .ok (.bastore, 1) := by decide +kernel
theorem dX12_goesShort_150 : decode cX12_goesShort 150 = .ok (.iload_n 2, 1) := by decide +kernel
theorem dX12_goesShort_151 : decode cX12_goesShort 151 = .ok (.ifCond .ne 12, 3) := by decide +kernel
theorem dX12_goesShort_154 : decode cX12_goesShort 154 = .ok (.aload_n 0, 1) := by decide +kernel
theorem dX12_goesShort_155 : decode cX12_goesShort 155 = .ok (.getfield 41, 3) := by decide +kernel
theorem dX12_goesShort_158 : decode cX12_goesShort 158 = .ok (.iload_n 3, 1) := by decide +kernel
theorem dX12_goesShort_159 : decode cX12_goesShort 159 = .ok (.baload, 1) := by decide +kernel
theorem dX12_goesShort_160 : decode cX12_goesShort 160 = .ok (.ifCond .eq 7, 3) := by decide +kernel
theorem dX12_goesShort_163 : decode cX12_goesShort 163 = .ok (.iconst 1, 1) := by decide +kernel
theorem dX12_goesShort_164 : decode cX12_goesShort 164 = .ok (.goto 4, 3) := by decide +kernel
theorem dX12_goesShort_167 : decode cX12_goesShort 167 = .ok (.iconst 0, 1) := by decide +kernel
theorem dX12_goesShort_168 : decode cX12_goesShort 168 = .ok (.istore_n 2, 1) := by decide +kernel
theorem dX12_goesShort_169 : decode cX12_goesShort 169 = .ok (.iinc 3 1, 3) := by decide +kernel
theorem dX12_goesShort_172 : decode cX12_goesShort 172 = .ok (.goto (-44), 3) := by decide +kernel
theorem dX12_goesShort_175 : decode cX12_goesShort 175 = .ok (.iload_n 2, 1) := by decide +kernel
theorem dX12_goesShort_176 : decode cX12_goesShort 176 = .ok (.ireturn, 1) := by decide +kernel
theorem dX12_holdsAtom_0 : decode cX12_holdsAtom 0 = .ok (.aload_n 0, 1) := by decide +kernel
theorem dX12_holdsAtom_1 : decode cX12_holdsAtom 1 = .ok (.getfield 28, 3) := by decide +kernel
theorem dX12_holdsAtom_4 : decode cX12_holdsAtom 4 = .ok (.iload_n 1, 1) := by decide +kernel
theorem dX12_holdsAtom_5 : decode cX12_holdsAtom 5 = .ok (.iconst 1, 1) := by decide +kernel
theorem dX12_holdsAtom_6 : decode cX12_holdsAtom 6 = .ok (.iadd, 1) := by decide +kernel
theorem dX12_holdsAtom_7 : decode cX12_holdsAtom 7 = .ok (.iaload, 1) := by decide +kernel
theorem dX12_holdsAtom_8 : decode cX12_holdsAtom 8 = .ok (.tableswitch 80 0 2 #[28, 46, 58], 28) := by decide +kernel
theorem dX12_holdsAtom_36 : decode cX12_holdsAtom 36 = .ok (.iload_n 3, 1) := by decide +kernel
theorem dX12_holdsAtom_37 : decode cX12_holdsAtom 37 = .ok (.aload_n 0, 1) := by decide +kernel
theorem dX12_holdsAtom_38 : decode cX12_holdsAtom 38 = .ok (.getfield 28, 3) := by decide +kernel
theorem dX12_holdsAtom_41 : decode cX12_holdsAtom 41 = .ok (.iload_n 1, 1) := by decide +kernel
theorem dX12_holdsAtom_42 : decode cX12_holdsAtom 42 = .ok (.iconst 2, 1) := by decide +kernel
theorem dX12_holdsAtom_43 : decode cX12_holdsAtom 43 = .ok (.iadd, 1) := by decide +kernel
theorem dX12_holdsAtom_44 : decode cX12_holdsAtom 44 = .ok (.iaload, 1) := by decide +kernel
theorem dX12_holdsAtom_45 : decode cX12_holdsAtom 45 = .ok (.if_icmp .ne 7, 3) := by decide +kernel
theorem dX12_holdsAtom_48 : decode cX12_holdsAtom 48 = .ok (.iconst 1, 1) := by decide +kernel
theorem dX12_holdsAtom_49 : decode cX12_holdsAtom 49 = .ok (.goto 4, 3) := by decide +kernel
theorem dX12_holdsAtom_52 : decode cX12_holdsAtom 52 = .ok (.iconst 0, 1) := by decide +kernel
theorem dX12_holdsAtom_53 : decode cX12_holdsAtom 53 = .ok (.ireturn, 1) := by decide +kernel
theorem dX12_holdsAtom_54 : decode cX12_holdsAtom 54 = .ok (.iload_n 3, 1) := by decide +kernel
theorem dX12_holdsAtom_55 : decode cX12_holdsAtom 55 = .ok (.iload 4, 2) := by decide +kernel
theorem dX12_holdsAtom_57 : decode cX12_holdsAtom 57 = .ok (.if_icmp .ne 7, 3) := by decide +kernel
theorem dX12_holdsAtom_60 : decode cX12_holdsAtom 60 = .ok (.iconst 1, 1) := by decide +kernel
theorem dX12_holdsAtom_61 : decode cX12_holdsAtom 61 = .ok (.goto 4, 3) := by decide +kernel
theorem dX12_holdsAtom_64 : decode cX12_holdsAtom 64 = .ok (.iconst 0, 1) := by decide +kernel
theorem dX12_holdsAtom_65 : decode cX12_holdsAtom 65 = .ok (.ireturn, 1) := by decide +kernel
theorem dX12_holdsAtom_66 : decode cX12_holdsAtom 66 = .ok (.aload_n 0, 1) := by decide +kernel
theorem dX12_holdsAtom_67 : decode cX12_holdsAtom 67 = .ok (.iload_n 2, 1) := by decide +kernel
theorem dX12_holdsAtom_68 : decode cX12_holdsAtom 68 = .ok (.invokevirtual 108, 3) := by decide +kernel
theorem dX12_holdsAtom_71 : decode cX12_holdsAtom 71 = .ok (.aload_n 0, 1) := by decide +kernel
theorem dX12_holdsAtom_72 : decode cX12_holdsAtom 72 = .ok (.getfield 28, 3) := by decide +kernel
theorem dX12_holdsAtom_75 : decode cX12_holdsAtom 75 = .ok (.iload_n 1, 1) := by decide +kernel
theorem dX12_holdsAtom_76 : decode cX12_holdsAtom 76 = .ok (.iconst 2, 1) := by decide +kernel
theorem dX12_holdsAtom_77 : decode cX12_holdsAtom 77 = .ok (.iadd, 1) := by decide +kernel
theorem dX12_holdsAtom_78 : decode cX12_holdsAtom 78 = .ok (.iaload, 1) := by decide +kernel
theorem dX12_holdsAtom_79 : decode cX12_holdsAtom 79 = .ok (.if_icmp .ne 7, 3) := by decide +kernel
theorem dX12_holdsAtom_82 : decode cX12_holdsAtom 82 = .ok (.iconst 1, 1) := by decide +kernel
theorem dX12_holdsAtom_83 : decode cX12_holdsAtom 83 = .ok (.goto 4, 3) := by decide +kernel
theorem dX12_holdsAtom_86 : decode cX12_holdsAtom 86 = .ok (.iconst 0, 1) := by decide +kernel
theorem dX12_holdsAtom_87 : decode cX12_holdsAtom 87 = .ok (.ireturn, 1) := by decide +kernel
theorem dX12_holdsAtom_88 : decode cX12_holdsAtom 88 = .ok (.aload_n 0, 1) := by decide +kernel
theorem dX12_holdsAtom_89 : decode cX12_holdsAtom 89 = .ok (.iload_n 1, 1) := by decide +kernel
theorem dX12_holdsAtom_90 : decode cX12_holdsAtom 90 = .ok (.iload_n 2, 1) := by decide +kernel
theorem dX12_holdsAtom_91 : decode cX12_holdsAtom 91 = .ok (.invokevirtual 247, 3) := by decide +kernel
theorem dX12_holdsAtom_94 : decode cX12_holdsAtom 94 = .ok (.ireturn, 1) := by decide +kernel
theorem dX12_holds_0 : decode cX12_holds 0 = .ok (.iconst 0, 1) := by decide +kernel
theorem dX12_holds_1 : decode cX12_holds 1 = .ok (.istore 5, 2) := by decide +kernel
theorem dX12_holds_3 : decode cX12_holds 3 = .ok (.iconst 0, 1) := by decide +kernel
theorem dX12_holds_4 : decode cX12_holds 4 = .ok (.istore 6, 2) := by decide +kernel
theorem dX12_holds_6 : decode cX12_holds 6 = .ok (.iload 6, 2) := by decide +kernel
theorem dX12_holds_8 : decode cX12_holds 8 = .ok (.aload_n 0, 1) := by decide +kernel
theorem dX12_holds_9 : decode cX12_holds 9 = .ok (.getfield 28, 3) := by decide +kernel
theorem dX12_holds_12 : decode cX12_holds 12 = .ok (.iload_n 1, 1) := by decide +kernel
theorem dX12_holds_13 : decode cX12_holds 13 = .ok (.iaload, 1) := by decide +kernel
theorem dX12_holds_14 : decode cX12_holds 14 = .ok (.if_icmp .ge 100, 3) := by decide +kernel
theorem dX12_holds_17 : decode cX12_holds 17 = .ok (.iload 5, 2) := by decide +kernel
theorem dX12_holds_19 : decode cX12_holds 19 = .ok (.ifCond .ne 95, 3) := by decide +kernel
theorem dX12_holds_22 : decode cX12_holds 22 = .ok (.iload_n 1, 1) := by decide +kernel
theorem dX12_holds_23 : decode cX12_holds 23 = .ok (.iload 6, 2) := by decide +kernel
theorem dX12_holds_25 : decode cX12_holds 25 = .ok (.invokestatic 159, 3) := by decide +kernel
theorem dX12_holds_28 : decode cX12_holds 28 = .ok (.istore 7, 2) := by decide +kernel
theorem dX12_holds_30 : decode cX12_holds 30 = .ok (.iconst 1, 1) := by decide +kernel
theorem dX12_holds_31 : decode cX12_holds 31 = .ok (.istore 8, 2) := by decide +kernel
theorem dX12_holds_33 : decode cX12_holds 33 = .ok (.iconst 0, 1) := by decide +kernel
theorem dX12_holds_34 : decode cX12_holds 34 = .ok (.istore 9, 2) := by decide +kernel
theorem dX12_holds_36 : decode cX12_holds 36 = .ok (.iload 9, 2) := by decide +kernel
theorem dX12_holds_38 : decode cX12_holds 38 = .ok (.aload_n 0, 1) := by decide +kernel
theorem dX12_holds_39 : decode cX12_holds 39 = .ok (.getfield 28, 3) := by decide +kernel
theorem dX12_holds_42 : decode cX12_holds 42 = .ok (.iload 7, 2) := by decide +kernel
theorem dX12_holds_44 : decode cX12_holds 44 = .ok (.iaload, 1) := by decide +kernel
theorem dX12_holds_45 : decode cX12_holds 45 = .ok (.if_icmp .ge 59, 3) := by decide +kernel
theorem dX12_holds_48 : decode cX12_holds 48 = .ok (.iload 8, 2) := by decide +kernel
theorem dX12_holds_50 : decode cX12_holds 50 = .ok (.ifCond .eq 54, 3) := by decide +kernel
theorem dX12_holds_53 : decode cX12_holds 53 = .ok (.iload 7, 2) := by decide +kernel
theorem dX12_holds_55 : decode cX12_holds 55 = .ok (.iload 9, 2) := by decide +kernel
theorem dX12_holds_57 : decode cX12_holds 57 = .ok (.invokestatic 153, 3) := by decide +kernel
theorem dX12_holds_60 : decode cX12_holds 60 = .ok (.istore 10, 2) := by decide +kernel
theorem dX12_holds_62 : decode cX12_holds 62 = .ok (.aload_n 0, 1) := by decide +kernel
theorem dX12_holds_63 : decode cX12_holds 63 = .ok (.iload 10, 2) := by decide +kernel
theorem dX12_holds_65 : decode cX12_holds 65 = .ok (.iload_n 2, 1) := by decide +kernel
theorem dX12_holds_66 : decode cX12_holds 66 = .ok (.iload_n 3, 1) := by decide +kernel
theorem dX12_holds_67 : decode cX12_holds 67 = .ok (.iload 4, 2) := by decide +kernel
theorem dX12_holds_69 : decode cX12_holds 69 = .ok (.invokevirtual 250, 3) := by decide +kernel
theorem dX12_holds_72 : decode cX12_holds 72 = .ok (.aload_n 0, 1) := by decide +kernel
theorem dX12_holds_73 : decode cX12_holds 73 = .ok (.getfield 28, 3) := by decide +kernel
theorem dX12_holds_76 : decode cX12_holds 76 = .ok (.iload 10, 2) := by decide +kernel
theorem dX12_holds_78 : decode cX12_holds 78 = .ok (.iaload, 1) := by decide +kernel
theorem dX12_holds_79 : decode cX12_holds 79 = .ok (.iconst 1, 1) := by decide +kernel
theorem dX12_holds_80 : decode cX12_holds 80 = .ok (.if_icmp .ne 7, 3) := by decide +kernel
theorem dX12_holds_83 : decode cX12_holds 83 = .ok (.iconst 1, 1) := by decide +kernel
theorem dX12_holds_84 : decode cX12_holds 84 = .ok (.goto 4, 3) := by decide +kernel
theorem dX12_holds_87 : decode cX12_holds 87 = .ok (.iconst 0, 1) := by decide +kernel
theorem dX12_holds_88 : decode cX12_holds 88 = .ok (.if_icmp .eq 7, 3) := by decide +kernel
theorem dX12_holds_91 : decode cX12_holds 91 = .ok (.iconst 1, 1) := by decide +kernel
theorem dX12_holds_92 : decode cX12_holds 92 = .ok (.goto 4, 3) := by decide +kernel
