theorem dX10_votesFor_3 : decode cX10_votesFor 3 = .ok (.istore_n 3, 1) := by decide +kernel
theorem dX10_votesFor_4 : decode cX10_votesFor 4 = .ok (.iload_n 3, 1) := by decide +kernel
theorem dX10_votesFor_5 : decode cX10_votesFor 5 = .ok (.aload_n 0, 1) := by decide +kernel
theorem dX10_votesFor_6 : decode cX10_votesFor 6 = .ok (.getfield 54, 3) := by decide +kernel
theorem dX10_votesFor_9 : decode cX10_votesFor 9 = .ok (.aload_n 0, 1) := by decide +kernel
theorem dX10_votesFor_10 : decode cX10_votesFor 10 = .ok (.getfield 105, 3) := by decide +kernel
theorem dX10_votesFor_13 : decode cX10_votesFor 13 = .ok (.iaload, 1) := by decide +kernel
theorem dX10_votesFor_14 : decode cX10_votesFor 14 = .ok (.if_icmp .ge 104, 3) := by decide +kernel
theorem dX10_votesFor_17 : decode cX10_votesFor 17 = .ok (.aload_n 0, 1) := by decide +kernel
theorem dX10_votesFor_18 : decode cX10_votesFor 18 = .ok (.getfield 57, 3) := by decide +kernel
theorem dX10_votesFor_21 : decode cX10_votesFor 21 = .ok (.bipush 40, 2) := by decide +kernel
theorem dX10_votesFor_23 : decode cX10_votesFor 23 = .ok (.aload_n 0, 1) := by decide +kernel
theorem dX10_votesFor_24 : decode cX10_votesFor 24 = .ok (.getfield 105, 3) := by decide +kernel
theorem dX10_votesFor_27 : decode cX10_votesFor 27 = .ok (.imul, 1) := by decide +kernel
theorem dX10_votesFor_28 : decode cX10_votesFor 28 = .ok (.iload_n 3, 1) := by decide +kernel
theorem dX10_votesFor_29 : decode cX10_votesFor 29 = .ok (.iadd, 1) := by decide +kernel
theorem dX10_votesFor_30 : decode cX10_votesFor 30 = .ok (.iaload, 1) := by decide +kernel
theorem dX10_votesFor_31 : decode cX10_votesFor 31 = .ok (.istore 4, 2) := by decide +kernel
theorem dX10_votesFor_33 : decode cX10_votesFor 33 = .ok (.iload_n 2, 1) := by decide +kernel
theorem dX10_votesFor_34 : decode cX10_votesFor 34 = .ok (.aload_n 0, 1) := by decide +kernel
theorem dX10_votesFor_35 : decode cX10_votesFor 35 = .ok (.getfield 16, 3) := by decide +kernel
theorem dX10_votesFor_38 : decode cX10_votesFor 38 = .ok (.iload 4, 2) := by decide +kernel
theorem dX10_votesFor_40 : decode cX10_votesFor 40 = .ok (.baload, 1) := by decide +kernel
theorem dX10_votesFor_41 : decode cX10_votesFor 41 = .ok (.ifCond .eq 68, 3) := by decide +kernel
theorem dX10_votesFor_44 : decode cX10_votesFor 44 = .ok (.iload 4, 2) := by decide +kernel
theorem dX10_votesFor_46 : decode cX10_votesFor 46 = .ok (.iload_n 1, 1) := by decide +kernel
theorem dX10_votesFor_47 : decode cX10_votesFor 47 = .ok (.if_icmp .eq 62, 3) := by decide +kernel
theorem dX10_votesFor_50 : decode cX10_votesFor 50 = .ok (.aload_n 0, 1) := by decide +kernel
theorem dX10_votesFor_51 : decode cX10_votesFor 51 = .ok (.getfield 7, 3) := by decide +kernel
theorem dX10_votesFor_54 : decode cX10_votesFor 54 = .ok (.iload 4, 2) := by decide +kernel
theorem dX10_votesFor_56 : decode cX10_votesFor 56 = .ok (.iaload, 1) := by decide +kernel
theorem dX10_votesFor_57 : decode cX10_votesFor 57 = .ok (.aload_n 0, 1) := by decide +kernel
theorem dX10_votesFor_58 : decode cX10_votesFor 58 = .ok (.getfield 7, 3) := by decide +kernel
theorem dX10_votesFor_61 : decode cX10_votesFor 61 = .ok (.iload_n 1, 1) := by decide +kernel
theorem dX10_votesFor_62 : decode cX10_votesFor 62 = .ok (.iaload, 1) := by decide +kernel
theorem dX10_votesFor_63 : decode cX10_votesFor 63 = .ok (.if_icmp .eq 46, 3) := by decide +kernel
theorem dX10_votesFor_66 : decode cX10_votesFor 66 = .ok (.aload_n 0, 1) := by decide +kernel
theorem dX10_votesFor_67 : decode cX10_votesFor 67 = .ok (.getfield 20, 3) := by decide +kernel
theorem dX10_votesFor_70 : decode cX10_votesFor 70 = .ok (.bipush 40, 2) := by decide +kernel
theorem dX10_votesFor_72 : decode cX10_votesFor 72 = .ok (.iload 4, 2) := by decide +kernel
theorem dX10_votesFor_74 : decode cX10_votesFor 74 = .ok (.imul, 1) := by decide +kernel
theorem dX10_votesFor_75 : decode cX10_votesFor 75 = .ok (.iload_n 1, 1) := by decide +kernel
theorem dX10_votesFor_76 : decode cX10_votesFor 76 = .ok (.iadd, 1) := by decide +kernel
theorem dX10_votesFor_77 : decode cX10_votesFor 77 = .ok (.baload, 1) := by decide +kernel
theorem dX10_votesFor_78 : decode cX10_votesFor 78 = .ok (.ifCond .ne 31, 3) := by decide +kernel
theorem dX10_votesFor_81 : decode cX10_votesFor 81 = .ok (.aload_n 0, 1) := by decide +kernel
theorem dX10_votesFor_82 : decode cX10_votesFor 82 = .ok (.getfield 23, 3) := by decide +kernel
theorem dX10_votesFor_85 : decode cX10_votesFor 85 = .ok (.iconst 4, 1) := by decide +kernel
theorem dX10_votesFor_86 : decode cX10_votesFor 86 = .ok (.aload_n 0, 1) := by decide +kernel
theorem dX10_votesFor_87 : decode cX10_votesFor 87 = .ok (.getfield 13, 3) := by decide +kernel
theorem dX10_votesFor_90 : decode cX10_votesFor 90 = .ok (.iload 4, 2) := by decide +kernel
theorem dX10_votesFor_92 : decode cX10_votesFor 92 = .ok (.iaload, 1) := by decide +kernel
theorem dX10_votesFor_93 : decode cX10_votesFor 93 = .ok (.imul, 1) := by decide +kernel
theorem dX10_votesFor_94 : decode cX10_votesFor 94 = .ok (.aload_n 0, 1) := by decide +kernel
theorem dX10_votesFor_95 : decode cX10_votesFor 95 = .ok (.getfield 13, 3) := by decide +kernel
theorem dX10_votesFor_98 : decode cX10_votesFor 98 = .ok (.iload_n 1, 1) := by decide +kernel
theorem dX10_votesFor_99 : decode cX10_votesFor 99 = .ok (.iaload, 1) := by decide +kernel
theorem dX10_votesFor_100 : decode cX10_votesFor 100 = .ok (.iadd, 1) := by decide +kernel
theorem dX10_votesFor_101 : decode cX10_votesFor 101 = .ok (.baload, 1) := by decide +kernel
theorem dX10_votesFor_102 : decode cX10_votesFor 102 = .ok (.ifCond .eq 7, 3) := by decide +kernel
theorem dX10_votesFor_105 : decode cX10_votesFor 105 = .ok (.iconst 1, 1) := by decide +kernel
theorem dX10_votesFor_106 : decode cX10_votesFor 106 = .ok (.goto 4, 3) := by decide +kernel
theorem dX10_votesFor_109 : decode cX10_votesFor 109 = .ok (.iconst 0, 1) := by decide +kernel
theorem dX10_votesFor_110 : decode cX10_votesFor 110 = .ok (.iadd, 1) := by decide +kernel
theorem dX10_votesFor_111 : decode cX10_votesFor 111 = .ok (.istore_n 2, 1) := by decide +kernel
theorem dX10_votesFor_112 : decode cX10_votesFor 112 = .ok (.iinc 3 1, 3) := by decide +kernel
theorem dX10_votesFor_115 : decode cX10_votesFor 115 = .ok (.goto (-111), 3) := by decide +kernel
theorem dX10_votesFor_118 : decode cX10_votesFor 118 = .ok (.iload_n 2, 1) := by decide +kernel
theorem dX10_votesFor_119 : decode cX10_votesFor 119 = .ok (.ireturn, 1) := by decide +kernel
set_option maxRecDepth 20000 in
theorem ggX10_chooses_X10_votesFor : GoodIn wsX10_chooses wsX10_votesFor := goodIn_r _ [18, 19, 1, 11, 9, 10, 20, 21, 22, 23, 24, 25, 26, 27, 28, 29, 30, 31, 32, 33, 34, 35, 36, 37, 38, 39, 40, 41, 42, 43, 44, 45, 46, 47, 48, 49, 50, 51, 52, 53, 54, 55, 56, 57, 58, 59, 60, 61, 62, 63, 64, 65, 66, 67, 68, 69, 70, 71, 72] (by decide +kernel) (by decide +kernel)
set_option maxRecDepth 20000 in
theorem gX10_chooses_X10_votesFor : GoodIn wsX10_chooses (wsV RX10 189 RX10 yX10_votesFor wsX10_votesFor) := goodIn_app (goodIn_of _ (by decide +kernel)) ggX10_chooses_X10_votesFor
theorem dX10_chooses_0 : decode cX10_chooses 0 = .ok (.aload_n 0, 1) := by decide +kernel
theorem dX10_chooses_1 : decode cX10_chooses 1 = .ok (.aload_n 0, 1) := by decide +kernel
theorem dX10_chooses_2 : decode cX10_chooses 2 = .ok (.getfield 105, 3) := by decide +kernel
theorem dX10_chooses_5 : decode cX10_chooses 5 = .ok (.putfield 70, 3) := by decide +kernel
theorem dX10_chooses_8 : decode cX10_chooses 8 = .ok (.aload_n 0, 1) := by decide +kernel
theorem dX10_chooses_9 : decode cX10_chooses 9 = .ok (.iconst 0, 1) := by decide +kernel
theorem dX10_chooses_10 : decode cX10_chooses 10 = .ok (.putfield 180, 3) := by decide +kernel
theorem dX10_chooses_13 : decode cX10_chooses 13 = .ok (.aload_n 0, 1) := by decide +kernel
theorem dX10_chooses_14 : decode cX10_chooses 14 = .ok (.iconst 0, 1) := by decide +kernel
theorem dX10_chooses_15 : decode cX10_chooses 15 = .ok (.putfield 183, 3) := by decide +kernel
theorem dX10_chooses_18 : decode cX10_chooses 18 = .ok (.aload_n 0, 1) := by decide +kernel
theorem dX10_chooses_19 : decode cX10_chooses 19 = .ok (.iconst 0, 1) := by decide +kernel
theorem dX10_chooses_20 : decode cX10_chooses 20 = .ok (.putfield 186, 3) := by decide +kernel
theorem dX10_chooses_23 : decode cX10_chooses 23 = .ok (.iconst 0, 1) := by decide +kernel
theorem dX10_chooses_24 : decode cX10_chooses 24 = .ok (.istore_n 1, 1) := by decide +kernel
theorem dX10_chooses_25 : decode cX10_chooses 25 = .ok (.iload_n 1, 1) := by decide +kernel
theorem dX10_chooses_26 : decode cX10_chooses 26 = .ok (.bipush 40, 2) := by decide +kernel
theorem dX10_chooses_28 : decode cX10_chooses 28 = .ok (.if_icmp .ge 16, 3) := by decide +kernel
theorem dX10_chooses_31 : decode cX10_chooses 31 = .ok (.aload_n 0, 1) := by decide +kernel
theorem dX10_chooses_32 : decode cX10_chooses 32 = .ok (.getfield 73, 3) := by decide +kernel
theorem dX10_chooses_35 : decode cX10_chooses 35 = .ok (.iload_n 1, 1) := by decide +kernel
theorem dX10_chooses_36 : decode cX10_chooses 36 = .ok (.iconst (-1), 1) := by decide +kernel
theorem dX10_chooses_37 : decode cX10_chooses 37 = .ok (.iastore, 1) := by decide +kernel
theorem dX10_chooses_38 : decode cX10_chooses 38 = .ok (.iinc 1 1, 3) := by decide +kernel
theorem dX10_chooses_41 : decode cX10_chooses 41 = .ok (.goto (-16), 3) := by decide +kernel
theorem dX10_chooses_44 : decode cX10_chooses 44 = .ok (.iconst 0, 1) := by decide +kernel
theorem dX10_chooses_45 : decode cX10_chooses 45 = .ok (.istore_n 1, 1) := by decide +kernel
theorem dX10_chooses_46 : decode cX10_chooses 46 = .ok (.iload_n 1, 1) := by decide +kernel
theorem dX10_chooses_47 : decode cX10_chooses 47 = .ok (.aload_n 0, 1) := by decide +kernel
theorem dX10_chooses_48 : decode cX10_chooses 48 = .ok (.getfield 98, 3) := by decide +kernel
theorem dX10_chooses_51 : decode cX10_chooses 51 = .ok (.if_icmp .ge 203, 3) := by decide +kernel
theorem dX10_chooses_54 : decode cX10_chooses 54 = .ok (.aload_n 0, 1) := by decide +kernel
theorem dX10_chooses_55 : decode cX10_chooses 55 = .ok (.getfield 186, 3) := by decide +kernel
theorem dX10_chooses_58 : decode cX10_chooses 58 = .ok (.aload_n 0, 1) := by decide +kernel
theorem dX10_chooses_59 : decode cX10_chooses 59 = .ok (.getfield 33, 3) := by decide +kernel
theorem dX10_chooses_62 : decode cX10_chooses 62 = .ok (.aload_n 0, 1) := by decide +kernel
theorem dX10_chooses_63 : decode cX10_chooses 63 = .ok (.getfield 105, 3) := by decide +kernel
theorem dX10_chooses_66 : decode cX10_chooses 66 = .ok (.iaload, 1) := by decide +kernel
theorem dX10_chooses_67 : decode cX10_chooses 67 = .ok (.if_icmp .ge 187, 3) := by decide +kernel
theorem dX10_chooses_70 : decode cX10_chooses 70 = .ok (.aload_n 0, 1) := by decide +kernel
theorem dX10_chooses_71 : decode cX10_chooses 71 = .ok (.getfield 16, 3) := by decide +kernel
theorem dX10_chooses_74 : decode cX10_chooses 74 = .ok (.iload_n 1, 1) := by decide +kernel
theorem dX10_chooses_75 : decode cX10_chooses 75 = .ok (.baload, 1) := by decide +kernel
theorem dX10_chooses_76 : decode cX10_chooses 76 = .ok (.ifCond .ne 6, 3) := by decide +kernel
theorem dX10_chooses_79 : decode cX10_chooses 79 = .ok (.goto 169, 3) := by decide +kernel
theorem dX10_chooses_82 : decode cX10_chooses 82 = .ok (.iconst 0, 1) := by decide +kernel
theorem dX10_chooses_83 : decode cX10_chooses 83 = .ok (.istore_n 2, 1) := by decide +kernel
theorem dX10_chooses_84 : decode cX10_chooses 84 = .ok (.iconst 0, 1) := by decide +kernel
theorem dX10_chooses_85 : decode cX10_chooses 85 = .ok (.istore_n 3, 1) := by decide +kernel
theorem dX10_chooses_86 : decode cX10_chooses 86 = .ok (.iload_n 3, 1) := by decide +kernel
theorem dX10_chooses_87 : decode cX10_chooses 87 = .ok (.aload_n 0, 1) := by decide +kernel
theorem dX10_chooses_88 : decode cX10_chooses 88 = .ok (.getfield 186, 3) := by decide +kernel
theorem dX10_chooses_91 : decode cX10_chooses 91 = .ok (.if_icmp .ge 47, 3) := by decide +kernel
theorem dX10_chooses_94 : decode cX10_chooses 94 = .ok (.iload_n 2, 1) := by decide +kernel
theorem dX10_chooses_95 : decode cX10_chooses 95 = .ok (.aload_n 0, 1) := by decide +kernel
theorem dX10_chooses_96 : decode cX10_chooses 96 = .ok (.getfield 7, 3) := by decide +kernel
theorem dX10_chooses_99 : decode cX10_chooses 99 = .ok (.aload_n 0, 1) := by decide +kernel
theorem dX10_chooses_100 : decode cX10_chooses 100 = .ok (.getfield 57, 3) := by decide +kernel
theorem dX10_chooses_103 : decode cX10_chooses 103 = .ok (.bipush 40, 2) := by decide +kernel
theorem dX10_chooses_105 : decode cX10_chooses 105 = .ok (.aload_n 0, 1) := by decide +kernel
theorem dX10_chooses_106 : decode cX10_chooses 106 = .ok (.getfield 105, 3) := by decide +kernel
theorem dX10_chooses_109 : decode cX10_chooses 109 = .ok (.iconst 1, 1) := by decide +kernel
theorem dX10_chooses_110 : decode cX10_chooses 110 = .ok (.iadd, 1) := by decide +kernel
theorem dX10_chooses_111 : decode cX10_chooses 111 = .ok (.imul, 1) := by decide +kernel
theorem dX10_chooses_112 : decode cX10_chooses 112 = .ok (.iload_n 3, 1) := by decide +kernel
theorem dX10_chooses_113 : decode cX10_chooses 113 = .ok (.iadd, 1) := by decide +kernel
theorem dX10_chooses_114 : decode cX10_chooses 114 = .ok (.iaload, 1) := by decide +kernel
theorem dX10_chooses_115 : decode cX10_chooses 115 = .ok (.iaload, 1) := by decide +kernel
theorem dX10_chooses_116 : decode cX10_chooses 116 = .ok (.aload_n 0, 1) := by decide +kernel
theorem dX10_chooses_117 : decode cX10_chooses 117 = .ok (.getfield 7, 3) := by decide +kernel
theorem dX10_chooses_120 : decode cX10_chooses 120 = .ok (.iload_n 1, 1) := by decide +kernel
theorem dX10_chooses_121 : decode cX10_chooses 121 = .ok (.iaload, 1) := by decide +kernel
theorem dX10_chooses_122 : decode cX10_chooses 122 = .ok (.if_icmp .ne 7, 3) := by decide +kernel
theorem dX10_chooses_125 : decode cX10_chooses 125 = .ok (.iconst 1, 1) := by decide +kernel
theorem dX10_chooses_126 : decode cX10_chooses 126 = .ok (.goto 4, 3) := by decide +kernel
theorem dX10_chooses_129 : decode cX10_chooses 129 = .ok (.iconst 0, 1) := by decide +kernel
theorem dX10_chooses_130 : decode cX10_chooses 130 = .ok (.iadd, 1) := by decide +kernel
theorem dX10_chooses_131 : decode cX10_chooses 131 = .ok (.istore_n 2, 1) := by decide +kernel
theorem dX10_chooses_132 : decode cX10_chooses 132 = .ok (.iinc 3 1, 3) := by decide +kernel
theorem dX10_chooses_135 : decode cX10_chooses 135 = .ok (.goto (-49), 3) := by decide +kernel
theorem dX10_chooses_138 : decode cX10_chooses 138 = .ok (.aload_n 0, 1) := by decide +kernel
theorem dX10_chooses_139 : decode cX10_chooses 139 = .ok (.getfield 39, 3) := by decide +kernel
theorem dX10_chooses_142 : decode cX10_chooses 142 = .ok (.aload_n 0, 1) := by decide +kernel
theorem dX10_chooses_143 : decode cX10_chooses 143 = .ok (.getfield 105, 3) := by decide +kernel
theorem dX10_chooses_146 : decode cX10_chooses 146 = .ok (.iaload, 1) := by decide +kernel
theorem dX10_chooses_147 : decode cX10_chooses 147 = .ok (.ifCond .le 29, 3) := by decide +kernel
theorem dX10_chooses_150 : decode cX10_chooses 150 = .ok (.iload_n 2, 1) := by decide +kernel
theorem dX10_chooses_151 : decode cX10_chooses 151 = .ok (.aload_n 0, 1) := by decide +kernel
theorem dX10_chooses_152 : decode cX10_chooses 152 = .ok (.getfield 39, 3) := by decide +kernel
theorem dX10_chooses_155 : decode cX10_chooses 155 = .ok (.aload_n 0, 1) := by decide +kernel
theorem dX10_chooses_156 : decode cX10_chooses 156 = .ok (.getfield 105, 3) := by decide +kernel
theorem dX10_chooses_159 : decode cX10_chooses 159 = .ok (.iaload, 1) := by decide +kernel
theorem dX10_chooses_160 : decode cX10_chooses 160 = .ok (.if_icmp .lt 16, 3) := by decide +kernel
theorem dX10_chooses_163 : decode cX10_chooses 163 = .ok (.aload_n 0, 1) := by decide +kernel
theorem dX10_chooses_164 : decode cX10_chooses 164 = .ok (.dup, 1) := by decide +kernel
theorem dX10_chooses_165 : decode cX10_chooses 165 = .ok (.getfield 180, 3) := by decide +kernel
theorem dX10_chooses_168 : decode cX10_chooses 168 = .ok (.iconst 1, 1) := by decide +kernel
theorem dX10_chooses_169 : decode cX10_chooses 169 = .ok (.iadd, 1) := by decide +kernel
theorem dX10_chooses_170 : decode cX10_chooses 170 = .ok (.putfield 180, 3) := by decide +kernel
theorem dX10_chooses_173 : decode cX10_chooses 173 = .ok (.goto 75, 3) := by decide +kernel
theorem dX10_chooses_176 : decode cX10_chooses 176 = .ok (.aload_n 0, 1) := by decide +kernel
theorem dX10_chooses_177 : decode cX10_chooses 177 = .ok (.dup, 1) := by decide +kernel
theorem dX10_chooses_178 : decode cX10_chooses 178 = .ok (.getfield 183, 3) := by decide +kernel
theorem dX10_chooses_181 : decode cX10_chooses 181 = .ok (.iconst 1, 1) := by decide +kernel
theorem dX10_chooses_182 : decode cX10_chooses 182 = .ok (.iadd, 1) := by decide +kernel
theorem dX10_chooses_183 : decode cX10_chooses 183 = .ok (.putfield 183, 3) := by decide +kernel
theorem dX10_chooses_186 : decode cX10_chooses 186 = .ok (.aload_n 0, 1) := by decide +kernel
theorem dX10_chooses_187 : decode cX10_chooses 187 = .ok (.getfield 73, 3) := by decide +kernel
theorem dX10_chooses_190 : decode cX10_chooses 190 = .ok (.iload_n 1, 1) := by decide +kernel
theorem dX10_chooses_191 : decode cX10_chooses 191 = .ok (.aload_n 0, 1) := by decide +kernel
theorem dX10_chooses_192 : decode cX10_chooses 192 = .ok (.iload_n 1, 1) := by decide +kernel
theorem dX10_chooses_193 : decode cX10_chooses 193 = .ok (.invokevirtual 189, 3) := by decide +kernel
theorem dX10_chooses_196 : decode cX10_chooses 196 = .ok (.iastore, 1) := by decide +kernel
theorem dX10_chooses_197 : decode cX10_chooses 197 = .ok (.aload_n 0, 1) := by decide +kernel
theorem dX10_chooses_198 : decode cX10_chooses 198 = .ok (.getfield 73, 3) := by decide +kernel
theorem dX10_chooses_201 : decode cX10_chooses 201 = .ok (.iload_n 1, 1) := by decide +kernel
theorem dX10_chooses_202 : decode cX10_chooses 202 = .ok (.iaload, 1) := by decide +kernel
theorem dX10_chooses_203 : decode cX10_chooses 203 = .ok (.aload_n 0, 1) := by decide +kernel
theorem dX10_chooses_204 : decode cX10_chooses 204 = .ok (.getfield 36, 3) := by decide +kernel
theorem dX10_chooses_207 : decode cX10_chooses 207 = .ok (.aload_n 0, 1) := by decide +kernel
theorem dX10_chooses_208 : decode cX10_chooses 208 = .ok (.getfield 105, 3) := by decide +kernel
theorem dX10_chooses_211 : decode cX10_chooses 211 = .ok (.iaload, 1) := by decide +kernel
theorem dX10_chooses_212 : decode cX10_chooses 212 = .ok (.if_icmp .ge 6, 3) := by decide +kernel
theorem dX10_chooses_215 : decode cX10_chooses 215 = .ok (.goto 33, 3) := by decide +kernel
theorem dX10_chooses_218 : decode cX10_chooses 218 = .ok (.aload_n 0, 1) := by decide +kernel
theorem dX10_chooses_219 : decode cX10_chooses 219 = .ok (.getfield 57, 3) := by decide +kernel
theorem dX10_chooses_222 : decode cX10_chooses 222 = .ok (.bipush 40, 2) := by decide +kernel
theorem dX10_chooses_224 : decode cX10_chooses 224 = .ok (.aload_n 0, 1) := by decide +kernel
theorem dX10_chooses_225 : decode cX10_chooses 225 = .ok (.getfield 105, 3) := by decide +kernel
theorem dX10_chooses_228 : decode cX10_chooses 228 = .ok (.iconst 1, 1) := by decide +kernel
theorem dX10_chooses_229 : decode cX10_chooses 229 = .ok (.iadd, 1) := by decide +kernel
theorem dX10_chooses_230 : decode cX10_chooses 230 = .ok (.imul, 1) := by decide +kernel
theorem dX10_chooses_231 : decode cX10_chooses 231 = .ok (.aload_n 0, 1) := by decide +kernel
theorem dX10_chooses_232 : decode cX10_chooses 232 = .ok (.getfield 186, 3) := by decide +kernel
theorem dX10_chooses_235 : decode cX10_chooses 235 = .ok (.iadd, 1) := by decide +kernel
theorem dX10_chooses_236 : decode cX10_chooses 236 = .ok (.iload_n 1, 1) := by decide +kernel
theorem dX10_chooses_237 : decode cX10_chooses 237 = .ok (.iastore, 1) := by decide +kernel
theorem dX10_chooses_238 : decode cX10_chooses 238 = .ok (.aload_n 0, 1) := by decide +kernel
theorem dX10_chooses_239 : decode cX10_chooses 239 = .ok (.dup, 1) := by decide +kernel
theorem dX10_chooses_240 : decode cX10_chooses 240 = .ok (.getfield 186, 3) := by decide +kernel
theorem dX10_chooses_243 : decode cX10_chooses 243 = .ok (.iconst 1, 1) := by decide +kernel
theorem dX10_chooses_244 : decode cX10_chooses 244 = .ok (.iadd, 1) := by decide +kernel
theorem dX10_chooses_245 : decode cX10_chooses 245 = .ok (.putfield 186, 3) := by decide +kernel
theorem dX10_chooses_248 : decode cX10_chooses 248 = .ok (.iinc 1 1, 3) := by decide +kernel
theorem dX10_chooses_251 : decode cX10_chooses 251 = .ok (.goto (-205), 3) := by decide +kernel
theorem dX10_chooses_254 : decode cX10_chooses 254 = .ok (.aload_n 0, 1) := by decide +kernel
theorem dX10_chooses_255 : decode cX10_chooses 255 = .ok (.getfield 186, 3) := by decide +kernel
theorem dX10_chooses_258 : decode cX10_chooses 258 = .ok (.aload_n 0, 1) := by decide +kernel
theorem dX10_chooses_259 : decode cX10_chooses 259 = .ok (.getfield 33, 3) := by decide +kernel
theorem dX10_chooses_262 : decode cX10_chooses 262 = .ok (.aload_n 0, 1) := by decide +kernel
theorem dX10_chooses_263 : decode cX10_chooses 263 = .ok (.getfield 105, 3) := by decide +kernel
theorem dX10_chooses_266 : decode cX10_chooses 266 = .ok (.iaload, 1) := by decide +kernel
theorem dX10_chooses_267 : decode cX10_chooses 267 = .ok (.if_icmp .ne 7, 3) := by decide +kernel
theorem dX10_chooses_270 : decode cX10_chooses 270 = .ok (.iconst 1, 1) := by decide +kernel
theorem dX10_chooses_271 : decode cX10_chooses 271 = .ok (.goto 4, 3) := by decide +kernel
theorem dX10_chooses_274 : decode cX10_chooses 274 = .ok (.iconst 0, 1) := by decide +kernel
theorem dX10_chooses_275 : decode cX10_chooses 275 = .ok (.ireturn, 1) := by decide +kernel
set_option maxRecDepth 20000 in
theorem ggX10_step_X10_draws : GoodIn wsX10_step wsX10_draws := goodIn_r _ [13, 5, 2, 4, 14, 7, 15, 16, 17, 38, 39, 40, 41, 42, 43, 44, 45, 46, 47, 48, 49, 50, 51, 52, 53, 54, 55, 56, 57, 58, 59, 60, 61, 62, 63, 64, 65, 66, 67, 68, 69, 70, 71, 72, 73, 74, 75, 76, 77, 78, 79, 80, 81, 82, 83, 84, 85, 86, 87] (by decide +kernel) (by decide +kernel)
set_option maxRecDepth 20000 in
theorem gX10_step_X10_draws : GoodIn wsX10_step (wsV RX10 193 RX10 yX10_draws wsX10_draws) := goodIn_app (goodIn_of _ (by decide +kernel)) ggX10_step_X10_draws
set_option maxRecDepth 20000 in
theorem ggX10_step_X10_chooses : GoodIn wsX10_step wsX10_chooses := goodIn_r _ [21, 2, 22, 23, 24, 6, 25, 26, 5, 27, 28, 7, 29, 30, 31, 32, 33, 12, 34, 4, 35, 36, 37, 38, 39, 40, 41, 42, 43, 44, 45, 46, 47, 48, 49, 50, 51, 52, 53, 54, 55, 56, 57, 58, 59, 60, 61, 62, 63, 64, 65, 66, 67, 68, 69, 70, 71, 72, 73, 74, 75, 76, 77, 78, 79, 80, 81, 82, 83, 84, 85, 86, 87] (by decide +kernel) (by decide +kernel)
set_option maxRecDepth 20000 in
theorem gX10_step_X10_chooses : GoodIn wsX10_step (wsV RX10 196 RX10 yX10_chooses wsX10_chooses) := goodIn_app (goodIn_of _ (by decide +kernel)) ggX10_step_X10_chooses
theorem dX10_step_0 : decode cX10_step 0 = .ok (.aload_n 0, 1) := by decide +kernel
theorem dX10_step_1 : decode cX10_step 1 = .ok (.getfield 171, 3) := by decide +kernel
theorem dX10_step_4 : decode cX10_step 4 = .ok (.ifCond .eq 14, 3) := by decide +kernel
theorem dX10_step_7 : decode cX10_step 7 = .ok (.aload_n 0, 1) := by decide +kernel
theorem dX10_step_8 : decode cX10_step 8 = .ok (.getfield 105, 3) := by decide +kernel
theorem dX10_step_11 : decode cX10_step 11 = .ok (.aload_n 0, 1) := by decide +kernel
theorem dX10_step_12 : decode cX10_step 12 = .ok (.getfield 171, 3) := by decide +kernel
theorem dX10_step_15 : decode cX10_step 15 = .ok (.if_icmp .ne 5, 3) := by decide +kernel
theorem dX10_step_18 : decode cX10_step 18 = .ok (.iconst 3, 1) := by decide +kernel
theorem dX10_step_19 : decode cX10_step 19 = .ok (.ireturn, 1) := by decide +kernel
theorem dX10_step_20 : decode cX10_step 20 = .ok (.aload_n 0, 1) := by decide +kernel
theorem dX10_step_21 : decode cX10_step 21 = .ok (.getfield 30, 3) := by decide +kernel
theorem dX10_step_24 : decode cX10_step 24 = .ok (.aload_n 0, 1) := by decide +kernel
theorem dX10_step_25 : decode cX10_step 25 = .ok (.getfield 105, 3) := by decide +kernel
theorem dX10_step_28 : decode cX10_step 28 = .ok (.iaload, 1) := by decide +kernel
theorem dX10_step_29 : decode cX10_step 29 = .ok (.ifCond .ne 36, 3) := by decide +kernel
theorem dX10_step_32 : decode cX10_step 32 = .ok (.aload_n 0, 1) := by decide +kernel
theorem dX10_step_33 : decode cX10_step 33 = .ok (.getfield 54, 3) := by decide +kernel
theorem dX10_step_36 : decode cX10_step 36 = .ok (.aload_n 0, 1) := by decide +kernel
theorem dX10_step_37 : decode cX10_step 37 = .ok (.getfield 105, 3) := by decide +kernel
theorem dX10_step_40 : decode cX10_step 40 = .ok (.iaload, 1) := by decide +kernel
theorem dX10_step_41 : decode cX10_step 41 = .ok (.aload_n 0, 1) := by decide +kernel
theorem dX10_step_42 : decode cX10_step 42 = .ok (.getfield 33, 3) := by decide +kernel
theorem dX10_step_45 : decode cX10_step 45 = .ok (.aload_n 0, 1) := by decide +kernel
theorem dX10_step_46 : decode cX10_step 46 = .ok (.getfield 105, 3) := by decide +kernel
theorem dX10_step_49 : decode cX10_step 49 = .ok (.iaload, 1) := by decide +kernel
theorem dX10_step_50 : decode cX10_step 50 = .ok (.if_icmp .ge 5, 3) := by decide +kernel
theorem dX10_step_53 : decode cX10_step 53 = .ok (.iconst 2, 1) := by decide +kernel
theorem dX10_step_54 : decode cX10_step 54 = .ok (.ireturn, 1) := by decide +kernel
theorem dX10_step_55 : decode cX10_step 55 = .ok (.aload_n 0, 1) := by decide +kernel
theorem dX10_step_56 : decode cX10_step 56 = .ok (.invokevirtual 193, 3) := by decide +kernel
theorem dX10_step_59 : decode cX10_step 59 = .ok (.iconst 1, 1) := by decide +kernel
theorem dX10_step_60 : decode cX10_step 60 = .ok (.if_icmp .ne 60, 3) := by decide +kernel
theorem dX10_step_63 : decode cX10_step 63 = .ok (.iconst 1, 1) := by decide +kernel
theorem dX10_step_64 : decode cX10_step 64 = .ok (.ireturn, 1) := by decide +kernel
theorem dX10_step_65 : decode cX10_step 65 = .ok (.aload_n 0, 1) := by decide +kernel
theorem dX10_step_66 : decode cX10_step 66 = .ok (.invokevirtual 196, 3) := by decide +kernel
theorem dX10_step_69 : decode cX10_step 69 = .ok (.ifCond .ne 5, 3) := by decide +kernel
theorem dX10_step_72 : decode cX10_step 72 = .ok (.iconst 2, 1) := by decide +kernel
theorem dX10_step_73 : decode cX10_step 73 = .ok (.ireturn, 1) := by decide +kernel
theorem dX10_step_74 : decode cX10_step 74 = .ok (.aload_n 0, 1) := by decide +kernel
theorem dX10_step_75 : decode cX10_step 75 = .ok (.getfield 54, 3) := by decide +kernel
theorem dX10_step_78 : decode cX10_step 78 = .ok (.aload_n 0, 1) := by decide +kernel
theorem dX10_step_79 : decode cX10_step 79 = .ok (.getfield 105, 3) := by decide +kernel
theorem dX10_step_82 : decode cX10_step 82 = .ok (.iconst 1, 1) := by decide +kernel
theorem dX10_step_83 : decode cX10_step 83 = .ok (.iadd, 1) := by decide +kernel
theorem dX10_step_84 : decode cX10_step 84 = .ok (.aload_n 0, 1) := by decide +kernel
theorem dX10_step_85 : decode cX10_step 85 = .ok (.getfield 186, 3) := by decide +kernel
theorem dX10_step_88 : decode cX10_step 88 = .ok (.iastore, 1) := by decide +kernel
theorem dX10_step_89 : decode cX10_step 89 = .ok (.aload_n 0, 1) := by decide +kernel
theorem dX10_step_90 : decode cX10_step 90 = .ok (.getfield 30, 3) := by decide +kernel
theorem dX10_step_93 : decode cX10_step 93 = .ok (.aload_n 0, 1) := by decide +kernel
theorem dX10_step_94 : decode cX10_step 94 = .ok (.getfield 105, 3) := by decide +kernel
theorem dX10_step_97 : decode cX10_step 97 = .ok (.iaload, 1) := by decide +kernel
theorem dX10_step_98 : decode cX10_step 98 = .ok (.iconst 2, 1) := by decide +kernel
theorem dX10_step_99 : decode cX10_step 99 = .ok (.if_icmp .ne 21, 3) := by decide +kernel
theorem dX10_step_102 : decode cX10_step 102 = .ok (.aload_n 0, 1) := by decide +kernel
theorem dX10_step_103 : decode cX10_step 103 = .ok (.aload_n 0, 1) := by decide +kernel
theorem dX10_step_104 : decode cX10_step 104 = .ok (.getfield 57, 3) := by decide +kernel
theorem dX10_step_107 : decode cX10_step 107 = .ok (.bipush 40, 2) := by decide +kernel
theorem dX10_step_109 : decode cX10_step 109 = .ok (.aload_n 0, 1) := by decide +kernel
theorem dX10_step_110 : decode cX10_step 110 = .ok (.getfield 105, 3) := by decide +kernel
theorem dX10_step_113 : decode cX10_step 113 = .ok (.iconst 1, 1) := by decide +kernel
theorem dX10_step_114 : decode cX10_step 114 = .ok (.iadd, 1) := by decide +kernel
theorem dX10_step_115 : decode cX10_step 115 = .ok (.imul, 1) := by decide +kernel
theorem dX10_step_116 : decode cX10_step 116 = .ok (.iaload, 1) := by decide +kernel
theorem dX10_step_117 : decode cX10_step 117 = .ok (.putfield 60, 3) := by decide +kernel
theorem dX10_step_120 : decode cX10_step 120 = .ok (.aload_n 0, 1) := by decide +kernel
theorem dX10_step_121 : decode cX10_step 121 = .ok (.dup, 1) := by decide +kernel
theorem dX10_step_122 : decode cX10_step 122 = .ok (.getfield 105, 3) := by decide +kernel
theorem dX10_step_125 : decode cX10_step 125 = .ok (.iconst 1, 1) := by decide +kernel
theorem dX10_step_126 : decode cX10_step 126 = .ok (.iadd, 1) := by decide +kernel
theorem dX10_step_127 : decode cX10_step 127 = .ok (.putfield 105, 3) := by decide +kernel
theorem dX10_step_130 : decode cX10_step 130 = .ok (.iconst 0, 1) := by decide +kernel
theorem dX10_step_131 : decode cX10_step 131 = .ok (.ireturn, 1) := by decide +kernel
set_option maxRecDepth 20000 in
theorem ggX10_protest_X10_in : GoodIn wsX10_protest wsX10_in := goodIn_r _ [6] (by decide +kernel) (by decide +kernel)
set_option maxRecDepth 20000 in
theorem gX10_protest_X10_in : GoodIn wsX10_protest (va_wsS RX10 101 yX10_in wsX10_in) := goodIn_app (goodIn_of _ (by decide +kernel)) ggX10_protest_X10_in
set_option maxRecDepth 20000 in
theorem ggX10_protest_X10_begins : GoodIn wsX10_protest wsX10_begins := goodIn_r _ [10, 1, 11, 12, 13, 14, 15, 16, 17, 18, 19, 20, 21, 22, 23, 24, 25, 26, 27, 28, 29, 30, 31, 32, 33, 34, 35, 36, 37, 38, 39, 40, 41, 42, 43, 44, 45, 46, 47, 48, 49, 50, 51, 52, 53, 54, 55, 56, 57, 58, 59, 60, 61, 62, 63, 64] (by decide +kernel) (by decide +kernel)
set_option maxRecDepth 20000 in
theorem gX10_protest_X10_begins : GoodIn wsX10_protest (wsV RX10 108 RX10 yX10_begins wsX10_begins) := goodIn_app (goodIn_of _ (by decide +kernel)) ggX10_protest_X10_begins
theorem dX10_protest_0 : decode cX10_protest 0 = .ok (.iload_n 1, 1) := by decide +kernel
theorem dX10_protest_1 : decode cX10_protest 1 = .ok (.iconst 0, 1) := by decide +kernel
theorem dX10_protest_2 : decode cX10_protest 2 = .ok (.aload_n 0, 1) := by decide +kernel
theorem dX10_protest_3 : decode cX10_protest 3 = .ok (.getfield 105, 3) := by decide +kernel
theorem dX10_protest_6 : decode cX10_protest 6 = .ok (.iconst 1, 1) := by decide +kernel
theorem dX10_protest_7 : decode cX10_protest 7 = .ok (.isub, 1) := by decide +kernel
theorem dX10_protest_8 : decode cX10_protest 8 = .ok (.invokestatic 101, 3) := by decide +kernel
theorem dX10_protest_11 : decode cX10_protest 11 = .ok (.ifCond .ne 5, 3) := by decide +kernel
theorem dX10_protest_14 : decode cX10_protest 14 = .ok (.iconst 0, 1) := by decide +kernel
theorem dX10_protest_15 : decode cX10_protest 15 = .ok (.ireturn, 1) := by decide +kernel
theorem dX10_protest_16 : decode cX10_protest 16 = .ok (.aload_n 0, 1) := by decide +kernel
theorem dX10_protest_17 : decode cX10_protest 17 = .ok (.iload_n 1, 1) := by decide +kernel
theorem dX10_protest_18 : decode cX10_protest 18 = .ok (.putfield 105, 3) := by decide +kernel
theorem dX10_protest_21 : decode cX10_protest 21 = .ok (.aload_n 0, 1) := by decide +kernel
theorem dX10_protest_22 : decode cX10_protest 22 = .ok (.iconst (-1), 1) := by decide +kernel
theorem dX10_protest_23 : decode cX10_protest 23 = .ok (.putfield 60, 3) := by decide +kernel
theorem dX10_protest_26 : decode cX10_protest 26 = .ok (.aload_n 0, 1) := by decide +kernel
theorem dX10_protest_27 : decode cX10_protest 27 = .ok (.invokevirtual 108, 3) := by decide +kernel
theorem dX10_protest_30 : decode cX10_protest 30 = .ok (.iconst 1, 1) := by decide +kernel
theorem dX10_protest_31 : decode cX10_protest 31 = .ok (.ireturn, 1) := by decide +kernel
set_option maxRecDepth 20000 in
theorem ggX10_body_X10_bodyNow : GoodIn wsX10_body wsX10_bodyNow := goodIn_r _ [6, 7, 8, 9, 10, 5, 11, 12, 13, 17, 18, 19, 20, 21, 22, 23, 24, 25, 26, 27, 28, 29, 30, 31, 32, 33, 34, 35, 36, 37, 38, 39, 40, 41, 42, 43, 44, 45, 46, 47, 48, 49, 50, 51, 52, 53, 54, 55, 56, 57, 58, 59, 60, 61, 62, 63, 64, 65, 66] (by decide +kernel) (by decide +kernel)
set_option maxRecDepth 20000 in
theorem gX10_body_X10_bodyNow : GoodIn wsX10_body (wsV RX10 199 RX10 yX10_bodyNow wsX10_bodyNow) := goodIn_app (goodIn_of _ (by decide +kernel)) ggX10_body_X10_bodyNow
set_option maxRecDepth 20000 in
theorem ggX10_body_X10_in : GoodIn wsX10_body wsX10_in := goodIn_r _ [16] (by decide +kernel) (by decide +kernel)
set_option maxRecDepth 20000 in
theorem gX10_body_X10_in : GoodIn wsX10_body (va_wsS RX10 101 yX10_in wsX10_in) := goodIn_app (goodIn_of _ (by decide +kernel)) ggX10_body_X10_in
set_option maxRecDepth 20000 in
theorem ggX10_body_X10_row : GoodIn wsX10_body wsX10_row := goodIn_r _ [11, 12, 13, 17, 18, 19, 20, 21, 22, 23, 24, 25, 26, 27, 28, 29, 30, 31, 32, 33, 34, 35, 36, 37, 38, 39, 40, 41, 42, 43, 44, 45, 46, 47, 48, 49, 50, 51, 52, 53, 54, 55, 56, 57, 58, 59, 60, 61, 62, 63, 64, 65, 66] (by decide +kernel) (by decide +kernel)
set_option maxRecDepth 20000 in
theorem gX10_body_X10_row : GoodIn wsX10_body (wsV RX10 202 RX10 yX10_row wsX10_row) := goodIn_app (goodIn_of _ (by decide +kernel)) ggX10_body_X10_row
theorem dX10_body_0 : decode cX10_body 0 = .ok (.iload_n 1, 1) := by decide +kernel
theorem dX10_body_1 : decode cX10_body 1 = .ok (.iconst 0, 1) := by decide +kernel
theorem dX10_body_2 : decode cX10_body 2 = .ok (.aload_n 0, 1) := by decide +kernel
theorem dX10_body_3 : decode cX10_body 3 = .ok (.invokevirtual 199, 3) := by decide +kernel
theorem dX10_body_6 : decode cX10_body 6 = .ok (.iconst 1, 1) := by decide +kernel
theorem dX10_body_7 : decode cX10_body 7 = .ok (.isub, 1) := by decide +kernel
theorem dX10_body_8 : decode cX10_body 8 = .ok (.invokestatic 101, 3) := by decide +kernel
theorem dX10_body_11 : decode cX10_body 11 = .ok (.ifCond .eq 20, 3) := by decide +kernel
theorem dX10_body_14 : decode cX10_body 14 = .ok (.aload_n 0, 1) := by decide +kernel
theorem dX10_body_15 : decode cX10_body 15 = .ok (.getfield 57, 3) := by decide +kernel
theorem dX10_body_18 : decode cX10_body 18 = .ok (.bipush 40, 2) := by decide +kernel
theorem dX10_body_20 : decode cX10_body 20 = .ok (.aload_n 0, 1) := by decide +kernel
theorem dX10_body_21 : decode cX10_body 21 = .ok (.invokevirtual 202, 3) := by decide +kernel
theorem dX10_body_24 : decode cX10_body 24 = .ok (.imul, 1) := by decide +kernel
theorem dX10_body_25 : decode cX10_body 25 = .ok (.iload_n 1, 1) := by decide +kernel
theorem dX10_body_26 : decode cX10_body 26 = .ok (.iadd, 1) := by decide +kernel
theorem dX10_body_27 : decode cX10_body 27 = .ok (.iaload, 1) := by decide +kernel
theorem dX10_body_28 : decode cX10_body 28 = .ok (.goto 4, 3) := by decide +kernel
theorem dX10_body_31 : decode cX10_body 31 = .ok (.iconst (-1), 1) := by decide +kernel
theorem dX10_body_32 : decode cX10_body 32 = .ok (.ireturn, 1) := by decide +kernel
theorem dX10_row_0 : decode cX10_row 0 = .ok (.aload_n 0, 1) := by decide +kernel
theorem dX10_row_1 : decode cX10_row 1 = .ok (.getfield 105, 3) := by decide +kernel
theorem dX10_row_4 : decode cX10_row 4 = .ok (.ifCond .le 27, 3) := by decide +kernel
theorem dX10_row_7 : decode cX10_row 7 = .ok (.aload_n 0, 1) := by decide +kernel
theorem dX10_row_8 : decode cX10_row 8 = .ok (.getfield 30, 3) := by decide +kernel
theorem dX10_row_11 : decode cX10_row 11 = .ok (.aload_n 0, 1) := by decide +kernel
theorem dX10_row_12 : decode cX10_row 12 = .ok (.getfield 105, 3) := by decide +kernel
theorem dX10_row_15 : decode cX10_row 15 = .ok (.iconst 1, 1) := by decide +kernel
theorem dX10_row_16 : decode cX10_row 16 = .ok (.isub, 1) := by decide +kernel
theorem dX10_row_17 : decode cX10_row 17 = .ok (.iaload, 1) := by decide +kernel
theorem dX10_row_18 : decode cX10_row 18 = .ok (.iconst 2, 1) := by decide +kernel
theorem dX10_row_19 : decode cX10_row 19 = .ok (.if_icmp .ne 12, 3) := by decide +kernel
theorem dX10_row_22 : decode cX10_row 22 = .ok (.aload_n 0, 1) := by decide +kernel
theorem dX10_row_23 : decode cX10_row 23 = .ok (.getfield 105, 3) := by decide +kernel
theorem dX10_row_26 : decode cX10_row 26 = .ok (.iconst 1, 1) := by decide +kernel
theorem dX10_row_27 : decode cX10_row 27 = .ok (.isub, 1) := by decide +kernel
theorem dX10_row_28 : decode cX10_row 28 = .ok (.goto 7, 3) := by decide +kernel
theorem dX10_row_31 : decode cX10_row 31 = .ok (.aload_n 0, 1) := by decide +kernel
theorem dX10_row_32 : decode cX10_row 32 = .ok (.getfield 105, 3) := by decide +kernel
theorem dX10_row_35 : decode cX10_row 35 = .ok (.ireturn, 1) := by decide +kernel
set_option maxRecDepth 20000 in
theorem ggX10_bodyNow_X10_row : GoodIn wsX10_bodyNow wsX10_row := goodIn_r _ [6, 7, 8, 9, 10, 11, 12, 13, 14, 15, 16, 17, 18, 19, 20, 21, 22, 23, 24, 25, 26, 27, 28, 29, 30, 31, 32, 33, 34, 35, 36, 37, 38, 39, 40, 41, 42, 43, 44, 45, 46, 47, 48, 49, 50, 51, 52, 53, 54, 55, 56, 57, 58] (by decide +kernel) (by decide +kernel)
set_option maxRecDepth 20000 in
theorem gX10_bodyNow_X10_row : GoodIn wsX10_bodyNow (wsV RX10 202 RX10 yX10_row wsX10_row) := goodIn_app (goodIn_of _ (by decide +kernel)) ggX10_bodyNow_X10_row
theorem dX10_bodyNow_0 : decode cX10_bodyNow 0 = .ok (.aload_n 0, 1) := by decide +kernel
theorem dX10_bodyNow_1 : decode cX10_bodyNow 1 = .ok (.getfield 54, 3) := by decide +kernel
theorem dX10_bodyNow_4 : decode cX10_bodyNow 4 = .ok (.aload_n 0, 1) := by decide +kernel
theorem dX10_bodyNow_5 : decode cX10_bodyNow 5 = .ok (.invokevirtual 202, 3) := by decide +kernel
theorem dX10_bodyNow_8 : decode cX10_bodyNow 8 = .ok (.iaload, 1) := by decide +kernel
theorem dX10_bodyNow_9 : decode cX10_bodyNow 9 = .ok (.ireturn, 1) := by decide +kernel
set_option maxRecDepth 20000 in
theorem ggX10_ballot_X10_in : GoodIn wsX10_ballot wsX10_in := goodIn_r _ [9] (by decide +kernel) (by decide +kernel)
set_option maxRecDepth 20000 in
theorem gX10_ballot_X10_in : GoodIn wsX10_ballot (va_wsS RX10 101 yX10_in wsX10_in) := goodIn_app (goodIn_of _ (by decide +kernel)) ggX10_ballot_X10_in
theorem dX10_ballot_0 : decode cX10_ballot 0 = .ok (.aload_n 0, 1) := by decide +kernel
theorem dX10_ballot_1 : decode cX10_ballot 1 = .ok (.getfield 70, 3) := by decide +kernel
theorem dX10_ballot_4 : decode cX10_ballot 4 = .ok (.iconst (-1), 1) := by decide +kernel
theorem dX10_ballot_5 : decode cX10_ballot 5 = .ok (.if_icmp .ne 5, 3) := by decide +kernel
theorem dX10_ballot_8 : decode cX10_ballot 8 = .ok (.iconst (-1), 1) := by decide +kernel
theorem dX10_ballot_9 : decode cX10_ballot 9 = .ok (.ireturn, 1) := by decide +kernel
theorem dX10_ballot_10 : decode cX10_ballot 10 = .ok (.iload_n 1, 1) := by decide +kernel
theorem dX10_ballot_11 : decode cX10_ballot 11 = .ok (.bipush 100, 2) := by decide +kernel
theorem dX10_ballot_13 : decode cX10_ballot 13 = .ok (.sipush 139, 3) := by decide +kernel
theorem dX10_ballot_16 : decode cX10_ballot 16 = .ok (.invokestatic 101, 3) := by decide +kernel
theorem dX10_ballot_19 : decode cX10_ballot 19 = .ok (.ifCond .eq 13, 3) := by decide +kernel
theorem dX10_ballot_22 : decode cX10_ballot 22 = .ok (.aload_n 0, 1) := by decide +kernel
theorem dX10_ballot_23 : decode cX10_ballot 23 = .ok (.getfield 73, 3) := by decide +kernel
theorem dX10_ballot_26 : decode cX10_ballot 26 = .ok (.iload_n 1, 1) := by decide +kernel
theorem dX10_ballot_27 : decode cX10_ballot 27 = .ok (.bipush 100, 2) := by decide +kernel
theorem dX10_ballot_29 : decode cX10_ballot 29 = .ok (.isub, 1) := by decide +kernel
theorem dX10_ballot_30 : decode cX10_ballot 30 = .ok (.iaload, 1) := by decide +kernel
theorem dX10_ballot_31 : decode cX10_ballot 31 = .ok (.ireturn, 1) := by decide +kernel
theorem dX10_ballot_32 : decode cX10_ballot 32 = .ok (.iload_n 1, 1) := by decide +kernel
theorem dX10_ballot_33 : decode cX10_ballot 33 = .ok (.ifCond .ne 10, 3) := by decide +kernel
theorem dX10_ballot_36 : decode cX10_ballot 36 = .ok (.aload_n 0, 1) := by decide +kernel
theorem dX10_ballot_37 : decode cX10_ballot 37 = .ok (.getfield 180, 3) := by decide +kernel
theorem dX10_ballot_40 : decode cX10_ballot 40 = .ok (.goto 28, 3) := by decide +kernel
theorem dX10_ballot_43 : decode cX10_ballot 43 = .ok (.iload_n 1, 1) := by decide +kernel
theorem dX10_ballot_44 : decode cX10_ballot 44 = .ok (.iconst 1, 1) := by decide +kernel
theorem dX10_ballot_45 : decode cX10_ballot 45 = .ok (.if_icmp .ne 10, 3) := by decide +kernel
theorem dX10_ballot_48 : decode cX10_ballot 48 = .ok (.aload_n 0, 1) := by decide +kernel
theorem dX10_ballot_49 : decode cX10_ballot 49 = .ok (.getfield 183, 3) := by decide +kernel
theorem dX10_ballot_52 : decode cX10_ballot 52 = .ok (.goto 16, 3) := by decide +kernel
theorem dX10_ballot_55 : decode cX10_ballot 55 = .ok (.iload_n 1, 1) := by decide +kernel
theorem dX10_ballot_56 : decode cX10_ballot 56 = .ok (.iconst 2, 1) := by decide +kernel
theorem dX10_ballot_57 : decode cX10_ballot 57 = .ok (.if_icmp .ne 10, 3) := by decide +kernel
theorem dX10_ballot_60 : decode cX10_ballot 60 = .ok (.aload_n 0, 1) := by decide +kernel
theorem dX10_ballot_61 : decode cX10_ballot 61 = .ok (.getfield 186, 3) := by decide +kernel
theorem dX10_ballot_64 : decode cX10_ballot 64 = .ok (.goto 4, 3) := by decide +kernel
theorem dX10_ballot_67 : decode cX10_ballot 67 = .ok (.iconst (-1), 1) := by decide +kernel
theorem dX10_ballot_68 : decode cX10_ballot 68 = .ok (.ireturn, 1) := by decide +kernel
theorem dX10_elected_0 : decode cX10_elected 0 = .ok (.aload_n 0, 1) := by decide +kernel
theorem dX10_elected_1 : decode cX10_elected 1 = .ok (.getfield 60, 3) := by decide +kernel
theorem dX10_elected_4 : decode cX10_elected 4 = .ok (.ireturn, 1) := by decide +kernel
theorem dX10_partOf_0 : decode cX10_partOf 0 = .ok (.iload_n 0, 1) := by decide +kernel
theorem dX10_partOf_1 : decode cX10_partOf 1 = .ok (.bipush 6, 2) := by decide +kernel
theorem dX10_partOf_3 : decode cX10_partOf 3 = .ok (.iload_n 1, 1) := by decide +kernel
theorem dX10_partOf_4 : decode cX10_partOf 4 = .ok (.imul, 1) := by decide +kernel
theorem dX10_partOf_5 : decode cX10_partOf 5 = .ok (.ishr, 1) := by decide +kernel
theorem dX10_partOf_6 : decode cX10_partOf 6 = .ok (.bipush 63, 2) := by decide +kernel
theorem dX10_partOf_8 : decode cX10_partOf 8 = .ok (.iand, 1) := by decide +kernel
theorem dX10_partOf_9 : decode cX10_partOf 9 = .ok (.ireturn, 1) := by decide +kernel
set_option maxRecDepth 20000 in
theorem ggX10_sizeOf_X10_partOf : GoodIn wsX10_sizeOf wsX10_partOf := goodIn_r _ [4] (by decide +kernel) (by decide +kernel)
set_option maxRecDepth 20000 in
theorem gX10_sizeOf_X10_partOf : GoodIn wsX10_sizeOf (va_wsS RX10 205 yX10_partOf wsX10_partOf) := goodIn_app (goodIn_of _ (by decide +kernel)) ggX10_sizeOf_X10_partOf
theorem dX10_sizeOf_0 : decode cX10_sizeOf 0 = .ok (.iload_n 0, 1) := by decide +kernel
theorem dX10_sizeOf_1 : decode cX10_sizeOf 1 = .ok (.iconst 0, 1) := by decide +kernel
theorem dX10_sizeOf_2 : decode cX10_sizeOf 2 = .ok (.invokestatic 205, 3) := by decide +kernel
theorem dX10_sizeOf_5 : decode cX10_sizeOf 5 = .ok (.iload_n 0, 1) := by decide +kernel
theorem dX10_sizeOf_6 : decode cX10_sizeOf 6 = .ok (.iconst 1, 1) := by decide +kernel
theorem dX10_sizeOf_7 : decode cX10_sizeOf 7 = .ok (.invokestatic 205, 3) := by decide +kernel
theorem dX10_sizeOf_10 : decode cX10_sizeOf 10 = .ok (.iadd, 1) := by decide +kernel
theorem dX10_sizeOf_11 : decode cX10_sizeOf 11 = .ok (.iload_n 0, 1) := by decide +kernel
theorem dX10_sizeOf_12 : decode cX10_sizeOf 12 = .ok (.iconst 2, 1) := by decide +kernel
theorem dX10_sizeOf_13 : decode cX10_sizeOf 13 = .ok (.invokestatic 205, 3) := by decide +kernel
theorem dX10_sizeOf_16 : decode cX10_sizeOf 16 = .ok (.iadd, 1) := by decide +kernel
theorem dX10_sizeOf_17 : decode cX10_sizeOf 17 = .ok (.iload_n 0, 1) := by decide +kernel
theorem dX10_sizeOf_18 : decode cX10_sizeOf 18 = .ok (.iconst 3, 1) := by decide +kernel
theorem dX10_sizeOf_19 : decode cX10_sizeOf 19 = .ok (.invokestatic 205, 3) := by decide +kernel
theorem dX10_sizeOf_22 : decode cX10_sizeOf 22 = .ok (.iadd, 1) := by decide +kernel
theorem dX10_sizeOf_23 : decode cX10_sizeOf 23 = .ok (.ireturn, 1) := by decide +kernel
theorem dX10_sets_0 : decode cX10_sets 0 = .ok (.iload_n 1, 1) := by decide +kernel
theorem dX10_sets_1 : decode cX10_sets 1 = .ok (.iload_n 0, 1) := by decide +kernel
theorem dX10_sets_2 : decode cX10_sets 2 = .ok (.if_icmp .le 5, 3) := by decide +kernel
theorem dX10_sets_5 : decode cX10_sets 5 = .ok (.lconst 0, 1) := by decide +kernel
theorem dX10_sets_6 : decode cX10_sets 6 = .ok (.lreturn, 1) := by decide +kernel
theorem dX10_sets_7 : decode cX10_sets 7 = .ok (.lconst 1, 1) := by decide +kernel
theorem dX10_sets_8 : decode cX10_sets 8 = .ok (.lstore_n 2, 1) := by decide +kernel
theorem dX10_sets_9 : decode cX10_sets 9 = .ok (.iconst 1, 1) := by decide +kernel
theorem dX10_sets_10 : decode cX10_sets 10 = .ok (.istore 4, 2) := by decide +kernel
theorem dX10_sets_12 : decode cX10_sets 12 = .ok (.iload 4, 2) := by decide +kernel
theorem dX10_sets_14 : decode cX10_sets 14 = .ok (.iload_n 1, 1) := by decide +kernel
theorem dX10_sets_15 : decode cX10_sets 15 = .ok (.if_icmp .gt 43, 3) := by decide +kernel
theorem dX10_sets_18 : decode cX10_sets 18 = .ok (.lload_n 2, 1) := by decide +kernel
theorem dX10_sets_19 : decode cX10_sets 19 = .ok (.ldc2_w 209, 3) := by decide +kernel
theorem dX10_sets_22 : decode cX10_sets 22 = .ok (.iload_n 0, 1) := by decide +kernel
theorem dX10_sets_23 : decode cX10_sets 23 = .ok (.iload_n 1, 1) := by decide +kernel
theorem dX10_sets_24 : decode cX10_sets 24 = .ok (.isub, 1) := by decide +kernel
theorem dX10_sets_25 : decode cX10_sets 25 = .ok (.iload 4, 2) := by decide +kernel
theorem dX10_sets_27 : decode cX10_sets 27 = .ok (.iadd, 1) := by decide +kernel
theorem dX10_sets_28 : decode cX10_sets 28 = .ok (.i2l, 1) := by decide +kernel
theorem dX10_sets_29 : decode cX10_sets 29 = .ok (.ldiv, 1) := by decide +kernel
theorem dX10_sets_30 : decode cX10_sets 30 = .ok (.lcmp, 1) := by decide +kernel
theorem dX10_sets_31 : decode cX10_sets 31 = .ok (.ifCond .le 7, 3) := by decide +kernel
theorem dX10_sets_34 : decode cX10_sets 34 = .ok (.ldc2_w 211, 3) := by decide +kernel
theorem dX10_sets_37 : decode cX10_sets 37 = .ok (.lreturn, 1) := by decide +kernel
theorem dX10_sets_38 : decode cX10_sets 38 = .ok (.lload_n 2, 1) := by decide +kernel
theorem dX10_sets_39 : decode cX10_sets 39 = .ok (.iload_n 0, 1) := by decide +kernel
theorem dX10_sets_40 : decode cX10_sets 40 = .ok (.iload_n 1, 1) := by decide +kernel
theorem dX10_sets_41 : decode cX10_sets 41 = .ok (.isub, 1) := by decide +kernel
theorem dX10_sets_42 : decode cX10_sets 42 = .ok (.iload 4, 2) := by decide +kernel
theorem dX10_sets_44 : decode cX10_sets 44 = .ok (.iadd, 1) := by decide +kernel
theorem dX10_sets_45 : decode cX10_sets 45 = .ok (.i2l, 1) := by decide +kernel
theorem dX10_sets_46 : decode cX10_sets 46 = .ok (.lmul, 1) := by decide +kernel
theorem dX10_sets_47 : decode cX10_sets 47 = .ok (.iload 4, 2) := by decide +kernel
theorem dX10_sets_49 : decode cX10_sets 49 = .ok (.i2l, 1) := by decide +kernel
theorem dX10_sets_50 : decode cX10_sets 50 = .ok (.ldiv, 1) := by decide +kernel
theorem dX10_sets_51 : decode cX10_sets 51 = .ok (.lstore_n 2, 1) := by decide +kernel
theorem dX10_sets_52 : decode cX10_sets 52 = .ok (.iinc 4 1, 3) := by decide +kernel
theorem dX10_sets_55 : decode cX10_sets 55 = .ok (.goto (-43), 3) := by decide +kernel
theorem dX10_sets_58 : decode cX10_sets 58 = .ok (.lload_n 2, 1) := by decide +kernel
theorem dX10_sets_59 : decode cX10_sets 59 = .ok (.ldc2_w 213, 3) := by decide +kernel
theorem dX10_sets_62 : decode cX10_sets 62 = .ok (.lcmp, 1) := by decide +kernel
theorem dX10_sets_63 : decode cX10_sets 63 = .ok (.ifCond .le 9, 3) := by decide +kernel
theorem dX10_sets_66 : decode cX10_sets 66 = .ok (.ldc2_w 211, 3) := by decide +kernel
theorem dX10_sets_69 : decode cX10_sets 69 = .ok (.goto 4, 3) := by decide +kernel
theorem dX10_sets_72 : decode cX10_sets 72 = .ok (.lload_n 2, 1) := by decide +kernel
theorem dX10_sets_73 : decode cX10_sets 73 = .ok (.lreturn, 1) := by decide +kernel
theorem dX10_times_0 : decode cX10_times 0 = .ok (.lload_n 0, 1) := by decide +kernel
theorem dX10_times_1 : decode cX10_times 1 = .ok (.lconst 0, 1) := by decide +kernel
theorem dX10_times_2 : decode cX10_times 2 = .ok (.lcmp, 1) := by decide +kernel
theorem dX10_times_3 : decode cX10_times 3 = .ok (.ifCond .eq 9, 3) := by decide +kernel
theorem dX10_times_6 : decode cX10_times 6 = .ok (.lload_n 2, 1) := by decide +kernel
theorem dX10_times_7 : decode cX10_times 7 = .ok (.lconst 0, 1) := by decide +kernel
theorem dX10_times_8 : decode cX10_times 8 = .ok (.lcmp, 1) := by decide +kernel
theorem dX10_times_9 : decode cX10_times 9 = .ok (.ifCond .ne 5, 3) := by decide +kernel
theorem dX10_times_12 : decode cX10_times 12 = .ok (.lconst 0, 1) := by decide +kernel
theorem dX10_times_13 : decode cX10_times 13 = .ok (.lreturn, 1) := by decide +kernel
theorem dX10_times_14 : decode cX10_times 14 = .ok (.lload_n 0, 1) := by decide +kernel
theorem dX10_times_15 : decode cX10_times 15 = .ok (.ldc2_w 213, 3) := by decide +kernel
theorem dX10_times_18 : decode cX10_times 18 = .ok (.lload_n 2, 1) := by decide +kernel
theorem dX10_times_19 : decode cX10_times 19 = .ok (.ldiv, 1) := by decide +kernel
theorem dX10_times_20 : decode cX10_times 20 = .ok (.lcmp, 1) := by decide +kernel
theorem dX10_times_21 : decode cX10_times 21 = .ok (.ifCond .le 9, 3) := by decide +kernel
theorem dX10_times_24 : decode cX10_times 24 = .ok (.ldc2_w 211, 3) := by decide +kernel
theorem dX10_times_27 : decode cX10_times 27 = .ok (.goto 6, 3) := by decide +kernel
theorem dX10_times_30 : decode cX10_times 30 = .ok (.lload_n 0, 1) := by decide +kernel
theorem dX10_times_31 : decode cX10_times 31 = .ok (.lload_n 2, 1) := by decide +kernel
theorem dX10_times_32 : decode cX10_times 32 = .ok (.lmul, 1) := by decide +kernel
theorem dX10_times_33 : decode cX10_times 33 = .ok (.lreturn, 1) := by decide +kernel
theorem dX10_comes_0 : decode cX10_comes 0 = .ok (.iconst 0, 1) := by decide +kernel
theorem dX10_comes_1 : decode cX10_comes 1 = .ok (.istore 4, 2) := by decide +kernel
theorem dX10_comes_3 : decode cX10_comes 3 = .ok (.iload 4, 2) := by decide +kernel
theorem dX10_comes_5 : decode cX10_comes 5 = .ok (.aload_n 0, 1) := by decide +kernel
theorem dX10_comes_6 : decode cX10_comes 6 = .ok (.getfield 215, 3) := by decide +kernel
theorem dX10_comes_9 : decode cX10_comes 9 = .ok (.if_icmp .ge 20, 3) := by decide +kernel
theorem dX10_comes_12 : decode cX10_comes 12 = .ok (.aload_n 0, 1) := by decide +kernel
theorem dX10_comes_13 : decode cX10_comes 13 = .ok (.getfield 86, 3) := by decide +kernel
theorem dX10_comes_16 : decode cX10_comes 16 = .ok (.iload 4, 2) := by decide +kernel
theorem dX10_comes_18 : decode cX10_comes 18 = .ok (.iaload, 1) := by decide +kernel
theorem dX10_comes_19 : decode cX10_comes 19 = .ok (.iload_n 1, 1) := by decide +kernel
theorem dX10_comes_20 : decode cX10_comes 20 = .ok (.if_icmp .eq 9, 3) := by decide +kernel
theorem dX10_comes_23 : decode cX10_comes 23 = .ok (.iinc 4 1, 3) := by decide +kernel
theorem dX10_comes_26 : decode cX10_comes 26 = .ok (.goto (-23), 3) := by decide +kernel
theorem dX10_comes_29 : decode cX10_comes 29 = .ok (.iload 4, 2) := by decide +kernel
theorem dX10_comes_31 : decode cX10_comes 31 = .ok (.aload_n 0, 1) := by decide +kernel
theorem dX10_comes_32 : decode cX10_comes 32 = .ok (.getfield 215, 3) := by decide +kernel
theorem dX10_comes_35 : decode cX10_comes 35 = .ok (.if_icmp .ne 41, 3) := by decide +kernel
theorem dX10_comes_38 : decode cX10_comes 38 = .ok (.aload_n 0, 1) := by decide +kernel
theorem dX10_comes_39 : decode cX10_comes 39 = .ok (.getfield 215, 3) := by decide +kernel
theorem dX10_comes_42 : decode cX10_comes 42 = .ok (.sipush 600, 3) := by decide +kernel
theorem dX10_comes_45 : decode cX10_comes 45 = .ok (.if_icmp .ne 5, 3) := by decide +kernel
theorem dX10_comes_48 : decode cX10_comes 48 = .ok (.iconst 0, 1) := by decide +kernel
theorem dX10_comes_49 : decode cX10_comes 49 = .ok (.ireturn, 1) := by decide +kernel
theorem dX10_comes_50 : decode cX10_comes 50 = .ok (.aload_n 0, 1) := by decide +kernel
theorem dX10_comes_51 : decode cX10_comes 51 = .ok (.getfield 86, 3) := by decide +kernel
theorem dX10_comes_54 : decode cX10_comes 54 = .ok (.iload 4, 2) := by decide +kernel
theorem dX10_comes_56 : decode cX10_comes 56 = .ok (.iload_n 1, 1) := by decide +kernel
theorem dX10_comes_57 : decode cX10_comes 57 = .ok (.iastore, 1) := by decide +kernel
theorem dX10_comes_58 : decode cX10_comes 58 = .ok (.aload_n 0, 1) := by decide +kernel
theorem dX10_comes_59 : decode cX10_comes 59 = .ok (.getfield 89, 3) := by decide +kernel
theorem dX10_comes_62 : decode cX10_comes 62 = .ok (.iload 4, 2) := by decide +kernel
theorem dX10_comes_64 : decode cX10_comes 64 = .ok (.lconst 0, 1) := by decide +kernel
theorem dX10_comes_65 : decode cX10_comes 65 = .ok (.lastore, 1) := by decide +kernel
theorem dX10_comes_66 : decode cX10_comes 66 = .ok (.aload_n 0, 1) := by decide +kernel
theorem dX10_comes_67 : decode cX10_comes 67 = .ok (.dup, 1) := by decide +kernel
theorem dX10_comes_68 : decode cX10_comes 68 = .ok (.getfield 215, 3) := by decide +kernel
theorem dX10_comes_71 : decode cX10_comes 71 = .ok (.iconst 1, 1) := by decide +kernel
theorem dX10_comes_72 : decode cX10_comes 72 = .ok (.iadd, 1) := by decide +kernel
theorem dX10_comes_73 : decode cX10_comes 73 = .ok (.putfield 215, 3) := by decide +kernel
theorem dX10_comes_76 : decode cX10_comes 76 = .ok (.aload_n 0, 1) := by decide +kernel
theorem dX10_comes_77 : decode cX10_comes 77 = .ok (.getfield 89, 3) := by decide +kernel
theorem dX10_comes_80 : decode cX10_comes 80 = .ok (.iload 4, 2) := by decide +kernel
theorem dX10_comes_82 : decode cX10_comes 82 = .ok (.dup2, 1) := by decide +kernel
theorem dX10_comes_83 : decode cX10_comes 83 = .ok (.laload, 1) := by decide +kernel
theorem dX10_comes_84 : decode cX10_comes 84 = .ok (.lload_n 2, 1) := by decide +kernel
theorem dX10_comes_85 : decode cX10_comes 85 = .ok (.ladd, 1) := by decide +kernel
theorem dX10_comes_86 : decode cX10_comes 86 = .ok (.lastore, 1) := by decide +kernel
theorem dX10_comes_87 : decode cX10_comes 87 = .ok (.iconst 1, 1) := by decide +kernel
theorem dX10_comes_88 : decode cX10_comes 88 = .ok (.ireturn, 1) := by decide +kernel
set_option maxRecDepth 20000 in
theorem ggX10_drawn_X10_partOf : GoodIn wsX10_drawn wsX10_partOf := goodIn_r _ [4] (by decide +kernel) (by decide +kernel)
set_option maxRecDepth 20000 in
theorem gX10_drawn_X10_partOf : GoodIn wsX10_drawn (va_wsS RX10 205 yX10_partOf wsX10_partOf) := goodIn_app (goodIn_of _ (by decide +kernel)) ggX10_drawn_X10_partOf
set_option maxRecDepth 20000 in
theorem ggX10_drawn_X10_sets : GoodIn wsX10_drawn wsX10_sets := goodIn_r _ [7, 8, 9, 10] (by decide +kernel) (by decide +kernel)
set_option maxRecDepth 20000 in
theorem gX10_drawn_X10_sets : GoodIn wsX10_drawn (va_wsS RX10 218 yX10_sets wsX10_sets) := goodIn_app (goodIn_of _ (by decide +kernel)) ggX10_drawn_X10_sets
set_option maxRecDepth 20000 in
theorem ggX10_drawn_X10_times : GoodIn wsX10_drawn wsX10_times := goodIn_r _ [13, 10, 9] (by decide +kernel) (by decide +kernel)
set_option maxRecDepth 20000 in
theorem gX10_drawn_X10_times : GoodIn wsX10_drawn (va_wsS RX10 222 yX10_times wsX10_times) := goodIn_app (goodIn_of _ (by decide +kernel)) ggX10_drawn_X10_times
set_option maxRecDepth 20000 in
theorem ggX10_drawn_X10_comes : GoodIn wsX10_drawn wsX10_comes := goodIn_r _ [17, 18, 19, 20, 21, 22, 23, 24, 25, 26, 27, 28, 29, 30, 31, 32, 33, 34, 35, 36, 37, 38, 39, 40, 41, 42, 43, 44, 45, 46, 47, 48, 49, 50, 51, 52, 53, 54, 55, 56, 57, 58, 59, 60, 61, 62, 63, 64, 65, 66, 67, 68, 69, 70] (by decide +kernel) (by decide +kernel)
set_option maxRecDepth 20000 in
theorem gX10_drawn_X10_comes : GoodIn wsX10_drawn (wsV RX10 226 RX10 yX10_comes wsX10_comes) := goodIn_app (goodIn_of _ (by decide +kernel)) ggX10_drawn_X10_comes
theorem dX10_drawn_0 : decode cX10_drawn 0 = .ok (.iconst 0, 1) := by decide +kernel
theorem dX10_drawn_1 : decode cX10_drawn 1 = .ok (.istore 5, 2) := by decide +kernel
theorem dX10_drawn_3 : decode cX10_drawn 3 = .ok (.iload 5, 2) := by decide +kernel
theorem dX10_drawn_5 : decode cX10_drawn 5 = .ok (.iload_n 1, 1) := by decide +kernel
theorem dX10_drawn_6 : decode cX10_drawn 6 = .ok (.iconst 0, 1) := by decide +kernel
theorem dX10_drawn_7 : decode cX10_drawn 7 = .ok (.invokestatic 205, 3) := by decide +kernel
theorem dX10_drawn_10 : decode cX10_drawn 10 = .ok (.if_icmp .gt 189, 3) := by decide +kernel
theorem dX10_drawn_13 : decode cX10_drawn 13 = .ok (.iload 5, 2) := by decide +kernel
theorem dX10_drawn_15 : decode cX10_drawn 15 = .ok (.iload 4, 2) := by decide +kernel
theorem dX10_drawn_17 : decode cX10_drawn 17 = .ok (.if_icmp .gt 182, 3) := by decide +kernel
theorem dX10_drawn_20 : decode cX10_drawn 20 = .ok (.iconst 0, 1) := by decide +kernel
theorem dX10_drawn_21 : decode cX10_drawn 21 = .ok (.istore 6, 2) := by decide +kernel
theorem dX10_drawn_23 : decode cX10_drawn 23 = .ok (.iload 6, 2) := by decide +kernel
theorem dX10_drawn_25 : decode cX10_drawn 25 = .ok (.iload_n 1, 1) := by decide +kernel
theorem dX10_drawn_26 : decode cX10_drawn 26 = .ok (.iconst 1, 1) := by decide +kernel
theorem dX10_drawn_27 : decode cX10_drawn 27 = .ok (.invokestatic 205, 3) := by decide +kernel
theorem dX10_drawn_30 : decode cX10_drawn 30 = .ok (.if_icmp .gt 163, 3) := by decide +kernel
theorem dX10_drawn_33 : decode cX10_drawn 33 = .ok (.iload 5, 2) := by decide +kernel
theorem dX10_drawn_35 : decode cX10_drawn 35 = .ok (.iload 6, 2) := by decide +kernel
theorem dX10_drawn_37 : decode cX10_drawn 37 = .ok (.iadd, 1) := by decide +kernel
theorem dX10_drawn_38 : decode cX10_drawn 38 = .ok (.iload 4, 2) := by decide +kernel
theorem dX10_drawn_40 : decode cX10_drawn 40 = .ok (.if_icmp .gt 153, 3) := by decide +kernel
theorem dX10_drawn_43 : decode cX10_drawn 43 = .ok (.iconst 0, 1) := by decide +kernel
theorem dX10_drawn_44 : decode cX10_drawn 44 = .ok (.istore 7, 2) := by decide +kernel
theorem dX10_drawn_46 : decode cX10_drawn 46 = .ok (.iload 7, 2) := by decide +kernel
theorem dX10_drawn_48 : decode cX10_drawn 48 = .ok (.iload_n 1, 1) := by decide +kernel
theorem dX10_drawn_49 : decode cX10_drawn 49 = .ok (.iconst 2, 1) := by decide +kernel
theorem dX10_drawn_50 : decode cX10_drawn 50 = .ok (.invokestatic 205, 3) := by decide +kernel
theorem dX10_drawn_53 : decode cX10_drawn 53 = .ok (.if_icmp .gt 134, 3) := by decide +kernel
theorem dX10_drawn_56 : decode cX10_drawn 56 = .ok (.iload 5, 2) := by decide +kernel
theorem dX10_drawn_58 : decode cX10_drawn 58 = .ok (.iload 6, 2) := by decide +kernel
theorem dX10_drawn_60 : decode cX10_drawn 60 = .ok (.iadd, 1) := by decide +kernel
theorem dX10_drawn_61 : decode cX10_drawn 61 = .ok (.iload 7, 2) := by decide +kernel
theorem dX10_drawn_63 : decode cX10_drawn 63 = .ok (.iadd, 1) := by decide +kernel
theorem dX10_drawn_64 : decode cX10_drawn 64 = .ok (.iload 4, 2) := by decide +kernel
theorem dX10_drawn_66 : decode cX10_drawn 66 = .ok (.if_icmp .gt 121, 3) := by decide +kernel
theorem dX10_drawn_69 : decode cX10_drawn 69 = .ok (.iload 4, 2) := by decide +kernel
theorem dX10_drawn_71 : decode cX10_drawn 71 = .ok (.iload 5, 2) := by decide +kernel
theorem dX10_drawn_73 : decode cX10_drawn 73 = .ok (.isub, 1) := by decide +kernel
theorem dX10_drawn_74 : decode cX10_drawn 74 = .ok (.iload 6, 2) := by decide +kernel
theorem dX10_drawn_76 : decode cX10_drawn 76 = .ok (.isub, 1) := by decide +kernel
