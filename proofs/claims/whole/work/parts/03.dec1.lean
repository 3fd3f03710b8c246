theorem dX0_init_0 : decode cX0_init 0 = .ok (.aload_n 0, 1) := by decide +kernel
theorem dX0_init_1 : decode cX0_init 1 = .ok (.invokespecial 3, 3) := by decide +kernel
theorem dX0_init_4 : decode cX0_init 4 = .ok (.aload_n 0, 1) := by decide +kernel
theorem dX0_init_5 : decode cX0_init 5 = .ok (.bipush 14, 2) := by decide +kernel
theorem dX0_init_7 : decode cX0_init 7 = .ok (.newarray .int, 2) := by decide +kernel
theorem dX0_init_9 : decode cX0_init 9 = .ok (.putfield 9, 3) := by decide +kernel
theorem dX0_init_12 : decode cX0_init 12 = .ok (.aload_n 0, 1) := by decide +kernel
theorem dX0_init_13 : decode cX0_init 13 = .ok (.bipush 14, 2) := by decide +kernel
theorem dX0_init_15 : decode cX0_init 15 = .ok (.newarray .int, 2) := by decide +kernel
theorem dX0_init_17 : decode cX0_init 17 = .ok (.putfield 15, 3) := by decide +kernel
theorem dX0_init_20 : decode cX0_init 20 = .ok (.aload_n 0, 1) := by decide +kernel
theorem dX0_init_21 : decode cX0_init 21 = .ok (.bipush 14, 2) := by decide +kernel
theorem dX0_init_23 : decode cX0_init 23 = .ok (.newarray .int, 2) := by decide +kernel
theorem dX0_init_25 : decode cX0_init 25 = .ok (.putfield 18, 3) := by decide +kernel
theorem dX0_init_28 : decode cX0_init 28 = .ok (.aload_n 0, 1) := by decide +kernel
theorem dX0_init_29 : decode cX0_init 29 = .ok (.bipush 14, 2) := by decide +kernel
theorem dX0_init_31 : decode cX0_init 31 = .ok (.bipush 96, 2) := by decide +kernel
theorem dX0_init_33 : decode cX0_init 33 = .ok (.multianewarray 21 2, 4) := by decide +kernel
theorem dX0_init_37 : decode cX0_init 37 = .ok (.putfield 23, 3) := by decide +kernel
theorem dX0_init_40 : decode cX0_init 40 = .ok (.aload_n 0, 1) := by decide +kernel
theorem dX0_init_41 : decode cX0_init 41 = .ok (.bipush 96, 2) := by decide +kernel
theorem dX0_init_43 : decode cX0_init 43 = .ok (.newarray .int, 2) := by decide +kernel
theorem dX0_init_45 : decode cX0_init 45 = .ok (.putfield 26, 3) := by decide +kernel
theorem dX0_init_48 : decode cX0_init 48 = .ok (.return_, 1) := by decide +kernel
theorem dX0_write_0 : decode cX0_write 0 = .ok (.aload_n 0, 1) := by decide +kernel
theorem dX0_write_1 : decode cX0_write 1 = .ok (.getfield 9, 3) := by decide +kernel
theorem dX0_write_4 : decode cX0_write 4 = .ok (.iload_n 1, 1) := by decide +kernel
theorem dX0_write_5 : decode cX0_write 5 = .ok (.aload_n 2, 1) := by decide +kernel
theorem dX0_write_6 : decode cX0_write 6 = .ok (.getfield 29, 3) := by decide +kernel
theorem dX0_write_9 : decode cX0_write 9 = .ok (.iastore, 1) := by decide +kernel
theorem dX0_write_10 : decode cX0_write 10 = .ok (.aload_n 0, 1) := by decide +kernel
theorem dX0_write_11 : decode cX0_write 11 = .ok (.getfield 15, 3) := by decide +kernel
theorem dX0_write_14 : decode cX0_write 14 = .ok (.iload_n 1, 1) := by decide +kernel
theorem dX0_write_15 : decode cX0_write 15 = .ok (.aload_n 2, 1) := by decide +kernel
theorem dX0_write_16 : decode cX0_write 16 = .ok (.getfield 34, 3) := by decide +kernel
theorem dX0_write_19 : decode cX0_write 19 = .ok (.iastore, 1) := by decide +kernel
theorem dX0_write_20 : decode cX0_write 20 = .ok (.aload_n 0, 1) := by decide +kernel
theorem dX0_write_21 : decode cX0_write 21 = .ok (.getfield 18, 3) := by decide +kernel
theorem dX0_write_24 : decode cX0_write 24 = .ok (.iload_n 1, 1) := by decide +kernel
theorem dX0_write_25 : decode cX0_write 25 = .ok (.aload_n 2, 1) := by decide +kernel
theorem dX0_write_26 : decode cX0_write 26 = .ok (.getfield 36, 3) := by decide +kernel
theorem dX0_write_29 : decode cX0_write 29 = .ok (.iastore, 1) := by decide +kernel
theorem dX0_write_30 : decode cX0_write 30 = .ok (.aload_n 2, 1) := by decide +kernel
theorem dX0_write_31 : decode cX0_write 31 = .ok (.getfield 39, 3) := by decide +kernel
theorem dX0_write_34 : decode cX0_write 34 = .ok (.iconst 0, 1) := by decide +kernel
theorem dX0_write_35 : decode cX0_write 35 = .ok (.aload_n 0, 1) := by decide +kernel
theorem dX0_write_36 : decode cX0_write 36 = .ok (.getfield 23, 3) := by decide +kernel
theorem dX0_write_39 : decode cX0_write 39 = .ok (.iload_n 1, 1) := by decide +kernel
theorem dX0_write_40 : decode cX0_write 40 = .ok (.aaload, 1) := by decide +kernel
theorem dX0_write_41 : decode cX0_write 41 = .ok (.iconst 0, 1) := by decide +kernel
theorem dX0_write_42 : decode cX0_write 42 = .ok (.aload_n 2, 1) := by decide +kernel
theorem dX0_write_43 : decode cX0_write 43 = .ok (.getfield 36, 3) := by decide +kernel
theorem dX0_write_46 : decode cX0_write 46 = .ok (.invokestatic 41, 3) := by decide +kernel
theorem dX0_write_49 : decode cX0_write 49 = .ok (.return_, 1) := by decide +kernel
theorem dX0_workOut_0 : decode cX0_workOut 0 = .ok (.aload_n 0, 1) := by decide +kernel
theorem dX0_workOut_1 : decode cX0_workOut 1 = .ok (.getfield 23, 3) := by decide +kernel
theorem dX0_workOut_4 : decode cX0_workOut 4 = .ok (.iload_n 1, 1) := by decide +kernel
theorem dX0_workOut_5 : decode cX0_workOut 5 = .ok (.aaload, 1) := by decide +kernel
theorem dX0_workOut_6 : decode cX0_workOut 6 = .ok (.astore 5, 2) := by decide +kernel
theorem dX0_workOut_8 : decode cX0_workOut 8 = .ok (.iconst 0, 1) := by decide +kernel
theorem dX0_workOut_9 : decode cX0_workOut 9 = .ok (.istore 6, 2) := by decide +kernel
theorem dX0_workOut_11 : decode cX0_workOut 11 = .ok (.iconst 0, 1) := by decide +kernel
theorem dX0_workOut_12 : decode cX0_workOut 12 = .ok (.istore 7, 2) := by decide +kernel
theorem dX0_workOut_14 : decode cX0_workOut 14 = .ok (.iload 7, 2) := by decide +kernel
theorem dX0_workOut_16 : decode cX0_workOut 16 = .ok (.aload_n 0, 1) := by decide +kernel
theorem dX0_workOut_17 : decode cX0_workOut 17 = .ok (.getfield 18, 3) := by decide +kernel
theorem dX0_workOut_20 : decode cX0_workOut 20 = .ok (.iload_n 1, 1) := by decide +kernel
theorem dX0_workOut_21 : decode cX0_workOut 21 = .ok (.iaload, 1) := by decide +kernel
theorem dX0_workOut_22 : decode cX0_workOut 22 = .ok (.if_icmp .ge 134, 3) := by decide +kernel
theorem dX0_workOut_25 : decode cX0_workOut 25 = .ok (.aload 5, 2) := by decide +kernel
theorem dX0_workOut_27 : decode cX0_workOut 27 = .ok (.iload 7, 2) := by decide +kernel
theorem dX0_workOut_29 : decode cX0_workOut 29 = .ok (.iaload, 1) := by decide +kernel
theorem dX0_workOut_30 : decode cX0_workOut 30 = .ok (.istore 8, 2) := by decide +kernel
theorem dX0_workOut_32 : decode cX0_workOut 32 = .ok (.iload 8, 2) := by decide +kernel
theorem dX0_workOut_34 : decode cX0_workOut 34 = .ok (.bipush (-3), 2) := by decide +kernel
theorem dX0_workOut_36 : decode cX0_workOut 36 = .ok (.if_icmp .lt 32, 3) := by decide +kernel
theorem dX0_workOut_39 : decode cX0_workOut 39 = .ok (.iload 6, 2) := by decide +kernel
theorem dX0_workOut_41 : decode cX0_workOut 41 = .ok (.bipush 96, 2) := by decide +kernel
theorem dX0_workOut_43 : decode cX0_workOut 43 = .ok (.if_icmp .ge 107, 3) := by decide +kernel
theorem dX0_workOut_46 : decode cX0_workOut 46 = .ok (.aload_n 0, 1) := by decide +kernel
theorem dX0_workOut_47 : decode cX0_workOut 47 = .ok (.getfield 26, 3) := by decide +kernel
theorem dX0_workOut_50 : decode cX0_workOut 50 = .ok (.iload 6, 2) := by decide +kernel
theorem dX0_workOut_52 : decode cX0_workOut 52 = .ok (.iload 8, 2) := by decide +kernel
theorem dX0_workOut_54 : decode cX0_workOut 54 = .ok (.iload_n 2, 1) := by decide +kernel
theorem dX0_workOut_55 : decode cX0_workOut 55 = .ok (.iload_n 3, 1) := by decide +kernel
theorem dX0_workOut_56 : decode cX0_workOut 56 = .ok (.iload 4, 2) := by decide +kernel
theorem dX0_workOut_58 : decode cX0_workOut 58 = .ok (.invokestatic 47, 3) := by decide +kernel
theorem dX0_workOut_61 : decode cX0_workOut 61 = .ok (.iastore, 1) := by decide +kernel
theorem dX0_workOut_62 : decode cX0_workOut 62 = .ok (.iinc 6 1, 3) := by decide +kernel
theorem dX0_workOut_65 : decode cX0_workOut 65 = .ok (.goto 85, 3) := by decide +kernel
theorem dX0_workOut_68 : decode cX0_workOut 68 = .ok (.iload 8, 2) := by decide +kernel
theorem dX0_workOut_70 : decode cX0_workOut 70 = .ok (.bipush (-33), 2) := by decide +kernel
theorem dX0_workOut_72 : decode cX0_workOut 72 = .ok (.if_icmp .ne 38, 3) := by decide +kernel
theorem dX0_workOut_75 : decode cX0_workOut 75 = .ok (.iload 6, 2) := by decide +kernel
theorem dX0_workOut_77 : decode cX0_workOut 77 = .ok (.iconst 1, 1) := by decide +kernel
theorem dX0_workOut_78 : decode cX0_workOut 78 = .ok (.if_icmp .lt 72, 3) := by decide +kernel
theorem dX0_workOut_81 : decode cX0_workOut 81 = .ok (.aload_n 0, 1) := by decide +kernel
theorem dX0_workOut_82 : decode cX0_workOut 82 = .ok (.getfield 26, 3) := by decide +kernel
theorem dX0_workOut_85 : decode cX0_workOut 85 = .ok (.iload 6, 2) := by decide +kernel
theorem dX0_workOut_87 : decode cX0_workOut 87 = .ok (.iconst 1, 1) := by decide +kernel
theorem dX0_workOut_88 : decode cX0_workOut 88 = .ok (.isub, 1) := by decide +kernel
theorem dX0_workOut_89 : decode cX0_workOut 89 = .ok (.aload_n 0, 1) := by decide +kernel
theorem dX0_workOut_90 : decode cX0_workOut 90 = .ok (.getfield 26, 3) := by decide +kernel
theorem dX0_workOut_93 : decode cX0_workOut 93 = .ok (.iload 6, 2) := by decide +kernel
theorem dX0_workOut_95 : decode cX0_workOut 95 = .ok (.iconst 1, 1) := by decide +kernel
theorem dX0_workOut_96 : decode cX0_workOut 96 = .ok (.isub, 1) := by decide +kernel
theorem dX0_workOut_97 : decode cX0_workOut 97 = .ok (.iaload, 1) := by decide +kernel
theorem dX0_workOut_98 : decode cX0_workOut 98 = .ok (.ifCond .ne 7, 3) := by decide +kernel
theorem dX0_workOut_101 : decode cX0_workOut 101 = .ok (.iconst 1, 1) := by decide +kernel
theorem dX0_workOut_102 : decode cX0_workOut 102 = .ok (.goto 4, 3) := by decide +kernel
theorem dX0_workOut_105 : decode cX0_workOut 105 = .ok (.iconst 0, 1) := by decide +kernel
theorem dX0_workOut_106 : decode cX0_workOut 106 = .ok (.iastore, 1) := by decide +kernel
theorem dX0_workOut_107 : decode cX0_workOut 107 = .ok (.goto 43, 3) := by decide +kernel
theorem dX0_workOut_110 : decode cX0_workOut 110 = .ok (.iload 6, 2) := by decide +kernel
theorem dX0_workOut_112 : decode cX0_workOut 112 = .ok (.iconst 2, 1) := by decide +kernel
theorem dX0_workOut_113 : decode cX0_workOut 113 = .ok (.if_icmp .lt 37, 3) := by decide +kernel
theorem dX0_workOut_116 : decode cX0_workOut 116 = .ok (.iinc 6 (-1), 3) := by decide +kernel
theorem dX0_workOut_119 : decode cX0_workOut 119 = .ok (.aload_n 0, 1) := by decide +kernel
theorem dX0_workOut_120 : decode cX0_workOut 120 = .ok (.getfield 26, 3) := by decide +kernel
theorem dX0_workOut_123 : decode cX0_workOut 123 = .ok (.iload 6, 2) := by decide +kernel
theorem dX0_workOut_125 : decode cX0_workOut 125 = .ok (.iconst 1, 1) := by decide +kernel
theorem dX0_workOut_126 : decode cX0_workOut 126 = .ok (.isub, 1) := by decide +kernel
theorem dX0_workOut_127 : decode cX0_workOut 127 = .ok (.iload 8, 2) := by decide +kernel
theorem dX0_workOut_129 : decode cX0_workOut 129 = .ok (.ineg, 1) := by decide +kernel
theorem dX0_workOut_130 : decode cX0_workOut 130 = .ok (.aload_n 0, 1) := by decide +kernel
theorem dX0_workOut_131 : decode cX0_workOut 131 = .ok (.getfield 26, 3) := by decide +kernel
theorem dX0_workOut_134 : decode cX0_workOut 134 = .ok (.iload 6, 2) := by decide +kernel
theorem dX0_workOut_136 : decode cX0_workOut 136 = .ok (.iconst 1, 1) := by decide +kernel
theorem dX0_workOut_137 : decode cX0_workOut 137 = .ok (.isub, 1) := by decide +kernel
theorem dX0_workOut_138 : decode cX0_workOut 138 = .ok (.iaload, 1) := by decide +kernel
theorem dX0_workOut_139 : decode cX0_workOut 139 = .ok (.aload_n 0, 1) := by decide +kernel
theorem dX0_workOut_140 : decode cX0_workOut 140 = .ok (.getfield 26, 3) := by decide +kernel
theorem dX0_workOut_143 : decode cX0_workOut 143 = .ok (.iload 6, 2) := by decide +kernel
theorem dX0_workOut_145 : decode cX0_workOut 145 = .ok (.iaload, 1) := by decide +kernel
theorem dX0_workOut_146 : decode cX0_workOut 146 = .ok (.invokestatic 51, 3) := by decide +kernel
theorem dX0_workOut_149 : decode cX0_workOut 149 = .ok (.iastore, 1) := by decide +kernel
theorem dX0_workOut_150 : decode cX0_workOut 150 = .ok (.iinc 7 1, 3) := by decide +kernel
theorem dX0_workOut_153 : decode cX0_workOut 153 = .ok (.goto (-139), 3) := by decide +kernel
theorem dX0_workOut_156 : decode cX0_workOut 156 = .ok (.aload_n 0, 1) := by decide +kernel
theorem dX0_workOut_157 : decode cX0_workOut 157 = .ok (.getfield 26, 3) := by decide +kernel
theorem dX0_workOut_160 : decode cX0_workOut 160 = .ok (.iconst 0, 1) := by decide +kernel
theorem dX0_workOut_161 : decode cX0_workOut 161 = .ok (.iaload, 1) := by decide +kernel
theorem dX0_workOut_162 : decode cX0_workOut 162 = .ok (.ireturn, 1) := by decide +kernel
theorem dX0_leaf_0 : decode cX0_leaf 0 = .ok (.iload_n 0, 1) := by decide +kernel
theorem dX0_leaf_1 : decode cX0_leaf 1 = .ok (.tableswitch 33 (-3) (-1) #[31, 29, 27], 27) := by decide +kernel
theorem dX0_leaf_28 : decode cX0_leaf 28 = .ok (.iload_n 1, 1) := by decide +kernel
theorem dX0_leaf_29 : decode cX0_leaf 29 = .ok (.ireturn, 1) := by decide +kernel
theorem dX0_leaf_30 : decode cX0_leaf 30 = .ok (.iload_n 2, 1) := by decide +kernel
theorem dX0_leaf_31 : decode cX0_leaf 31 = .ok (.ireturn, 1) := by decide +kernel
theorem dX0_leaf_32 : decode cX0_leaf 32 = .ok (.iload_n 3, 1) := by decide +kernel
theorem dX0_leaf_33 : decode cX0_leaf 33 = .ok (.ireturn, 1) := by decide +kernel
theorem dX0_leaf_34 : decode cX0_leaf 34 = .ok (.iload_n 0, 1) := by decide +kernel
theorem dX0_leaf_35 : decode cX0_leaf 35 = .ok (.ireturn, 1) := by decide +kernel
theorem dX0_join_0 : decode cX0_join 0 = .ok (.iload_n 0, 1) := by decide +kernel
theorem dX0_join_1 : decode cX0_join 1 = .ok (.tableswitch 186 38 62 #[172, 186, 186, 186, 123, 115, 186, 119, 186, 127, 186, 186, 186, 186, 186, 186, 186, 186, 186, 186, 186, 186, 139, 150, 161], 115) := by decide +kernel
theorem dX0_join_116 : decode cX0_join 116 = .ok (.iload_n 1, 1) := by decide +kernel
theorem dX0_join_117 : decode cX0_join 117 = .ok (.iload_n 2, 1) := by decide +kernel
theorem dX0_join_118 : decode cX0_join 118 = .ok (.iadd, 1) := by decide +kernel
theorem dX0_join_119 : decode cX0_join 119 = .ok (.ireturn, 1) := by decide +kernel
theorem dX0_join_120 : decode cX0_join 120 = .ok (.iload_n 1, 1) := by decide +kernel
theorem dX0_join_121 : decode cX0_join 121 = .ok (.iload_n 2, 1) := by decide +kernel
theorem dX0_join_122 : decode cX0_join 122 = .ok (.isub, 1) := by decide +kernel
theorem dX0_join_123 : decode cX0_join 123 = .ok (.ireturn, 1) := by decide +kernel
theorem dX0_join_124 : decode cX0_join 124 = .ok (.iload_n 1, 1) := by decide +kernel
theorem dX0_join_125 : decode cX0_join 125 = .ok (.iload_n 2, 1) := by decide +kernel
theorem dX0_join_126 : decode cX0_join 126 = .ok (.imul, 1) := by decide +kernel
theorem dX0_join_127 : decode cX0_join 127 = .ok (.ireturn, 1) := by decide +kernel
theorem dX0_join_128 : decode cX0_join 128 = .ok (.iload_n 2, 1) := by decide +kernel
theorem dX0_join_129 : decode cX0_join 129 = .ok (.ifCond .ne 7, 3) := by decide +kernel
theorem dX0_join_132 : decode cX0_join 132 = .ok (.iconst 0, 1) := by decide +kernel
theorem dX0_join_133 : decode cX0_join 133 = .ok (.goto 6, 3) := by decide +kernel
theorem dX0_join_136 : decode cX0_join 136 = .ok (.iload_n 1, 1) := by decide +kernel
theorem dX0_join_137 : decode cX0_join 137 = .ok (.iload_n 2, 1) := by decide +kernel
theorem dX0_join_138 : decode cX0_join 138 = .ok (.idiv, 1) := by decide +kernel
theorem dX0_join_139 : decode cX0_join 139 = .ok (.ireturn, 1) := by decide +kernel
theorem dX0_join_140 : decode cX0_join 140 = .ok (.iload_n 1, 1) := by decide +kernel
theorem dX0_join_141 : decode cX0_join 141 = .ok (.iload_n 2, 1) := by decide +kernel
theorem dX0_join_142 : decode cX0_join 142 = .ok (.if_icmp .ge 7, 3) := by decide +kernel
theorem dX0_join_145 : decode cX0_join 145 = .ok (.iconst 1, 1) := by decide +kernel
theorem dX0_join_146 : decode cX0_join 146 = .ok (.goto 4, 3) := by decide +kernel
theorem dX0_join_149 : decode cX0_join 149 = .ok (.iconst 0, 1) := by decide +kernel
theorem dX0_join_150 : decode cX0_join 150 = .ok (.ireturn, 1) := by decide +kernel
theorem dX0_join_151 : decode cX0_join 151 = .ok (.iload_n 1, 1) := by decide +kernel
theorem dX0_join_152 : decode cX0_join 152 = .ok (.iload_n 2, 1) := by decide +kernel
theorem dX0_join_153 : decode cX0_join 153 = .ok (.if_icmp .ne 7, 3) := by decide +kernel
theorem dX0_join_156 : decode cX0_join 156 = .ok (.iconst 1, 1) := by decide +kernel
theorem dX0_join_157 : decode cX0_join 157 = .ok (.goto 4, 3) := by decide +kernel
theorem dX0_join_160 : decode cX0_join 160 = .ok (.iconst 0, 1) := by decide +kernel
theorem dX0_join_161 : decode cX0_join 161 = .ok (.ireturn, 1) := by decide +kernel
theorem dX0_join_162 : decode cX0_join 162 = .ok (.iload_n 1, 1) := by decide +kernel
theorem dX0_join_163 : decode cX0_join 163 = .ok (.iload_n 2, 1) := by decide +kernel
theorem dX0_join_164 : decode cX0_join 164 = .ok (.if_icmp .le 7, 3) := by decide +kernel
theorem dX0_join_167 : decode cX0_join 167 = .ok (.iconst 1, 1) := by decide +kernel
theorem dX0_join_168 : decode cX0_join 168 = .ok (.goto 4, 3) := by decide +kernel
theorem dX0_join_171 : decode cX0_join 171 = .ok (.iconst 0, 1) := by decide +kernel
theorem dX0_join_172 : decode cX0_join 172 = .ok (.ireturn, 1) := by decide +kernel
theorem dX0_join_173 : decode cX0_join 173 = .ok (.iload_n 1, 1) := by decide +kernel
theorem dX0_join_174 : decode cX0_join 174 = .ok (.ifCond .eq 11, 3) := by decide +kernel
theorem dX0_join_177 : decode cX0_join 177 = .ok (.iload_n 2, 1) := by decide +kernel
theorem dX0_join_178 : decode cX0_join 178 = .ok (.ifCond .eq 7, 3) := by decide +kernel
theorem dX0_join_181 : decode cX0_join 181 = .ok (.iconst 1, 1) := by decide +kernel
theorem dX0_join_182 : decode cX0_join 182 = .ok (.goto 4, 3) := by decide +kernel
theorem dX0_join_185 : decode cX0_join 185 = .ok (.iconst 0, 1) := by decide +kernel
theorem dX0_join_186 : decode cX0_join 186 = .ok (.ireturn, 1) := by decide +kernel
theorem dX0_join_187 : decode cX0_join 187 = .ok (.iload_n 1, 1) := by decide +kernel
theorem dX0_join_188 : decode cX0_join 188 = .ok (.ifCond .ne 7, 3) := by decide +kernel
theorem dX0_join_191 : decode cX0_join 191 = .ok (.iload_n 2, 1) := by decide +kernel
theorem dX0_join_192 : decode cX0_join 192 = .ok (.ifCond .eq 7, 3) := by decide +kernel
theorem dX0_join_195 : decode cX0_join 195 = .ok (.iconst 1, 1) := by decide +kernel
theorem dX0_join_196 : decode cX0_join 196 = .ok (.goto 4, 3) := by decide +kernel
theorem dX0_join_199 : decode cX0_join 199 = .ok (.iconst 0, 1) := by decide +kernel
theorem dX0_join_200 : decode cX0_join 200 = .ok (.ireturn, 1) := by decide +kernel
theorem dX1_init_0 : decode cX1_init 0 = .ok (.aload_n 0, 1) := by decide +kernel
theorem dX1_init_1 : decode cX1_init 1 = .ok (.invokespecial 3, 3) := by decide +kernel
theorem dX1_init_4 : decode cX1_init 4 = .ok (.aload_n 0, 1) := by decide +kernel
theorem dX1_init_5 : decode cX1_init 5 = .ok (.bipush 10, 2) := by decide +kernel
theorem dX1_init_7 : decode cX1_init 7 = .ok (.newarray .int, 2) := by decide +kernel
theorem dX1_init_9 : decode cX1_init 9 = .ok (.putfield 9, 3) := by decide +kernel
theorem dX1_init_12 : decode cX1_init 12 = .ok (.aload_n 0, 1) := by decide +kernel
theorem dX1_init_13 : decode cX1_init 13 = .ok (.bipush 10, 2) := by decide +kernel
theorem dX1_init_15 : decode cX1_init 15 = .ok (.newarray .int, 2) := by decide +kernel
theorem dX1_init_17 : decode cX1_init 17 = .ok (.putfield 15, 3) := by decide +kernel
theorem dX1_init_20 : decode cX1_init 20 = .ok (.aload_n 0, 1) := by decide +kernel
theorem dX1_init_21 : decode cX1_init 21 = .ok (.bipush 10, 2) := by decide +kernel
theorem dX1_init_23 : decode cX1_init 23 = .ok (.newarray .int, 2) := by decide +kernel
theorem dX1_init_25 : decode cX1_init 25 = .ok (.putfield 18, 3) := by decide +kernel
theorem dX1_init_28 : decode cX1_init 28 = .ok (.return_, 1) := by decide +kernel
theorem dX1_lookAt_0 : decode cX1_lookAt 0 = .ok (.iconst 0, 1) := by decide +kernel
theorem dX1_lookAt_1 : decode cX1_lookAt 1 = .ok (.istore_n 3, 1) := by decide +kernel
theorem dX1_lookAt_2 : decode cX1_lookAt 2 = .ok (.iload_n 3, 1) := by decide +kernel
theorem dX1_lookAt_3 : decode cX1_lookAt 3 = .ok (.aload_n 1, 1) := by decide +kernel
theorem dX1_lookAt_4 : decode cX1_lookAt 4 = .ok (.getfield 21, 3) := by decide +kernel
theorem dX1_lookAt_7 : decode cX1_lookAt 7 = .ok (.if_icmp .ge 112, 3) := by decide +kernel
theorem dX1_lookAt_10 : decode cX1_lookAt 10 = .ok (.aload_n 0, 1) := by decide +kernel
theorem dX1_lookAt_11 : decode cX1_lookAt 11 = .ok (.getfield 9, 3) := by decide +kernel
theorem dX1_lookAt_14 : decode cX1_lookAt 14 = .ok (.iload_n 3, 1) := by decide +kernel
theorem dX1_lookAt_15 : decode cX1_lookAt 15 = .ok (.aload_n 1, 1) := by decide +kernel
theorem dX1_lookAt_16 : decode cX1_lookAt 16 = .ok (.iload_n 3, 1) := by decide +kernel
theorem dX1_lookAt_17 : decode cX1_lookAt 17 = .ok (.invokevirtual 27, 3) := by decide +kernel
theorem dX1_lookAt_20 : decode cX1_lookAt 20 = .ok (.iastore, 1) := by decide +kernel
theorem dX1_lookAt_21 : decode cX1_lookAt 21 = .ok (.aload_n 0, 1) := by decide +kernel
theorem dX1_lookAt_22 : decode cX1_lookAt 22 = .ok (.getfield 15, 3) := by decide +kernel
theorem dX1_lookAt_25 : decode cX1_lookAt 25 = .ok (.iload_n 3, 1) := by decide +kernel
theorem dX1_lookAt_26 : decode cX1_lookAt 26 = .ok (.bipush 10, 2) := by decide +kernel
theorem dX1_lookAt_28 : decode cX1_lookAt 28 = .ok (.aload_n 1, 1) := by decide +kernel
theorem dX1_lookAt_29 : decode cX1_lookAt 29 = .ok (.getfield 31, 3) := by decide +kernel
theorem dX1_lookAt_32 : decode cX1_lookAt 32 = .ok (.iload_n 3, 1) := by decide +kernel
theorem dX1_lookAt_33 : decode cX1_lookAt 33 = .ok (.iaload, 1) := by decide +kernel
theorem dX1_lookAt_34 : decode cX1_lookAt 34 = .ok (.aload_n 1, 1) := by decide +kernel
theorem dX1_lookAt_35 : decode cX1_lookAt 35 = .ok (.getfield 34, 3) := by decide +kernel
theorem dX1_lookAt_38 : decode cX1_lookAt 38 = .ok (.iload_n 2, 1) := by decide +kernel
theorem dX1_lookAt_39 : decode cX1_lookAt 39 = .ok (.iaload, 1) := by decide +kernel
theorem dX1_lookAt_40 : decode cX1_lookAt 40 = .ok (.isub, 1) := by decide +kernel
theorem dX1_lookAt_41 : decode cX1_lookAt 41 = .ok (.invokestatic 37, 3) := by decide +kernel
theorem dX1_lookAt_44 : decode cX1_lookAt 44 = .ok (.isub, 1) := by decide +kernel
theorem dX1_lookAt_45 : decode cX1_lookAt 45 = .ok (.iastore, 1) := by decide +kernel
theorem dX1_lookAt_46 : decode cX1_lookAt 46 = .ok (.aload_n 0, 1) := by decide +kernel
theorem dX1_lookAt_47 : decode cX1_lookAt 47 = .ok (.getfield 18, 3) := by decide +kernel
theorem dX1_lookAt_50 : decode cX1_lookAt 50 = .ok (.iload_n 3, 1) := by decide +kernel
theorem dX1_lookAt_51 : decode cX1_lookAt 51 = .ok (.aload_n 1, 1) := by decide +kernel
theorem dX1_lookAt_52 : decode cX1_lookAt 52 = .ok (.getfield 42, 3) := by decide +kernel
theorem dX1_lookAt_55 : decode cX1_lookAt 55 = .ok (.iload_n 3, 1) := by decide +kernel
theorem dX1_lookAt_56 : decode cX1_lookAt 56 = .ok (.iaload, 1) := by decide +kernel
theorem dX1_lookAt_57 : decode cX1_lookAt 57 = .ok (.iload_n 2, 1) := by decide +kernel
theorem dX1_lookAt_58 : decode cX1_lookAt 58 = .ok (.if_icmp .ne 9, 3) := by decide +kernel
theorem dX1_lookAt_61 : decode cX1_lookAt 61 = .ok (.iconst 1, 1) := by decide +kernel
theorem dX1_lookAt_62 : decode cX1_lookAt 62 = .ok (.iload_n 3, 1) := by decide +kernel
theorem dX1_lookAt_63 : decode cX1_lookAt 63 = .ok (.ishl, 1) := by decide +kernel
theorem dX1_lookAt_64 : decode cX1_lookAt 64 = .ok (.goto 4, 3) := by decide +kernel
theorem dX1_lookAt_67 : decode cX1_lookAt 67 = .ok (.iconst 0, 1) := by decide +kernel
theorem dX1_lookAt_68 : decode cX1_lookAt 68 = .ok (.iastore, 1) := by decide +kernel
theorem dX1_lookAt_69 : decode cX1_lookAt 69 = .ok (.iconst 0, 1) := by decide +kernel
theorem dX1_lookAt_70 : decode cX1_lookAt 70 = .ok (.istore 4, 2) := by decide +kernel
theorem dX1_lookAt_72 : decode cX1_lookAt 72 = .ok (.iload 4, 2) := by decide +kernel
theorem dX1_lookAt_74 : decode cX1_lookAt 74 = .ok (.iload_n 3, 1) := by decide +kernel
theorem dX1_lookAt_75 : decode cX1_lookAt 75 = .ok (.if_icmp .ge 38, 3) := by decide +kernel
theorem dX1_lookAt_78 : decode cX1_lookAt 78 = .ok (.aload_n 1, 1) := by decide +kernel
theorem dX1_lookAt_79 : decode cX1_lookAt 79 = .ok (.getfield 45, 3) := by decide +kernel
theorem dX1_lookAt_82 : decode cX1_lookAt 82 = .ok (.iload 4, 2) := by decide +kernel
theorem dX1_lookAt_84 : decode cX1_lookAt 84 = .ok (.iaload, 1) := by decide +kernel
theorem dX1_lookAt_85 : decode cX1_lookAt 85 = .ok (.aload_n 1, 1) := by decide +kernel
theorem dX1_lookAt_86 : decode cX1_lookAt 86 = .ok (.getfield 45, 3) := by decide +kernel
theorem dX1_lookAt_89 : decode cX1_lookAt 89 = .ok (.iload_n 3, 1) := by decide +kernel
theorem dX1_lookAt_90 : decode cX1_lookAt 90 = .ok (.iaload, 1) := by decide +kernel
theorem dX1_lookAt_91 : decode cX1_lookAt 91 = .ok (.if_icmp .ne 16, 3) := by decide +kernel
theorem dX1_lookAt_94 : decode cX1_lookAt 94 = .ok (.aload_n 0, 1) := by decide +kernel
theorem dX1_lookAt_95 : decode cX1_lookAt 95 = .ok (.getfield 18, 3) := by decide +kernel
theorem dX1_lookAt_98 : decode cX1_lookAt 98 = .ok (.iload_n 3, 1) := by decide +kernel
theorem dX1_lookAt_99 : decode cX1_lookAt 99 = .ok (.dup2, 1) := by decide +kernel
theorem dX1_lookAt_100 : decode cX1_lookAt 100 = .ok (.iaload, 1) := by decide +kernel
theorem dX1_lookAt_101 : decode cX1_lookAt 101 = .ok (.iconst 1, 1) := by decide +kernel
theorem dX1_lookAt_102 : decode cX1_lookAt 102 = .ok (.iload 4, 2) := by decide +kernel
theorem dX1_lookAt_104 : decode cX1_lookAt 104 = .ok (.ishl, 1) := by decide +kernel
theorem dX1_lookAt_105 : decode cX1_lookAt 105 = .ok (.ior, 1) := by decide +kernel
theorem dX1_lookAt_106 : decode cX1_lookAt 106 = .ok (.iastore, 1) := by decide +kernel
theorem dX1_lookAt_107 : decode cX1_lookAt 107 = .ok (.iinc 4 1, 3) := by decide +kernel
theorem dX1_lookAt_110 : decode cX1_lookAt 110 = .ok (.goto (-38), 3) := by decide +kernel
theorem dX1_lookAt_113 : decode cX1_lookAt 113 = .ok (.iinc 3 1, 3) := by decide +kernel
theorem dX1_lookAt_116 : decode cX1_lookAt 116 = .ok (.goto (-114), 3) := by decide +kernel
theorem dX1_lookAt_119 : decode cX1_lookAt 119 = .ok (.return_, 1) := by decide +kernel
theorem dX1_bestSet_0 : decode cX1_bestSet 0 = .ok (.iconst 0, 1) := by decide +kernel
theorem dX1_bestSet_1 : decode cX1_bestSet 1 = .ok (.istore_n 3, 1) := by decide +kernel
theorem dX1_bestSet_2 : decode cX1_bestSet 2 = .ok (.iconst 0, 1) := by decide +kernel
theorem dX1_bestSet_3 : decode cX1_bestSet 3 = .ok (.istore 4, 2) := by decide +kernel
theorem dX1_bestSet_5 : decode cX1_bestSet 5 = .ok (.iconst 1, 1) := by decide +kernel
theorem dX1_bestSet_6 : decode cX1_bestSet 6 = .ok (.istore 5, 2) := by decide +kernel
theorem dX1_bestSet_8 : decode cX1_bestSet 8 = .ok (.iload 5, 2) := by decide +kernel
theorem dX1_bestSet_10 : decode cX1_bestSet 10 = .ok (.iconst 1, 1) := by decide +kernel
theorem dX1_bestSet_11 : decode cX1_bestSet 11 = .ok (.iload_n 1, 1) := by decide +kernel
theorem dX1_bestSet_12 : decode cX1_bestSet 12 = .ok (.ishl, 1) := by decide +kernel
theorem dX1_bestSet_13 : decode cX1_bestSet 13 = .ok (.if_icmp .ge 76, 3) := by decide +kernel
theorem dX1_bestSet_16 : decode cX1_bestSet 16 = .ok (.aload_n 0, 1) := by decide +kernel
theorem dX1_bestSet_17 : decode cX1_bestSet 17 = .ok (.iload 5, 2) := by decide +kernel
theorem dX1_bestSet_19 : decode cX1_bestSet 19 = .ok (.iload_n 1, 1) := by decide +kernel
theorem dX1_bestSet_20 : decode cX1_bestSet 20 = .ok (.invokevirtual 48, 3) := by decide +kernel
theorem dX1_bestSet_23 : decode cX1_bestSet 23 = .ok (.ifCond .eq 60, 3) := by decide +kernel
theorem dX1_bestSet_26 : decode cX1_bestSet 26 = .ok (.aload_n 0, 1) := by decide +kernel
theorem dX1_bestSet_27 : decode cX1_bestSet 27 = .ok (.getfield 9, 3) := by decide +kernel
theorem dX1_bestSet_30 : decode cX1_bestSet 30 = .ok (.iload 5, 2) := by decide +kernel
theorem dX1_bestSet_32 : decode cX1_bestSet 32 = .ok (.invokestatic 52, 3) := by decide +kernel
theorem dX1_bestSet_35 : decode cX1_bestSet 35 = .ok (.iload_n 2, 1) := by decide +kernel
theorem dX1_bestSet_36 : decode cX1_bestSet 36 = .ok (.if_icmp .gt 47, 3) := by decide +kernel
theorem dX1_bestSet_39 : decode cX1_bestSet 39 = .ok (.aload_n 0, 1) := by decide +kernel
theorem dX1_bestSet_40 : decode cX1_bestSet 40 = .ok (.getfield 15, 3) := by decide +kernel
theorem dX1_bestSet_43 : decode cX1_bestSet 43 = .ok (.iload 5, 2) := by decide +kernel
theorem dX1_bestSet_45 : decode cX1_bestSet 45 = .ok (.invokestatic 52, 3) := by decide +kernel
theorem dX1_bestSet_48 : decode cX1_bestSet 48 = .ok (.istore 6, 2) := by decide +kernel
theorem dX1_bestSet_50 : decode cX1_bestSet 50 = .ok (.iload 6, 2) := by decide +kernel
theorem dX1_bestSet_52 : decode cX1_bestSet 52 = .ok (.iload 4, 2) := by decide +kernel
theorem dX1_bestSet_54 : decode cX1_bestSet 54 = .ok (.if_icmp .gt 22, 3) := by decide +kernel
theorem dX1_bestSet_57 : decode cX1_bestSet 57 = .ok (.iload 6, 2) := by decide +kernel
theorem dX1_bestSet_59 : decode cX1_bestSet 59 = .ok (.iload 4, 2) := by decide +kernel
theorem dX1_bestSet_61 : decode cX1_bestSet 61 = .ok (.if_icmp .ne 22, 3) := by decide +kernel
theorem dX1_bestSet_64 : decode cX1_bestSet 64 = .ok (.iload 5, 2) := by decide +kernel
theorem dX1_bestSet_66 : decode cX1_bestSet 66 = .ok (.invokestatic 56, 3) := by decide +kernel
theorem dX1_bestSet_69 : decode cX1_bestSet 69 = .ok (.iload_n 3, 1) := by decide +kernel
theorem dX1_bestSet_70 : decode cX1_bestSet 70 = .ok (.invokestatic 56, 3) := by decide +kernel
theorem dX1_bestSet_73 : decode cX1_bestSet 73 = .ok (.if_icmp .ge 10, 3) := by decide +kernel
theorem dX1_bestSet_76 : decode cX1_bestSet 76 = .ok (.iload 5, 2) := by decide +kernel
theorem dX1_bestSet_78 : decode cX1_bestSet 78 = .ok (.istore_n 3, 1) := by decide +kernel
theorem dX1_bestSet_79 : decode cX1_bestSet 79 = .ok (.iload 6, 2) := by decide +kernel
theorem dX1_bestSet_81 : decode cX1_bestSet 81 = .ok (.istore 4, 2) := by decide +kernel
theorem dX1_bestSet_83 : decode cX1_bestSet 83 = .ok (.iinc 5 1, 3) := by decide +kernel
theorem dX1_bestSet_86 : decode cX1_bestSet 86 = .ok (.goto (-78), 3) := by decide +kernel
theorem dX1_bestSet_89 : decode cX1_bestSet 89 = .ok (.iload_n 3, 1) := by decide +kernel
theorem dX1_bestSet_90 : decode cX1_bestSet 90 = .ok (.ireturn, 1) := by decide +kernel
theorem dX1_canStand_0 : decode cX1_canStand 0 = .ok (.iconst 0, 1) := by decide +kernel
theorem dX1_canStand_1 : decode cX1_canStand 1 = .ok (.istore_n 3, 1) := by decide +kernel
theorem dX1_canStand_2 : decode cX1_canStand 2 = .ok (.iload_n 3, 1) := by decide +kernel
theorem dX1_canStand_3 : decode cX1_canStand 3 = .ok (.iload_n 2, 1) := by decide +kernel
theorem dX1_canStand_4 : decode cX1_canStand 4 = .ok (.if_icmp .ge 30, 3) := by decide +kernel
theorem dX1_canStand_7 : decode cX1_canStand 7 = .ok (.iload_n 1, 1) := by decide +kernel
theorem dX1_canStand_8 : decode cX1_canStand 8 = .ok (.iload_n 3, 1) := by decide +kernel
theorem dX1_canStand_9 : decode cX1_canStand 9 = .ok (.ishr, 1) := by decide +kernel
theorem dX1_canStand_10 : decode cX1_canStand 10 = .ok (.iconst 1, 1) := by decide +kernel
theorem dX1_canStand_11 : decode cX1_canStand 11 = .ok (.iand, 1) := by decide +kernel
theorem dX1_canStand_12 : decode cX1_canStand 12 = .ok (.ifCond .eq 16, 3) := by decide +kernel
theorem dX1_canStand_15 : decode cX1_canStand 15 = .ok (.aload_n 0, 1) := by decide +kernel
theorem dX1_canStand_16 : decode cX1_canStand 16 = .ok (.getfield 18, 3) := by decide +kernel
theorem dX1_canStand_19 : decode cX1_canStand 19 = .ok (.iload_n 3, 1) := by decide +kernel
theorem dX1_canStand_20 : decode cX1_canStand 20 = .ok (.iaload, 1) := by decide +kernel
theorem dX1_canStand_21 : decode cX1_canStand 21 = .ok (.iload_n 1, 1) := by decide +kernel
theorem dX1_canStand_22 : decode cX1_canStand 22 = .ok (.iand, 1) := by decide +kernel
theorem dX1_canStand_23 : decode cX1_canStand 23 = .ok (.ifCond .eq 5, 3) := by decide +kernel
theorem dX1_canStand_26 : decode cX1_canStand 26 = .ok (.iconst 0, 1) := by decide +kernel
theorem dX1_canStand_27 : decode cX1_canStand 27 = .ok (.ireturn, 1) := by decide +kernel
theorem dX1_canStand_28 : decode cX1_canStand 28 = .ok (.iinc 3 1, 3) := by decide +kernel
theorem dX1_canStand_31 : decode cX1_canStand 31 = .ok (.goto (-29), 3) := by decide +kernel
theorem dX1_canStand_34 : decode cX1_canStand 34 = .ok (.iconst 1, 1) := by decide +kernel
theorem dX1_canStand_35 : decode cX1_canStand 35 = .ok (.ireturn, 1) := by decide +kernel
theorem dX2_init_0 : decode cX2_init 0 = .ok (.aload_n 0, 1) := by decide +kernel
theorem dX2_init_1 : decode cX2_init 1 = .ok (.invokespecial 3, 3) := by decide +kernel
theorem dX2_init_4 : decode cX2_init 4 = .ok (.aload_n 0, 1) := by decide +kernel
theorem dX2_init_5 : decode cX2_init 5 = .ok (.bipush 96, 2) := by decide +kernel
theorem dX2_init_7 : decode cX2_init 7 = .ok (.newarray .int, 2) := by decide +kernel
theorem dX2_init_9 : decode cX2_init 9 = .ok (.putfield 9, 3) := by decide +kernel
theorem dX2_init_12 : decode cX2_init 12 = .ok (.aload_n 0, 1) := by decide +kernel
theorem dX2_init_13 : decode cX2_init 13 = .ok (.bipush 96, 2) := by decide +kernel
theorem dX2_init_15 : decode cX2_init 15 = .ok (.newarray .int, 2) := by decide +kernel
theorem dX2_init_17 : decode cX2_init 17 = .ok (.putfield 15, 3) := by decide +kernel
theorem dX2_init_20 : decode cX2_init 20 = .ok (.return_, 1) := by decide +kernel
theorem dX2_takeIn_0 : decode cX2_takeIn 0 = .ok (.bipush 24, 2) := by decide +kernel
theorem dX2_takeIn_2 : decode cX2_takeIn 2 = .ok (.istore_n 2, 1) := by decide +kernel
theorem dX2_takeIn_3 : decode cX2_takeIn 3 = .ok (.iload_n 2, 1) := by decide +kernel
theorem dX2_takeIn_4 : decode cX2_takeIn 4 = .ok (.ifCond .lt 44, 3) := by decide +kernel
theorem dX2_takeIn_7 : decode cX2_takeIn 7 = .ok (.aload_n 0, 1) := by decide +kernel
theorem dX2_takeIn_8 : decode cX2_takeIn 8 = .ok (.getfield 18, 3) := by decide +kernel
theorem dX2_takeIn_11 : decode cX2_takeIn 11 = .ok (.bipush 96, 2) := by decide +kernel
theorem dX2_takeIn_13 : decode cX2_takeIn 13 = .ok (.if_icmp .ge 35, 3) := by decide +kernel
theorem dX2_takeIn_16 : decode cX2_takeIn 16 = .ok (.aload_n 0, 1) := by decide +kernel
theorem dX2_takeIn_17 : decode cX2_takeIn 17 = .ok (.getfield 9, 3) := by decide +kernel
theorem dX2_takeIn_20 : decode cX2_takeIn 20 = .ok (.aload_n 0, 1) := by decide +kernel
theorem dX2_takeIn_21 : decode cX2_takeIn 21 = .ok (.getfield 18, 3) := by decide +kernel
theorem dX2_takeIn_24 : decode cX2_takeIn 24 = .ok (.iload_n 1, 1) := by decide +kernel
theorem dX2_takeIn_25 : decode cX2_takeIn 25 = .ok (.iload_n 2, 1) := by decide +kernel
theorem dX2_takeIn_26 : decode cX2_takeIn 26 = .ok (.iushr, 1) := by decide +kernel
theorem dX2_takeIn_27 : decode cX2_takeIn 27 = .ok (.sipush 255, 3) := by decide +kernel
theorem dX2_takeIn_30 : decode cX2_takeIn 30 = .ok (.iand, 1) := by decide +kernel
theorem dX2_takeIn_31 : decode cX2_takeIn 31 = .ok (.iastore, 1) := by decide +kernel
theorem dX2_takeIn_32 : decode cX2_takeIn 32 = .ok (.aload_n 0, 1) := by decide +kernel
theorem dX2_takeIn_33 : decode cX2_takeIn 33 = .ok (.dup, 1) := by decide +kernel
theorem dX2_takeIn_34 : decode cX2_takeIn 34 = .ok (.getfield 18, 3) := by decide +kernel
theorem dX2_takeIn_37 : decode cX2_takeIn 37 = .ok (.iconst 1, 1) := by decide +kernel
theorem dX2_takeIn_38 : decode cX2_takeIn 38 = .ok (.iadd, 1) := by decide +kernel
theorem dX2_takeIn_39 : decode cX2_takeIn 39 = .ok (.putfield 18, 3) := by decide +kernel
theorem dX2_takeIn_42 : decode cX2_takeIn 42 = .ok (.iinc 2 (-8), 3) := by decide +kernel
theorem dX2_takeIn_45 : decode cX2_takeIn 45 = .ok (.goto (-42), 3) := by decide +kernel
theorem dX2_takeIn_48 : decode cX2_takeIn 48 = .ok (.return_, 1) := by decide +kernel
theorem dX2_readText_0 : decode cX2_readText 0 = .ok (.aload_n 0, 1) := by decide +kernel
theorem dX2_readText_1 : decode cX2_readText 1 = .ok (.iconst 0, 1) := by decide +kernel
theorem dX2_readText_2 : decode cX2_readText 2 = .ok (.putfield 22, 3) := by decide +kernel
theorem dX2_readText_5 : decode cX2_readText 5 = .ok (.aload_n 0, 1) := by decide +kernel
theorem dX2_readText_6 : decode cX2_readText 6 = .ok (.iconst 0, 1) := by decide +kernel
theorem dX2_readText_7 : decode cX2_readText 7 = .ok (.putfield 25, 3) := by decide +kernel
theorem dX2_readText_10 : decode cX2_readText 10 = .ok (.aload_n 0, 1) := by decide +kernel
theorem dX2_readText_11 : decode cX2_readText 11 = .ok (.iconst 0, 1) := by decide +kernel
theorem dX2_readText_12 : decode cX2_readText 12 = .ok (.putfield 28, 3) := by decide +kernel
theorem dX2_readText_15 : decode cX2_readText 15 = .ok (.aload_n 0, 1) := by decide +kernel
theorem dX2_readText_16 : decode cX2_readText 16 = .ok (.iconst 0, 1) := by decide +kernel
theorem dX2_readText_17 : decode cX2_readText 17 = .ok (.putfield 31, 3) := by decide +kernel
theorem dX2_readText_20 : decode cX2_readText 20 = .ok (.aload_n 0, 1) := by decide +kernel
theorem dX2_readText_21 : decode cX2_readText 21 = .ok (.invokevirtual 34, 3) := by decide +kernel
theorem dX2_readText_24 : decode cX2_readText 24 = .ok (.aload_n 0, 1) := by decide +kernel
theorem dX2_readText_25 : decode cX2_readText 25 = .ok (.aload_n 0, 1) := by decide +kernel
theorem dX2_readText_26 : decode cX2_readText 26 = .ok (.invokevirtual 37, 3) := by decide +kernel
theorem dX2_readText_29 : decode cX2_readText 29 = .ok (.putfield 41, 3) := by decide +kernel
theorem dX2_readText_32 : decode cX2_readText 32 = .ok (.aload_n 0, 1) := by decide +kernel
theorem dX2_readText_33 : decode cX2_readText 33 = .ok (.getfield 41, 3) := by decide +kernel
theorem dX2_readText_36 : decode cX2_readText 36 = .ok (.ifCond .ge 5, 3) := by decide +kernel
theorem dX2_readText_39 : decode cX2_readText 39 = .ok (.iconst 0, 1) := by decide +kernel
theorem dX2_readText_40 : decode cX2_readText 40 = .ok (.ireturn, 1) := by decide +kernel
theorem dX2_readText_41 : decode cX2_readText 41 = .ok (.aload_n 0, 1) := by decide +kernel
theorem dX2_readText_42 : decode cX2_readText 42 = .ok (.invokevirtual 34, 3) := by decide +kernel
theorem dX2_readText_45 : decode cX2_readText 45 = .ok (.aload_n 0, 1) := by decide +kernel
theorem dX2_readText_46 : decode cX2_readText 46 = .ok (.iconst 0, 1) := by decide +kernel
theorem dX2_readText_47 : decode cX2_readText 47 = .ok (.iconst 0, 1) := by decide +kernel
theorem dX2_readText_48 : decode cX2_readText 48 = .ok (.iconst 0, 1) := by decide +kernel
theorem dX2_readText_49 : decode cX2_readText 49 = .ok (.invokevirtual 44, 3) := by decide +kernel
theorem dX2_readText_52 : decode cX2_readText 52 = .ok (.ifCond .eq 14, 3) := by decide +kernel
theorem dX2_readText_55 : decode cX2_readText 55 = .ok (.aload_n 0, 1) := by decide +kernel
theorem dX2_readText_56 : decode cX2_readText 56 = .ok (.getfield 25, 3) := by decide +kernel
theorem dX2_readText_59 : decode cX2_readText 59 = .ok (.ifCond .ne 7, 3) := by decide +kernel
theorem dX2_readText_62 : decode cX2_readText 62 = .ok (.iconst 1, 1) := by decide +kernel
theorem dX2_readText_63 : decode cX2_readText 63 = .ok (.goto 4, 3) := by decide +kernel
theorem dX2_readText_66 : decode cX2_readText 66 = .ok (.iconst 0, 1) := by decide +kernel
theorem dX2_readText_67 : decode cX2_readText 67 = .ok (.ireturn, 1) := by decide +kernel
theorem dX2_readLevel_0 : decode cX2_readLevel 0 = .ok (.iload_n 1, 1) := by decide +kernel
theorem dX2_readLevel_1 : decode cX2_readLevel 1 = .ok (.iconst 5, 1) := by decide +kernel
theorem dX2_readLevel_2 : decode cX2_readLevel 2 = .ok (.if_icmp .lt 10, 3) := by decide +kernel
theorem dX2_readLevel_5 : decode cX2_readLevel 5 = .ok (.aload_n 0, 1) := by decide +kernel
theorem dX2_readLevel_6 : decode cX2_readLevel 6 = .ok (.iload_n 2, 1) := by decide +kernel
theorem dX2_readLevel_7 : decode cX2_readLevel 7 = .ok (.iload_n 3, 1) := by decide +kernel
theorem dX2_readLevel_8 : decode cX2_readLevel 8 = .ok (.invokevirtual 48, 3) := by decide +kernel
theorem dX2_readLevel_11 : decode cX2_readLevel 11 = .ok (.ireturn, 1) := by decide +kernel
theorem dX2_readLevel_12 : decode cX2_readLevel 12 = .ok (.aload_n 0, 1) := by decide +kernel
theorem dX2_readLevel_13 : decode cX2_readLevel 13 = .ok (.iload_n 1, 1) := by decide +kernel
theorem dX2_readLevel_14 : decode cX2_readLevel 14 = .ok (.iconst 1, 1) := by decide +kernel
theorem dX2_readLevel_15 : decode cX2_readLevel 15 = .ok (.iadd, 1) := by decide +kernel
theorem dX2_readLevel_16 : decode cX2_readLevel 16 = .ok (.iload_n 2, 1) := by decide +kernel
theorem dX2_readLevel_17 : decode cX2_readLevel 17 = .ok (.iload_n 3, 1) := by decide +kernel
theorem dX2_readLevel_18 : decode cX2_readLevel 18 = .ok (.invokevirtual 44, 3) := by decide +kernel
theorem dX2_readLevel_21 : decode cX2_readLevel 21 = .ok (.ifCond .ne 5, 3) := by decide +kernel
theorem dX2_readLevel_24 : decode cX2_readLevel 24 = .ok (.iconst 0, 1) := by decide +kernel
theorem dX2_readLevel_25 : decode cX2_readLevel 25 = .ok (.ireturn, 1) := by decide +kernel
theorem dX2_readLevel_26 : decode cX2_readLevel 26 = .ok (.iload_n 1, 1) := by decide +kernel
theorem dX2_readLevel_27 : decode cX2_readLevel 27 = .ok (.iconst 2, 1) := by decide +kernel
theorem dX2_readLevel_28 : decode cX2_readLevel 28 = .ok (.if_icmp .ne 7, 3) := by decide +kernel
theorem dX2_readLevel_31 : decode cX2_readLevel 31 = .ok (.iconst 1, 1) := by decide +kernel
theorem dX2_readLevel_32 : decode cX2_readLevel 32 = .ok (.goto 5, 3) := by decide +kernel
theorem dX2_readLevel_35 : decode cX2_readLevel 35 = .ok (.bipush 96, 2) := by decide +kernel
theorem dX2_readLevel_37 : decode cX2_readLevel 37 = .ok (.istore 4, 2) := by decide +kernel
theorem dX2_readLevel_39 : decode cX2_readLevel 39 = .ok (.iconst 0, 1) := by decide +kernel
theorem dX2_readLevel_40 : decode cX2_readLevel 40 = .ok (.istore 5, 2) := by decide +kernel
theorem dX2_readLevel_42 : decode cX2_readLevel 42 = .ok (.iload 5, 2) := by decide +kernel
theorem dX2_readLevel_44 : decode cX2_readLevel 44 = .ok (.iload 4, 2) := by decide +kernel
theorem dX2_readLevel_46 : decode cX2_readLevel 46 = .ok (.if_icmp .ge 48, 3) := by decide +kernel
theorem dX2_readLevel_49 : decode cX2_readLevel 49 = .ok (.aload_n 0, 1) := by decide +kernel
theorem dX2_readLevel_50 : decode cX2_readLevel 50 = .ok (.iload_n 1, 1) := by decide +kernel
theorem dX2_readLevel_51 : decode cX2_readLevel 51 = .ok (.invokevirtual 52, 3) := by decide +kernel
theorem dX2_readLevel_54 : decode cX2_readLevel 54 = .ok (.ifCond .eq 40, 3) := by decide +kernel
theorem dX2_readLevel_57 : decode cX2_readLevel 57 = .ok (.aload_n 0, 1) := by decide +kernel
theorem dX2_readLevel_58 : decode cX2_readLevel 58 = .ok (.getfield 56, 3) := by decide +kernel
theorem dX2_readLevel_61 : decode cX2_readLevel 61 = .ok (.istore 6, 2) := by decide +kernel
theorem dX2_readLevel_63 : decode cX2_readLevel 63 = .ok (.aload_n 0, 1) := by decide +kernel
theorem dX2_readLevel_64 : decode cX2_readLevel 64 = .ok (.invokevirtual 34, 3) := by decide +kernel
theorem dX2_readLevel_67 : decode cX2_readLevel 67 = .ok (.aload_n 0, 1) := by decide +kernel
theorem dX2_readLevel_68 : decode cX2_readLevel 68 = .ok (.iload_n 1, 1) := by decide +kernel
theorem dX2_readLevel_69 : decode cX2_readLevel 69 = .ok (.iconst 1, 1) := by decide +kernel
theorem dX2_readLevel_70 : decode cX2_readLevel 70 = .ok (.iadd, 1) := by decide +kernel
theorem dX2_readLevel_71 : decode cX2_readLevel 71 = .ok (.iload_n 2, 1) := by decide +kernel
theorem dX2_readLevel_72 : decode cX2_readLevel 72 = .ok (.iload_n 3, 1) := by decide +kernel
theorem dX2_readLevel_73 : decode cX2_readLevel 73 = .ok (.invokevirtual 44, 3) := by decide +kernel
theorem dX2_readLevel_76 : decode cX2_readLevel 76 = .ok (.ifCond .ne 5, 3) := by decide +kernel
theorem dX2_readLevel_79 : decode cX2_readLevel 79 = .ok (.iconst 0, 1) := by decide +kernel
theorem dX2_readLevel_80 : decode cX2_readLevel 80 = .ok (.ireturn, 1) := by decide +kernel
theorem dX2_readLevel_81 : decode cX2_readLevel 81 = .ok (.aload_n 0, 1) := by decide +kernel
theorem dX2_readLevel_82 : decode cX2_readLevel 82 = .ok (.iload 6, 2) := by decide +kernel
theorem dX2_readLevel_84 : decode cX2_readLevel 84 = .ok (.ineg, 1) := by decide +kernel
theorem dX2_readLevel_85 : decode cX2_readLevel 85 = .ok (.invokevirtual 59, 3) := by decide +kernel
theorem dX2_readLevel_88 : decode cX2_readLevel 88 = .ok (.iinc 5 1, 3) := by decide +kernel
theorem dX2_readLevel_91 : decode cX2_readLevel 91 = .ok (.goto (-49), 3) := by decide +kernel
theorem dX2_readLevel_94 : decode cX2_readLevel 94 = .ok (.iconst 1, 1) := by decide +kernel
theorem dX2_readLevel_95 : decode cX2_readLevel 95 = .ok (.ireturn, 1) := by decide +kernel
theorem dX2_readPiece_0 : decode cX2_readPiece 0 = .ok (.aload_n 0, 1) := by decide +kernel
theorem dX2_readPiece_1 : decode cX2_readPiece 1 = .ok (.getfield 25, 3) := by decide +kernel
theorem dX2_readPiece_4 : decode cX2_readPiece 4 = .ok (.iconst 2, 1) := by decide +kernel
theorem dX2_readPiece_5 : decode cX2_readPiece 5 = .ok (.if_icmp .ne 12, 3) := by decide +kernel
theorem dX2_readPiece_8 : decode cX2_readPiece 8 = .ok (.aload_n 0, 1) := by decide +kernel
theorem dX2_readPiece_9 : decode cX2_readPiece 9 = .ok (.aload_n 0, 1) := by decide +kernel
theorem dX2_readPiece_10 : decode cX2_readPiece 10 = .ok (.getfield 56, 3) := by decide +kernel
theorem dX2_readPiece_13 : decode cX2_readPiece 13 = .ok (.invokevirtual 63, 3) := by decide +kernel
theorem dX2_readPiece_16 : decode cX2_readPiece 16 = .ok (.ireturn, 1) := by decide +kernel
theorem dX2_readPiece_17 : decode cX2_readPiece 17 = .ok (.aload_n 0, 1) := by decide +kernel
theorem dX2_readPiece_18 : decode cX2_readPiece 18 = .ok (.getfield 25, 3) := by decide +kernel
theorem dX2_readPiece_21 : decode cX2_readPiece 21 = .ok (.iconst 3, 1) := by decide +kernel
theorem dX2_readPiece_22 : decode cX2_readPiece 22 = .ok (.if_icmp .ne 28, 3) := by decide +kernel
theorem dX2_readPiece_25 : decode cX2_readPiece 25 = .ok (.aload_n 0, 1) := by decide +kernel
theorem dX2_readPiece_26 : decode cX2_readPiece 26 = .ok (.invokevirtual 66, 3) := by decide +kernel
theorem dX2_readPiece_29 : decode cX2_readPiece 29 = .ok (.istore_n 3, 1) := by decide +kernel
theorem dX2_readPiece_30 : decode cX2_readPiece 30 = .ok (.iload_n 3, 1) := by decide +kernel
theorem dX2_readPiece_31 : decode cX2_readPiece 31 = .ok (.ifCond .lt 17, 3) := by decide +kernel
theorem dX2_readPiece_34 : decode cX2_readPiece 34 = .ok (.aload_n 0, 1) := by decide +kernel
theorem dX2_readPiece_35 : decode cX2_readPiece 35 = .ok (.iconst (-1), 1) := by decide +kernel
theorem dX2_readPiece_36 : decode cX2_readPiece 36 = .ok (.iload_n 3, 1) := by decide +kernel
theorem dX2_readPiece_37 : decode cX2_readPiece 37 = .ok (.isub, 1) := by decide +kernel
theorem dX2_readPiece_38 : decode cX2_readPiece 38 = .ok (.invokevirtual 63, 3) := by decide +kernel
theorem dX2_readPiece_41 : decode cX2_readPiece 41 = .ok (.ifCond .eq 7, 3) := by decide +kernel
theorem dX2_readPiece_44 : decode cX2_readPiece 44 = .ok (.iconst 1, 1) := by decide +kernel
theorem dX2_readPiece_45 : decode cX2_readPiece 45 = .ok (.goto 4, 3) := by decide +kernel
theorem dX2_readPiece_48 : decode cX2_readPiece 48 = .ok (.iconst 0, 1) := by decide +kernel
theorem dX2_readPiece_49 : decode cX2_readPiece 49 = .ok (.ireturn, 1) := by decide +kernel
theorem dX2_readPiece_50 : decode cX2_readPiece 50 = .ok (.aload_n 0, 1) := by decide +kernel
theorem dX2_readPiece_51 : decode cX2_readPiece 51 = .ok (.bipush 33, 2) := by decide +kernel
theorem dX2_readPiece_53 : decode cX2_readPiece 53 = .ok (.invokevirtual 69, 3) := by decide +kernel
theorem dX2_readPiece_56 : decode cX2_readPiece 56 = .ok (.ifCond .eq 26, 3) := by decide +kernel
theorem dX2_readPiece_59 : decode cX2_readPiece 59 = .ok (.iload_n 2, 1) := by decide +kernel
theorem dX2_readPiece_60 : decode cX2_readPiece 60 = .ok (.bipush 8, 2) := by decide +kernel
theorem dX2_readPiece_62 : decode cX2_readPiece 62 = .ok (.if_icmp .ge 18, 3) := by decide +kernel
theorem dX2_readPiece_65 : decode cX2_readPiece 65 = .ok (.aload_n 0, 1) := by decide +kernel
theorem dX2_readPiece_66 : decode cX2_readPiece 66 = .ok (.iload_n 1, 1) := by decide +kernel
theorem dX2_readPiece_67 : decode cX2_readPiece 67 = .ok (.iload_n 2, 1) := by decide +kernel
theorem dX2_readPiece_68 : decode cX2_readPiece 68 = .ok (.iconst 1, 1) := by decide +kernel
theorem dX2_readPiece_69 : decode cX2_readPiece 69 = .ok (.iadd, 1) := by decide +kernel
theorem dX2_readPiece_70 : decode cX2_readPiece 70 = .ok (.invokevirtual 72, 3) := by decide +kernel
theorem dX2_readPiece_73 : decode cX2_readPiece 73 = .ok (.ifCond .eq 7, 3) := by decide +kernel
theorem dX2_readPiece_76 : decode cX2_readPiece 76 = .ok (.iconst 1, 1) := by decide +kernel
theorem dX2_readPiece_77 : decode cX2_readPiece 77 = .ok (.goto 4, 3) := by decide +kernel
theorem dX2_readPiece_80 : decode cX2_readPiece 80 = .ok (.iconst 0, 1) := by decide +kernel
theorem dX2_readPiece_81 : decode cX2_readPiece 81 = .ok (.ireturn, 1) := by decide +kernel
theorem dX2_readPiece_82 : decode cX2_readPiece 82 = .ok (.aload_n 0, 1) := by decide +kernel
theorem dX2_readPiece_83 : decode cX2_readPiece 83 = .ok (.bipush 40, 2) := by decide +kernel
theorem dX2_readPiece_85 : decode cX2_readPiece 85 = .ok (.invokevirtual 69, 3) := by decide +kernel
theorem dX2_readPiece_88 : decode cX2_readPiece 88 = .ok (.ifCond .eq 24, 3) := by decide +kernel
theorem dX2_readPiece_91 : decode cX2_readPiece 91 = .ok (.iload_n 1, 1) := by decide +kernel
theorem dX2_readPiece_92 : decode cX2_readPiece 92 = .ok (.bipush 8, 2) := by decide +kernel
theorem dX2_readPiece_94 : decode cX2_readPiece 94 = .ok (.if_icmp .ge 18, 3) := by decide +kernel
theorem dX2_readPiece_97 : decode cX2_readPiece 97 = .ok (.aload_n 0, 1) := by decide +kernel
theorem dX2_readPiece_98 : decode cX2_readPiece 98 = .ok (.iload_n 1, 1) := by decide +kernel
theorem dX2_readPiece_99 : decode cX2_readPiece 99 = .ok (.iconst 1, 1) := by decide +kernel
theorem dX2_readPiece_100 : decode cX2_readPiece 100 = .ok (.iadd, 1) := by decide +kernel
theorem dX2_readPiece_101 : decode cX2_readPiece 101 = .ok (.iload_n 2, 1) := by decide +kernel
theorem dX2_readPiece_102 : decode cX2_readPiece 102 = .ok (.invokevirtual 75, 3) := by decide +kernel
theorem dX2_readPiece_105 : decode cX2_readPiece 105 = .ok (.ifCond .eq 7, 3) := by decide +kernel
theorem dX2_readPiece_108 : decode cX2_readPiece 108 = .ok (.iconst 1, 1) := by decide +kernel
theorem dX2_readPiece_109 : decode cX2_readPiece 109 = .ok (.goto 4, 3) := by decide +kernel
theorem dX2_readPiece_112 : decode cX2_readPiece 112 = .ok (.iconst 0, 1) := by decide +kernel
theorem dX2_readPiece_113 : decode cX2_readPiece 113 = .ok (.ireturn, 1) := by decide +kernel
theorem dX2_readNot_0 : decode cX2_readNot 0 = .ok (.aload_n 0, 1) := by decide +kernel
theorem dX2_readNot_1 : decode cX2_readNot 1 = .ok (.invokevirtual 34, 3) := by decide +kernel
theorem dX2_readNot_4 : decode cX2_readNot 4 = .ok (.aload_n 0, 1) := by decide +kernel
theorem dX2_readNot_5 : decode cX2_readNot 5 = .ok (.iload_n 1, 1) := by decide +kernel
theorem dX2_readNot_6 : decode cX2_readNot 6 = .ok (.iload_n 2, 1) := by decide +kernel
theorem dX2_readNot_7 : decode cX2_readNot 7 = .ok (.invokevirtual 48, 3) := by decide +kernel
theorem dX2_readNot_10 : decode cX2_readNot 10 = .ok (.ifCond .ne 5, 3) := by decide +kernel
theorem dX2_readNot_13 : decode cX2_readNot 13 = .ok (.iconst 0, 1) := by decide +kernel
theorem dX2_readNot_14 : decode cX2_readNot 14 = .ok (.ireturn, 1) := by decide +kernel
theorem dX2_readNot_15 : decode cX2_readNot 15 = .ok (.aload_n 0, 1) := by decide +kernel
theorem dX2_readNot_16 : decode cX2_readNot 16 = .ok (.bipush (-33), 2) := by decide +kernel
theorem dX2_readNot_18 : decode cX2_readNot 18 = .ok (.invokevirtual 59, 3) := by decide +kernel
theorem dX2_readNot_21 : decode cX2_readNot 21 = .ok (.iconst 1, 1) := by decide +kernel
theorem dX2_readNot_22 : decode cX2_readNot 22 = .ok (.ireturn, 1) := by decide +kernel
theorem dX2_readOpen_0 : decode cX2_readOpen 0 = .ok (.aload_n 0, 1) := by decide +kernel
theorem dX2_readOpen_1 : decode cX2_readOpen 1 = .ok (.invokevirtual 34, 3) := by decide +kernel
theorem dX2_readOpen_4 : decode cX2_readOpen 4 = .ok (.aload_n 0, 1) := by decide +kernel
theorem dX2_readOpen_5 : decode cX2_readOpen 5 = .ok (.iconst 0, 1) := by decide +kernel
theorem dX2_readOpen_6 : decode cX2_readOpen 6 = .ok (.iload_n 1, 1) := by decide +kernel
theorem dX2_readOpen_7 : decode cX2_readOpen 7 = .ok (.iload_n 2, 1) := by decide +kernel
theorem dX2_readOpen_8 : decode cX2_readOpen 8 = .ok (.invokevirtual 44, 3) := by decide +kernel
theorem dX2_readOpen_11 : decode cX2_readOpen 11 = .ok (.ifCond .eq 12, 3) := by decide +kernel
theorem dX2_readOpen_14 : decode cX2_readOpen 14 = .ok (.aload_n 0, 1) := by decide +kernel
theorem dX2_readOpen_15 : decode cX2_readOpen 15 = .ok (.bipush 41, 2) := by decide +kernel
theorem dX2_readOpen_17 : decode cX2_readOpen 17 = .ok (.invokevirtual 69, 3) := by decide +kernel
theorem dX2_readOpen_20 : decode cX2_readOpen 20 = .ok (.ifCond .ne 5, 3) := by decide +kernel
theorem dX2_readOpen_23 : decode cX2_readOpen 23 = .ok (.iconst 0, 1) := by decide +kernel
theorem dX2_readOpen_24 : decode cX2_readOpen 24 = .ok (.ireturn, 1) := by decide +kernel
theorem dX2_readOpen_25 : decode cX2_readOpen 25 = .ok (.aload_n 0, 1) := by decide +kernel
theorem dX2_readOpen_26 : decode cX2_readOpen 26 = .ok (.invokevirtual 34, 3) := by decide +kernel
theorem dX2_readOpen_29 : decode cX2_readOpen 29 = .ok (.iconst 1, 1) := by decide +kernel
theorem dX2_readOpen_30 : decode cX2_readOpen 30 = .ok (.ireturn, 1) := by decide +kernel
theorem dX2_takeLeaf_0 : decode cX2_takeLeaf 0 = .ok (.aload_n 0, 1) := by decide +kernel
theorem dX2_takeLeaf_1 : decode cX2_takeLeaf 1 = .ok (.iload_n 1, 1) := by decide +kernel
theorem dX2_takeLeaf_2 : decode cX2_takeLeaf 2 = .ok (.invokevirtual 59, 3) := by decide +kernel
theorem dX2_takeLeaf_5 : decode cX2_takeLeaf 5 = .ok (.aload_n 0, 1) := by decide +kernel
theorem dX2_takeLeaf_6 : decode cX2_takeLeaf 6 = .ok (.dup, 1) := by decide +kernel
theorem dX2_takeLeaf_7 : decode cX2_takeLeaf 7 = .ok (.getfield 31, 3) := by decide +kernel
theorem dX2_takeLeaf_10 : decode cX2_takeLeaf 10 = .ok (.iconst 1, 1) := by decide +kernel
theorem dX2_takeLeaf_11 : decode cX2_takeLeaf 11 = .ok (.iadd, 1) := by decide +kernel
theorem dX2_takeLeaf_12 : decode cX2_takeLeaf 12 = .ok (.putfield 31, 3) := by decide +kernel
theorem dX2_takeLeaf_15 : decode cX2_takeLeaf 15 = .ok (.aload_n 0, 1) := by decide +kernel
theorem dX2_takeLeaf_16 : decode cX2_takeLeaf 16 = .ok (.invokevirtual 34, 3) := by decide +kernel
theorem dX2_takeLeaf_19 : decode cX2_takeLeaf 19 = .ok (.iconst 1, 1) := by decide +kernel
theorem dX2_takeLeaf_20 : decode cX2_takeLeaf 20 = .ok (.ireturn, 1) := by decide +kernel
theorem dX2_addStep_0 : decode cX2_addStep 0 = .ok (.aload_n 0, 1) := by decide +kernel
theorem dX2_addStep_1 : decode cX2_addStep 1 = .ok (.getfield 28, 3) := by decide +kernel
theorem dX2_addStep_4 : decode cX2_addStep 4 = .ok (.bipush 96, 2) := by decide +kernel
theorem dX2_addStep_6 : decode cX2_addStep 6 = .ok (.if_icmp .ge 23, 3) := by decide +kernel
theorem dX2_addStep_9 : decode cX2_addStep 9 = .ok (.aload_n 0, 1) := by decide +kernel
theorem dX2_addStep_10 : decode cX2_addStep 10 = .ok (.getfield 15, 3) := by decide +kernel
theorem dX2_addStep_13 : decode cX2_addStep 13 = .ok (.aload_n 0, 1) := by decide +kernel
theorem dX2_addStep_14 : decode cX2_addStep 14 = .ok (.getfield 28, 3) := by decide +kernel
theorem dX2_addStep_17 : decode cX2_addStep 17 = .ok (.iload_n 1, 1) := by decide +kernel
theorem dX2_addStep_18 : decode cX2_addStep 18 = .ok (.iastore, 1) := by decide +kernel
theorem dX2_addStep_19 : decode cX2_addStep 19 = .ok (.aload_n 0, 1) := by decide +kernel
theorem dX2_addStep_20 : decode cX2_addStep 20 = .ok (.dup, 1) := by decide +kernel
theorem dX2_addStep_21 : decode cX2_addStep 21 = .ok (.getfield 28, 3) := by decide +kernel
theorem dX2_addStep_24 : decode cX2_addStep 24 = .ok (.iconst 1, 1) := by decide +kernel
theorem dX2_addStep_25 : decode cX2_addStep 25 = .ok (.iadd, 1) := by decide +kernel
theorem dX2_addStep_26 : decode cX2_addStep 26 = .ok (.putfield 28, 3) := by decide +kernel
theorem dX2_addStep_29 : decode cX2_addStep 29 = .ok (.return_, 1) := by decide +kernel
theorem dX2_isSign_0 : decode cX2_isSign 0 = .ok (.aload_n 0, 1) := by decide +kernel
theorem dX2_isSign_1 : decode cX2_isSign 1 = .ok (.getfield 25, 3) := by decide +kernel
theorem dX2_isSign_4 : decode cX2_isSign 4 = .ok (.iconst 1, 1) := by decide +kernel
theorem dX2_isSign_5 : decode cX2_isSign 5 = .ok (.if_icmp .ne 15, 3) := by decide +kernel
theorem dX2_isSign_8 : decode cX2_isSign 8 = .ok (.aload_n 0, 1) := by decide +kernel
theorem dX2_isSign_9 : decode cX2_isSign 9 = .ok (.getfield 56, 3) := by decide +kernel
theorem dX2_isSign_12 : decode cX2_isSign 12 = .ok (.iload_n 1, 1) := by decide +kernel
theorem dX2_isSign_13 : decode cX2_isSign 13 = .ok (.if_icmp .ne 7, 3) := by decide +kernel
theorem dX2_isSign_16 : decode cX2_isSign 16 = .ok (.iconst 1, 1) := by decide +kernel
theorem dX2_isSign_17 : decode cX2_isSign 17 = .ok (.goto 4, 3) := by decide +kernel
theorem dX2_isSign_20 : decode cX2_isSign 20 = .ok (.iconst 0, 1) := by decide +kernel
theorem dX2_isSign_21 : decode cX2_isSign 21 = .ok (.ireturn, 1) := by decide +kernel
theorem dX2_joinsAt_0 : decode cX2_joinsAt 0 = .ok (.iload_n 1, 1) := by decide +kernel
theorem dX2_joinsAt_1 : decode cX2_joinsAt 1 = .ok (.tableswitch 102 0 3 #[31, 38, 45, 78], 31) := by decide +kernel
theorem dX2_joinsAt_32 : decode cX2_joinsAt 32 = .ok (.aload_n 0, 1) := by decide +kernel
theorem dX2_joinsAt_33 : decode cX2_joinsAt 33 = .ok (.bipush 124, 2) := by decide +kernel
theorem dX2_joinsAt_35 : decode cX2_joinsAt 35 = .ok (.invokevirtual 69, 3) := by decide +kernel
theorem dX2_joinsAt_38 : decode cX2_joinsAt 38 = .ok (.ireturn, 1) := by decide +kernel
theorem dX2_joinsAt_39 : decode cX2_joinsAt 39 = .ok (.aload_n 0, 1) := by decide +kernel
theorem dX2_joinsAt_40 : decode cX2_joinsAt 40 = .ok (.bipush 38, 2) := by decide +kernel
theorem dX2_joinsAt_42 : decode cX2_joinsAt 42 = .ok (.invokevirtual 69, 3) := by decide +kernel
theorem dX2_joinsAt_45 : decode cX2_joinsAt 45 = .ok (.ireturn, 1) := by decide +kernel
theorem dX2_joinsAt_46 : decode cX2_joinsAt 46 = .ok (.aload_n 0, 1) := by decide +kernel
theorem dX2_joinsAt_47 : decode cX2_joinsAt 47 = .ok (.bipush 60, 2) := by decide +kernel
theorem dX2_joinsAt_49 : decode cX2_joinsAt 49 = .ok (.invokevirtual 69, 3) := by decide +kernel
theorem dX2_joinsAt_52 : decode cX2_joinsAt 52 = .ok (.ifCond .ne 21, 3) := by decide +kernel
theorem dX2_joinsAt_55 : decode cX2_joinsAt 55 = .ok (.aload_n 0, 1) := by decide +kernel
theorem dX2_joinsAt_56 : decode cX2_joinsAt 56 = .ok (.bipush 61, 2) := by decide +kernel
theorem dX2_joinsAt_58 : decode cX2_joinsAt 58 = .ok (.invokevirtual 69, 3) := by decide +kernel
theorem dX2_joinsAt_61 : decode cX2_joinsAt 61 = .ok (.ifCond .ne 12, 3) := by decide +kernel
theorem dX2_joinsAt_64 : decode cX2_joinsAt 64 = .ok (.aload_n 0, 1) := by decide +kernel
theorem dX2_joinsAt_65 : decode cX2_joinsAt 65 = .ok (.bipush 62, 2) := by decide +kernel
theorem dX2_joinsAt_67 : decode cX2_joinsAt 67 = .ok (.invokevirtual 69, 3) := by decide +kernel
theorem dX2_joinsAt_70 : decode cX2_joinsAt 70 = .ok (.ifCond .eq 7, 3) := by decide +kernel
theorem dX2_joinsAt_73 : decode cX2_joinsAt 73 = .ok (.iconst 1, 1) := by decide +kernel
theorem dX2_joinsAt_74 : decode cX2_joinsAt 74 = .ok (.goto 4, 3) := by decide +kernel
theorem dX2_joinsAt_77 : decode cX2_joinsAt 77 = .ok (.iconst 0, 1) := by decide +kernel
theorem dX2_joinsAt_78 : decode cX2_joinsAt 78 = .ok (.ireturn, 1) := by decide +kernel
theorem dX2_joinsAt_79 : decode cX2_joinsAt 79 = .ok (.aload_n 0, 1) := by decide +kernel
theorem dX2_joinsAt_80 : decode cX2_joinsAt 80 = .ok (.bipush 43, 2) := by decide +kernel
theorem dX2_joinsAt_82 : decode cX2_joinsAt 82 = .ok (.invokevirtual 69, 3) := by decide +kernel
theorem dX2_joinsAt_85 : decode cX2_joinsAt 85 = .ok (.ifCond .ne 12, 3) := by decide +kernel
theorem dX2_joinsAt_88 : decode cX2_joinsAt 88 = .ok (.aload_n 0, 1) := by decide +kernel
theorem dX2_joinsAt_89 : decode cX2_joinsAt 89 = .ok (.bipush 45, 2) := by decide +kernel
theorem dX2_joinsAt_91 : decode cX2_joinsAt 91 = .ok (.invokevirtual 69, 3) := by decide +kernel
theorem dX2_joinsAt_94 : decode cX2_joinsAt 94 = .ok (.ifCond .eq 7, 3) := by decide +kernel
theorem dX2_joinsAt_97 : decode cX2_joinsAt 97 = .ok (.iconst 1, 1) := by decide +kernel
theorem dX2_joinsAt_98 : decode cX2_joinsAt 98 = .ok (.goto 4, 3) := by decide +kernel
theorem dX2_joinsAt_101 : decode cX2_joinsAt 101 = .ok (.iconst 0, 1) := by decide +kernel
theorem dX2_joinsAt_102 : decode cX2_joinsAt 102 = .ok (.ireturn, 1) := by decide +kernel
theorem dX2_joinsAt_103 : decode cX2_joinsAt 103 = .ok (.aload_n 0, 1) := by decide +kernel
theorem dX2_joinsAt_104 : decode cX2_joinsAt 104 = .ok (.bipush 42, 2) := by decide +kernel
theorem dX2_joinsAt_106 : decode cX2_joinsAt 106 = .ok (.invokevirtual 69, 3) := by decide +kernel
theorem dX2_joinsAt_109 : decode cX2_joinsAt 109 = .ok (.ifCond .ne 12, 3) := by decide +kernel
theorem dX2_joinsAt_112 : decode cX2_joinsAt 112 = .ok (.aload_n 0, 1) := by decide +kernel
theorem dX2_joinsAt_113 : decode cX2_joinsAt 113 = .ok (.bipush 47, 2) := by decide +kernel
theorem dX2_joinsAt_115 : decode cX2_joinsAt 115 = .ok (.invokevirtual 69, 3) := by decide +kernel
theorem dX2_joinsAt_118 : decode cX2_joinsAt 118 = .ok (.ifCond .eq 7, 3) := by decide +kernel
theorem dX2_joinsAt_121 : decode cX2_joinsAt 121 = .ok (.iconst 1, 1) := by decide +kernel
theorem dX2_joinsAt_122 : decode cX2_joinsAt 122 = .ok (.goto 4, 3) := by decide +kernel
theorem dX2_joinsAt_125 : decode cX2_joinsAt 125 = .ok (.iconst 0, 1) := by decide +kernel
theorem dX2_joinsAt_126 : decode cX2_joinsAt 126 = .ok (.ireturn, 1) := by decide +kernel
theorem dX2_keyAtHand_0 : decode cX2_keyAtHand 0 = .ok (.iconst 0, 1) := by decide +kernel
theorem dX2_keyAtHand_1 : decode cX2_keyAtHand 1 = .ok (.istore_n 1, 1) := by decide +kernel
theorem dX2_keyAtHand_2 : decode cX2_keyAtHand 2 = .ok (.iload_n 1, 1) := by decide +kernel
theorem dX2_keyAtHand_3 : decode cX2_keyAtHand 3 = .ok (.iconst 3, 1) := by decide +kernel
theorem dX2_keyAtHand_4 : decode cX2_keyAtHand 4 = .ok (.if_icmp .ge 30, 3) := by decide +kernel
theorem dX2_keyAtHand_7 : decode cX2_keyAtHand 7 = .ok (.aload_n 0, 1) := by decide +kernel
theorem dX2_keyAtHand_8 : decode cX2_keyAtHand 8 = .ok (.getfield 25, 3) := by decide +kernel
theorem dX2_keyAtHand_11 : decode cX2_keyAtHand 11 = .ok (.iconst 3, 1) := by decide +kernel
theorem dX2_keyAtHand_12 : decode cX2_keyAtHand 12 = .ok (.if_icmp .ne 16, 3) := by decide +kernel
theorem dX2_keyAtHand_15 : decode cX2_keyAtHand 15 = .ok (.aload_n 0, 1) := by decide +kernel
theorem dX2_keyAtHand_16 : decode cX2_keyAtHand 16 = .ok (.iload_n 1, 1) := by decide +kernel
theorem dX2_keyAtHand_17 : decode cX2_keyAtHand 17 = .ok (.invokestatic 78, 3) := by decide +kernel
theorem dX2_keyAtHand_20 : decode cX2_keyAtHand 20 = .ok (.invokevirtual 82, 3) := by decide +kernel
theorem dX2_keyAtHand_23 : decode cX2_keyAtHand 23 = .ok (.ifCond .eq 5, 3) := by decide +kernel
theorem dX2_keyAtHand_26 : decode cX2_keyAtHand 26 = .ok (.iload_n 1, 1) := by decide +kernel
theorem dX2_keyAtHand_27 : decode cX2_keyAtHand 27 = .ok (.ireturn, 1) := by decide +kernel
theorem dX2_keyAtHand_28 : decode cX2_keyAtHand 28 = .ok (.iinc 1 1, 3) := by decide +kernel
theorem dX2_keyAtHand_31 : decode cX2_keyAtHand 31 = .ok (.goto (-29), 3) := by decide +kernel
theorem dX2_keyAtHand_34 : decode cX2_keyAtHand 34 = .ok (.iconst (-1), 1) := by decide +kernel
theorem dX2_keyAtHand_35 : decode cX2_keyAtHand 35 = .ok (.ireturn, 1) := by decide +kernel
theorem dX2_nameAtHand_0 : decode cX2_nameAtHand 0 = .ok (.aload_n 0, 1) := by decide +kernel
theorem dX2_nameAtHand_1 : decode cX2_nameAtHand 1 = .ok (.getfield 22, 3) := by decide +kernel
theorem dX2_nameAtHand_4 : decode cX2_nameAtHand 4 = .ok (.aload_n 0, 1) := by decide +kernel
theorem dX2_nameAtHand_5 : decode cX2_nameAtHand 5 = .ok (.getfield 86, 3) := by decide +kernel
theorem dX2_nameAtHand_8 : decode cX2_nameAtHand 8 = .ok (.isub, 1) := by decide +kernel
theorem dX2_nameAtHand_9 : decode cX2_nameAtHand 9 = .ok (.iconst 1, 1) := by decide +kernel
theorem dX2_nameAtHand_10 : decode cX2_nameAtHand 10 = .ok (.if_icmp .ne 26, 3) := by decide +kernel
theorem dX2_nameAtHand_13 : decode cX2_nameAtHand 13 = .ok (.aload_n 0, 1) := by decide +kernel
theorem dX2_nameAtHand_14 : decode cX2_nameAtHand 14 = .ok (.getfield 41, 3) := by decide +kernel
theorem dX2_nameAtHand_17 : decode cX2_nameAtHand 17 = .ok (.invokestatic 89, 3) := by decide +kernel
theorem dX2_nameAtHand_20 : decode cX2_nameAtHand 20 = .ok (.aload_n 0, 1) := by decide +kernel
theorem dX2_nameAtHand_21 : decode cX2_nameAtHand 21 = .ok (.getfield 9, 3) := by decide +kernel
theorem dX2_nameAtHand_24 : decode cX2_nameAtHand 24 = .ok (.aload_n 0, 1) := by decide +kernel
theorem dX2_nameAtHand_25 : decode cX2_nameAtHand 25 = .ok (.getfield 86, 3) := by decide +kernel
theorem dX2_nameAtHand_28 : decode cX2_nameAtHand 28 = .ok (.iaload, 1) := by decide +kernel
theorem dX2_nameAtHand_29 : decode cX2_nameAtHand 29 = .ok (.i2c, 1) := by decide +kernel
theorem dX2_nameAtHand_30 : decode cX2_nameAtHand 30 = .ok (.invokevirtual 92, 3) := by decide +kernel
theorem dX2_nameAtHand_33 : decode cX2_nameAtHand 33 = .ok (.goto 4, 3) := by decide +kernel
theorem dX2_nameAtHand_36 : decode cX2_nameAtHand 36 = .ok (.iconst (-1), 1) := by decide +kernel
theorem dX2_nameAtHand_37 : decode cX2_nameAtHand 37 = .ok (.ireturn, 1) := by decide +kernel
theorem dX2_isWord_0 : decode cX2_isWord 0 = .ok (.aload_n 0, 1) := by decide +kernel
theorem dX2_isWord_1 : decode cX2_isWord 1 = .ok (.getfield 22, 3) := by decide +kernel
theorem dX2_isWord_4 : decode cX2_isWord 4 = .ok (.aload_n 0, 1) := by decide +kernel
theorem dX2_isWord_5 : decode cX2_isWord 5 = .ok (.getfield 86, 3) := by decide +kernel
theorem dX2_isWord_8 : decode cX2_isWord 8 = .ok (.isub, 1) := by decide +kernel
theorem dX2_isWord_9 : decode cX2_isWord 9 = .ok (.aload_n 1, 1) := by decide +kernel
theorem dX2_isWord_10 : decode cX2_isWord 10 = .ok (.invokevirtual 98, 3) := by decide +kernel
theorem dX2_isWord_13 : decode cX2_isWord 13 = .ok (.if_icmp .eq 5, 3) := by decide +kernel
theorem dX2_isWord_16 : decode cX2_isWord 16 = .ok (.iconst 0, 1) := by decide +kernel
theorem dX2_isWord_17 : decode cX2_isWord 17 = .ok (.ireturn, 1) := by decide +kernel
theorem dX2_isWord_18 : decode cX2_isWord 18 = .ok (.iconst 0, 1) := by decide +kernel
theorem dX2_isWord_19 : decode cX2_isWord 19 = .ok (.istore_n 2, 1) := by decide +kernel
theorem dX2_isWord_20 : decode cX2_isWord 20 = .ok (.iload_n 2, 1) := by decide +kernel
theorem dX2_isWord_21 : decode cX2_isWord 21 = .ok (.aload_n 1, 1) := by decide +kernel
theorem dX2_isWord_22 : decode cX2_isWord 22 = .ok (.invokevirtual 98, 3) := by decide +kernel
theorem dX2_isWord_25 : decode cX2_isWord 25 = .ok (.if_icmp .ge 30, 3) := by decide +kernel
theorem dX2_isWord_28 : decode cX2_isWord 28 = .ok (.aload_n 0, 1) := by decide +kernel
theorem dX2_isWord_29 : decode cX2_isWord 29 = .ok (.getfield 9, 3) := by decide +kernel
theorem dX2_isWord_32 : decode cX2_isWord 32 = .ok (.aload_n 0, 1) := by decide +kernel
theorem dX2_isWord_33 : decode cX2_isWord 33 = .ok (.getfield 86, 3) := by decide +kernel
theorem dX2_isWord_36 : decode cX2_isWord 36 = .ok (.iload_n 2, 1) := by decide +kernel
theorem dX2_isWord_37 : decode cX2_isWord 37 = .ok (.iadd, 1) := by decide +kernel
theorem dX2_isWord_38 : decode cX2_isWord 38 = .ok (.iaload, 1) := by decide +kernel
theorem dX2_isWord_39 : decode cX2_isWord 39 = .ok (.aload_n 1, 1) := by decide +kernel
theorem dX2_isWord_40 : decode cX2_isWord 40 = .ok (.iload_n 2, 1) := by decide +kernel
theorem dX2_isWord_41 : decode cX2_isWord 41 = .ok (.invokevirtual 100, 3) := by decide +kernel
theorem dX2_isWord_44 : decode cX2_isWord 44 = .ok (.if_icmp .eq 5, 3) := by decide +kernel
theorem dX2_isWord_47 : decode cX2_isWord 47 = .ok (.iconst 0, 1) := by decide +kernel
theorem dX2_isWord_48 : decode cX2_isWord 48 = .ok (.ireturn, 1) := by decide +kernel
theorem dX2_isWord_49 : decode cX2_isWord 49 = .ok (.iinc 2 1, 3) := by decide +kernel
theorem dX2_isWord_52 : decode cX2_isWord 52 = .ok (.goto (-32), 3) := by decide +kernel
theorem dX2_isWord_55 : decode cX2_isWord 55 = .ok (.iconst 1, 1) := by decide +kernel
theorem dX2_isWord_56 : decode cX2_isWord 56 = .ok (.ireturn, 1) := by decide +kernel
theorem dX2_keyText_0 : decode cX2_keyText 0 = .ok (.iload_n 0, 1) := by decide +kernel
theorem dX2_keyText_1 : decode cX2_keyText 1 = .ok (.lookupswitch 33 #[(0, 27), (1, 30)], 27) := by decide +kernel
theorem dX2_keyText_28 : decode cX2_keyText 28 = .ok (.ldc 104, 2) := by decide +kernel
theorem dX2_keyText_30 : decode cX2_keyText 30 = .ok (.areturn, 1) := by decide +kernel
theorem dX2_keyText_31 : decode cX2_keyText 31 = .ok (.ldc 106, 2) := by decide +kernel
theorem dX2_keyText_33 : decode cX2_keyText 33 = .ok (.areturn, 1) := by decide +kernel
theorem dX2_keyText_34 : decode cX2_keyText 34 = .ok (.ldc 108, 2) := by decide +kernel
theorem dX2_keyText_36 : decode cX2_keyText 36 = .ok (.areturn, 1) := by decide +kernel
theorem dX2_namesOf_0 : decode cX2_namesOf 0 = .ok (.iload_n 0, 1) := by decide +kernel
theorem dX2_namesOf_1 : decode cX2_namesOf 1 = .ok (.lookupswitch 33 #[(0, 27), (1, 30)], 27) := by decide +kernel
theorem dX2_namesOf_28 : decode cX2_namesOf 28 = .ok (.ldc 110, 2) := by decide +kernel
theorem dX2_namesOf_30 : decode cX2_namesOf 30 = .ok (.areturn, 1) := by decide +kernel
theorem dX2_namesOf_31 : decode cX2_namesOf 31 = .ok (.ldc 112, 2) := by decide +kernel
theorem dX2_namesOf_33 : decode cX2_namesOf 33 = .ok (.areturn, 1) := by decide +kernel
theorem dX2_namesOf_34 : decode cX2_namesOf 34 = .ok (.ldc 114, 2) := by decide +kernel
theorem dX2_namesOf_36 : decode cX2_namesOf 36 = .ok (.areturn, 1) := by decide +kernel
theorem dX2_goToNext_0 : decode cX2_goToNext 0 = .ok (.aload_n 0, 1) := by decide +kernel
theorem dX2_goToNext_1 : decode cX2_goToNext 1 = .ok (.getfield 25, 3) := by decide +kernel
theorem dX2_goToNext_4 : decode cX2_goToNext 4 = .ok (.iconst 2, 1) := by decide +kernel
theorem dX2_goToNext_5 : decode cX2_goToNext 5 = .ok (.if_icmp .eq 11, 3) := by decide +kernel
theorem dX2_goToNext_8 : decode cX2_goToNext 8 = .ok (.aload_n 0, 1) := by decide +kernel
theorem dX2_goToNext_9 : decode cX2_goToNext 9 = .ok (.getfield 25, 3) := by decide +kernel
theorem dX2_goToNext_12 : decode cX2_goToNext 12 = .ok (.iconst 3, 1) := by decide +kernel
theorem dX2_goToNext_13 : decode cX2_goToNext 13 = .ok (.if_icmp .ne 7, 3) := by decide +kernel
theorem dX2_goToNext_16 : decode cX2_goToNext 16 = .ok (.iconst 1, 1) := by decide +kernel
theorem dX2_goToNext_17 : decode cX2_goToNext 17 = .ok (.goto 4, 3) := by decide +kernel
theorem dX2_goToNext_20 : decode cX2_goToNext 20 = .ok (.iconst 0, 1) := by decide +kernel
theorem dX2_goToNext_21 : decode cX2_goToNext 21 = .ok (.istore_n 1, 1) := by decide +kernel
theorem dX2_goToNext_22 : decode cX2_goToNext 22 = .ok (.aload_n 0, 1) := by decide +kernel
theorem dX2_goToNext_23 : decode cX2_goToNext 23 = .ok (.aload_n 0, 1) := by decide +kernel
theorem dX2_goToNext_24 : decode cX2_goToNext 24 = .ok (.getfield 22, 3) := by decide +kernel
theorem dX2_goToNext_27 : decode cX2_goToNext 27 = .ok (.putfield 86, 3) := by decide +kernel
theorem dX2_goToNext_30 : decode cX2_goToNext 30 = .ok (.aload_n 0, 1) := by decide +kernel
theorem dX2_goToNext_31 : decode cX2_goToNext 31 = .ok (.getfield 86, 3) := by decide +kernel
theorem dX2_goToNext_34 : decode cX2_goToNext 34 = .ok (.aload_n 0, 1) := by decide +kernel
theorem dX2_goToNext_35 : decode cX2_goToNext 35 = .ok (.getfield 18, 3) := by decide +kernel
theorem dX2_goToNext_38 : decode cX2_goToNext 38 = .ok (.if_icmp .ge 30, 3) := by decide +kernel
theorem dX2_goToNext_41 : decode cX2_goToNext 41 = .ok (.aload_n 0, 1) := by decide +kernel
theorem dX2_goToNext_42 : decode cX2_goToNext 42 = .ok (.getfield 9, 3) := by decide +kernel
theorem dX2_goToNext_45 : decode cX2_goToNext 45 = .ok (.aload_n 0, 1) := by decide +kernel
theorem dX2_goToNext_46 : decode cX2_goToNext 46 = .ok (.getfield 86, 3) := by decide +kernel
theorem dX2_goToNext_49 : decode cX2_goToNext 49 = .ok (.iaload, 1) := by decide +kernel
theorem dX2_goToNext_50 : decode cX2_goToNext 50 = .ok (.bipush 32, 2) := by decide +kernel
theorem dX2_goToNext_52 : decode cX2_goToNext 52 = .ok (.if_icmp .ne 16, 3) := by decide +kernel
theorem dX2_goToNext_55 : decode cX2_goToNext 55 = .ok (.aload_n 0, 1) := by decide +kernel
theorem dX2_goToNext_56 : decode cX2_goToNext 56 = .ok (.dup, 1) := by decide +kernel
theorem dX2_goToNext_57 : decode cX2_goToNext 57 = .ok (.getfield 86, 3) := by decide +kernel
theorem dX2_goToNext_60 : decode cX2_goToNext 60 = .ok (.iconst 1, 1) := by decide +kernel
theorem dX2_goToNext_61 : decode cX2_goToNext 61 = .ok (.iadd, 1) := by decide +kernel
theorem dX2_goToNext_62 : decode cX2_goToNext 62 = .ok (.putfield 86, 3) := by decide +kernel
theorem dX2_goToNext_65 : decode cX2_goToNext 65 = .ok (.goto (-35), 3) := by decide +kernel
theorem dX2_goToNext_68 : decode cX2_goToNext 68 = .ok (.iload_n 1, 1) := by decide +kernel
theorem dX2_goToNext_69 : decode cX2_goToNext 69 = .ok (.ifCond .eq 18, 3) := by decide +kernel
theorem dX2_goToNext_72 : decode cX2_goToNext 72 = .ok (.aload_n 0, 1) := by decide +kernel
theorem dX2_goToNext_73 : decode cX2_goToNext 73 = .ok (.getfield 86, 3) := by decide +kernel
theorem dX2_goToNext_76 : decode cX2_goToNext 76 = .ok (.aload_n 0, 1) := by decide +kernel
theorem dX2_goToNext_77 : decode cX2_goToNext 77 = .ok (.getfield 22, 3) := by decide +kernel
theorem dX2_goToNext_80 : decode cX2_goToNext 80 = .ok (.if_icmp .ne 7, 3) := by decide +kernel
theorem dX2_goToNext_83 : decode cX2_goToNext 83 = .ok (.iconst 1, 1) := by decide +kernel
theorem dX2_goToNext_84 : decode cX2_goToNext 84 = .ok (.goto 4, 3) := by decide +kernel
theorem dX2_goToNext_87 : decode cX2_goToNext 87 = .ok (.iconst 0, 1) := by decide +kernel
theorem dX2_goToNext_88 : decode cX2_goToNext 88 = .ok (.istore_n 2, 1) := by decide +kernel
theorem dX2_goToNext_89 : decode cX2_goToNext 89 = .ok (.aload_n 0, 1) := by decide +kernel
theorem dX2_goToNext_90 : decode cX2_goToNext 90 = .ok (.getfield 86, 3) := by decide +kernel
theorem dX2_goToNext_93 : decode cX2_goToNext 93 = .ok (.aload_n 0, 1) := by decide +kernel
theorem dX2_goToNext_94 : decode cX2_goToNext 94 = .ok (.getfield 18, 3) := by decide +kernel
theorem dX2_goToNext_97 : decode cX2_goToNext 97 = .ok (.if_icmp .lt 19, 3) := by decide +kernel
theorem dX2_goToNext_100 : decode cX2_goToNext 100 = .ok (.aload_n 0, 1) := by decide +kernel
theorem dX2_goToNext_101 : decode cX2_goToNext 101 = .ok (.iconst 0, 1) := by decide +kernel
theorem dX2_goToNext_102 : decode cX2_goToNext 102 = .ok (.putfield 25, 3) := by decide +kernel
theorem dX2_goToNext_105 : decode cX2_goToNext 105 = .ok (.aload_n 0, 1) := by decide +kernel
theorem dX2_goToNext_106 : decode cX2_goToNext 106 = .ok (.aload_n 0, 1) := by decide +kernel
theorem dX2_goToNext_107 : decode cX2_goToNext 107 = .ok (.getfield 18, 3) := by decide +kernel
theorem dX2_goToNext_110 : decode cX2_goToNext 110 = .ok (.putfield 22, 3) := by decide +kernel
theorem dX2_goToNext_113 : decode cX2_goToNext 113 = .ok (.goto 77, 3) := by decide +kernel
theorem dX2_goToNext_116 : decode cX2_goToNext 116 = .ok (.aload_n 0, 1) := by decide +kernel
theorem dX2_goToNext_117 : decode cX2_goToNext 117 = .ok (.getfield 9, 3) := by decide +kernel
theorem dX2_goToNext_120 : decode cX2_goToNext 120 = .ok (.aload_n 0, 1) := by decide +kernel
theorem dX2_goToNext_121 : decode cX2_goToNext 121 = .ok (.getfield 86, 3) := by decide +kernel
theorem dX2_goToNext_124 : decode cX2_goToNext 124 = .ok (.iaload, 1) := by decide +kernel
theorem dX2_goToNext_125 : decode cX2_goToNext 125 = .ok (.invokestatic 116, 3) := by decide +kernel
theorem dX2_goToNext_128 : decode cX2_goToNext 128 = .ok (.ifCond .eq 11, 3) := by decide +kernel
theorem dX2_goToNext_131 : decode cX2_goToNext 131 = .ok (.aload_n 0, 1) := by decide +kernel
theorem dX2_goToNext_132 : decode cX2_goToNext 132 = .ok (.iload_n 2, 1) := by decide +kernel
theorem dX2_goToNext_133 : decode cX2_goToNext 133 = .ok (.invokevirtual 119, 3) := by decide +kernel
theorem dX2_goToNext_136 : decode cX2_goToNext 136 = .ok (.goto 54, 3) := by decide +kernel
theorem dX2_goToNext_139 : decode cX2_goToNext 139 = .ok (.aload_n 0, 1) := by decide +kernel
theorem dX2_goToNext_140 : decode cX2_goToNext 140 = .ok (.getfield 9, 3) := by decide +kernel
theorem dX2_goToNext_143 : decode cX2_goToNext 143 = .ok (.aload_n 0, 1) := by decide +kernel
theorem dX2_goToNext_144 : decode cX2_goToNext 144 = .ok (.getfield 86, 3) := by decide +kernel
theorem dX2_goToNext_147 : decode cX2_goToNext 147 = .ok (.iaload, 1) := by decide +kernel
theorem dX2_goToNext_148 : decode cX2_goToNext 148 = .ok (.invokestatic 123, 3) := by decide +kernel
theorem dX2_goToNext_151 : decode cX2_goToNext 151 = .ok (.ifCond .eq 11, 3) := by decide +kernel
theorem dX2_goToNext_154 : decode cX2_goToNext 154 = .ok (.aload_n 0, 1) := by decide +kernel
theorem dX2_goToNext_155 : decode cX2_goToNext 155 = .ok (.iload_n 2, 1) := by decide +kernel
theorem dX2_goToNext_156 : decode cX2_goToNext 156 = .ok (.invokevirtual 126, 3) := by decide +kernel
theorem dX2_goToNext_159 : decode cX2_goToNext 159 = .ok (.goto 31, 3) := by decide +kernel
theorem dX2_goToNext_162 : decode cX2_goToNext 162 = .ok (.aload_n 0, 1) := by decide +kernel
theorem dX2_goToNext_163 : decode cX2_goToNext 163 = .ok (.iconst 1, 1) := by decide +kernel
theorem dX2_goToNext_164 : decode cX2_goToNext 164 = .ok (.putfield 25, 3) := by decide +kernel
theorem dX2_goToNext_167 : decode cX2_goToNext 167 = .ok (.aload_n 0, 1) := by decide +kernel
theorem dX2_goToNext_168 : decode cX2_goToNext 168 = .ok (.aload_n 0, 1) := by decide +kernel
theorem dX2_goToNext_169 : decode cX2_goToNext 169 = .ok (.getfield 9, 3) := by decide +kernel
theorem dX2_goToNext_172 : decode cX2_goToNext 172 = .ok (.aload_n 0, 1) := by decide +kernel
theorem dX2_goToNext_173 : decode cX2_goToNext 173 = .ok (.getfield 86, 3) := by decide +kernel
theorem dX2_goToNext_176 : decode cX2_goToNext 176 = .ok (.iaload, 1) := by decide +kernel
theorem dX2_goToNext_177 : decode cX2_goToNext 177 = .ok (.putfield 56, 3) := by decide +kernel
theorem dX2_goToNext_180 : decode cX2_goToNext 180 = .ok (.aload_n 0, 1) := by decide +kernel
theorem dX2_goToNext_181 : decode cX2_goToNext 181 = .ok (.aload_n 0, 1) := by decide +kernel
theorem dX2_goToNext_182 : decode cX2_goToNext 182 = .ok (.getfield 86, 3) := by decide +kernel
theorem dX2_goToNext_185 : decode cX2_goToNext 185 = .ok (.iconst 1, 1) := by decide +kernel
theorem dX2_goToNext_186 : decode cX2_goToNext 186 = .ok (.iadd, 1) := by decide +kernel
theorem dX2_goToNext_187 : decode cX2_goToNext 187 = .ok (.putfield 22, 3) := by decide +kernel
theorem dX2_goToNext_190 : decode cX2_goToNext 190 = .ok (.return_, 1) := by decide +kernel
theorem dX2_takeLetters_0 : decode cX2_takeLetters 0 = .ok (.aload_n 0, 1) := by decide +kernel
theorem dX2_takeLetters_1 : decode cX2_takeLetters 1 = .ok (.aload_n 0, 1) := by decide +kernel
theorem dX2_takeLetters_2 : decode cX2_takeLetters 2 = .ok (.getfield 86, 3) := by decide +kernel
theorem dX2_takeLetters_5 : decode cX2_takeLetters 5 = .ok (.putfield 22, 3) := by decide +kernel
theorem dX2_takeLetters_8 : decode cX2_takeLetters 8 = .ok (.aload_n 0, 1) := by decide +kernel
theorem dX2_takeLetters_9 : decode cX2_takeLetters 9 = .ok (.getfield 22, 3) := by decide +kernel
theorem dX2_takeLetters_12 : decode cX2_takeLetters 12 = .ok (.aload_n 0, 1) := by decide +kernel
theorem dX2_takeLetters_13 : decode cX2_takeLetters 13 = .ok (.getfield 18, 3) := by decide +kernel
theorem dX2_takeLetters_16 : decode cX2_takeLetters 16 = .ok (.if_icmp .ge 31, 3) := by decide +kernel
theorem dX2_takeLetters_19 : decode cX2_takeLetters 19 = .ok (.aload_n 0, 1) := by decide +kernel
theorem dX2_takeLetters_20 : decode cX2_takeLetters 20 = .ok (.getfield 9, 3) := by decide +kernel
theorem dX2_takeLetters_23 : decode cX2_takeLetters 23 = .ok (.aload_n 0, 1) := by decide +kernel
theorem dX2_takeLetters_24 : decode cX2_takeLetters 24 = .ok (.getfield 22, 3) := by decide +kernel
theorem dX2_takeLetters_27 : decode cX2_takeLetters 27 = .ok (.iaload, 1) := by decide +kernel
theorem dX2_takeLetters_28 : decode cX2_takeLetters 28 = .ok (.invokestatic 116, 3) := by decide +kernel
theorem dX2_takeLetters_31 : decode cX2_takeLetters 31 = .ok (.ifCond .eq 16, 3) := by decide +kernel
theorem dX2_takeLetters_34 : decode cX2_takeLetters 34 = .ok (.aload_n 0, 1) := by decide +kernel
theorem dX2_takeLetters_35 : decode cX2_takeLetters 35 = .ok (.dup, 1) := by decide +kernel
theorem dX2_takeLetters_36 : decode cX2_takeLetters 36 = .ok (.getfield 22, 3) := by decide +kernel
theorem dX2_takeLetters_39 : decode cX2_takeLetters 39 = .ok (.iconst 1, 1) := by decide +kernel
theorem dX2_takeLetters_40 : decode cX2_takeLetters 40 = .ok (.iadd, 1) := by decide +kernel
theorem dX2_takeLetters_41 : decode cX2_takeLetters 41 = .ok (.putfield 22, 3) := by decide +kernel
theorem dX2_takeLetters_44 : decode cX2_takeLetters 44 = .ok (.goto (-36), 3) := by decide +kernel
theorem dX2_takeLetters_47 : decode cX2_takeLetters 47 = .ok (.aload_n 0, 1) := by decide +kernel
theorem dX2_takeLetters_48 : decode cX2_takeLetters 48 = .ok (.iload_n 1, 1) := by decide +kernel
theorem dX2_takeLetters_49 : decode cX2_takeLetters 49 = .ok (.ifCond .eq 7, 3) := by decide +kernel
theorem dX2_takeLetters_52 : decode cX2_takeLetters 52 = .ok (.iconst 4, 1) := by decide +kernel
theorem dX2_takeLetters_53 : decode cX2_takeLetters 53 = .ok (.goto 4, 3) := by decide +kernel
theorem dX2_takeLetters_56 : decode cX2_takeLetters 56 = .ok (.iconst 3, 1) := by decide +kernel
theorem dX2_takeLetters_57 : decode cX2_takeLetters 57 = .ok (.putfield 25, 3) := by decide +kernel
theorem dX2_takeLetters_60 : decode cX2_takeLetters 60 = .ok (.return_, 1) := by decide +kernel
theorem dX2_takeDigits_0 : decode cX2_takeDigits 0 = .ok (.aload_n 0, 1) := by decide +kernel
theorem dX2_takeDigits_1 : decode cX2_takeDigits 1 = .ok (.aload_n 0, 1) := by decide +kernel
theorem dX2_takeDigits_2 : decode cX2_takeDigits 2 = .ok (.getfield 86, 3) := by decide +kernel
theorem dX2_takeDigits_5 : decode cX2_takeDigits 5 = .ok (.putfield 22, 3) := by decide +kernel
theorem dX2_takeDigits_8 : decode cX2_takeDigits 8 = .ok (.aload_n 0, 1) := by decide +kernel
theorem dX2_takeDigits_9 : decode cX2_takeDigits 9 = .ok (.iconst 0, 1) := by decide +kernel
theorem dX2_takeDigits_10 : decode cX2_takeDigits 10 = .ok (.putfield 56, 3) := by decide +kernel
theorem dX2_takeDigits_13 : decode cX2_takeDigits 13 = .ok (.aload_n 0, 1) := by decide +kernel
theorem dX2_takeDigits_14 : decode cX2_takeDigits 14 = .ok (.getfield 22, 3) := by decide +kernel
theorem dX2_takeDigits_17 : decode cX2_takeDigits 17 = .ok (.aload_n 0, 1) := by decide +kernel
theorem dX2_takeDigits_18 : decode cX2_takeDigits 18 = .ok (.getfield 18, 3) := by decide +kernel
theorem dX2_takeDigits_21 : decode cX2_takeDigits 21 = .ok (.if_icmp .ge 55, 3) := by decide +kernel
theorem dX2_takeDigits_24 : decode cX2_takeDigits 24 = .ok (.aload_n 0, 1) := by decide +kernel
theorem dX2_takeDigits_25 : decode cX2_takeDigits 25 = .ok (.getfield 9, 3) := by decide +kernel
theorem dX2_takeDigits_28 : decode cX2_takeDigits 28 = .ok (.aload_n 0, 1) := by decide +kernel
theorem dX2_takeDigits_29 : decode cX2_takeDigits 29 = .ok (.getfield 22, 3) := by decide +kernel
theorem dX2_takeDigits_32 : decode cX2_takeDigits 32 = .ok (.iaload, 1) := by decide +kernel
theorem dX2_takeDigits_33 : decode cX2_takeDigits 33 = .ok (.invokestatic 123, 3) := by decide +kernel
theorem dX2_takeDigits_36 : decode cX2_takeDigits 36 = .ok (.ifCond .eq 40, 3) := by decide +kernel
theorem dX2_takeDigits_39 : decode cX2_takeDigits 39 = .ok (.aload_n 0, 1) := by decide +kernel
theorem dX2_takeDigits_40 : decode cX2_takeDigits 40 = .ok (.aload_n 0, 1) := by decide +kernel
theorem dX2_takeDigits_41 : decode cX2_takeDigits 41 = .ok (.getfield 56, 3) := by decide +kernel
theorem dX2_takeDigits_44 : decode cX2_takeDigits 44 = .ok (.bipush 10, 2) := by decide +kernel
theorem dX2_takeDigits_46 : decode cX2_takeDigits 46 = .ok (.imul, 1) := by decide +kernel
theorem dX2_takeDigits_47 : decode cX2_takeDigits 47 = .ok (.aload_n 0, 1) := by decide +kernel
theorem dX2_takeDigits_48 : decode cX2_takeDigits 48 = .ok (.getfield 9, 3) := by decide +kernel
theorem dX2_takeDigits_51 : decode cX2_takeDigits 51 = .ok (.aload_n 0, 1) := by decide +kernel
theorem dX2_takeDigits_52 : decode cX2_takeDigits 52 = .ok (.getfield 22, 3) := by decide +kernel
theorem dX2_takeDigits_55 : decode cX2_takeDigits 55 = .ok (.iaload, 1) := by decide +kernel
theorem dX2_takeDigits_56 : decode cX2_takeDigits 56 = .ok (.iadd, 1) := by decide +kernel
theorem dX2_takeDigits_57 : decode cX2_takeDigits 57 = .ok (.bipush 48, 2) := by decide +kernel
theorem dX2_takeDigits_59 : decode cX2_takeDigits 59 = .ok (.isub, 1) := by decide +kernel
theorem dX2_takeDigits_60 : decode cX2_takeDigits 60 = .ok (.putfield 56, 3) := by decide +kernel
theorem dX2_takeDigits_63 : decode cX2_takeDigits 63 = .ok (.aload_n 0, 1) := by decide +kernel
theorem dX2_takeDigits_64 : decode cX2_takeDigits 64 = .ok (.dup, 1) := by decide +kernel
theorem dX2_takeDigits_65 : decode cX2_takeDigits 65 = .ok (.getfield 22, 3) := by decide +kernel
theorem dX2_takeDigits_68 : decode cX2_takeDigits 68 = .ok (.iconst 1, 1) := by decide +kernel
theorem dX2_takeDigits_69 : decode cX2_takeDigits 69 = .ok (.iadd, 1) := by decide +kernel
theorem dX2_takeDigits_70 : decode cX2_takeDigits 70 = .ok (.putfield 22, 3) := by decide +kernel
theorem dX2_takeDigits_73 : decode cX2_takeDigits 73 = .ok (.goto (-60), 3) := by decide +kernel
theorem dX2_takeDigits_76 : decode cX2_takeDigits 76 = .ok (.aload_n 0, 1) := by decide +kernel
theorem dX2_takeDigits_77 : decode cX2_takeDigits 77 = .ok (.iload_n 1, 1) := by decide +kernel
theorem dX2_takeDigits_78 : decode cX2_takeDigits 78 = .ok (.ifCond .ne 16, 3) := by decide +kernel
theorem dX2_takeDigits_81 : decode cX2_takeDigits 81 = .ok (.aload_n 0, 1) := by decide +kernel
theorem dX2_takeDigits_82 : decode cX2_takeDigits 82 = .ok (.getfield 22, 3) := by decide +kernel
theorem dX2_takeDigits_85 : decode cX2_takeDigits 85 = .ok (.aload_n 0, 1) := by decide +kernel
theorem dX2_takeDigits_86 : decode cX2_takeDigits 86 = .ok (.getfield 86, 3) := by decide +kernel
theorem dX2_takeDigits_89 : decode cX2_takeDigits 89 = .ok (.isub, 1) := by decide +kernel
theorem dX2_takeDigits_90 : decode cX2_takeDigits 90 = .ok (.iconst 4, 1) := by decide +kernel
theorem dX2_takeDigits_91 : decode cX2_takeDigits 91 = .ok (.if_icmp .le 7, 3) := by decide +kernel
theorem dX2_takeDigits_94 : decode cX2_takeDigits 94 = .ok (.iconst 4, 1) := by decide +kernel
theorem dX2_takeDigits_95 : decode cX2_takeDigits 95 = .ok (.goto 4, 3) := by decide +kernel
theorem dX2_takeDigits_98 : decode cX2_takeDigits 98 = .ok (.iconst 2, 1) := by decide +kernel
theorem dX2_takeDigits_99 : decode cX2_takeDigits 99 = .ok (.putfield 25, 3) := by decide +kernel
theorem dX2_takeDigits_102 : decode cX2_takeDigits 102 = .ok (.return_, 1) := by decide +kernel
theorem dX2_isLetter_0 : decode cX2_isLetter 0 = .ok (.iload_n 0, 1) := by decide +kernel
theorem dX2_isLetter_1 : decode cX2_isLetter 1 = .ok (.bipush 97, 2) := by decide +kernel
theorem dX2_isLetter_3 : decode cX2_isLetter 3 = .ok (.if_icmp .lt 13, 3) := by decide +kernel
theorem dX2_isLetter_6 : decode cX2_isLetter 6 = .ok (.iload_n 0, 1) := by decide +kernel
theorem dX2_isLetter_7 : decode cX2_isLetter 7 = .ok (.bipush 122, 2) := by decide +kernel
theorem dX2_isLetter_9 : decode cX2_isLetter 9 = .ok (.if_icmp .gt 7, 3) := by decide +kernel
theorem dX2_isLetter_12 : decode cX2_isLetter 12 = .ok (.iconst 1, 1) := by decide +kernel
theorem dX2_isLetter_13 : decode cX2_isLetter 13 = .ok (.goto 4, 3) := by decide +kernel
theorem dX2_isLetter_16 : decode cX2_isLetter 16 = .ok (.iconst 0, 1) := by decide +kernel
theorem dX2_isLetter_17 : decode cX2_isLetter 17 = .ok (.ireturn, 1) := by decide +kernel
theorem dX2_isDigit_0 : decode cX2_isDigit 0 = .ok (.iload_n 0, 1) := by decide +kernel
theorem dX2_isDigit_1 : decode cX2_isDigit 1 = .ok (.bipush 48, 2) := by decide +kernel
theorem dX2_isDigit_3 : decode cX2_isDigit 3 = .ok (.if_icmp .lt 13, 3) := by decide +kernel
theorem dX2_isDigit_6 : decode cX2_isDigit 6 = .ok (.iload_n 0, 1) := by decide +kernel
theorem dX2_isDigit_7 : decode cX2_isDigit 7 = .ok (.bipush 57, 2) := by decide +kernel
theorem dX2_isDigit_9 : decode cX2_isDigit 9 = .ok (.if_icmp .gt 7, 3) := by decide +kernel
theorem dX2_isDigit_12 : decode cX2_isDigit 12 = .ok (.iconst 1, 1) := by decide +kernel
theorem dX2_isDigit_13 : decode cX2_isDigit 13 = .ok (.goto 4, 3) := by decide +kernel
theorem dX2_isDigit_16 : decode cX2_isDigit 16 = .ok (.iconst 0, 1) := by decide +kernel
theorem dX2_isDigit_17 : decode cX2_isDigit 17 = .ok (.ireturn, 1) := by decide +kernel
theorem dX3_init_0 : decode cX3_init 0 = .ok (.aload_n 0, 1) := by decide +kernel
theorem dX3_init_1 : decode cX3_init 1 = .ok (.invokespecial 3, 3) := by decide +kernel
theorem dX3_init_4 : decode cX3_init 4 = .ok (.aload_n 0, 1) := by decide +kernel
theorem dX3_init_5 : decode cX3_init 5 = .ok (.bipush 24, 2) := by decide +kernel
theorem dX3_init_7 : decode cX3_init 7 = .ok (.newarray .int, 2) := by decide +kernel
theorem dX3_init_9 : decode cX3_init 9 = .ok (.putfield 9, 3) := by decide +kernel
theorem dX3_init_12 : decode cX3_init 12 = .ok (.aload_n 0, 1) := by decide +kernel
theorem dX3_init_13 : decode cX3_init 13 = .ok (.iconst (-1), 1) := by decide +kernel
theorem dX3_init_14 : decode cX3_init 14 = .ok (.putfield 15, 3) := by decide +kernel
theorem dX3_init_17 : decode cX3_init 17 = .ok (.return_, 1) := by decide +kernel
theorem dX3_renew_0 : decode cX3_renew 0 = .ok (.aload_n 0, 1) := by decide +kernel
theorem dX3_renew_1 : decode cX3_renew 1 = .ok (.iload_n 1, 1) := by decide +kernel
theorem dX3_renew_2 : decode cX3_renew 2 = .ok (.putfield 15, 3) := by decide +kernel
theorem dX3_renew_5 : decode cX3_renew 5 = .ok (.aload_n 0, 1) := by decide +kernel
theorem dX3_renew_6 : decode cX3_renew 6 = .ok (.iload_n 2, 1) := by decide +kernel
theorem dX3_renew_7 : decode cX3_renew 7 = .ok (.putfield 19, 3) := by decide +kernel
theorem dX3_renew_10 : decode cX3_renew 10 = .ok (.iconst 0, 1) := by decide +kernel
theorem dX3_renew_11 : decode cX3_renew 11 = .ok (.istore_n 3, 1) := by decide +kernel
theorem dX3_renew_12 : decode cX3_renew 12 = .ok (.iload_n 3, 1) := by decide +kernel
theorem dX3_renew_13 : decode cX3_renew 13 = .ok (.bipush 24, 2) := by decide +kernel
theorem dX3_renew_15 : decode cX3_renew 15 = .ok (.if_icmp .ge 16, 3) := by decide +kernel
theorem dX3_renew_18 : decode cX3_renew 18 = .ok (.aload_n 0, 1) := by decide +kernel
theorem dX3_renew_19 : decode cX3_renew 19 = .ok (.getfield 9, 3) := by decide +kernel
theorem dX3_renew_22 : decode cX3_renew 22 = .ok (.iload_n 3, 1) := by decide +kernel
theorem dX3_renew_23 : decode cX3_renew 23 = .ok (.iconst 0, 1) := by decide +kernel
theorem dX3_renew_24 : decode cX3_renew 24 = .ok (.iastore, 1) := by decide +kernel
theorem dX3_renew_25 : decode cX3_renew 25 = .ok (.iinc 3 1, 3) := by decide +kernel
theorem dX3_renew_28 : decode cX3_renew 28 = .ok (.goto (-16), 3) := by decide +kernel
theorem dX3_renew_31 : decode cX3_renew 31 = .ok (.return_, 1) := by decide +kernel
theorem dX3_become_0 : decode cX3_become 0 = .ok (.aload_n 0, 1) := by decide +kernel
theorem dX3_become_1 : decode cX3_become 1 = .ok (.aload_n 1, 1) := by decide +kernel
theorem dX3_become_2 : decode cX3_become 2 = .ok (.getfield 15, 3) := by decide +kernel
theorem dX3_become_5 : decode cX3_become 5 = .ok (.putfield 15, 3) := by decide +kernel
theorem dX3_become_8 : decode cX3_become 8 = .ok (.aload_n 0, 1) := by decide +kernel
theorem dX3_become_9 : decode cX3_become 9 = .ok (.aload_n 1, 1) := by decide +kernel
theorem dX3_become_10 : decode cX3_become 10 = .ok (.getfield 19, 3) := by decide +kernel
theorem dX3_become_13 : decode cX3_become 13 = .ok (.putfield 19, 3) := by decide +kernel
theorem dX3_become_16 : decode cX3_become 16 = .ok (.aload_n 1, 1) := by decide +kernel
theorem dX3_become_17 : decode cX3_become 17 = .ok (.getfield 9, 3) := by decide +kernel
theorem dX3_become_20 : decode cX3_become 20 = .ok (.iconst 0, 1) := by decide +kernel
theorem dX3_become_21 : decode cX3_become 21 = .ok (.aload_n 0, 1) := by decide +kernel
theorem dX3_become_22 : decode cX3_become 22 = .ok (.getfield 9, 3) := by decide +kernel
theorem dX3_become_25 : decode cX3_become 25 = .ok (.iconst 0, 1) := by decide +kernel
theorem dX3_become_26 : decode cX3_become 26 = .ok (.bipush 24, 2) := by decide +kernel
theorem dX3_become_28 : decode cX3_become 28 = .ok (.invokestatic 22, 3) := by decide +kernel
theorem dX3_become_31 : decode cX3_become 31 = .ok (.return_, 1) := by decide +kernel
theorem dX3_hasPlace_0 : decode cX3_hasPlace 0 = .ok (.iload_n 1, 1) := by decide +kernel
theorem dX3_hasPlace_1 : decode cX3_hasPlace 1 = .ok (.iconst 0, 1) := by decide +kernel
theorem dX3_hasPlace_2 : decode cX3_hasPlace 2 = .ok (.aload_n 0, 1) := by decide +kernel
theorem dX3_hasPlace_3 : decode cX3_hasPlace 3 = .ok (.getfield 19, 3) := by decide +kernel
theorem dX3_hasPlace_6 : decode cX3_hasPlace 6 = .ok (.iconst 1, 1) := by decide +kernel
theorem dX3_hasPlace_7 : decode cX3_hasPlace 7 = .ok (.isub, 1) := by decide +kernel
theorem dX3_hasPlace_8 : decode cX3_hasPlace 8 = .ok (.invokestatic 28, 3) := by decide +kernel
theorem dX3_hasPlace_11 : decode cX3_hasPlace 11 = .ok (.ireturn, 1) := by decide +kernel
theorem dX3_hasRun_0 : decode cX3_hasRun 0 = .ok (.iload_n 2, 1) := by decide +kernel
theorem dX3_hasRun_1 : decode cX3_hasRun 1 = .ok (.iconst 0, 1) := by decide +kernel
theorem dX3_hasRun_2 : decode cX3_hasRun 2 = .ok (.aload_n 0, 1) := by decide +kernel
theorem dX3_hasRun_3 : decode cX3_hasRun 3 = .ok (.getfield 19, 3) := by decide +kernel
theorem dX3_hasRun_6 : decode cX3_hasRun 6 = .ok (.invokestatic 28, 3) := by decide +kernel
theorem dX3_hasRun_9 : decode cX3_hasRun 9 = .ok (.ifCond .eq 21, 3) := by decide +kernel
theorem dX3_hasRun_12 : decode cX3_hasRun 12 = .ok (.iload_n 1, 1) := by decide +kernel
theorem dX3_hasRun_13 : decode cX3_hasRun 13 = .ok (.iconst 0, 1) := by decide +kernel
theorem dX3_hasRun_14 : decode cX3_hasRun 14 = .ok (.aload_n 0, 1) := by decide +kernel
theorem dX3_hasRun_15 : decode cX3_hasRun 15 = .ok (.getfield 19, 3) := by decide +kernel
theorem dX3_hasRun_18 : decode cX3_hasRun 18 = .ok (.iload_n 2, 1) := by decide +kernel
theorem dX3_hasRun_19 : decode cX3_hasRun 19 = .ok (.isub, 1) := by decide +kernel
theorem dX3_hasRun_20 : decode cX3_hasRun 20 = .ok (.invokestatic 28, 3) := by decide +kernel
theorem dX3_hasRun_23 : decode cX3_hasRun 23 = .ok (.ifCond .eq 7, 3) := by decide +kernel
theorem dX3_hasRun_26 : decode cX3_hasRun 26 = .ok (.iconst 1, 1) := by decide +kernel
theorem dX3_hasRun_27 : decode cX3_hasRun 27 = .ok (.goto 4, 3) := by decide +kernel
theorem dX3_hasRun_30 : decode cX3_hasRun 30 = .ok (.iconst 0, 1) := by decide +kernel
theorem dX3_hasRun_31 : decode cX3_hasRun 31 = .ok (.ireturn, 1) := by decide +kernel
theorem dX3_isNumber_0 : decode cX3_isNumber 0 = .ok (.aload_n 0, 1) := by decide +kernel
theorem dX3_isNumber_1 : decode cX3_isNumber 1 = .ok (.getfield 9, 3) := by decide +kernel
theorem dX3_isNumber_4 : decode cX3_isNumber 4 = .ok (.iload_n 1, 1) := by decide +kernel
theorem dX3_isNumber_5 : decode cX3_isNumber 5 = .ok (.iaload, 1) := by decide +kernel
theorem dX3_isNumber_6 : decode cX3_isNumber 6 = .ok (.ldc 32, 2) := by decide +kernel
theorem dX3_isNumber_8 : decode cX3_isNumber 8 = .ok (.if_icmp .eq 7, 3) := by decide +kernel
theorem dX3_isNumber_11 : decode cX3_isNumber 11 = .ok (.iconst 1, 1) := by decide +kernel
theorem dX3_isNumber_12 : decode cX3_isNumber 12 = .ok (.goto 4, 3) := by decide +kernel
theorem dX3_isNumber_15 : decode cX3_isNumber 15 = .ok (.iconst 0, 1) := by decide +kernel
theorem dX3_isNumber_16 : decode cX3_isNumber 16 = .ok (.ireturn, 1) := by decide +kernel
theorem dX4_init_0 : decode cX4_init 0 = .ok (.aload_n 0, 1) := by decide +kernel
theorem dX4_init_1 : decode cX4_init 1 = .ok (.invokespecial 3, 3) := by decide +kernel
theorem dX4_init_4 : decode cX4_init 4 = .ok (.aload_n 0, 1) := by decide +kernel
theorem dX4_init_5 : decode cX4_init 5 = .ok (.new 9, 3) := by decide +kernel
theorem dX4_init_8 : decode cX4_init 8 = .ok (.dup, 1) := by decide +kernel
theorem dX4_init_9 : decode cX4_init 9 = .ok (.invokespecial 11, 3) := by decide +kernel
theorem dX4_init_12 : decode cX4_init 12 = .ok (.putfield 12, 3) := by decide +kernel
theorem dX4_init_15 : decode cX4_init 15 = .ok (.aload_n 0, 1) := by decide +kernel
theorem dX4_init_16 : decode cX4_init 16 = .ok (.iconst 0, 1) := by decide +kernel
theorem dX4_init_17 : decode cX4_init 17 = .ok (.putfield 18, 3) := by decide +kernel
theorem dX4_init_20 : decode cX4_init 20 = .ok (.return_, 1) := by decide +kernel
theorem dX5_init_0 : decode cX5_init 0 = .ok (.aload_n 0, 1) := by decide +kernel
theorem dX5_init_1 : decode cX5_init 1 = .ok (.invokespecial 3, 3) := by decide +kernel
theorem dX5_init_4 : decode cX5_init 4 = .ok (.aload_n 0, 1) := by decide +kernel
theorem dX5_init_5 : decode cX5_init 5 = .ok (.bipush 10, 2) := by decide +kernel
theorem dX5_init_7 : decode cX5_init 7 = .ok (.newarray .int, 2) := by decide +kernel
theorem dX5_init_9 : decode cX5_init 9 = .ok (.putfield 9, 3) := by decide +kernel
theorem dX5_init_12 : decode cX5_init 12 = .ok (.aload_n 0, 1) := by decide +kernel
theorem dX5_init_13 : decode cX5_init 13 = .ok (.bipush 10, 2) := by decide +kernel
theorem dX5_init_15 : decode cX5_init 15 = .ok (.newarray .int, 2) := by decide +kernel
theorem dX5_init_17 : decode cX5_init 17 = .ok (.putfield 15, 3) := by decide +kernel
theorem dX5_init_20 : decode cX5_init 20 = .ok (.aload_n 0, 1) := by decide +kernel
theorem dX5_init_21 : decode cX5_init 21 = .ok (.bipush 10, 2) := by decide +kernel
theorem dX5_init_23 : decode cX5_init 23 = .ok (.newarray .int, 2) := by decide +kernel
theorem dX5_init_25 : decode cX5_init 25 = .ok (.putfield 18, 3) := by decide +kernel
theorem dX5_init_28 : decode cX5_init 28 = .ok (.aload_n 0, 1) := by decide +kernel
theorem dX5_init_29 : decode cX5_init 29 = .ok (.bipush 10, 2) := by decide +kernel
theorem dX5_init_31 : decode cX5_init 31 = .ok (.newarray .int, 2) := by decide +kernel
theorem dX5_init_33 : decode cX5_init 33 = .ok (.putfield 21, 3) := by decide +kernel
theorem dX5_init_36 : decode cX5_init 36 = .ok (.aload_n 0, 1) := by decide +kernel
theorem dX5_init_37 : decode cX5_init 37 = .ok (.bipush 10, 2) := by decide +kernel
theorem dX5_init_39 : decode cX5_init 39 = .ok (.newarray .int, 2) := by decide +kernel
theorem dX5_init_41 : decode cX5_init 41 = .ok (.putfield 24, 3) := by decide +kernel
theorem dX5_init_44 : decode cX5_init 44 = .ok (.aload_n 0, 1) := by decide +kernel
theorem dX5_init_45 : decode cX5_init 45 = .ok (.bipush 10, 2) := by decide +kernel
theorem dX5_init_47 : decode cX5_init 47 = .ok (.newarray .int, 2) := by decide +kernel
theorem dX5_init_49 : decode cX5_init 49 = .ok (.putfield 27, 3) := by decide +kernel
theorem dX5_init_52 : decode cX5_init 52 = .ok (.aload_n 0, 1) := by decide +kernel
theorem dX5_init_53 : decode cX5_init 53 = .ok (.bipush 6, 2) := by decide +kernel
theorem dX5_init_55 : decode cX5_init 55 = .ok (.newarray .int, 2) := by decide +kernel
theorem dX5_init_57 : decode cX5_init 57 = .ok (.putfield 30, 3) := by decide +kernel
theorem dX5_init_60 : decode cX5_init 60 = .ok (.aload_n 0, 1) := by decide +kernel
theorem dX5_init_61 : decode cX5_init 61 = .ok (.bipush 6, 2) := by decide +kernel
theorem dX5_init_63 : decode cX5_init 63 = .ok (.newarray .int, 2) := by decide +kernel
theorem dX5_init_65 : decode cX5_init 65 = .ok (.putfield 33, 3) := by decide +kernel
theorem dX5_init_68 : decode cX5_init 68 = .ok (.aload_n 0, 1) := by decide +kernel
theorem dX5_init_69 : decode cX5_init 69 = .ok (.iconst 3, 1) := by decide +kernel
theorem dX5_init_70 : decode cX5_init 70 = .ok (.newarray .int, 2) := by decide +kernel
theorem dX5_init_72 : decode cX5_init 72 = .ok (.putfield 36, 3) := by decide +kernel
theorem dX5_init_75 : decode cX5_init 75 = .ok (.aload_n 0, 1) := by decide +kernel
theorem dX5_init_76 : decode cX5_init 76 = .ok (.aload_n 1, 1) := by decide +kernel
theorem dX5_init_77 : decode cX5_init 77 = .ok (.putfield 39, 3) := by decide +kernel
theorem dX5_init_80 : decode cX5_init 80 = .ok (.iconst 0, 1) := by decide +kernel
theorem dX5_init_81 : decode cX5_init 81 = .ok (.istore_n 2, 1) := by decide +kernel
theorem dX5_init_82 : decode cX5_init 82 = .ok (.iload_n 2, 1) := by decide +kernel
theorem dX5_init_83 : decode cX5_init 83 = .ok (.bipush 6, 2) := by decide +kernel
theorem dX5_init_85 : decode cX5_init 85 = .ok (.if_icmp .ge 24, 3) := by decide +kernel
theorem dX5_init_88 : decode cX5_init 88 = .ok (.aload_n 0, 1) := by decide +kernel
theorem dX5_init_89 : decode cX5_init 89 = .ok (.getfield 30, 3) := by decide +kernel
theorem dX5_init_92 : decode cX5_init 92 = .ok (.iload_n 2, 1) := by decide +kernel
theorem dX5_init_93 : decode cX5_init 93 = .ok (.bipush 100, 2) := by decide +kernel
theorem dX5_init_95 : decode cX5_init 95 = .ok (.iastore, 1) := by decide +kernel
theorem dX5_init_96 : decode cX5_init 96 = .ok (.aload_n 0, 1) := by decide +kernel
theorem dX5_init_97 : decode cX5_init 97 = .ok (.getfield 33, 3) := by decide +kernel
theorem dX5_init_100 : decode cX5_init 100 = .ok (.iload_n 2, 1) := by decide +kernel
theorem dX5_init_101 : decode cX5_init 101 = .ok (.iload_n 2, 1) := by decide +kernel
theorem dX5_init_102 : decode cX5_init 102 = .ok (.iastore, 1) := by decide +kernel
theorem dX5_init_103 : decode cX5_init 103 = .ok (.iinc 2 1, 3) := by decide +kernel
theorem dX5_init_106 : decode cX5_init 106 = .ok (.goto (-24), 3) := by decide +kernel
theorem dX5_init_109 : decode cX5_init 109 = .ok (.iconst 0, 1) := by decide +kernel
theorem dX5_init_110 : decode cX5_init 110 = .ok (.istore_n 2, 1) := by decide +kernel
theorem dX5_init_111 : decode cX5_init 111 = .ok (.iload_n 2, 1) := by decide +kernel
theorem dX5_init_112 : decode cX5_init 112 = .ok (.iconst 3, 1) := by decide +kernel
theorem dX5_init_113 : decode cX5_init 113 = .ok (.if_icmp .ge 16, 3) := by decide +kernel
theorem dX5_init_116 : decode cX5_init 116 = .ok (.aload_n 0, 1) := by decide +kernel
theorem dX5_init_117 : decode cX5_init 117 = .ok (.getfield 36, 3) := by decide +kernel
theorem dX5_init_120 : decode cX5_init 120 = .ok (.iload_n 2, 1) := by decide +kernel
theorem dX5_init_121 : decode cX5_init 121 = .ok (.iconst (-1), 1) := by decide +kernel
theorem dX5_init_122 : decode cX5_init 122 = .ok (.iastore, 1) := by decide +kernel
theorem dX5_init_123 : decode cX5_init 123 = .ok (.iinc 2 1, 3) := by decide +kernel
theorem dX5_init_126 : decode cX5_init 126 = .ok (.goto (-15), 3) := by decide +kernel
theorem dX5_init_129 : decode cX5_init 129 = .ok (.aload_n 0, 1) := by decide +kernel
theorem dX5_init_130 : decode cX5_init 130 = .ok (.iconst 1, 1) := by decide +kernel
theorem dX5_init_131 : decode cX5_init 131 = .ok (.putfield 43, 3) := by decide +kernel
theorem dX5_init_134 : decode cX5_init 134 = .ok (.return_, 1) := by decide +kernel
theorem dX5_become_0 : decode cX5_become 0 = .ok (.aload_n 1, 1) := by decide +kernel
theorem dX5_become_1 : decode cX5_become 1 = .ok (.getfield 9, 3) := by decide +kernel
theorem dX5_become_4 : decode cX5_become 4 = .ok (.iconst 0, 1) := by decide +kernel
theorem dX5_become_5 : decode cX5_become 5 = .ok (.aload_n 0, 1) := by decide +kernel
theorem dX5_become_6 : decode cX5_become 6 = .ok (.getfield 9, 3) := by decide +kernel
theorem dX5_become_9 : decode cX5_become 9 = .ok (.iconst 0, 1) := by decide +kernel
theorem dX5_become_10 : decode cX5_become 10 = .ok (.bipush 10, 2) := by decide +kernel
theorem dX5_become_12 : decode cX5_become 12 = .ok (.invokestatic 47, 3) := by decide +kernel
theorem dX5_become_15 : decode cX5_become 15 = .ok (.aload_n 1, 1) := by decide +kernel
theorem dX5_become_16 : decode cX5_become 16 = .ok (.getfield 15, 3) := by decide +kernel
theorem dX5_become_19 : decode cX5_become 19 = .ok (.iconst 0, 1) := by decide +kernel
theorem dX5_become_20 : decode cX5_become 20 = .ok (.aload_n 0, 1) := by decide +kernel
theorem dX5_become_21 : decode cX5_become 21 = .ok (.getfield 15, 3) := by decide +kernel
theorem dX5_become_24 : decode cX5_become 24 = .ok (.iconst 0, 1) := by decide +kernel
theorem dX5_become_25 : decode cX5_become 25 = .ok (.bipush 10, 2) := by decide +kernel
theorem dX5_become_27 : decode cX5_become 27 = .ok (.invokestatic 47, 3) := by decide +kernel
theorem dX5_become_30 : decode cX5_become 30 = .ok (.aload_n 1, 1) := by decide +kernel
theorem dX5_become_31 : decode cX5_become 31 = .ok (.getfield 18, 3) := by decide +kernel
theorem dX5_become_34 : decode cX5_become 34 = .ok (.iconst 0, 1) := by decide +kernel
theorem dX5_become_35 : decode cX5_become 35 = .ok (.aload_n 0, 1) := by decide +kernel
theorem dX5_become_36 : decode cX5_become 36 = .ok (.getfield 18, 3) := by decide +kernel
theorem dX5_become_39 : decode cX5_become 39 = .ok (.iconst 0, 1) := by decide +kernel
theorem dX5_become_40 : decode cX5_become 40 = .ok (.bipush 10, 2) := by decide +kernel
theorem dX5_become_42 : decode cX5_become 42 = .ok (.invokestatic 47, 3) := by decide +kernel
theorem dX5_become_45 : decode cX5_become 45 = .ok (.aload_n 1, 1) := by decide +kernel
theorem dX5_become_46 : decode cX5_become 46 = .ok (.getfield 21, 3) := by decide +kernel
theorem dX5_become_49 : decode cX5_become 49 = .ok (.iconst 0, 1) := by decide +kernel
theorem dX5_become_50 : decode cX5_become 50 = .ok (.aload_n 0, 1) := by decide +kernel
theorem dX5_become_51 : decode cX5_become 51 = .ok (.getfield 21, 3) := by decide +kernel
theorem dX5_become_54 : decode cX5_become 54 = .ok (.iconst 0, 1) := by decide +kernel
theorem dX5_become_55 : decode cX5_become 55 = .ok (.bipush 10, 2) := by decide +kernel
theorem dX5_become_57 : decode cX5_become 57 = .ok (.invokestatic 47, 3) := by decide +kernel
theorem dX5_become_60 : decode cX5_become 60 = .ok (.aload_n 1, 1) := by decide +kernel
theorem dX5_become_61 : decode cX5_become 61 = .ok (.getfield 24, 3) := by decide +kernel
theorem dX5_become_64 : decode cX5_become 64 = .ok (.iconst 0, 1) := by decide +kernel
theorem dX5_become_65 : decode cX5_become 65 = .ok (.aload_n 0, 1) := by decide +kernel
theorem dX5_become_66 : decode cX5_become 66 = .ok (.getfield 24, 3) := by decide +kernel
theorem dX5_become_69 : decode cX5_become 69 = .ok (.iconst 0, 1) := by decide +kernel
theorem dX5_become_70 : decode cX5_become 70 = .ok (.bipush 10, 2) := by decide +kernel
theorem dX5_become_72 : decode cX5_become 72 = .ok (.invokestatic 47, 3) := by decide +kernel
theorem dX5_become_75 : decode cX5_become 75 = .ok (.aload_n 1, 1) := by decide +kernel
theorem dX5_become_76 : decode cX5_become 76 = .ok (.getfield 27, 3) := by decide +kernel
theorem dX5_become_79 : decode cX5_become 79 = .ok (.iconst 0, 1) := by decide +kernel
theorem dX5_become_80 : decode cX5_become 80 = .ok (.aload_n 0, 1) := by decide +kernel
theorem dX5_become_81 : decode cX5_become 81 = .ok (.getfield 27, 3) := by decide +kernel
theorem dX5_become_84 : decode cX5_become 84 = .ok (.iconst 0, 1) := by decide +kernel
theorem dX5_become_85 : decode cX5_become 85 = .ok (.bipush 10, 2) := by decide +kernel
theorem dX5_become_87 : decode cX5_become 87 = .ok (.invokestatic 47, 3) := by decide +kernel
theorem dX5_become_90 : decode cX5_become 90 = .ok (.aload_n 1, 1) := by decide +kernel
theorem dX5_become_91 : decode cX5_become 91 = .ok (.getfield 30, 3) := by decide +kernel
theorem dX5_become_94 : decode cX5_become 94 = .ok (.iconst 0, 1) := by decide +kernel
theorem dX5_become_95 : decode cX5_become 95 = .ok (.aload_n 0, 1) := by decide +kernel
theorem dX5_become_96 : decode cX5_become 96 = .ok (.getfield 30, 3) := by decide +kernel
theorem dX5_become_99 : decode cX5_become 99 = .ok (.iconst 0, 1) := by decide +kernel
theorem dX5_become_100 : decode cX5_become 100 = .ok (.bipush 6, 2) := by decide +kernel
theorem dX5_become_102 : decode cX5_become 102 = .ok (.invokestatic 47, 3) := by decide +kernel
theorem dX5_become_105 : decode cX5_become 105 = .ok (.aload_n 1, 1) := by decide +kernel
theorem dX5_become_106 : decode cX5_become 106 = .ok (.getfield 33, 3) := by decide +kernel
theorem dX5_become_109 : decode cX5_become 109 = .ok (.iconst 0, 1) := by decide +kernel
theorem dX5_become_110 : decode cX5_become 110 = .ok (.aload_n 0, 1) := by decide +kernel
theorem dX5_become_111 : decode cX5_become 111 = .ok (.getfield 33, 3) := by decide +kernel
theorem dX5_become_114 : decode cX5_become 114 = .ok (.iconst 0, 1) := by decide +kernel
theorem dX5_become_115 : decode cX5_become 115 = .ok (.bipush 6, 2) := by decide +kernel
theorem dX5_become_117 : decode cX5_become 117 = .ok (.invokestatic 47, 3) := by decide +kernel
theorem dX5_become_120 : decode cX5_become 120 = .ok (.aload_n 1, 1) := by decide +kernel
theorem dX5_become_121 : decode cX5_become 121 = .ok (.getfield 36, 3) := by decide +kernel
theorem dX5_become_124 : decode cX5_become 124 = .ok (.iconst 0, 1) := by decide +kernel
theorem dX5_become_125 : decode cX5_become 125 = .ok (.aload_n 0, 1) := by decide +kernel
theorem dX5_become_126 : decode cX5_become 126 = .ok (.getfield 36, 3) := by decide +kernel
theorem dX5_become_129 : decode cX5_become 129 = .ok (.iconst 0, 1) := by decide +kernel
theorem dX5_become_130 : decode cX5_become 130 = .ok (.iconst 3, 1) := by decide +kernel
theorem dX5_become_131 : decode cX5_become 131 = .ok (.invokestatic 47, 3) := by decide +kernel
theorem dX5_become_134 : decode cX5_become 134 = .ok (.aload_n 0, 1) := by decide +kernel
theorem dX5_become_135 : decode cX5_become 135 = .ok (.aload_n 1, 1) := by decide +kernel
theorem dX5_become_136 : decode cX5_become 136 = .ok (.getfield 53, 3) := by decide +kernel
theorem dX5_become_139 : decode cX5_become 139 = .ok (.putfield 53, 3) := by decide +kernel
theorem dX5_become_142 : decode cX5_become 142 = .ok (.aload_n 0, 1) := by decide +kernel
theorem dX5_become_143 : decode cX5_become 143 = .ok (.aload_n 1, 1) := by decide +kernel
theorem dX5_become_144 : decode cX5_become 144 = .ok (.getfield 56, 3) := by decide +kernel
theorem dX5_become_147 : decode cX5_become 147 = .ok (.putfield 56, 3) := by decide +kernel
theorem dX5_become_150 : decode cX5_become 150 = .ok (.aload_n 0, 1) := by decide +kernel
theorem dX5_become_151 : decode cX5_become 151 = .ok (.aload_n 1, 1) := by decide +kernel
theorem dX5_become_152 : decode cX5_become 152 = .ok (.getfield 59, 3) := by decide +kernel
theorem dX5_become_155 : decode cX5_become 155 = .ok (.putfield 59, 3) := by decide +kernel
theorem dX5_become_158 : decode cX5_become 158 = .ok (.aload_n 0, 1) := by decide +kernel
theorem dX5_become_159 : decode cX5_become 159 = .ok (.aload_n 1, 1) := by decide +kernel
theorem dX5_become_160 : decode cX5_become 160 = .ok (.getfield 62, 3) := by decide +kernel
theorem dX5_become_163 : decode cX5_become 163 = .ok (.putfield 62, 3) := by decide +kernel
theorem dX5_become_166 : decode cX5_become 166 = .ok (.aload_n 0, 1) := by decide +kernel
theorem dX5_become_167 : decode cX5_become 167 = .ok (.aload_n 1, 1) := by decide +kernel
theorem dX5_become_168 : decode cX5_become 168 = .ok (.getfield 65, 3) := by decide +kernel
theorem dX5_become_171 : decode cX5_become 171 = .ok (.putfield 65, 3) := by decide +kernel
theorem dX5_become_174 : decode cX5_become 174 = .ok (.aload_n 0, 1) := by decide +kernel
theorem dX5_become_175 : decode cX5_become 175 = .ok (.aload_n 1, 1) := by decide +kernel
theorem dX5_become_176 : decode cX5_become 176 = .ok (.getfield 43, 3) := by decide +kernel
theorem dX5_become_179 : decode cX5_become 179 = .ok (.putfield 43, 3) := by decide +kernel
theorem dX5_become_182 : decode cX5_become 182 = .ok (.return_, 1) := by decide +kernel
theorem dX5_addDay_0 : decode cX5_addDay 0 = .ok (.aload_n 0, 1) := by decide +kernel
theorem dX5_addDay_1 : decode cX5_addDay 1 = .ok (.getfield 53, 3) := by decide +kernel
theorem dX5_addDay_4 : decode cX5_addDay 4 = .ok (.istore 5, 2) := by decide +kernel
theorem dX5_addDay_6 : decode cX5_addDay 6 = .ok (.iload 5, 2) := by decide +kernel
theorem dX5_addDay_8 : decode cX5_addDay 8 = .ok (.bipush 10, 2) := by decide +kernel
theorem dX5_addDay_10 : decode cX5_addDay 10 = .ok (.if_icmp .lt 6, 3) := by decide +kernel
theorem dX5_addDay_13 : decode cX5_addDay 13 = .ok (.ldc 68, 2) := by decide +kernel
theorem dX5_addDay_15 : decode cX5_addDay 15 = .ok (.ireturn, 1) := by decide +kernel
theorem dX5_addDay_16 : decode cX5_addDay 16 = .ok (.aload_n 0, 1) := by decide +kernel
theorem dX5_addDay_17 : decode cX5_addDay 17 = .ok (.getfield 9, 3) := by decide +kernel
theorem dX5_addDay_20 : decode cX5_addDay 20 = .ok (.iload 5, 2) := by decide +kernel
theorem dX5_addDay_22 : decode cX5_addDay 22 = .ok (.iload_n 1, 1) := by decide +kernel
theorem dX5_addDay_23 : decode cX5_addDay 23 = .ok (.iastore, 1) := by decide +kernel
theorem dX5_addDay_24 : decode cX5_addDay 24 = .ok (.aload_n 0, 1) := by decide +kernel
theorem dX5_addDay_25 : decode cX5_addDay 25 = .ok (.getfield 15, 3) := by decide +kernel
theorem dX5_addDay_28 : decode cX5_addDay 28 = .ok (.iload 5, 2) := by decide +kernel
theorem dX5_addDay_30 : decode cX5_addDay 30 = .ok (.iload_n 2, 1) := by decide +kernel
theorem dX5_addDay_31 : decode cX5_addDay 31 = .ok (.iastore, 1) := by decide +kernel
theorem dX5_addDay_32 : decode cX5_addDay 32 = .ok (.aload_n 0, 1) := by decide +kernel
theorem dX5_addDay_33 : decode cX5_addDay 33 = .ok (.getfield 18, 3) := by decide +kernel
theorem dX5_addDay_36 : decode cX5_addDay 36 = .ok (.iload 5, 2) := by decide +kernel
theorem dX5_addDay_38 : decode cX5_addDay 38 = .ok (.iload_n 3, 1) := by decide +kernel
theorem dX5_addDay_39 : decode cX5_addDay 39 = .ok (.iastore, 1) := by decide +kernel
theorem dX5_addDay_40 : decode cX5_addDay 40 = .ok (.aload_n 0, 1) := by decide +kernel
theorem dX5_addDay_41 : decode cX5_addDay 41 = .ok (.getfield 21, 3) := by decide +kernel
theorem dX5_addDay_44 : decode cX5_addDay 44 = .ok (.iload 5, 2) := by decide +kernel
theorem dX5_addDay_46 : decode cX5_addDay 46 = .ok (.iconst 0, 1) := by decide +kernel
theorem dX5_addDay_47 : decode cX5_addDay 47 = .ok (.iastore, 1) := by decide +kernel
theorem dX5_addDay_48 : decode cX5_addDay 48 = .ok (.aload_n 0, 1) := by decide +kernel
theorem dX5_addDay_49 : decode cX5_addDay 49 = .ok (.getfield 24, 3) := by decide +kernel
theorem dX5_addDay_52 : decode cX5_addDay 52 = .ok (.iload 5, 2) := by decide +kernel
theorem dX5_addDay_54 : decode cX5_addDay 54 = .ok (.iload 4, 2) := by decide +kernel
theorem dX5_addDay_56 : decode cX5_addDay 56 = .ok (.iastore, 1) := by decide +kernel
theorem dX5_addDay_57 : decode cX5_addDay 57 = .ok (.aload_n 0, 1) := by decide +kernel
theorem dX5_addDay_58 : decode cX5_addDay 58 = .ok (.getfield 27, 3) := by decide +kernel
theorem dX5_addDay_61 : decode cX5_addDay 61 = .ok (.iload 5, 2) := by decide +kernel
theorem dX5_addDay_63 : decode cX5_addDay 63 = .ok (.iconst 1, 1) := by decide +kernel
theorem dX5_addDay_64 : decode cX5_addDay 64 = .ok (.iload 4, 2) := by decide +kernel
theorem dX5_addDay_66 : decode cX5_addDay 66 = .ok (.ishl, 1) := by decide +kernel
theorem dX5_addDay_67 : decode cX5_addDay 67 = .ok (.iastore, 1) := by decide +kernel
theorem dX5_addDay_68 : decode cX5_addDay 68 = .ok (.aload_n 0, 1) := by decide +kernel
theorem dX5_addDay_69 : decode cX5_addDay 69 = .ok (.iload 5, 2) := by decide +kernel
theorem dX5_addDay_71 : decode cX5_addDay 71 = .ok (.iconst 1, 1) := by decide +kernel
theorem dX5_addDay_72 : decode cX5_addDay 72 = .ok (.iadd, 1) := by decide +kernel
theorem dX5_addDay_73 : decode cX5_addDay 73 = .ok (.putfield 53, 3) := by decide +kernel
theorem dX5_addDay_76 : decode cX5_addDay 76 = .ok (.iload 5, 2) := by decide +kernel
theorem dX5_addDay_78 : decode cX5_addDay 78 = .ok (.ireturn, 1) := by decide +kernel
theorem dX5_draw_0 : decode cX5_draw 0 = .ok (.aload_n 0, 1) := by decide +kernel
theorem dX5_draw_1 : decode cX5_draw 1 = .ok (.aload_n 0, 1) := by decide +kernel
theorem dX5_draw_2 : decode cX5_draw 2 = .ok (.getfield 43, 3) := by decide +kernel
theorem dX5_draw_5 : decode cX5_draw 5 = .ok (.ldc 69, 2) := by decide +kernel
theorem dX5_draw_7 : decode cX5_draw 7 = .ok (.imul, 1) := by decide +kernel
theorem dX5_draw_8 : decode cX5_draw 8 = .ok (.sipush 12345, 3) := by decide +kernel
theorem dX5_draw_11 : decode cX5_draw 11 = .ok (.iadd, 1) := by decide +kernel
theorem dX5_draw_12 : decode cX5_draw 12 = .ok (.putfield 43, 3) := by decide +kernel
theorem dX5_draw_15 : decode cX5_draw 15 = .ok (.aload_n 0, 1) := by decide +kernel
theorem dX5_draw_16 : decode cX5_draw 16 = .ok (.getfield 43, 3) := by decide +kernel
theorem dX5_draw_19 : decode cX5_draw 19 = .ok (.bipush 8, 2) := by decide +kernel
theorem dX5_draw_21 : decode cX5_draw 21 = .ok (.iushr, 1) := by decide +kernel
theorem dX5_draw_22 : decode cX5_draw 22 = .ok (.ireturn, 1) := by decide +kernel
theorem dX5_drawDay_0 : decode cX5_drawDay 0 = .ok (.aload_n 0, 1) := by decide +kernel
theorem dX5_drawDay_1 : decode cX5_drawDay 1 = .ok (.invokevirtual 70, 3) := by decide +kernel
theorem dX5_drawDay_4 : decode cX5_drawDay 4 = .ok (.bipush 6, 2) := by decide +kernel
theorem dX5_drawDay_6 : decode cX5_drawDay 6 = .ok (.irem, 1) := by decide +kernel
theorem dX5_drawDay_7 : decode cX5_drawDay 7 = .ok (.istore_n 1, 1) := by decide +kernel
theorem dX5_drawDay_8 : decode cX5_drawDay 8 = .ok (.aload_n 0, 1) := by decide +kernel
theorem dX5_drawDay_9 : decode cX5_drawDay 9 = .ok (.invokevirtual 70, 3) := by decide +kernel
theorem dX5_drawDay_12 : decode cX5_drawDay 12 = .ok (.bipush 100, 2) := by decide +kernel
theorem dX5_drawDay_14 : decode cX5_drawDay 14 = .ok (.irem, 1) := by decide +kernel
theorem dX5_drawDay_15 : decode cX5_drawDay 15 = .ok (.istore_n 2, 1) := by decide +kernel
theorem dX5_drawDay_16 : decode cX5_drawDay 16 = .ok (.aload_n 0, 1) := by decide +kernel
theorem dX5_drawDay_17 : decode cX5_drawDay 17 = .ok (.invokevirtual 70, 3) := by decide +kernel
theorem dX5_drawDay_20 : decode cX5_drawDay 20 = .ok (.bipush 10, 2) := by decide +kernel
theorem dX5_drawDay_22 : decode cX5_drawDay 22 = .ok (.irem, 1) := by decide +kernel
theorem dX5_drawDay_23 : decode cX5_drawDay 23 = .ok (.istore_n 3, 1) := by decide +kernel
theorem dX5_drawDay_24 : decode cX5_drawDay 24 = .ok (.aload_n 0, 1) := by decide +kernel
theorem dX5_drawDay_25 : decode cX5_drawDay 25 = .ok (.invokevirtual 70, 3) := by decide +kernel
theorem dX5_drawDay_28 : decode cX5_drawDay 28 = .ok (.bipush 6, 2) := by decide +kernel
theorem dX5_drawDay_30 : decode cX5_drawDay 30 = .ok (.irem, 1) := by decide +kernel
theorem dX5_drawDay_31 : decode cX5_drawDay 31 = .ok (.istore 4, 2) := by decide +kernel
theorem dX5_drawDay_33 : decode cX5_drawDay 33 = .ok (.aload_n 0, 1) := by decide +kernel
theorem dX5_drawDay_34 : decode cX5_drawDay 34 = .ok (.iload_n 1, 1) := by decide +kernel
theorem dX5_drawDay_35 : decode cX5_drawDay 35 = .ok (.iload_n 2, 1) := by decide +kernel
theorem dX5_drawDay_36 : decode cX5_drawDay 36 = .ok (.iload_n 3, 1) := by decide +kernel
theorem dX5_drawDay_37 : decode cX5_drawDay 37 = .ok (.iload 4, 2) := by decide +kernel
theorem dX5_drawDay_39 : decode cX5_drawDay 39 = .ok (.invokevirtual 74, 3) := by decide +kernel
theorem dX5_drawDay_42 : decode cX5_drawDay 42 = .ok (.pop, 1) := by decide +kernel
theorem dX5_drawDay_43 : decode cX5_drawDay 43 = .ok (.return_, 1) := by decide +kernel
theorem dX5_daysOf_0 : decode cX5_daysOf 0 = .ok (.iconst 0, 1) := by decide +kernel
theorem dX5_daysOf_1 : decode cX5_daysOf 1 = .ok (.istore_n 2, 1) := by decide +kernel
theorem dX5_daysOf_2 : decode cX5_daysOf 2 = .ok (.iconst 0, 1) := by decide +kernel
theorem dX5_daysOf_3 : decode cX5_daysOf 3 = .ok (.istore_n 3, 1) := by decide +kernel
theorem dX5_daysOf_4 : decode cX5_daysOf 4 = .ok (.iload_n 3, 1) := by decide +kernel
theorem dX5_daysOf_5 : decode cX5_daysOf 5 = .ok (.aload_n 0, 1) := by decide +kernel
theorem dX5_daysOf_6 : decode cX5_daysOf 6 = .ok (.getfield 53, 3) := by decide +kernel
theorem dX5_daysOf_9 : decode cX5_daysOf 9 = .ok (.if_icmp .ge 25, 3) := by decide +kernel
theorem dX5_daysOf_12 : decode cX5_daysOf 12 = .ok (.aload_n 0, 1) := by decide +kernel
theorem dX5_daysOf_13 : decode cX5_daysOf 13 = .ok (.getfield 24, 3) := by decide +kernel
theorem dX5_daysOf_16 : decode cX5_daysOf 16 = .ok (.iload_n 3, 1) := by decide +kernel
theorem dX5_daysOf_17 : decode cX5_daysOf 17 = .ok (.iaload, 1) := by decide +kernel
theorem dX5_daysOf_18 : decode cX5_daysOf 18 = .ok (.iload_n 1, 1) := by decide +kernel
theorem dX5_daysOf_19 : decode cX5_daysOf 19 = .ok (.if_icmp .ne 9, 3) := by decide +kernel
theorem dX5_daysOf_22 : decode cX5_daysOf 22 = .ok (.iload_n 2, 1) := by decide +kernel
theorem dX5_daysOf_23 : decode cX5_daysOf 23 = .ok (.iconst 1, 1) := by decide +kernel
theorem dX5_daysOf_24 : decode cX5_daysOf 24 = .ok (.iload_n 3, 1) := by decide +kernel
theorem dX5_daysOf_25 : decode cX5_daysOf 25 = .ok (.ishl, 1) := by decide +kernel
theorem dX5_daysOf_26 : decode cX5_daysOf 26 = .ok (.ior, 1) := by decide +kernel
theorem dX5_daysOf_27 : decode cX5_daysOf 27 = .ok (.istore_n 2, 1) := by decide +kernel
theorem dX5_daysOf_28 : decode cX5_daysOf 28 = .ok (.iinc 3 1, 3) := by decide +kernel
theorem dX5_daysOf_31 : decode cX5_daysOf 31 = .ok (.goto (-27), 3) := by decide +kernel
theorem dX5_daysOf_34 : decode cX5_daysOf 34 = .ok (.iload_n 2, 1) := by decide +kernel
theorem dX5_daysOf_35 : decode cX5_daysOf 35 = .ok (.ireturn, 1) := by decide +kernel
theorem dX5_priceOf_0 : decode cX5_priceOf 0 = .ok (.aload_n 0, 1) := by decide +kernel
theorem dX5_priceOf_1 : decode cX5_priceOf 1 = .ok (.getfield 36, 3) := by decide +kernel
theorem dX5_priceOf_4 : decode cX5_priceOf 4 = .ok (.iconst 0, 1) := by decide +kernel
theorem dX5_priceOf_5 : decode cX5_priceOf 5 = .ok (.iaload, 1) := by decide +kernel
theorem dX5_priceOf_6 : decode cX5_priceOf 6 = .ok (.istore_n 3, 1) := by decide +kernel
theorem dX5_priceOf_7 : decode cX5_priceOf 7 = .ok (.iload_n 3, 1) := by decide +kernel
theorem dX5_priceOf_8 : decode cX5_priceOf 8 = .ok (.ifCond .ge 19, 3) := by decide +kernel
theorem dX5_priceOf_11 : decode cX5_priceOf 11 = .ok (.iconst 0, 1) := by decide +kernel
theorem dX5_priceOf_12 : decode cX5_priceOf 12 = .ok (.bipush 10, 2) := by decide +kernel
theorem dX5_priceOf_14 : decode cX5_priceOf 14 = .ok (.iload_n 2, 1) := by decide +kernel
theorem dX5_priceOf_15 : decode cX5_priceOf 15 = .ok (.imul, 1) := by decide +kernel
theorem dX5_priceOf_16 : decode cX5_priceOf 16 = .ok (.aload_n 0, 1) := by decide +kernel
theorem dX5_priceOf_17 : decode cX5_priceOf 17 = .ok (.getfield 21, 3) := by decide +kernel
theorem dX5_priceOf_20 : decode cX5_priceOf 20 = .ok (.iload_n 1, 1) := by decide +kernel
theorem dX5_priceOf_21 : decode cX5_priceOf 21 = .ok (.iaload, 1) := by decide +kernel
theorem dX5_priceOf_22 : decode cX5_priceOf 22 = .ok (.isub, 1) := by decide +kernel
theorem dX5_priceOf_23 : decode cX5_priceOf 23 = .ok (.invokestatic 78, 3) := by decide +kernel
theorem dX5_priceOf_26 : decode cX5_priceOf 26 = .ok (.ireturn, 1) := by decide +kernel
theorem dX5_priceOf_27 : decode cX5_priceOf 27 = .ok (.aload_n 0, 1) := by decide +kernel
theorem dX5_priceOf_28 : decode cX5_priceOf 28 = .ok (.getfield 39, 3) := by decide +kernel
theorem dX5_priceOf_31 : decode cX5_priceOf 31 = .ok (.iload_n 3, 1) := by decide +kernel
theorem dX5_priceOf_32 : decode cX5_priceOf 32 = .ok (.iload_n 2, 1) := by decide +kernel
theorem dX5_priceOf_33 : decode cX5_priceOf 33 = .ok (.aload_n 0, 1) := by decide +kernel
theorem dX5_priceOf_34 : decode cX5_priceOf 34 = .ok (.getfield 21, 3) := by decide +kernel
theorem dX5_priceOf_37 : decode cX5_priceOf 37 = .ok (.iload_n 1, 1) := by decide +kernel
theorem dX5_priceOf_38 : decode cX5_priceOf 38 = .ok (.iaload, 1) := by decide +kernel
theorem dX5_priceOf_39 : decode cX5_priceOf 39 = .ok (.aload_n 0, 1) := by decide +kernel
theorem dX5_priceOf_40 : decode cX5_priceOf 40 = .ok (.getfield 15, 3) := by decide +kernel
theorem dX5_priceOf_43 : decode cX5_priceOf 43 = .ok (.iload_n 1, 1) := by decide +kernel
theorem dX5_priceOf_44 : decode cX5_priceOf 44 = .ok (.iaload, 1) := by decide +kernel
theorem dX5_priceOf_45 : decode cX5_priceOf 45 = .ok (.invokevirtual 84, 3) := by decide +kernel
theorem dX5_priceOf_48 : decode cX5_priceOf 48 = .ok (.iconst 0, 1) := by decide +kernel
theorem dX5_priceOf_49 : decode cX5_priceOf 49 = .ok (.sipush 999, 3) := by decide +kernel
theorem dX5_priceOf_52 : decode cX5_priceOf 52 = .ok (.invokestatic 89, 3) := by decide +kernel
theorem dX5_priceOf_55 : decode cX5_priceOf 55 = .ok (.ireturn, 1) := by decide +kernel
theorem dX5_valueOf_0 : decode cX5_valueOf 0 = .ok (.aload_n 0, 1) := by decide +kernel
theorem dX5_valueOf_1 : decode cX5_valueOf 1 = .ok (.getfield 9, 3) := by decide +kernel
theorem dX5_valueOf_4 : decode cX5_valueOf 4 = .ok (.iload_n 1, 1) := by decide +kernel
theorem dX5_valueOf_5 : decode cX5_valueOf 5 = .ok (.iaload, 1) := by decide +kernel
theorem dX5_valueOf_6 : decode cX5_valueOf 6 = .ok (.tableswitch 109 1 5 #[34, 66, 49, 81, 107], 34) := by decide +kernel
theorem dX5_valueOf_40 : decode cX5_valueOf 40 = .ok (.aload_n 0, 1) := by decide +kernel
theorem dX5_valueOf_41 : decode cX5_valueOf 41 = .ok (.iload_n 1, 1) := by decide +kernel
theorem dX5_valueOf_42 : decode cX5_valueOf 42 = .ok (.aload_n 0, 1) := by decide +kernel
theorem dX5_valueOf_43 : decode cX5_valueOf 43 = .ok (.getfield 18, 3) := by decide +kernel
theorem dX5_valueOf_46 : decode cX5_valueOf 46 = .ok (.iload_n 1, 1) := by decide +kernel
theorem dX5_valueOf_47 : decode cX5_valueOf 47 = .ok (.iaload, 1) := by decide +kernel
theorem dX5_valueOf_48 : decode cX5_valueOf 48 = .ok (.invokevirtual 93, 3) := by decide +kernel
theorem dX5_valueOf_51 : decode cX5_valueOf 51 = .ok (.bipush 20, 2) := by decide +kernel
theorem dX5_valueOf_53 : decode cX5_valueOf 53 = .ok (.iadd, 1) := by decide +kernel
theorem dX5_valueOf_54 : decode cX5_valueOf 54 = .ok (.ireturn, 1) := by decide +kernel
theorem dX5_valueOf_55 : decode cX5_valueOf 55 = .ok (.aload_n 0, 1) := by decide +kernel
theorem dX5_valueOf_56 : decode cX5_valueOf 56 = .ok (.iload_n 1, 1) := by decide +kernel
theorem dX5_valueOf_57 : decode cX5_valueOf 57 = .ok (.aload_n 0, 1) := by decide +kernel
theorem dX5_valueOf_58 : decode cX5_valueOf 58 = .ok (.getfield 18, 3) := by decide +kernel
theorem dX5_valueOf_61 : decode cX5_valueOf 61 = .ok (.iload_n 1, 1) := by decide +kernel
theorem dX5_valueOf_62 : decode cX5_valueOf 62 = .ok (.iaload, 1) := by decide +kernel
theorem dX5_valueOf_63 : decode cX5_valueOf 63 = .ok (.invokevirtual 93, 3) := by decide +kernel
theorem dX5_valueOf_66 : decode cX5_valueOf 66 = .ok (.bipush 20, 2) := by decide +kernel
theorem dX5_valueOf_68 : decode cX5_valueOf 68 = .ok (.iadd, 1) := by decide +kernel
theorem dX5_valueOf_69 : decode cX5_valueOf 69 = .ok (.iconst 2, 1) := by decide +kernel
theorem dX5_valueOf_70 : decode cX5_valueOf 70 = .ok (.idiv, 1) := by decide +kernel
theorem dX5_valueOf_71 : decode cX5_valueOf 71 = .ok (.ireturn, 1) := by decide +kernel
theorem dX5_valueOf_72 : decode cX5_valueOf 72 = .ok (.aload_n 0, 1) := by decide +kernel
theorem dX5_valueOf_73 : decode cX5_valueOf 73 = .ok (.iload_n 1, 1) := by decide +kernel
theorem dX5_valueOf_74 : decode cX5_valueOf 74 = .ok (.bipush 9, 2) := by decide +kernel
theorem dX5_valueOf_76 : decode cX5_valueOf 76 = .ok (.aload_n 0, 1) := by decide +kernel
theorem dX5_valueOf_77 : decode cX5_valueOf 77 = .ok (.getfield 18, 3) := by decide +kernel
theorem dX5_valueOf_80 : decode cX5_valueOf 80 = .ok (.iload_n 1, 1) := by decide +kernel
theorem dX5_valueOf_81 : decode cX5_valueOf 81 = .ok (.iaload, 1) := by decide +kernel
theorem dX5_valueOf_82 : decode cX5_valueOf 82 = .ok (.isub, 1) := by decide +kernel
theorem dX5_valueOf_83 : decode cX5_valueOf 83 = .ok (.invokevirtual 93, 3) := by decide +kernel
theorem dX5_valueOf_86 : decode cX5_valueOf 86 = .ok (.ireturn, 1) := by decide +kernel
theorem dX5_valueOf_87 : decode cX5_valueOf 87 = .ok (.iconst 0, 1) := by decide +kernel
theorem dX5_valueOf_88 : decode cX5_valueOf 88 = .ok (.aload_n 0, 1) := by decide +kernel
theorem dX5_valueOf_89 : decode cX5_valueOf 89 = .ok (.iload_n 1, 1) := by decide +kernel
theorem dX5_valueOf_90 : decode cX5_valueOf 90 = .ok (.bipush 9, 2) := by decide +kernel
theorem dX5_valueOf_92 : decode cX5_valueOf 92 = .ok (.aload_n 0, 1) := by decide +kernel
theorem dX5_valueOf_93 : decode cX5_valueOf 93 = .ok (.getfield 18, 3) := by decide +kernel
theorem dX5_valueOf_96 : decode cX5_valueOf 96 = .ok (.iload_n 1, 1) := by decide +kernel
theorem dX5_valueOf_97 : decode cX5_valueOf 97 = .ok (.iaload, 1) := by decide +kernel
theorem dX5_valueOf_98 : decode cX5_valueOf 98 = .ok (.isub, 1) := by decide +kernel
theorem dX5_valueOf_99 : decode cX5_valueOf 99 = .ok (.invokevirtual 93, 3) := by decide +kernel
theorem dX5_valueOf_102 : decode cX5_valueOf 102 = .ok (.aload_n 0, 1) := by decide +kernel
theorem dX5_valueOf_103 : decode cX5_valueOf 103 = .ok (.getfield 21, 3) := by decide +kernel
theorem dX5_valueOf_106 : decode cX5_valueOf 106 = .ok (.iload_n 1, 1) := by decide +kernel
theorem dX5_valueOf_107 : decode cX5_valueOf 107 = .ok (.iaload, 1) := by decide +kernel
theorem dX5_valueOf_108 : decode cX5_valueOf 108 = .ok (.isub, 1) := by decide +kernel
theorem dX5_valueOf_109 : decode cX5_valueOf 109 = .ok (.invokestatic 78, 3) := by decide +kernel
theorem dX5_valueOf_112 : decode cX5_valueOf 112 = .ok (.ireturn, 1) := by decide +kernel
theorem dX5_valueOf_113 : decode cX5_valueOf 113 = .ok (.iconst 5, 1) := by decide +kernel
theorem dX5_valueOf_114 : decode cX5_valueOf 114 = .ok (.ireturn, 1) := by decide +kernel
theorem dX5_valueOf_115 : decode cX5_valueOf 115 = .ok (.aload_n 0, 1) := by decide +kernel
theorem dX5_valueOf_116 : decode cX5_valueOf 116 = .ok (.iload_n 1, 1) := by decide +kernel
theorem dX5_valueOf_117 : decode cX5_valueOf 117 = .ok (.aload_n 0, 1) := by decide +kernel
theorem dX5_valueOf_118 : decode cX5_valueOf 118 = .ok (.getfield 18, 3) := by decide +kernel
theorem dX5_valueOf_121 : decode cX5_valueOf 121 = .ok (.iload_n 1, 1) := by decide +kernel
theorem dX5_valueOf_122 : decode cX5_valueOf 122 = .ok (.iaload, 1) := by decide +kernel
theorem dX5_valueOf_123 : decode cX5_valueOf 123 = .ok (.invokevirtual 93, 3) := by decide +kernel
theorem dX5_valueOf_126 : decode cX5_valueOf 126 = .ok (.ireturn, 1) := by decide +kernel
theorem dX5_bidOf_0 : decode cX5_bidOf 0 = .ok (.iconst 0, 1) := by decide +kernel
theorem dX5_bidOf_1 : decode cX5_bidOf 1 = .ok (.iload_n 3, 1) := by decide +kernel
theorem dX5_bidOf_2 : decode cX5_bidOf 2 = .ok (.iconst 5, 1) := by decide +kernel
theorem dX5_bidOf_3 : decode cX5_bidOf 3 = .ok (.aload_n 0, 1) := by decide +kernel
theorem dX5_bidOf_4 : decode cX5_bidOf 4 = .ok (.getfield 18, 3) := by decide +kernel
theorem dX5_bidOf_7 : decode cX5_bidOf 7 = .ok (.iload_n 2, 1) := by decide +kernel
theorem dX5_bidOf_8 : decode cX5_bidOf 8 = .ok (.iaload, 1) := by decide +kernel
theorem dX5_bidOf_9 : decode cX5_bidOf 9 = .ok (.aload_n 0, 1) := by decide +kernel
theorem dX5_bidOf_10 : decode cX5_bidOf 10 = .ok (.getfield 33, 3) := by decide +kernel
theorem dX5_bidOf_13 : decode cX5_bidOf 13 = .ok (.iload_n 1, 1) := by decide +kernel
theorem dX5_bidOf_14 : decode cX5_bidOf 14 = .ok (.iaload, 1) := by decide +kernel
theorem dX5_bidOf_15 : decode cX5_bidOf 15 = .ok (.isub, 1) := by decide +kernel
theorem dX5_bidOf_16 : decode cX5_bidOf 16 = .ok (.invokestatic 96, 3) := by decide +kernel
theorem dX5_bidOf_19 : decode cX5_bidOf 19 = .ok (.imul, 1) := by decide +kernel
theorem dX5_bidOf_20 : decode cX5_bidOf 20 = .ok (.isub, 1) := by decide +kernel
theorem dX5_bidOf_21 : decode cX5_bidOf 21 = .ok (.invokestatic 78, 3) := by decide +kernel
theorem dX5_bidOf_24 : decode cX5_bidOf 24 = .ok (.istore 4, 2) := by decide +kernel
theorem dX5_bidOf_26 : decode cX5_bidOf 26 = .ok (.aload_n 0, 1) := by decide +kernel
theorem dX5_bidOf_27 : decode cX5_bidOf 27 = .ok (.getfield 24, 3) := by decide +kernel
theorem dX5_bidOf_30 : decode cX5_bidOf 30 = .ok (.iload_n 2, 1) := by decide +kernel
theorem dX5_bidOf_31 : decode cX5_bidOf 31 = .ok (.iaload, 1) := by decide +kernel
theorem dX5_bidOf_32 : decode cX5_bidOf 32 = .ok (.iload_n 1, 1) := by decide +kernel
theorem dX5_bidOf_33 : decode cX5_bidOf 33 = .ok (.if_icmp .ne 8, 3) := by decide +kernel
theorem dX5_bidOf_36 : decode cX5_bidOf 36 = .ok (.iload 4, 2) := by decide +kernel
theorem dX5_bidOf_38 : decode cX5_bidOf 38 = .ok (.goto 14, 3) := by decide +kernel
theorem dX5_bidOf_41 : decode cX5_bidOf 41 = .ok (.iload 4, 2) := by decide +kernel
theorem dX5_bidOf_43 : decode cX5_bidOf 43 = .ok (.aload_n 0, 1) := by decide +kernel
theorem dX5_bidOf_44 : decode cX5_bidOf 44 = .ok (.getfield 30, 3) := by decide +kernel
theorem dX5_bidOf_47 : decode cX5_bidOf 47 = .ok (.iload_n 1, 1) := by decide +kernel
theorem dX5_bidOf_48 : decode cX5_bidOf 48 = .ok (.iaload, 1) := by decide +kernel
theorem dX5_bidOf_49 : decode cX5_bidOf 49 = .ok (.invokestatic 100, 3) := by decide +kernel
theorem dX5_bidOf_52 : decode cX5_bidOf 52 = .ok (.ireturn, 1) := by decide +kernel
theorem dX5_bestBidder_0 : decode cX5_bestBidder 0 = .ok (.aload_n 0, 1) := by decide +kernel
theorem dX5_bestBidder_1 : decode cX5_bestBidder 1 = .ok (.getfield 24, 3) := by decide +kernel
theorem dX5_bestBidder_4 : decode cX5_bestBidder 4 = .ok (.iload_n 1, 1) := by decide +kernel
theorem dX5_bestBidder_5 : decode cX5_bestBidder 5 = .ok (.iaload, 1) := by decide +kernel
theorem dX5_bestBidder_6 : decode cX5_bestBidder 6 = .ok (.ifCond .ne 7, 3) := by decide +kernel
theorem dX5_bestBidder_9 : decode cX5_bestBidder 9 = .ok (.iconst 1, 1) := by decide +kernel
theorem dX5_bestBidder_10 : decode cX5_bestBidder 10 = .ok (.goto 4, 3) := by decide +kernel
theorem dX5_bestBidder_13 : decode cX5_bestBidder 13 = .ok (.iconst 0, 1) := by decide +kernel
theorem dX5_bestBidder_14 : decode cX5_bestBidder 14 = .ok (.istore_n 3, 1) := by decide +kernel
theorem dX5_bestBidder_15 : decode cX5_bestBidder 15 = .ok (.aload_n 0, 1) := by decide +kernel
theorem dX5_bestBidder_16 : decode cX5_bestBidder 16 = .ok (.iload_n 3, 1) := by decide +kernel
theorem dX5_bestBidder_17 : decode cX5_bestBidder 17 = .ok (.iload_n 1, 1) := by decide +kernel
theorem dX5_bestBidder_18 : decode cX5_bestBidder 18 = .ok (.iload_n 2, 1) := by decide +kernel
theorem dX5_bestBidder_19 : decode cX5_bestBidder 19 = .ok (.invokevirtual 103, 3) := by decide +kernel
theorem dX5_bestBidder_22 : decode cX5_bestBidder 22 = .ok (.istore 4, 2) := by decide +kernel
theorem dX5_bestBidder_24 : decode cX5_bestBidder 24 = .ok (.iload_n 3, 1) := by decide +kernel
theorem dX5_bestBidder_25 : decode cX5_bestBidder 25 = .ok (.iconst 1, 1) := by decide +kernel
theorem dX5_bestBidder_26 : decode cX5_bestBidder 26 = .ok (.iadd, 1) := by decide +kernel
theorem dX5_bestBidder_27 : decode cX5_bestBidder 27 = .ok (.istore 5, 2) := by decide +kernel
theorem dX5_bestBidder_29 : decode cX5_bestBidder 29 = .ok (.iload 5, 2) := by decide +kernel
theorem dX5_bestBidder_31 : decode cX5_bestBidder 31 = .ok (.bipush 6, 2) := by decide +kernel
theorem dX5_bestBidder_33 : decode cX5_bestBidder 33 = .ok (.if_icmp .ge 44, 3) := by decide +kernel
theorem dX5_bestBidder_36 : decode cX5_bestBidder 36 = .ok (.aload_n 0, 1) := by decide +kernel
theorem dX5_bestBidder_37 : decode cX5_bestBidder 37 = .ok (.iload 5, 2) := by decide +kernel
theorem dX5_bestBidder_39 : decode cX5_bestBidder 39 = .ok (.iload_n 1, 1) := by decide +kernel
theorem dX5_bestBidder_40 : decode cX5_bestBidder 40 = .ok (.iload_n 2, 1) := by decide +kernel
theorem dX5_bestBidder_41 : decode cX5_bestBidder 41 = .ok (.invokevirtual 103, 3) := by decide +kernel
theorem dX5_bestBidder_44 : decode cX5_bestBidder 44 = .ok (.istore 6, 2) := by decide +kernel
theorem dX5_bestBidder_46 : decode cX5_bestBidder 46 = .ok (.iload 5, 2) := by decide +kernel
theorem dX5_bestBidder_48 : decode cX5_bestBidder 48 = .ok (.aload_n 0, 1) := by decide +kernel
theorem dX5_bestBidder_49 : decode cX5_bestBidder 49 = .ok (.getfield 24, 3) := by decide +kernel
theorem dX5_bestBidder_52 : decode cX5_bestBidder 52 = .ok (.iload_n 1, 1) := by decide +kernel
theorem dX5_bestBidder_53 : decode cX5_bestBidder 53 = .ok (.iaload, 1) := by decide +kernel
theorem dX5_bestBidder_54 : decode cX5_bestBidder 54 = .ok (.if_icmp .eq 17, 3) := by decide +kernel
theorem dX5_bestBidder_57 : decode cX5_bestBidder 57 = .ok (.iload 6, 2) := by decide +kernel
theorem dX5_bestBidder_59 : decode cX5_bestBidder 59 = .ok (.iload 4, 2) := by decide +kernel
theorem dX5_bestBidder_61 : decode cX5_bestBidder 61 = .ok (.if_icmp .le 10, 3) := by decide +kernel
theorem dX5_bestBidder_64 : decode cX5_bestBidder 64 = .ok (.iload 5, 2) := by decide +kernel
theorem dX5_bestBidder_66 : decode cX5_bestBidder 66 = .ok (.istore_n 3, 1) := by decide +kernel
theorem dX5_bestBidder_67 : decode cX5_bestBidder 67 = .ok (.iload 6, 2) := by decide +kernel
theorem dX5_bestBidder_69 : decode cX5_bestBidder 69 = .ok (.istore 4, 2) := by decide +kernel
theorem dX5_bestBidder_71 : decode cX5_bestBidder 71 = .ok (.iinc 5 1, 3) := by decide +kernel
theorem dX5_bestBidder_74 : decode cX5_bestBidder 74 = .ok (.goto (-45), 3) := by decide +kernel
theorem dX5_bestBidder_77 : decode cX5_bestBidder 77 = .ok (.iload_n 3, 1) := by decide +kernel
theorem dX5_bestBidder_78 : decode cX5_bestBidder 78 = .ok (.ireturn, 1) := by decide +kernel
theorem dX5_sell_0 : decode cX5_sell 0 = .ok (.aload_n 0, 1) := by decide +kernel
theorem dX5_sell_1 : decode cX5_sell 1 = .ok (.getfield 24, 3) := by decide +kernel
theorem dX5_sell_4 : decode cX5_sell 4 = .ok (.iload_n 1, 1) := by decide +kernel
theorem dX5_sell_5 : decode cX5_sell 5 = .ok (.iaload, 1) := by decide +kernel
theorem dX5_sell_6 : decode cX5_sell 6 = .ok (.istore 4, 2) := by decide +kernel
theorem dX5_sell_8 : decode cX5_sell 8 = .ok (.aload_n 0, 1) := by decide +kernel
theorem dX5_sell_9 : decode cX5_sell 9 = .ok (.getfield 30, 3) := by decide +kernel
theorem dX5_sell_12 : decode cX5_sell 12 = .ok (.iload 4, 2) := by decide +kernel
theorem dX5_sell_14 : decode cX5_sell 14 = .ok (.iaload, 1) := by decide +kernel
theorem dX5_sell_15 : decode cX5_sell 15 = .ok (.iload_n 3, 1) := by decide +kernel
theorem dX5_sell_16 : decode cX5_sell 16 = .ok (.iadd, 1) := by decide +kernel
theorem dX5_sell_17 : decode cX5_sell 17 = .ok (.istore 5, 2) := by decide +kernel
theorem dX5_sell_19 : decode cX5_sell 19 = .ok (.aload_n 0, 1) := by decide +kernel
theorem dX5_sell_20 : decode cX5_sell 20 = .ok (.getfield 30, 3) := by decide +kernel
theorem dX5_sell_23 : decode cX5_sell 23 = .ok (.iload_n 2, 1) := by decide +kernel
theorem dX5_sell_24 : decode cX5_sell 24 = .ok (.dup2, 1) := by decide +kernel
theorem dX5_sell_25 : decode cX5_sell 25 = .ok (.iaload, 1) := by decide +kernel
theorem dX5_sell_26 : decode cX5_sell 26 = .ok (.iload_n 3, 1) := by decide +kernel
theorem dX5_sell_27 : decode cX5_sell 27 = .ok (.isub, 1) := by decide +kernel
theorem dX5_sell_28 : decode cX5_sell 28 = .ok (.iastore, 1) := by decide +kernel
theorem dX5_sell_29 : decode cX5_sell 29 = .ok (.aload_n 0, 1) := by decide +kernel
theorem dX5_sell_30 : decode cX5_sell 30 = .ok (.getfield 30, 3) := by decide +kernel
theorem dX5_sell_33 : decode cX5_sell 33 = .ok (.iload 4, 2) := by decide +kernel
theorem dX5_sell_35 : decode cX5_sell 35 = .ok (.iload 5, 2) := by decide +kernel
theorem dX5_sell_37 : decode cX5_sell 37 = .ok (.sipush 9999, 3) := by decide +kernel
theorem dX5_sell_40 : decode cX5_sell 40 = .ok (.invokestatic 100, 3) := by decide +kernel
theorem dX5_sell_43 : decode cX5_sell 43 = .ok (.iastore, 1) := by decide +kernel
theorem dX5_sell_44 : decode cX5_sell 44 = .ok (.aload_n 0, 1) := by decide +kernel
theorem dX5_sell_45 : decode cX5_sell 45 = .ok (.dup, 1) := by decide +kernel
theorem dX5_sell_46 : decode cX5_sell 46 = .ok (.getfield 62, 3) := by decide +kernel
theorem dX5_sell_49 : decode cX5_sell 49 = .ok (.iload 5, 2) := by decide +kernel
theorem dX5_sell_51 : decode cX5_sell 51 = .ok (.aload_n 0, 1) := by decide +kernel
theorem dX5_sell_52 : decode cX5_sell 52 = .ok (.getfield 30, 3) := by decide +kernel
theorem dX5_sell_55 : decode cX5_sell 55 = .ok (.iload 4, 2) := by decide +kernel
theorem dX5_sell_57 : decode cX5_sell 57 = .ok (.iaload, 1) := by decide +kernel
theorem dX5_sell_58 : decode cX5_sell 58 = .ok (.isub, 1) := by decide +kernel
theorem dX5_sell_59 : decode cX5_sell 59 = .ok (.iadd, 1) := by decide +kernel
theorem dX5_sell_60 : decode cX5_sell 60 = .ok (.putfield 62, 3) := by decide +kernel
theorem dX5_sell_63 : decode cX5_sell 63 = .ok (.aload_n 0, 1) := by decide +kernel
theorem dX5_sell_64 : decode cX5_sell 64 = .ok (.getfield 24, 3) := by decide +kernel
theorem dX5_sell_67 : decode cX5_sell 67 = .ok (.iload_n 1, 1) := by decide +kernel
theorem dX5_sell_68 : decode cX5_sell 68 = .ok (.iload_n 2, 1) := by decide +kernel
theorem dX5_sell_69 : decode cX5_sell 69 = .ok (.iastore, 1) := by decide +kernel
theorem dX5_sell_70 : decode cX5_sell 70 = .ok (.aload_n 0, 1) := by decide +kernel
theorem dX5_sell_71 : decode cX5_sell 71 = .ok (.getfield 27, 3) := by decide +kernel
theorem dX5_sell_74 : decode cX5_sell 74 = .ok (.iload_n 1, 1) := by decide +kernel
theorem dX5_sell_75 : decode cX5_sell 75 = .ok (.dup2, 1) := by decide +kernel
theorem dX5_sell_76 : decode cX5_sell 76 = .ok (.iaload, 1) := by decide +kernel
theorem dX5_sell_77 : decode cX5_sell 77 = .ok (.iconst 1, 1) := by decide +kernel
theorem dX5_sell_78 : decode cX5_sell 78 = .ok (.iload_n 2, 1) := by decide +kernel
theorem dX5_sell_79 : decode cX5_sell 79 = .ok (.ishl, 1) := by decide +kernel
theorem dX5_sell_80 : decode cX5_sell 80 = .ok (.ior, 1) := by decide +kernel
theorem dX5_sell_81 : decode cX5_sell 81 = .ok (.iastore, 1) := by decide +kernel
theorem dX5_sell_82 : decode cX5_sell 82 = .ok (.aload_n 0, 1) := by decide +kernel
theorem dX5_sell_83 : decode cX5_sell 83 = .ok (.dup, 1) := by decide +kernel
theorem dX5_sell_84 : decode cX5_sell 84 = .ok (.getfield 59, 3) := by decide +kernel
theorem dX5_sell_87 : decode cX5_sell 87 = .ok (.iconst 1, 1) := by decide +kernel
theorem dX5_sell_88 : decode cX5_sell 88 = .ok (.iadd, 1) := by decide +kernel
theorem dX5_sell_89 : decode cX5_sell 89 = .ok (.putfield 59, 3) := by decide +kernel
theorem dX5_sell_92 : decode cX5_sell 92 = .ok (.return_, 1) := by decide +kernel
theorem dX5_marketsLeft_0 : decode cX5_marketsLeft 0 = .ok (.iload_n 1, 1) := by decide +kernel
theorem dX5_marketsLeft_1 : decode cX5_marketsLeft 1 = .ok (.sipush 9999, 3) := by decide +kernel
theorem dX5_marketsLeft_4 : decode cX5_marketsLeft 4 = .ok (.aload_n 0, 1) := by decide +kernel
theorem dX5_marketsLeft_5 : decode cX5_marketsLeft 5 = .ok (.getfield 65, 3) := by decide +kernel
theorem dX5_marketsLeft_8 : decode cX5_marketsLeft 8 = .ok (.isub, 1) := by decide +kernel
theorem dX5_marketsLeft_9 : decode cX5_marketsLeft 9 = .ok (.invokestatic 100, 3) := by decide +kernel
theorem dX5_marketsLeft_12 : decode cX5_marketsLeft 12 = .ok (.ireturn, 1) := by decide +kernel
theorem dX5_goOn_0 : decode cX5_goOn 0 = .ok (.iconst 0, 1) := by decide +kernel
theorem dX5_goOn_1 : decode cX5_goOn 1 = .ok (.istore_n 2, 1) := by decide +kernel
theorem dX5_goOn_2 : decode cX5_goOn 2 = .ok (.iload_n 2, 1) := by decide +kernel
theorem dX5_goOn_3 : decode cX5_goOn 3 = .ok (.iload_n 1, 1) := by decide +kernel
theorem dX5_goOn_4 : decode cX5_goOn 4 = .ok (.if_icmp .ge 27, 3) := by decide +kernel
theorem dX5_goOn_7 : decode cX5_goOn 7 = .ok (.aload_n 0, 1) := by decide +kernel
theorem dX5_goOn_8 : decode cX5_goOn 8 = .ok (.invokevirtual 106, 3) := by decide +kernel
theorem dX5_goOn_11 : decode cX5_goOn 11 = .ok (.aload_n 0, 1) := by decide +kernel
theorem dX5_goOn_12 : decode cX5_goOn 12 = .ok (.invokevirtual 109, 3) := by decide +kernel
theorem dX5_goOn_15 : decode cX5_goOn 15 = .ok (.aload_n 0, 1) := by decide +kernel
theorem dX5_goOn_16 : decode cX5_goOn 16 = .ok (.dup, 1) := by decide +kernel
theorem dX5_goOn_17 : decode cX5_goOn 17 = .ok (.getfield 65, 3) := by decide +kernel
theorem dX5_goOn_20 : decode cX5_goOn 20 = .ok (.iconst 1, 1) := by decide +kernel
theorem dX5_goOn_21 : decode cX5_goOn 21 = .ok (.iadd, 1) := by decide +kernel
theorem dX5_goOn_22 : decode cX5_goOn 22 = .ok (.putfield 65, 3) := by decide +kernel
theorem dX5_goOn_25 : decode cX5_goOn 25 = .ok (.iinc 2 1, 3) := by decide +kernel
theorem dX5_goOn_28 : decode cX5_goOn 28 = .ok (.goto (-26), 3) := by decide +kernel
theorem dX5_goOn_31 : decode cX5_goOn 31 = .ok (.return_, 1) := by decide +kernel
theorem dX5_wearDays_0 : decode cX5_wearDays 0 = .ok (.aload_n 0, 1) := by decide +kernel
theorem dX5_wearDays_1 : decode cX5_wearDays 1 = .ok (.getfield 36, 3) := by decide +kernel
theorem dX5_wearDays_4 : decode cX5_wearDays 4 = .ok (.iconst 1, 1) := by decide +kernel
theorem dX5_wearDays_5 : decode cX5_wearDays 5 = .ok (.iaload, 1) := by decide +kernel
theorem dX5_wearDays_6 : decode cX5_wearDays 6 = .ok (.istore_n 1, 1) := by decide +kernel
theorem dX5_wearDays_7 : decode cX5_wearDays 7 = .ok (.iconst 0, 1) := by decide +kernel
theorem dX5_wearDays_8 : decode cX5_wearDays 8 = .ok (.istore_n 2, 1) := by decide +kernel
theorem dX5_wearDays_9 : decode cX5_wearDays 9 = .ok (.iload_n 2, 1) := by decide +kernel
theorem dX5_wearDays_10 : decode cX5_wearDays 10 = .ok (.aload_n 0, 1) := by decide +kernel
theorem dX5_wearDays_11 : decode cX5_wearDays 11 = .ok (.getfield 53, 3) := by decide +kernel
theorem dX5_wearDays_14 : decode cX5_wearDays 14 = .ok (.if_icmp .ge 76, 3) := by decide +kernel
theorem dX5_wearDays_17 : decode cX5_wearDays 17 = .ok (.aload_n 0, 1) := by decide +kernel
theorem dX5_wearDays_18 : decode cX5_wearDays 18 = .ok (.invokevirtual 70, 3) := by decide +kernel
theorem dX5_wearDays_21 : decode cX5_wearDays 21 = .ok (.bipush 10, 2) := by decide +kernel
theorem dX5_wearDays_23 : decode cX5_wearDays 23 = .ok (.irem, 1) := by decide +kernel
theorem dX5_wearDays_24 : decode cX5_wearDays 24 = .ok (.istore_n 3, 1) := by decide +kernel
theorem dX5_wearDays_25 : decode cX5_wearDays 25 = .ok (.iload_n 1, 1) := by decide +kernel
theorem dX5_wearDays_26 : decode cX5_wearDays 26 = .ok (.ifCond .ge 9, 3) := by decide +kernel
theorem dX5_wearDays_29 : decode cX5_wearDays 29 = .ok (.iload_n 3, 1) := by decide +kernel
theorem dX5_wearDays_30 : decode cX5_wearDays 30 = .ok (.iconst 3, 1) := by decide +kernel
theorem dX5_wearDays_31 : decode cX5_wearDays 31 = .ok (.idiv, 1) := by decide +kernel
theorem dX5_wearDays_32 : decode cX5_wearDays 32 = .ok (.goto 30, 3) := by decide +kernel
theorem dX5_wearDays_35 : decode cX5_wearDays 35 = .ok (.aload_n 0, 1) := by decide +kernel
theorem dX5_wearDays_36 : decode cX5_wearDays 36 = .ok (.getfield 39, 3) := by decide +kernel
theorem dX5_wearDays_39 : decode cX5_wearDays 39 = .ok (.iload_n 1, 1) := by decide +kernel
theorem dX5_wearDays_40 : decode cX5_wearDays 40 = .ok (.iload_n 3, 1) := by decide +kernel
theorem dX5_wearDays_41 : decode cX5_wearDays 41 = .ok (.aload_n 0, 1) := by decide +kernel
theorem dX5_wearDays_42 : decode cX5_wearDays 42 = .ok (.getfield 18, 3) := by decide +kernel
theorem dX5_wearDays_45 : decode cX5_wearDays 45 = .ok (.iload_n 2, 1) := by decide +kernel
theorem dX5_wearDays_46 : decode cX5_wearDays 46 = .ok (.iaload, 1) := by decide +kernel
theorem dX5_wearDays_47 : decode cX5_wearDays 47 = .ok (.aload_n 0, 1) := by decide +kernel
theorem dX5_wearDays_48 : decode cX5_wearDays 48 = .ok (.getfield 21, 3) := by decide +kernel
theorem dX5_wearDays_51 : decode cX5_wearDays 51 = .ok (.iload_n 2, 1) := by decide +kernel
theorem dX5_wearDays_52 : decode cX5_wearDays 52 = .ok (.iaload, 1) := by decide +kernel
theorem dX5_wearDays_53 : decode cX5_wearDays 53 = .ok (.invokevirtual 84, 3) := by decide +kernel
theorem dX5_wearDays_56 : decode cX5_wearDays 56 = .ok (.iconst 0, 1) := by decide +kernel
theorem dX5_wearDays_57 : decode cX5_wearDays 57 = .ok (.bipush 20, 2) := by decide +kernel
theorem dX5_wearDays_59 : decode cX5_wearDays 59 = .ok (.invokestatic 89, 3) := by decide +kernel
theorem dX5_wearDays_62 : decode cX5_wearDays 62 = .ok (.istore 4, 2) := by decide +kernel
theorem dX5_wearDays_64 : decode cX5_wearDays 64 = .ok (.aload_n 0, 1) := by decide +kernel
theorem dX5_wearDays_65 : decode cX5_wearDays 65 = .ok (.getfield 21, 3) := by decide +kernel
theorem dX5_wearDays_68 : decode cX5_wearDays 68 = .ok (.iload_n 2, 1) := by decide +kernel
theorem dX5_wearDays_69 : decode cX5_wearDays 69 = .ok (.aload_n 0, 1) := by decide +kernel
theorem dX5_wearDays_70 : decode cX5_wearDays 70 = .ok (.getfield 21, 3) := by decide +kernel
theorem dX5_wearDays_73 : decode cX5_wearDays 73 = .ok (.iload_n 2, 1) := by decide +kernel
theorem dX5_wearDays_74 : decode cX5_wearDays 74 = .ok (.iaload, 1) := by decide +kernel
theorem dX5_wearDays_75 : decode cX5_wearDays 75 = .ok (.iload 4, 2) := by decide +kernel
theorem dX5_wearDays_77 : decode cX5_wearDays 77 = .ok (.iadd, 1) := by decide +kernel
theorem dX5_wearDays_78 : decode cX5_wearDays 78 = .ok (.bipush 99, 2) := by decide +kernel
theorem dX5_wearDays_80 : decode cX5_wearDays 80 = .ok (.invokestatic 100, 3) := by decide +kernel
theorem dX5_wearDays_83 : decode cX5_wearDays 83 = .ok (.iastore, 1) := by decide +kernel
theorem dX5_wearDays_84 : decode cX5_wearDays 84 = .ok (.iinc 2 1, 3) := by decide +kernel
theorem dX5_wearDays_87 : decode cX5_wearDays 87 = .ok (.goto (-78), 3) := by decide +kernel
theorem dX5_wearDays_90 : decode cX5_wearDays 90 = .ok (.return_, 1) := by decide +kernel
theorem dX5_sellDays_0 : decode cX5_sellDays 0 = .ok (.iconst 0, 1) := by decide +kernel
theorem dX5_sellDays_1 : decode cX5_sellDays 1 = .ok (.istore_n 1, 1) := by decide +kernel
theorem dX5_sellDays_2 : decode cX5_sellDays 2 = .ok (.iload_n 1, 1) := by decide +kernel
theorem dX5_sellDays_3 : decode cX5_sellDays 3 = .ok (.aload_n 0, 1) := by decide +kernel
theorem dX5_sellDays_4 : decode cX5_sellDays 4 = .ok (.getfield 53, 3) := by decide +kernel
theorem dX5_sellDays_7 : decode cX5_sellDays 7 = .ok (.if_icmp .ge 56, 3) := by decide +kernel
theorem dX5_sellDays_10 : decode cX5_sellDays 10 = .ok (.aload_n 0, 1) := by decide +kernel
theorem dX5_sellDays_11 : decode cX5_sellDays 11 = .ok (.iload_n 1, 1) := by decide +kernel
theorem dX5_sellDays_12 : decode cX5_sellDays 12 = .ok (.invokevirtual 112, 3) := by decide +kernel
theorem dX5_sellDays_15 : decode cX5_sellDays 15 = .ok (.istore_n 2, 1) := by decide +kernel
theorem dX5_sellDays_16 : decode cX5_sellDays 16 = .ok (.aload_n 0, 1) := by decide +kernel
theorem dX5_sellDays_17 : decode cX5_sellDays 17 = .ok (.iload_n 1, 1) := by decide +kernel
theorem dX5_sellDays_18 : decode cX5_sellDays 18 = .ok (.iload_n 2, 1) := by decide +kernel
theorem dX5_sellDays_19 : decode cX5_sellDays 19 = .ok (.invokevirtual 115, 3) := by decide +kernel
theorem dX5_sellDays_22 : decode cX5_sellDays 22 = .ok (.istore_n 3, 1) := by decide +kernel
theorem dX5_sellDays_23 : decode cX5_sellDays 23 = .ok (.aload_n 0, 1) := by decide +kernel
theorem dX5_sellDays_24 : decode cX5_sellDays 24 = .ok (.iload_n 3, 1) := by decide +kernel
theorem dX5_sellDays_25 : decode cX5_sellDays 25 = .ok (.iload_n 1, 1) := by decide +kernel
theorem dX5_sellDays_26 : decode cX5_sellDays 26 = .ok (.iload_n 2, 1) := by decide +kernel
theorem dX5_sellDays_27 : decode cX5_sellDays 27 = .ok (.invokevirtual 103, 3) := by decide +kernel
theorem dX5_sellDays_30 : decode cX5_sellDays 30 = .ok (.istore 4, 2) := by decide +kernel
theorem dX5_sellDays_32 : decode cX5_sellDays 32 = .ok (.iload 4, 2) := by decide +kernel
theorem dX5_sellDays_34 : decode cX5_sellDays 34 = .ok (.aload_n 0, 1) := by decide +kernel
theorem dX5_sellDays_35 : decode cX5_sellDays 35 = .ok (.aload_n 0, 1) := by decide +kernel
theorem dX5_sellDays_36 : decode cX5_sellDays 36 = .ok (.getfield 24, 3) := by decide +kernel
theorem dX5_sellDays_39 : decode cX5_sellDays 39 = .ok (.iload_n 1, 1) := by decide +kernel
theorem dX5_sellDays_40 : decode cX5_sellDays 40 = .ok (.iaload, 1) := by decide +kernel
theorem dX5_sellDays_41 : decode cX5_sellDays 41 = .ok (.iload_n 1, 1) := by decide +kernel
theorem dX5_sellDays_42 : decode cX5_sellDays 42 = .ok (.iload_n 2, 1) := by decide +kernel
theorem dX5_sellDays_43 : decode cX5_sellDays 43 = .ok (.invokevirtual 103, 3) := by decide +kernel
theorem dX5_sellDays_46 : decode cX5_sellDays 46 = .ok (.if_icmp .le 11, 3) := by decide +kernel
theorem dX5_sellDays_49 : decode cX5_sellDays 49 = .ok (.aload_n 0, 1) := by decide +kernel
theorem dX5_sellDays_50 : decode cX5_sellDays 50 = .ok (.iload_n 1, 1) := by decide +kernel
theorem dX5_sellDays_51 : decode cX5_sellDays 51 = .ok (.iload_n 3, 1) := by decide +kernel
theorem dX5_sellDays_52 : decode cX5_sellDays 52 = .ok (.iload 4, 2) := by decide +kernel
theorem dX5_sellDays_54 : decode cX5_sellDays 54 = .ok (.invokevirtual 118, 3) := by decide +kernel
theorem dX5_sellDays_57 : decode cX5_sellDays 57 = .ok (.iinc 1 1, 3) := by decide +kernel
theorem dX5_sellDays_60 : decode cX5_sellDays 60 = .ok (.goto (-58), 3) := by decide +kernel
theorem dX5_sellDays_63 : decode cX5_sellDays 63 = .ok (.return_, 1) := by decide +kernel
theorem dX5_allCoins_0 : decode cX5_allCoins 0 = .ok (.iconst 0, 1) := by decide +kernel
theorem dX5_allCoins_1 : decode cX5_allCoins 1 = .ok (.istore_n 1, 1) := by decide +kernel
theorem dX5_allCoins_2 : decode cX5_allCoins 2 = .ok (.iconst 0, 1) := by decide +kernel
theorem dX5_allCoins_3 : decode cX5_allCoins 3 = .ok (.istore_n 2, 1) := by decide +kernel
theorem dX5_allCoins_4 : decode cX5_allCoins 4 = .ok (.iload_n 2, 1) := by decide +kernel
theorem dX5_allCoins_5 : decode cX5_allCoins 5 = .ok (.bipush 6, 2) := by decide +kernel
theorem dX5_allCoins_7 : decode cX5_allCoins 7 = .ok (.if_icmp .ge 18, 3) := by decide +kernel
theorem dX5_allCoins_10 : decode cX5_allCoins 10 = .ok (.iload_n 1, 1) := by decide +kernel
theorem dX5_allCoins_11 : decode cX5_allCoins 11 = .ok (.aload_n 0, 1) := by decide +kernel
theorem dX5_allCoins_12 : decode cX5_allCoins 12 = .ok (.getfield 30, 3) := by decide +kernel
theorem dX5_allCoins_15 : decode cX5_allCoins 15 = .ok (.iload_n 2, 1) := by decide +kernel
theorem dX5_allCoins_16 : decode cX5_allCoins 16 = .ok (.iaload, 1) := by decide +kernel
theorem dX5_allCoins_17 : decode cX5_allCoins 17 = .ok (.iadd, 1) := by decide +kernel
theorem dX5_allCoins_18 : decode cX5_allCoins 18 = .ok (.istore_n 1, 1) := by decide +kernel
theorem dX5_allCoins_19 : decode cX5_allCoins 19 = .ok (.iinc 2 1, 3) := by decide +kernel
theorem dX5_allCoins_22 : decode cX5_allCoins 22 = .ok (.goto (-18), 3) := by decide +kernel
theorem dX5_allCoins_25 : decode cX5_allCoins 25 = .ok (.iload_n 1, 1) := by decide +kernel
theorem dX5_allCoins_26 : decode cX5_allCoins 26 = .ok (.ireturn, 1) := by decide +kernel
theorem dX5_allWear_0 : decode cX5_allWear 0 = .ok (.iconst 0, 1) := by decide +kernel
theorem dX5_allWear_1 : decode cX5_allWear 1 = .ok (.istore_n 1, 1) := by decide +kernel
theorem dX5_allWear_2 : decode cX5_allWear 2 = .ok (.iconst 0, 1) := by decide +kernel
theorem dX5_allWear_3 : decode cX5_allWear 3 = .ok (.istore_n 2, 1) := by decide +kernel
theorem dX5_allWear_4 : decode cX5_allWear 4 = .ok (.iload_n 2, 1) := by decide +kernel
theorem dX5_allWear_5 : decode cX5_allWear 5 = .ok (.aload_n 0, 1) := by decide +kernel
theorem dX5_allWear_6 : decode cX5_allWear 6 = .ok (.getfield 53, 3) := by decide +kernel
theorem dX5_allWear_9 : decode cX5_allWear 9 = .ok (.if_icmp .ge 18, 3) := by decide +kernel
theorem dX5_allWear_12 : decode cX5_allWear 12 = .ok (.iload_n 1, 1) := by decide +kernel
theorem dX5_allWear_13 : decode cX5_allWear 13 = .ok (.aload_n 0, 1) := by decide +kernel
theorem dX5_allWear_14 : decode cX5_allWear 14 = .ok (.getfield 21, 3) := by decide +kernel
theorem dX5_allWear_17 : decode cX5_allWear 17 = .ok (.iload_n 2, 1) := by decide +kernel
theorem dX5_allWear_18 : decode cX5_allWear 18 = .ok (.iaload, 1) := by decide +kernel
theorem dX5_allWear_19 : decode cX5_allWear 19 = .ok (.iadd, 1) := by decide +kernel
theorem dX5_allWear_20 : decode cX5_allWear 20 = .ok (.istore_n 1, 1) := by decide +kernel
theorem dX5_allWear_21 : decode cX5_allWear 21 = .ok (.iinc 2 1, 3) := by decide +kernel
theorem dX5_allWear_24 : decode cX5_allWear 24 = .ok (.goto (-20), 3) := by decide +kernel
theorem dX5_allWear_27 : decode cX5_allWear 27 = .ok (.iload_n 1, 1) := by decide +kernel
theorem dX5_allWear_28 : decode cX5_allWear 28 = .ok (.ireturn, 1) := by decide +kernel
theorem dX5_allValue_0 : decode cX5_allValue 0 = .ok (.iconst 0, 1) := by decide +kernel
theorem dX5_allValue_1 : decode cX5_allValue 1 = .ok (.istore_n 1, 1) := by decide +kernel
theorem dX5_allValue_2 : decode cX5_allValue 2 = .ok (.iconst 0, 1) := by decide +kernel
theorem dX5_allValue_3 : decode cX5_allValue 3 = .ok (.istore_n 2, 1) := by decide +kernel
theorem dX5_allValue_4 : decode cX5_allValue 4 = .ok (.iload_n 2, 1) := by decide +kernel
theorem dX5_allValue_5 : decode cX5_allValue 5 = .ok (.aload_n 0, 1) := by decide +kernel
theorem dX5_allValue_6 : decode cX5_allValue 6 = .ok (.getfield 53, 3) := by decide +kernel
theorem dX5_allValue_9 : decode cX5_allValue 9 = .ok (.if_icmp .ge 17, 3) := by decide +kernel
theorem dX5_allValue_12 : decode cX5_allValue 12 = .ok (.iload_n 1, 1) := by decide +kernel
theorem dX5_allValue_13 : decode cX5_allValue 13 = .ok (.aload_n 0, 1) := by decide +kernel
theorem dX5_allValue_14 : decode cX5_allValue 14 = .ok (.iload_n 2, 1) := by decide +kernel
theorem dX5_allValue_15 : decode cX5_allValue 15 = .ok (.invokevirtual 112, 3) := by decide +kernel
theorem dX5_allValue_18 : decode cX5_allValue 18 = .ok (.iadd, 1) := by decide +kernel
theorem dX5_allValue_19 : decode cX5_allValue 19 = .ok (.istore_n 1, 1) := by decide +kernel
theorem dX5_allValue_20 : decode cX5_allValue 20 = .ok (.iinc 2 1, 3) := by decide +kernel
theorem dX5_allValue_23 : decode cX5_allValue 23 = .ok (.goto (-19), 3) := by decide +kernel
theorem dX5_allValue_26 : decode cX5_allValue 26 = .ok (.iload_n 1, 1) := by decide +kernel
theorem dX5_allValue_27 : decode cX5_allValue 27 = .ok (.ireturn, 1) := by decide +kernel
theorem dX5_howMany_0 : decode cX5_howMany 0 = .ok (.iconst 0, 1) := by decide +kernel
theorem dX5_howMany_1 : decode cX5_howMany 1 = .ok (.istore_n 3, 1) := by decide +kernel
theorem dX5_howMany_2 : decode cX5_howMany 2 = .ok (.iconst 0, 1) := by decide +kernel
theorem dX5_howMany_3 : decode cX5_howMany 3 = .ok (.istore 4, 2) := by decide +kernel
theorem dX5_howMany_5 : decode cX5_howMany 5 = .ok (.iload 4, 2) := by decide +kernel
theorem dX5_howMany_7 : decode cX5_howMany 7 = .ok (.aload_n 0, 1) := by decide +kernel
theorem dX5_howMany_8 : decode cX5_howMany 8 = .ok (.getfield 53, 3) := by decide +kernel
theorem dX5_howMany_11 : decode cX5_howMany 11 = .ok (.if_icmp .ge 34, 3) := by decide +kernel
theorem dX5_howMany_14 : decode cX5_howMany 14 = .ok (.aload_n 0, 1) := by decide +kernel
theorem dX5_howMany_15 : decode cX5_howMany 15 = .ok (.getfield 15, 3) := by decide +kernel
theorem dX5_howMany_18 : decode cX5_howMany 18 = .ok (.iload 4, 2) := by decide +kernel
theorem dX5_howMany_20 : decode cX5_howMany 20 = .ok (.iaload, 1) := by decide +kernel
theorem dX5_howMany_21 : decode cX5_howMany 21 = .ok (.iload_n 1, 1) := by decide +kernel
theorem dX5_howMany_22 : decode cX5_howMany 22 = .ok (.if_icmp .ne 17, 3) := by decide +kernel
theorem dX5_howMany_25 : decode cX5_howMany 25 = .ok (.aload_n 0, 1) := by decide +kernel
theorem dX5_howMany_26 : decode cX5_howMany 26 = .ok (.getfield 18, 3) := by decide +kernel
theorem dX5_howMany_29 : decode cX5_howMany 29 = .ok (.iload 4, 2) := by decide +kernel
theorem dX5_howMany_31 : decode cX5_howMany 31 = .ok (.iaload, 1) := by decide +kernel
theorem dX5_howMany_32 : decode cX5_howMany 32 = .ok (.iload_n 2, 1) := by decide +kernel
theorem dX5_howMany_33 : decode cX5_howMany 33 = .ok (.if_icmp .ne 6, 3) := by decide +kernel
theorem dX5_howMany_36 : decode cX5_howMany 36 = .ok (.iinc 3 1, 3) := by decide +kernel
theorem dX5_howMany_39 : decode cX5_howMany 39 = .ok (.iinc 4 1, 3) := by decide +kernel
theorem dX5_howMany_42 : decode cX5_howMany 42 = .ok (.goto (-37), 3) := by decide +kernel
theorem dX5_howMany_45 : decode cX5_howMany 45 = .ok (.iload_n 3, 1) := by decide +kernel
theorem dX5_howMany_46 : decode cX5_howMany 46 = .ok (.ireturn, 1) := by decide +kernel
theorem dX5_trueTone_0 : decode cX5_trueTone 0 = .ok (.iconst 0, 1) := by decide +kernel
theorem dX5_trueTone_1 : decode cX5_trueTone 1 = .ok (.istore_n 2, 1) := by decide +kernel
theorem dX5_trueTone_2 : decode cX5_trueTone 2 = .ok (.iconst 1, 1) := by decide +kernel
theorem dX5_trueTone_3 : decode cX5_trueTone 3 = .ok (.istore_n 3, 1) := by decide +kernel
theorem dX5_trueTone_4 : decode cX5_trueTone 4 = .ok (.iload_n 3, 1) := by decide +kernel
theorem dX5_trueTone_5 : decode cX5_trueTone 5 = .ok (.bipush 9, 2) := by decide +kernel
theorem dX5_trueTone_7 : decode cX5_trueTone 7 = .ok (.if_icmp .gt 26, 3) := by decide +kernel
theorem dX5_trueTone_10 : decode cX5_trueTone 10 = .ok (.aload_n 0, 1) := by decide +kernel
theorem dX5_trueTone_11 : decode cX5_trueTone 11 = .ok (.iload_n 1, 1) := by decide +kernel
theorem dX5_trueTone_12 : decode cX5_trueTone 12 = .ok (.iload_n 3, 1) := by decide +kernel
theorem dX5_trueTone_13 : decode cX5_trueTone 13 = .ok (.invokevirtual 122, 3) := by decide +kernel
theorem dX5_trueTone_16 : decode cX5_trueTone 16 = .ok (.aload_n 0, 1) := by decide +kernel
theorem dX5_trueTone_17 : decode cX5_trueTone 17 = .ok (.iload_n 1, 1) := by decide +kernel
theorem dX5_trueTone_18 : decode cX5_trueTone 18 = .ok (.iload_n 2, 1) := by decide +kernel
theorem dX5_trueTone_19 : decode cX5_trueTone 19 = .ok (.invokevirtual 122, 3) := by decide +kernel
theorem dX5_trueTone_22 : decode cX5_trueTone 22 = .ok (.if_icmp .le 5, 3) := by decide +kernel
theorem dX5_trueTone_25 : decode cX5_trueTone 25 = .ok (.iload_n 3, 1) := by decide +kernel
theorem dX5_trueTone_26 : decode cX5_trueTone 26 = .ok (.istore_n 2, 1) := by decide +kernel
theorem dX5_trueTone_27 : decode cX5_trueTone 27 = .ok (.iinc 3 1, 3) := by decide +kernel
theorem dX5_trueTone_30 : decode cX5_trueTone 30 = .ok (.goto (-26), 3) := by decide +kernel
theorem dX5_trueTone_33 : decode cX5_trueTone 33 = .ok (.iload_n 2, 1) := by decide +kernel
theorem dX5_trueTone_34 : decode cX5_trueTone 34 = .ok (.ireturn, 1) := by decide +kernel
theorem dX5_falseDays_0 : decode cX5_falseDays 0 = .ok (.iconst 0, 1) := by decide +kernel
theorem dX5_falseDays_1 : decode cX5_falseDays 1 = .ok (.istore_n 1, 1) := by decide +kernel
theorem dX5_falseDays_2 : decode cX5_falseDays 2 = .ok (.iconst 0, 1) := by decide +kernel
theorem dX5_falseDays_3 : decode cX5_falseDays 3 = .ok (.istore_n 2, 1) := by decide +kernel
theorem dX5_falseDays_4 : decode cX5_falseDays 4 = .ok (.iload_n 2, 1) := by decide +kernel
theorem dX5_falseDays_5 : decode cX5_falseDays 5 = .ok (.aload_n 0, 1) := by decide +kernel
theorem dX5_falseDays_6 : decode cX5_falseDays 6 = .ok (.getfield 53, 3) := by decide +kernel
theorem dX5_falseDays_9 : decode cX5_falseDays 9 = .ok (.if_icmp .ge 31, 3) := by decide +kernel
theorem dX5_falseDays_12 : decode cX5_falseDays 12 = .ok (.aload_n 0, 1) := by decide +kernel
theorem dX5_falseDays_13 : decode cX5_falseDays 13 = .ok (.getfield 18, 3) := by decide +kernel
theorem dX5_falseDays_16 : decode cX5_falseDays 16 = .ok (.iload_n 2, 1) := by decide +kernel
theorem dX5_falseDays_17 : decode cX5_falseDays 17 = .ok (.iaload, 1) := by decide +kernel
theorem dX5_falseDays_18 : decode cX5_falseDays 18 = .ok (.aload_n 0, 1) := by decide +kernel
theorem dX5_falseDays_19 : decode cX5_falseDays 19 = .ok (.aload_n 0, 1) := by decide +kernel
theorem dX5_falseDays_20 : decode cX5_falseDays 20 = .ok (.getfield 15, 3) := by decide +kernel
theorem dX5_falseDays_23 : decode cX5_falseDays 23 = .ok (.iload_n 2, 1) := by decide +kernel
theorem dX5_falseDays_24 : decode cX5_falseDays 24 = .ok (.iaload, 1) := by decide +kernel
theorem dX5_falseDays_25 : decode cX5_falseDays 25 = .ok (.invokevirtual 125, 3) := by decide +kernel
theorem dX5_falseDays_28 : decode cX5_falseDays 28 = .ok (.if_icmp .eq 6, 3) := by decide +kernel
theorem dX5_falseDays_31 : decode cX5_falseDays 31 = .ok (.iinc 1 1, 3) := by decide +kernel
theorem dX5_falseDays_34 : decode cX5_falseDays 34 = .ok (.iinc 2 1, 3) := by decide +kernel
theorem dX5_falseDays_37 : decode cX5_falseDays 37 = .ok (.goto (-33), 3) := by decide +kernel
theorem dX5_falseDays_40 : decode cX5_falseDays 40 = .ok (.iload_n 1, 1) := by decide +kernel
theorem dX5_falseDays_41 : decode cX5_falseDays 41 = .ok (.ireturn, 1) := by decide +kernel
theorem dX6_init_0 : decode cX6_init 0 = .ok (.aload_n 0, 1) := by decide +kernel
theorem dX6_init_1 : decode cX6_init 1 = .ok (.invokespecial 1, 3) := by decide +kernel
theorem dX6_init_4 : decode cX6_init 4 = .ok (.aload_n 0, 1) := by decide +kernel
theorem dX6_init_5 : decode cX6_init 5 = .ok (.new 7, 3) := by decide +kernel
theorem dX6_init_8 : decode cX6_init 8 = .ok (.dup, 1) := by decide +kernel
theorem dX6_init_9 : decode cX6_init 9 = .ok (.invokespecial 9, 3) := by decide +kernel
theorem dX6_init_12 : decode cX6_init 12 = .ok (.putfield 10, 3) := by decide +kernel
theorem dX6_init_15 : decode cX6_init 15 = .ok (.aload_n 0, 1) := by decide +kernel
theorem dX6_init_16 : decode cX6_init 16 = .ok (.new 16, 3) := by decide +kernel
theorem dX6_init_19 : decode cX6_init 19 = .ok (.dup, 1) := by decide +kernel
theorem dX6_init_20 : decode cX6_init 20 = .ok (.invokespecial 18, 3) := by decide +kernel
theorem dX6_init_23 : decode cX6_init 23 = .ok (.putfield 19, 3) := by decide +kernel
theorem dX6_init_26 : decode cX6_init 26 = .ok (.aload_n 0, 1) := by decide +kernel
theorem dX6_init_27 : decode cX6_init 27 = .ok (.new 23, 3) := by decide +kernel
theorem dX6_init_30 : decode cX6_init 30 = .ok (.dup, 1) := by decide +kernel
theorem dX6_init_31 : decode cX6_init 31 = .ok (.aload_n 0, 1) := by decide +kernel
theorem dX6_init_32 : decode cX6_init 32 = .ok (.getfield 10, 3) := by decide +kernel
theorem dX6_init_35 : decode cX6_init 35 = .ok (.invokespecial 25, 3) := by decide +kernel
theorem dX6_init_38 : decode cX6_init 38 = .ok (.putfield 28, 3) := by decide +kernel
theorem dX6_init_41 : decode cX6_init 41 = .ok (.aload_n 0, 1) := by decide +kernel
theorem dX6_init_42 : decode cX6_init 42 = .ok (.new 23, 3) := by decide +kernel
theorem dX6_init_45 : decode cX6_init 45 = .ok (.dup, 1) := by decide +kernel
theorem dX6_init_46 : decode cX6_init 46 = .ok (.aload_n 0, 1) := by decide +kernel
theorem dX6_init_47 : decode cX6_init 47 = .ok (.getfield 10, 3) := by decide +kernel
theorem dX6_init_50 : decode cX6_init 50 = .ok (.invokespecial 25, 3) := by decide +kernel
theorem dX6_init_53 : decode cX6_init 53 = .ok (.putfield 32, 3) := by decide +kernel
theorem dX6_init_56 : decode cX6_init 56 = .ok (.aload_n 0, 1) := by decide +kernel
theorem dX6_init_57 : decode cX6_init 57 = .ok (.new 23, 3) := by decide +kernel
theorem dX6_init_60 : decode cX6_init 60 = .ok (.dup, 1) := by decide +kernel
theorem dX6_init_61 : decode cX6_init 61 = .ok (.aload_n 0, 1) := by decide +kernel
theorem dX6_init_62 : decode cX6_init 62 = .ok (.getfield 10, 3) := by decide +kernel
theorem dX6_init_65 : decode cX6_init 65 = .ok (.invokespecial 25, 3) := by decide +kernel
theorem dX6_init_68 : decode cX6_init 68 = .ok (.putfield 35, 3) := by decide +kernel
theorem dX6_init_71 : decode cX6_init 71 = .ok (.aload_n 0, 1) := by decide +kernel
theorem dX6_init_72 : decode cX6_init 72 = .ok (.new 38, 3) := by decide +kernel
theorem dX6_init_75 : decode cX6_init 75 = .ok (.dup, 1) := by decide +kernel
theorem dX6_init_76 : decode cX6_init 76 = .ok (.invokespecial 40, 3) := by decide +kernel
theorem dX6_init_79 : decode cX6_init 79 = .ok (.putfield 41, 3) := by decide +kernel
theorem dX6_init_82 : decode cX6_init 82 = .ok (.aload_n 0, 1) := by decide +kernel
theorem dX6_init_83 : decode cX6_init 83 = .ok (.bipush 10, 2) := by decide +kernel
theorem dX6_init_85 : decode cX6_init 85 = .ok (.newarray .int, 2) := by decide +kernel
theorem dX6_init_87 : decode cX6_init 87 = .ok (.putfield 45, 3) := by decide +kernel
theorem dX6_init_90 : decode cX6_init 90 = .ok (.aload_n 0, 1) := by decide +kernel
theorem dX6_init_91 : decode cX6_init 91 = .ok (.iconst 4, 1) := by decide +kernel
theorem dX6_init_92 : decode cX6_init 92 = .ok (.anewarray 49, 3) := by decide +kernel
theorem dX6_init_95 : decode cX6_init 95 = .ok (.putfield 51, 3) := by decide +kernel
theorem dX6_init_98 : decode cX6_init 98 = .ok (.iconst 0, 1) := by decide +kernel
theorem dX6_init_99 : decode cX6_init 99 = .ok (.istore_n 1, 1) := by decide +kernel
theorem dX6_init_100 : decode cX6_init 100 = .ok (.iload_n 1, 1) := by decide +kernel
theorem dX6_init_101 : decode cX6_init 101 = .ok (.iconst 4, 1) := by decide +kernel
theorem dX6_init_102 : decode cX6_init 102 = .ok (.if_icmp .ge 22, 3) := by decide +kernel
theorem dX6_init_105 : decode cX6_init 105 = .ok (.aload_n 0, 1) := by decide +kernel
theorem dX6_init_106 : decode cX6_init 106 = .ok (.getfield 51, 3) := by decide +kernel
theorem dX6_init_109 : decode cX6_init 109 = .ok (.iload_n 1, 1) := by decide +kernel
theorem dX6_init_110 : decode cX6_init 110 = .ok (.new 49, 3) := by decide +kernel
theorem dX6_init_113 : decode cX6_init 113 = .ok (.dup, 1) := by decide +kernel
theorem dX6_init_114 : decode cX6_init 114 = .ok (.invokespecial 55, 3) := by decide +kernel
theorem dX6_init_117 : decode cX6_init 117 = .ok (.aastore, 1) := by decide +kernel
theorem dX6_init_118 : decode cX6_init 118 = .ok (.iinc 1 1, 3) := by decide +kernel
theorem dX6_init_121 : decode cX6_init 121 = .ok (.goto (-21), 3) := by decide +kernel
theorem dX6_init_124 : decode cX6_init 124 = .ok (.aload_n 0, 1) := by decide +kernel
theorem dX6_init_125 : decode cX6_init 125 = .ok (.iconst 5, 1) := by decide +kernel
theorem dX6_init_126 : decode cX6_init 126 = .ok (.anewarray 56, 3) := by decide +kernel
theorem dX6_init_129 : decode cX6_init 129 = .ok (.putfield 58, 3) := by decide +kernel
theorem dX6_init_132 : decode cX6_init 132 = .ok (.iconst 0, 1) := by decide +kernel
theorem dX6_init_133 : decode cX6_init 133 = .ok (.istore_n 1, 1) := by decide +kernel
theorem dX6_init_134 : decode cX6_init 134 = .ok (.iload_n 1, 1) := by decide +kernel
theorem dX6_init_135 : decode cX6_init 135 = .ok (.iconst 5, 1) := by decide +kernel
theorem dX6_init_136 : decode cX6_init 136 = .ok (.if_icmp .ge 22, 3) := by decide +kernel
theorem dX6_init_139 : decode cX6_init 139 = .ok (.aload_n 0, 1) := by decide +kernel
theorem dX6_init_140 : decode cX6_init 140 = .ok (.getfield 58, 3) := by decide +kernel
theorem dX6_init_143 : decode cX6_init 143 = .ok (.iload_n 1, 1) := by decide +kernel
theorem dX6_init_144 : decode cX6_init 144 = .ok (.new 56, 3) := by decide +kernel
theorem dX6_init_147 : decode cX6_init 147 = .ok (.dup, 1) := by decide +kernel
theorem dX6_init_148 : decode cX6_init 148 = .ok (.invokespecial 62, 3) := by decide +kernel
theorem dX6_init_151 : decode cX6_init 151 = .ok (.aastore, 1) := by decide +kernel
theorem dX6_init_152 : decode cX6_init 152 = .ok (.iinc 1 1, 3) := by decide +kernel
theorem dX6_init_155 : decode cX6_init 155 = .ok (.goto (-21), 3) := by decide +kernel
theorem dX6_init_158 : decode cX6_init 158 = .ok (.aload_n 0, 1) := by decide +kernel
theorem dX6_init_159 : decode cX6_init 159 = .ok (.bipush 60, 2) := by decide +kernel
theorem dX6_init_161 : decode cX6_init 161 = .ok (.newarray .int, 2) := by decide +kernel
theorem dX6_init_163 : decode cX6_init 163 = .ok (.putfield 63, 3) := by decide +kernel
theorem dX6_init_166 : decode cX6_init 166 = .ok (.aload_n 0, 1) := by decide +kernel
theorem dX6_init_167 : decode cX6_init 167 = .ok (.iconst 0, 1) := by decide +kernel
theorem dX6_init_168 : decode cX6_init 168 = .ok (.putfield 66, 3) := by decide +kernel
theorem dX6_init_171 : decode cX6_init 171 = .ok (.aload_n 0, 1) := by decide +kernel
theorem dX6_init_172 : decode cX6_init 172 = .ok (.iconst 0, 1) := by decide +kernel
theorem dX6_init_173 : decode cX6_init 173 = .ok (.putfield 70, 3) := by decide +kernel
theorem dX6_init_176 : decode cX6_init 176 = .ok (.return_, 1) := by decide +kernel
theorem dX6_day_0 : decode cX6_day 0 = .ok (.iload_n 1, 1) := by decide +kernel
theorem dX6_day_1 : decode cX6_day 1 = .ok (.invokestatic 74, 3) := by decide +kernel
theorem dX6_day_4 : decode cX6_day 4 = .ok (.ifCond .eq 31, 3) := by decide +kernel
theorem dX6_day_7 : decode cX6_day 7 = .ok (.iload_n 2, 1) := by decide +kernel
theorem dX6_day_8 : decode cX6_day 8 = .ok (.iconst 0, 1) := by decide +kernel
theorem dX6_day_9 : decode cX6_day 9 = .ok (.bipush 99, 2) := by decide +kernel
theorem dX6_day_11 : decode cX6_day 11 = .ok (.invokestatic 78, 3) := by decide +kernel
theorem dX6_day_14 : decode cX6_day 14 = .ok (.ifCond .eq 21, 3) := by decide +kernel
theorem dX6_day_17 : decode cX6_day 17 = .ok (.iload_n 3, 1) := by decide +kernel
theorem dX6_day_18 : decode cX6_day 18 = .ok (.iconst 0, 1) := by decide +kernel
theorem dX6_day_19 : decode cX6_day 19 = .ok (.bipush 9, 2) := by decide +kernel
theorem dX6_day_21 : decode cX6_day 21 = .ok (.invokestatic 78, 3) := by decide +kernel
theorem dX6_day_24 : decode cX6_day 24 = .ok (.ifCond .eq 11, 3) := by decide +kernel
theorem dX6_day_27 : decode cX6_day 27 = .ok (.iload 4, 2) := by decide +kernel
theorem dX6_day_29 : decode cX6_day 29 = .ok (.invokestatic 82, 3) := by decide +kernel
theorem dX6_day_32 : decode cX6_day 32 = .ok (.ifCond .ne 6, 3) := by decide +kernel
theorem dX6_day_35 : decode cX6_day 35 = .ok (.ldc 85, 2) := by decide +kernel
theorem dX6_day_37 : decode cX6_day 37 = .ok (.ireturn, 1) := by decide +kernel
theorem dX6_day_38 : decode cX6_day 38 = .ok (.aload_n 0, 1) := by decide +kernel
theorem dX6_day_39 : decode cX6_day 39 = .ok (.getfield 28, 3) := by decide +kernel
theorem dX6_day_42 : decode cX6_day 42 = .ok (.getfield 86, 3) := by decide +kernel
theorem dX6_day_45 : decode cX6_day 45 = .ok (.bipush 10, 2) := by decide +kernel
theorem dX6_day_47 : decode cX6_day 47 = .ok (.if_icmp .lt 6, 3) := by decide +kernel
theorem dX6_day_50 : decode cX6_day 50 = .ok (.ldc 89, 2) := by decide +kernel
theorem dX6_day_52 : decode cX6_day 52 = .ok (.ireturn, 1) := by decide +kernel
theorem dX6_day_53 : decode cX6_day 53 = .ok (.aload_n 0, 1) := by decide +kernel
theorem dX6_day_54 : decode cX6_day 54 = .ok (.getfield 28, 3) := by decide +kernel
theorem dX6_day_57 : decode cX6_day 57 = .ok (.iload_n 1, 1) := by decide +kernel
theorem dX6_day_58 : decode cX6_day 58 = .ok (.iload_n 2, 1) := by decide +kernel
theorem dX6_day_59 : decode cX6_day 59 = .ok (.iload_n 3, 1) := by decide +kernel
theorem dX6_day_60 : decode cX6_day 60 = .ok (.iload 4, 2) := by decide +kernel
theorem dX6_day_62 : decode cX6_day 62 = .ok (.invokevirtual 90, 3) := by decide +kernel
theorem dX6_day_65 : decode cX6_day 65 = .ok (.ireturn, 1) := by decide +kernel
theorem dX6_told_0 : decode cX6_told 0 = .ok (.aload_n 0, 1) := by decide +kernel
theorem dX6_told_1 : decode cX6_told 1 = .ok (.iload_n 1, 1) := by decide +kernel
theorem dX6_told_2 : decode cX6_told 2 = .ok (.invokevirtual 94, 3) := by decide +kernel
theorem dX6_told_5 : decode cX6_told 5 = .ok (.ifCond .ne 6, 3) := by decide +kernel
theorem dX6_told_8 : decode cX6_told 8 = .ok (.ldc 85, 2) := by decide +kernel
theorem dX6_told_10 : decode cX6_told 10 = .ok (.ireturn, 1) := by decide +kernel
theorem dX6_told_11 : decode cX6_told 11 = .ok (.iload_n 2, 1) := by decide +kernel
theorem dX6_told_12 : decode cX6_told 12 = .ok (.tableswitch 139 0 7 #[48, 58, 68, 78, 88, 98, 108, 117], 48) := by decide +kernel
theorem dX6_told_60 : decode cX6_told 60 = .ok (.aload_n 0, 1) := by decide +kernel
theorem dX6_told_61 : decode cX6_told 61 = .ok (.getfield 28, 3) := by decide +kernel
theorem dX6_told_64 : decode cX6_told 64 = .ok (.getfield 97, 3) := by decide +kernel
theorem dX6_told_67 : decode cX6_told 67 = .ok (.iload_n 1, 1) := by decide +kernel
theorem dX6_told_68 : decode cX6_told 68 = .ok (.iaload, 1) := by decide +kernel
theorem dX6_told_69 : decode cX6_told 69 = .ok (.ireturn, 1) := by decide +kernel
theorem dX6_told_70 : decode cX6_told 70 = .ok (.aload_n 0, 1) := by decide +kernel
theorem dX6_told_71 : decode cX6_told 71 = .ok (.getfield 28, 3) := by decide +kernel
theorem dX6_told_74 : decode cX6_told 74 = .ok (.getfield 100, 3) := by decide +kernel
theorem dX6_told_77 : decode cX6_told 77 = .ok (.iload_n 1, 1) := by decide +kernel
theorem dX6_told_78 : decode cX6_told 78 = .ok (.iaload, 1) := by decide +kernel
theorem dX6_told_79 : decode cX6_told 79 = .ok (.ireturn, 1) := by decide +kernel
theorem dX6_told_80 : decode cX6_told 80 = .ok (.aload_n 0, 1) := by decide +kernel
theorem dX6_told_81 : decode cX6_told 81 = .ok (.getfield 28, 3) := by decide +kernel
theorem dX6_told_84 : decode cX6_told 84 = .ok (.getfield 103, 3) := by decide +kernel
theorem dX6_told_87 : decode cX6_told 87 = .ok (.iload_n 1, 1) := by decide +kernel
theorem dX6_told_88 : decode cX6_told 88 = .ok (.iaload, 1) := by decide +kernel
theorem dX6_told_89 : decode cX6_told 89 = .ok (.ireturn, 1) := by decide +kernel
theorem dX6_told_90 : decode cX6_told 90 = .ok (.aload_n 0, 1) := by decide +kernel
theorem dX6_told_91 : decode cX6_told 91 = .ok (.getfield 28, 3) := by decide +kernel
theorem dX6_told_94 : decode cX6_told 94 = .ok (.getfield 106, 3) := by decide +kernel
theorem dX6_told_97 : decode cX6_told 97 = .ok (.iload_n 1, 1) := by decide +kernel
theorem dX6_told_98 : decode cX6_told 98 = .ok (.iaload, 1) := by decide +kernel
theorem dX6_told_99 : decode cX6_told 99 = .ok (.ireturn, 1) := by decide +kernel
theorem dX6_told_100 : decode cX6_told 100 = .ok (.aload_n 0, 1) := by decide +kernel
theorem dX6_told_101 : decode cX6_told 101 = .ok (.getfield 28, 3) := by decide +kernel
theorem dX6_told_104 : decode cX6_told 104 = .ok (.getfield 109, 3) := by decide +kernel
theorem dX6_told_107 : decode cX6_told 107 = .ok (.iload_n 1, 1) := by decide +kernel
theorem dX6_told_108 : decode cX6_told 108 = .ok (.iaload, 1) := by decide +kernel
theorem dX6_told_109 : decode cX6_told 109 = .ok (.ireturn, 1) := by decide +kernel
theorem dX6_told_110 : decode cX6_told 110 = .ok (.aload_n 0, 1) := by decide +kernel
theorem dX6_told_111 : decode cX6_told 111 = .ok (.getfield 28, 3) := by decide +kernel
theorem dX6_told_114 : decode cX6_told 114 = .ok (.getfield 112, 3) := by decide +kernel
theorem dX6_told_117 : decode cX6_told 117 = .ok (.iload_n 1, 1) := by decide +kernel
theorem dX6_told_118 : decode cX6_told 118 = .ok (.iaload, 1) := by decide +kernel
theorem dX6_told_119 : decode cX6_told 119 = .ok (.ireturn, 1) := by decide +kernel
theorem dX6_told_120 : decode cX6_told 120 = .ok (.aload_n 0, 1) := by decide +kernel
theorem dX6_told_121 : decode cX6_told 121 = .ok (.getfield 28, 3) := by decide +kernel
theorem dX6_told_124 : decode cX6_told 124 = .ok (.iload_n 1, 1) := by decide +kernel
theorem dX6_told_125 : decode cX6_told 125 = .ok (.invokevirtual 115, 3) := by decide +kernel
theorem dX6_told_128 : decode cX6_told 128 = .ok (.ireturn, 1) := by decide +kernel
theorem dX6_told_129 : decode cX6_told 129 = .ok (.aload_n 0, 1) := by decide +kernel
theorem dX6_told_130 : decode cX6_told 130 = .ok (.getfield 28, 3) := by decide +kernel
theorem dX6_told_133 : decode cX6_told 133 = .ok (.getfield 97, 3) := by decide +kernel
theorem dX6_told_136 : decode cX6_told 136 = .ok (.iload_n 1, 1) := by decide +kernel
theorem dX6_told_137 : decode cX6_told 137 = .ok (.iaload, 1) := by decide +kernel
theorem dX6_told_138 : decode cX6_told 138 = .ok (.aload_n 0, 1) := by decide +kernel
theorem dX6_told_139 : decode cX6_told 139 = .ok (.getfield 28, 3) := by decide +kernel
theorem dX6_told_142 : decode cX6_told 142 = .ok (.getfield 100, 3) := by decide +kernel
theorem dX6_told_145 : decode cX6_told 145 = .ok (.iload_n 1, 1) := by decide +kernel
theorem dX6_told_146 : decode cX6_told 146 = .ok (.iaload, 1) := by decide +kernel
theorem dX6_told_147 : decode cX6_told 147 = .ok (.invokestatic 119, 3) := by decide +kernel
theorem dX6_told_150 : decode cX6_told 150 = .ok (.ireturn, 1) := by decide +kernel
theorem dX6_told_151 : decode cX6_told 151 = .ok (.ldc 85, 2) := by decide +kernel
theorem dX6_told_153 : decode cX6_told 153 = .ok (.ireturn, 1) := by decide +kernel
theorem dX6_as_0 : decode cX6_as 0 = .ok (.aload_n 0, 1) := by decide +kernel
theorem dX6_as_1 : decode cX6_as 1 = .ok (.iload_n 1, 1) := by decide +kernel
theorem dX6_as_2 : decode cX6_as 2 = .ok (.invokevirtual 94, 3) := by decide +kernel
theorem dX6_as_5 : decode cX6_as 5 = .ok (.ifCond .eq 10, 3) := by decide +kernel
theorem dX6_as_8 : decode cX6_as 8 = .ok (.iload_n 2, 1) := by decide +kernel
theorem dX6_as_9 : decode cX6_as 9 = .ok (.invokestatic 74, 3) := by decide +kernel
theorem dX6_as_12 : decode cX6_as 12 = .ok (.ifCond .ne 6, 3) := by decide +kernel
theorem dX6_as_15 : decode cX6_as 15 = .ok (.ldc 85, 2) := by decide +kernel
theorem dX6_as_17 : decode cX6_as 17 = .ok (.ireturn, 1) := by decide +kernel
theorem dX6_as_18 : decode cX6_as 18 = .ok (.aload_n 0, 1) := by decide +kernel
theorem dX6_as_19 : decode cX6_as 19 = .ok (.getfield 28, 3) := by decide +kernel
theorem dX6_as_22 : decode cX6_as 22 = .ok (.getfield 97, 3) := by decide +kernel
theorem dX6_as_25 : decode cX6_as 25 = .ok (.iload_n 1, 1) := by decide +kernel
theorem dX6_as_26 : decode cX6_as 26 = .ok (.iaload, 1) := by decide +kernel
theorem dX6_as_27 : decode cX6_as 27 = .ok (.iload_n 2, 1) := by decide +kernel
theorem dX6_as_28 : decode cX6_as 28 = .ok (.invokestatic 123, 3) := by decide +kernel
theorem dX6_as_31 : decode cX6_as 31 = .ok (.ifCond .eq 15, 3) := by decide +kernel
theorem dX6_as_34 : decode cX6_as 34 = .ok (.aload_n 0, 1) := by decide +kernel
theorem dX6_as_35 : decode cX6_as 35 = .ok (.getfield 28, 3) := by decide +kernel
theorem dX6_as_38 : decode cX6_as 38 = .ok (.getfield 100, 3) := by decide +kernel
theorem dX6_as_41 : decode cX6_as 41 = .ok (.iload_n 1, 1) := by decide +kernel
theorem dX6_as_42 : decode cX6_as 42 = .ok (.iaload, 1) := by decide +kernel
theorem dX6_as_43 : decode cX6_as 43 = .ok (.goto 5, 3) := by decide +kernel
theorem dX6_as_46 : decode cX6_as 46 = .ok (.ldc 127, 2) := by decide +kernel
theorem dX6_as_48 : decode cX6_as 48 = .ok (.ireturn, 1) := by decide +kernel
theorem dX6_turns_0 : decode cX6_turns 0 = .ok (.aload_n 0, 1) := by decide +kernel
theorem dX6_turns_1 : decode cX6_turns 1 = .ok (.iload_n 1, 1) := by decide +kernel
theorem dX6_turns_2 : decode cX6_turns 2 = .ok (.invokevirtual 94, 3) := by decide +kernel
theorem dX6_turns_5 : decode cX6_turns 5 = .ok (.ifCond .eq 10, 3) := by decide +kernel
theorem dX6_turns_8 : decode cX6_turns 8 = .ok (.iload_n 2, 1) := by decide +kernel
theorem dX6_turns_9 : decode cX6_turns 9 = .ok (.invokestatic 74, 3) := by decide +kernel
theorem dX6_turns_12 : decode cX6_turns 12 = .ok (.ifCond .ne 6, 3) := by decide +kernel
theorem dX6_turns_15 : decode cX6_turns 15 = .ok (.ldc 85, 2) := by decide +kernel
theorem dX6_turns_17 : decode cX6_turns 17 = .ok (.ireturn, 1) := by decide +kernel
theorem dX6_turns_18 : decode cX6_turns 18 = .ok (.aload_n 0, 1) := by decide +kernel
theorem dX6_turns_19 : decode cX6_turns 19 = .ok (.getfield 28, 3) := by decide +kernel
theorem dX6_turns_22 : decode cX6_turns 22 = .ok (.getfield 97, 3) := by decide +kernel
theorem dX6_turns_25 : decode cX6_turns 25 = .ok (.iload_n 1, 1) := by decide +kernel
theorem dX6_turns_26 : decode cX6_turns 26 = .ok (.iload_n 2, 1) := by decide +kernel
theorem dX6_turns_27 : decode cX6_turns 27 = .ok (.invokestatic 128, 3) := by decide +kernel
theorem dX6_turns_30 : decode cX6_turns 30 = .ok (.ireturn, 1) := by decide +kernel
theorem dX6_set_0 : decode cX6_set 0 = .ok (.aload_n 0, 1) := by decide +kernel
theorem dX6_set_1 : decode cX6_set 1 = .ok (.iload_n 1, 1) := by decide +kernel
theorem dX6_set_2 : decode cX6_set 2 = .ok (.invokevirtual 94, 3) := by decide +kernel
theorem dX6_set_5 : decode cX6_set 5 = .ok (.ifCond .ne 6, 3) := by decide +kernel
theorem dX6_set_8 : decode cX6_set 8 = .ok (.ldc 85, 2) := by decide +kernel
theorem dX6_set_10 : decode cX6_set 10 = .ok (.ireturn, 1) := by decide +kernel
theorem dX6_set_11 : decode cX6_set 11 = .ok (.iload_n 2, 1) := by decide +kernel
theorem dX6_set_12 : decode cX6_set 12 = .ok (.tableswitch 112 1 3 #[28, 56, 84], 28) := by decide +kernel
theorem dX6_set_40 : decode cX6_set 40 = .ok (.iload_n 3, 1) := by decide +kernel
theorem dX6_set_41 : decode cX6_set 41 = .ok (.iconst 0, 1) := by decide +kernel
theorem dX6_set_42 : decode cX6_set 42 = .ok (.bipush 99, 2) := by decide +kernel
theorem dX6_set_44 : decode cX6_set 44 = .ok (.invokestatic 78, 3) := by decide +kernel
theorem dX6_set_47 : decode cX6_set 47 = .ok (.ifCond .eq 18, 3) := by decide +kernel
theorem dX6_set_50 : decode cX6_set 50 = .ok (.aload_n 0, 1) := by decide +kernel
theorem dX6_set_51 : decode cX6_set 51 = .ok (.getfield 28, 3) := by decide +kernel
theorem dX6_set_54 : decode cX6_set 54 = .ok (.getfield 100, 3) := by decide +kernel
theorem dX6_set_57 : decode cX6_set 57 = .ok (.iload_n 1, 1) := by decide +kernel
theorem dX6_set_58 : decode cX6_set 58 = .ok (.iload_n 3, 1) := by decide +kernel
theorem dX6_set_59 : decode cX6_set 59 = .ok (.invokestatic 128, 3) := by decide +kernel
theorem dX6_set_62 : decode cX6_set 62 = .ok (.goto 5, 3) := by decide +kernel
theorem dX6_set_65 : decode cX6_set 65 = .ok (.ldc 85, 2) := by decide +kernel
theorem dX6_set_67 : decode cX6_set 67 = .ok (.ireturn, 1) := by decide +kernel
theorem dX6_set_68 : decode cX6_set 68 = .ok (.iload_n 3, 1) := by decide +kernel
theorem dX6_set_69 : decode cX6_set 69 = .ok (.iconst 0, 1) := by decide +kernel
theorem dX6_set_70 : decode cX6_set 70 = .ok (.bipush 9, 2) := by decide +kernel
theorem dX6_set_72 : decode cX6_set 72 = .ok (.invokestatic 78, 3) := by decide +kernel
theorem dX6_set_75 : decode cX6_set 75 = .ok (.ifCond .eq 18, 3) := by decide +kernel
theorem dX6_set_78 : decode cX6_set 78 = .ok (.aload_n 0, 1) := by decide +kernel
theorem dX6_set_79 : decode cX6_set 79 = .ok (.getfield 28, 3) := by decide +kernel
theorem dX6_set_82 : decode cX6_set 82 = .ok (.getfield 103, 3) := by decide +kernel
theorem dX6_set_85 : decode cX6_set 85 = .ok (.iload_n 1, 1) := by decide +kernel
theorem dX6_set_86 : decode cX6_set 86 = .ok (.iload_n 3, 1) := by decide +kernel
theorem dX6_set_87 : decode cX6_set 87 = .ok (.invokestatic 128, 3) := by decide +kernel
theorem dX6_set_90 : decode cX6_set 90 = .ok (.goto 5, 3) := by decide +kernel
theorem dX6_set_93 : decode cX6_set 93 = .ok (.ldc 85, 2) := by decide +kernel
theorem dX6_set_95 : decode cX6_set 95 = .ok (.ireturn, 1) := by decide +kernel
theorem dX6_set_96 : decode cX6_set 96 = .ok (.iload_n 3, 1) := by decide +kernel
theorem dX6_set_97 : decode cX6_set 97 = .ok (.iconst 0, 1) := by decide +kernel
theorem dX6_set_98 : decode cX6_set 98 = .ok (.bipush 99, 2) := by decide +kernel
theorem dX6_set_100 : decode cX6_set 100 = .ok (.invokestatic 78, 3) := by decide +kernel
theorem dX6_set_103 : decode cX6_set 103 = .ok (.ifCond .eq 18, 3) := by decide +kernel
theorem dX6_set_106 : decode cX6_set 106 = .ok (.aload_n 0, 1) := by decide +kernel
theorem dX6_set_107 : decode cX6_set 107 = .ok (.getfield 28, 3) := by decide +kernel
theorem dX6_set_110 : decode cX6_set 110 = .ok (.getfield 106, 3) := by decide +kernel
theorem dX6_set_113 : decode cX6_set 113 = .ok (.iload_n 1, 1) := by decide +kernel
theorem dX6_set_114 : decode cX6_set 114 = .ok (.iload_n 3, 1) := by decide +kernel
theorem dX6_set_115 : decode cX6_set 115 = .ok (.invokestatic 128, 3) := by decide +kernel
theorem dX6_set_118 : decode cX6_set 118 = .ok (.goto 5, 3) := by decide +kernel
theorem dX6_set_121 : decode cX6_set 121 = .ok (.ldc 85, 2) := by decide +kernel
theorem dX6_set_123 : decode cX6_set 123 = .ok (.ireturn, 1) := by decide +kernel
theorem dX6_set_124 : decode cX6_set 124 = .ok (.ldc 85, 2) := by decide +kernel
theorem dX6_set_126 : decode cX6_set 126 = .ok (.ireturn, 1) := by decide +kernel
theorem dX6_one_0 : decode cX6_one 0 = .ok (.iload_n 1, 1) := by decide +kernel
theorem dX6_one_1 : decode cX6_one 1 = .ok (.invokestatic 82, 3) := by decide +kernel
theorem dX6_one_4 : decode cX6_one 4 = .ok (.ifCond .ne 6, 3) := by decide +kernel
theorem dX6_one_7 : decode cX6_one 7 = .ok (.ldc 85, 2) := by decide +kernel
theorem dX6_one_9 : decode cX6_one 9 = .ok (.ireturn, 1) := by decide +kernel
theorem dX6_one_10 : decode cX6_one 10 = .ok (.iload_n 2, 1) := by decide +kernel
theorem dX6_one_11 : decode cX6_one 11 = .ok (.tableswitch 54 0 2 #[25, 35, 45], 25) := by decide +kernel
theorem dX6_one_36 : decode cX6_one 36 = .ok (.aload_n 0, 1) := by decide +kernel
theorem dX6_one_37 : decode cX6_one 37 = .ok (.getfield 28, 3) := by decide +kernel
theorem dX6_one_40 : decode cX6_one 40 = .ok (.getfield 132, 3) := by decide +kernel
theorem dX6_one_43 : decode cX6_one 43 = .ok (.iload_n 1, 1) := by decide +kernel
theorem dX6_one_44 : decode cX6_one 44 = .ok (.iaload, 1) := by decide +kernel
theorem dX6_one_45 : decode cX6_one 45 = .ok (.ireturn, 1) := by decide +kernel
theorem dX6_one_46 : decode cX6_one 46 = .ok (.aload_n 0, 1) := by decide +kernel
theorem dX6_one_47 : decode cX6_one 47 = .ok (.getfield 28, 3) := by decide +kernel
theorem dX6_one_50 : decode cX6_one 50 = .ok (.getfield 135, 3) := by decide +kernel
theorem dX6_one_53 : decode cX6_one 53 = .ok (.iload_n 1, 1) := by decide +kernel
theorem dX6_one_54 : decode cX6_one 54 = .ok (.iaload, 1) := by decide +kernel
theorem dX6_one_55 : decode cX6_one 55 = .ok (.ireturn, 1) := by decide +kernel
theorem dX6_one_56 : decode cX6_one 56 = .ok (.aload_n 0, 1) := by decide +kernel
theorem dX6_one_57 : decode cX6_one 57 = .ok (.getfield 28, 3) := by decide +kernel
theorem dX6_one_60 : decode cX6_one 60 = .ok (.iload_n 1, 1) := by decide +kernel
theorem dX6_one_61 : decode cX6_one 61 = .ok (.invokevirtual 138, 3) := by decide +kernel
theorem dX6_one_64 : decode cX6_one 64 = .ok (.ireturn, 1) := by decide +kernel
theorem dX6_one_65 : decode cX6_one 65 = .ok (.ldc 85, 2) := by decide +kernel
theorem dX6_one_67 : decode cX6_one 67 = .ok (.ireturn, 1) := by decide +kernel
theorem dX6_gives_0 : decode cX6_gives 0 = .ok (.iload_n 1, 1) := by decide +kernel
theorem dX6_gives_1 : decode cX6_gives 1 = .ok (.invokestatic 82, 3) := by decide +kernel
theorem dX6_gives_4 : decode cX6_gives 4 = .ok (.ifCond .ne 6, 3) := by decide +kernel
theorem dX6_gives_7 : decode cX6_gives 7 = .ok (.ldc 85, 2) := by decide +kernel
theorem dX6_gives_9 : decode cX6_gives 9 = .ok (.ireturn, 1) := by decide +kernel
theorem dX6_gives_10 : decode cX6_gives 10 = .ok (.iload_n 2, 1) := by decide +kernel
theorem dX6_gives_11 : decode cX6_gives 11 = .ok (.lookupswitch 82 #[(0, 25), (1, 54)], 25) := by decide +kernel
theorem dX6_gives_36 : decode cX6_gives 36 = .ok (.iload_n 3, 1) := by decide +kernel
theorem dX6_gives_37 : decode cX6_gives 37 = .ok (.iconst 0, 1) := by decide +kernel
theorem dX6_gives_38 : decode cX6_gives 38 = .ok (.sipush 9999, 3) := by decide +kernel
theorem dX6_gives_41 : decode cX6_gives 41 = .ok (.invokestatic 78, 3) := by decide +kernel
theorem dX6_gives_44 : decode cX6_gives 44 = .ok (.ifCond .eq 18, 3) := by decide +kernel
theorem dX6_gives_47 : decode cX6_gives 47 = .ok (.aload_n 0, 1) := by decide +kernel
theorem dX6_gives_48 : decode cX6_gives 48 = .ok (.getfield 28, 3) := by decide +kernel
theorem dX6_gives_51 : decode cX6_gives 51 = .ok (.getfield 132, 3) := by decide +kernel
theorem dX6_gives_54 : decode cX6_gives 54 = .ok (.iload_n 1, 1) := by decide +kernel
theorem dX6_gives_55 : decode cX6_gives 55 = .ok (.iload_n 3, 1) := by decide +kernel
theorem dX6_gives_56 : decode cX6_gives 56 = .ok (.invokestatic 128, 3) := by decide +kernel
theorem dX6_gives_59 : decode cX6_gives 59 = .ok (.goto 5, 3) := by decide +kernel
theorem dX6_gives_62 : decode cX6_gives 62 = .ok (.ldc 85, 2) := by decide +kernel
theorem dX6_gives_64 : decode cX6_gives 64 = .ok (.ireturn, 1) := by decide +kernel
theorem dX6_gives_65 : decode cX6_gives 65 = .ok (.iload_n 3, 1) := by decide +kernel
theorem dX6_gives_66 : decode cX6_gives 66 = .ok (.iconst 0, 1) := by decide +kernel
theorem dX6_gives_67 : decode cX6_gives 67 = .ok (.bipush 9, 2) := by decide +kernel
theorem dX6_gives_69 : decode cX6_gives 69 = .ok (.invokestatic 78, 3) := by decide +kernel
theorem dX6_gives_72 : decode cX6_gives 72 = .ok (.ifCond .eq 18, 3) := by decide +kernel
theorem dX6_gives_75 : decode cX6_gives 75 = .ok (.aload_n 0, 1) := by decide +kernel
theorem dX6_gives_76 : decode cX6_gives 76 = .ok (.getfield 28, 3) := by decide +kernel
theorem dX6_gives_79 : decode cX6_gives 79 = .ok (.getfield 135, 3) := by decide +kernel
theorem dX6_gives_82 : decode cX6_gives 82 = .ok (.iload_n 1, 1) := by decide +kernel
theorem dX6_gives_83 : decode cX6_gives 83 = .ok (.iload_n 3, 1) := by decide +kernel
theorem dX6_gives_84 : decode cX6_gives 84 = .ok (.invokestatic 128, 3) := by decide +kernel
theorem dX6_gives_87 : decode cX6_gives 87 = .ok (.goto 5, 3) := by decide +kernel
theorem dX6_gives_90 : decode cX6_gives 90 = .ok (.ldc 85, 2) := by decide +kernel
theorem dX6_gives_92 : decode cX6_gives 92 = .ok (.ireturn, 1) := by decide +kernel
theorem dX6_gives_93 : decode cX6_gives 93 = .ok (.ldc 85, 2) := by decide +kernel
theorem dX6_gives_95 : decode cX6_gives 95 = .ok (.ireturn, 1) := by decide +kernel
theorem dX6_offer_0 : decode cX6_offer 0 = .ok (.iload_n 1, 1) := by decide +kernel
theorem dX6_offer_1 : decode cX6_offer 1 = .ok (.invokestatic 82, 3) := by decide +kernel
theorem dX6_offer_4 : decode cX6_offer 4 = .ok (.ifCond .eq 11, 3) := by decide +kernel
theorem dX6_offer_7 : decode cX6_offer 7 = .ok (.aload_n 0, 1) := by decide +kernel
theorem dX6_offer_8 : decode cX6_offer 8 = .ok (.iload_n 2, 1) := by decide +kernel
theorem dX6_offer_9 : decode cX6_offer 9 = .ok (.invokevirtual 94, 3) := by decide +kernel
theorem dX6_offer_12 : decode cX6_offer 12 = .ok (.ifCond .ne 6, 3) := by decide +kernel
theorem dX6_offer_15 : decode cX6_offer 15 = .ok (.ldc 85, 2) := by decide +kernel
theorem dX6_offer_17 : decode cX6_offer 17 = .ok (.ireturn, 1) := by decide +kernel
theorem dX6_offer_18 : decode cX6_offer 18 = .ok (.aload_n 0, 1) := by decide +kernel
theorem dX6_offer_19 : decode cX6_offer 19 = .ok (.getfield 28, 3) := by decide +kernel
theorem dX6_offer_22 : decode cX6_offer 22 = .ok (.iload_n 1, 1) := by decide +kernel
theorem dX6_offer_23 : decode cX6_offer 23 = .ok (.iload_n 2, 1) := by decide +kernel
theorem dX6_offer_24 : decode cX6_offer 24 = .ok (.aload_n 0, 1) := by decide +kernel
theorem dX6_offer_25 : decode cX6_offer 25 = .ok (.getfield 28, 3) := by decide +kernel
theorem dX6_offer_28 : decode cX6_offer 28 = .ok (.iload_n 2, 1) := by decide +kernel
theorem dX6_offer_29 : decode cX6_offer 29 = .ok (.invokevirtual 115, 3) := by decide +kernel
theorem dX6_offer_32 : decode cX6_offer 32 = .ok (.invokevirtual 141, 3) := by decide +kernel
theorem dX6_offer_35 : decode cX6_offer 35 = .ok (.ireturn, 1) := by decide +kernel
theorem dX6_deal_0 : decode cX6_deal 0 = .ok (.iload_n 1, 1) := by decide +kernel
theorem dX6_deal_1 : decode cX6_deal 1 = .ok (.iconst 1, 1) := by decide +kernel
theorem dX6_deal_2 : decode cX6_deal 2 = .ok (.bipush 10, 2) := by decide +kernel
theorem dX6_deal_4 : decode cX6_deal 4 = .ok (.invokestatic 78, 3) := by decide +kernel
theorem dX6_deal_7 : decode cX6_deal 7 = .ok (.ifCond .ne 6, 3) := by decide +kernel
theorem dX6_deal_10 : decode cX6_deal 10 = .ok (.ldc 85, 2) := by decide +kernel
theorem dX6_deal_12 : decode cX6_deal 12 = .ok (.ireturn, 1) := by decide +kernel
theorem dX6_deal_13 : decode cX6_deal 13 = .ok (.iload_n 1, 1) := by decide +kernel
theorem dX6_deal_14 : decode cX6_deal 14 = .ok (.bipush 10, 2) := by decide +kernel
theorem dX6_deal_16 : decode cX6_deal 16 = .ok (.aload_n 0, 1) := by decide +kernel
theorem dX6_deal_17 : decode cX6_deal 17 = .ok (.getfield 28, 3) := by decide +kernel
theorem dX6_deal_20 : decode cX6_deal 20 = .ok (.getfield 86, 3) := by decide +kernel
theorem dX6_deal_23 : decode cX6_deal 23 = .ok (.isub, 1) := by decide +kernel
theorem dX6_deal_24 : decode cX6_deal 24 = .ok (.invokestatic 145, 3) := by decide +kernel
theorem dX6_deal_27 : decode cX6_deal 27 = .ok (.istore_n 2, 1) := by decide +kernel
theorem dX6_deal_28 : decode cX6_deal 28 = .ok (.iconst 0, 1) := by decide +kernel
theorem dX6_deal_29 : decode cX6_deal 29 = .ok (.istore_n 3, 1) := by decide +kernel
theorem dX6_deal_30 : decode cX6_deal 30 = .ok (.iload_n 3, 1) := by decide +kernel
theorem dX6_deal_31 : decode cX6_deal 31 = .ok (.iload_n 2, 1) := by decide +kernel
theorem dX6_deal_32 : decode cX6_deal 32 = .ok (.if_icmp .ge 16, 3) := by decide +kernel
theorem dX6_deal_35 : decode cX6_deal 35 = .ok (.aload_n 0, 1) := by decide +kernel
theorem dX6_deal_36 : decode cX6_deal 36 = .ok (.getfield 28, 3) := by decide +kernel
theorem dX6_deal_39 : decode cX6_deal 39 = .ok (.invokevirtual 150, 3) := by decide +kernel
theorem dX6_deal_42 : decode cX6_deal 42 = .ok (.iinc 3 1, 3) := by decide +kernel
theorem dX6_deal_45 : decode cX6_deal 45 = .ok (.goto (-15), 3) := by decide +kernel
theorem dX6_deal_48 : decode cX6_deal 48 = .ok (.iload_n 2, 1) := by decide +kernel
theorem dX6_deal_49 : decode cX6_deal 49 = .ok (.ireturn, 1) := by decide +kernel
theorem dX6_seed_0 : decode cX6_seed 0 = .ok (.aload_n 0, 1) := by decide +kernel
theorem dX6_seed_1 : decode cX6_seed 1 = .ok (.getfield 28, 3) := by decide +kernel
theorem dX6_seed_4 : decode cX6_seed 4 = .ok (.getfield 153, 3) := by decide +kernel
theorem dX6_seed_7 : decode cX6_seed 7 = .ok (.istore_n 2, 1) := by decide +kernel
theorem dX6_seed_8 : decode cX6_seed 8 = .ok (.aload_n 0, 1) := by decide +kernel
theorem dX6_seed_9 : decode cX6_seed 9 = .ok (.getfield 28, 3) := by decide +kernel
theorem dX6_seed_12 : decode cX6_seed 12 = .ok (.iload_n 1, 1) := by decide +kernel
theorem dX6_seed_13 : decode cX6_seed 13 = .ok (.putfield 153, 3) := by decide +kernel
theorem dX6_seed_16 : decode cX6_seed 16 = .ok (.iload_n 2, 1) := by decide +kernel
theorem dX6_seed_17 : decode cX6_seed 17 = .ok (.ireturn, 1) := by decide +kernel
theorem dX6_sale_0 : decode cX6_sale 0 = .ok (.aload_n 0, 1) := by decide +kernel
theorem dX6_sale_1 : decode cX6_sale 1 = .ok (.iload_n 1, 1) := by decide +kernel
theorem dX6_sale_2 : decode cX6_sale 2 = .ok (.invokevirtual 94, 3) := by decide +kernel
theorem dX6_sale_5 : decode cX6_sale 5 = .ok (.ifCond .eq 21, 3) := by decide +kernel
theorem dX6_sale_8 : decode cX6_sale 8 = .ok (.iload_n 2, 1) := by decide +kernel
theorem dX6_sale_9 : decode cX6_sale 9 = .ok (.invokestatic 82, 3) := by decide +kernel
theorem dX6_sale_12 : decode cX6_sale 12 = .ok (.ifCond .eq 14, 3) := by decide +kernel
theorem dX6_sale_15 : decode cX6_sale 15 = .ok (.iload_n 3, 1) := by decide +kernel
theorem dX6_sale_16 : decode cX6_sale 16 = .ok (.iconst 0, 1) := by decide +kernel
theorem dX6_sale_17 : decode cX6_sale 17 = .ok (.sipush 9999, 3) := by decide +kernel
theorem dX6_sale_20 : decode cX6_sale 20 = .ok (.invokestatic 78, 3) := by decide +kernel
theorem dX6_sale_23 : decode cX6_sale 23 = .ok (.ifCond .ne 6, 3) := by decide +kernel
theorem dX6_sale_26 : decode cX6_sale 26 = .ok (.ldc 85, 2) := by decide +kernel
theorem dX6_sale_28 : decode cX6_sale 28 = .ok (.ireturn, 1) := by decide +kernel
theorem dX6_sale_29 : decode cX6_sale 29 = .ok (.aload_n 0, 1) := by decide +kernel
theorem dX6_sale_30 : decode cX6_sale 30 = .ok (.getfield 28, 3) := by decide +kernel
theorem dX6_sale_33 : decode cX6_sale 33 = .ok (.getfield 109, 3) := by decide +kernel
theorem dX6_sale_36 : decode cX6_sale 36 = .ok (.iload_n 1, 1) := by decide +kernel
theorem dX6_sale_37 : decode cX6_sale 37 = .ok (.iaload, 1) := by decide +kernel
theorem dX6_sale_38 : decode cX6_sale 38 = .ok (.iload_n 2, 1) := by decide +kernel
theorem dX6_sale_39 : decode cX6_sale 39 = .ok (.if_icmp .eq 16, 3) := by decide +kernel
theorem dX6_sale_42 : decode cX6_sale 42 = .ok (.aload_n 0, 1) := by decide +kernel
theorem dX6_sale_43 : decode cX6_sale 43 = .ok (.getfield 28, 3) := by decide +kernel
theorem dX6_sale_46 : decode cX6_sale 46 = .ok (.getfield 132, 3) := by decide +kernel
theorem dX6_sale_49 : decode cX6_sale 49 = .ok (.iload_n 2, 1) := by decide +kernel
theorem dX6_sale_50 : decode cX6_sale 50 = .ok (.iaload, 1) := by decide +kernel
theorem dX6_sale_51 : decode cX6_sale 51 = .ok (.iload_n 3, 1) := by decide +kernel
theorem dX6_sale_52 : decode cX6_sale 52 = .ok (.if_icmp .ge 6, 3) := by decide +kernel
theorem dX6_sale_55 : decode cX6_sale 55 = .ok (.ldc 156, 2) := by decide +kernel
theorem dX6_sale_57 : decode cX6_sale 57 = .ok (.ireturn, 1) := by decide +kernel
theorem dX6_sale_58 : decode cX6_sale 58 = .ok (.aload_n 0, 1) := by decide +kernel
theorem dX6_sale_59 : decode cX6_sale 59 = .ok (.getfield 28, 3) := by decide +kernel
theorem dX6_sale_62 : decode cX6_sale 62 = .ok (.iload_n 1, 1) := by decide +kernel
theorem dX6_sale_63 : decode cX6_sale 63 = .ok (.iload_n 2, 1) := by decide +kernel
theorem dX6_sale_64 : decode cX6_sale 64 = .ok (.iload_n 3, 1) := by decide +kernel
theorem dX6_sale_65 : decode cX6_sale 65 = .ok (.invokevirtual 157, 3) := by decide +kernel
theorem dX6_sale_68 : decode cX6_sale 68 = .ok (.aload_n 0, 1) := by decide +kernel
theorem dX6_sale_69 : decode cX6_sale 69 = .ok (.getfield 28, 3) := by decide +kernel
theorem dX6_sale_72 : decode cX6_sale 72 = .ok (.getfield 161, 3) := by decide +kernel
theorem dX6_sale_75 : decode cX6_sale 75 = .ok (.ireturn, 1) := by decide +kernel
theorem dX6_markets_0 : decode cX6_markets 0 = .ok (.iload_n 1, 1) := by decide +kernel
theorem dX6_markets_1 : decode cX6_markets 1 = .ok (.iconst 1, 1) := by decide +kernel
theorem dX6_markets_2 : decode cX6_markets 2 = .ok (.bipush 100, 2) := by decide +kernel
theorem dX6_markets_4 : decode cX6_markets 4 = .ok (.invokestatic 78, 3) := by decide +kernel
theorem dX6_markets_7 : decode cX6_markets 7 = .ok (.ifCond .ne 6, 3) := by decide +kernel
theorem dX6_markets_10 : decode cX6_markets 10 = .ok (.ldc 85, 2) := by decide +kernel
theorem dX6_markets_12 : decode cX6_markets 12 = .ok (.ireturn, 1) := by decide +kernel
theorem dX6_markets_13 : decode cX6_markets 13 = .ok (.aload_n 0, 1) := by decide +kernel
theorem dX6_markets_14 : decode cX6_markets 14 = .ok (.getfield 28, 3) := by decide +kernel
theorem dX6_markets_17 : decode cX6_markets 17 = .ok (.getfield 161, 3) := by decide +kernel
theorem dX6_markets_20 : decode cX6_markets 20 = .ok (.istore_n 2, 1) := by decide +kernel
theorem dX6_markets_21 : decode cX6_markets 21 = .ok (.aload_n 0, 1) := by decide +kernel
theorem dX6_markets_22 : decode cX6_markets 22 = .ok (.getfield 28, 3) := by decide +kernel
theorem dX6_markets_25 : decode cX6_markets 25 = .ok (.aload_n 0, 1) := by decide +kernel
theorem dX6_markets_26 : decode cX6_markets 26 = .ok (.getfield 28, 3) := by decide +kernel
theorem dX6_markets_29 : decode cX6_markets 29 = .ok (.iload_n 1, 1) := by decide +kernel
theorem dX6_markets_30 : decode cX6_markets 30 = .ok (.invokevirtual 164, 3) := by decide +kernel
theorem dX6_markets_33 : decode cX6_markets 33 = .ok (.invokevirtual 167, 3) := by decide +kernel
theorem dX6_markets_36 : decode cX6_markets 36 = .ok (.aload_n 0, 1) := by decide +kernel
theorem dX6_markets_37 : decode cX6_markets 37 = .ok (.getfield 28, 3) := by decide +kernel
theorem dX6_markets_40 : decode cX6_markets 40 = .ok (.getfield 161, 3) := by decide +kernel
theorem dX6_markets_43 : decode cX6_markets 43 = .ok (.iload_n 2, 1) := by decide +kernel
theorem dX6_markets_44 : decode cX6_markets 44 = .ok (.isub, 1) := by decide +kernel
theorem dX6_markets_45 : decode cX6_markets 45 = .ok (.ireturn, 1) := by decide +kernel
theorem dX6_ledger_0 : decode cX6_ledger 0 = .ok (.iload_n 1, 1) := by decide +kernel
theorem dX6_ledger_1 : decode cX6_ledger 1 = .ok (.tableswitch 51 0 2 #[27, 35, 43], 27) := by decide +kernel
theorem dX6_ledger_28 : decode cX6_ledger 28 = .ok (.aload_n 0, 1) := by decide +kernel
theorem dX6_ledger_29 : decode cX6_ledger 29 = .ok (.getfield 28, 3) := by decide +kernel
theorem dX6_ledger_32 : decode cX6_ledger 32 = .ok (.getfield 161, 3) := by decide +kernel
theorem dX6_ledger_35 : decode cX6_ledger 35 = .ok (.ireturn, 1) := by decide +kernel
theorem dX6_ledger_36 : decode cX6_ledger 36 = .ok (.aload_n 0, 1) := by decide +kernel
theorem dX6_ledger_37 : decode cX6_ledger 37 = .ok (.getfield 28, 3) := by decide +kernel
theorem dX6_ledger_40 : decode cX6_ledger 40 = .ok (.getfield 171, 3) := by decide +kernel
theorem dX6_ledger_43 : decode cX6_ledger 43 = .ok (.ireturn, 1) := by decide +kernel
theorem dX6_ledger_44 : decode cX6_ledger 44 = .ok (.aload_n 0, 1) := by decide +kernel
theorem dX6_ledger_45 : decode cX6_ledger 45 = .ok (.getfield 28, 3) := by decide +kernel
theorem dX6_ledger_48 : decode cX6_ledger 48 = .ok (.invokevirtual 174, 3) := by decide +kernel
theorem dX6_ledger_51 : decode cX6_ledger 51 = .ok (.ireturn, 1) := by decide +kernel
theorem dX6_ledger_52 : decode cX6_ledger 52 = .ok (.ldc 85, 2) := by decide +kernel
theorem dX6_ledger_54 : decode cX6_ledger 54 = .ok (.ireturn, 1) := by decide +kernel
theorem dX6_isTrue_0 : decode cX6_isTrue 0 = .ok (.iload_n 1, 1) := by decide +kernel
theorem dX6_isTrue_1 : decode cX6_isTrue 1 = .ok (.iconst 0, 1) := by decide +kernel
theorem dX6_isTrue_2 : decode cX6_isTrue 2 = .ok (.bipush 99, 2) := by decide +kernel
theorem dX6_isTrue_4 : decode cX6_isTrue 4 = .ok (.invokestatic 78, 3) := by decide +kernel
theorem dX6_isTrue_7 : decode cX6_isTrue 7 = .ok (.ifCond .ne 6, 3) := by decide +kernel
theorem dX6_isTrue_10 : decode cX6_isTrue 10 = .ok (.ldc 85, 2) := by decide +kernel
theorem dX6_isTrue_12 : decode cX6_isTrue 12 = .ok (.ireturn, 1) := by decide +kernel
theorem dX6_isTrue_13 : decode cX6_isTrue 13 = .ok (.aload_n 0, 1) := by decide +kernel
theorem dX6_isTrue_14 : decode cX6_isTrue 14 = .ok (.getfield 28, 3) := by decide +kernel
theorem dX6_isTrue_17 : decode cX6_isTrue 17 = .ok (.iload_n 1, 1) := by decide +kernel
theorem dX6_isTrue_18 : decode cX6_isTrue 18 = .ok (.invokevirtual 178, 3) := by decide +kernel
theorem dX6_isTrue_21 : decode cX6_isTrue 21 = .ok (.istore_n 2, 1) := by decide +kernel
theorem dX6_isTrue_22 : decode cX6_isTrue 22 = .ok (.aload_n 0, 1) := by decide +kernel
theorem dX6_isTrue_23 : decode cX6_isTrue 23 = .ok (.getfield 28, 3) := by decide +kernel
theorem dX6_isTrue_26 : decode cX6_isTrue 26 = .ok (.iload_n 1, 1) := by decide +kernel
theorem dX6_isTrue_27 : decode cX6_isTrue 27 = .ok (.iload_n 2, 1) := by decide +kernel
theorem dX6_isTrue_28 : decode cX6_isTrue 28 = .ok (.invokevirtual 181, 3) := by decide +kernel
theorem dX6_isTrue_31 : decode cX6_isTrue 31 = .ok (.ifCond .ne 8, 3) := by decide +kernel
theorem dX6_isTrue_34 : decode cX6_isTrue 34 = .ok (.ldc 184, 2) := by decide +kernel
theorem dX6_isTrue_36 : decode cX6_isTrue 36 = .ok (.goto 4, 3) := by decide +kernel
theorem dX6_isTrue_39 : decode cX6_isTrue 39 = .ok (.iload_n 2, 1) := by decide +kernel
theorem dX6_isTrue_40 : decode cX6_isTrue 40 = .ok (.ireturn, 1) := by decide +kernel
theorem dX6_falseMany_0 : decode cX6_falseMany 0 = .ok (.aload_n 0, 1) := by decide +kernel
theorem dX6_falseMany_1 : decode cX6_falseMany 1 = .ok (.getfield 28, 3) := by decide +kernel
theorem dX6_falseMany_4 : decode cX6_falseMany 4 = .ok (.invokevirtual 185, 3) := by decide +kernel
theorem dX6_falseMany_7 : decode cX6_falseMany 7 = .ok (.ireturn, 1) := by decide +kernel
theorem dX6_fill_0 : decode cX6_fill 0 = .ok (.iload_n 1, 1) := by decide +kernel
theorem dX6_fill_1 : decode cX6_fill 1 = .ok (.invokestatic 82, 3) := by decide +kernel
theorem dX6_fill_4 : decode cX6_fill 4 = .ok (.ifCond .eq 12, 3) := by decide +kernel
theorem dX6_fill_7 : decode cX6_fill 7 = .ok (.iload_n 2, 1) := by decide +kernel
theorem dX6_fill_8 : decode cX6_fill 8 = .ok (.iconst 0, 1) := by decide +kernel
theorem dX6_fill_9 : decode cX6_fill 9 = .ok (.iconst 2, 1) := by decide +kernel
theorem dX6_fill_10 : decode cX6_fill 10 = .ok (.invokestatic 78, 3) := by decide +kernel
theorem dX6_fill_13 : decode cX6_fill 13 = .ok (.ifCond .ne 6, 3) := by decide +kernel
theorem dX6_fill_16 : decode cX6_fill 16 = .ok (.ldc 85, 2) := by decide +kernel
theorem dX6_fill_18 : decode cX6_fill 18 = .ok (.ireturn, 1) := by decide +kernel
theorem dX6_fill_19 : decode cX6_fill 19 = .ok (.aload_n 0, 1) := by decide +kernel
theorem dX6_fill_20 : decode cX6_fill 20 = .ok (.getfield 41, 3) := by decide +kernel
theorem dX6_fill_23 : decode cX6_fill 23 = .ok (.aload_n 0, 1) := by decide +kernel
theorem dX6_fill_24 : decode cX6_fill 24 = .ok (.getfield 28, 3) := by decide +kernel
theorem dX6_fill_27 : decode cX6_fill 27 = .ok (.iload_n 1, 1) := by decide +kernel
theorem dX6_fill_28 : decode cX6_fill 28 = .ok (.invokevirtual 188, 3) := by decide +kernel
theorem dX6_fill_31 : decode cX6_fill 31 = .ok (.aload_n 0, 1) := by decide +kernel
theorem dX6_fill_32 : decode cX6_fill 32 = .ok (.getfield 41, 3) := by decide +kernel
theorem dX6_fill_35 : decode cX6_fill 35 = .ok (.aload_n 0, 1) := by decide +kernel
theorem dX6_fill_36 : decode cX6_fill 36 = .ok (.getfield 28, 3) := by decide +kernel
theorem dX6_fill_39 : decode cX6_fill 39 = .ok (.getfield 86, 3) := by decide +kernel
theorem dX6_fill_42 : decode cX6_fill 42 = .ok (.aload_n 0, 1) := by decide +kernel
theorem dX6_fill_43 : decode cX6_fill 43 = .ok (.getfield 28, 3) := by decide +kernel
theorem dX6_fill_46 : decode cX6_fill 46 = .ok (.getfield 132, 3) := by decide +kernel
theorem dX6_fill_49 : decode cX6_fill 49 = .ok (.iload_n 1, 1) := by decide +kernel
theorem dX6_fill_50 : decode cX6_fill 50 = .ok (.iaload, 1) := by decide +kernel
theorem dX6_fill_51 : decode cX6_fill 51 = .ok (.invokevirtual 192, 3) := by decide +kernel
theorem dX6_fill_54 : decode cX6_fill 54 = .ok (.istore_n 3, 1) := by decide +kernel
theorem dX6_fill_55 : decode cX6_fill 55 = .ok (.iload_n 2, 1) := by decide +kernel
theorem dX6_fill_56 : decode cX6_fill 56 = .ok (.lookupswitch 52 #[(1, 28), (2, 40)], 28) := by decide +kernel
theorem dX6_fill_84 : decode cX6_fill 84 = .ok (.aload_n 0, 1) := by decide +kernel
theorem dX6_fill_85 : decode cX6_fill 85 = .ok (.getfield 41, 3) := by decide +kernel
theorem dX6_fill_88 : decode cX6_fill 88 = .ok (.getfield 195, 3) := by decide +kernel
theorem dX6_fill_91 : decode cX6_fill 91 = .ok (.iload_n 3, 1) := by decide +kernel
theorem dX6_fill_92 : decode cX6_fill 92 = .ok (.invokestatic 198, 3) := by decide +kernel
theorem dX6_fill_95 : decode cX6_fill 95 = .ok (.ireturn, 1) := by decide +kernel
theorem dX6_fill_96 : decode cX6_fill 96 = .ok (.aload_n 0, 1) := by decide +kernel
theorem dX6_fill_97 : decode cX6_fill 97 = .ok (.getfield 41, 3) := by decide +kernel
theorem dX6_fill_100 : decode cX6_fill 100 = .ok (.getfield 202, 3) := by decide +kernel
theorem dX6_fill_103 : decode cX6_fill 103 = .ok (.iload_n 3, 1) := by decide +kernel
theorem dX6_fill_104 : decode cX6_fill 104 = .ok (.invokestatic 198, 3) := by decide +kernel
theorem dX6_fill_107 : decode cX6_fill 107 = .ok (.ireturn, 1) := by decide +kernel
theorem dX6_fill_108 : decode cX6_fill 108 = .ok (.iload_n 3, 1) := by decide +kernel
theorem dX6_fill_109 : decode cX6_fill 109 = .ok (.ireturn, 1) := by decide +kernel
theorem dX6_emptied_0 : decode cX6_emptied 0 = .ok (.iload_n 1, 1) := by decide +kernel
theorem dX6_emptied_1 : decode cX6_emptied 1 = .ok (.invokestatic 82, 3) := by decide +kernel
theorem dX6_emptied_4 : decode cX6_emptied 4 = .ok (.ifCond .ne 6, 3) := by decide +kernel
theorem dX6_emptied_7 : decode cX6_emptied 7 = .ok (.ldc 85, 2) := by decide +kernel
theorem dX6_emptied_9 : decode cX6_emptied 9 = .ok (.ireturn, 1) := by decide +kernel
theorem dX6_emptied_10 : decode cX6_emptied 10 = .ok (.aload_n 0, 1) := by decide +kernel
theorem dX6_emptied_11 : decode cX6_emptied 11 = .ok (.getfield 35, 3) := by decide +kernel
theorem dX6_emptied_14 : decode cX6_emptied 14 = .ok (.aload_n 0, 1) := by decide +kernel
theorem dX6_emptied_15 : decode cX6_emptied 15 = .ok (.getfield 28, 3) := by decide +kernel
theorem dX6_emptied_18 : decode cX6_emptied 18 = .ok (.invokevirtual 205, 3) := by decide +kernel
theorem dX6_emptied_21 : decode cX6_emptied 21 = .ok (.iconst 0, 1) := by decide +kernel
theorem dX6_emptied_22 : decode cX6_emptied 22 = .ok (.istore_n 2, 1) := by decide +kernel
theorem dX6_emptied_23 : decode cX6_emptied 23 = .ok (.iload_n 2, 1) := by decide +kernel
theorem dX6_emptied_24 : decode cX6_emptied 24 = .ok (.aload_n 0, 1) := by decide +kernel
theorem dX6_emptied_25 : decode cX6_emptied 25 = .ok (.getfield 28, 3) := by decide +kernel
theorem dX6_emptied_28 : decode cX6_emptied 28 = .ok (.getfield 86, 3) := by decide +kernel
theorem dX6_emptied_31 : decode cX6_emptied 31 = .ok (.if_icmp .ge 63, 3) := by decide +kernel
theorem dX6_emptied_34 : decode cX6_emptied 34 = .ok (.aload_n 0, 1) := by decide +kernel
theorem dX6_emptied_35 : decode cX6_emptied 35 = .ok (.getfield 28, 3) := by decide +kernel
theorem dX6_emptied_38 : decode cX6_emptied 38 = .ok (.getfield 109, 3) := by decide +kernel
theorem dX6_emptied_41 : decode cX6_emptied 41 = .ok (.iload_n 2, 1) := by decide +kernel
theorem dX6_emptied_42 : decode cX6_emptied 42 = .ok (.iaload, 1) := by decide +kernel
theorem dX6_emptied_43 : decode cX6_emptied 43 = .ok (.iload_n 1, 1) := by decide +kernel
theorem dX6_emptied_44 : decode cX6_emptied 44 = .ok (.if_icmp .ne 44, 3) := by decide +kernel
theorem dX6_emptied_47 : decode cX6_emptied 47 = .ok (.aload_n 0, 1) := by decide +kernel
theorem dX6_emptied_48 : decode cX6_emptied 48 = .ok (.getfield 35, 3) := by decide +kernel
theorem dX6_emptied_51 : decode cX6_emptied 51 = .ok (.iload_n 2, 1) := by decide +kernel
theorem dX6_emptied_52 : decode cX6_emptied 52 = .ok (.invokevirtual 115, 3) := by decide +kernel
theorem dX6_emptied_55 : decode cX6_emptied 55 = .ok (.istore_n 3, 1) := by decide +kernel
theorem dX6_emptied_56 : decode cX6_emptied 56 = .ok (.aload_n 0, 1) := by decide +kernel
theorem dX6_emptied_57 : decode cX6_emptied 57 = .ok (.getfield 35, 3) := by decide +kernel
theorem dX6_emptied_60 : decode cX6_emptied 60 = .ok (.iload_n 2, 1) := by decide +kernel
theorem dX6_emptied_61 : decode cX6_emptied 61 = .ok (.iload_n 3, 1) := by decide +kernel
theorem dX6_emptied_62 : decode cX6_emptied 62 = .ok (.invokevirtual 209, 3) := by decide +kernel
theorem dX6_emptied_65 : decode cX6_emptied 65 = .ok (.istore 4, 2) := by decide +kernel
theorem dX6_emptied_67 : decode cX6_emptied 67 = .ok (.aload_n 0, 1) := by decide +kernel
theorem dX6_emptied_68 : decode cX6_emptied 68 = .ok (.getfield 35, 3) := by decide +kernel
theorem dX6_emptied_71 : decode cX6_emptied 71 = .ok (.iload_n 2, 1) := by decide +kernel
theorem dX6_emptied_72 : decode cX6_emptied 72 = .ok (.iload 4, 2) := by decide +kernel
theorem dX6_emptied_74 : decode cX6_emptied 74 = .ok (.aload_n 0, 1) := by decide +kernel
theorem dX6_emptied_75 : decode cX6_emptied 75 = .ok (.getfield 35, 3) := by decide +kernel
theorem dX6_emptied_78 : decode cX6_emptied 78 = .ok (.iload 4, 2) := by decide +kernel
theorem dX6_emptied_80 : decode cX6_emptied 80 = .ok (.iload_n 2, 1) := by decide +kernel
theorem dX6_emptied_81 : decode cX6_emptied 81 = .ok (.iload_n 3, 1) := by decide +kernel
theorem dX6_emptied_82 : decode cX6_emptied 82 = .ok (.invokevirtual 141, 3) := by decide +kernel
theorem dX6_emptied_85 : decode cX6_emptied 85 = .ok (.invokevirtual 157, 3) := by decide +kernel
theorem dX6_emptied_88 : decode cX6_emptied 88 = .ok (.iinc 2 1, 3) := by decide +kernel
theorem dX6_emptied_91 : decode cX6_emptied 91 = .ok (.goto (-68), 3) := by decide +kernel
theorem dX6_emptied_94 : decode cX6_emptied 94 = .ok (.aload_n 0, 1) := by decide +kernel
theorem dX6_emptied_95 : decode cX6_emptied 95 = .ok (.getfield 35, 3) := by decide +kernel
theorem dX6_emptied_98 : decode cX6_emptied 98 = .ok (.getfield 132, 3) := by decide +kernel
theorem dX6_emptied_101 : decode cX6_emptied 101 = .ok (.iload_n 1, 1) := by decide +kernel
theorem dX6_emptied_102 : decode cX6_emptied 102 = .ok (.iaload, 1) := by decide +kernel
theorem dX6_emptied_103 : decode cX6_emptied 103 = .ok (.aload_n 0, 1) := by decide +kernel
theorem dX6_emptied_104 : decode cX6_emptied 104 = .ok (.getfield 28, 3) := by decide +kernel
theorem dX6_emptied_107 : decode cX6_emptied 107 = .ok (.getfield 132, 3) := by decide +kernel
theorem dX6_emptied_110 : decode cX6_emptied 110 = .ok (.iload_n 1, 1) := by decide +kernel
theorem dX6_emptied_111 : decode cX6_emptied 111 = .ok (.iaload, 1) := by decide +kernel
theorem dX6_emptied_112 : decode cX6_emptied 112 = .ok (.isub, 1) := by decide +kernel
theorem dX6_emptied_113 : decode cX6_emptied 113 = .ok (.ireturn, 1) := by decide +kernel
theorem dX6_behind_0 : decode cX6_behind 0 = .ok (.aload_n 0, 1) := by decide +kernel
theorem dX6_behind_1 : decode cX6_behind 1 = .ok (.iload_n 1, 1) := by decide +kernel
theorem dX6_behind_2 : decode cX6_behind 2 = .ok (.invokevirtual 94, 3) := by decide +kernel
theorem dX6_behind_5 : decode cX6_behind 5 = .ok (.ifCond .eq 22, 3) := by decide +kernel
theorem dX6_behind_8 : decode cX6_behind 8 = .ok (.iload_n 2, 1) := by decide +kernel
theorem dX6_behind_9 : decode cX6_behind 9 = .ok (.iconst 0, 1) := by decide +kernel
theorem dX6_behind_10 : decode cX6_behind 10 = .ok (.bipush 100, 2) := by decide +kernel
theorem dX6_behind_12 : decode cX6_behind 12 = .ok (.invokestatic 78, 3) := by decide +kernel
theorem dX6_behind_15 : decode cX6_behind 15 = .ok (.ifCond .eq 12, 3) := by decide +kernel
theorem dX6_behind_18 : decode cX6_behind 18 = .ok (.iload_n 3, 1) := by decide +kernel
theorem dX6_behind_19 : decode cX6_behind 19 = .ok (.iconst 0, 1) := by decide +kernel
theorem dX6_behind_20 : decode cX6_behind 20 = .ok (.iconst 4, 1) := by decide +kernel
theorem dX6_behind_21 : decode cX6_behind 21 = .ok (.invokestatic 78, 3) := by decide +kernel
theorem dX6_behind_24 : decode cX6_behind 24 = .ok (.ifCond .ne 6, 3) := by decide +kernel
theorem dX6_behind_27 : decode cX6_behind 27 = .ok (.ldc 85, 2) := by decide +kernel
theorem dX6_behind_29 : decode cX6_behind 29 = .ok (.ireturn, 1) := by decide +kernel
theorem dX6_behind_30 : decode cX6_behind 30 = .ok (.aload_n 0, 1) := by decide +kernel
theorem dX6_behind_31 : decode cX6_behind 31 = .ok (.getfield 35, 3) := by decide +kernel
theorem dX6_behind_34 : decode cX6_behind 34 = .ok (.aload_n 0, 1) := by decide +kernel
theorem dX6_behind_35 : decode cX6_behind 35 = .ok (.getfield 28, 3) := by decide +kernel
theorem dX6_behind_38 : decode cX6_behind 38 = .ok (.invokevirtual 205, 3) := by decide +kernel
theorem dX6_behind_41 : decode cX6_behind 41 = .ok (.aload_n 0, 1) := by decide +kernel
theorem dX6_behind_42 : decode cX6_behind 42 = .ok (.getfield 35, 3) := by decide +kernel
theorem dX6_behind_45 : decode cX6_behind 45 = .ok (.iload_n 2, 1) := by decide +kernel
theorem dX6_behind_46 : decode cX6_behind 46 = .ok (.invokevirtual 167, 3) := by decide +kernel
theorem dX6_behind_49 : decode cX6_behind 49 = .ok (.iload_n 3, 1) := by decide +kernel
theorem dX6_behind_50 : decode cX6_behind 50 = .ok (.tableswitch 65 0 3 #[30, 40, 49, 57], 30) := by decide +kernel
theorem dX6_behind_80 : decode cX6_behind 80 = .ok (.aload_n 0, 1) := by decide +kernel
theorem dX6_behind_81 : decode cX6_behind 81 = .ok (.getfield 35, 3) := by decide +kernel
theorem dX6_behind_84 : decode cX6_behind 84 = .ok (.getfield 109, 3) := by decide +kernel
theorem dX6_behind_87 : decode cX6_behind 87 = .ok (.iload_n 1, 1) := by decide +kernel
theorem dX6_behind_88 : decode cX6_behind 88 = .ok (.iaload, 1) := by decide +kernel
theorem dX6_behind_89 : decode cX6_behind 89 = .ok (.ireturn, 1) := by decide +kernel
theorem dX6_behind_90 : decode cX6_behind 90 = .ok (.aload_n 0, 1) := by decide +kernel
theorem dX6_behind_91 : decode cX6_behind 91 = .ok (.getfield 35, 3) := by decide +kernel
theorem dX6_behind_94 : decode cX6_behind 94 = .ok (.iload_n 1, 1) := by decide +kernel
theorem dX6_behind_95 : decode cX6_behind 95 = .ok (.invokevirtual 115, 3) := by decide +kernel
theorem dX6_behind_98 : decode cX6_behind 98 = .ok (.ireturn, 1) := by decide +kernel
theorem dX6_behind_99 : decode cX6_behind 99 = .ok (.aload_n 0, 1) := by decide +kernel
theorem dX6_behind_100 : decode cX6_behind 100 = .ok (.getfield 35, 3) := by decide +kernel
theorem dX6_behind_103 : decode cX6_behind 103 = .ok (.invokevirtual 174, 3) := by decide +kernel
theorem dX6_behind_106 : decode cX6_behind 106 = .ok (.ireturn, 1) := by decide +kernel
theorem dX6_behind_107 : decode cX6_behind 107 = .ok (.aload_n 0, 1) := by decide +kernel
theorem dX6_behind_108 : decode cX6_behind 108 = .ok (.getfield 35, 3) := by decide +kernel
theorem dX6_behind_111 : decode cX6_behind 111 = .ok (.getfield 161, 3) := by decide +kernel
theorem dX6_behind_114 : decode cX6_behind 114 = .ok (.ireturn, 1) := by decide +kernel
theorem dX6_behind_115 : decode cX6_behind 115 = .ok (.aload_n 0, 1) := by decide +kernel
theorem dX6_behind_116 : decode cX6_behind 116 = .ok (.getfield 35, 3) := by decide +kernel
theorem dX6_behind_119 : decode cX6_behind 119 = .ok (.getfield 171, 3) := by decide +kernel
theorem dX6_behind_122 : decode cX6_behind 122 = .ok (.ireturn, 1) := by decide +kernel
theorem dX6_richest_0 : decode cX6_richest 0 = .ok (.iload_n 1, 1) := by decide +kernel
theorem dX6_richest_1 : decode cX6_richest 1 = .ok (.iconst 0, 1) := by decide +kernel
theorem dX6_richest_2 : decode cX6_richest 2 = .ok (.bipush 100, 2) := by decide +kernel
theorem dX6_richest_4 : decode cX6_richest 4 = .ok (.invokestatic 78, 3) := by decide +kernel
theorem dX6_richest_7 : decode cX6_richest 7 = .ok (.ifCond .eq 12, 3) := by decide +kernel
theorem dX6_richest_10 : decode cX6_richest 10 = .ok (.iload_n 2, 1) := by decide +kernel
theorem dX6_richest_11 : decode cX6_richest 11 = .ok (.iconst 0, 1) := by decide +kernel
theorem dX6_richest_12 : decode cX6_richest 12 = .ok (.iconst 1, 1) := by decide +kernel
theorem dX6_richest_13 : decode cX6_richest 13 = .ok (.invokestatic 78, 3) := by decide +kernel
theorem dX6_richest_16 : decode cX6_richest 16 = .ok (.ifCond .ne 6, 3) := by decide +kernel
theorem dX6_richest_19 : decode cX6_richest 19 = .ok (.ldc 85, 2) := by decide +kernel
theorem dX6_richest_21 : decode cX6_richest 21 = .ok (.ireturn, 1) := by decide +kernel
theorem dX6_richest_22 : decode cX6_richest 22 = .ok (.aload_n 0, 1) := by decide +kernel
theorem dX6_richest_23 : decode cX6_richest 23 = .ok (.getfield 35, 3) := by decide +kernel
theorem dX6_richest_26 : decode cX6_richest 26 = .ok (.aload_n 0, 1) := by decide +kernel
theorem dX6_richest_27 : decode cX6_richest 27 = .ok (.getfield 28, 3) := by decide +kernel
theorem dX6_richest_30 : decode cX6_richest 30 = .ok (.invokevirtual 205, 3) := by decide +kernel
theorem dX6_richest_33 : decode cX6_richest 33 = .ok (.aload_n 0, 1) := by decide +kernel
theorem dX6_richest_34 : decode cX6_richest 34 = .ok (.getfield 35, 3) := by decide +kernel
theorem dX6_richest_37 : decode cX6_richest 37 = .ok (.iload_n 1, 1) := by decide +kernel
theorem dX6_richest_38 : decode cX6_richest 38 = .ok (.invokevirtual 167, 3) := by decide +kernel
theorem dX6_richest_41 : decode cX6_richest 41 = .ok (.iconst 0, 1) := by decide +kernel
theorem dX6_richest_42 : decode cX6_richest 42 = .ok (.istore_n 3, 1) := by decide +kernel
theorem dX6_richest_43 : decode cX6_richest 43 = .ok (.iconst 1, 1) := by decide +kernel
theorem dX6_richest_44 : decode cX6_richest 44 = .ok (.istore 4, 2) := by decide +kernel
theorem dX6_richest_46 : decode cX6_richest 46 = .ok (.iload 4, 2) := by decide +kernel
theorem dX6_richest_48 : decode cX6_richest 48 = .ok (.bipush 6, 2) := by decide +kernel
theorem dX6_richest_50 : decode cX6_richest 50 = .ok (.if_icmp .ge 34, 3) := by decide +kernel
theorem dX6_richest_53 : decode cX6_richest 53 = .ok (.aload_n 0, 1) := by decide +kernel
theorem dX6_richest_54 : decode cX6_richest 54 = .ok (.getfield 35, 3) := by decide +kernel
theorem dX6_richest_57 : decode cX6_richest 57 = .ok (.getfield 132, 3) := by decide +kernel
theorem dX6_richest_60 : decode cX6_richest 60 = .ok (.iload 4, 2) := by decide +kernel
theorem dX6_richest_62 : decode cX6_richest 62 = .ok (.iaload, 1) := by decide +kernel
theorem dX6_richest_63 : decode cX6_richest 63 = .ok (.aload_n 0, 1) := by decide +kernel
theorem dX6_richest_64 : decode cX6_richest 64 = .ok (.getfield 35, 3) := by decide +kernel
theorem dX6_richest_67 : decode cX6_richest 67 = .ok (.getfield 132, 3) := by decide +kernel
theorem dX6_richest_70 : decode cX6_richest 70 = .ok (.iload_n 3, 1) := by decide +kernel
theorem dX6_richest_71 : decode cX6_richest 71 = .ok (.iaload, 1) := by decide +kernel
theorem dX6_richest_72 : decode cX6_richest 72 = .ok (.if_icmp .le 6, 3) := by decide +kernel
theorem dX6_richest_75 : decode cX6_richest 75 = .ok (.iload 4, 2) := by decide +kernel
theorem dX6_richest_77 : decode cX6_richest 77 = .ok (.istore_n 3, 1) := by decide +kernel
theorem dX6_richest_78 : decode cX6_richest 78 = .ok (.iinc 4 1, 3) := by decide +kernel
theorem dX6_richest_81 : decode cX6_richest 81 = .ok (.goto (-35), 3) := by decide +kernel
theorem dX6_richest_84 : decode cX6_richest 84 = .ok (.iload_n 2, 1) := by decide +kernel
theorem dX6_richest_85 : decode cX6_richest 85 = .ok (.ifCond .ne 7, 3) := by decide +kernel
theorem dX6_richest_88 : decode cX6_richest 88 = .ok (.iload_n 3, 1) := by decide +kernel
theorem dX6_richest_89 : decode cX6_richest 89 = .ok (.goto 12, 3) := by decide +kernel
theorem dX6_richest_92 : decode cX6_richest 92 = .ok (.aload_n 0, 1) := by decide +kernel
theorem dX6_richest_93 : decode cX6_richest 93 = .ok (.getfield 35, 3) := by decide +kernel
theorem dX6_richest_96 : decode cX6_richest 96 = .ok (.getfield 132, 3) := by decide +kernel
theorem dX6_richest_99 : decode cX6_richest 99 = .ok (.iload_n 3, 1) := by decide +kernel
theorem dX6_richest_100 : decode cX6_richest 100 = .ok (.iaload, 1) := by decide +kernel
theorem dX6_richest_101 : decode cX6_richest 101 = .ok (.ireturn, 1) := by decide +kernel
theorem dX6_worn_0 : decode cX6_worn 0 = .ok (.aload_n 0, 1) := by decide +kernel
theorem dX6_worn_1 : decode cX6_worn 1 = .ok (.getfield 35, 3) := by decide +kernel
theorem dX6_worn_4 : decode cX6_worn 4 = .ok (.aload_n 0, 1) := by decide +kernel
theorem dX6_worn_5 : decode cX6_worn 5 = .ok (.getfield 28, 3) := by decide +kernel
theorem dX6_worn_8 : decode cX6_worn 8 = .ok (.invokevirtual 205, 3) := by decide +kernel
theorem dX6_worn_11 : decode cX6_worn 11 = .ok (.iconst 0, 1) := by decide +kernel
theorem dX6_worn_12 : decode cX6_worn 12 = .ok (.istore_n 1, 1) := by decide +kernel
theorem dX6_worn_13 : decode cX6_worn 13 = .ok (.iload_n 1, 1) := by decide +kernel
theorem dX6_worn_14 : decode cX6_worn 14 = .ok (.sipush 200, 3) := by decide +kernel
theorem dX6_worn_17 : decode cX6_worn 17 = .ok (.if_icmp .gt 29, 3) := by decide +kernel
theorem dX6_worn_20 : decode cX6_worn 20 = .ok (.aload_n 0, 1) := by decide +kernel
theorem dX6_worn_21 : decode cX6_worn 21 = .ok (.getfield 35, 3) := by decide +kernel
theorem dX6_worn_24 : decode cX6_worn 24 = .ok (.invokevirtual 212, 3) := by decide +kernel
theorem dX6_worn_27 : decode cX6_worn 27 = .ok (.ifCond .ne 5, 3) := by decide +kernel
theorem dX6_worn_30 : decode cX6_worn 30 = .ok (.iload_n 1, 1) := by decide +kernel
theorem dX6_worn_31 : decode cX6_worn 31 = .ok (.ireturn, 1) := by decide +kernel
theorem dX6_worn_32 : decode cX6_worn 32 = .ok (.aload_n 0, 1) := by decide +kernel
theorem dX6_worn_33 : decode cX6_worn 33 = .ok (.getfield 35, 3) := by decide +kernel
theorem dX6_worn_36 : decode cX6_worn 36 = .ok (.iconst 1, 1) := by decide +kernel
theorem dX6_worn_37 : decode cX6_worn 37 = .ok (.invokevirtual 167, 3) := by decide +kernel
theorem dX6_worn_40 : decode cX6_worn 40 = .ok (.iinc 1 1, 3) := by decide +kernel
theorem dX6_worn_43 : decode cX6_worn 43 = .ok (.goto (-30), 3) := by decide +kernel
theorem dX6_worn_46 : decode cX6_worn 46 = .ok (.ldc 184, 2) := by decide +kernel
theorem dX6_worn_48 : decode cX6_worn 48 = .ok (.ireturn, 1) := by decide +kernel
theorem dX6_dye_0 : decode cX6_dye 0 = .ok (.aload_n 0, 1) := by decide +kernel
theorem dX6_dye_1 : decode cX6_dye 1 = .ok (.iload_n 1, 1) := by decide +kernel
theorem dX6_dye_2 : decode cX6_dye 2 = .ok (.invokevirtual 94, 3) := by decide +kernel
theorem dX6_dye_5 : decode cX6_dye 5 = .ok (.ifCond .eq 22, 3) := by decide +kernel
theorem dX6_dye_8 : decode cX6_dye 8 = .ok (.iload_n 2, 1) := by decide +kernel
theorem dX6_dye_9 : decode cX6_dye 9 = .ok (.iconst 1, 1) := by decide +kernel
theorem dX6_dye_10 : decode cX6_dye 10 = .ok (.bipush 60, 2) := by decide +kernel
theorem dX6_dye_12 : decode cX6_dye 12 = .ok (.invokestatic 78, 3) := by decide +kernel
theorem dX6_dye_15 : decode cX6_dye 15 = .ok (.ifCond .eq 12, 3) := by decide +kernel
theorem dX6_dye_18 : decode cX6_dye 18 = .ok (.iload_n 3, 1) := by decide +kernel
theorem dX6_dye_19 : decode cX6_dye 19 = .ok (.iconst 0, 1) := by decide +kernel
theorem dX6_dye_20 : decode cX6_dye 20 = .ok (.iconst 1, 1) := by decide +kernel
theorem dX6_dye_21 : decode cX6_dye 21 = .ok (.invokestatic 78, 3) := by decide +kernel
theorem dX6_dye_24 : decode cX6_dye 24 = .ok (.ifCond .ne 6, 3) := by decide +kernel
theorem dX6_dye_27 : decode cX6_dye 27 = .ok (.ldc 85, 2) := by decide +kernel
theorem dX6_dye_29 : decode cX6_dye 29 = .ok (.ireturn, 1) := by decide +kernel
theorem dX6_dye_30 : decode cX6_dye 30 = .ok (.aload_n 0, 1) := by decide +kernel
theorem dX6_dye_31 : decode cX6_dye 31 = .ok (.getfield 28, 3) := by decide +kernel
theorem dX6_dye_34 : decode cX6_dye 34 = .ok (.getfield 109, 3) := by decide +kernel
theorem dX6_dye_37 : decode cX6_dye 37 = .ok (.iload_n 1, 1) := by decide +kernel
theorem dX6_dye_38 : decode cX6_dye 38 = .ok (.iaload, 1) := by decide +kernel
theorem dX6_dye_39 : decode cX6_dye 39 = .ok (.istore 4, 2) := by decide +kernel
theorem dX6_dye_41 : decode cX6_dye 41 = .ok (.iconst (-1), 1) := by decide +kernel
theorem dX6_dye_42 : decode cX6_dye 42 = .ok (.istore 5, 2) := by decide +kernel
theorem dX6_dye_44 : decode cX6_dye 44 = .ok (.iconst (-1), 1) := by decide +kernel
theorem dX6_dye_45 : decode cX6_dye 45 = .ok (.istore 6, 2) := by decide +kernel
theorem dX6_dye_47 : decode cX6_dye 47 = .ok (.iconst 0, 1) := by decide +kernel
theorem dX6_dye_48 : decode cX6_dye 48 = .ok (.istore 7, 2) := by decide +kernel
theorem dX6_dye_50 : decode cX6_dye 50 = .ok (.iload 7, 2) := by decide +kernel
theorem dX6_dye_52 : decode cX6_dye 52 = .ok (.bipush 9, 2) := by decide +kernel
theorem dX6_dye_54 : decode cX6_dye 54 = .ok (.if_icmp .gt 70, 3) := by decide +kernel
theorem dX6_dye_57 : decode cX6_dye 57 = .ok (.aload_n 0, 1) := by decide +kernel
theorem dX6_dye_58 : decode cX6_dye 58 = .ok (.getfield 35, 3) := by decide +kernel
theorem dX6_dye_61 : decode cX6_dye 61 = .ok (.aload_n 0, 1) := by decide +kernel
theorem dX6_dye_62 : decode cX6_dye 62 = .ok (.getfield 28, 3) := by decide +kernel
theorem dX6_dye_65 : decode cX6_dye 65 = .ok (.invokevirtual 205, 3) := by decide +kernel
theorem dX6_dye_68 : decode cX6_dye 68 = .ok (.aload_n 0, 1) := by decide +kernel
theorem dX6_dye_69 : decode cX6_dye 69 = .ok (.getfield 35, 3) := by decide +kernel
theorem dX6_dye_72 : decode cX6_dye 72 = .ok (.getfield 103, 3) := by decide +kernel
theorem dX6_dye_75 : decode cX6_dye 75 = .ok (.iload_n 1, 1) := by decide +kernel
theorem dX6_dye_76 : decode cX6_dye 76 = .ok (.iload 7, 2) := by decide +kernel
theorem dX6_dye_78 : decode cX6_dye 78 = .ok (.iastore, 1) := by decide +kernel
theorem dX6_dye_79 : decode cX6_dye 79 = .ok (.aload_n 0, 1) := by decide +kernel
theorem dX6_dye_80 : decode cX6_dye 80 = .ok (.getfield 35, 3) := by decide +kernel
theorem dX6_dye_83 : decode cX6_dye 83 = .ok (.iload_n 2, 1) := by decide +kernel
theorem dX6_dye_84 : decode cX6_dye 84 = .ok (.invokevirtual 167, 3) := by decide +kernel
theorem dX6_dye_87 : decode cX6_dye 87 = .ok (.aload_n 0, 1) := by decide +kernel
theorem dX6_dye_88 : decode cX6_dye 88 = .ok (.getfield 35, 3) := by decide +kernel
theorem dX6_dye_91 : decode cX6_dye 91 = .ok (.getfield 132, 3) := by decide +kernel
theorem dX6_dye_94 : decode cX6_dye 94 = .ok (.iload 4, 2) := by decide +kernel
theorem dX6_dye_96 : decode cX6_dye 96 = .ok (.iaload, 1) := by decide +kernel
theorem dX6_dye_97 : decode cX6_dye 97 = .ok (.iload 6, 2) := by decide +kernel
theorem dX6_dye_99 : decode cX6_dye 99 = .ok (.if_icmp .le 19, 3) := by decide +kernel
theorem dX6_dye_102 : decode cX6_dye 102 = .ok (.iload 7, 2) := by decide +kernel
theorem dX6_dye_104 : decode cX6_dye 104 = .ok (.istore 5, 2) := by decide +kernel
theorem dX6_dye_106 : decode cX6_dye 106 = .ok (.aload_n 0, 1) := by decide +kernel
theorem dX6_dye_107 : decode cX6_dye 107 = .ok (.getfield 35, 3) := by decide +kernel
theorem dX6_dye_110 : decode cX6_dye 110 = .ok (.getfield 132, 3) := by decide +kernel
theorem dX6_dye_113 : decode cX6_dye 113 = .ok (.iload 4, 2) := by decide +kernel
theorem dX6_dye_115 : decode cX6_dye 115 = .ok (.iaload, 1) := by decide +kernel
theorem dX6_dye_116 : decode cX6_dye 116 = .ok (.istore 6, 2) := by decide +kernel
theorem dX6_dye_118 : decode cX6_dye 118 = .ok (.iinc 7 1, 3) := by decide +kernel
theorem dX6_dye_121 : decode cX6_dye 121 = .ok (.goto (-71), 3) := by decide +kernel
theorem dX6_dye_124 : decode cX6_dye 124 = .ok (.iload_n 3, 1) := by decide +kernel
theorem dX6_dye_125 : decode cX6_dye 125 = .ok (.ifCond .ne 8, 3) := by decide +kernel
theorem dX6_dye_128 : decode cX6_dye 128 = .ok (.iload 5, 2) := by decide +kernel
theorem dX6_dye_130 : decode cX6_dye 130 = .ok (.goto 5, 3) := by decide +kernel
theorem dX6_dye_133 : decode cX6_dye 133 = .ok (.iload 6, 2) := by decide +kernel
theorem dX6_dye_135 : decode cX6_dye 135 = .ok (.ireturn, 1) := by decide +kernel
theorem dX6_mends_0 : decode cX6_mends 0 = .ok (.iload_n 1, 1) := by decide +kernel
theorem dX6_mends_1 : decode cX6_mends 1 = .ok (.iconst 1, 1) := by decide +kernel
theorem dX6_mends_2 : decode cX6_mends 2 = .ok (.bipush 60, 2) := by decide +kernel
theorem dX6_mends_4 : decode cX6_mends 4 = .ok (.invokestatic 78, 3) := by decide +kernel
theorem dX6_mends_7 : decode cX6_mends 7 = .ok (.ifCond .eq 12, 3) := by decide +kernel
theorem dX6_mends_10 : decode cX6_mends 10 = .ok (.iload_n 2, 1) := by decide +kernel
theorem dX6_mends_11 : decode cX6_mends 11 = .ok (.iconst 0, 1) := by decide +kernel
theorem dX6_mends_12 : decode cX6_mends 12 = .ok (.iconst 1, 1) := by decide +kernel
theorem dX6_mends_13 : decode cX6_mends 13 = .ok (.invokestatic 78, 3) := by decide +kernel
theorem dX6_mends_16 : decode cX6_mends 16 = .ok (.ifCond .ne 6, 3) := by decide +kernel
theorem dX6_mends_19 : decode cX6_mends 19 = .ok (.ldc 85, 2) := by decide +kernel
theorem dX6_mends_21 : decode cX6_mends 21 = .ok (.ireturn, 1) := by decide +kernel
theorem dX6_mends_22 : decode cX6_mends 22 = .ok (.aload_n 0, 1) := by decide +kernel
theorem dX6_mends_23 : decode cX6_mends 23 = .ok (.getfield 28, 3) := by decide +kernel
theorem dX6_mends_26 : decode cX6_mends 26 = .ok (.getfield 86, 3) := by decide +kernel
theorem dX6_mends_29 : decode cX6_mends 29 = .ok (.ifCond .ne 6, 3) := by decide +kernel
theorem dX6_mends_32 : decode cX6_mends 32 = .ok (.ldc 184, 2) := by decide +kernel
theorem dX6_mends_34 : decode cX6_mends 34 = .ok (.ireturn, 1) := by decide +kernel
theorem dX6_mends_35 : decode cX6_mends 35 = .ok (.iconst (-1), 1) := by decide +kernel
theorem dX6_mends_36 : decode cX6_mends 36 = .ok (.istore_n 3, 1) := by decide +kernel
theorem dX6_mends_37 : decode cX6_mends 37 = .ok (.iconst (-1), 1) := by decide +kernel
theorem dX6_mends_38 : decode cX6_mends 38 = .ok (.istore 4, 2) := by decide +kernel
theorem dX6_mends_40 : decode cX6_mends 40 = .ok (.iconst 0, 1) := by decide +kernel
theorem dX6_mends_41 : decode cX6_mends 41 = .ok (.istore 5, 2) := by decide +kernel
theorem dX6_mends_43 : decode cX6_mends 43 = .ok (.iload 5, 2) := by decide +kernel
theorem dX6_mends_45 : decode cX6_mends 45 = .ok (.aload_n 0, 1) := by decide +kernel
theorem dX6_mends_46 : decode cX6_mends 46 = .ok (.getfield 28, 3) := by decide +kernel
theorem dX6_mends_49 : decode cX6_mends 49 = .ok (.getfield 86, 3) := by decide +kernel
theorem dX6_mends_52 : decode cX6_mends 52 = .ok (.if_icmp .ge 63, 3) := by decide +kernel
theorem dX6_mends_55 : decode cX6_mends 55 = .ok (.aload_n 0, 1) := by decide +kernel
theorem dX6_mends_56 : decode cX6_mends 56 = .ok (.getfield 35, 3) := by decide +kernel
theorem dX6_mends_59 : decode cX6_mends 59 = .ok (.aload_n 0, 1) := by decide +kernel
theorem dX6_mends_60 : decode cX6_mends 60 = .ok (.getfield 28, 3) := by decide +kernel
theorem dX6_mends_63 : decode cX6_mends 63 = .ok (.invokevirtual 205, 3) := by decide +kernel
theorem dX6_mends_66 : decode cX6_mends 66 = .ok (.aload_n 0, 1) := by decide +kernel
theorem dX6_mends_67 : decode cX6_mends 67 = .ok (.getfield 35, 3) := by decide +kernel
theorem dX6_mends_70 : decode cX6_mends 70 = .ok (.getfield 97, 3) := by decide +kernel
theorem dX6_mends_73 : decode cX6_mends 73 = .ok (.iload 5, 2) := by decide +kernel
theorem dX6_mends_75 : decode cX6_mends 75 = .ok (.iconst 1, 1) := by decide +kernel
theorem dX6_mends_76 : decode cX6_mends 76 = .ok (.iastore, 1) := by decide +kernel
theorem dX6_mends_77 : decode cX6_mends 77 = .ok (.aload_n 0, 1) := by decide +kernel
theorem dX6_mends_78 : decode cX6_mends 78 = .ok (.getfield 35, 3) := by decide +kernel
theorem dX6_mends_81 : decode cX6_mends 81 = .ok (.iload_n 1, 1) := by decide +kernel
theorem dX6_mends_82 : decode cX6_mends 82 = .ok (.invokevirtual 167, 3) := by decide +kernel
theorem dX6_mends_85 : decode cX6_mends 85 = .ok (.aload_n 0, 1) := by decide +kernel
theorem dX6_mends_86 : decode cX6_mends 86 = .ok (.getfield 35, 3) := by decide +kernel
theorem dX6_mends_89 : decode cX6_mends 89 = .ok (.getfield 161, 3) := by decide +kernel
theorem dX6_mends_92 : decode cX6_mends 92 = .ok (.iload 4, 2) := by decide +kernel
theorem dX6_mends_94 : decode cX6_mends 94 = .ok (.if_icmp .le 15, 3) := by decide +kernel
theorem dX6_mends_97 : decode cX6_mends 97 = .ok (.iload 5, 2) := by decide +kernel
theorem dX6_mends_99 : decode cX6_mends 99 = .ok (.istore_n 3, 1) := by decide +kernel
theorem dX6_mends_100 : decode cX6_mends 100 = .ok (.aload_n 0, 1) := by decide +kernel
theorem dX6_mends_101 : decode cX6_mends 101 = .ok (.getfield 35, 3) := by decide +kernel
theorem dX6_mends_104 : decode cX6_mends 104 = .ok (.getfield 161, 3) := by decide +kernel
theorem dX6_mends_107 : decode cX6_mends 107 = .ok (.istore 4, 2) := by decide +kernel
theorem dX6_mends_109 : decode cX6_mends 109 = .ok (.iinc 5 1, 3) := by decide +kernel
theorem dX6_mends_112 : decode cX6_mends 112 = .ok (.goto (-69), 3) := by decide +kernel
theorem dX6_mends_115 : decode cX6_mends 115 = .ok (.iload_n 2, 1) := by decide +kernel
theorem dX6_mends_116 : decode cX6_mends 116 = .ok (.ifCond .ne 7, 3) := by decide +kernel
theorem dX6_mends_119 : decode cX6_mends 119 = .ok (.iload_n 3, 1) := by decide +kernel
theorem dX6_mends_120 : decode cX6_mends 120 = .ok (.goto 5, 3) := by decide +kernel
theorem dX6_mends_123 : decode cX6_mends 123 = .ok (.iload 4, 2) := by decide +kernel
theorem dX6_mends_125 : decode cX6_mends 125 = .ok (.ireturn, 1) := by decide +kernel
theorem dX6_toldBy_0 : decode cX6_toldBy 0 = .ok (.iload_n 1, 1) := by decide +kernel
theorem dX6_toldBy_1 : decode cX6_toldBy 1 = .ok (.invokestatic 215, 3) := by decide +kernel
theorem dX6_toldBy_4 : decode cX6_toldBy 4 = .ok (.ifCond .eq 12, 3) := by decide +kernel
theorem dX6_toldBy_7 : decode cX6_toldBy 7 = .ok (.iload_n 2, 1) := by decide +kernel
theorem dX6_toldBy_8 : decode cX6_toldBy 8 = .ok (.iconst 0, 1) := by decide +kernel
theorem dX6_toldBy_9 : decode cX6_toldBy 9 = .ok (.iconst 1, 1) := by decide +kernel
theorem dX6_toldBy_10 : decode cX6_toldBy 10 = .ok (.invokestatic 78, 3) := by decide +kernel
theorem dX6_toldBy_13 : decode cX6_toldBy 13 = .ok (.ifCond .ne 6, 3) := by decide +kernel
theorem dX6_toldBy_16 : decode cX6_toldBy 16 = .ok (.ldc 85, 2) := by decide +kernel
theorem dX6_toldBy_18 : decode cX6_toldBy 18 = .ok (.ireturn, 1) := by decide +kernel
theorem dX6_toldBy_19 : decode cX6_toldBy 19 = .ok (.aload_n 0, 1) := by decide +kernel
theorem dX6_toldBy_20 : decode cX6_toldBy 20 = .ok (.getfield 51, 3) := by decide +kernel
theorem dX6_toldBy_23 : decode cX6_toldBy 23 = .ok (.iload_n 1, 1) := by decide +kernel
theorem dX6_toldBy_24 : decode cX6_toldBy 24 = .ok (.aaload, 1) := by decide +kernel
theorem dX6_toldBy_25 : decode cX6_toldBy 25 = .ok (.getfield 218, 3) := by decide +kernel
theorem dX6_toldBy_28 : decode cX6_toldBy 28 = .ok (.iconst (-1), 1) := by decide +kernel
theorem dX6_toldBy_29 : decode cX6_toldBy 29 = .ok (.if_icmp .ne 6, 3) := by decide +kernel
theorem dX6_toldBy_32 : decode cX6_toldBy 32 = .ok (.ldc 221, 2) := by decide +kernel
theorem dX6_toldBy_34 : decode cX6_toldBy 34 = .ok (.ireturn, 1) := by decide +kernel
theorem dX6_toldBy_35 : decode cX6_toldBy 35 = .ok (.aload_n 0, 1) := by decide +kernel
theorem dX6_toldBy_36 : decode cX6_toldBy 36 = .ok (.getfield 28, 3) := by decide +kernel
theorem dX6_toldBy_39 : decode cX6_toldBy 39 = .ok (.getfield 86, 3) := by decide +kernel
theorem dX6_toldBy_42 : decode cX6_toldBy 42 = .ok (.ifCond .ne 6, 3) := by decide +kernel
theorem dX6_toldBy_45 : decode cX6_toldBy 45 = .ok (.ldc 184, 2) := by decide +kernel
theorem dX6_toldBy_47 : decode cX6_toldBy 47 = .ok (.ireturn, 1) := by decide +kernel
theorem dX6_toldBy_48 : decode cX6_toldBy 48 = .ok (.aload_n 0, 1) := by decide +kernel
theorem dX6_toldBy_49 : decode cX6_toldBy 49 = .ok (.aload_n 0, 1) := by decide +kernel
theorem dX6_toldBy_50 : decode cX6_toldBy 50 = .ok (.getfield 51, 3) := by decide +kernel
theorem dX6_toldBy_53 : decode cX6_toldBy 53 = .ok (.iload_n 1, 1) := by decide +kernel
theorem dX6_toldBy_54 : decode cX6_toldBy 54 = .ok (.aaload, 1) := by decide +kernel
theorem dX6_toldBy_55 : decode cX6_toldBy 55 = .ok (.invokevirtual 222, 3) := by decide +kernel
theorem dX6_toldBy_58 : decode cX6_toldBy 58 = .ok (.iconst 0, 1) := by decide +kernel
theorem dX6_toldBy_59 : decode cX6_toldBy 59 = .ok (.istore_n 3, 1) := by decide +kernel
theorem dX6_toldBy_60 : decode cX6_toldBy 60 = .ok (.iconst 1, 1) := by decide +kernel
theorem dX6_toldBy_61 : decode cX6_toldBy 61 = .ok (.istore 4, 2) := by decide +kernel
theorem dX6_toldBy_63 : decode cX6_toldBy 63 = .ok (.iload 4, 2) := by decide +kernel
theorem dX6_toldBy_65 : decode cX6_toldBy 65 = .ok (.aload_n 0, 1) := by decide +kernel
theorem dX6_toldBy_66 : decode cX6_toldBy 66 = .ok (.getfield 28, 3) := by decide +kernel
theorem dX6_toldBy_69 : decode cX6_toldBy 69 = .ok (.getfield 86, 3) := by decide +kernel
theorem dX6_toldBy_72 : decode cX6_toldBy 72 = .ok (.if_icmp .ge 28, 3) := by decide +kernel
theorem dX6_toldBy_75 : decode cX6_toldBy 75 = .ok (.aload_n 0, 1) := by decide +kernel
theorem dX6_toldBy_76 : decode cX6_toldBy 76 = .ok (.getfield 45, 3) := by decide +kernel
theorem dX6_toldBy_79 : decode cX6_toldBy 79 = .ok (.iload 4, 2) := by decide +kernel
theorem dX6_toldBy_81 : decode cX6_toldBy 81 = .ok (.iaload, 1) := by decide +kernel
theorem dX6_toldBy_82 : decode cX6_toldBy 82 = .ok (.aload_n 0, 1) := by decide +kernel
theorem dX6_toldBy_83 : decode cX6_toldBy 83 = .ok (.getfield 45, 3) := by decide +kernel
theorem dX6_toldBy_86 : decode cX6_toldBy 86 = .ok (.iload_n 3, 1) := by decide +kernel
theorem dX6_toldBy_87 : decode cX6_toldBy 87 = .ok (.iaload, 1) := by decide +kernel
theorem dX6_toldBy_88 : decode cX6_toldBy 88 = .ok (.if_icmp .ge 6, 3) := by decide +kernel
theorem dX6_toldBy_91 : decode cX6_toldBy 91 = .ok (.iload 4, 2) := by decide +kernel
theorem dX6_toldBy_93 : decode cX6_toldBy 93 = .ok (.istore_n 3, 1) := by decide +kernel
theorem dX6_toldBy_94 : decode cX6_toldBy 94 = .ok (.iinc 4 1, 3) := by decide +kernel
theorem dX6_toldBy_97 : decode cX6_toldBy 97 = .ok (.goto (-34), 3) := by decide +kernel
theorem dX6_toldBy_100 : decode cX6_toldBy 100 = .ok (.iload_n 2, 1) := by decide +kernel
theorem dX6_toldBy_101 : decode cX6_toldBy 101 = .ok (.ifCond .ne 7, 3) := by decide +kernel
theorem dX6_toldBy_104 : decode cX6_toldBy 104 = .ok (.iload_n 3, 1) := by decide +kernel
theorem dX6_toldBy_105 : decode cX6_toldBy 105 = .ok (.goto 9, 3) := by decide +kernel
theorem dX6_toldBy_108 : decode cX6_toldBy 108 = .ok (.aload_n 0, 1) := by decide +kernel
theorem dX6_toldBy_109 : decode cX6_toldBy 109 = .ok (.getfield 45, 3) := by decide +kernel
theorem dX6_toldBy_112 : decode cX6_toldBy 112 = .ok (.iload_n 3, 1) := by decide +kernel
theorem dX6_toldBy_113 : decode cX6_toldBy 113 = .ok (.iaload, 1) := by decide +kernel
theorem dX6_toldBy_114 : decode cX6_toldBy 114 = .ok (.ireturn, 1) := by decide +kernel
theorem dX6_fine_0 : decode cX6_fine 0 = .ok (.iload_n 1, 1) := by decide +kernel
theorem dX6_fine_1 : decode cX6_fine 1 = .ok (.invokestatic 82, 3) := by decide +kernel
theorem dX6_fine_4 : decode cX6_fine 4 = .ok (.ifCond .ne 6, 3) := by decide +kernel
theorem dX6_fine_7 : decode cX6_fine 7 = .ok (.ldc 85, 2) := by decide +kernel
theorem dX6_fine_9 : decode cX6_fine 9 = .ok (.ireturn, 1) := by decide +kernel
theorem dX6_fine_10 : decode cX6_fine 10 = .ok (.aload_n 0, 1) := by decide +kernel
theorem dX6_fine_11 : decode cX6_fine 11 = .ok (.getfield 28, 3) := by decide +kernel
theorem dX6_fine_14 : decode cX6_fine 14 = .ok (.getfield 226, 3) := by decide +kernel
theorem dX6_fine_17 : decode cX6_fine 17 = .ok (.iconst 2, 1) := by decide +kernel
theorem dX6_fine_18 : decode cX6_fine 18 = .ok (.iaload, 1) := by decide +kernel
theorem dX6_fine_19 : decode cX6_fine 19 = .ok (.istore_n 2, 1) := by decide +kernel
theorem dX6_fine_20 : decode cX6_fine 20 = .ok (.iload_n 2, 1) := by decide +kernel
theorem dX6_fine_21 : decode cX6_fine 21 = .ok (.ifCond .ge 13, 3) := by decide +kernel
theorem dX6_fine_24 : decode cX6_fine 24 = .ok (.aload_n 0, 1) := by decide +kernel
theorem dX6_fine_25 : decode cX6_fine 25 = .ok (.getfield 28, 3) := by decide +kernel
theorem dX6_fine_28 : decode cX6_fine 28 = .ok (.getfield 132, 3) := by decide +kernel
theorem dX6_fine_31 : decode cX6_fine 31 = .ok (.iload_n 1, 1) := by decide +kernel
theorem dX6_fine_32 : decode cX6_fine 32 = .ok (.iaload, 1) := by decide +kernel
theorem dX6_fine_33 : decode cX6_fine 33 = .ok (.ireturn, 1) := by decide +kernel
theorem dX6_fine_34 : decode cX6_fine 34 = .ok (.aload_n 0, 1) := by decide +kernel
theorem dX6_fine_35 : decode cX6_fine 35 = .ok (.getfield 10, 3) := by decide +kernel
theorem dX6_fine_38 : decode cX6_fine 38 = .ok (.iload_n 2, 1) := by decide +kernel
theorem dX6_fine_39 : decode cX6_fine 39 = .ok (.aload_n 0, 1) := by decide +kernel
theorem dX6_fine_40 : decode cX6_fine 40 = .ok (.getfield 28, 3) := by decide +kernel
theorem dX6_fine_43 : decode cX6_fine 43 = .ok (.getfield 132, 3) := by decide +kernel
theorem dX6_fine_46 : decode cX6_fine 46 = .ok (.iload_n 1, 1) := by decide +kernel
theorem dX6_fine_47 : decode cX6_fine 47 = .ok (.iaload, 1) := by decide +kernel
theorem dX6_fine_48 : decode cX6_fine 48 = .ok (.aload_n 0, 1) := by decide +kernel
theorem dX6_fine_49 : decode cX6_fine 49 = .ok (.getfield 28, 3) := by decide +kernel
theorem dX6_fine_52 : decode cX6_fine 52 = .ok (.iload_n 1, 1) := by decide +kernel
theorem dX6_fine_53 : decode cX6_fine 53 = .ok (.invokevirtual 138, 3) := by decide +kernel
theorem dX6_fine_56 : decode cX6_fine 56 = .ok (.invokestatic 229, 3) := by decide +kernel
theorem dX6_fine_59 : decode cX6_fine 59 = .ok (.iconst 0, 1) := by decide +kernel
theorem dX6_fine_60 : decode cX6_fine 60 = .ok (.invokevirtual 234, 3) := by decide +kernel
theorem dX6_fine_63 : decode cX6_fine 63 = .ok (.ireturn, 1) := by decide +kernel
theorem dX6_feed_0 : decode cX6_feed 0 = .ok (.aload_n 0, 1) := by decide +kernel
theorem dX6_feed_1 : decode cX6_feed 1 = .ok (.getfield 19, 3) := by decide +kernel
theorem dX6_feed_4 : decode cX6_feed 4 = .ok (.getfield 237, 3) := by decide +kernel
theorem dX6_feed_7 : decode cX6_feed 7 = .ok (.bipush 84, 2) := by decide +kernel
theorem dX6_feed_9 : decode cX6_feed 9 = .ok (.if_icmp .le 6, 3) := by decide +kernel
theorem dX6_feed_12 : decode cX6_feed 12 = .ok (.ldc 89, 2) := by decide +kernel
theorem dX6_feed_14 : decode cX6_feed 14 = .ok (.ireturn, 1) := by decide +kernel
theorem dX6_feed_15 : decode cX6_feed 15 = .ok (.aload_n 0, 1) := by decide +kernel
theorem dX6_feed_16 : decode cX6_feed 16 = .ok (.getfield 19, 3) := by decide +kernel
theorem dX6_feed_19 : decode cX6_feed 19 = .ok (.iload_n 1, 1) := by decide +kernel
theorem dX6_feed_20 : decode cX6_feed 20 = .ok (.invokevirtual 240, 3) := by decide +kernel
theorem dX6_feed_23 : decode cX6_feed 23 = .ok (.aload_n 0, 1) := by decide +kernel
theorem dX6_feed_24 : decode cX6_feed 24 = .ok (.getfield 19, 3) := by decide +kernel
theorem dX6_feed_27 : decode cX6_feed 27 = .ok (.iload_n 2, 1) := by decide +kernel
theorem dX6_feed_28 : decode cX6_feed 28 = .ok (.invokevirtual 240, 3) := by decide +kernel
theorem dX6_feed_31 : decode cX6_feed 31 = .ok (.aload_n 0, 1) := by decide +kernel
theorem dX6_feed_32 : decode cX6_feed 32 = .ok (.getfield 19, 3) := by decide +kernel
theorem dX6_feed_35 : decode cX6_feed 35 = .ok (.iload_n 3, 1) := by decide +kernel
theorem dX6_feed_36 : decode cX6_feed 36 = .ok (.invokevirtual 240, 3) := by decide +kernel
theorem dX6_feed_39 : decode cX6_feed 39 = .ok (.aload_n 0, 1) := by decide +kernel
theorem dX6_feed_40 : decode cX6_feed 40 = .ok (.getfield 19, 3) := by decide +kernel
theorem dX6_feed_43 : decode cX6_feed 43 = .ok (.getfield 237, 3) := by decide +kernel
theorem dX6_feed_46 : decode cX6_feed 46 = .ok (.ireturn, 1) := by decide +kernel
theorem dX6_trim_0 : decode cX6_trim 0 = .ok (.iload_n 1, 1) := by decide +kernel
theorem dX6_trim_1 : decode cX6_trim 1 = .ok (.iconst 0, 1) := by decide +kernel
theorem dX6_trim_2 : decode cX6_trim 2 = .ok (.aload_n 0, 1) := by decide +kernel
theorem dX6_trim_3 : decode cX6_trim 3 = .ok (.getfield 19, 3) := by decide +kernel
theorem dX6_trim_6 : decode cX6_trim 6 = .ok (.getfield 237, 3) := by decide +kernel
theorem dX6_trim_9 : decode cX6_trim 9 = .ok (.invokestatic 78, 3) := by decide +kernel
theorem dX6_trim_12 : decode cX6_trim 12 = .ok (.ifCond .ne 6, 3) := by decide +kernel
theorem dX6_trim_15 : decode cX6_trim 15 = .ok (.ldc 85, 2) := by decide +kernel
theorem dX6_trim_17 : decode cX6_trim 17 = .ok (.ireturn, 1) := by decide +kernel
theorem dX6_trim_18 : decode cX6_trim 18 = .ok (.aload_n 0, 1) := by decide +kernel
theorem dX6_trim_19 : decode cX6_trim 19 = .ok (.getfield 19, 3) := by decide +kernel
theorem dX6_trim_22 : decode cX6_trim 22 = .ok (.iload_n 1, 1) := by decide +kernel
theorem dX6_trim_23 : decode cX6_trim 23 = .ok (.putfield 237, 3) := by decide +kernel
theorem dX6_trim_26 : decode cX6_trim 26 = .ok (.iload_n 1, 1) := by decide +kernel
theorem dX6_trim_27 : decode cX6_trim 27 = .ok (.ireturn, 1) := by decide +kernel
theorem dX6_text_0 : decode cX6_text 0 = .ok (.aload_n 0, 1) := by decide +kernel
theorem dX6_text_1 : decode cX6_text 1 = .ok (.getfield 19, 3) := by decide +kernel
theorem dX6_text_4 : decode cX6_text 4 = .ok (.invokevirtual 243, 3) := by decide +kernel
theorem dX6_text_7 : decode cX6_text 7 = .ok (.istore_n 1, 1) := by decide +kernel
theorem dX6_text_8 : decode cX6_text 8 = .ok (.aload_n 0, 1) := by decide +kernel
theorem dX6_text_9 : decode cX6_text 9 = .ok (.getfield 19, 3) := by decide +kernel
theorem dX6_text_12 : decode cX6_text 12 = .ok (.iconst 0, 1) := by decide +kernel
theorem dX6_text_13 : decode cX6_text 13 = .ok (.putfield 237, 3) := by decide +kernel
theorem dX6_text_16 : decode cX6_text 16 = .ok (.iload_n 1, 1) := by decide +kernel
theorem dX6_text_17 : decode cX6_text 17 = .ok (.ifCond .ne 14, 3) := by decide +kernel
theorem dX6_text_20 : decode cX6_text 20 = .ok (.bipush (-100), 2) := by decide +kernel
theorem dX6_text_22 : decode cX6_text 22 = .ok (.aload_n 0, 1) := by decide +kernel
theorem dX6_text_23 : decode cX6_text 23 = .ok (.getfield 19, 3) := by decide +kernel
theorem dX6_text_26 : decode cX6_text 26 = .ok (.getfield 247, 3) := by decide +kernel
theorem dX6_text_29 : decode cX6_text 29 = .ok (.isub, 1) := by decide +kernel
theorem dX6_text_30 : decode cX6_text 30 = .ok (.ireturn, 1) := by decide +kernel
theorem dX6_text_31 : decode cX6_text 31 = .ok (.aload_n 0, 1) := by decide +kernel
theorem dX6_text_32 : decode cX6_text 32 = .ok (.getfield 28, 3) := by decide +kernel
theorem dX6_text_35 : decode cX6_text 35 = .ok (.getfield 250, 3) := by decide +kernel
theorem dX6_text_38 : decode cX6_text 38 = .ok (.bipush 14, 2) := by decide +kernel
theorem dX6_text_40 : decode cX6_text 40 = .ok (.if_icmp .lt 6, 3) := by decide +kernel
theorem dX6_text_43 : decode cX6_text 43 = .ok (.ldc 89, 2) := by decide +kernel
theorem dX6_text_45 : decode cX6_text 45 = .ok (.ireturn, 1) := by decide +kernel
theorem dX6_text_46 : decode cX6_text 46 = .ok (.aload_n 0, 1) := by decide +kernel
theorem dX6_text_47 : decode cX6_text 47 = .ok (.getfield 28, 3) := by decide +kernel
theorem dX6_text_50 : decode cX6_text 50 = .ok (.getfield 250, 3) := by decide +kernel
theorem dX6_text_53 : decode cX6_text 53 = .ok (.istore_n 2, 1) := by decide +kernel
theorem dX6_text_54 : decode cX6_text 54 = .ok (.aload_n 0, 1) := by decide +kernel
theorem dX6_text_55 : decode cX6_text 55 = .ok (.getfield 10, 3) := by decide +kernel
theorem dX6_text_58 : decode cX6_text 58 = .ok (.iload_n 2, 1) := by decide +kernel
theorem dX6_text_59 : decode cX6_text 59 = .ok (.aload_n 0, 1) := by decide +kernel
theorem dX6_text_60 : decode cX6_text 60 = .ok (.getfield 19, 3) := by decide +kernel
theorem dX6_text_63 : decode cX6_text 63 = .ok (.invokevirtual 253, 3) := by decide +kernel
theorem dX6_text_66 : decode cX6_text 66 = .ok (.aload_n 0, 1) := by decide +kernel
theorem dX6_text_67 : decode cX6_text 67 = .ok (.getfield 28, 3) := by decide +kernel
theorem dX6_text_70 : decode cX6_text 70 = .ok (.iload_n 2, 1) := by decide +kernel
theorem dX6_text_71 : decode cX6_text 71 = .ok (.iconst 1, 1) := by decide +kernel
theorem dX6_text_72 : decode cX6_text 72 = .ok (.iadd, 1) := by decide +kernel
theorem dX6_text_73 : decode cX6_text 73 = .ok (.putfield 250, 3) := by decide +kernel
theorem dX6_text_76 : decode cX6_text 76 = .ok (.aload_n 0, 1) := by decide +kernel
theorem dX6_text_77 : decode cX6_text 77 = .ok (.getfield 28, 3) := by decide +kernel
theorem dX6_text_80 : decode cX6_text 80 = .ok (.getfield 226, 3) := by decide +kernel
theorem dX6_text_83 : decode cX6_text 83 = .ok (.aload_n 0, 1) := by decide +kernel
theorem dX6_text_84 : decode cX6_text 84 = .ok (.getfield 19, 3) := by decide +kernel
theorem dX6_text_87 : decode cX6_text 87 = .ok (.getfield 257, 3) := by decide +kernel
theorem dX6_text_90 : decode cX6_text 90 = .ok (.iload_n 2, 1) := by decide +kernel
theorem dX6_text_91 : decode cX6_text 91 = .ok (.iastore, 1) := by decide +kernel
theorem dX6_text_92 : decode cX6_text 92 = .ok (.iload_n 2, 1) := by decide +kernel
theorem dX6_text_93 : decode cX6_text 93 = .ok (.ireturn, 1) := by decide +kernel
theorem dX6_textTold_0 : decode cX6_textTold 0 = .ok (.iload_n 1, 1) := by decide +kernel
theorem dX6_textTold_1 : decode cX6_textTold 1 = .ok (.iconst 0, 1) := by decide +kernel
theorem dX6_textTold_2 : decode cX6_textTold 2 = .ok (.aload_n 0, 1) := by decide +kernel
theorem dX6_textTold_3 : decode cX6_textTold 3 = .ok (.getfield 28, 3) := by decide +kernel
theorem dX6_textTold_6 : decode cX6_textTold 6 = .ok (.getfield 250, 3) := by decide +kernel
theorem dX6_textTold_9 : decode cX6_textTold 9 = .ok (.iconst 1, 1) := by decide +kernel
theorem dX6_textTold_10 : decode cX6_textTold 10 = .ok (.isub, 1) := by decide +kernel
theorem dX6_textTold_11 : decode cX6_textTold 11 = .ok (.invokestatic 78, 3) := by decide +kernel
theorem dX6_textTold_14 : decode cX6_textTold 14 = .ok (.ifCond .ne 6, 3) := by decide +kernel
theorem dX6_textTold_17 : decode cX6_textTold 17 = .ok (.ldc 85, 2) := by decide +kernel
theorem dX6_textTold_19 : decode cX6_textTold 19 = .ok (.ireturn, 1) := by decide +kernel
theorem dX6_textTold_20 : decode cX6_textTold 20 = .ok (.iload_n 2, 1) := by decide +kernel
theorem dX6_textTold_21 : decode cX6_textTold 21 = .ok (.lookupswitch 47 #[(0, 27), (1, 37)], 27) := by decide +kernel
theorem dX6_textTold_48 : decode cX6_textTold 48 = .ok (.aload_n 0, 1) := by decide +kernel
theorem dX6_textTold_49 : decode cX6_textTold 49 = .ok (.getfield 10, 3) := by decide +kernel
theorem dX6_textTold_52 : decode cX6_textTold 52 = .ok (.getfield 260, 3) := by decide +kernel
theorem dX6_textTold_55 : decode cX6_textTold 55 = .ok (.iload_n 1, 1) := by decide +kernel
theorem dX6_textTold_56 : decode cX6_textTold 56 = .ok (.iaload, 1) := by decide +kernel
theorem dX6_textTold_57 : decode cX6_textTold 57 = .ok (.ireturn, 1) := by decide +kernel
theorem dX6_textTold_58 : decode cX6_textTold 58 = .ok (.aload_n 0, 1) := by decide +kernel
theorem dX6_textTold_59 : decode cX6_textTold 59 = .ok (.getfield 10, 3) := by decide +kernel
theorem dX6_textTold_62 : decode cX6_textTold 62 = .ok (.getfield 262, 3) := by decide +kernel
theorem dX6_textTold_65 : decode cX6_textTold 65 = .ok (.iload_n 1, 1) := by decide +kernel
theorem dX6_textTold_66 : decode cX6_textTold 66 = .ok (.iaload, 1) := by decide +kernel
theorem dX6_textTold_67 : decode cX6_textTold 67 = .ok (.ireturn, 1) := by decide +kernel
theorem dX6_textTold_68 : decode cX6_textTold 68 = .ok (.ldc 85, 2) := by decide +kernel
theorem dX6_textTold_70 : decode cX6_textTold 70 = .ok (.ireturn, 1) := by decide +kernel
theorem dX6_why_0 : decode cX6_why 0 = .ok (.iload_n 1, 1) := by decide +kernel
theorem dX6_why_1 : decode cX6_why 1 = .ok (.iconst 0, 1) := by decide +kernel
theorem dX6_why_2 : decode cX6_why 2 = .ok (.iconst 2, 1) := by decide +kernel
theorem dX6_why_3 : decode cX6_why 3 = .ok (.invokestatic 78, 3) := by decide +kernel
theorem dX6_why_6 : decode cX6_why 6 = .ok (.ifCond .ne 6, 3) := by decide +kernel
theorem dX6_why_9 : decode cX6_why 9 = .ok (.ldc 85, 2) := by decide +kernel
theorem dX6_why_11 : decode cX6_why 11 = .ok (.ireturn, 1) := by decide +kernel
theorem dX6_why_12 : decode cX6_why 12 = .ok (.aload_n 0, 1) := by decide +kernel
theorem dX6_why_13 : decode cX6_why 13 = .ok (.getfield 28, 3) := by decide +kernel
theorem dX6_why_16 : decode cX6_why 16 = .ok (.getfield 226, 3) := by decide +kernel
theorem dX6_why_19 : decode cX6_why 19 = .ok (.iload_n 1, 1) := by decide +kernel
theorem dX6_why_20 : decode cX6_why 20 = .ok (.iaload, 1) := by decide +kernel
theorem dX6_why_21 : decode cX6_why 21 = .ok (.ifCond .ge 8, 3) := by decide +kernel
theorem dX6_why_24 : decode cX6_why 24 = .ok (.ldc 184, 2) := by decide +kernel
theorem dX6_why_26 : decode cX6_why 26 = .ok (.goto 12, 3) := by decide +kernel
theorem dX6_why_29 : decode cX6_why 29 = .ok (.aload_n 0, 1) := by decide +kernel
theorem dX6_why_30 : decode cX6_why 30 = .ok (.getfield 28, 3) := by decide +kernel
theorem dX6_why_33 : decode cX6_why 33 = .ok (.getfield 226, 3) := by decide +kernel
theorem dX6_why_36 : decode cX6_why 36 = .ok (.iload_n 1, 1) := by decide +kernel
theorem dX6_why_37 : decode cX6_why 37 = .ok (.iaload, 1) := by decide +kernel
theorem dX6_why_38 : decode cX6_why 38 = .ok (.ireturn, 1) := by decide +kernel
theorem dX6_sheet_0 : decode cX6_sheet 0 = .ok (.iload_n 1, 1) := by decide +kernel
theorem dX6_sheet_1 : decode cX6_sheet 1 = .ok (.invokestatic 215, 3) := by decide +kernel
theorem dX6_sheet_4 : decode cX6_sheet 4 = .ok (.ifCond .eq 12, 3) := by decide +kernel
theorem dX6_sheet_7 : decode cX6_sheet 7 = .ok (.iload_n 2, 1) := by decide +kernel
theorem dX6_sheet_8 : decode cX6_sheet 8 = .ok (.iconst (-1), 1) := by decide +kernel
theorem dX6_sheet_9 : decode cX6_sheet 9 = .ok (.iconst 1, 1) := by decide +kernel
theorem dX6_sheet_10 : decode cX6_sheet 10 = .ok (.invokestatic 78, 3) := by decide +kernel
theorem dX6_sheet_13 : decode cX6_sheet 13 = .ok (.ifCond .ne 6, 3) := by decide +kernel
theorem dX6_sheet_16 : decode cX6_sheet 16 = .ok (.ldc 85, 2) := by decide +kernel
theorem dX6_sheet_18 : decode cX6_sheet 18 = .ok (.ireturn, 1) := by decide +kernel
theorem dX6_sheet_19 : decode cX6_sheet 19 = .ok (.iload_n 2, 1) := by decide +kernel
theorem dX6_sheet_20 : decode cX6_sheet 20 = .ok (.iconst (-1), 1) := by decide +kernel
theorem dX6_sheet_21 : decode cX6_sheet 21 = .ok (.if_icmp .ne 16, 3) := by decide +kernel
theorem dX6_sheet_24 : decode cX6_sheet 24 = .ok (.aload_n 0, 1) := by decide +kernel
theorem dX6_sheet_25 : decode cX6_sheet 25 = .ok (.getfield 51, 3) := by decide +kernel
theorem dX6_sheet_28 : decode cX6_sheet 28 = .ok (.iload_n 1, 1) := by decide +kernel
theorem dX6_sheet_29 : decode cX6_sheet 29 = .ok (.aaload, 1) := by decide +kernel
theorem dX6_sheet_30 : decode cX6_sheet 30 = .ok (.iconst (-1), 1) := by decide +kernel
theorem dX6_sheet_31 : decode cX6_sheet 31 = .ok (.iconst 0, 1) := by decide +kernel
theorem dX6_sheet_32 : decode cX6_sheet 32 = .ok (.invokevirtual 265, 3) := by decide +kernel
theorem dX6_sheet_35 : decode cX6_sheet 35 = .ok (.iconst 0, 1) := by decide +kernel
theorem dX6_sheet_36 : decode cX6_sheet 36 = .ok (.ireturn, 1) := by decide +kernel
theorem dX6_sheet_37 : decode cX6_sheet 37 = .ok (.iload_n 3, 1) := by decide +kernel
theorem dX6_sheet_38 : decode cX6_sheet 38 = .ok (.bipush 24, 2) := by decide +kernel
theorem dX6_sheet_40 : decode cX6_sheet 40 = .ok (.if_icmp .le 6, 3) := by decide +kernel
theorem dX6_sheet_43 : decode cX6_sheet 43 = .ok (.ldc 85, 2) := by decide +kernel
theorem dX6_sheet_45 : decode cX6_sheet 45 = .ok (.ireturn, 1) := by decide +kernel
theorem dX6_sheet_46 : decode cX6_sheet 46 = .ok (.iload_n 3, 1) := by decide +kernel
theorem dX6_sheet_47 : decode cX6_sheet 47 = .ok (.ifCond .ge 7, 3) := by decide +kernel
theorem dX6_sheet_50 : decode cX6_sheet 50 = .ok (.ldc_w 269, 3) := by decide +kernel
theorem dX6_sheet_53 : decode cX6_sheet 53 = .ok (.ireturn, 1) := by decide +kernel
theorem dX6_sheet_54 : decode cX6_sheet 54 = .ok (.aload_n 0, 1) := by decide +kernel
theorem dX6_sheet_55 : decode cX6_sheet 55 = .ok (.getfield 51, 3) := by decide +kernel
theorem dX6_sheet_58 : decode cX6_sheet 58 = .ok (.iload_n 1, 1) := by decide +kernel
theorem dX6_sheet_59 : decode cX6_sheet 59 = .ok (.aaload, 1) := by decide +kernel
theorem dX6_sheet_60 : decode cX6_sheet 60 = .ok (.iload_n 2, 1) := by decide +kernel
theorem dX6_sheet_61 : decode cX6_sheet 61 = .ok (.iload_n 3, 1) := by decide +kernel
theorem dX6_sheet_62 : decode cX6_sheet 62 = .ok (.invokevirtual 265, 3) := by decide +kernel
theorem dX6_sheet_65 : decode cX6_sheet 65 = .ok (.iload_n 3, 1) := by decide +kernel
theorem dX6_sheet_66 : decode cX6_sheet 66 = .ok (.ireturn, 1) := by decide +kernel
theorem dX6_mark_0 : decode cX6_mark 0 = .ok (.iload_n 1, 1) := by decide +kernel
theorem dX6_mark_1 : decode cX6_mark 1 = .ok (.invokestatic 215, 3) := by decide +kernel
theorem dX6_mark_4 : decode cX6_mark 4 = .ok (.ifCond .ne 6, 3) := by decide +kernel
theorem dX6_mark_7 : decode cX6_mark 7 = .ok (.ldc 85, 2) := by decide +kernel
theorem dX6_mark_9 : decode cX6_mark 9 = .ok (.ireturn, 1) := by decide +kernel
theorem dX6_mark_10 : decode cX6_mark 10 = .ok (.aload_n 0, 1) := by decide +kernel
theorem dX6_mark_11 : decode cX6_mark 11 = .ok (.getfield 51, 3) := by decide +kernel
theorem dX6_mark_14 : decode cX6_mark 14 = .ok (.iload_n 1, 1) := by decide +kernel
theorem dX6_mark_15 : decode cX6_mark 15 = .ok (.aaload, 1) := by decide +kernel
theorem dX6_mark_16 : decode cX6_mark 16 = .ok (.astore 4, 2) := by decide +kernel
theorem dX6_mark_18 : decode cX6_mark 18 = .ok (.aload 4, 2) := by decide +kernel
theorem dX6_mark_20 : decode cX6_mark 20 = .ok (.getfield 218, 3) := by decide +kernel
theorem dX6_mark_23 : decode cX6_mark 23 = .ok (.iconst (-1), 1) := by decide +kernel
theorem dX6_mark_24 : decode cX6_mark 24 = .ok (.if_icmp .ne 6, 3) := by decide +kernel
theorem dX6_mark_27 : decode cX6_mark 27 = .ok (.ldc 221, 2) := by decide +kernel
theorem dX6_mark_29 : decode cX6_mark 29 = .ok (.ireturn, 1) := by decide +kernel
theorem dX6_mark_30 : decode cX6_mark 30 = .ok (.aload 4, 2) := by decide +kernel
theorem dX6_mark_32 : decode cX6_mark 32 = .ok (.iload_n 2, 1) := by decide +kernel
theorem dX6_mark_33 : decode cX6_mark 33 = .ok (.invokevirtual 270, 3) := by decide +kernel
theorem dX6_mark_36 : decode cX6_mark 36 = .ok (.ifCond .ne 7, 3) := by decide +kernel
theorem dX6_mark_39 : decode cX6_mark 39 = .ok (.ldc_w 273, 3) := by decide +kernel
theorem dX6_mark_42 : decode cX6_mark 42 = .ok (.ireturn, 1) := by decide +kernel
