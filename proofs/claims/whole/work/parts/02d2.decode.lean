theorem dX9_advances_138 : decode cX9_advances 138 = .ok (.goto (-67), 3) := by decide +kernel
theorem dX9_advances_141 : decode cX9_advances 141 = .ok (.aload_n 0, 1) := by decide +kernel
theorem dX9_advances_142 : decode cX9_advances 142 = .ok (.aload_n 0, 1) := by decide +kernel
theorem dX9_advances_143 : decode cX9_advances 143 = .ok (.getfield 80, 3) := by decide +kernel
theorem dX9_advances_146 : decode cX9_advances 146 = .ok (.bipush 99, 2) := by decide +kernel
theorem dX9_advances_148 : decode cX9_advances 148 = .ok (.if_icmp .gt 22, 3) := by decide +kernel
theorem dX9_advances_151 : decode cX9_advances 151 = .ok (.iload_n 1, 1) := by decide +kernel
theorem dX9_advances_152 : decode cX9_advances 152 = .ok (.bipush 48, 2) := by decide +kernel
theorem dX9_advances_154 : decode cX9_advances 154 = .ok (.if_icmp .ne 20, 3) := by decide +kernel
theorem dX9_advances_157 : decode cX9_advances 157 = .ok (.aload_n 0, 1) := by decide +kernel
theorem dX9_advances_158 : decode cX9_advances 158 = .ok (.getfield 67, 3) := by decide +kernel
theorem dX9_advances_161 : decode cX9_advances 161 = .ok (.aload_n 0, 1) := by decide +kernel
theorem dX9_advances_162 : decode cX9_advances 162 = .ok (.getfield 74, 3) := by decide +kernel
theorem dX9_advances_165 : decode cX9_advances 165 = .ok (.isub, 1) := by decide +kernel
theorem dX9_advances_166 : decode cX9_advances 166 = .ok (.iconst 1, 1) := by decide +kernel
theorem dX9_advances_167 : decode cX9_advances 167 = .ok (.if_icmp .le 7, 3) := by decide +kernel
theorem dX9_advances_170 : decode cX9_advances 170 = .ok (.iconst 4, 1) := by decide +kernel
theorem dX9_advances_171 : decode cX9_advances 171 = .ok (.goto 4, 3) := by decide +kernel
theorem dX9_advances_174 : decode cX9_advances 174 = .ok (.iconst 2, 1) := by decide +kernel
theorem dX9_advances_175 : decode cX9_advances 175 = .ok (.putfield 77, 3) := by decide +kernel
theorem dX9_advances_178 : decode cX9_advances 178 = .ok (.goto 44, 3) := by decide +kernel
theorem dX9_advances_181 : decode cX9_advances 181 = .ok (.aload_n 0, 1) := by decide +kernel
theorem dX9_advances_182 : decode cX9_advances 182 = .ok (.dup, 1) := by decide +kernel
theorem dX9_advances_183 : decode cX9_advances 183 = .ok (.getfield 67, 3) := by decide +kernel
theorem dX9_advances_186 : decode cX9_advances 186 = .ok (.iconst 1, 1) := by decide +kernel
theorem dX9_advances_187 : decode cX9_advances 187 = .ok (.iadd, 1) := by decide +kernel
theorem dX9_advances_188 : decode cX9_advances 188 = .ok (.putfield 67, 3) := by decide +kernel
theorem dX9_advances_191 : decode cX9_advances 191 = .ok (.aload_n 0, 1) := by decide +kernel
theorem dX9_advances_192 : decode cX9_advances 192 = .ok (.iload_n 1, 1) := by decide +kernel
theorem dX9_advances_193 : decode cX9_advances 193 = .ok (.putfield 80, 3) := by decide +kernel
theorem dX9_advances_196 : decode cX9_advances 196 = .ok (.aload_n 0, 1) := by decide +kernel
theorem dX9_advances_197 : decode cX9_advances 197 = .ok (.iload_n 1, 1) := by decide +kernel
theorem dX9_advances_198 : decode cX9_advances 198 = .ok (.bipush 59, 2) := by decide +kernel
theorem dX9_advances_200 : decode cX9_advances 200 = .ok (.if_icmp .ne 7, 3) := by decide +kernel
theorem dX9_advances_203 : decode cX9_advances 203 = .ok (.iconst 3, 1) := by decide +kernel
theorem dX9_advances_204 : decode cX9_advances 204 = .ok (.goto 15, 3) := by decide +kernel
theorem dX9_advances_207 : decode cX9_advances 207 = .ok (.iload_n 1, 1) := by decide +kernel
theorem dX9_advances_208 : decode cX9_advances 208 = .ok (.invokestatic 83, 3) := by decide +kernel
theorem dX9_advances_211 : decode cX9_advances 211 = .ok (.ifCond .eq 7, 3) := by decide +kernel
theorem dX9_advances_214 : decode cX9_advances 214 = .ok (.iconst 1, 1) := by decide +kernel
theorem dX9_advances_215 : decode cX9_advances 215 = .ok (.goto 4, 3) := by decide +kernel
theorem dX9_advances_218 : decode cX9_advances 218 = .ok (.iconst 4, 1) := by decide +kernel
theorem dX9_advances_219 : decode cX9_advances 219 = .ok (.putfield 77, 3) := by decide +kernel
theorem dX9_advances_222 : decode cX9_advances 222 = .ok (.return_, 1) := by decide +kernel
theorem dX9_isWell_0 : decode cX9_isWell 0 = .ok (.aload_n 0, 1) := by decide +kernel
theorem dX9_isWell_1 : decode cX9_isWell 1 = .ok (.getfield 87, 3) := by decide +kernel
theorem dX9_isWell_4 : decode cX9_isWell 4 = .ok (.ifCond .ge 7, 3) := by decide +kernel
theorem dX9_isWell_7 : decode cX9_isWell 7 = .ok (.iconst 1, 1) := by decide +kernel
theorem dX9_isWell_8 : decode cX9_isWell 8 = .ok (.goto 4, 3) := by decide +kernel
theorem dX9_isWell_11 : decode cX9_isWell 11 = .ok (.iconst 0, 1) := by decide +kernel
theorem dX9_isWell_12 : decode cX9_isWell 12 = .ok (.ireturn, 1) := by decide +kernel
theorem dX9_takes_0 : decode cX9_takes 0 = .ok (.aload_n 0, 1) := by decide +kernel
theorem dX9_takes_1 : decode cX9_takes 1 = .ok (.invokevirtual 90, 3) := by decide +kernel
theorem dX9_takes_4 : decode cX9_takes 4 = .ok (.ifCond .ne 5, 3) := by decide +kernel
theorem dX9_takes_7 : decode cX9_takes 7 = .ok (.iconst 0, 1) := by decide +kernel
theorem dX9_takes_8 : decode cX9_takes 8 = .ok (.ireturn, 1) := by decide +kernel
theorem dX9_takes_9 : decode cX9_takes 9 = .ok (.iload_n 1, 1) := by decide +kernel
theorem dX9_takes_10 : decode cX9_takes 10 = .ok (.ifCond .ne 13, 3) := by decide +kernel
theorem dX9_takes_13 : decode cX9_takes 13 = .ok (.aload_n 0, 1) := by decide +kernel
theorem dX9_takes_14 : decode cX9_takes 14 = .ok (.aload_n 0, 1) := by decide +kernel
theorem dX9_takes_15 : decode cX9_takes 15 = .ok (.getfield 74, 3) := by decide +kernel
theorem dX9_takes_18 : decode cX9_takes 18 = .ok (.putfield 87, 3) := by decide +kernel
theorem dX9_takes_21 : decode cX9_takes 21 = .ok (.iconst 0, 1) := by decide +kernel
theorem dX9_takes_22 : decode cX9_takes 22 = .ok (.ireturn, 1) := by decide +kernel
theorem dX9_takes_23 : decode cX9_takes 23 = .ok (.aload_n 0, 1) := by decide +kernel
theorem dX9_takes_24 : decode cX9_takes 24 = .ok (.getfield 80, 3) := by decide +kernel
theorem dX9_takes_27 : decode cX9_takes 27 = .ok (.istore_n 2, 1) := by decide +kernel
theorem dX9_takes_28 : decode cX9_takes 28 = .ok (.aload_n 0, 1) := by decide +kernel
theorem dX9_takes_29 : decode cX9_takes 29 = .ok (.invokevirtual 94, 3) := by decide +kernel
theorem dX9_takes_32 : decode cX9_takes 32 = .ok (.iload_n 2, 1) := by decide +kernel
theorem dX9_takes_33 : decode cX9_takes 33 = .ok (.ireturn, 1) := by decide +kernel
theorem dX9_number_0 : decode cX9_number 0 = .ok (.aload_n 0, 1) := by decide +kernel
theorem dX9_number_1 : decode cX9_number 1 = .ok (.aload_n 0, 1) := by decide +kernel
theorem dX9_number_2 : decode cX9_number 2 = .ok (.getfield 77, 3) := by decide +kernel
theorem dX9_number_5 : decode cX9_number 5 = .ok (.iconst 2, 1) := by decide +kernel
theorem dX9_number_6 : decode cX9_number 6 = .ok (.if_icmp .ne 19, 3) := by decide +kernel
theorem dX9_number_9 : decode cX9_number 9 = .ok (.aload_n 0, 1) := by decide +kernel
theorem dX9_number_10 : decode cX9_number 10 = .ok (.getfield 80, 3) := by decide +kernel
theorem dX9_number_13 : decode cX9_number 13 = .ok (.iload_n 1, 1) := by decide +kernel
theorem dX9_number_14 : decode cX9_number 14 = .ok (.iload_n 2, 1) := by decide +kernel
theorem dX9_number_15 : decode cX9_number 15 = .ok (.invokestatic 60, 3) := by decide +kernel
theorem dX9_number_18 : decode cX9_number 18 = .ok (.ifCond .eq 7, 3) := by decide +kernel
theorem dX9_number_21 : decode cX9_number 21 = .ok (.iconst 1, 1) := by decide +kernel
theorem dX9_number_22 : decode cX9_number 22 = .ok (.goto 4, 3) := by decide +kernel
theorem dX9_number_25 : decode cX9_number 25 = .ok (.iconst 0, 1) := by decide +kernel
theorem dX9_number_26 : decode cX9_number 26 = .ok (.invokevirtual 97, 3) := by decide +kernel
theorem dX9_number_29 : decode cX9_number 29 = .ok (.ireturn, 1) := by decide +kernel
theorem dX9_mayBegin_0 : decode cX9_mayBegin 0 = .ok (.aload_n 0, 1) := by decide +kernel
theorem dX9_mayBegin_1 : decode cX9_mayBegin 1 = .ok (.getfield 80, 3) := by decide +kernel
theorem dX9_mayBegin_4 : decode cX9_mayBegin 4 = .ok (.bipush 98, 2) := by decide +kernel
theorem dX9_mayBegin_6 : decode cX9_mayBegin 6 = .ok (.if_icmp .ne 13, 3) := by decide +kernel
theorem dX9_mayBegin_9 : decode cX9_mayBegin 9 = .ok (.iload_n 1, 1) := by decide +kernel
theorem dX9_mayBegin_10 : decode cX9_mayBegin 10 = .ok (.ifCond .ne 7, 3) := by decide +kernel
theorem dX9_mayBegin_13 : decode cX9_mayBegin 13 = .ok (.iconst 1, 1) := by decide +kernel
theorem dX9_mayBegin_14 : decode cX9_mayBegin 14 = .ok (.goto 4, 3) := by decide +kernel
theorem dX9_mayBegin_17 : decode cX9_mayBegin 17 = .ok (.iconst 0, 1) := by decide +kernel
theorem dX9_mayBegin_18 : decode cX9_mayBegin 18 = .ok (.ireturn, 1) := by decide +kernel
theorem dX9_mayBegin_19 : decode cX9_mayBegin 19 = .ok (.aload_n 0, 1) := by decide +kernel
theorem dX9_mayBegin_20 : decode cX9_mayBegin 20 = .ok (.getfield 80, 3) := by decide +kernel
theorem dX9_mayBegin_23 : decode cX9_mayBegin 23 = .ok (.bipush 112, 2) := by decide +kernel
theorem dX9_mayBegin_25 : decode cX9_mayBegin 25 = .ok (.if_icmp .eq 12, 3) := by decide +kernel
theorem dX9_mayBegin_28 : decode cX9_mayBegin 28 = .ok (.aload_n 0, 1) := by decide +kernel
theorem dX9_mayBegin_29 : decode cX9_mayBegin 29 = .ok (.getfield 80, 3) := by decide +kernel
theorem dX9_mayBegin_32 : decode cX9_mayBegin 32 = .ok (.bipush 109, 2) := by decide +kernel
theorem dX9_mayBegin_34 : decode cX9_mayBegin 34 = .ok (.if_icmp .ne 47, 3) := by decide +kernel
theorem dX9_mayBegin_37 : decode cX9_mayBegin 37 = .ok (.aload_n 0, 1) := by decide +kernel
theorem dX9_mayBegin_38 : decode cX9_mayBegin 38 = .ok (.getfield 80, 3) := by decide +kernel
theorem dX9_mayBegin_41 : decode cX9_mayBegin 41 = .ok (.bipush 112, 2) := by decide +kernel
theorem dX9_mayBegin_43 : decode cX9_mayBegin 43 = .ok (.if_icmp .ne 21, 3) := by decide +kernel
theorem dX9_mayBegin_46 : decode cX9_mayBegin 46 = .ok (.aload_n 0, 1) := by decide +kernel
theorem dX9_mayBegin_47 : decode cX9_mayBegin 47 = .ok (.getfield 13, 3) := by decide +kernel
theorem dX9_mayBegin_50 : decode cX9_mayBegin 50 = .ok (.iconst 5, 1) := by decide +kernel
theorem dX9_mayBegin_51 : decode cX9_mayBegin 51 = .ok (.iaload, 1) := by decide +kernel
theorem dX9_mayBegin_52 : decode cX9_mayBegin 52 = .ok (.iconst 5, 1) := by decide +kernel
theorem dX9_mayBegin_53 : decode cX9_mayBegin 53 = .ok (.if_icmp .ge 7, 3) := by decide +kernel
theorem dX9_mayBegin_56 : decode cX9_mayBegin 56 = .ok (.iconst 1, 1) := by decide +kernel
theorem dX9_mayBegin_57 : decode cX9_mayBegin 57 = .ok (.goto 23, 3) := by decide +kernel
theorem dX9_mayBegin_60 : decode cX9_mayBegin 60 = .ok (.iconst 0, 1) := by decide +kernel
theorem dX9_mayBegin_61 : decode cX9_mayBegin 61 = .ok (.goto 19, 3) := by decide +kernel
theorem dX9_mayBegin_64 : decode cX9_mayBegin 64 = .ok (.aload_n 0, 1) := by decide +kernel
theorem dX9_mayBegin_65 : decode cX9_mayBegin 65 = .ok (.getfield 13, 3) := by decide +kernel
theorem dX9_mayBegin_68 : decode cX9_mayBegin 68 = .ok (.bipush 6, 2) := by decide +kernel
theorem dX9_mayBegin_70 : decode cX9_mayBegin 70 = .ok (.iaload, 1) := by decide +kernel
theorem dX9_mayBegin_71 : decode cX9_mayBegin 71 = .ok (.iconst 5, 1) := by decide +kernel
theorem dX9_mayBegin_72 : decode cX9_mayBegin 72 = .ok (.if_icmp .ge 7, 3) := by decide +kernel
theorem dX9_mayBegin_75 : decode cX9_mayBegin 75 = .ok (.iconst 1, 1) := by decide +kernel
theorem dX9_mayBegin_76 : decode cX9_mayBegin 76 = .ok (.goto 4, 3) := by decide +kernel
theorem dX9_mayBegin_79 : decode cX9_mayBegin 79 = .ok (.iconst 0, 1) := by decide +kernel
theorem dX9_mayBegin_80 : decode cX9_mayBegin 80 = .ok (.ireturn, 1) := by decide +kernel
theorem dX9_mayBegin_81 : decode cX9_mayBegin 81 = .ok (.aload_n 0, 1) := by decide +kernel
theorem dX9_mayBegin_82 : decode cX9_mayBegin 82 = .ok (.getfield 80, 3) := by decide +kernel
theorem dX9_mayBegin_85 : decode cX9_mayBegin 85 = .ok (.bipush 119, 2) := by decide +kernel
theorem dX9_mayBegin_87 : decode cX9_mayBegin 87 = .ok (.if_icmp .ne 12, 3) := by decide +kernel
theorem dX9_mayBegin_90 : decode cX9_mayBegin 90 = .ok (.aload_n 0, 1) := by decide +kernel
theorem dX9_mayBegin_91 : decode cX9_mayBegin 91 = .ok (.getfield 101, 3) := by decide +kernel
theorem dX9_mayBegin_94 : decode cX9_mayBegin 94 = .ok (.iconst 1, 1) := by decide +kernel
theorem dX9_mayBegin_95 : decode cX9_mayBegin 95 = .ok (.iand, 1) := by decide +kernel
theorem dX9_mayBegin_96 : decode cX9_mayBegin 96 = .ok (.ifCond .eq 21, 3) := by decide +kernel
theorem dX9_mayBegin_99 : decode cX9_mayBegin 99 = .ok (.aload_n 0, 1) := by decide +kernel
theorem dX9_mayBegin_100 : decode cX9_mayBegin 100 = .ok (.getfield 80, 3) := by decide +kernel
theorem dX9_mayBegin_103 : decode cX9_mayBegin 103 = .ok (.bipush 102, 2) := by decide +kernel
theorem dX9_mayBegin_105 : decode cX9_mayBegin 105 = .ok (.if_icmp .ne 16, 3) := by decide +kernel
theorem dX9_mayBegin_108 : decode cX9_mayBegin 108 = .ok (.aload_n 0, 1) := by decide +kernel
theorem dX9_mayBegin_109 : decode cX9_mayBegin 109 = .ok (.getfield 101, 3) := by decide +kernel
theorem dX9_mayBegin_112 : decode cX9_mayBegin 112 = .ok (.iconst 2, 1) := by decide +kernel
theorem dX9_mayBegin_113 : decode cX9_mayBegin 113 = .ok (.iand, 1) := by decide +kernel
theorem dX9_mayBegin_114 : decode cX9_mayBegin 114 = .ok (.ifCond .ne 7, 3) := by decide +kernel
theorem dX9_mayBegin_117 : decode cX9_mayBegin 117 = .ok (.iconst 1, 1) := by decide +kernel
theorem dX9_mayBegin_118 : decode cX9_mayBegin 118 = .ok (.goto 4, 3) := by decide +kernel
theorem dX9_mayBegin_121 : decode cX9_mayBegin 121 = .ok (.iconst 0, 1) := by decide +kernel
theorem dX9_mayBegin_122 : decode cX9_mayBegin 122 = .ok (.ireturn, 1) := by decide +kernel
theorem dX9_readsItem_0 : decode cX9_readsItem 0 = .ok (.iload_n 1, 1) := by decide +kernel
theorem dX9_readsItem_1 : decode cX9_readsItem 1 = .ok (.bipush 98, 2) := by decide +kernel
theorem dX9_readsItem_3 : decode cX9_readsItem 3 = .ok (.if_icmp .ne 20, 3) := by decide +kernel
theorem dX9_readsItem_6 : decode cX9_readsItem 6 = .ok (.aload_n 0, 1) := by decide +kernel
theorem dX9_readsItem_7 : decode cX9_readsItem 7 = .ok (.getfield 13, 3) := by decide +kernel
theorem dX9_readsItem_10 : decode cX9_readsItem 10 = .ok (.bipush 7, 2) := by decide +kernel
theorem dX9_readsItem_12 : decode cX9_readsItem 12 = .ok (.aload_n 0, 1) := by decide +kernel
theorem dX9_readsItem_13 : decode cX9_readsItem 13 = .ok (.iconst 1, 1) := by decide +kernel
theorem dX9_readsItem_14 : decode cX9_readsItem 14 = .ok (.bipush 12, 2) := by decide +kernel
theorem dX9_readsItem_16 : decode cX9_readsItem 16 = .ok (.invokevirtual 104, 3) := by decide +kernel
theorem dX9_readsItem_19 : decode cX9_readsItem 19 = .ok (.iastore, 1) := by decide +kernel
theorem dX9_readsItem_20 : decode cX9_readsItem 20 = .ok (.goto 256, 3) := by decide +kernel
theorem dX9_readsItem_23 : decode cX9_readsItem 23 = .ok (.iload_n 1, 1) := by decide +kernel
theorem dX9_readsItem_24 : decode cX9_readsItem 24 = .ok (.bipush 112, 2) := by decide +kernel
theorem dX9_readsItem_26 : decode cX9_readsItem 26 = .ok (.if_icmp .ne 131, 3) := by decide +kernel
theorem dX9_readsItem_29 : decode cX9_readsItem 29 = .ok (.iconst 5, 1) := by decide +kernel
theorem dX9_readsItem_30 : decode cX9_readsItem 30 = .ok (.aload_n 0, 1) := by decide +kernel
theorem dX9_readsItem_31 : decode cX9_readsItem 31 = .ok (.getfield 13, 3) := by decide +kernel
theorem dX9_readsItem_34 : decode cX9_readsItem 34 = .ok (.iconst 5, 1) := by decide +kernel
theorem dX9_readsItem_35 : decode cX9_readsItem 35 = .ok (.iaload, 1) := by decide +kernel
theorem dX9_readsItem_36 : decode cX9_readsItem 36 = .ok (.iadd, 1) := by decide +kernel
theorem dX9_readsItem_37 : decode cX9_readsItem 37 = .ok (.istore_n 2, 1) := by decide +kernel
theorem dX9_readsItem_38 : decode cX9_readsItem 38 = .ok (.aload_n 0, 1) := by decide +kernel
theorem dX9_readsItem_39 : decode cX9_readsItem 39 = .ok (.getfield 16, 3) := by decide +kernel
theorem dX9_readsItem_42 : decode cX9_readsItem 42 = .ok (.iload_n 2, 1) := by decide +kernel
theorem dX9_readsItem_43 : decode cX9_readsItem 43 = .ok (.aload_n 0, 1) := by decide +kernel
theorem dX9_readsItem_44 : decode cX9_readsItem 44 = .ok (.iconst 1, 1) := by decide +kernel
theorem dX9_readsItem_45 : decode cX9_readsItem 45 = .ok (.bipush 9, 2) := by decide +kernel
theorem dX9_readsItem_47 : decode cX9_readsItem 47 = .ok (.invokevirtual 104, 3) := by decide +kernel
theorem dX9_readsItem_50 : decode cX9_readsItem 50 = .ok (.iastore, 1) := by decide +kernel
theorem dX9_readsItem_51 : decode cX9_readsItem 51 = .ok (.aload_n 0, 1) := by decide +kernel
theorem dX9_readsItem_52 : decode cX9_readsItem 52 = .ok (.getfield 19, 3) := by decide +kernel
theorem dX9_readsItem_55 : decode cX9_readsItem 55 = .ok (.iload_n 2, 1) := by decide +kernel
theorem dX9_readsItem_56 : decode cX9_readsItem 56 = .ok (.iconst 0, 1) := by decide +kernel
theorem dX9_readsItem_57 : decode cX9_readsItem 57 = .ok (.iastore, 1) := by decide +kernel
theorem dX9_readsItem_58 : decode cX9_readsItem 58 = .ok (.iconst 0, 1) := by decide +kernel
theorem dX9_readsItem_59 : decode cX9_readsItem 59 = .ok (.istore_n 3, 1) := by decide +kernel
theorem dX9_readsItem_60 : decode cX9_readsItem 60 = .ok (.iload_n 3, 1) := by decide +kernel
theorem dX9_readsItem_61 : decode cX9_readsItem 61 = .ok (.aload_n 0, 1) := by decide +kernel
theorem dX9_readsItem_62 : decode cX9_readsItem 62 = .ok (.getfield 13, 3) := by decide +kernel
theorem dX9_readsItem_65 : decode cX9_readsItem 65 = .ok (.bipush 7, 2) := by decide +kernel
theorem dX9_readsItem_67 : decode cX9_readsItem 67 = .ok (.iaload, 1) := by decide +kernel
theorem dX9_readsItem_68 : decode cX9_readsItem 68 = .ok (.if_icmp .ge 76, 3) := by decide +kernel
theorem dX9_readsItem_71 : decode cX9_readsItem 71 = .ok (.aload_n 0, 1) := by decide +kernel
theorem dX9_readsItem_72 : decode cX9_readsItem 72 = .ok (.invokevirtual 90, 3) := by decide +kernel
theorem dX9_readsItem_75 : decode cX9_readsItem 75 = .ok (.ifCond .eq 69, 3) := by decide +kernel
theorem dX9_readsItem_78 : decode cX9_readsItem 78 = .ok (.aload_n 0, 1) := by decide +kernel
theorem dX9_readsItem_79 : decode cX9_readsItem 79 = .ok (.aload_n 0, 1) := by decide +kernel
theorem dX9_readsItem_80 : decode cX9_readsItem 80 = .ok (.getfield 77, 3) := by decide +kernel
theorem dX9_readsItem_83 : decode cX9_readsItem 83 = .ok (.iconst 1, 1) := by decide +kernel
theorem dX9_readsItem_84 : decode cX9_readsItem 84 = .ok (.if_icmp .ne 25, 3) := by decide +kernel
theorem dX9_readsItem_87 : decode cX9_readsItem 87 = .ok (.aload_n 0, 1) := by decide +kernel
theorem dX9_readsItem_88 : decode cX9_readsItem 88 = .ok (.getfield 80, 3) := by decide +kernel
theorem dX9_readsItem_91 : decode cX9_readsItem 91 = .ok (.bipush 110, 2) := by decide +kernel
theorem dX9_readsItem_93 : decode cX9_readsItem 93 = .ok (.if_icmp .eq 12, 3) := by decide +kernel
theorem dX9_readsItem_96 : decode cX9_readsItem 96 = .ok (.aload_n 0, 1) := by decide +kernel
theorem dX9_readsItem_97 : decode cX9_readsItem 97 = .ok (.getfield 80, 3) := by decide +kernel
theorem dX9_readsItem_100 : decode cX9_readsItem 100 = .ok (.bipush 114, 2) := by decide +kernel
theorem dX9_readsItem_102 : decode cX9_readsItem 102 = .ok (.if_icmp .ne 7, 3) := by decide +kernel
theorem dX9_readsItem_105 : decode cX9_readsItem 105 = .ok (.iconst 1, 1) := by decide +kernel
theorem dX9_readsItem_106 : decode cX9_readsItem 106 = .ok (.goto 4, 3) := by decide +kernel
theorem dX9_readsItem_109 : decode cX9_readsItem 109 = .ok (.iconst 0, 1) := by decide +kernel
theorem dX9_readsItem_110 : decode cX9_readsItem 110 = .ok (.invokevirtual 97, 3) := by decide +kernel
theorem dX9_readsItem_113 : decode cX9_readsItem 113 = .ok (.istore 4, 2) := by decide +kernel
theorem dX9_readsItem_115 : decode cX9_readsItem 115 = .ok (.aload_n 0, 1) := by decide +kernel
theorem dX9_readsItem_116 : decode cX9_readsItem 116 = .ok (.getfield 19, 3) := by decide +kernel
theorem dX9_readsItem_119 : decode cX9_readsItem 119 = .ok (.iload_n 2, 1) := by decide +kernel
theorem dX9_readsItem_120 : decode cX9_readsItem 120 = .ok (.dup2, 1) := by decide +kernel
theorem dX9_readsItem_121 : decode cX9_readsItem 121 = .ok (.iaload, 1) := by decide +kernel
theorem dX9_readsItem_122 : decode cX9_readsItem 122 = .ok (.iload 4, 2) := by decide +kernel
theorem dX9_readsItem_124 : decode cX9_readsItem 124 = .ok (.bipush 110, 2) := by decide +kernel
theorem dX9_readsItem_126 : decode cX9_readsItem 126 = .ok (.if_icmp .ne 9, 3) := by decide +kernel
theorem dX9_readsItem_129 : decode cX9_readsItem 129 = .ok (.iconst 1, 1) := by decide +kernel
theorem dX9_readsItem_130 : decode cX9_readsItem 130 = .ok (.iload_n 3, 1) := by decide +kernel
theorem dX9_readsItem_131 : decode cX9_readsItem 131 = .ok (.ishl, 1) := by decide +kernel
theorem dX9_readsItem_132 : decode cX9_readsItem 132 = .ok (.goto 4, 3) := by decide +kernel
theorem dX9_readsItem_135 : decode cX9_readsItem 135 = .ok (.iconst 0, 1) := by decide +kernel
theorem dX9_readsItem_136 : decode cX9_readsItem 136 = .ok (.ior, 1) := by decide +kernel
theorem dX9_readsItem_137 : decode cX9_readsItem 137 = .ok (.iastore, 1) := by decide +kernel
theorem dX9_readsItem_138 : decode cX9_readsItem 138 = .ok (.iinc 3 1, 3) := by decide +kernel
theorem dX9_readsItem_141 : decode cX9_readsItem 141 = .ok (.goto (-81), 3) := by decide +kernel
theorem dX9_readsItem_144 : decode cX9_readsItem 144 = .ok (.aload_n 0, 1) := by decide +kernel
theorem dX9_readsItem_145 : decode cX9_readsItem 145 = .ok (.getfield 13, 3) := by decide +kernel
theorem dX9_readsItem_148 : decode cX9_readsItem 148 = .ok (.iconst 5, 1) := by decide +kernel
theorem dX9_readsItem_149 : decode cX9_readsItem 149 = .ok (.dup2, 1) := by decide +kernel
theorem dX9_readsItem_150 : decode cX9_readsItem 150 = .ok (.iaload, 1) := by decide +kernel
theorem dX9_readsItem_151 : decode cX9_readsItem 151 = .ok (.iconst 1, 1) := by decide +kernel
theorem dX9_readsItem_152 : decode cX9_readsItem 152 = .ok (.iadd, 1) := by decide +kernel
theorem dX9_readsItem_153 : decode cX9_readsItem 153 = .ok (.iastore, 1) := by decide +kernel
theorem dX9_readsItem_154 : decode cX9_readsItem 154 = .ok (.goto 122, 3) := by decide +kernel
theorem dX9_readsItem_157 : decode cX9_readsItem 157 = .ok (.iload_n 1, 1) := by decide +kernel
theorem dX9_readsItem_158 : decode cX9_readsItem 158 = .ok (.bipush 109, 2) := by decide +kernel
theorem dX9_readsItem_160 : decode cX9_readsItem 160 = .ok (.if_icmp .ne 59, 3) := by decide +kernel
theorem dX9_readsItem_163 : decode cX9_readsItem 163 = .ok (.aload_n 0, 1) := by decide +kernel
theorem dX9_readsItem_164 : decode cX9_readsItem 164 = .ok (.getfield 22, 3) := by decide +kernel
theorem dX9_readsItem_167 : decode cX9_readsItem 167 = .ok (.iconst 5, 1) := by decide +kernel
theorem dX9_readsItem_168 : decode cX9_readsItem 168 = .ok (.aload_n 0, 1) := by decide +kernel
theorem dX9_readsItem_169 : decode cX9_readsItem 169 = .ok (.getfield 13, 3) := by decide +kernel
theorem dX9_readsItem_172 : decode cX9_readsItem 172 = .ok (.bipush 6, 2) := by decide +kernel
theorem dX9_readsItem_174 : decode cX9_readsItem 174 = .ok (.iaload, 1) := by decide +kernel
theorem dX9_readsItem_175 : decode cX9_readsItem 175 = .ok (.iadd, 1) := by decide +kernel
theorem dX9_readsItem_176 : decode cX9_readsItem 176 = .ok (.aload_n 0, 1) := by decide +kernel
theorem dX9_readsItem_177 : decode cX9_readsItem 177 = .ok (.iconst 1, 1) := by decide +kernel
theorem dX9_readsItem_178 : decode cX9_readsItem 178 = .ok (.bipush 12, 2) := by decide +kernel
theorem dX9_readsItem_180 : decode cX9_readsItem 180 = .ok (.invokevirtual 104, 3) := by decide +kernel
theorem dX9_readsItem_183 : decode cX9_readsItem 183 = .ok (.iastore, 1) := by decide +kernel
theorem dX9_readsItem_184 : decode cX9_readsItem 184 = .ok (.aload_n 0, 1) := by decide +kernel
theorem dX9_readsItem_185 : decode cX9_readsItem 185 = .ok (.getfield 25, 3) := by decide +kernel
theorem dX9_readsItem_188 : decode cX9_readsItem 188 = .ok (.iconst 5, 1) := by decide +kernel
theorem dX9_readsItem_189 : decode cX9_readsItem 189 = .ok (.aload_n 0, 1) := by decide +kernel
theorem dX9_readsItem_190 : decode cX9_readsItem 190 = .ok (.getfield 13, 3) := by decide +kernel
theorem dX9_readsItem_193 : decode cX9_readsItem 193 = .ok (.bipush 6, 2) := by decide +kernel
theorem dX9_readsItem_195 : decode cX9_readsItem 195 = .ok (.iaload, 1) := by decide +kernel
theorem dX9_readsItem_196 : decode cX9_readsItem 196 = .ok (.iadd, 1) := by decide +kernel
theorem dX9_readsItem_197 : decode cX9_readsItem 197 = .ok (.aload_n 0, 1) := by decide +kernel
theorem dX9_readsItem_198 : decode cX9_readsItem 198 = .ok (.iconst 0, 1) := by decide +kernel
theorem dX9_readsItem_199 : decode cX9_readsItem 199 = .ok (.bipush 99, 2) := by decide +kernel
theorem dX9_readsItem_201 : decode cX9_readsItem 201 = .ok (.invokevirtual 104, 3) := by decide +kernel
theorem dX9_readsItem_204 : decode cX9_readsItem 204 = .ok (.iastore, 1) := by decide +kernel
theorem dX9_readsItem_205 : decode cX9_readsItem 205 = .ok (.aload_n 0, 1) := by decide +kernel
theorem dX9_readsItem_206 : decode cX9_readsItem 206 = .ok (.getfield 13, 3) := by decide +kernel
theorem dX9_readsItem_209 : decode cX9_readsItem 209 = .ok (.bipush 6, 2) := by decide +kernel
theorem dX9_readsItem_211 : decode cX9_readsItem 211 = .ok (.dup2, 1) := by decide +kernel
theorem dX9_readsItem_212 : decode cX9_readsItem 212 = .ok (.iaload, 1) := by decide +kernel
theorem dX9_readsItem_213 : decode cX9_readsItem 213 = .ok (.iconst 1, 1) := by decide +kernel
theorem dX9_readsItem_214 : decode cX9_readsItem 214 = .ok (.iadd, 1) := by decide +kernel
theorem dX9_readsItem_215 : decode cX9_readsItem 215 = .ok (.iastore, 1) := by decide +kernel
theorem dX9_readsItem_216 : decode cX9_readsItem 216 = .ok (.goto 60, 3) := by decide +kernel
theorem dX9_readsItem_219 : decode cX9_readsItem 219 = .ok (.iload_n 1, 1) := by decide +kernel
theorem dX9_readsItem_220 : decode cX9_readsItem 220 = .ok (.bipush 119, 2) := by decide +kernel
theorem dX9_readsItem_222 : decode cX9_readsItem 222 = .ok (.if_icmp .ne 30, 3) := by decide +kernel
theorem dX9_readsItem_225 : decode cX9_readsItem 225 = .ok (.aload_n 0, 1) := by decide +kernel
theorem dX9_readsItem_226 : decode cX9_readsItem 226 = .ok (.getfield 13, 3) := by decide +kernel
theorem dX9_readsItem_229 : decode cX9_readsItem 229 = .ok (.bipush 8, 2) := by decide +kernel
theorem dX9_readsItem_231 : decode cX9_readsItem 231 = .ok (.aload_n 0, 1) := by decide +kernel
theorem dX9_readsItem_232 : decode cX9_readsItem 232 = .ok (.iconst 1, 1) := by decide +kernel
theorem dX9_readsItem_233 : decode cX9_readsItem 233 = .ok (.bipush 60, 2) := by decide +kernel
theorem dX9_readsItem_235 : decode cX9_readsItem 235 = .ok (.invokevirtual 104, 3) := by decide +kernel
theorem dX9_readsItem_238 : decode cX9_readsItem 238 = .ok (.iastore, 1) := by decide +kernel
theorem dX9_readsItem_239 : decode cX9_readsItem 239 = .ok (.aload_n 0, 1) := by decide +kernel
theorem dX9_readsItem_240 : decode cX9_readsItem 240 = .ok (.dup, 1) := by decide +kernel
theorem dX9_readsItem_241 : decode cX9_readsItem 241 = .ok (.getfield 101, 3) := by decide +kernel
theorem dX9_readsItem_244 : decode cX9_readsItem 244 = .ok (.iconst 1, 1) := by decide +kernel
theorem dX9_readsItem_245 : decode cX9_readsItem 245 = .ok (.ior, 1) := by decide +kernel
theorem dX9_readsItem_246 : decode cX9_readsItem 246 = .ok (.putfield 101, 3) := by decide +kernel
theorem dX9_readsItem_249 : decode cX9_readsItem 249 = .ok (.goto 27, 3) := by decide +kernel
theorem dX9_readsItem_252 : decode cX9_readsItem 252 = .ok (.aload_n 0, 1) := by decide +kernel
theorem dX9_readsItem_253 : decode cX9_readsItem 253 = .ok (.getfield 13, 3) := by decide +kernel
theorem dX9_readsItem_256 : decode cX9_readsItem 256 = .ok (.bipush 9, 2) := by decide +kernel
theorem dX9_readsItem_258 : decode cX9_readsItem 258 = .ok (.aload_n 0, 1) := by decide +kernel
theorem dX9_readsItem_259 : decode cX9_readsItem 259 = .ok (.iconst 0, 1) := by decide +kernel
theorem dX9_readsItem_260 : decode cX9_readsItem 260 = .ok (.bipush 30, 2) := by decide +kernel
theorem dX9_readsItem_262 : decode cX9_readsItem 262 = .ok (.invokevirtual 104, 3) := by decide +kernel
theorem dX9_readsItem_265 : decode cX9_readsItem 265 = .ok (.iastore, 1) := by decide +kernel
theorem dX9_readsItem_266 : decode cX9_readsItem 266 = .ok (.aload_n 0, 1) := by decide +kernel
theorem dX9_readsItem_267 : decode cX9_readsItem 267 = .ok (.dup, 1) := by decide +kernel
theorem dX9_readsItem_268 : decode cX9_readsItem 268 = .ok (.getfield 101, 3) := by decide +kernel
theorem dX9_readsItem_271 : decode cX9_readsItem 271 = .ok (.iconst 2, 1) := by decide +kernel
theorem dX9_readsItem_272 : decode cX9_readsItem 272 = .ok (.ior, 1) := by decide +kernel
theorem dX9_readsItem_273 : decode cX9_readsItem 273 = .ok (.putfield 101, 3) := by decide +kernel
theorem dX9_readsItem_276 : decode cX9_readsItem 276 = .ok (.return_, 1) := by decide +kernel
theorem dX9_score_0 : decode cX9_score 0 = .ok (.aload_n 0, 1) := by decide +kernel
theorem dX9_score_1 : decode cX9_score 1 = .ok (.iconst 0, 1) := by decide +kernel
theorem dX9_score_2 : decode cX9_score 2 = .ok (.putfield 56, 3) := by decide +kernel
theorem dX9_score_5 : decode cX9_score 5 = .ok (.aload_n 0, 1) := by decide +kernel
theorem dX9_score_6 : decode cX9_score 6 = .ok (.iconst (-1), 1) := by decide +kernel
theorem dX9_score_7 : decode cX9_score 7 = .ok (.putfield 87, 3) := by decide +kernel
theorem dX9_score_10 : decode cX9_score 10 = .ok (.aload_n 0, 1) := by decide +kernel
theorem dX9_score_11 : decode cX9_score 11 = .ok (.iconst 0, 1) := by decide +kernel
theorem dX9_score_12 : decode cX9_score 12 = .ok (.putfield 67, 3) := by decide +kernel
theorem dX9_score_15 : decode cX9_score 15 = .ok (.aload_n 0, 1) := by decide +kernel
theorem dX9_score_16 : decode cX9_score 16 = .ok (.iconst 0, 1) := by decide +kernel
theorem dX9_score_17 : decode cX9_score 17 = .ok (.putfield 101, 3) := by decide +kernel
theorem dX9_score_20 : decode cX9_score 20 = .ok (.aload_n 0, 1) := by decide +kernel
theorem dX9_score_21 : decode cX9_score 21 = .ok (.getfield 13, 3) := by decide +kernel
theorem dX9_score_24 : decode cX9_score 24 = .ok (.iconst 5, 1) := by decide +kernel
theorem dX9_score_25 : decode cX9_score 25 = .ok (.iconst 0, 1) := by decide +kernel
theorem dX9_score_26 : decode cX9_score 26 = .ok (.iastore, 1) := by decide +kernel
theorem dX9_score_27 : decode cX9_score 27 = .ok (.aload_n 0, 1) := by decide +kernel
theorem dX9_score_28 : decode cX9_score 28 = .ok (.getfield 13, 3) := by decide +kernel
theorem dX9_score_31 : decode cX9_score 31 = .ok (.bipush 6, 2) := by decide +kernel
theorem dX9_score_33 : decode cX9_score 33 = .ok (.iconst 0, 1) := by decide +kernel
theorem dX9_score_34 : decode cX9_score 34 = .ok (.iastore, 1) := by decide +kernel
theorem dX9_score_35 : decode cX9_score 35 = .ok (.aload_n 0, 1) := by decide +kernel
theorem dX9_score_36 : decode cX9_score 36 = .ok (.getfield 13, 3) := by decide +kernel
theorem dX9_score_39 : decode cX9_score 39 = .ok (.bipush 7, 2) := by decide +kernel
theorem dX9_score_41 : decode cX9_score 41 = .ok (.bipush 8, 2) := by decide +kernel
theorem dX9_score_43 : decode cX9_score 43 = .ok (.iastore, 1) := by decide +kernel
theorem dX9_score_44 : decode cX9_score 44 = .ok (.aload_n 0, 1) := by decide +kernel
theorem dX9_score_45 : decode cX9_score 45 = .ok (.getfield 13, 3) := by decide +kernel
theorem dX9_score_48 : decode cX9_score 48 = .ok (.bipush 8, 2) := by decide +kernel
theorem dX9_score_50 : decode cX9_score 50 = .ok (.bipush 12, 2) := by decide +kernel
theorem dX9_score_52 : decode cX9_score 52 = .ok (.iastore, 1) := by decide +kernel
theorem dX9_score_53 : decode cX9_score 53 = .ok (.aload_n 0, 1) := by decide +kernel
theorem dX9_score_54 : decode cX9_score 54 = .ok (.getfield 13, 3) := by decide +kernel
theorem dX9_score_57 : decode cX9_score 57 = .ok (.bipush 9, 2) := by decide +kernel
theorem dX9_score_59 : decode cX9_score 59 = .ok (.iconst 5, 1) := by decide +kernel
theorem dX9_score_60 : decode cX9_score 60 = .ok (.iastore, 1) := by decide +kernel
theorem dX9_score_61 : decode cX9_score 61 = .ok (.iconst 0, 1) := by decide +kernel
theorem dX9_score_62 : decode cX9_score 62 = .ok (.istore_n 1, 1) := by decide +kernel
theorem dX9_score_63 : decode cX9_score 63 = .ok (.aload_n 0, 1) := by decide +kernel
theorem dX9_score_64 : decode cX9_score 64 = .ok (.invokevirtual 94, 3) := by decide +kernel
theorem dX9_score_67 : decode cX9_score 67 = .ok (.aload_n 0, 1) := by decide +kernel
theorem dX9_score_68 : decode cX9_score 68 = .ok (.invokevirtual 90, 3) := by decide +kernel
theorem dX9_score_71 : decode cX9_score 71 = .ok (.ifCond .eq 72, 3) := by decide +kernel
theorem dX9_score_74 : decode cX9_score 74 = .ok (.aload_n 0, 1) := by decide +kernel
theorem dX9_score_75 : decode cX9_score 75 = .ok (.getfield 77, 3) := by decide +kernel
theorem dX9_score_78 : decode cX9_score 78 = .ok (.ifCond .eq 65, 3) := by decide +kernel
theorem dX9_score_81 : decode cX9_score 81 = .ok (.aload_n 0, 1) := by decide +kernel
theorem dX9_score_82 : decode cX9_score 82 = .ok (.aload_n 0, 1) := by decide +kernel
theorem dX9_score_83 : decode cX9_score 83 = .ok (.getfield 77, 3) := by decide +kernel
theorem dX9_score_86 : decode cX9_score 86 = .ok (.iconst 1, 1) := by decide +kernel
theorem dX9_score_87 : decode cX9_score 87 = .ok (.if_icmp .ne 15, 3) := by decide +kernel
theorem dX9_score_90 : decode cX9_score 90 = .ok (.aload_n 0, 1) := by decide +kernel
theorem dX9_score_91 : decode cX9_score 91 = .ok (.iload_n 1, 1) := by decide +kernel
theorem dX9_score_92 : decode cX9_score 92 = .ok (.invokevirtual 108, 3) := by decide +kernel
theorem dX9_score_95 : decode cX9_score 95 = .ok (.ifCond .eq 7, 3) := by decide +kernel
theorem dX9_score_98 : decode cX9_score 98 = .ok (.iconst 1, 1) := by decide +kernel
theorem dX9_score_99 : decode cX9_score 99 = .ok (.goto 4, 3) := by decide +kernel
theorem dX9_score_102 : decode cX9_score 102 = .ok (.iconst 0, 1) := by decide +kernel
theorem dX9_score_103 : decode cX9_score 103 = .ok (.invokevirtual 97, 3) := by decide +kernel
theorem dX9_score_106 : decode cX9_score 106 = .ok (.istore_n 2, 1) := by decide +kernel
theorem dX9_score_107 : decode cX9_score 107 = .ok (.aload_n 0, 1) := by decide +kernel
theorem dX9_score_108 : decode cX9_score 108 = .ok (.invokevirtual 90, 3) := by decide +kernel
theorem dX9_score_111 : decode cX9_score 111 = .ok (.ifCond .eq 8, 3) := by decide +kernel
theorem dX9_score_114 : decode cX9_score 114 = .ok (.aload_n 0, 1) := by decide +kernel
theorem dX9_score_115 : decode cX9_score 115 = .ok (.iload_n 2, 1) := by decide +kernel
theorem dX9_score_116 : decode cX9_score 116 = .ok (.invokevirtual 111, 3) := by decide +kernel
theorem dX9_score_119 : decode cX9_score 119 = .ok (.aload_n 0, 1) := by decide +kernel
theorem dX9_score_120 : decode cX9_score 120 = .ok (.aload_n 0, 1) := by decide +kernel
theorem dX9_score_121 : decode cX9_score 121 = .ok (.getfield 77, 3) := by decide +kernel
theorem dX9_score_124 : decode cX9_score 124 = .ok (.iconst 3, 1) := by decide +kernel
theorem dX9_score_125 : decode cX9_score 125 = .ok (.if_icmp .ne 7, 3) := by decide +kernel
theorem dX9_score_128 : decode cX9_score 128 = .ok (.iconst 1, 1) := by decide +kernel
theorem dX9_score_129 : decode cX9_score 129 = .ok (.goto 4, 3) := by decide +kernel
theorem dX9_score_132 : decode cX9_score 132 = .ok (.iconst 0, 1) := by decide +kernel
theorem dX9_score_133 : decode cX9_score 133 = .ok (.invokevirtual 97, 3) := by decide +kernel
theorem dX9_score_136 : decode cX9_score 136 = .ok (.pop, 1) := by decide +kernel
theorem dX9_score_137 : decode cX9_score 137 = .ok (.iinc 1 1, 3) := by decide +kernel
theorem dX9_score_140 : decode cX9_score 140 = .ok (.goto (-73), 3) := by decide +kernel
theorem dX9_score_143 : decode cX9_score 143 = .ok (.aload_n 0, 1) := by decide +kernel
theorem dX9_score_144 : decode cX9_score 144 = .ok (.invokevirtual 90, 3) := by decide +kernel
theorem dX9_score_147 : decode cX9_score 147 = .ok (.ifCond .ne 11, 3) := by decide +kernel
theorem dX9_score_150 : decode cX9_score 150 = .ok (.bipush (-10), 2) := by decide +kernel
theorem dX9_score_152 : decode cX9_score 152 = .ok (.aload_n 0, 1) := by decide +kernel
theorem dX9_score_153 : decode cX9_score 153 = .ok (.getfield 87, 3) := by decide +kernel
theorem dX9_score_156 : decode cX9_score 156 = .ok (.isub, 1) := by decide +kernel
theorem dX9_score_157 : decode cX9_score 157 = .ok (.ireturn, 1) := by decide +kernel
theorem dX9_score_158 : decode cX9_score 158 = .ok (.aload_n 0, 1) := by decide +kernel
theorem dX9_score_159 : decode cX9_score 159 = .ok (.invokevirtual 115, 3) := by decide +kernel
theorem dX9_score_162 : decode cX9_score 162 = .ok (.iload_n 1, 1) := by decide +kernel
theorem dX9_score_163 : decode cX9_score 163 = .ok (.ireturn, 1) := by decide +kernel
theorem dX9_settles_0 : decode cX9_settles 0 = .ok (.iconst 0, 1) := by decide +kernel
theorem dX9_settles_1 : decode cX9_settles 1 = .ok (.istore_n 1, 1) := by decide +kernel
theorem dX9_settles_2 : decode cX9_settles 2 = .ok (.iload_n 1, 1) := by decide +kernel
theorem dX9_settles_3 : decode cX9_settles 3 = .ok (.iconst 5, 1) := by decide +kernel
theorem dX9_settles_4 : decode cX9_settles 4 = .ok (.if_icmp .ge 79, 3) := by decide +kernel
theorem dX9_settles_7 : decode cX9_settles 7 = .ok (.aload_n 0, 1) := by decide +kernel
theorem dX9_settles_8 : decode cX9_settles 8 = .ok (.getfield 13, 3) := by decide +kernel
theorem dX9_settles_11 : decode cX9_settles 11 = .ok (.iload_n 1, 1) := by decide +kernel
theorem dX9_settles_12 : decode cX9_settles 12 = .ok (.aload_n 0, 1) := by decide +kernel
theorem dX9_settles_13 : decode cX9_settles 13 = .ok (.getfield 13, 3) := by decide +kernel
theorem dX9_settles_16 : decode cX9_settles 16 = .ok (.iconst 5, 1) := by decide +kernel
theorem dX9_settles_17 : decode cX9_settles 17 = .ok (.iload_n 1, 1) := by decide +kernel
theorem dX9_settles_18 : decode cX9_settles 18 = .ok (.iadd, 1) := by decide +kernel
theorem dX9_settles_19 : decode cX9_settles 19 = .ok (.iaload, 1) := by decide +kernel
theorem dX9_settles_20 : decode cX9_settles 20 = .ok (.iastore, 1) := by decide +kernel
theorem dX9_settles_21 : decode cX9_settles 21 = .ok (.aload_n 0, 1) := by decide +kernel
theorem dX9_settles_22 : decode cX9_settles 22 = .ok (.getfield 16, 3) := by decide +kernel
theorem dX9_settles_25 : decode cX9_settles 25 = .ok (.iload_n 1, 1) := by decide +kernel
theorem dX9_settles_26 : decode cX9_settles 26 = .ok (.aload_n 0, 1) := by decide +kernel
theorem dX9_settles_27 : decode cX9_settles 27 = .ok (.getfield 16, 3) := by decide +kernel
theorem dX9_settles_30 : decode cX9_settles 30 = .ok (.iconst 5, 1) := by decide +kernel
theorem dX9_settles_31 : decode cX9_settles 31 = .ok (.iload_n 1, 1) := by decide +kernel
theorem dX9_settles_32 : decode cX9_settles 32 = .ok (.iadd, 1) := by decide +kernel
theorem dX9_settles_33 : decode cX9_settles 33 = .ok (.iaload, 1) := by decide +kernel
theorem dX9_settles_34 : decode cX9_settles 34 = .ok (.iastore, 1) := by decide +kernel
theorem dX9_settles_35 : decode cX9_settles 35 = .ok (.aload_n 0, 1) := by decide +kernel
theorem dX9_settles_36 : decode cX9_settles 36 = .ok (.getfield 19, 3) := by decide +kernel
theorem dX9_settles_39 : decode cX9_settles 39 = .ok (.iload_n 1, 1) := by decide +kernel
theorem dX9_settles_40 : decode cX9_settles 40 = .ok (.aload_n 0, 1) := by decide +kernel
theorem dX9_settles_41 : decode cX9_settles 41 = .ok (.getfield 19, 3) := by decide +kernel
theorem dX9_settles_44 : decode cX9_settles 44 = .ok (.iconst 5, 1) := by decide +kernel
theorem dX9_settles_45 : decode cX9_settles 45 = .ok (.iload_n 1, 1) := by decide +kernel
theorem dX9_settles_46 : decode cX9_settles 46 = .ok (.iadd, 1) := by decide +kernel
theorem dX9_settles_47 : decode cX9_settles 47 = .ok (.iaload, 1) := by decide +kernel
theorem dX9_settles_48 : decode cX9_settles 48 = .ok (.iastore, 1) := by decide +kernel
theorem dX9_settles_49 : decode cX9_settles 49 = .ok (.aload_n 0, 1) := by decide +kernel
theorem dX9_settles_50 : decode cX9_settles 50 = .ok (.getfield 22, 3) := by decide +kernel
theorem dX9_settles_53 : decode cX9_settles 53 = .ok (.iload_n 1, 1) := by decide +kernel
theorem dX9_settles_54 : decode cX9_settles 54 = .ok (.aload_n 0, 1) := by decide +kernel
theorem dX9_settles_55 : decode cX9_settles 55 = .ok (.getfield 22, 3) := by decide +kernel
theorem dX9_settles_58 : decode cX9_settles 58 = .ok (.iconst 5, 1) := by decide +kernel
theorem dX9_settles_59 : decode cX9_settles 59 = .ok (.iload_n 1, 1) := by decide +kernel
theorem dX9_settles_60 : decode cX9_settles 60 = .ok (.iadd, 1) := by decide +kernel
theorem dX9_settles_61 : decode cX9_settles 61 = .ok (.iaload, 1) := by decide +kernel
theorem dX9_settles_62 : decode cX9_settles 62 = .ok (.iastore, 1) := by decide +kernel
theorem dX9_settles_63 : decode cX9_settles 63 = .ok (.aload_n 0, 1) := by decide +kernel
theorem dX9_settles_64 : decode cX9_settles 64 = .ok (.getfield 25, 3) := by decide +kernel
theorem dX9_settles_67 : decode cX9_settles 67 = .ok (.iload_n 1, 1) := by decide +kernel
theorem dX9_settles_68 : decode cX9_settles 68 = .ok (.aload_n 0, 1) := by decide +kernel
theorem dX9_settles_69 : decode cX9_settles 69 = .ok (.getfield 25, 3) := by decide +kernel
theorem dX9_settles_72 : decode cX9_settles 72 = .ok (.iconst 5, 1) := by decide +kernel
theorem dX9_settles_73 : decode cX9_settles 73 = .ok (.iload_n 1, 1) := by decide +kernel
theorem dX9_settles_74 : decode cX9_settles 74 = .ok (.iadd, 1) := by decide +kernel
theorem dX9_settles_75 : decode cX9_settles 75 = .ok (.iaload, 1) := by decide +kernel
theorem dX9_settles_76 : decode cX9_settles 76 = .ok (.iastore, 1) := by decide +kernel
theorem dX9_settles_77 : decode cX9_settles 77 = .ok (.iinc 1 1, 3) := by decide +kernel
theorem dX9_settles_80 : decode cX9_settles 80 = .ok (.goto (-78), 3) := by decide +kernel
theorem dX9_settles_83 : decode cX9_settles 83 = .ok (.iconst 0, 1) := by decide +kernel
theorem dX9_settles_84 : decode cX9_settles 84 = .ok (.istore_n 1, 1) := by decide +kernel
theorem dX9_settles_85 : decode cX9_settles 85 = .ok (.iload_n 1, 1) := by decide +kernel
theorem dX9_settles_86 : decode cX9_settles 86 = .ok (.bipush 16, 2) := by decide +kernel
theorem dX9_settles_88 : decode cX9_settles 88 = .ok (.if_icmp .ge 16, 3) := by decide +kernel
theorem dX9_settles_91 : decode cX9_settles 91 = .ok (.aload_n 0, 1) := by decide +kernel
theorem dX9_settles_92 : decode cX9_settles 92 = .ok (.getfield 28, 3) := by decide +kernel
theorem dX9_settles_95 : decode cX9_settles 95 = .ok (.iload_n 1, 1) := by decide +kernel
theorem dX9_settles_96 : decode cX9_settles 96 = .ok (.iconst 0, 1) := by decide +kernel
theorem dX9_settles_97 : decode cX9_settles 97 = .ok (.iastore, 1) := by decide +kernel
theorem dX9_settles_98 : decode cX9_settles 98 = .ok (.iinc 1 1, 3) := by decide +kernel
theorem dX9_settles_101 : decode cX9_settles 101 = .ok (.goto (-16), 3) := by decide +kernel
theorem dX9_settles_104 : decode cX9_settles 104 = .ok (.aload_n 0, 1) := by decide +kernel
theorem dX9_settles_105 : decode cX9_settles 105 = .ok (.iconst 0, 1) := by decide +kernel
theorem dX9_settles_106 : decode cX9_settles 106 = .ok (.putfield 64, 3) := by decide +kernel
theorem dX9_settles_109 : decode cX9_settles 109 = .ok (.aload_n 0, 1) := by decide +kernel
theorem dX9_settles_110 : decode cX9_settles 110 = .ok (.iconst 0, 1) := by decide +kernel
theorem dX9_settles_111 : decode cX9_settles 111 = .ok (.putfield 118, 3) := by decide +kernel
theorem dX9_settles_114 : decode cX9_settles 114 = .ok (.aload_n 0, 1) := by decide +kernel
theorem dX9_settles_115 : decode cX9_settles 115 = .ok (.iconst 0, 1) := by decide +kernel
theorem dX9_settles_116 : decode cX9_settles 116 = .ok (.putfield 121, 3) := by decide +kernel
theorem dX9_settles_119 : decode cX9_settles 119 = .ok (.aload_n 0, 1) := by decide +kernel
theorem dX9_settles_120 : decode cX9_settles 120 = .ok (.getfield 37, 3) := by decide +kernel
theorem dX9_settles_123 : decode cX9_settles 123 = .ok (.iconst 0, 1) := by decide +kernel
theorem dX9_settles_124 : decode cX9_settles 124 = .ok (.iconst 0, 1) := by decide +kernel
theorem dX9_settles_125 : decode cX9_settles 125 = .ok (.bastore, 1) := by decide +kernel
theorem dX9_settles_126 : decode cX9_settles 126 = .ok (.aload_n 0, 1) := by decide +kernel
theorem dX9_settles_127 : decode cX9_settles 127 = .ok (.getfield 37, 3) := by decide +kernel
theorem dX9_settles_130 : decode cX9_settles 130 = .ok (.iconst 1, 1) := by decide +kernel
theorem dX9_settles_131 : decode cX9_settles 131 = .ok (.iconst 0, 1) := by decide +kernel
theorem dX9_settles_132 : decode cX9_settles 132 = .ok (.bastore, 1) := by decide +kernel
theorem dX9_settles_133 : decode cX9_settles 133 = .ok (.return_, 1) := by decide +kernel
theorem dX9_isPart_0 : decode cX9_isPart 0 = .ok (.iload_n 1, 1) := by decide +kernel
theorem dX9_isPart_1 : decode cX9_isPart 1 = .ok (.iconst 0, 1) := by decide +kernel
theorem dX9_isPart_2 : decode cX9_isPart 2 = .ok (.aload_n 0, 1) := by decide +kernel
theorem dX9_isPart_3 : decode cX9_isPart 3 = .ok (.getfield 13, 3) := by decide +kernel
theorem dX9_isPart_6 : decode cX9_isPart 6 = .ok (.iconst 0, 1) := by decide +kernel
theorem dX9_isPart_7 : decode cX9_isPart 7 = .ok (.iaload, 1) := by decide +kernel
theorem dX9_isPart_8 : decode cX9_isPart 8 = .ok (.iconst 1, 1) := by decide +kernel
theorem dX9_isPart_9 : decode cX9_isPart 9 = .ok (.isub, 1) := by decide +kernel
theorem dX9_isPart_10 : decode cX9_isPart 10 = .ok (.invokestatic 60, 3) := by decide +kernel
theorem dX9_isPart_13 : decode cX9_isPart 13 = .ok (.ireturn, 1) := by decide +kernel
theorem dX9_isPlayer_0 : decode cX9_isPlayer 0 = .ok (.iload_n 1, 1) := by decide +kernel
theorem dX9_isPlayer_1 : decode cX9_isPlayer 1 = .ok (.iconst 0, 1) := by decide +kernel
theorem dX9_isPlayer_2 : decode cX9_isPlayer 2 = .ok (.aload_n 0, 1) := by decide +kernel
theorem dX9_isPlayer_3 : decode cX9_isPlayer 3 = .ok (.getfield 13, 3) := by decide +kernel
theorem dX9_isPlayer_6 : decode cX9_isPlayer 6 = .ok (.iconst 1, 1) := by decide +kernel
theorem dX9_isPlayer_7 : decode cX9_isPlayer 7 = .ok (.iaload, 1) := by decide +kernel
theorem dX9_isPlayer_8 : decode cX9_isPlayer 8 = .ok (.iconst 1, 1) := by decide +kernel
theorem dX9_isPlayer_9 : decode cX9_isPlayer 9 = .ok (.isub, 1) := by decide +kernel
theorem dX9_isPlayer_10 : decode cX9_isPlayer 10 = .ok (.invokestatic 60, 3) := by decide +kernel
theorem dX9_isPlayer_13 : decode cX9_isPlayer 13 = .ok (.ireturn, 1) := by decide +kernel
theorem dX9_allBars_0 : decode cX9_allBars 0 = .ok (.iconst 1, 1) := by decide +kernel
theorem dX9_allBars_1 : decode cX9_allBars 1 = .ok (.aload_n 0, 1) := by decide +kernel
theorem dX9_allBars_2 : decode cX9_allBars 2 = .ok (.getfield 13, 3) := by decide +kernel
theorem dX9_allBars_5 : decode cX9_allBars 5 = .ok (.iconst 2, 1) := by decide +kernel
theorem dX9_allBars_6 : decode cX9_allBars 6 = .ok (.iaload, 1) := by decide +kernel
theorem dX9_allBars_7 : decode cX9_allBars 7 = .ok (.ishl, 1) := by decide +kernel
theorem dX9_allBars_8 : decode cX9_allBars 8 = .ok (.iconst 1, 1) := by decide +kernel
theorem dX9_allBars_9 : decode cX9_allBars 9 = .ok (.isub, 1) := by decide +kernel
theorem dX9_allBars_10 : decode cX9_allBars 10 = .ok (.ireturn, 1) := by decide +kernel
theorem dX9_reckons_0 : decode cX9_reckons 0 = .ok (.iconst 0, 1) := by decide +kernel
theorem dX9_reckons_1 : decode cX9_reckons 1 = .ok (.istore_n 2, 1) := by decide +kernel
theorem dX9_reckons_2 : decode cX9_reckons 2 = .ok (.iload_n 2, 1) := by decide +kernel
theorem dX9_reckons_3 : decode cX9_reckons 3 = .ok (.aload_n 0, 1) := by decide +kernel
theorem dX9_reckons_4 : decode cX9_reckons 4 = .ok (.getfield 13, 3) := by decide +kernel
theorem dX9_reckons_7 : decode cX9_reckons 7 = .ok (.iconst 1, 1) := by decide +kernel
theorem dX9_reckons_8 : decode cX9_reckons 8 = .ok (.iaload, 1) := by decide +kernel
theorem dX9_reckons_9 : decode cX9_reckons 9 = .ok (.if_icmp .ge 89, 3) := by decide +kernel
theorem dX9_reckons_12 : decode cX9_reckons 12 = .ok (.aload_n 0, 1) := by decide +kernel
theorem dX9_reckons_13 : decode cX9_reckons 13 = .ok (.getfield 50, 3) := by decide +kernel
theorem dX9_reckons_16 : decode cX9_reckons 16 = .ok (.iload_n 2, 1) := by decide +kernel
theorem dX9_reckons_17 : decode cX9_reckons 17 = .ok (.iconst 0, 1) := by decide +kernel
theorem dX9_reckons_18 : decode cX9_reckons 18 = .ok (.iastore, 1) := by decide +kernel
theorem dX9_reckons_19 : decode cX9_reckons 19 = .ok (.iconst 0, 1) := by decide +kernel
theorem dX9_reckons_20 : decode cX9_reckons 20 = .ok (.istore_n 3, 1) := by decide +kernel
theorem dX9_reckons_21 : decode cX9_reckons 21 = .ok (.iload_n 3, 1) := by decide +kernel
theorem dX9_reckons_22 : decode cX9_reckons 22 = .ok (.aload_n 0, 1) := by decide +kernel
theorem dX9_reckons_23 : decode cX9_reckons 23 = .ok (.getfield 13, 3) := by decide +kernel
theorem dX9_reckons_26 : decode cX9_reckons 26 = .ok (.iconst 0, 1) := by decide +kernel
theorem dX9_reckons_27 : decode cX9_reckons 27 = .ok (.iaload, 1) := by decide +kernel
theorem dX9_reckons_28 : decode cX9_reckons 28 = .ok (.if_icmp .ge 39, 3) := by decide +kernel
theorem dX9_reckons_31 : decode cX9_reckons 31 = .ok (.aload_n 0, 1) := by decide +kernel
theorem dX9_reckons_32 : decode cX9_reckons 32 = .ok (.getfield 50, 3) := by decide +kernel
theorem dX9_reckons_35 : decode cX9_reckons 35 = .ok (.iload_n 2, 1) := by decide +kernel
theorem dX9_reckons_36 : decode cX9_reckons 36 = .ok (.dup2, 1) := by decide +kernel
theorem dX9_reckons_37 : decode cX9_reckons 37 = .ok (.iaload, 1) := by decide +kernel
theorem dX9_reckons_38 : decode cX9_reckons 38 = .ok (.aload_n 1, 1) := by decide +kernel
theorem dX9_reckons_39 : decode cX9_reckons 39 = .ok (.iconst 0, 1) := by decide +kernel
theorem dX9_reckons_40 : decode cX9_reckons 40 = .ok (.iload_n 3, 1) := by decide +kernel
theorem dX9_reckons_41 : decode cX9_reckons 41 = .ok (.iadd, 1) := by decide +kernel
theorem dX9_reckons_42 : decode cX9_reckons 42 = .ok (.iaload, 1) := by decide +kernel
theorem dX9_reckons_43 : decode cX9_reckons 43 = .ok (.iload_n 2, 1) := by decide +kernel
theorem dX9_reckons_44 : decode cX9_reckons 44 = .ok (.iconst 1, 1) := by decide +kernel
theorem dX9_reckons_45 : decode cX9_reckons 45 = .ok (.iadd, 1) := by decide +kernel
theorem dX9_reckons_46 : decode cX9_reckons 46 = .ok (.if_icmp .ne 12, 3) := by decide +kernel
theorem dX9_reckons_49 : decode cX9_reckons 49 = .ok (.aload_n 0, 1) := by decide +kernel
theorem dX9_reckons_50 : decode cX9_reckons 50 = .ok (.getfield 19, 3) := by decide +kernel
theorem dX9_reckons_53 : decode cX9_reckons 53 = .ok (.iload_n 3, 1) := by decide +kernel
theorem dX9_reckons_54 : decode cX9_reckons 54 = .ok (.iaload, 1) := by decide +kernel
theorem dX9_reckons_55 : decode cX9_reckons 55 = .ok (.goto 4, 3) := by decide +kernel
theorem dX9_reckons_58 : decode cX9_reckons 58 = .ok (.iconst 0, 1) := by decide +kernel
theorem dX9_reckons_59 : decode cX9_reckons 59 = .ok (.ior, 1) := by decide +kernel
theorem dX9_reckons_60 : decode cX9_reckons 60 = .ok (.iastore, 1) := by decide +kernel
theorem dX9_reckons_61 : decode cX9_reckons 61 = .ok (.iinc 3 1, 3) := by decide +kernel
theorem dX9_reckons_64 : decode cX9_reckons 64 = .ok (.goto (-43), 3) := by decide +kernel
theorem dX9_reckons_67 : decode cX9_reckons 67 = .ok (.aload_n 0, 1) := by decide +kernel
theorem dX9_reckons_68 : decode cX9_reckons 68 = .ok (.getfield 53, 3) := by decide +kernel
theorem dX9_reckons_71 : decode cX9_reckons 71 = .ok (.iload_n 2, 1) := by decide +kernel
theorem dX9_reckons_72 : decode cX9_reckons 72 = .ok (.aload_n 0, 1) := by decide +kernel
theorem dX9_reckons_73 : decode cX9_reckons 73 = .ok (.invokevirtual 124, 3) := by decide +kernel
theorem dX9_reckons_76 : decode cX9_reckons 76 = .ok (.aload_n 0, 1) := by decide +kernel
theorem dX9_reckons_77 : decode cX9_reckons 77 = .ok (.getfield 50, 3) := by decide +kernel
theorem dX9_reckons_80 : decode cX9_reckons 80 = .ok (.iload_n 2, 1) := by decide +kernel
theorem dX9_reckons_81 : decode cX9_reckons 81 = .ok (.iaload, 1) := by decide +kernel
theorem dX9_reckons_82 : decode cX9_reckons 82 = .ok (.iconst (-1), 1) := by decide +kernel
theorem dX9_reckons_83 : decode cX9_reckons 83 = .ok (.ixor, 1) := by decide +kernel
theorem dX9_reckons_84 : decode cX9_reckons 84 = .ok (.aload_n 1, 1) := by decide +kernel
theorem dX9_reckons_85 : decode cX9_reckons 85 = .ok (.iconst 5, 1) := by decide +kernel
theorem dX9_reckons_86 : decode cX9_reckons 86 = .ok (.iload_n 2, 1) := by decide +kernel
theorem dX9_reckons_87 : decode cX9_reckons 87 = .ok (.iadd, 1) := by decide +kernel
theorem dX9_reckons_88 : decode cX9_reckons 88 = .ok (.iaload, 1) := by decide +kernel
theorem dX9_reckons_89 : decode cX9_reckons 89 = .ok (.ior, 1) := by decide +kernel
theorem dX9_reckons_90 : decode cX9_reckons 90 = .ok (.iand, 1) := by decide +kernel
theorem dX9_reckons_91 : decode cX9_reckons 91 = .ok (.iastore, 1) := by decide +kernel
theorem dX9_reckons_92 : decode cX9_reckons 92 = .ok (.iinc 2 1, 3) := by decide +kernel
theorem dX9_reckons_95 : decode cX9_reckons 95 = .ok (.goto (-93), 3) := by decide +kernel
theorem dX9_reckons_98 : decode cX9_reckons 98 = .ok (.return_, 1) := by decide +kernel
theorem dX9_restsIn_0 : decode cX9_restsIn 0 = .ok (.iconst 0, 1) := by decide +kernel
theorem dX9_restsIn_1 : decode cX9_restsIn 1 = .ok (.istore_n 2, 1) := by decide +kernel
theorem dX9_restsIn_2 : decode cX9_restsIn 2 = .ok (.iconst 0, 1) := by decide +kernel
theorem dX9_restsIn_3 : decode cX9_restsIn 3 = .ok (.istore_n 3, 1) := by decide +kernel
theorem dX9_restsIn_4 : decode cX9_restsIn 4 = .ok (.iload_n 3, 1) := by decide +kernel
theorem dX9_restsIn_5 : decode cX9_restsIn 5 = .ok (.aload_n 0, 1) := by decide +kernel
theorem dX9_restsIn_6 : decode cX9_restsIn 6 = .ok (.getfield 13, 3) := by decide +kernel
theorem dX9_restsIn_9 : decode cX9_restsIn 9 = .ok (.iconst 1, 1) := by decide +kernel
theorem dX9_restsIn_10 : decode cX9_restsIn 10 = .ok (.iaload, 1) := by decide +kernel
theorem dX9_restsIn_11 : decode cX9_restsIn 11 = .ok (.if_icmp .ge 22, 3) := by decide +kernel
theorem dX9_restsIn_14 : decode cX9_restsIn 14 = .ok (.iload_n 2, 1) := by decide +kernel
theorem dX9_restsIn_15 : decode cX9_restsIn 15 = .ok (.aload_n 0, 1) := by decide +kernel
theorem dX9_restsIn_16 : decode cX9_restsIn 16 = .ok (.getfield 53, 3) := by decide +kernel
theorem dX9_restsIn_19 : decode cX9_restsIn 19 = .ok (.iload_n 3, 1) := by decide +kernel
theorem dX9_restsIn_20 : decode cX9_restsIn 20 = .ok (.iaload, 1) := by decide +kernel
theorem dX9_restsIn_21 : decode cX9_restsIn 21 = .ok (.iload_n 1, 1) := by decide +kernel
theorem dX9_restsIn_22 : decode cX9_restsIn 22 = .ok (.ishr, 1) := by decide +kernel
theorem dX9_restsIn_23 : decode cX9_restsIn 23 = .ok (.iconst 1, 1) := by decide +kernel
theorem dX9_restsIn_24 : decode cX9_restsIn 24 = .ok (.iand, 1) := by decide +kernel
theorem dX9_restsIn_25 : decode cX9_restsIn 25 = .ok (.iadd, 1) := by decide +kernel
theorem dX9_restsIn_26 : decode cX9_restsIn 26 = .ok (.istore_n 2, 1) := by decide +kernel
theorem dX9_restsIn_27 : decode cX9_restsIn 27 = .ok (.iinc 3 1, 3) := by decide +kernel
theorem dX9_restsIn_30 : decode cX9_restsIn 30 = .ok (.goto (-26), 3) := by decide +kernel
theorem dX9_restsIn_33 : decode cX9_restsIn 33 = .ok (.iload_n 2, 1) := by decide +kernel
theorem dX9_restsIn_34 : decode cX9_restsIn 34 = .ok (.ireturn, 1) := by decide +kernel
theorem dX9_payOf_0 : decode cX9_payOf 0 = .ok (.aload_n 0, 1) := by decide +kernel
theorem dX9_payOf_1 : decode cX9_payOf 1 = .ok (.getfield 13, 3) := by decide +kernel
theorem dX9_payOf_4 : decode cX9_payOf 4 = .ok (.iconst 4, 1) := by decide +kernel
theorem dX9_payOf_5 : decode cX9_payOf 5 = .ok (.iaload, 1) := by decide +kernel
theorem dX9_payOf_6 : decode cX9_payOf 6 = .ok (.ineg, 1) := by decide +kernel
theorem dX9_payOf_7 : decode cX9_payOf 7 = .ok (.aload_n 0, 1) := by decide +kernel
theorem dX9_payOf_8 : decode cX9_payOf 8 = .ok (.getfield 50, 3) := by decide +kernel
theorem dX9_payOf_11 : decode cX9_payOf 11 = .ok (.iload_n 2, 1) := by decide +kernel
theorem dX9_payOf_12 : decode cX9_payOf 12 = .ok (.iaload, 1) := by decide +kernel
theorem dX9_payOf_13 : decode cX9_payOf 13 = .ok (.aload_n 1, 1) := by decide +kernel
theorem dX9_payOf_14 : decode cX9_payOf 14 = .ok (.iconst 5, 1) := by decide +kernel
theorem dX9_payOf_15 : decode cX9_payOf 15 = .ok (.iload_n 2, 1) := by decide +kernel
theorem dX9_payOf_16 : decode cX9_payOf 16 = .ok (.iadd, 1) := by decide +kernel
theorem dX9_payOf_17 : decode cX9_payOf 17 = .ok (.iaload, 1) := by decide +kernel
theorem dX9_payOf_18 : decode cX9_payOf 18 = .ok (.iand, 1) := by decide +kernel
theorem dX9_payOf_19 : decode cX9_payOf 19 = .ok (.invokestatic 128, 3) := by decide +kernel
theorem dX9_payOf_22 : decode cX9_payOf 22 = .ok (.imul, 1) := by decide +kernel
theorem dX9_payOf_23 : decode cX9_payOf 23 = .ok (.istore_n 3, 1) := by decide +kernel
theorem dX9_payOf_24 : decode cX9_payOf 24 = .ok (.iconst 0, 1) := by decide +kernel
theorem dX9_payOf_25 : decode cX9_payOf 25 = .ok (.istore 4, 2) := by decide +kernel
theorem dX9_payOf_27 : decode cX9_payOf 27 = .ok (.iload 4, 2) := by decide +kernel
theorem dX9_payOf_29 : decode cX9_payOf 29 = .ok (.aload_n 0, 1) := by decide +kernel
theorem dX9_payOf_30 : decode cX9_payOf 30 = .ok (.getfield 13, 3) := by decide +kernel
theorem dX9_payOf_33 : decode cX9_payOf 33 = .ok (.iconst 2, 1) := by decide +kernel
theorem dX9_payOf_34 : decode cX9_payOf 34 = .ok (.iaload, 1) := by decide +kernel
theorem dX9_payOf_35 : decode cX9_payOf 35 = .ok (.if_icmp .ge 44, 3) := by decide +kernel
theorem dX9_payOf_38 : decode cX9_payOf 38 = .ok (.iload_n 3, 1) := by decide +kernel
theorem dX9_payOf_39 : decode cX9_payOf 39 = .ok (.aload_n 0, 1) := by decide +kernel
theorem dX9_payOf_40 : decode cX9_payOf 40 = .ok (.getfield 53, 3) := by decide +kernel
theorem dX9_payOf_43 : decode cX9_payOf 43 = .ok (.iload_n 2, 1) := by decide +kernel
theorem dX9_payOf_44 : decode cX9_payOf 44 = .ok (.iaload, 1) := by decide +kernel
theorem dX9_payOf_45 : decode cX9_payOf 45 = .ok (.iload 4, 2) := by decide +kernel
theorem dX9_payOf_47 : decode cX9_payOf 47 = .ok (.ishr, 1) := by decide +kernel
theorem dX9_payOf_48 : decode cX9_payOf 48 = .ok (.iconst 1, 1) := by decide +kernel
theorem dX9_payOf_49 : decode cX9_payOf 49 = .ok (.iand, 1) := by decide +kernel
theorem dX9_payOf_50 : decode cX9_payOf 50 = .ok (.iconst 1, 1) := by decide +kernel
theorem dX9_payOf_51 : decode cX9_payOf 51 = .ok (.if_icmp .ne 19, 3) := by decide +kernel
theorem dX9_payOf_54 : decode cX9_payOf 54 = .ok (.aload_n 0, 1) := by decide +kernel
theorem dX9_payOf_55 : decode cX9_payOf 55 = .ok (.getfield 13, 3) := by decide +kernel
theorem dX9_payOf_58 : decode cX9_payOf 58 = .ok (.iconst 3, 1) := by decide +kernel
theorem dX9_payOf_59 : decode cX9_payOf 59 = .ok (.iaload, 1) := by decide +kernel
theorem dX9_payOf_60 : decode cX9_payOf 60 = .ok (.aload_n 0, 1) := by decide +kernel
theorem dX9_payOf_61 : decode cX9_payOf 61 = .ok (.iload 4, 2) := by decide +kernel
theorem dX9_payOf_63 : decode cX9_payOf 63 = .ok (.invokevirtual 131, 3) := by decide +kernel
theorem dX9_payOf_66 : decode cX9_payOf 66 = .ok (.idiv, 1) := by decide +kernel
theorem dX9_payOf_67 : decode cX9_payOf 67 = .ok (.goto 4, 3) := by decide +kernel
theorem dX9_payOf_70 : decode cX9_payOf 70 = .ok (.iconst 0, 1) := by decide +kernel
theorem dX9_payOf_71 : decode cX9_payOf 71 = .ok (.iadd, 1) := by decide +kernel
theorem dX9_payOf_72 : decode cX9_payOf 72 = .ok (.istore_n 3, 1) := by decide +kernel
theorem dX9_payOf_73 : decode cX9_payOf 73 = .ok (.iinc 4 1, 3) := by decide +kernel
theorem dX9_payOf_76 : decode cX9_payOf 76 = .ok (.goto (-49), 3) := by decide +kernel
theorem dX9_payOf_79 : decode cX9_payOf 79 = .ok (.iload_n 3, 1) := by decide +kernel
theorem dX9_payOf_80 : decode cX9_payOf 80 = .ok (.ireturn, 1) := by decide +kernel
theorem dX9_payOfAll_0 : decode cX9_payOfAll 0 = .ok (.aload_n 0, 1) := by decide +kernel
theorem dX9_payOfAll_1 : decode cX9_payOfAll 1 = .ok (.aload_n 1, 1) := by decide +kernel
theorem dX9_payOfAll_2 : decode cX9_payOfAll 2 = .ok (.invokevirtual 134, 3) := by decide +kernel
theorem dX9_payOfAll_5 : decode cX9_payOfAll 5 = .ok (.iconst 0, 1) := by decide +kernel
theorem dX9_payOfAll_6 : decode cX9_payOfAll 6 = .ok (.istore_n 2, 1) := by decide +kernel
theorem dX9_payOfAll_7 : decode cX9_payOfAll 7 = .ok (.iconst 0, 1) := by decide +kernel
theorem dX9_payOfAll_8 : decode cX9_payOfAll 8 = .ok (.istore_n 3, 1) := by decide +kernel
theorem dX9_payOfAll_9 : decode cX9_payOfAll 9 = .ok (.iload_n 3, 1) := by decide +kernel
theorem dX9_payOfAll_10 : decode cX9_payOfAll 10 = .ok (.aload_n 0, 1) := by decide +kernel
theorem dX9_payOfAll_11 : decode cX9_payOfAll 11 = .ok (.getfield 13, 3) := by decide +kernel
theorem dX9_payOfAll_14 : decode cX9_payOfAll 14 = .ok (.iconst 1, 1) := by decide +kernel
theorem dX9_payOfAll_15 : decode cX9_payOfAll 15 = .ok (.iaload, 1) := by decide +kernel
theorem dX9_payOfAll_16 : decode cX9_payOfAll 16 = .ok (.if_icmp .ge 18, 3) := by decide +kernel
theorem dX9_payOfAll_19 : decode cX9_payOfAll 19 = .ok (.iload_n 2, 1) := by decide +kernel
theorem dX9_payOfAll_20 : decode cX9_payOfAll 20 = .ok (.aload_n 0, 1) := by decide +kernel
theorem dX9_payOfAll_21 : decode cX9_payOfAll 21 = .ok (.aload_n 1, 1) := by decide +kernel
theorem dX9_payOfAll_22 : decode cX9_payOfAll 22 = .ok (.iload_n 3, 1) := by decide +kernel
theorem dX9_payOfAll_23 : decode cX9_payOfAll 23 = .ok (.invokevirtual 138, 3) := by decide +kernel
theorem dX9_payOfAll_26 : decode cX9_payOfAll 26 = .ok (.iadd, 1) := by decide +kernel
theorem dX9_payOfAll_27 : decode cX9_payOfAll 27 = .ok (.istore_n 2, 1) := by decide +kernel
theorem dX9_payOfAll_28 : decode cX9_payOfAll 28 = .ok (.iinc 3 1, 3) := by decide +kernel
theorem dX9_payOfAll_31 : decode cX9_payOfAll 31 = .ok (.goto (-22), 3) := by decide +kernel
theorem dX9_payOfAll_34 : decode cX9_payOfAll 34 = .ok (.iload_n 2, 1) := by decide +kernel
theorem dX9_payOfAll_35 : decode cX9_payOfAll 35 = .ok (.ireturn, 1) := by decide +kernel
theorem dX9_isOut_0 : decode cX9_isOut 0 = .ok (.iconst 0, 1) := by decide +kernel
theorem dX9_isOut_1 : decode cX9_isOut 1 = .ok (.istore_n 2, 1) := by decide +kernel
theorem dX9_isOut_2 : decode cX9_isOut 2 = .ok (.iconst 0, 1) := by decide +kernel
theorem dX9_isOut_3 : decode cX9_isOut 3 = .ok (.istore_n 3, 1) := by decide +kernel
theorem dX9_isOut_4 : decode cX9_isOut 4 = .ok (.iconst 0, 1) := by decide +kernel
theorem dX9_isOut_5 : decode cX9_isOut 5 = .ok (.istore 4, 2) := by decide +kernel
theorem dX9_isOut_7 : decode cX9_isOut 7 = .ok (.iload 4, 2) := by decide +kernel
theorem dX9_isOut_9 : decode cX9_isOut 9 = .ok (.aload_n 0, 1) := by decide +kernel
theorem dX9_isOut_10 : decode cX9_isOut 10 = .ok (.getfield 13, 3) := by decide +kernel
theorem dX9_isOut_13 : decode cX9_isOut 13 = .ok (.iconst 2, 1) := by decide +kernel
theorem dX9_isOut_14 : decode cX9_isOut 14 = .ok (.iaload, 1) := by decide +kernel
theorem dX9_isOut_15 : decode cX9_isOut 15 = .ok (.if_icmp .ge 52, 3) := by decide +kernel
theorem dX9_isOut_18 : decode cX9_isOut 18 = .ok (.aload_n 0, 1) := by decide +kernel
theorem dX9_isOut_19 : decode cX9_isOut 19 = .ok (.getfield 50, 3) := by decide +kernel
theorem dX9_isOut_22 : decode cX9_isOut 22 = .ok (.iload_n 1, 1) := by decide +kernel
theorem dX9_isOut_23 : decode cX9_isOut 23 = .ok (.iaload, 1) := by decide +kernel
theorem dX9_isOut_24 : decode cX9_isOut 24 = .ok (.iload 4, 2) := by decide +kernel
theorem dX9_isOut_26 : decode cX9_isOut 26 = .ok (.ishr, 1) := by decide +kernel
theorem dX9_isOut_27 : decode cX9_isOut 27 = .ok (.iconst 1, 1) := by decide +kernel
theorem dX9_isOut_28 : decode cX9_isOut 28 = .ok (.iand, 1) := by decide +kernel
theorem dX9_isOut_29 : decode cX9_isOut 29 = .ok (.iconst 1, 1) := by decide +kernel
theorem dX9_isOut_30 : decode cX9_isOut 30 = .ok (.if_icmp .ne 9, 3) := by decide +kernel
theorem dX9_isOut_33 : decode cX9_isOut 33 = .ok (.iload_n 2, 1) := by decide +kernel
theorem dX9_isOut_34 : decode cX9_isOut 34 = .ok (.iconst 1, 1) := by decide +kernel
theorem dX9_isOut_35 : decode cX9_isOut 35 = .ok (.iadd, 1) := by decide +kernel
theorem dX9_isOut_36 : decode cX9_isOut 36 = .ok (.goto 4, 3) := by decide +kernel
theorem dX9_isOut_39 : decode cX9_isOut 39 = .ok (.iconst 0, 1) := by decide +kernel
theorem dX9_isOut_40 : decode cX9_isOut 40 = .ok (.istore_n 2, 1) := by decide +kernel
theorem dX9_isOut_41 : decode cX9_isOut 41 = .ok (.iload_n 3, 1) := by decide +kernel
theorem dX9_isOut_42 : decode cX9_isOut 42 = .ok (.ifCond .ne 13, 3) := by decide +kernel
theorem dX9_isOut_45 : decode cX9_isOut 45 = .ok (.iload_n 2, 1) := by decide +kernel
theorem dX9_isOut_46 : decode cX9_isOut 46 = .ok (.aload_n 0, 1) := by decide +kernel
theorem dX9_isOut_47 : decode cX9_isOut 47 = .ok (.getfield 22, 3) := by decide +kernel
theorem dX9_isOut_50 : decode cX9_isOut 50 = .ok (.iload_n 1, 1) := by decide +kernel
theorem dX9_isOut_51 : decode cX9_isOut 51 = .ok (.iaload, 1) := by decide +kernel
theorem dX9_isOut_52 : decode cX9_isOut 52 = .ok (.if_icmp .le 7, 3) := by decide +kernel
theorem dX9_isOut_55 : decode cX9_isOut 55 = .ok (.iconst 1, 1) := by decide +kernel
theorem dX9_isOut_56 : decode cX9_isOut 56 = .ok (.goto 4, 3) := by decide +kernel
theorem dX9_isOut_59 : decode cX9_isOut 59 = .ok (.iconst 0, 1) := by decide +kernel
theorem dX9_isOut_60 : decode cX9_isOut 60 = .ok (.istore_n 3, 1) := by decide +kernel
theorem dX9_isOut_61 : decode cX9_isOut 61 = .ok (.iinc 4 1, 3) := by decide +kernel
theorem dX9_isOut_64 : decode cX9_isOut 64 = .ok (.goto (-57), 3) := by decide +kernel
theorem dX9_isOut_67 : decode cX9_isOut 67 = .ok (.iload_n 3, 1) := by decide +kernel
theorem dX9_isOut_68 : decode cX9_isOut 68 = .ok (.ireturn, 1) := by decide +kernel
theorem dX9_part_0 : decode cX9_part 0 = .ok (.aload_n 0, 1) := by decide +kernel
theorem dX9_part_1 : decode cX9_part 1 = .ok (.iconst 0, 1) := by decide +kernel
theorem dX9_part_2 : decode cX9_part 2 = .ok (.putfield 56, 3) := by decide +kernel
theorem dX9_part_5 : decode cX9_part 5 = .ok (.aload_n 0, 1) := by decide +kernel
theorem dX9_part_6 : decode cX9_part 6 = .ok (.iload_n 1, 1) := by decide +kernel
theorem dX9_part_7 : decode cX9_part 7 = .ok (.invokevirtual 142, 3) := by decide +kernel
theorem dX9_part_10 : decode cX9_part 10 = .ok (.ifCond .eq 12, 3) := by decide +kernel
theorem dX9_part_13 : decode cX9_part 13 = .ok (.iload_n 2, 1) := by decide +kernel
theorem dX9_part_14 : decode cX9_part 14 = .ok (.iconst 0, 1) := by decide +kernel
theorem dX9_part_15 : decode cX9_part 15 = .ok (.iconst 2, 1) := by decide +kernel
theorem dX9_part_16 : decode cX9_part 16 = .ok (.invokestatic 60, 3) := by decide +kernel
theorem dX9_part_19 : decode cX9_part 19 = .ok (.ifCond .ne 5, 3) := by decide +kernel
theorem dX9_part_22 : decode cX9_part 22 = .ok (.iconst (-1), 1) := by decide +kernel
theorem dX9_part_23 : decode cX9_part 23 = .ok (.ireturn, 1) := by decide +kernel
theorem dX9_part_24 : decode cX9_part 24 = .ok (.iload_n 2, 1) := by decide +kernel
theorem dX9_part_25 : decode cX9_part 25 = .ok (.ifCond .ne 12, 3) := by decide +kernel
theorem dX9_part_28 : decode cX9_part 28 = .ok (.aload_n 0, 1) := by decide +kernel
theorem dX9_part_29 : decode cX9_part 29 = .ok (.getfield 16, 3) := by decide +kernel
theorem dX9_part_32 : decode cX9_part 32 = .ok (.iload_n 1, 1) := by decide +kernel
theorem dX9_part_33 : decode cX9_part 33 = .ok (.iaload, 1) := by decide +kernel
theorem dX9_part_34 : decode cX9_part 34 = .ok (.goto 43, 3) := by decide +kernel
theorem dX9_part_37 : decode cX9_part 37 = .ok (.iload_n 2, 1) := by decide +kernel
theorem dX9_part_38 : decode cX9_part 38 = .ok (.iconst 1, 1) := by decide +kernel
theorem dX9_part_39 : decode cX9_part 39 = .ok (.if_icmp .ne 12, 3) := by decide +kernel
theorem dX9_part_42 : decode cX9_part 42 = .ok (.aload_n 0, 1) := by decide +kernel
theorem dX9_part_43 : decode cX9_part 43 = .ok (.getfield 19, 3) := by decide +kernel
theorem dX9_part_46 : decode cX9_part 46 = .ok (.iload_n 1, 1) := by decide +kernel
theorem dX9_part_47 : decode cX9_part 47 = .ok (.iaload, 1) := by decide +kernel
theorem dX9_part_48 : decode cX9_part 48 = .ok (.goto 29, 3) := by decide +kernel
theorem dX9_part_51 : decode cX9_part 51 = .ok (.aload_n 0, 1) := by decide +kernel
theorem dX9_part_52 : decode cX9_part 52 = .ok (.getfield 28, 3) := by decide +kernel
theorem dX9_part_55 : decode cX9_part 55 = .ok (.iconst 0, 1) := by decide +kernel
theorem dX9_part_56 : decode cX9_part 56 = .ok (.iload_n 1, 1) := by decide +kernel
theorem dX9_part_57 : decode cX9_part 57 = .ok (.iadd, 1) := by decide +kernel
theorem dX9_part_58 : decode cX9_part 58 = .ok (.iaload, 1) := by decide +kernel
theorem dX9_part_59 : decode cX9_part 59 = .ok (.ifCond .ne 8, 3) := by decide +kernel
theorem dX9_part_62 : decode cX9_part 62 = .ok (.bipush (-9), 2) := by decide +kernel
theorem dX9_part_64 : decode cX9_part 64 = .ok (.goto 13, 3) := by decide +kernel
theorem dX9_part_67 : decode cX9_part 67 = .ok (.aload_n 0, 1) := by decide +kernel
theorem dX9_part_68 : decode cX9_part 68 = .ok (.getfield 28, 3) := by decide +kernel
theorem dX9_part_71 : decode cX9_part 71 = .ok (.iconst 0, 1) := by decide +kernel
theorem dX9_part_72 : decode cX9_part 72 = .ok (.iload_n 1, 1) := by decide +kernel
theorem dX9_part_73 : decode cX9_part 73 = .ok (.iadd, 1) := by decide +kernel
theorem dX9_part_74 : decode cX9_part 74 = .ok (.iaload, 1) := by decide +kernel
theorem dX9_part_75 : decode cX9_part 75 = .ok (.iconst 1, 1) := by decide +kernel
theorem dX9_part_76 : decode cX9_part 76 = .ok (.isub, 1) := by decide +kernel
theorem dX9_part_77 : decode cX9_part 77 = .ok (.ireturn, 1) := by decide +kernel
theorem dX9_partsOf_0 : decode cX9_partsOf 0 = .ok (.iconst 0, 1) := by decide +kernel
theorem dX9_partsOf_1 : decode cX9_partsOf 1 = .ok (.istore_n 2, 1) := by decide +kernel
theorem dX9_partsOf_2 : decode cX9_partsOf 2 = .ok (.iconst 0, 1) := by decide +kernel
theorem dX9_partsOf_3 : decode cX9_partsOf 3 = .ok (.istore_n 3, 1) := by decide +kernel
theorem dX9_partsOf_4 : decode cX9_partsOf 4 = .ok (.iload_n 3, 1) := by decide +kernel
theorem dX9_partsOf_5 : decode cX9_partsOf 5 = .ok (.aload_n 0, 1) := by decide +kernel
theorem dX9_partsOf_6 : decode cX9_partsOf 6 = .ok (.getfield 13, 3) := by decide +kernel
theorem dX9_partsOf_9 : decode cX9_partsOf 9 = .ok (.iconst 0, 1) := by decide +kernel
theorem dX9_partsOf_10 : decode cX9_partsOf 10 = .ok (.iaload, 1) := by decide +kernel
theorem dX9_partsOf_11 : decode cX9_partsOf 11 = .ok (.if_icmp .ge 33, 3) := by decide +kernel
theorem dX9_partsOf_14 : decode cX9_partsOf 14 = .ok (.iload_n 2, 1) := by decide +kernel
theorem dX9_partsOf_15 : decode cX9_partsOf 15 = .ok (.aload_n 0, 1) := by decide +kernel
theorem dX9_partsOf_16 : decode cX9_partsOf 16 = .ok (.getfield 28, 3) := by decide +kernel
theorem dX9_partsOf_19 : decode cX9_partsOf 19 = .ok (.iconst 0, 1) := by decide +kernel
theorem dX9_partsOf_20 : decode cX9_partsOf 20 = .ok (.iload_n 3, 1) := by decide +kernel
theorem dX9_partsOf_21 : decode cX9_partsOf 21 = .ok (.iadd, 1) := by decide +kernel
theorem dX9_partsOf_22 : decode cX9_partsOf 22 = .ok (.iaload, 1) := by decide +kernel
theorem dX9_partsOf_23 : decode cX9_partsOf 23 = .ok (.iload_n 1, 1) := by decide +kernel
theorem dX9_partsOf_24 : decode cX9_partsOf 24 = .ok (.iconst 1, 1) := by decide +kernel
theorem dX9_partsOf_25 : decode cX9_partsOf 25 = .ok (.iadd, 1) := by decide +kernel
theorem dX9_partsOf_26 : decode cX9_partsOf 26 = .ok (.if_icmp .ne 9, 3) := by decide +kernel
theorem dX9_partsOf_29 : decode cX9_partsOf 29 = .ok (.iconst 1, 1) := by decide +kernel
theorem dX9_partsOf_30 : decode cX9_partsOf 30 = .ok (.iload_n 3, 1) := by decide +kernel
theorem dX9_partsOf_31 : decode cX9_partsOf 31 = .ok (.ishl, 1) := by decide +kernel
theorem dX9_partsOf_32 : decode cX9_partsOf 32 = .ok (.goto 4, 3) := by decide +kernel
theorem dX9_partsOf_35 : decode cX9_partsOf 35 = .ok (.iconst 0, 1) := by decide +kernel
theorem dX9_partsOf_36 : decode cX9_partsOf 36 = .ok (.ior, 1) := by decide +kernel
theorem dX9_partsOf_37 : decode cX9_partsOf 37 = .ok (.istore_n 2, 1) := by decide +kernel
theorem dX9_partsOf_38 : decode cX9_partsOf 38 = .ok (.iinc 3 1, 3) := by decide +kernel
theorem dX9_partsOf_41 : decode cX9_partsOf 41 = .ok (.goto (-37), 3) := by decide +kernel
theorem dX9_partsOf_44 : decode cX9_partsOf 44 = .ok (.iload_n 2, 1) := by decide +kernel
theorem dX9_partsOf_45 : decode cX9_partsOf 45 = .ok (.ireturn, 1) := by decide +kernel
theorem dX9_player_0 : decode cX9_player 0 = .ok (.aload_n 0, 1) := by decide +kernel
theorem dX9_player_1 : decode cX9_player 1 = .ok (.iconst 0, 1) := by decide +kernel
theorem dX9_player_2 : decode cX9_player 2 = .ok (.putfield 56, 3) := by decide +kernel
theorem dX9_player_5 : decode cX9_player 5 = .ok (.aload_n 0, 1) := by decide +kernel
theorem dX9_player_6 : decode cX9_player 6 = .ok (.iload_n 1, 1) := by decide +kernel
theorem dX9_player_7 : decode cX9_player 7 = .ok (.invokevirtual 145, 3) := by decide +kernel
theorem dX9_player_10 : decode cX9_player 10 = .ok (.ifCond .eq 13, 3) := by decide +kernel
theorem dX9_player_13 : decode cX9_player 13 = .ok (.iload_n 2, 1) := by decide +kernel
theorem dX9_player_14 : decode cX9_player 14 = .ok (.iconst 0, 1) := by decide +kernel
theorem dX9_player_15 : decode cX9_player 15 = .ok (.bipush 6, 2) := by decide +kernel
theorem dX9_player_17 : decode cX9_player 17 = .ok (.invokestatic 60, 3) := by decide +kernel
theorem dX9_player_20 : decode cX9_player 20 = .ok (.ifCond .ne 5, 3) := by decide +kernel
theorem dX9_player_23 : decode cX9_player 23 = .ok (.iconst (-1), 1) := by decide +kernel
theorem dX9_player_24 : decode cX9_player 24 = .ok (.ireturn, 1) := by decide +kernel
theorem dX9_player_25 : decode cX9_player 25 = .ok (.aload_n 0, 1) := by decide +kernel
theorem dX9_player_26 : decode cX9_player 26 = .ok (.aload_n 0, 1) := by decide +kernel
theorem dX9_player_27 : decode cX9_player 27 = .ok (.getfield 28, 3) := by decide +kernel
theorem dX9_player_30 : decode cX9_player 30 = .ok (.invokevirtual 134, 3) := by decide +kernel
theorem dX9_player_33 : decode cX9_player 33 = .ok (.iload_n 2, 1) := by decide +kernel
theorem dX9_player_34 : decode cX9_player 34 = .ok (.iconst 4, 1) := by decide +kernel
theorem dX9_player_35 : decode cX9_player 35 = .ok (.if_icmp .ge 53, 3) := by decide +kernel
theorem dX9_player_38 : decode cX9_player 38 = .ok (.iload_n 2, 1) := by decide +kernel
theorem dX9_player_39 : decode cX9_player 39 = .ok (.ifCond .ne 12, 3) := by decide +kernel
theorem dX9_player_42 : decode cX9_player 42 = .ok (.aload_n 0, 1) := by decide +kernel
theorem dX9_player_43 : decode cX9_player 43 = .ok (.getfield 22, 3) := by decide +kernel
theorem dX9_player_46 : decode cX9_player 46 = .ok (.iload_n 1, 1) := by decide +kernel
theorem dX9_player_47 : decode cX9_player 47 = .ok (.iaload, 1) := by decide +kernel
theorem dX9_player_48 : decode cX9_player 48 = .ok (.goto 39, 3) := by decide +kernel
theorem dX9_player_51 : decode cX9_player 51 = .ok (.iload_n 2, 1) := by decide +kernel
theorem dX9_player_52 : decode cX9_player 52 = .ok (.iconst 1, 1) := by decide +kernel
theorem dX9_player_53 : decode cX9_player 53 = .ok (.if_icmp .ne 12, 3) := by decide +kernel
theorem dX9_player_56 : decode cX9_player 56 = .ok (.aload_n 0, 1) := by decide +kernel
theorem dX9_player_57 : decode cX9_player 57 = .ok (.getfield 25, 3) := by decide +kernel
theorem dX9_player_60 : decode cX9_player 60 = .ok (.iload_n 1, 1) := by decide +kernel
theorem dX9_player_61 : decode cX9_player 61 = .ok (.iaload, 1) := by decide +kernel
theorem dX9_player_62 : decode cX9_player 62 = .ok (.goto 25, 3) := by decide +kernel
theorem dX9_player_65 : decode cX9_player 65 = .ok (.iload_n 2, 1) := by decide +kernel
theorem dX9_player_66 : decode cX9_player 66 = .ok (.iconst 2, 1) := by decide +kernel
theorem dX9_player_67 : decode cX9_player 67 = .ok (.if_icmp .ne 12, 3) := by decide +kernel
theorem dX9_player_70 : decode cX9_player 70 = .ok (.aload_n 0, 1) := by decide +kernel
theorem dX9_player_71 : decode cX9_player 71 = .ok (.getfield 50, 3) := by decide +kernel
theorem dX9_player_74 : decode cX9_player 74 = .ok (.iload_n 1, 1) := by decide +kernel
theorem dX9_player_75 : decode cX9_player 75 = .ok (.iaload, 1) := by decide +kernel
theorem dX9_player_76 : decode cX9_player 76 = .ok (.goto 11, 3) := by decide +kernel
theorem dX9_player_79 : decode cX9_player 79 = .ok (.aload_n 0, 1) := by decide +kernel
theorem dX9_player_80 : decode cX9_player 80 = .ok (.getfield 28, 3) := by decide +kernel
theorem dX9_player_83 : decode cX9_player 83 = .ok (.iconst 5, 1) := by decide +kernel
theorem dX9_player_84 : decode cX9_player 84 = .ok (.iload_n 1, 1) := by decide +kernel
theorem dX9_player_85 : decode cX9_player 85 = .ok (.iadd, 1) := by decide +kernel
theorem dX9_player_86 : decode cX9_player 86 = .ok (.iaload, 1) := by decide +kernel
theorem dX9_player_87 : decode cX9_player 87 = .ok (.ireturn, 1) := by decide +kernel
theorem dX9_player_88 : decode cX9_player 88 = .ok (.iload_n 2, 1) := by decide +kernel
theorem dX9_player_89 : decode cX9_player 89 = .ok (.iconst 4, 1) := by decide +kernel
theorem dX9_player_90 : decode cX9_player 90 = .ok (.if_icmp .ne 29, 3) := by decide +kernel
theorem dX9_player_93 : decode cX9_player 93 = .ok (.aload_n 0, 1) := by decide +kernel
theorem dX9_player_94 : decode cX9_player 94 = .ok (.aload_n 0, 1) := by decide +kernel
theorem dX9_player_95 : decode cX9_player 95 = .ok (.getfield 28, 3) := by decide +kernel
theorem dX9_player_98 : decode cX9_player 98 = .ok (.iload_n 1, 1) := by decide +kernel
theorem dX9_player_99 : decode cX9_player 99 = .ok (.invokevirtual 138, 3) := by decide +kernel
theorem dX9_player_102 : decode cX9_player 102 = .ok (.aload_n 0, 1) := by decide +kernel
theorem dX9_player_103 : decode cX9_player 103 = .ok (.getfield 25, 3) := by decide +kernel
theorem dX9_player_106 : decode cX9_player 106 = .ok (.iload_n 1, 1) := by decide +kernel
theorem dX9_player_107 : decode cX9_player 107 = .ok (.iaload, 1) := by decide +kernel
theorem dX9_player_108 : decode cX9_player 108 = .ok (.if_icmp .lt 7, 3) := by decide +kernel
theorem dX9_player_111 : decode cX9_player 111 = .ok (.iconst 1, 1) := by decide +kernel
theorem dX9_player_112 : decode cX9_player 112 = .ok (.goto 33, 3) := by decide +kernel
theorem dX9_player_115 : decode cX9_player 115 = .ok (.iconst 0, 1) := by decide +kernel
theorem dX9_player_116 : decode cX9_player 116 = .ok (.goto 29, 3) := by decide +kernel
theorem dX9_player_119 : decode cX9_player 119 = .ok (.iload_n 2, 1) := by decide +kernel
theorem dX9_player_120 : decode cX9_player 120 = .ok (.iconst 5, 1) := by decide +kernel
theorem dX9_player_121 : decode cX9_player 121 = .ok (.if_icmp .ne 19, 3) := by decide +kernel
theorem dX9_player_124 : decode cX9_player 124 = .ok (.aload_n 0, 1) := by decide +kernel
theorem dX9_player_125 : decode cX9_player 125 = .ok (.iload_n 1, 1) := by decide +kernel
theorem dX9_player_126 : decode cX9_player 126 = .ok (.invokevirtual 148, 3) := by decide +kernel
theorem dX9_player_129 : decode cX9_player 129 = .ok (.ifCond .eq 7, 3) := by decide +kernel
theorem dX9_player_132 : decode cX9_player 132 = .ok (.iconst 1, 1) := by decide +kernel
theorem dX9_player_133 : decode cX9_player 133 = .ok (.goto 12, 3) := by decide +kernel
theorem dX9_player_136 : decode cX9_player 136 = .ok (.iconst 0, 1) := by decide +kernel
theorem dX9_player_137 : decode cX9_player 137 = .ok (.goto 8, 3) := by decide +kernel
theorem dX9_player_140 : decode cX9_player 140 = .ok (.aload_n 0, 1) := by decide +kernel
theorem dX9_player_141 : decode cX9_player 141 = .ok (.iload_n 1, 1) := by decide +kernel
theorem dX9_player_142 : decode cX9_player 142 = .ok (.invokevirtual 151, 3) := by decide +kernel
theorem dX9_player_145 : decode cX9_player 145 = .ok (.ireturn, 1) := by decide +kernel
theorem dX9_coins_0 : decode cX9_coins 0 = .ok (.aload_n 0, 1) := by decide +kernel
theorem dX9_coins_1 : decode cX9_coins 1 = .ok (.iconst 0, 1) := by decide +kernel
theorem dX9_coins_2 : decode cX9_coins 2 = .ok (.putfield 56, 3) := by decide +kernel
theorem dX9_coins_5 : decode cX9_coins 5 = .ok (.aload_n 0, 1) := by decide +kernel
theorem dX9_coins_6 : decode cX9_coins 6 = .ok (.iload_n 1, 1) := by decide +kernel
theorem dX9_coins_7 : decode cX9_coins 7 = .ok (.invokevirtual 145, 3) := by decide +kernel
theorem dX9_coins_10 : decode cX9_coins 10 = .ok (.ifCond .eq 12, 3) := by decide +kernel
theorem dX9_coins_13 : decode cX9_coins 13 = .ok (.iload_n 2, 1) := by decide +kernel
theorem dX9_coins_14 : decode cX9_coins 14 = .ok (.iconst 0, 1) := by decide +kernel
theorem dX9_coins_15 : decode cX9_coins 15 = .ok (.iconst 1, 1) := by decide +kernel
theorem dX9_coins_16 : decode cX9_coins 16 = .ok (.invokestatic 60, 3) := by decide +kernel
theorem dX9_coins_19 : decode cX9_coins 19 = .ok (.ifCond .ne 6, 3) := by decide +kernel
theorem dX9_coins_22 : decode cX9_coins 22 = .ok (.ldc 154, 2) := by decide +kernel
theorem dX9_coins_24 : decode cX9_coins 24 = .ok (.ireturn, 1) := by decide +kernel
theorem dX9_coins_25 : decode cX9_coins 25 = .ok (.aload_n 0, 1) := by decide +kernel
theorem dX9_coins_26 : decode cX9_coins 26 = .ok (.aload_n 0, 1) := by decide +kernel
theorem dX9_coins_27 : decode cX9_coins 27 = .ok (.getfield 28, 3) := by decide +kernel
theorem dX9_coins_30 : decode cX9_coins 30 = .ok (.invokevirtual 134, 3) := by decide +kernel
theorem dX9_coins_33 : decode cX9_coins 33 = .ok (.iload_n 2, 1) := by decide +kernel
theorem dX9_coins_34 : decode cX9_coins 34 = .ok (.ifCond .ne 15, 3) := by decide +kernel
theorem dX9_coins_37 : decode cX9_coins 37 = .ok (.aload_n 0, 1) := by decide +kernel
theorem dX9_coins_38 : decode cX9_coins 38 = .ok (.aload_n 0, 1) := by decide +kernel
theorem dX9_coins_39 : decode cX9_coins 39 = .ok (.getfield 28, 3) := by decide +kernel
theorem dX9_coins_42 : decode cX9_coins 42 = .ok (.iload_n 1, 1) := by decide +kernel
theorem dX9_coins_43 : decode cX9_coins 43 = .ok (.invokevirtual 138, 3) := by decide +kernel
theorem dX9_coins_46 : decode cX9_coins 46 = .ok (.goto 12, 3) := by decide +kernel
theorem dX9_coins_49 : decode cX9_coins 49 = .ok (.aload_n 0, 1) := by decide +kernel
theorem dX9_coins_50 : decode cX9_coins 50 = .ok (.getfield 28, 3) := by decide +kernel
theorem dX9_coins_53 : decode cX9_coins 53 = .ok (.bipush 10, 2) := by decide +kernel
theorem dX9_coins_55 : decode cX9_coins 55 = .ok (.iload_n 1, 1) := by decide +kernel
theorem dX9_coins_56 : decode cX9_coins 56 = .ok (.iadd, 1) := by decide +kernel
theorem dX9_coins_57 : decode cX9_coins 57 = .ok (.iaload, 1) := by decide +kernel
theorem dX9_coins_58 : decode cX9_coins 58 = .ok (.ireturn, 1) := by decide +kernel
theorem dX9_now_0 : decode cX9_now 0 = .ok (.aload_n 0, 1) := by decide +kernel
theorem dX9_now_1 : decode cX9_now 1 = .ok (.iconst 0, 1) := by decide +kernel
theorem dX9_now_2 : decode cX9_now 2 = .ok (.putfield 56, 3) := by decide +kernel
theorem dX9_now_5 : decode cX9_now 5 = .ok (.iload_n 1, 1) := by decide +kernel
theorem dX9_now_6 : decode cX9_now 6 = .ok (.iconst 0, 1) := by decide +kernel
theorem dX9_now_7 : decode cX9_now 7 = .ok (.iconst 3, 1) := by decide +kernel
theorem dX9_now_8 : decode cX9_now 8 = .ok (.invokestatic 60, 3) := by decide +kernel
theorem dX9_now_11 : decode cX9_now 11 = .ok (.ifCond .ne 5, 3) := by decide +kernel
theorem dX9_now_14 : decode cX9_now 14 = .ok (.iconst (-1), 1) := by decide +kernel
theorem dX9_now_15 : decode cX9_now 15 = .ok (.ireturn, 1) := by decide +kernel
theorem dX9_now_16 : decode cX9_now 16 = .ok (.aload_n 0, 1) := by decide +kernel
theorem dX9_now_17 : decode cX9_now 17 = .ok (.aload_n 0, 1) := by decide +kernel
theorem dX9_now_18 : decode cX9_now 18 = .ok (.getfield 28, 3) := by decide +kernel
theorem dX9_now_21 : decode cX9_now 21 = .ok (.invokevirtual 134, 3) := by decide +kernel
theorem dX9_now_24 : decode cX9_now 24 = .ok (.iconst 0, 1) := by decide +kernel
theorem dX9_now_25 : decode cX9_now 25 = .ok (.istore_n 2, 1) := by decide +kernel
theorem dX9_now_26 : decode cX9_now 26 = .ok (.iconst 0, 1) := by decide +kernel
theorem dX9_now_27 : decode cX9_now 27 = .ok (.istore_n 3, 1) := by decide +kernel
theorem dX9_now_28 : decode cX9_now 28 = .ok (.iload_n 3, 1) := by decide +kernel
theorem dX9_now_29 : decode cX9_now 29 = .ok (.aload_n 0, 1) := by decide +kernel
theorem dX9_now_30 : decode cX9_now 30 = .ok (.getfield 13, 3) := by decide +kernel
theorem dX9_now_33 : decode cX9_now 33 = .ok (.iconst 0, 1) := by decide +kernel
theorem dX9_now_34 : decode cX9_now 34 = .ok (.iaload, 1) := by decide +kernel
theorem dX9_now_35 : decode cX9_now 35 = .ok (.if_icmp .ge 30, 3) := by decide +kernel
theorem dX9_now_38 : decode cX9_now 38 = .ok (.iload_n 2, 1) := by decide +kernel
theorem dX9_now_39 : decode cX9_now 39 = .ok (.aload_n 0, 1) := by decide +kernel
theorem dX9_now_40 : decode cX9_now 40 = .ok (.getfield 28, 3) := by decide +kernel
theorem dX9_now_43 : decode cX9_now 43 = .ok (.iconst 0, 1) := by decide +kernel
theorem dX9_now_44 : decode cX9_now 44 = .ok (.iload_n 3, 1) := by decide +kernel
theorem dX9_now_45 : decode cX9_now 45 = .ok (.iadd, 1) := by decide +kernel
theorem dX9_now_46 : decode cX9_now 46 = .ok (.iaload, 1) := by decide +kernel
theorem dX9_now_47 : decode cX9_now 47 = .ok (.ifCond .ne 9, 3) := by decide +kernel
theorem dX9_now_50 : decode cX9_now 50 = .ok (.iconst 1, 1) := by decide +kernel
theorem dX9_now_51 : decode cX9_now 51 = .ok (.iload_n 3, 1) := by decide +kernel
theorem dX9_now_52 : decode cX9_now 52 = .ok (.ishl, 1) := by decide +kernel
theorem dX9_now_53 : decode cX9_now 53 = .ok (.goto 4, 3) := by decide +kernel
theorem dX9_now_56 : decode cX9_now 56 = .ok (.iconst 0, 1) := by decide +kernel
theorem dX9_now_57 : decode cX9_now 57 = .ok (.ior, 1) := by decide +kernel
theorem dX9_now_58 : decode cX9_now 58 = .ok (.istore_n 2, 1) := by decide +kernel
theorem dX9_now_59 : decode cX9_now 59 = .ok (.iinc 3 1, 3) := by decide +kernel
theorem dX9_now_62 : decode cX9_now 62 = .ok (.goto (-34), 3) := by decide +kernel
theorem dX9_now_65 : decode cX9_now 65 = .ok (.iconst 0, 1) := by decide +kernel
theorem dX9_now_66 : decode cX9_now 66 = .ok (.istore_n 3, 1) := by decide +kernel
theorem dX9_now_67 : decode cX9_now 67 = .ok (.iconst 0, 1) := by decide +kernel
theorem dX9_now_68 : decode cX9_now 68 = .ok (.istore 4, 2) := by decide +kernel
theorem dX9_now_70 : decode cX9_now 70 = .ok (.iload 4, 2) := by decide +kernel
theorem dX9_now_72 : decode cX9_now 72 = .ok (.aload_n 0, 1) := by decide +kernel
theorem dX9_now_73 : decode cX9_now 73 = .ok (.getfield 13, 3) := by decide +kernel
theorem dX9_now_76 : decode cX9_now 76 = .ok (.iconst 2, 1) := by decide +kernel
theorem dX9_now_77 : decode cX9_now 77 = .ok (.iaload, 1) := by decide +kernel
theorem dX9_now_78 : decode cX9_now 78 = .ok (.if_icmp .ge 18, 3) := by decide +kernel
theorem dX9_now_81 : decode cX9_now 81 = .ok (.iload_n 3, 1) := by decide +kernel
theorem dX9_now_82 : decode cX9_now 82 = .ok (.aload_n 0, 1) := by decide +kernel
theorem dX9_now_83 : decode cX9_now 83 = .ok (.iload 4, 2) := by decide +kernel
theorem dX9_now_85 : decode cX9_now 85 = .ok (.invokevirtual 131, 3) := by decide +kernel
theorem dX9_now_88 : decode cX9_now 88 = .ok (.iadd, 1) := by decide +kernel
theorem dX9_now_89 : decode cX9_now 89 = .ok (.istore_n 3, 1) := by decide +kernel
theorem dX9_now_90 : decode cX9_now 90 = .ok (.iinc 4 1, 3) := by decide +kernel
theorem dX9_now_93 : decode cX9_now 93 = .ok (.goto (-23), 3) := by decide +kernel
theorem dX9_now_96 : decode cX9_now 96 = .ok (.iload_n 1, 1) := by decide +kernel
theorem dX9_now_97 : decode cX9_now 97 = .ok (.ifCond .ne 13, 3) := by decide +kernel
theorem dX9_now_100 : decode cX9_now 100 = .ok (.aload_n 0, 1) := by decide +kernel
theorem dX9_now_101 : decode cX9_now 101 = .ok (.getfield 28, 3) := by decide +kernel
theorem dX9_now_104 : decode cX9_now 104 = .ok (.bipush 15, 2) := by decide +kernel
theorem dX9_now_106 : decode cX9_now 106 = .ok (.iaload, 1) := by decide +kernel
theorem dX9_now_107 : decode cX9_now 107 = .ok (.goto 25, 3) := by decide +kernel
theorem dX9_now_110 : decode cX9_now 110 = .ok (.iload_n 1, 1) := by decide +kernel
theorem dX9_now_111 : decode cX9_now 111 = .ok (.iconst 1, 1) := by decide +kernel
theorem dX9_now_112 : decode cX9_now 112 = .ok (.if_icmp .ne 7, 3) := by decide +kernel
theorem dX9_now_115 : decode cX9_now 115 = .ok (.iload_n 2, 1) := by decide +kernel
theorem dX9_now_116 : decode cX9_now 116 = .ok (.goto 16, 3) := by decide +kernel
theorem dX9_now_119 : decode cX9_now 119 = .ok (.iload_n 1, 1) := by decide +kernel
theorem dX9_now_120 : decode cX9_now 120 = .ok (.iconst 2, 1) := by decide +kernel
theorem dX9_now_121 : decode cX9_now 121 = .ok (.if_icmp .ne 7, 3) := by decide +kernel
theorem dX9_now_124 : decode cX9_now 124 = .ok (.iload_n 3, 1) := by decide +kernel
theorem dX9_now_125 : decode cX9_now 125 = .ok (.goto 7, 3) := by decide +kernel
theorem dX9_now_128 : decode cX9_now 128 = .ok (.aload_n 0, 1) := by decide +kernel
theorem dX9_now_129 : decode cX9_now 129 = .ok (.getfield 121, 3) := by decide +kernel
theorem dX9_now_132 : decode cX9_now 132 = .ok (.ireturn, 1) := by decide +kernel
theorem dX9_keepsAct_0 : decode cX9_keepsAct 0 = .ok (.aload_n 0, 1) := by decide +kernel
theorem dX9_keepsAct_1 : decode cX9_keepsAct 1 = .ok (.getfield 121, 3) := by decide +kernel
theorem dX9_keepsAct_4 : decode cX9_keepsAct 4 = .ok (.bipush 10, 2) := by decide +kernel
theorem dX9_keepsAct_6 : decode cX9_keepsAct 6 = .ok (.if_icmp .ne 39, 3) := by decide +kernel
theorem dX9_keepsAct_9 : decode cX9_keepsAct 9 = .ok (.iconst 0, 1) := by decide +kernel
theorem dX9_keepsAct_10 : decode cX9_keepsAct 10 = .ok (.istore_n 1, 1) := by decide +kernel
theorem dX9_keepsAct_11 : decode cX9_keepsAct 11 = .ok (.iload_n 1, 1) := by decide +kernel
theorem dX9_keepsAct_12 : decode cX9_keepsAct 12 = .ok (.sipush 144, 3) := by decide +kernel
theorem dX9_keepsAct_15 : decode cX9_keepsAct 15 = .ok (.if_icmp .ge 24, 3) := by decide +kernel
theorem dX9_keepsAct_18 : decode cX9_keepsAct 18 = .ok (.aload_n 0, 1) := by decide +kernel
theorem dX9_keepsAct_19 : decode cX9_keepsAct 19 = .ok (.getfield 41, 3) := by decide +kernel
theorem dX9_keepsAct_22 : decode cX9_keepsAct 22 = .ok (.iload_n 1, 1) := by decide +kernel
theorem dX9_keepsAct_23 : decode cX9_keepsAct 23 = .ok (.aload_n 0, 1) := by decide +kernel
theorem dX9_keepsAct_24 : decode cX9_keepsAct 24 = .ok (.getfield 41, 3) := by decide +kernel
theorem dX9_keepsAct_27 : decode cX9_keepsAct 27 = .ok (.iload_n 1, 1) := by decide +kernel
theorem dX9_keepsAct_28 : decode cX9_keepsAct 28 = .ok (.bipush 16, 2) := by decide +kernel
theorem dX9_keepsAct_30 : decode cX9_keepsAct 30 = .ok (.iadd, 1) := by decide +kernel
theorem dX9_keepsAct_31 : decode cX9_keepsAct 31 = .ok (.iaload, 1) := by decide +kernel
theorem dX9_keepsAct_32 : decode cX9_keepsAct 32 = .ok (.iastore, 1) := by decide +kernel
theorem dX9_keepsAct_33 : decode cX9_keepsAct 33 = .ok (.iinc 1 1, 3) := by decide +kernel
theorem dX9_keepsAct_36 : decode cX9_keepsAct 36 = .ok (.goto (-25), 3) := by decide +kernel
theorem dX9_keepsAct_39 : decode cX9_keepsAct 39 = .ok (.aload_n 0, 1) := by decide +kernel
theorem dX9_keepsAct_40 : decode cX9_keepsAct 40 = .ok (.bipush 9, 2) := by decide +kernel
theorem dX9_keepsAct_42 : decode cX9_keepsAct 42 = .ok (.putfield 121, 3) := by decide +kernel
theorem dX9_keepsAct_45 : decode cX9_keepsAct 45 = .ok (.iconst 0, 1) := by decide +kernel
theorem dX9_keepsAct_46 : decode cX9_keepsAct 46 = .ok (.istore_n 1, 1) := by decide +kernel
theorem dX9_keepsAct_47 : decode cX9_keepsAct 47 = .ok (.iload_n 1, 1) := by decide +kernel
theorem dX9_keepsAct_48 : decode cX9_keepsAct 48 = .ok (.bipush 16, 2) := by decide +kernel
theorem dX9_keepsAct_50 : decode cX9_keepsAct 50 = .ok (.if_icmp .ge 29, 3) := by decide +kernel
theorem dX9_keepsAct_53 : decode cX9_keepsAct 53 = .ok (.aload_n 0, 1) := by decide +kernel
theorem dX9_keepsAct_54 : decode cX9_keepsAct 54 = .ok (.getfield 41, 3) := by decide +kernel
theorem dX9_keepsAct_57 : decode cX9_keepsAct 57 = .ok (.bipush 16, 2) := by decide +kernel
theorem dX9_keepsAct_59 : decode cX9_keepsAct 59 = .ok (.aload_n 0, 1) := by decide +kernel
theorem dX9_keepsAct_60 : decode cX9_keepsAct 60 = .ok (.getfield 121, 3) := by decide +kernel
theorem dX9_keepsAct_63 : decode cX9_keepsAct 63 = .ok (.imul, 1) := by decide +kernel
theorem dX9_keepsAct_64 : decode cX9_keepsAct 64 = .ok (.iload_n 1, 1) := by decide +kernel
theorem dX9_keepsAct_65 : decode cX9_keepsAct 65 = .ok (.iadd, 1) := by decide +kernel
theorem dX9_keepsAct_66 : decode cX9_keepsAct 66 = .ok (.aload_n 0, 1) := by decide +kernel
theorem dX9_keepsAct_67 : decode cX9_keepsAct 67 = .ok (.getfield 28, 3) := by decide +kernel
theorem dX9_keepsAct_70 : decode cX9_keepsAct 70 = .ok (.iload_n 1, 1) := by decide +kernel
theorem dX9_keepsAct_71 : decode cX9_keepsAct 71 = .ok (.iaload, 1) := by decide +kernel
theorem dX9_keepsAct_72 : decode cX9_keepsAct 72 = .ok (.iastore, 1) := by decide +kernel
theorem dX9_keepsAct_73 : decode cX9_keepsAct 73 = .ok (.iinc 1 1, 3) := by decide +kernel
theorem dX9_keepsAct_76 : decode cX9_keepsAct 76 = .ok (.goto (-29), 3) := by decide +kernel
theorem dX9_keepsAct_79 : decode cX9_keepsAct 79 = .ok (.aload_n 0, 1) := by decide +kernel
theorem dX9_keepsAct_80 : decode cX9_keepsAct 80 = .ok (.dup, 1) := by decide +kernel
theorem dX9_keepsAct_81 : decode cX9_keepsAct 81 = .ok (.getfield 121, 3) := by decide +kernel
theorem dX9_keepsAct_84 : decode cX9_keepsAct 84 = .ok (.iconst 1, 1) := by decide +kernel
theorem dX9_keepsAct_85 : decode cX9_keepsAct 85 = .ok (.iadd, 1) := by decide +kernel
theorem dX9_keepsAct_86 : decode cX9_keepsAct 86 = .ok (.putfield 121, 3) := by decide +kernel
theorem dX9_keepsAct_89 : decode cX9_keepsAct 89 = .ok (.return_, 1) := by decide +kernel
theorem dX9_gives_0 : decode cX9_gives 0 = .ok (.aload_n 0, 1) := by decide +kernel
theorem dX9_gives_1 : decode cX9_gives 1 = .ok (.iconst 0, 1) := by decide +kernel
theorem dX9_gives_2 : decode cX9_gives 2 = .ok (.putfield 56, 3) := by decide +kernel
theorem dX9_gives_5 : decode cX9_gives 5 = .ok (.aload_n 0, 1) := by decide +kernel
theorem dX9_gives_6 : decode cX9_gives 6 = .ok (.iload_n 1, 1) := by decide +kernel
theorem dX9_gives_7 : decode cX9_gives 7 = .ok (.invokevirtual 142, 3) := by decide +kernel
theorem dX9_gives_10 : decode cX9_gives 10 = .ok (.ifCond .eq 16, 3) := by decide +kernel
theorem dX9_gives_13 : decode cX9_gives 13 = .ok (.iload_n 2, 1) := by decide +kernel
theorem dX9_gives_14 : decode cX9_gives 14 = .ok (.iconst (-1), 1) := by decide +kernel
theorem dX9_gives_15 : decode cX9_gives 15 = .ok (.if_icmp .eq 13, 3) := by decide +kernel
theorem dX9_gives_18 : decode cX9_gives 18 = .ok (.aload_n 0, 1) := by decide +kernel
theorem dX9_gives_19 : decode cX9_gives 19 = .ok (.iload_n 2, 1) := by decide +kernel
theorem dX9_gives_20 : decode cX9_gives 20 = .ok (.invokevirtual 145, 3) := by decide +kernel
theorem dX9_gives_23 : decode cX9_gives 23 = .ok (.ifCond .ne 5, 3) := by decide +kernel
theorem dX9_gives_26 : decode cX9_gives 26 = .ok (.iconst (-1), 1) := by decide +kernel
theorem dX9_gives_27 : decode cX9_gives 27 = .ok (.ireturn, 1) := by decide +kernel
theorem dX9_gives_28 : decode cX9_gives 28 = .ok (.aload_n 0, 1) := by decide +kernel
theorem dX9_gives_29 : decode cX9_gives 29 = .ok (.invokevirtual 155, 3) := by decide +kernel
theorem dX9_gives_32 : decode cX9_gives 32 = .ok (.aload_n 0, 1) := by decide +kernel
theorem dX9_gives_33 : decode cX9_gives 33 = .ok (.getfield 28, 3) := by decide +kernel
theorem dX9_gives_36 : decode cX9_gives 36 = .ok (.iconst 0, 1) := by decide +kernel
theorem dX9_gives_37 : decode cX9_gives 37 = .ok (.iload_n 1, 1) := by decide +kernel
theorem dX9_gives_38 : decode cX9_gives 38 = .ok (.iadd, 1) := by decide +kernel
theorem dX9_gives_39 : decode cX9_gives 39 = .ok (.iaload, 1) := by decide +kernel
theorem dX9_gives_40 : decode cX9_gives 40 = .ok (.istore_n 3, 1) := by decide +kernel
theorem dX9_gives_41 : decode cX9_gives 41 = .ok (.aload_n 0, 1) := by decide +kernel
theorem dX9_gives_42 : decode cX9_gives 42 = .ok (.getfield 28, 3) := by decide +kernel
theorem dX9_gives_45 : decode cX9_gives 45 = .ok (.iconst 0, 1) := by decide +kernel
theorem dX9_gives_46 : decode cX9_gives 46 = .ok (.iload_n 1, 1) := by decide +kernel
theorem dX9_gives_47 : decode cX9_gives 47 = .ok (.iadd, 1) := by decide +kernel
theorem dX9_gives_48 : decode cX9_gives 48 = .ok (.iload_n 2, 1) := by decide +kernel
theorem dX9_gives_49 : decode cX9_gives 49 = .ok (.iconst 1, 1) := by decide +kernel
theorem dX9_gives_50 : decode cX9_gives 50 = .ok (.iadd, 1) := by decide +kernel
theorem dX9_gives_51 : decode cX9_gives 51 = .ok (.iastore, 1) := by decide +kernel
theorem dX9_gives_52 : decode cX9_gives 52 = .ok (.iload_n 3, 1) := by decide +kernel
theorem dX9_gives_53 : decode cX9_gives 53 = .ok (.ifCond .ne 8, 3) := by decide +kernel
theorem dX9_gives_56 : decode cX9_gives 56 = .ok (.bipush (-9), 2) := by decide +kernel
theorem dX9_gives_58 : decode cX9_gives 58 = .ok (.goto 6, 3) := by decide +kernel
theorem dX9_gives_61 : decode cX9_gives 61 = .ok (.iload_n 3, 1) := by decide +kernel
theorem dX9_gives_62 : decode cX9_gives 62 = .ok (.iconst 1, 1) := by decide +kernel
theorem dX9_gives_63 : decode cX9_gives 63 = .ok (.isub, 1) := by decide +kernel
theorem dX9_gives_64 : decode cX9_gives 64 = .ok (.ireturn, 1) := by decide +kernel
theorem dX9_sleeps_0 : decode cX9_sleeps 0 = .ok (.aload_n 0, 1) := by decide +kernel
theorem dX9_sleeps_1 : decode cX9_sleeps 1 = .ok (.iconst 0, 1) := by decide +kernel
theorem dX9_sleeps_2 : decode cX9_sleeps 2 = .ok (.putfield 56, 3) := by decide +kernel
theorem dX9_sleeps_5 : decode cX9_sleeps 5 = .ok (.aload_n 0, 1) := by decide +kernel
theorem dX9_sleeps_6 : decode cX9_sleeps 6 = .ok (.iload_n 1, 1) := by decide +kernel
theorem dX9_sleeps_7 : decode cX9_sleeps 7 = .ok (.invokevirtual 145, 3) := by decide +kernel
theorem dX9_sleeps_10 : decode cX9_sleeps 10 = .ok (.ifCond .eq 28, 3) := by decide +kernel
theorem dX9_sleeps_13 : decode cX9_sleeps 13 = .ok (.iload_n 2, 1) := by decide +kernel
theorem dX9_sleeps_14 : decode cX9_sleeps 14 = .ok (.iconst 0, 1) := by decide +kernel
theorem dX9_sleeps_15 : decode cX9_sleeps 15 = .ok (.aload_n 0, 1) := by decide +kernel
theorem dX9_sleeps_16 : decode cX9_sleeps 16 = .ok (.getfield 13, 3) := by decide +kernel
theorem dX9_sleeps_19 : decode cX9_sleeps 19 = .ok (.iconst 2, 1) := by decide +kernel
theorem dX9_sleeps_20 : decode cX9_sleeps 20 = .ok (.iaload, 1) := by decide +kernel
theorem dX9_sleeps_21 : decode cX9_sleeps 21 = .ok (.iconst 1, 1) := by decide +kernel
theorem dX9_sleeps_22 : decode cX9_sleeps 22 = .ok (.isub, 1) := by decide +kernel
theorem dX9_sleeps_23 : decode cX9_sleeps 23 = .ok (.invokestatic 60, 3) := by decide +kernel
theorem dX9_sleeps_26 : decode cX9_sleeps 26 = .ok (.ifCond .eq 12, 3) := by decide +kernel
theorem dX9_sleeps_29 : decode cX9_sleeps 29 = .ok (.iload_n 3, 1) := by decide +kernel
theorem dX9_sleeps_30 : decode cX9_sleeps 30 = .ok (.iconst 0, 1) := by decide +kernel
theorem dX9_sleeps_31 : decode cX9_sleeps 31 = .ok (.iconst 1, 1) := by decide +kernel
theorem dX9_sleeps_32 : decode cX9_sleeps 32 = .ok (.invokestatic 60, 3) := by decide +kernel
theorem dX9_sleeps_35 : decode cX9_sleeps 35 = .ok (.ifCond .ne 5, 3) := by decide +kernel
theorem dX9_sleeps_38 : decode cX9_sleeps 38 = .ok (.iconst (-1), 1) := by decide +kernel
theorem dX9_sleeps_39 : decode cX9_sleeps 39 = .ok (.ireturn, 1) := by decide +kernel
theorem dX9_sleeps_40 : decode cX9_sleeps 40 = .ok (.aload_n 0, 1) := by decide +kernel
theorem dX9_sleeps_41 : decode cX9_sleeps 41 = .ok (.invokevirtual 155, 3) := by decide +kernel
theorem dX9_sleeps_44 : decode cX9_sleeps 44 = .ok (.aload_n 0, 1) := by decide +kernel
theorem dX9_sleeps_45 : decode cX9_sleeps 45 = .ok (.getfield 28, 3) := by decide +kernel
theorem dX9_sleeps_48 : decode cX9_sleeps 48 = .ok (.iconst 5, 1) := by decide +kernel
theorem dX9_sleeps_49 : decode cX9_sleeps 49 = .ok (.iload_n 1, 1) := by decide +kernel
theorem dX9_sleeps_50 : decode cX9_sleeps 50 = .ok (.iadd, 1) := by decide +kernel
theorem dX9_sleeps_51 : decode cX9_sleeps 51 = .ok (.iaload, 1) := by decide +kernel
theorem dX9_sleeps_52 : decode cX9_sleeps 52 = .ok (.iload_n 2, 1) := by decide +kernel
theorem dX9_sleeps_53 : decode cX9_sleeps 53 = .ok (.ishr, 1) := by decide +kernel
theorem dX9_sleeps_54 : decode cX9_sleeps 54 = .ok (.iconst 1, 1) := by decide +kernel
theorem dX9_sleeps_55 : decode cX9_sleeps 55 = .ok (.iand, 1) := by decide +kernel
theorem dX9_sleeps_56 : decode cX9_sleeps 56 = .ok (.istore 4, 2) := by decide +kernel
theorem dX9_sleeps_58 : decode cX9_sleeps 58 = .ok (.aload_n 0, 1) := by decide +kernel
theorem dX9_sleeps_59 : decode cX9_sleeps 59 = .ok (.getfield 28, 3) := by decide +kernel
theorem dX9_sleeps_62 : decode cX9_sleeps 62 = .ok (.iconst 5, 1) := by decide +kernel
theorem dX9_sleeps_63 : decode cX9_sleeps 63 = .ok (.iload_n 1, 1) := by decide +kernel
theorem dX9_sleeps_64 : decode cX9_sleeps 64 = .ok (.iadd, 1) := by decide +kernel
theorem dX9_sleeps_65 : decode cX9_sleeps 65 = .ok (.aload_n 0, 1) := by decide +kernel
theorem dX9_sleeps_66 : decode cX9_sleeps 66 = .ok (.getfield 28, 3) := by decide +kernel
theorem dX9_sleeps_69 : decode cX9_sleeps 69 = .ok (.iconst 5, 1) := by decide +kernel
theorem dX9_sleeps_70 : decode cX9_sleeps 70 = .ok (.iload_n 1, 1) := by decide +kernel
theorem dX9_sleeps_71 : decode cX9_sleeps 71 = .ok (.iadd, 1) := by decide +kernel
theorem dX9_sleeps_72 : decode cX9_sleeps 72 = .ok (.iaload, 1) := by decide +kernel
theorem dX9_sleeps_73 : decode cX9_sleeps 73 = .ok (.iconst 1, 1) := by decide +kernel
theorem dX9_sleeps_74 : decode cX9_sleeps 74 = .ok (.iload_n 2, 1) := by decide +kernel
theorem dX9_sleeps_75 : decode cX9_sleeps 75 = .ok (.ishl, 1) := by decide +kernel
theorem dX9_sleeps_76 : decode cX9_sleeps 76 = .ok (.iconst (-1), 1) := by decide +kernel
theorem dX9_sleeps_77 : decode cX9_sleeps 77 = .ok (.ixor, 1) := by decide +kernel
theorem dX9_sleeps_78 : decode cX9_sleeps 78 = .ok (.iand, 1) := by decide +kernel
theorem dX9_sleeps_79 : decode cX9_sleeps 79 = .ok (.iload_n 3, 1) := by decide +kernel
theorem dX9_sleeps_80 : decode cX9_sleeps 80 = .ok (.iload_n 2, 1) := by decide +kernel
theorem dX9_sleeps_81 : decode cX9_sleeps 81 = .ok (.ishl, 1) := by decide +kernel
theorem dX9_sleeps_82 : decode cX9_sleeps 82 = .ok (.ior, 1) := by decide +kernel
theorem dX9_sleeps_83 : decode cX9_sleeps 83 = .ok (.iastore, 1) := by decide +kernel
theorem dX9_sleeps_84 : decode cX9_sleeps 84 = .ok (.iload 4, 2) := by decide +kernel
theorem dX9_sleeps_86 : decode cX9_sleeps 86 = .ok (.ireturn, 1) := by decide +kernel
theorem dX9_goes_0 : decode cX9_goes 0 = .ok (.aload_n 0, 1) := by decide +kernel
theorem dX9_goes_1 : decode cX9_goes 1 = .ok (.aload_n 1, 1) := by decide +kernel
theorem dX9_goes_2 : decode cX9_goes 2 = .ok (.invokevirtual 134, 3) := by decide +kernel
theorem dX9_goes_5 : decode cX9_goes 5 = .ok (.iconst 0, 1) := by decide +kernel
theorem dX9_goes_6 : decode cX9_goes 6 = .ok (.istore_n 2, 1) := by decide +kernel
theorem dX9_goes_7 : decode cX9_goes 7 = .ok (.iconst 0, 1) := by decide +kernel
theorem dX9_goes_8 : decode cX9_goes 8 = .ok (.istore_n 3, 1) := by decide +kernel
theorem dX9_goes_9 : decode cX9_goes 9 = .ok (.iload_n 3, 1) := by decide +kernel
theorem dX9_goes_10 : decode cX9_goes 10 = .ok (.aload_n 0, 1) := by decide +kernel
theorem dX9_goes_11 : decode cX9_goes 11 = .ok (.getfield 13, 3) := by decide +kernel
theorem dX9_goes_14 : decode cX9_goes 14 = .ok (.iconst 1, 1) := by decide +kernel
theorem dX9_goes_15 : decode cX9_goes 15 = .ok (.iaload, 1) := by decide +kernel
theorem dX9_goes_16 : decode cX9_goes 16 = .ok (.if_icmp .ge 84, 3) := by decide +kernel
theorem dX9_goes_19 : decode cX9_goes 19 = .ok (.aload_n 0, 1) := by decide +kernel
theorem dX9_goes_20 : decode cX9_goes 20 = .ok (.aload_n 1, 1) := by decide +kernel
theorem dX9_goes_21 : decode cX9_goes 21 = .ok (.iload_n 3, 1) := by decide +kernel
theorem dX9_goes_22 : decode cX9_goes 22 = .ok (.invokevirtual 138, 3) := by decide +kernel
theorem dX9_goes_25 : decode cX9_goes 25 = .ok (.aload_n 0, 1) := by decide +kernel
theorem dX9_goes_26 : decode cX9_goes 26 = .ok (.getfield 25, 3) := by decide +kernel
theorem dX9_goes_29 : decode cX9_goes 29 = .ok (.iload_n 3, 1) := by decide +kernel
theorem dX9_goes_30 : decode cX9_goes 30 = .ok (.iaload, 1) := by decide +kernel
theorem dX9_goes_31 : decode cX9_goes 31 = .ok (.isub, 1) := by decide +kernel
theorem dX9_goes_32 : decode cX9_goes 32 = .ok (.istore 4, 2) := by decide +kernel
theorem dX9_goes_34 : decode cX9_goes 34 = .ok (.aload_n 1, 1) := by decide +kernel
theorem dX9_goes_35 : decode cX9_goes 35 = .ok (.bipush 10, 2) := by decide +kernel
theorem dX9_goes_37 : decode cX9_goes 37 = .ok (.iload_n 3, 1) := by decide +kernel
theorem dX9_goes_38 : decode cX9_goes 38 = .ok (.iadd, 1) := by decide +kernel
theorem dX9_goes_39 : decode cX9_goes 39 = .ok (.iaload, 1) := by decide +kernel
theorem dX9_goes_40 : decode cX9_goes 40 = .ok (.iload 4, 2) := by decide +kernel
theorem dX9_goes_42 : decode cX9_goes 42 = .ok (.iadd, 1) := by decide +kernel
theorem dX9_goes_43 : decode cX9_goes 43 = .ok (.istore 5, 2) := by decide +kernel
theorem dX9_goes_45 : decode cX9_goes 45 = .ok (.iload_n 2, 1) := by decide +kernel
theorem dX9_goes_46 : decode cX9_goes 46 = .ok (.iload 4, 2) := by decide +kernel
theorem dX9_goes_48 : decode cX9_goes 48 = .ok (.ifCond .lt 7, 3) := by decide +kernel
theorem dX9_goes_51 : decode cX9_goes 51 = .ok (.iconst 1, 1) := by decide +kernel
theorem dX9_goes_52 : decode cX9_goes 52 = .ok (.goto 4, 3) := by decide +kernel
theorem dX9_goes_55 : decode cX9_goes 55 = .ok (.iconst 0, 1) := by decide +kernel
theorem dX9_goes_56 : decode cX9_goes 56 = .ok (.iadd, 1) := by decide +kernel
theorem dX9_goes_57 : decode cX9_goes 57 = .ok (.istore_n 2, 1) := by decide +kernel
theorem dX9_goes_58 : decode cX9_goes 58 = .ok (.aload_n 1, 1) := by decide +kernel
theorem dX9_goes_59 : decode cX9_goes 59 = .ok (.bipush 10, 2) := by decide +kernel
theorem dX9_goes_61 : decode cX9_goes 61 = .ok (.iload_n 3, 1) := by decide +kernel
theorem dX9_goes_62 : decode cX9_goes 62 = .ok (.iadd, 1) := by decide +kernel
theorem dX9_goes_63 : decode cX9_goes 63 = .ok (.iload 5, 2) := by decide +kernel
theorem dX9_goes_65 : decode cX9_goes 65 = .ok (.sipush (-9999), 3) := by decide +kernel
theorem dX9_goes_68 : decode cX9_goes 68 = .ok (.if_icmp .ge 9, 3) := by decide +kernel
theorem dX9_goes_71 : decode cX9_goes 71 = .ok (.sipush (-9999), 3) := by decide +kernel
theorem dX9_goes_74 : decode cX9_goes 74 = .ok (.goto 19, 3) := by decide +kernel
theorem dX9_goes_77 : decode cX9_goes 77 = .ok (.iload 5, 2) := by decide +kernel
theorem dX9_goes_79 : decode cX9_goes 79 = .ok (.sipush 9999, 3) := by decide +kernel
theorem dX9_goes_82 : decode cX9_goes 82 = .ok (.if_icmp .le 9, 3) := by decide +kernel
theorem dX9_goes_85 : decode cX9_goes 85 = .ok (.sipush 9999, 3) := by decide +kernel
theorem dX9_goes_88 : decode cX9_goes 88 = .ok (.goto 5, 3) := by decide +kernel
theorem dX9_goes_91 : decode cX9_goes 91 = .ok (.iload 5, 2) := by decide +kernel
theorem dX9_goes_93 : decode cX9_goes 93 = .ok (.iastore, 1) := by decide +kernel
theorem dX9_goes_94 : decode cX9_goes 94 = .ok (.iinc 3 1, 3) := by decide +kernel
theorem dX9_goes_97 : decode cX9_goes 97 = .ok (.goto (-88), 3) := by decide +kernel
theorem dX9_goes_100 : decode cX9_goes 100 = .ok (.iconst 0, 1) := by decide +kernel
theorem dX9_goes_101 : decode cX9_goes 101 = .ok (.istore_n 3, 1) := by decide +kernel
theorem dX9_goes_102 : decode cX9_goes 102 = .ok (.iload_n 3, 1) := by decide +kernel
theorem dX9_goes_103 : decode cX9_goes 103 = .ok (.aload_n 0, 1) := by decide +kernel
theorem dX9_goes_104 : decode cX9_goes 104 = .ok (.getfield 13, 3) := by decide +kernel
theorem dX9_goes_107 : decode cX9_goes 107 = .ok (.iconst 1, 1) := by decide +kernel
theorem dX9_goes_108 : decode cX9_goes 108 = .ok (.iaload, 1) := by decide +kernel
theorem dX9_goes_109 : decode cX9_goes 109 = .ok (.if_icmp .ge 15, 3) := by decide +kernel
theorem dX9_goes_112 : decode cX9_goes 112 = .ok (.aload_n 1, 1) := by decide +kernel
theorem dX9_goes_113 : decode cX9_goes 113 = .ok (.iconst 5, 1) := by decide +kernel
theorem dX9_goes_114 : decode cX9_goes 114 = .ok (.iload_n 3, 1) := by decide +kernel
theorem dX9_goes_115 : decode cX9_goes 115 = .ok (.iadd, 1) := by decide +kernel
theorem dX9_goes_116 : decode cX9_goes 116 = .ok (.iconst 0, 1) := by decide +kernel
theorem dX9_goes_117 : decode cX9_goes 117 = .ok (.iastore, 1) := by decide +kernel
theorem dX9_goes_118 : decode cX9_goes 118 = .ok (.iinc 3 1, 3) := by decide +kernel
theorem dX9_goes_121 : decode cX9_goes 121 = .ok (.goto (-19), 3) := by decide +kernel
theorem dX9_goes_124 : decode cX9_goes 124 = .ok (.aload_n 1, 1) := by decide +kernel
theorem dX9_goes_125 : decode cX9_goes 125 = .ok (.bipush 15, 2) := by decide +kernel
theorem dX9_goes_127 : decode cX9_goes 127 = .ok (.dup2, 1) := by decide +kernel
theorem dX9_goes_128 : decode cX9_goes 128 = .ok (.iaload, 1) := by decide +kernel
theorem dX9_goes_129 : decode cX9_goes 129 = .ok (.iconst 1, 1) := by decide +kernel
theorem dX9_goes_130 : decode cX9_goes 130 = .ok (.iadd, 1) := by decide +kernel
theorem dX9_goes_131 : decode cX9_goes 131 = .ok (.iastore, 1) := by decide +kernel
theorem dX9_goes_132 : decode cX9_goes 132 = .ok (.iload_n 2, 1) := by decide +kernel
theorem dX9_goes_133 : decode cX9_goes 133 = .ok (.ireturn, 1) := by decide +kernel
theorem dX9_evening_0 : decode cX9_evening 0 = .ok (.aload_n 0, 1) := by decide +kernel
theorem dX9_evening_1 : decode cX9_evening 1 = .ok (.iconst 0, 1) := by decide +kernel
theorem dX9_evening_2 : decode cX9_evening 2 = .ok (.putfield 56, 3) := by decide +kernel
theorem dX9_evening_5 : decode cX9_evening 5 = .ok (.aload_n 0, 1) := by decide +kernel
theorem dX9_evening_6 : decode cX9_evening 6 = .ok (.getfield 28, 3) := by decide +kernel
theorem dX9_evening_9 : decode cX9_evening 9 = .ok (.bipush 15, 2) := by decide +kernel
theorem dX9_evening_11 : decode cX9_evening 11 = .ok (.iaload, 1) := by decide +kernel
theorem dX9_evening_12 : decode cX9_evening 12 = .ok (.sipush 999, 3) := by decide +kernel
theorem dX9_evening_15 : decode cX9_evening 15 = .ok (.if_icmp .ne 6, 3) := by decide +kernel
theorem dX9_evening_18 : decode cX9_evening 18 = .ok (.bipush (-2), 2) := by decide +kernel
theorem dX9_evening_20 : decode cX9_evening 20 = .ok (.ireturn, 1) := by decide +kernel
theorem dX9_evening_21 : decode cX9_evening 21 = .ok (.aload_n 0, 1) := by decide +kernel
theorem dX9_evening_22 : decode cX9_evening 22 = .ok (.invokevirtual 155, 3) := by decide +kernel
theorem dX9_evening_25 : decode cX9_evening 25 = .ok (.aload_n 0, 1) := by decide +kernel
theorem dX9_evening_26 : decode cX9_evening 26 = .ok (.aload_n 0, 1) := by decide +kernel
theorem dX9_evening_27 : decode cX9_evening 27 = .ok (.getfield 28, 3) := by decide +kernel
theorem dX9_evening_30 : decode cX9_evening 30 = .ok (.invokevirtual 158, 3) := by decide +kernel
theorem dX9_evening_33 : decode cX9_evening 33 = .ok (.ireturn, 1) := by decide +kernel
theorem dX9_undo_0 : decode cX9_undo 0 = .ok (.aload_n 0, 1) := by decide +kernel
theorem dX9_undo_1 : decode cX9_undo 1 = .ok (.iconst 0, 1) := by decide +kernel
theorem dX9_undo_2 : decode cX9_undo 2 = .ok (.putfield 56, 3) := by decide +kernel
theorem dX9_undo_5 : decode cX9_undo 5 = .ok (.aload_n 0, 1) := by decide +kernel
theorem dX9_undo_6 : decode cX9_undo 6 = .ok (.getfield 121, 3) := by decide +kernel
theorem dX9_undo_9 : decode cX9_undo 9 = .ok (.ifCond .ne 6, 3) := by decide +kernel
theorem dX9_undo_12 : decode cX9_undo 12 = .ok (.bipush (-2), 2) := by decide +kernel
theorem dX9_undo_14 : decode cX9_undo 14 = .ok (.ireturn, 1) := by decide +kernel
theorem dX9_undo_15 : decode cX9_undo 15 = .ok (.aload_n 0, 1) := by decide +kernel
theorem dX9_undo_16 : decode cX9_undo 16 = .ok (.dup, 1) := by decide +kernel
theorem dX9_undo_17 : decode cX9_undo 17 = .ok (.getfield 121, 3) := by decide +kernel
theorem dX9_undo_20 : decode cX9_undo 20 = .ok (.iconst 1, 1) := by decide +kernel
theorem dX9_undo_21 : decode cX9_undo 21 = .ok (.isub, 1) := by decide +kernel
theorem dX9_undo_22 : decode cX9_undo 22 = .ok (.putfield 121, 3) := by decide +kernel
theorem dX9_undo_25 : decode cX9_undo 25 = .ok (.iconst 0, 1) := by decide +kernel
theorem dX9_undo_26 : decode cX9_undo 26 = .ok (.istore_n 1, 1) := by decide +kernel
theorem dX9_undo_27 : decode cX9_undo 27 = .ok (.iload_n 1, 1) := by decide +kernel
theorem dX9_undo_28 : decode cX9_undo 28 = .ok (.bipush 16, 2) := by decide +kernel
theorem dX9_undo_30 : decode cX9_undo 30 = .ok (.if_icmp .ge 29, 3) := by decide +kernel
theorem dX9_undo_33 : decode cX9_undo 33 = .ok (.aload_n 0, 1) := by decide +kernel
theorem dX9_undo_34 : decode cX9_undo 34 = .ok (.getfield 28, 3) := by decide +kernel
theorem dX9_undo_37 : decode cX9_undo 37 = .ok (.iload_n 1, 1) := by decide +kernel
theorem dX9_undo_38 : decode cX9_undo 38 = .ok (.aload_n 0, 1) := by decide +kernel
theorem dX9_undo_39 : decode cX9_undo 39 = .ok (.getfield 41, 3) := by decide +kernel
theorem dX9_undo_42 : decode cX9_undo 42 = .ok (.bipush 16, 2) := by decide +kernel
theorem dX9_undo_44 : decode cX9_undo 44 = .ok (.aload_n 0, 1) := by decide +kernel
theorem dX9_undo_45 : decode cX9_undo 45 = .ok (.getfield 121, 3) := by decide +kernel
theorem dX9_undo_48 : decode cX9_undo 48 = .ok (.imul, 1) := by decide +kernel
theorem dX9_undo_49 : decode cX9_undo 49 = .ok (.iload_n 1, 1) := by decide +kernel
theorem dX9_undo_50 : decode cX9_undo 50 = .ok (.iadd, 1) := by decide +kernel
theorem dX9_undo_51 : decode cX9_undo 51 = .ok (.iaload, 1) := by decide +kernel
theorem dX9_undo_52 : decode cX9_undo 52 = .ok (.iastore, 1) := by decide +kernel
theorem dX9_undo_53 : decode cX9_undo 53 = .ok (.iinc 1 1, 3) := by decide +kernel
theorem dX9_undo_56 : decode cX9_undo 56 = .ok (.goto (-29), 3) := by decide +kernel
theorem dX9_undo_59 : decode cX9_undo 59 = .ok (.aload_n 0, 1) := by decide +kernel
theorem dX9_undo_60 : decode cX9_undo 60 = .ok (.getfield 121, 3) := by decide +kernel
theorem dX9_undo_63 : decode cX9_undo 63 = .ok (.ireturn, 1) := by decide +kernel
theorem dX9_asNow_0 : decode cX9_asNow 0 = .ok (.iconst 0, 1) := by decide +kernel
theorem dX9_asNow_1 : decode cX9_asNow 1 = .ok (.istore_n 1, 1) := by decide +kernel
theorem dX9_asNow_2 : decode cX9_asNow 2 = .ok (.iload_n 1, 1) := by decide +kernel
theorem dX9_asNow_3 : decode cX9_asNow 3 = .ok (.bipush 16, 2) := by decide +kernel
theorem dX9_asNow_5 : decode cX9_asNow 5 = .ok (.if_icmp .ge 21, 3) := by decide +kernel
theorem dX9_asNow_8 : decode cX9_asNow 8 = .ok (.aload_n 0, 1) := by decide +kernel
theorem dX9_asNow_9 : decode cX9_asNow 9 = .ok (.getfield 31, 3) := by decide +kernel
theorem dX9_asNow_12 : decode cX9_asNow 12 = .ok (.iload_n 1, 1) := by decide +kernel
theorem dX9_asNow_13 : decode cX9_asNow 13 = .ok (.aload_n 0, 1) := by decide +kernel
theorem dX9_asNow_14 : decode cX9_asNow 14 = .ok (.getfield 28, 3) := by decide +kernel
theorem dX9_asNow_17 : decode cX9_asNow 17 = .ok (.iload_n 1, 1) := by decide +kernel
theorem dX9_asNow_18 : decode cX9_asNow 18 = .ok (.iaload, 1) := by decide +kernel
theorem dX9_asNow_19 : decode cX9_asNow 19 = .ok (.iastore, 1) := by decide +kernel
theorem dX9_asNow_20 : decode cX9_asNow 20 = .ok (.iinc 1 1, 3) := by decide +kernel
theorem dX9_asNow_23 : decode cX9_asNow 23 = .ok (.goto (-21), 3) := by decide +kernel
theorem dX9_asNow_26 : decode cX9_asNow 26 = .ok (.return_, 1) := by decide +kernel
theorem dX9_leastBy_0 : decode cX9_leastBy 0 = .ok (.iload_n 1, 1) := by decide +kernel
theorem dX9_leastBy_1 : decode cX9_leastBy 1 = .ok (.istore_n 2, 1) := by decide +kernel
theorem dX9_leastBy_2 : decode cX9_leastBy 2 = .ok (.iconst 0, 1) := by decide +kernel
theorem dX9_leastBy_3 : decode cX9_leastBy 3 = .ok (.istore_n 3, 1) := by decide +kernel
theorem dX9_leastBy_4 : decode cX9_leastBy 4 = .ok (.iload_n 3, 1) := by decide +kernel
theorem dX9_leastBy_5 : decode cX9_leastBy 5 = .ok (.bipush 16, 2) := by decide +kernel
theorem dX9_leastBy_7 : decode cX9_leastBy 7 = .ok (.if_icmp .ge 16, 3) := by decide +kernel
theorem dX9_leastBy_10 : decode cX9_leastBy 10 = .ok (.aload_n 0, 1) := by decide +kernel
theorem dX9_leastBy_11 : decode cX9_leastBy 11 = .ok (.getfield 31, 3) := by decide +kernel
theorem dX9_leastBy_14 : decode cX9_leastBy 14 = .ok (.iload_n 3, 1) := by decide +kernel
theorem dX9_leastBy_15 : decode cX9_leastBy 15 = .ok (.iconst 0, 1) := by decide +kernel
theorem dX9_leastBy_16 : decode cX9_leastBy 16 = .ok (.iastore, 1) := by decide +kernel
theorem dX9_leastBy_17 : decode cX9_leastBy 17 = .ok (.iinc 3 1, 3) := by decide +kernel
theorem dX9_leastBy_20 : decode cX9_leastBy 20 = .ok (.goto (-16), 3) := by decide +kernel
theorem dX9_leastBy_23 : decode cX9_leastBy 23 = .ok (.aload_n 0, 1) := by decide +kernel
theorem dX9_leastBy_24 : decode cX9_leastBy 24 = .ok (.getfield 13, 3) := by decide +kernel
theorem dX9_leastBy_27 : decode cX9_leastBy 27 = .ok (.iconst 0, 1) := by decide +kernel
theorem dX9_leastBy_28 : decode cX9_leastBy 28 = .ok (.iaload, 1) := by decide +kernel
theorem dX9_leastBy_29 : decode cX9_leastBy 29 = .ok (.iconst 1, 1) := by decide +kernel
theorem dX9_leastBy_30 : decode cX9_leastBy 30 = .ok (.isub, 1) := by decide +kernel
theorem dX9_leastBy_31 : decode cX9_leastBy 31 = .ok (.istore_n 3, 1) := by decide +kernel
theorem dX9_leastBy_32 : decode cX9_leastBy 32 = .ok (.iload_n 3, 1) := by decide +kernel
theorem dX9_leastBy_33 : decode cX9_leastBy 33 = .ok (.ifCond .lt 36, 3) := by decide +kernel
theorem dX9_leastBy_36 : decode cX9_leastBy 36 = .ok (.aload_n 0, 1) := by decide +kernel
theorem dX9_leastBy_37 : decode cX9_leastBy 37 = .ok (.getfield 31, 3) := by decide +kernel
theorem dX9_leastBy_40 : decode cX9_leastBy 40 = .ok (.iconst 0, 1) := by decide +kernel
theorem dX9_leastBy_41 : decode cX9_leastBy 41 = .ok (.iload_n 3, 1) := by decide +kernel
theorem dX9_leastBy_42 : decode cX9_leastBy 42 = .ok (.iadd, 1) := by decide +kernel
theorem dX9_leastBy_43 : decode cX9_leastBy 43 = .ok (.iconst 1, 1) := by decide +kernel
theorem dX9_leastBy_44 : decode cX9_leastBy 44 = .ok (.iload_n 2, 1) := by decide +kernel
theorem dX9_leastBy_45 : decode cX9_leastBy 45 = .ok (.aload_n 0, 1) := by decide +kernel
theorem dX9_leastBy_46 : decode cX9_leastBy 46 = .ok (.getfield 13, 3) := by decide +kernel
theorem dX9_leastBy_49 : decode cX9_leastBy 49 = .ok (.iconst 1, 1) := by decide +kernel
theorem dX9_leastBy_50 : decode cX9_leastBy 50 = .ok (.iaload, 1) := by decide +kernel
theorem dX9_leastBy_51 : decode cX9_leastBy 51 = .ok (.irem, 1) := by decide +kernel
theorem dX9_leastBy_52 : decode cX9_leastBy 52 = .ok (.iadd, 1) := by decide +kernel
theorem dX9_leastBy_53 : decode cX9_leastBy 53 = .ok (.iastore, 1) := by decide +kernel
theorem dX9_leastBy_54 : decode cX9_leastBy 54 = .ok (.iload_n 2, 1) := by decide +kernel
theorem dX9_leastBy_55 : decode cX9_leastBy 55 = .ok (.aload_n 0, 1) := by decide +kernel
theorem dX9_leastBy_56 : decode cX9_leastBy 56 = .ok (.getfield 13, 3) := by decide +kernel
theorem dX9_leastBy_59 : decode cX9_leastBy 59 = .ok (.iconst 1, 1) := by decide +kernel
theorem dX9_leastBy_60 : decode cX9_leastBy 60 = .ok (.iaload, 1) := by decide +kernel
theorem dX9_leastBy_61 : decode cX9_leastBy 61 = .ok (.idiv, 1) := by decide +kernel
theorem dX9_leastBy_62 : decode cX9_leastBy 62 = .ok (.istore_n 2, 1) := by decide +kernel
theorem dX9_leastBy_63 : decode cX9_leastBy 63 = .ok (.iinc 3 (-1), 3) := by decide +kernel
theorem dX9_leastBy_66 : decode cX9_leastBy 66 = .ok (.goto (-34), 3) := by decide +kernel
theorem dX9_leastBy_69 : decode cX9_leastBy 69 = .ok (.aload_n 0, 1) := by decide +kernel
theorem dX9_leastBy_70 : decode cX9_leastBy 70 = .ok (.aload_n 0, 1) := by decide +kernel
theorem dX9_leastBy_71 : decode cX9_leastBy 71 = .ok (.getfield 31, 3) := by decide +kernel
theorem dX9_leastBy_74 : decode cX9_leastBy 74 = .ok (.invokevirtual 134, 3) := by decide +kernel
theorem dX9_leastBy_77 : decode cX9_leastBy 77 = .ok (.ldc 162, 2) := by decide +kernel
theorem dX9_leastBy_79 : decode cX9_leastBy 79 = .ok (.istore_n 3, 1) := by decide +kernel
theorem dX9_leastBy_80 : decode cX9_leastBy 80 = .ok (.iconst 0, 1) := by decide +kernel
theorem dX9_leastBy_81 : decode cX9_leastBy 81 = .ok (.istore 4, 2) := by decide +kernel
theorem dX9_leastBy_83 : decode cX9_leastBy 83 = .ok (.iload 4, 2) := by decide +kernel
theorem dX9_leastBy_85 : decode cX9_leastBy 85 = .ok (.aload_n 0, 1) := by decide +kernel
theorem dX9_leastBy_86 : decode cX9_leastBy 86 = .ok (.getfield 13, 3) := by decide +kernel
theorem dX9_leastBy_89 : decode cX9_leastBy 89 = .ok (.iconst 1, 1) := by decide +kernel
theorem dX9_leastBy_90 : decode cX9_leastBy 90 = .ok (.iaload, 1) := by decide +kernel
theorem dX9_leastBy_91 : decode cX9_leastBy 91 = .ok (.if_icmp .ge 58, 3) := by decide +kernel
theorem dX9_leastBy_94 : decode cX9_leastBy 94 = .ok (.aload_n 0, 1) := by decide +kernel
theorem dX9_leastBy_95 : decode cX9_leastBy 95 = .ok (.aload_n 0, 1) := by decide +kernel
theorem dX9_leastBy_96 : decode cX9_leastBy 96 = .ok (.getfield 31, 3) := by decide +kernel
theorem dX9_leastBy_99 : decode cX9_leastBy 99 = .ok (.iload 4, 2) := by decide +kernel
theorem dX9_leastBy_101 : decode cX9_leastBy 101 = .ok (.invokevirtual 138, 3) := by decide +kernel
theorem dX9_leastBy_104 : decode cX9_leastBy 104 = .ok (.istore 5, 2) := by decide +kernel
theorem dX9_leastBy_106 : decode cX9_leastBy 106 = .ok (.iload 5, 2) := by decide +kernel
theorem dX9_leastBy_108 : decode cX9_leastBy 108 = .ok (.aload_n 0, 1) := by decide +kernel
theorem dX9_leastBy_109 : decode cX9_leastBy 109 = .ok (.getfield 25, 3) := by decide +kernel
theorem dX9_leastBy_112 : decode cX9_leastBy 112 = .ok (.iload 4, 2) := by decide +kernel
theorem dX9_leastBy_114 : decode cX9_leastBy 114 = .ok (.iaload, 1) := by decide +kernel
theorem dX9_leastBy_115 : decode cX9_leastBy 115 = .ok (.if_icmp .lt 12, 3) := by decide +kernel
theorem dX9_leastBy_118 : decode cX9_leastBy 118 = .ok (.aload_n 0, 1) := by decide +kernel
theorem dX9_leastBy_119 : decode cX9_leastBy 119 = .ok (.iload 4, 2) := by decide +kernel
theorem dX9_leastBy_121 : decode cX9_leastBy 121 = .ok (.invokevirtual 148, 3) := by decide +kernel
theorem dX9_leastBy_124 : decode cX9_leastBy 124 = .ok (.ifCond .eq 6, 3) := by decide +kernel
theorem dX9_leastBy_127 : decode cX9_leastBy 127 = .ok (.bipush (-9), 2) := by decide +kernel
theorem dX9_leastBy_129 : decode cX9_leastBy 129 = .ok (.ireturn, 1) := by decide +kernel
theorem dX9_leastBy_130 : decode cX9_leastBy 130 = .ok (.iload 5, 2) := by decide +kernel
theorem dX9_leastBy_132 : decode cX9_leastBy 132 = .ok (.iload_n 3, 1) := by decide +kernel
theorem dX9_leastBy_133 : decode cX9_leastBy 133 = .ok (.if_icmp .ge 8, 3) := by decide +kernel
theorem dX9_leastBy_136 : decode cX9_leastBy 136 = .ok (.iload 5, 2) := by decide +kernel
theorem dX9_leastBy_138 : decode cX9_leastBy 138 = .ok (.goto 4, 3) := by decide +kernel
theorem dX9_leastBy_141 : decode cX9_leastBy 141 = .ok (.iload_n 3, 1) := by decide +kernel
theorem dX9_leastBy_142 : decode cX9_leastBy 142 = .ok (.istore_n 3, 1) := by decide +kernel
theorem dX9_leastBy_143 : decode cX9_leastBy 143 = .ok (.iinc 4 1, 3) := by decide +kernel
theorem dX9_leastBy_146 : decode cX9_leastBy 146 = .ok (.goto (-63), 3) := by decide +kernel
theorem dX9_leastBy_149 : decode cX9_leastBy 149 = .ok (.iload_n 3, 1) := by decide +kernel
theorem dX9_leastBy_150 : decode cX9_leastBy 150 = .ok (.ireturn, 1) := by decide +kernel
theorem dX9_share_0 : decode cX9_share 0 = .ok (.aload_n 0, 1) := by decide +kernel
theorem dX9_share_1 : decode cX9_share 1 = .ok (.iconst 0, 1) := by decide +kernel
theorem dX9_share_2 : decode cX9_share 2 = .ok (.putfield 56, 3) := by decide +kernel
theorem dX9_share_5 : decode cX9_share 5 = .ok (.iload_n 1, 1) := by decide +kernel
theorem dX9_share_6 : decode cX9_share 6 = .ok (.iconst (-1), 1) := by decide +kernel
theorem dX9_share_7 : decode cX9_share 7 = .ok (.if_icmp .eq 14, 3) := by decide +kernel
theorem dX9_share_10 : decode cX9_share 10 = .ok (.aload_n 0, 1) := by decide +kernel
theorem dX9_share_11 : decode cX9_share 11 = .ok (.iload_n 1, 1) := by decide +kernel
theorem dX9_share_12 : decode cX9_share 12 = .ok (.invokevirtual 142, 3) := by decide +kernel
theorem dX9_share_15 : decode cX9_share 15 = .ok (.ifCond .ne 6, 3) := by decide +kernel
theorem dX9_share_18 : decode cX9_share 18 = .ok (.ldc 154, 2) := by decide +kernel
theorem dX9_share_20 : decode cX9_share 20 = .ok (.ireturn, 1) := by decide +kernel
theorem dX9_share_21 : decode cX9_share 21 = .ok (.aload_n 0, 1) := by decide +kernel
theorem dX9_share_22 : decode cX9_share 22 = .ok (.getfield 13, 3) := by decide +kernel
theorem dX9_share_25 : decode cX9_share 25 = .ok (.iconst 1, 1) := by decide +kernel
theorem dX9_share_26 : decode cX9_share 26 = .ok (.iaload, 1) := by decide +kernel
theorem dX9_share_27 : decode cX9_share 27 = .ok (.ifCond .ne 6, 3) := by decide +kernel
theorem dX9_share_30 : decode cX9_share 30 = .ok (.bipush (-9), 2) := by decide +kernel
theorem dX9_share_32 : decode cX9_share 32 = .ok (.ireturn, 1) := by decide +kernel
theorem dX9_share_33 : decode cX9_share 33 = .ok (.iconst 1, 1) := by decide +kernel
theorem dX9_share_34 : decode cX9_share 34 = .ok (.istore_n 2, 1) := by decide +kernel
theorem dX9_share_35 : decode cX9_share 35 = .ok (.iconst 0, 1) := by decide +kernel
theorem dX9_share_36 : decode cX9_share 36 = .ok (.istore_n 3, 1) := by decide +kernel
theorem dX9_share_37 : decode cX9_share 37 = .ok (.iload_n 3, 1) := by decide +kernel
theorem dX9_share_38 : decode cX9_share 38 = .ok (.aload_n 0, 1) := by decide +kernel
theorem dX9_share_39 : decode cX9_share 39 = .ok (.getfield 13, 3) := by decide +kernel
theorem dX9_share_42 : decode cX9_share 42 = .ok (.iconst 0, 1) := by decide +kernel
theorem dX9_share_43 : decode cX9_share 43 = .ok (.iaload, 1) := by decide +kernel
theorem dX9_share_44 : decode cX9_share 44 = .ok (.if_icmp .ge 18, 3) := by decide +kernel
theorem dX9_share_47 : decode cX9_share 47 = .ok (.iload_n 2, 1) := by decide +kernel
theorem dX9_share_48 : decode cX9_share 48 = .ok (.aload_n 0, 1) := by decide +kernel
theorem dX9_share_49 : decode cX9_share 49 = .ok (.getfield 13, 3) := by decide +kernel
theorem dX9_share_52 : decode cX9_share 52 = .ok (.iconst 1, 1) := by decide +kernel
theorem dX9_share_53 : decode cX9_share 53 = .ok (.iaload, 1) := by decide +kernel
theorem dX9_share_54 : decode cX9_share 54 = .ok (.imul, 1) := by decide +kernel
theorem dX9_share_55 : decode cX9_share 55 = .ok (.istore_n 2, 1) := by decide +kernel
theorem dX9_share_56 : decode cX9_share 56 = .ok (.iinc 3 1, 3) := by decide +kernel
theorem dX9_share_59 : decode cX9_share 59 = .ok (.goto (-22), 3) := by decide +kernel
theorem dX9_share_62 : decode cX9_share 62 = .ok (.aload_n 0, 1) := by decide +kernel
theorem dX9_share_63 : decode cX9_share 63 = .ok (.bipush (-9), 2) := by decide +kernel
theorem dX9_share_65 : decode cX9_share 65 = .ok (.putfield 163, 3) := by decide +kernel
theorem dX9_share_68 : decode cX9_share 68 = .ok (.aload_n 0, 1) := by decide +kernel
theorem dX9_share_69 : decode cX9_share 69 = .ok (.iconst 0, 1) := by decide +kernel
theorem dX9_share_70 : decode cX9_share 70 = .ok (.putfield 166, 3) := by decide +kernel
theorem dX9_share_73 : decode cX9_share 73 = .ok (.iconst 0, 1) := by decide +kernel
theorem dX9_share_74 : decode cX9_share 74 = .ok (.istore_n 3, 1) := by decide +kernel
theorem dX9_share_75 : decode cX9_share 75 = .ok (.iload_n 3, 1) := by decide +kernel
theorem dX9_share_76 : decode cX9_share 76 = .ok (.iload_n 2, 1) := by decide +kernel
theorem dX9_share_77 : decode cX9_share 77 = .ok (.if_icmp .ge 59, 3) := by decide +kernel
theorem dX9_share_80 : decode cX9_share 80 = .ok (.aload_n 0, 1) := by decide +kernel
theorem dX9_share_81 : decode cX9_share 81 = .ok (.iload_n 3, 1) := by decide +kernel
theorem dX9_share_82 : decode cX9_share 82 = .ok (.invokevirtual 169, 3) := by decide +kernel
theorem dX9_share_85 : decode cX9_share 85 = .ok (.istore 4, 2) := by decide +kernel
theorem dX9_share_87 : decode cX9_share 87 = .ok (.aload_n 0, 1) := by decide +kernel
theorem dX9_share_88 : decode cX9_share 88 = .ok (.iload 4, 2) := by decide +kernel
theorem dX9_share_90 : decode cX9_share 90 = .ok (.aload_n 0, 1) := by decide +kernel
theorem dX9_share_91 : decode cX9_share 91 = .ok (.getfield 163, 3) := by decide +kernel
theorem dX9_share_94 : decode cX9_share 94 = .ok (.if_icmp .le 7, 3) := by decide +kernel
theorem dX9_share_97 : decode cX9_share 97 = .ok (.iload_n 3, 1) := by decide +kernel
theorem dX9_share_98 : decode cX9_share 98 = .ok (.goto 7, 3) := by decide +kernel
theorem dX9_share_101 : decode cX9_share 101 = .ok (.aload_n 0, 1) := by decide +kernel
theorem dX9_share_102 : decode cX9_share 102 = .ok (.getfield 166, 3) := by decide +kernel
theorem dX9_share_105 : decode cX9_share 105 = .ok (.putfield 166, 3) := by decide +kernel
theorem dX9_share_108 : decode cX9_share 108 = .ok (.aload_n 0, 1) := by decide +kernel
theorem dX9_share_109 : decode cX9_share 109 = .ok (.iload 4, 2) := by decide +kernel
theorem dX9_share_111 : decode cX9_share 111 = .ok (.aload_n 0, 1) := by decide +kernel
theorem dX9_share_112 : decode cX9_share 112 = .ok (.getfield 163, 3) := by decide +kernel
theorem dX9_share_115 : decode cX9_share 115 = .ok (.if_icmp .le 8, 3) := by decide +kernel
theorem dX9_share_118 : decode cX9_share 118 = .ok (.iload 4, 2) := by decide +kernel
theorem dX9_share_120 : decode cX9_share 120 = .ok (.goto 7, 3) := by decide +kernel
theorem dX9_share_123 : decode cX9_share 123 = .ok (.aload_n 0, 1) := by decide +kernel
theorem dX9_share_124 : decode cX9_share 124 = .ok (.getfield 163, 3) := by decide +kernel
theorem dX9_share_127 : decode cX9_share 127 = .ok (.putfield 163, 3) := by decide +kernel
theorem dX9_share_130 : decode cX9_share 130 = .ok (.iinc 3 1, 3) := by decide +kernel
theorem dX9_share_133 : decode cX9_share 133 = .ok (.goto (-58), 3) := by decide +kernel
theorem dX9_share_136 : decode cX9_share 136 = .ok (.iload_n 1, 1) := by decide +kernel
theorem dX9_share_137 : decode cX9_share 137 = .ok (.iconst (-1), 1) := by decide +kernel
theorem dX9_share_138 : decode cX9_share 138 = .ok (.if_icmp .eq 12, 3) := by decide +kernel
theorem dX9_share_141 : decode cX9_share 141 = .ok (.aload_n 0, 1) := by decide +kernel
theorem dX9_share_142 : decode cX9_share 142 = .ok (.getfield 163, 3) := by decide +kernel
theorem dX9_share_145 : decode cX9_share 145 = .ok (.bipush (-9), 2) := by decide +kernel
theorem dX9_share_147 : decode cX9_share 147 = .ok (.if_icmp .ne 8, 3) := by decide +kernel
theorem dX9_share_150 : decode cX9_share 150 = .ok (.aload_n 0, 1) := by decide +kernel
theorem dX9_share_151 : decode cX9_share 151 = .ok (.getfield 163, 3) := by decide +kernel
theorem dX9_share_154 : decode cX9_share 154 = .ok (.ireturn, 1) := by decide +kernel
theorem dX9_share_155 : decode cX9_share 155 = .ok (.aload_n 0, 1) := by decide +kernel
theorem dX9_share_156 : decode cX9_share 156 = .ok (.getfield 166, 3) := by decide +kernel
theorem dX9_share_159 : decode cX9_share 159 = .ok (.istore_n 3, 1) := by decide +kernel
theorem dX9_share_160 : decode cX9_share 160 = .ok (.aload_n 0, 1) := by decide +kernel
theorem dX9_share_161 : decode cX9_share 161 = .ok (.getfield 13, 3) := by decide +kernel
theorem dX9_share_164 : decode cX9_share 164 = .ok (.iconst 0, 1) := by decide +kernel
theorem dX9_share_165 : decode cX9_share 165 = .ok (.iaload, 1) := by decide +kernel
theorem dX9_share_166 : decode cX9_share 166 = .ok (.iconst 1, 1) := by decide +kernel
theorem dX9_share_167 : decode cX9_share 167 = .ok (.isub, 1) := by decide +kernel
theorem dX9_share_168 : decode cX9_share 168 = .ok (.istore 4, 2) := by decide +kernel
theorem dX9_share_170 : decode cX9_share 170 = .ok (.iload 4, 2) := by decide +kernel
theorem dX9_share_172 : decode cX9_share 172 = .ok (.iload_n 1, 1) := by decide +kernel
theorem dX9_share_173 : decode cX9_share 173 = .ok (.if_icmp .le 18, 3) := by decide +kernel
theorem dX9_share_176 : decode cX9_share 176 = .ok (.iload_n 3, 1) := by decide +kernel
theorem dX9_share_177 : decode cX9_share 177 = .ok (.aload_n 0, 1) := by decide +kernel
theorem dX9_share_178 : decode cX9_share 178 = .ok (.getfield 13, 3) := by decide +kernel
theorem dX9_share_181 : decode cX9_share 181 = .ok (.iconst 1, 1) := by decide +kernel
theorem dX9_share_182 : decode cX9_share 182 = .ok (.iaload, 1) := by decide +kernel
theorem dX9_share_183 : decode cX9_share 183 = .ok (.idiv, 1) := by decide +kernel
theorem dX9_share_184 : decode cX9_share 184 = .ok (.istore_n 3, 1) := by decide +kernel
theorem dX9_share_185 : decode cX9_share 185 = .ok (.iinc 4 (-1), 3) := by decide +kernel
theorem dX9_share_188 : decode cX9_share 188 = .ok (.goto (-18), 3) := by decide +kernel
theorem dX9_share_191 : decode cX9_share 191 = .ok (.iload_n 3, 1) := by decide +kernel
theorem dX9_share_192 : decode cX9_share 192 = .ok (.aload_n 0, 1) := by decide +kernel
theorem dX9_share_193 : decode cX9_share 193 = .ok (.getfield 13, 3) := by decide +kernel
theorem dX9_share_196 : decode cX9_share 196 = .ok (.iconst 1, 1) := by decide +kernel
theorem dX9_share_197 : decode cX9_share 197 = .ok (.iaload, 1) := by decide +kernel
theorem dX9_share_198 : decode cX9_share 198 = .ok (.irem, 1) := by decide +kernel
theorem dX9_share_199 : decode cX9_share 199 = .ok (.ireturn, 1) := by decide +kernel
theorem dX9_costsOf_0 : decode cX9_costsOf 0 = .ok (.aload_n 0, 1) := by decide +kernel
theorem dX9_costsOf_1 : decode cX9_costsOf 1 = .ok (.getfield 28, 3) := by decide +kernel
theorem dX9_costsOf_4 : decode cX9_costsOf 4 = .ok (.iconst 0, 1) := by decide +kernel
theorem dX9_costsOf_5 : decode cX9_costsOf 5 = .ok (.iload_n 1, 1) := by decide +kernel
theorem dX9_costsOf_6 : decode cX9_costsOf 6 = .ok (.iadd, 1) := by decide +kernel
theorem dX9_costsOf_7 : decode cX9_costsOf 7 = .ok (.iaload, 1) := by decide +kernel
theorem dX9_costsOf_8 : decode cX9_costsOf 8 = .ok (.iconst 1, 1) := by decide +kernel
theorem dX9_costsOf_9 : decode cX9_costsOf 9 = .ok (.isub, 1) := by decide +kernel
theorem dX9_costsOf_10 : decode cX9_costsOf 10 = .ok (.istore_n 2, 1) := by decide +kernel
theorem dX9_costsOf_11 : decode cX9_costsOf 11 = .ok (.iload_n 2, 1) := by decide +kernel
theorem dX9_costsOf_12 : decode cX9_costsOf 12 = .ok (.ifCond .ge 5, 3) := by decide +kernel
theorem dX9_costsOf_15 : decode cX9_costsOf 15 = .ok (.iconst 0, 1) := by decide +kernel
theorem dX9_costsOf_16 : decode cX9_costsOf 16 = .ok (.ireturn, 1) := by decide +kernel
theorem dX9_costsOf_17 : decode cX9_costsOf 17 = .ok (.aload_n 0, 1) := by decide +kernel
theorem dX9_costsOf_18 : decode cX9_costsOf 18 = .ok (.aload_n 0, 1) := by decide +kernel
theorem dX9_costsOf_19 : decode cX9_costsOf 19 = .ok (.getfield 28, 3) := by decide +kernel
theorem dX9_costsOf_22 : decode cX9_costsOf 22 = .ok (.invokevirtual 134, 3) := by decide +kernel
theorem dX9_costsOf_25 : decode cX9_costsOf 25 = .ok (.aload_n 0, 1) := by decide +kernel
theorem dX9_costsOf_26 : decode cX9_costsOf 26 = .ok (.aload_n 0, 1) := by decide +kernel
theorem dX9_costsOf_27 : decode cX9_costsOf 27 = .ok (.getfield 28, 3) := by decide +kernel
theorem dX9_costsOf_30 : decode cX9_costsOf 30 = .ok (.iload_n 2, 1) := by decide +kernel
theorem dX9_costsOf_31 : decode cX9_costsOf 31 = .ok (.invokevirtual 138, 3) := by decide +kernel
theorem dX9_costsOf_34 : decode cX9_costsOf 34 = .ok (.istore_n 3, 1) := by decide +kernel
theorem dX9_costsOf_35 : decode cX9_costsOf 35 = .ok (.aload_n 0, 1) := by decide +kernel
theorem dX9_costsOf_36 : decode cX9_costsOf 36 = .ok (.invokevirtual 172, 3) := by decide +kernel
theorem dX9_costsOf_39 : decode cX9_costsOf 39 = .ok (.aload_n 0, 1) := by decide +kernel
theorem dX9_costsOf_40 : decode cX9_costsOf 40 = .ok (.getfield 31, 3) := by decide +kernel
theorem dX9_costsOf_43 : decode cX9_costsOf 43 = .ok (.iconst 0, 1) := by decide +kernel
theorem dX9_costsOf_44 : decode cX9_costsOf 44 = .ok (.iload_n 1, 1) := by decide +kernel
theorem dX9_costsOf_45 : decode cX9_costsOf 45 = .ok (.iadd, 1) := by decide +kernel
theorem dX9_costsOf_46 : decode cX9_costsOf 46 = .ok (.iconst 0, 1) := by decide +kernel
theorem dX9_costsOf_47 : decode cX9_costsOf 47 = .ok (.iastore, 1) := by decide +kernel
theorem dX9_costsOf_48 : decode cX9_costsOf 48 = .ok (.aload_n 0, 1) := by decide +kernel
theorem dX9_costsOf_49 : decode cX9_costsOf 49 = .ok (.aload_n 0, 1) := by decide +kernel
theorem dX9_costsOf_50 : decode cX9_costsOf 50 = .ok (.getfield 31, 3) := by decide +kernel
theorem dX9_costsOf_53 : decode cX9_costsOf 53 = .ok (.invokevirtual 134, 3) := by decide +kernel
theorem dX9_costsOf_56 : decode cX9_costsOf 56 = .ok (.aload_n 0, 1) := by decide +kernel
theorem dX9_costsOf_57 : decode cX9_costsOf 57 = .ok (.aload_n 0, 1) := by decide +kernel
theorem dX9_costsOf_58 : decode cX9_costsOf 58 = .ok (.getfield 31, 3) := by decide +kernel
theorem dX9_costsOf_61 : decode cX9_costsOf 61 = .ok (.iload_n 2, 1) := by decide +kernel
theorem dX9_costsOf_62 : decode cX9_costsOf 62 = .ok (.invokevirtual 138, 3) := by decide +kernel
theorem dX9_costsOf_65 : decode cX9_costsOf 65 = .ok (.iload_n 3, 1) := by decide +kernel
theorem dX9_costsOf_66 : decode cX9_costsOf 66 = .ok (.isub, 1) := by decide +kernel
theorem dX9_costsOf_67 : decode cX9_costsOf 67 = .ok (.ireturn, 1) := by decide +kernel
theorem dX9_costs_0 : decode cX9_costs 0 = .ok (.aload_n 0, 1) := by decide +kernel
theorem dX9_costs_1 : decode cX9_costs 1 = .ok (.iconst 0, 1) := by decide +kernel
theorem dX9_costs_2 : decode cX9_costs 2 = .ok (.putfield 56, 3) := by decide +kernel
theorem dX9_costs_5 : decode cX9_costs 5 = .ok (.aload_n 0, 1) := by decide +kernel
theorem dX9_costs_6 : decode cX9_costs 6 = .ok (.iload_n 1, 1) := by decide +kernel
theorem dX9_costs_7 : decode cX9_costs 7 = .ok (.invokevirtual 142, 3) := by decide +kernel
theorem dX9_costs_10 : decode cX9_costs 10 = .ok (.ifCond .eq 11, 3) := by decide +kernel
theorem dX9_costs_13 : decode cX9_costs 13 = .ok (.aload_n 0, 1) := by decide +kernel
theorem dX9_costs_14 : decode cX9_costs 14 = .ok (.iload_n 1, 1) := by decide +kernel
theorem dX9_costs_15 : decode cX9_costs 15 = .ok (.invokevirtual 175, 3) := by decide +kernel
theorem dX9_costs_18 : decode cX9_costs 18 = .ok (.goto 5, 3) := by decide +kernel
theorem dX9_costs_21 : decode cX9_costs 21 = .ok (.ldc 154, 2) := by decide +kernel
theorem dX9_costs_23 : decode cX9_costs 23 = .ok (.ireturn, 1) := by decide +kernel
theorem dX9_exchange_0 : decode cX9_exchange 0 = .ok (.aload_n 0, 1) := by decide +kernel
theorem dX9_exchange_1 : decode cX9_exchange 1 = .ok (.iconst 0, 1) := by decide +kernel
theorem dX9_exchange_2 : decode cX9_exchange 2 = .ok (.putfield 56, 3) := by decide +kernel
theorem dX9_exchange_5 : decode cX9_exchange 5 = .ok (.aload_n 0, 1) := by decide +kernel
theorem dX9_exchange_6 : decode cX9_exchange 6 = .ok (.aload_n 0, 1) := by decide +kernel
theorem dX9_exchange_7 : decode cX9_exchange 7 = .ok (.getfield 28, 3) := by decide +kernel
theorem dX9_exchange_10 : decode cX9_exchange 10 = .ok (.invokevirtual 178, 3) := by decide +kernel
theorem dX9_exchange_13 : decode cX9_exchange 13 = .ok (.istore_n 1, 1) := by decide +kernel
theorem dX9_exchange_14 : decode cX9_exchange 14 = .ok (.bipush (-9), 2) := by decide +kernel
theorem dX9_exchange_16 : decode cX9_exchange 16 = .ok (.istore_n 2, 1) := by decide +kernel
theorem dX9_exchange_17 : decode cX9_exchange 17 = .ok (.iconst 0, 1) := by decide +kernel
theorem dX9_exchange_18 : decode cX9_exchange 18 = .ok (.istore_n 3, 1) := by decide +kernel
theorem dX9_exchange_19 : decode cX9_exchange 19 = .ok (.iload_n 3, 1) := by decide +kernel
theorem dX9_exchange_20 : decode cX9_exchange 20 = .ok (.aload_n 0, 1) := by decide +kernel
theorem dX9_exchange_21 : decode cX9_exchange 21 = .ok (.getfield 13, 3) := by decide +kernel
theorem dX9_exchange_24 : decode cX9_exchange 24 = .ok (.iconst 0, 1) := by decide +kernel
theorem dX9_exchange_25 : decode cX9_exchange 25 = .ok (.iaload, 1) := by decide +kernel
theorem dX9_exchange_26 : decode cX9_exchange 26 = .ok (.if_icmp .ge 134, 3) := by decide +kernel
theorem dX9_exchange_29 : decode cX9_exchange 29 = .ok (.iload_n 3, 1) := by decide +kernel
theorem dX9_exchange_30 : decode cX9_exchange 30 = .ok (.iconst 1, 1) := by decide +kernel
theorem dX9_exchange_31 : decode cX9_exchange 31 = .ok (.iadd, 1) := by decide +kernel
theorem dX9_exchange_32 : decode cX9_exchange 32 = .ok (.istore 4, 2) := by decide +kernel
theorem dX9_exchange_34 : decode cX9_exchange 34 = .ok (.iload 4, 2) := by decide +kernel
theorem dX9_exchange_36 : decode cX9_exchange 36 = .ok (.aload_n 0, 1) := by decide +kernel
theorem dX9_exchange_37 : decode cX9_exchange 37 = .ok (.getfield 13, 3) := by decide +kernel
theorem dX9_exchange_40 : decode cX9_exchange 40 = .ok (.iconst 0, 1) := by decide +kernel
theorem dX9_exchange_41 : decode cX9_exchange 41 = .ok (.iaload, 1) := by decide +kernel
theorem dX9_exchange_42 : decode cX9_exchange 42 = .ok (.if_icmp .ge 112, 3) := by decide +kernel
theorem dX9_exchange_45 : decode cX9_exchange 45 = .ok (.aload_n 0, 1) := by decide +kernel
theorem dX9_exchange_46 : decode cX9_exchange 46 = .ok (.invokevirtual 172, 3) := by decide +kernel
theorem dX9_exchange_49 : decode cX9_exchange 49 = .ok (.aload_n 0, 1) := by decide +kernel
theorem dX9_exchange_50 : decode cX9_exchange 50 = .ok (.getfield 31, 3) := by decide +kernel
theorem dX9_exchange_53 : decode cX9_exchange 53 = .ok (.iconst 0, 1) := by decide +kernel
theorem dX9_exchange_54 : decode cX9_exchange 54 = .ok (.iload_n 3, 1) := by decide +kernel
theorem dX9_exchange_55 : decode cX9_exchange 55 = .ok (.iadd, 1) := by decide +kernel
theorem dX9_exchange_56 : decode cX9_exchange 56 = .ok (.aload_n 0, 1) := by decide +kernel
theorem dX9_exchange_57 : decode cX9_exchange 57 = .ok (.getfield 28, 3) := by decide +kernel
theorem dX9_exchange_60 : decode cX9_exchange 60 = .ok (.iconst 0, 1) := by decide +kernel
theorem dX9_exchange_61 : decode cX9_exchange 61 = .ok (.iload 4, 2) := by decide +kernel
theorem dX9_exchange_63 : decode cX9_exchange 63 = .ok (.iadd, 1) := by decide +kernel
theorem dX9_exchange_64 : decode cX9_exchange 64 = .ok (.iaload, 1) := by decide +kernel
theorem dX9_exchange_65 : decode cX9_exchange 65 = .ok (.iastore, 1) := by decide +kernel
theorem dX9_exchange_66 : decode cX9_exchange 66 = .ok (.aload_n 0, 1) := by decide +kernel
theorem dX9_exchange_67 : decode cX9_exchange 67 = .ok (.getfield 31, 3) := by decide +kernel
theorem dX9_exchange_70 : decode cX9_exchange 70 = .ok (.iconst 0, 1) := by decide +kernel
theorem dX9_exchange_71 : decode cX9_exchange 71 = .ok (.iload 4, 2) := by decide +kernel
theorem dX9_exchange_73 : decode cX9_exchange 73 = .ok (.iadd, 1) := by decide +kernel
theorem dX9_exchange_74 : decode cX9_exchange 74 = .ok (.aload_n 0, 1) := by decide +kernel
theorem dX9_exchange_75 : decode cX9_exchange 75 = .ok (.getfield 28, 3) := by decide +kernel
theorem dX9_exchange_78 : decode cX9_exchange 78 = .ok (.iconst 0, 1) := by decide +kernel
theorem dX9_exchange_79 : decode cX9_exchange 79 = .ok (.iload_n 3, 1) := by decide +kernel
theorem dX9_exchange_80 : decode cX9_exchange 80 = .ok (.iadd, 1) := by decide +kernel
theorem dX9_exchange_81 : decode cX9_exchange 81 = .ok (.iaload, 1) := by decide +kernel
theorem dX9_exchange_82 : decode cX9_exchange 82 = .ok (.iastore, 1) := by decide +kernel
theorem dX9_exchange_83 : decode cX9_exchange 83 = .ok (.aload_n 0, 1) := by decide +kernel
theorem dX9_exchange_84 : decode cX9_exchange 84 = .ok (.getfield 28, 3) := by decide +kernel
theorem dX9_exchange_87 : decode cX9_exchange 87 = .ok (.iconst 0, 1) := by decide +kernel
theorem dX9_exchange_88 : decode cX9_exchange 88 = .ok (.iload_n 3, 1) := by decide +kernel
theorem dX9_exchange_89 : decode cX9_exchange 89 = .ok (.iadd, 1) := by decide +kernel
theorem dX9_exchange_90 : decode cX9_exchange 90 = .ok (.iaload, 1) := by decide +kernel
theorem dX9_exchange_91 : decode cX9_exchange 91 = .ok (.aload_n 0, 1) := by decide +kernel
theorem dX9_exchange_92 : decode cX9_exchange 92 = .ok (.getfield 28, 3) := by decide +kernel
theorem dX9_exchange_95 : decode cX9_exchange 95 = .ok (.iconst 0, 1) := by decide +kernel
theorem dX9_exchange_96 : decode cX9_exchange 96 = .ok (.iload 4, 2) := by decide +kernel
theorem dX9_exchange_98 : decode cX9_exchange 98 = .ok (.iadd, 1) := by decide +kernel
theorem dX9_exchange_99 : decode cX9_exchange 99 = .ok (.iaload, 1) := by decide +kernel
theorem dX9_exchange_100 : decode cX9_exchange 100 = .ok (.if_icmp .ne 7, 3) := by decide +kernel
theorem dX9_exchange_103 : decode cX9_exchange 103 = .ok (.iload_n 1, 1) := by decide +kernel
theorem dX9_exchange_104 : decode cX9_exchange 104 = .ok (.goto 11, 3) := by decide +kernel
theorem dX9_exchange_107 : decode cX9_exchange 107 = .ok (.aload_n 0, 1) := by decide +kernel
theorem dX9_exchange_108 : decode cX9_exchange 108 = .ok (.aload_n 0, 1) := by decide +kernel
theorem dX9_exchange_109 : decode cX9_exchange 109 = .ok (.getfield 31, 3) := by decide +kernel
theorem dX9_exchange_112 : decode cX9_exchange 112 = .ok (.invokevirtual 178, 3) := by decide +kernel
theorem dX9_exchange_115 : decode cX9_exchange 115 = .ok (.istore 5, 2) := by decide +kernel
