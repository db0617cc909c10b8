theorem dX8_init_96 : decode cX8_init 96 = .ok (.aload_n 0, 1) := by decide +kernel
theorem dX8_init_97 : decode cX8_init 97 = .ok (.getfield 53, 3) := by decide +kernel
theorem dX8_init_100 : decode cX8_init 100 = .ok (.invokespecial 59, 3) := by decide +kernel
theorem dX8_init_103 : decode cX8_init 103 = .ok (.putfield 62, 3) := by decide +kernel
theorem dX8_init_106 : decode cX8_init 106 = .ok (.aload_n 0, 1) := by decide +kernel
theorem dX8_init_107 : decode cX8_init 107 = .ok (.new 66, 3) := by decide +kernel
theorem dX8_init_110 : decode cX8_init 110 = .ok (.dup, 1) := by decide +kernel
theorem dX8_init_111 : decode cX8_init 111 = .ok (.aload_n 0, 1) := by decide +kernel
theorem dX8_init_112 : decode cX8_init 112 = .ok (.getfield 19, 3) := by decide +kernel
theorem dX8_init_115 : decode cX8_init 115 = .ok (.aload_n 0, 1) := by decide +kernel
theorem dX8_init_116 : decode cX8_init 116 = .ok (.getfield 53, 3) := by decide +kernel
theorem dX8_init_119 : decode cX8_init 119 = .ok (.invokespecial 68, 3) := by decide +kernel
theorem dX8_init_122 : decode cX8_init 122 = .ok (.putfield 69, 3) := by decide +kernel
theorem dX8_init_125 : decode cX8_init 125 = .ok (.aload_n 0, 1) := by decide +kernel
theorem dX8_init_126 : decode cX8_init 126 = .ok (.new 73, 3) := by decide +kernel
theorem dX8_init_129 : decode cX8_init 129 = .ok (.dup, 1) := by decide +kernel
theorem dX8_init_130 : decode cX8_init 130 = .ok (.aload_n 0, 1) := by decide +kernel
theorem dX8_init_131 : decode cX8_init 131 = .ok (.getfield 19, 3) := by decide +kernel
theorem dX8_init_134 : decode cX8_init 134 = .ok (.aload_n 0, 1) := by decide +kernel
theorem dX8_init_135 : decode cX8_init 135 = .ok (.getfield 53, 3) := by decide +kernel
theorem dX8_init_138 : decode cX8_init 138 = .ok (.invokespecial 75, 3) := by decide +kernel
theorem dX8_init_141 : decode cX8_init 141 = .ok (.putfield 76, 3) := by decide +kernel
theorem dX8_init_144 : decode cX8_init 144 = .ok (.aload_n 0, 1) := by decide +kernel
theorem dX8_init_145 : decode cX8_init 145 = .ok (.iconst 5, 1) := by decide +kernel
theorem dX8_init_146 : decode cX8_init 146 = .ok (.newarray .int, 2) := by decide +kernel
theorem dX8_init_148 : decode cX8_init 148 = .ok (.putfield 80, 3) := by decide +kernel
theorem dX8_init_151 : decode cX8_init 151 = .ok (.aload_n 0, 1) := by decide +kernel
theorem dX8_init_152 : decode cX8_init 152 = .ok (.bipush 6, 2) := by decide +kernel
theorem dX8_init_154 : decode cX8_init 154 = .ok (.newarray .int, 2) := by decide +kernel
theorem dX8_init_156 : decode cX8_init 156 = .ok (.putfield 84, 3) := by decide +kernel
theorem dX8_init_159 : decode cX8_init 159 = .ok (.aload_n 0, 1) := by decide +kernel
theorem dX8_init_160 : decode cX8_init 160 = .ok (.bipush 6, 2) := by decide +kernel
theorem dX8_init_162 : decode cX8_init 162 = .ok (.newarray .int, 2) := by decide +kernel
theorem dX8_init_164 : decode cX8_init 164 = .ok (.putfield 87, 3) := by decide +kernel
theorem dX8_init_167 : decode cX8_init 167 = .ok (.aload_n 0, 1) := by decide +kernel
theorem dX8_init_168 : decode cX8_init 168 = .ok (.iconst 0, 1) := by decide +kernel
theorem dX8_init_169 : decode cX8_init 169 = .ok (.putfield 90, 3) := by decide +kernel
theorem dX8_init_172 : decode cX8_init 172 = .ok (.aload_n 0, 1) := by decide +kernel
theorem dX8_init_173 : decode cX8_init 173 = .ok (.lconst 0, 1) := by decide +kernel
theorem dX8_init_174 : decode cX8_init 174 = .ok (.putfield 93, 3) := by decide +kernel
theorem dX8_init_177 : decode cX8_init 177 = .ok (.iconst 0, 1) := by decide +kernel
theorem dX8_init_178 : decode cX8_init 178 = .ok (.istore_n 1, 1) := by decide +kernel
theorem dX8_init_179 : decode cX8_init 179 = .ok (.iload_n 1, 1) := by decide +kernel
theorem dX8_init_180 : decode cX8_init 180 = .ok (.iconst 2, 1) := by decide +kernel
theorem dX8_init_181 : decode cX8_init 181 = .ok (.if_icmp .ge 22, 3) := by decide +kernel
theorem dX8_init_184 : decode cX8_init 184 = .ok (.aload_n 0, 1) := by decide +kernel
theorem dX8_init_185 : decode cX8_init 185 = .ok (.getfield 40, 3) := by decide +kernel
theorem dX8_init_188 : decode cX8_init 188 = .ok (.iload_n 1, 1) := by decide +kernel
theorem dX8_init_189 : decode cX8_init 189 = .ok (.new 26, 3) := by decide +kernel
theorem dX8_init_192 : decode cX8_init 192 = .ok (.dup, 1) := by decide +kernel
theorem dX8_init_193 : decode cX8_init 193 = .ok (.invokespecial 28, 3) := by decide +kernel
theorem dX8_init_196 : decode cX8_init 196 = .ok (.aastore, 1) := by decide +kernel
theorem dX8_init_197 : decode cX8_init 197 = .ok (.iinc 1 1, 3) := by decide +kernel
theorem dX8_init_200 : decode cX8_init 200 = .ok (.goto (-21), 3) := by decide +kernel
theorem dX8_init_203 : decode cX8_init 203 = .ok (.return_, 1) := by decide +kernel
theorem dX8_type_0 : decode cX8_type 0 = .ok (.iload_n 1, 1) := by decide +kernel
theorem dX8_type_1 : decode cX8_type 1 = .ok (.ifCond .lt 10, 3) := by decide +kernel
theorem dX8_type_4 : decode cX8_type 4 = .ok (.iload_n 1, 1) := by decide +kernel
theorem dX8_type_5 : decode cX8_type 5 = .ok (.sipush 255, 3) := by decide +kernel
theorem dX8_type_8 : decode cX8_type 8 = .ok (.if_icmp .le 5, 3) := by decide +kernel
theorem dX8_type_11 : decode cX8_type 11 = .ok (.iconst (-1), 1) := by decide +kernel
theorem dX8_type_12 : decode cX8_type 12 = .ok (.ireturn, 1) := by decide +kernel
theorem dX8_type_13 : decode cX8_type 13 = .ok (.aload_n 0, 1) := by decide +kernel
theorem dX8_type_14 : decode cX8_type 14 = .ok (.getfield 12, 3) := by decide +kernel
theorem dX8_type_17 : decode cX8_type 17 = .ok (.invokevirtual 97, 3) := by decide +kernel
theorem dX8_type_20 : decode cX8_type 20 = .ok (.ifCond .eq 15, 3) := by decide +kernel
theorem dX8_type_23 : decode cX8_type 23 = .ok (.aload_n 0, 1) := by decide +kernel
theorem dX8_type_24 : decode cX8_type 24 = .ok (.getfield 12, 3) := by decide +kernel
theorem dX8_type_27 : decode cX8_type 27 = .ok (.iload_n 1, 1) := by decide +kernel
theorem dX8_type_28 : decode cX8_type 28 = .ok (.i2c, 1) := by decide +kernel
theorem dX8_type_29 : decode cX8_type 29 = .ok (.invokevirtual 101, 3) := by decide +kernel
theorem dX8_type_32 : decode cX8_type 32 = .ok (.goto 5, 3) := by decide +kernel
theorem dX8_type_35 : decode cX8_type 35 = .ok (.bipush (-3), 2) := by decide +kernel
theorem dX8_type_37 : decode cX8_type 37 = .ok (.ireturn, 1) := by decide +kernel
theorem dX8_clear_0 : decode cX8_clear 0 = .ok (.aload_n 0, 1) := by decide +kernel
theorem dX8_clear_1 : decode cX8_clear 1 = .ok (.getfield 12, 3) := by decide +kernel
theorem dX8_clear_4 : decode cX8_clear 4 = .ok (.invokevirtual 105, 3) := by decide +kernel
theorem dX8_clear_7 : decode cX8_clear 7 = .ok (.ireturn, 1) := by decide +kernel
theorem dX8_score_0 : decode cX8_score 0 = .ok (.aload_n 0, 1) := by decide +kernel
theorem dX8_score_1 : decode cX8_score 1 = .ok (.getfield 12, 3) := by decide +kernel
theorem dX8_score_4 : decode cX8_score 4 = .ok (.aload_n 0, 1) := by decide +kernel
theorem dX8_score_5 : decode cX8_score 5 = .ok (.getfield 23, 3) := by decide +kernel
theorem dX8_score_8 : decode cX8_score 8 = .ok (.invokevirtual 109, 3) := by decide +kernel
theorem dX8_score_11 : decode cX8_score 11 = .ok (.istore_n 1, 1) := by decide +kernel
theorem dX8_score_12 : decode cX8_score 12 = .ok (.iload_n 1, 1) := by decide +kernel
theorem dX8_score_13 : decode cX8_score 13 = .ok (.ifCond .ge 5, 3) := by decide +kernel
theorem dX8_score_16 : decode cX8_score 16 = .ok (.iload_n 1, 1) := by decide +kernel
theorem dX8_score_17 : decode cX8_score 17 = .ok (.ireturn, 1) := by decide +kernel
theorem dX8_score_18 : decode cX8_score 18 = .ok (.aload_n 0, 1) := by decide +kernel
theorem dX8_score_19 : decode cX8_score 19 = .ok (.getfield 12, 3) := by decide +kernel
theorem dX8_score_22 : decode cX8_score 22 = .ok (.invokevirtual 105, 3) := by decide +kernel
theorem dX8_score_25 : decode cX8_score 25 = .ok (.pop, 1) := by decide +kernel
theorem dX8_score_26 : decode cX8_score 26 = .ok (.aload_n 0, 1) := by decide +kernel
theorem dX8_score_27 : decode cX8_score 27 = .ok (.getfield 19, 3) := by decide +kernel
theorem dX8_score_30 : decode cX8_score 30 = .ok (.aload_n 0, 1) := by decide +kernel
theorem dX8_score_31 : decode cX8_score 31 = .ok (.getfield 23, 3) := by decide +kernel
theorem dX8_score_34 : decode cX8_score 34 = .ok (.invokevirtual 113, 3) := by decide +kernel
theorem dX8_score_37 : decode cX8_score 37 = .ok (.aload_n 0, 1) := by decide +kernel
theorem dX8_score_38 : decode cX8_score 38 = .ok (.getfield 29, 3) := by decide +kernel
theorem dX8_score_41 : decode cX8_score 41 = .ok (.invokevirtual 116, 3) := by decide +kernel
theorem dX8_score_44 : decode cX8_score 44 = .ok (.aload_n 0, 1) := by decide +kernel
theorem dX8_score_45 : decode cX8_score 45 = .ok (.getfield 36, 3) := by decide +kernel
theorem dX8_score_48 : decode cX8_score 48 = .ok (.invokevirtual 119, 3) := by decide +kernel
theorem dX8_score_51 : decode cX8_score 51 = .ok (.aload_n 0, 1) := by decide +kernel
theorem dX8_score_52 : decode cX8_score 52 = .ok (.getfield 62, 3) := by decide +kernel
theorem dX8_score_55 : decode cX8_score 55 = .ok (.invokevirtual 122, 3) := by decide +kernel
theorem dX8_score_58 : decode cX8_score 58 = .ok (.aload_n 0, 1) := by decide +kernel
theorem dX8_score_59 : decode cX8_score 59 = .ok (.iconst 0, 1) := by decide +kernel
theorem dX8_score_60 : decode cX8_score 60 = .ok (.putfield 44, 3) := by decide +kernel
theorem dX8_score_63 : decode cX8_score 63 = .ok (.aload_n 0, 1) := by decide +kernel
theorem dX8_score_64 : decode cX8_score 64 = .ok (.iconst 0, 1) := by decide +kernel
theorem dX8_score_65 : decode cX8_score 65 = .ok (.putfield 90, 3) := by decide +kernel
theorem dX8_score_68 : decode cX8_score 68 = .ok (.iload_n 1, 1) := by decide +kernel
theorem dX8_score_69 : decode cX8_score 69 = .ok (.ireturn, 1) := by decide +kernel
theorem dX8_part_0 : decode cX8_part 0 = .ok (.aload_n 0, 1) := by decide +kernel
theorem dX8_part_1 : decode cX8_part 1 = .ok (.getfield 19, 3) := by decide +kernel
theorem dX8_part_4 : decode cX8_part 4 = .ok (.iload_n 1, 1) := by decide +kernel
theorem dX8_part_5 : decode cX8_part 5 = .ok (.invokevirtual 123, 3) := by decide +kernel
theorem dX8_part_8 : decode cX8_part 8 = .ok (.ifCond .ne 5, 3) := by decide +kernel
theorem dX8_part_11 : decode cX8_part 11 = .ok (.iconst (-1), 1) := by decide +kernel
theorem dX8_part_12 : decode cX8_part 12 = .ok (.ireturn, 1) := by decide +kernel
theorem dX8_part_13 : decode cX8_part 13 = .ok (.iload_n 2, 1) := by decide +kernel
theorem dX8_part_14 : decode cX8_part 14 = .ok (.tableswitch 52 0 2 #[26, 36, 46], 26) := by decide +kernel
theorem dX8_part_40 : decode cX8_part 40 = .ok (.aload_n 0, 1) := by decide +kernel
theorem dX8_part_41 : decode cX8_part 41 = .ok (.getfield 19, 3) := by decide +kernel
theorem dX8_part_44 : decode cX8_part 44 = .ok (.getfield 127, 3) := by decide +kernel
theorem dX8_part_47 : decode cX8_part 47 = .ok (.iload_n 1, 1) := by decide +kernel
theorem dX8_part_48 : decode cX8_part 48 = .ok (.iaload, 1) := by decide +kernel
theorem dX8_part_49 : decode cX8_part 49 = .ok (.ireturn, 1) := by decide +kernel
theorem dX8_part_50 : decode cX8_part 50 = .ok (.aload_n 0, 1) := by decide +kernel
theorem dX8_part_51 : decode cX8_part 51 = .ok (.getfield 19, 3) := by decide +kernel
theorem dX8_part_54 : decode cX8_part 54 = .ok (.getfield 130, 3) := by decide +kernel
theorem dX8_part_57 : decode cX8_part 57 = .ok (.iload_n 1, 1) := by decide +kernel
theorem dX8_part_58 : decode cX8_part 58 = .ok (.iaload, 1) := by decide +kernel
theorem dX8_part_59 : decode cX8_part 59 = .ok (.ireturn, 1) := by decide +kernel
theorem dX8_part_60 : decode cX8_part 60 = .ok (.aload_n 0, 1) := by decide +kernel
theorem dX8_part_61 : decode cX8_part 61 = .ok (.iload_n 1, 1) := by decide +kernel
theorem dX8_part_62 : decode cX8_part 62 = .ok (.invokevirtual 133, 3) := by decide +kernel
theorem dX8_part_65 : decode cX8_part 65 = .ok (.ireturn, 1) := by decide +kernel
theorem dX8_part_66 : decode cX8_part 66 = .ok (.iconst (-1), 1) := by decide +kernel
theorem dX8_part_67 : decode cX8_part 67 = .ok (.ireturn, 1) := by decide +kernel
theorem dX8_player_0 : decode cX8_player 0 = .ok (.aload_n 0, 1) := by decide +kernel
theorem dX8_player_1 : decode cX8_player 1 = .ok (.getfield 19, 3) := by decide +kernel
theorem dX8_player_4 : decode cX8_player 4 = .ok (.iload_n 1, 1) := by decide +kernel
theorem dX8_player_5 : decode cX8_player 5 = .ok (.invokevirtual 137, 3) := by decide +kernel
theorem dX8_player_8 : decode cX8_player 8 = .ok (.ifCond .ne 5, 3) := by decide +kernel
theorem dX8_player_11 : decode cX8_player 11 = .ok (.iconst (-1), 1) := by decide +kernel
theorem dX8_player_12 : decode cX8_player 12 = .ok (.ireturn, 1) := by decide +kernel
theorem dX8_player_13 : decode cX8_player 13 = .ok (.aload_n 0, 1) := by decide +kernel
theorem dX8_player_14 : decode cX8_player 14 = .ok (.invokevirtual 140, 3) := by decide +kernel
theorem dX8_player_17 : decode cX8_player 17 = .ok (.iload_n 2, 1) := by decide +kernel
theorem dX8_player_18 : decode cX8_player 18 = .ok (.tableswitch 122 0 6 #[42, 52, 62, 72, 82, 99, 116], 42) := by decide +kernel
theorem dX8_player_60 : decode cX8_player 60 = .ok (.aload_n 0, 1) := by decide +kernel
theorem dX8_player_61 : decode cX8_player 61 = .ok (.getfield 19, 3) := by decide +kernel
theorem dX8_player_64 : decode cX8_player 64 = .ok (.getfield 143, 3) := by decide +kernel
theorem dX8_player_67 : decode cX8_player 67 = .ok (.iload_n 1, 1) := by decide +kernel
theorem dX8_player_68 : decode cX8_player 68 = .ok (.iaload, 1) := by decide +kernel
theorem dX8_player_69 : decode cX8_player 69 = .ok (.ireturn, 1) := by decide +kernel
theorem dX8_player_70 : decode cX8_player 70 = .ok (.aload_n 0, 1) := by decide +kernel
theorem dX8_player_71 : decode cX8_player 71 = .ok (.getfield 19, 3) := by decide +kernel
theorem dX8_player_74 : decode cX8_player 74 = .ok (.getfield 146, 3) := by decide +kernel
theorem dX8_player_77 : decode cX8_player 77 = .ok (.iload_n 1, 1) := by decide +kernel
theorem dX8_player_78 : decode cX8_player 78 = .ok (.iaload, 1) := by decide +kernel
theorem dX8_player_79 : decode cX8_player 79 = .ok (.ireturn, 1) := by decide +kernel
theorem dX8_player_80 : decode cX8_player 80 = .ok (.aload_n 0, 1) := by decide +kernel
theorem dX8_player_81 : decode cX8_player 81 = .ok (.getfield 53, 3) := by decide +kernel
theorem dX8_player_84 : decode cX8_player 84 = .ok (.getfield 149, 3) := by decide +kernel
theorem dX8_player_87 : decode cX8_player 87 = .ok (.iload_n 1, 1) := by decide +kernel
theorem dX8_player_88 : decode cX8_player 88 = .ok (.iaload, 1) := by decide +kernel
theorem dX8_player_89 : decode cX8_player 89 = .ok (.ireturn, 1) := by decide +kernel
theorem dX8_player_90 : decode cX8_player 90 = .ok (.aload_n 0, 1) := by decide +kernel
theorem dX8_player_91 : decode cX8_player 91 = .ok (.getfield 29, 3) := by decide +kernel
theorem dX8_player_94 : decode cX8_player 94 = .ok (.getfield 152, 3) := by decide +kernel
theorem dX8_player_97 : decode cX8_player 97 = .ok (.iload_n 1, 1) := by decide +kernel
theorem dX8_player_98 : decode cX8_player 98 = .ok (.iaload, 1) := by decide +kernel
theorem dX8_player_99 : decode cX8_player 99 = .ok (.ireturn, 1) := by decide +kernel
theorem dX8_player_100 : decode cX8_player 100 = .ok (.aload_n 0, 1) := by decide +kernel
theorem dX8_player_101 : decode cX8_player 101 = .ok (.getfield 53, 3) := by decide +kernel
theorem dX8_player_104 : decode cX8_player 104 = .ok (.iload_n 1, 1) := by decide +kernel
theorem dX8_player_105 : decode cX8_player 105 = .ok (.invokevirtual 155, 3) := by decide +kernel
theorem dX8_player_108 : decode cX8_player 108 = .ok (.ifCond .eq 7, 3) := by decide +kernel
theorem dX8_player_111 : decode cX8_player 111 = .ok (.iconst 1, 1) := by decide +kernel
theorem dX8_player_112 : decode cX8_player 112 = .ok (.goto 4, 3) := by decide +kernel
theorem dX8_player_115 : decode cX8_player 115 = .ok (.iconst 0, 1) := by decide +kernel
theorem dX8_player_116 : decode cX8_player 116 = .ok (.ireturn, 1) := by decide +kernel
theorem dX8_player_117 : decode cX8_player 117 = .ok (.aload_n 0, 1) := by decide +kernel
theorem dX8_player_118 : decode cX8_player 118 = .ok (.getfield 53, 3) := by decide +kernel
theorem dX8_player_121 : decode cX8_player 121 = .ok (.iload_n 1, 1) := by decide +kernel
theorem dX8_player_122 : decode cX8_player 122 = .ok (.invokevirtual 158, 3) := by decide +kernel
theorem dX8_player_125 : decode cX8_player 125 = .ok (.ifCond .eq 7, 3) := by decide +kernel
theorem dX8_player_128 : decode cX8_player 128 = .ok (.iconst 1, 1) := by decide +kernel
theorem dX8_player_129 : decode cX8_player 129 = .ok (.goto 4, 3) := by decide +kernel
theorem dX8_player_132 : decode cX8_player 132 = .ok (.iconst 0, 1) := by decide +kernel
theorem dX8_player_133 : decode cX8_player 133 = .ok (.ireturn, 1) := by decide +kernel
theorem dX8_player_134 : decode cX8_player 134 = .ok (.aload_n 0, 1) := by decide +kernel
theorem dX8_player_135 : decode cX8_player 135 = .ok (.iload_n 1, 1) := by decide +kernel
theorem dX8_player_136 : decode cX8_player 136 = .ok (.invokevirtual 161, 3) := by decide +kernel
theorem dX8_player_139 : decode cX8_player 139 = .ok (.ireturn, 1) := by decide +kernel
theorem dX8_player_140 : decode cX8_player 140 = .ok (.iconst (-1), 1) := by decide +kernel
theorem dX8_player_141 : decode cX8_player 141 = .ok (.ireturn, 1) := by decide +kernel
theorem dX8_coins_0 : decode cX8_coins 0 = .ok (.aload_n 0, 1) := by decide +kernel
theorem dX8_coins_1 : decode cX8_coins 1 = .ok (.getfield 19, 3) := by decide +kernel
theorem dX8_coins_4 : decode cX8_coins 4 = .ok (.iload_n 1, 1) := by decide +kernel
theorem dX8_coins_5 : decode cX8_coins 5 = .ok (.invokevirtual 137, 3) := by decide +kernel
theorem dX8_coins_8 : decode cX8_coins 8 = .ok (.ifCond .ne 6, 3) := by decide +kernel
theorem dX8_coins_11 : decode cX8_coins 11 = .ok (.ldc 164, 2) := by decide +kernel
theorem dX8_coins_13 : decode cX8_coins 13 = .ok (.ireturn, 1) := by decide +kernel
theorem dX8_coins_14 : decode cX8_coins 14 = .ok (.iload_n 2, 1) := by decide +kernel
theorem dX8_coins_15 : decode cX8_coins 15 = .ok (.lookupswitch 41 #[(0, 25), (1, 31)], 25) := by decide +kernel
theorem dX8_coins_40 : decode cX8_coins 40 = .ok (.aload_n 0, 1) := by decide +kernel
theorem dX8_coins_41 : decode cX8_coins 41 = .ok (.iload_n 1, 1) := by decide +kernel
theorem dX8_coins_42 : decode cX8_coins 42 = .ok (.invokevirtual 165, 3) := by decide +kernel
theorem dX8_coins_45 : decode cX8_coins 45 = .ok (.ireturn, 1) := by decide +kernel
theorem dX8_coins_46 : decode cX8_coins 46 = .ok (.aload_n 0, 1) := by decide +kernel
theorem dX8_coins_47 : decode cX8_coins 47 = .ok (.getfield 29, 3) := by decide +kernel
theorem dX8_coins_50 : decode cX8_coins 50 = .ok (.getfield 168, 3) := by decide +kernel
theorem dX8_coins_53 : decode cX8_coins 53 = .ok (.iload_n 1, 1) := by decide +kernel
theorem dX8_coins_54 : decode cX8_coins 54 = .ok (.iaload, 1) := by decide +kernel
theorem dX8_coins_55 : decode cX8_coins 55 = .ok (.ireturn, 1) := by decide +kernel
theorem dX8_coins_56 : decode cX8_coins 56 = .ok (.ldc 164, 2) := by decide +kernel
theorem dX8_coins_58 : decode cX8_coins 58 = .ok (.ireturn, 1) := by decide +kernel
theorem dX8_now_0 : decode cX8_now 0 = .ok (.iload_n 1, 1) := by decide +kernel
theorem dX8_now_1 : decode cX8_now 1 = .ok (.tableswitch 58 0 3 #[31, 39, 45, 50], 31) := by decide +kernel
theorem dX8_now_32 : decode cX8_now 32 = .ok (.aload_n 0, 1) := by decide +kernel
theorem dX8_now_33 : decode cX8_now 33 = .ok (.getfield 29, 3) := by decide +kernel
theorem dX8_now_36 : decode cX8_now 36 = .ok (.getfield 171, 3) := by decide +kernel
theorem dX8_now_39 : decode cX8_now 39 = .ok (.ireturn, 1) := by decide +kernel
theorem dX8_now_40 : decode cX8_now 40 = .ok (.aload_n 0, 1) := by decide +kernel
theorem dX8_now_41 : decode cX8_now 41 = .ok (.iconst (-1), 1) := by decide +kernel
theorem dX8_now_42 : decode cX8_now 42 = .ok (.invokevirtual 161, 3) := by decide +kernel
theorem dX8_now_45 : decode cX8_now 45 = .ok (.ireturn, 1) := by decide +kernel
theorem dX8_now_46 : decode cX8_now 46 = .ok (.aload_n 0, 1) := by decide +kernel
theorem dX8_now_47 : decode cX8_now 47 = .ok (.invokevirtual 174, 3) := by decide +kernel
theorem dX8_now_50 : decode cX8_now 50 = .ok (.ireturn, 1) := by decide +kernel
theorem dX8_now_51 : decode cX8_now 51 = .ok (.aload_n 0, 1) := by decide +kernel
theorem dX8_now_52 : decode cX8_now 52 = .ok (.getfield 36, 3) := by decide +kernel
theorem dX8_now_55 : decode cX8_now 55 = .ok (.getfield 177, 3) := by decide +kernel
theorem dX8_now_58 : decode cX8_now 58 = .ok (.ireturn, 1) := by decide +kernel
theorem dX8_now_59 : decode cX8_now 59 = .ok (.iconst (-1), 1) := by decide +kernel
theorem dX8_now_60 : decode cX8_now 60 = .ok (.ireturn, 1) := by decide +kernel
theorem dX8_gives_0 : decode cX8_gives 0 = .ok (.aload_n 0, 1) := by decide +kernel
theorem dX8_gives_1 : decode cX8_gives 1 = .ok (.getfield 19, 3) := by decide +kernel
theorem dX8_gives_4 : decode cX8_gives 4 = .ok (.iload_n 1, 1) := by decide +kernel
theorem dX8_gives_5 : decode cX8_gives 5 = .ok (.invokevirtual 123, 3) := by decide +kernel
theorem dX8_gives_8 : decode cX8_gives 8 = .ok (.ifCond .eq 19, 3) := by decide +kernel
theorem dX8_gives_11 : decode cX8_gives 11 = .ok (.iload_n 2, 1) := by decide +kernel
theorem dX8_gives_12 : decode cX8_gives 12 = .ok (.iconst (-1), 1) := by decide +kernel
theorem dX8_gives_13 : decode cX8_gives 13 = .ok (.if_icmp .eq 16, 3) := by decide +kernel
theorem dX8_gives_16 : decode cX8_gives 16 = .ok (.aload_n 0, 1) := by decide +kernel
theorem dX8_gives_17 : decode cX8_gives 17 = .ok (.getfield 19, 3) := by decide +kernel
theorem dX8_gives_20 : decode cX8_gives 20 = .ok (.iload_n 2, 1) := by decide +kernel
theorem dX8_gives_21 : decode cX8_gives 21 = .ok (.invokevirtual 137, 3) := by decide +kernel
theorem dX8_gives_24 : decode cX8_gives 24 = .ok (.ifCond .ne 5, 3) := by decide +kernel
theorem dX8_gives_27 : decode cX8_gives 27 = .ok (.iconst (-1), 1) := by decide +kernel
theorem dX8_gives_28 : decode cX8_gives 28 = .ok (.ireturn, 1) := by decide +kernel
theorem dX8_gives_29 : decode cX8_gives 29 = .ok (.aload_n 0, 1) := by decide +kernel
theorem dX8_gives_30 : decode cX8_gives 30 = .ok (.iload_n 1, 1) := by decide +kernel
theorem dX8_gives_31 : decode cX8_gives 31 = .ok (.invokevirtual 133, 3) := by decide +kernel
theorem dX8_gives_34 : decode cX8_gives 34 = .ok (.istore_n 3, 1) := by decide +kernel
theorem dX8_gives_35 : decode cX8_gives 35 = .ok (.aload_n 0, 1) := by decide +kernel
theorem dX8_gives_36 : decode cX8_gives 36 = .ok (.getfield 36, 3) := by decide +kernel
theorem dX8_gives_39 : decode cX8_gives 39 = .ok (.aload_n 0, 1) := by decide +kernel
theorem dX8_gives_40 : decode cX8_gives 40 = .ok (.getfield 29, 3) := by decide +kernel
theorem dX8_gives_43 : decode cX8_gives 43 = .ok (.invokevirtual 180, 3) := by decide +kernel
theorem dX8_gives_46 : decode cX8_gives 46 = .ok (.aload_n 0, 1) := by decide +kernel
theorem dX8_gives_47 : decode cX8_gives 47 = .ok (.getfield 29, 3) := by decide +kernel
theorem dX8_gives_50 : decode cX8_gives 50 = .ok (.getfield 184, 3) := by decide +kernel
theorem dX8_gives_53 : decode cX8_gives 53 = .ok (.iload_n 1, 1) := by decide +kernel
theorem dX8_gives_54 : decode cX8_gives 54 = .ok (.iload_n 2, 1) := by decide +kernel
theorem dX8_gives_55 : decode cX8_gives 55 = .ok (.iastore, 1) := by decide +kernel
theorem dX8_gives_56 : decode cX8_gives 56 = .ok (.iload_n 3, 1) := by decide +kernel
theorem dX8_gives_57 : decode cX8_gives 57 = .ok (.ireturn, 1) := by decide +kernel
theorem dX8_sleeps_0 : decode cX8_sleeps 0 = .ok (.aload_n 0, 1) := by decide +kernel
theorem dX8_sleeps_1 : decode cX8_sleeps 1 = .ok (.getfield 19, 3) := by decide +kernel
theorem dX8_sleeps_4 : decode cX8_sleeps 4 = .ok (.iload_n 1, 1) := by decide +kernel
theorem dX8_sleeps_5 : decode cX8_sleeps 5 = .ok (.invokevirtual 137, 3) := by decide +kernel
theorem dX8_sleeps_8 : decode cX8_sleeps 8 = .ok (.ifCond .eq 23, 3) := by decide +kernel
theorem dX8_sleeps_11 : decode cX8_sleeps 11 = .ok (.aload_n 0, 1) := by decide +kernel
theorem dX8_sleeps_12 : decode cX8_sleeps 12 = .ok (.getfield 19, 3) := by decide +kernel
theorem dX8_sleeps_15 : decode cX8_sleeps 15 = .ok (.iload_n 2, 1) := by decide +kernel
theorem dX8_sleeps_16 : decode cX8_sleeps 16 = .ok (.invokevirtual 187, 3) := by decide +kernel
theorem dX8_sleeps_19 : decode cX8_sleeps 19 = .ok (.ifCond .eq 12, 3) := by decide +kernel
theorem dX8_sleeps_22 : decode cX8_sleeps 22 = .ok (.iload_n 3, 1) := by decide +kernel
theorem dX8_sleeps_23 : decode cX8_sleeps 23 = .ok (.ifCond .lt 8, 3) := by decide +kernel
theorem dX8_sleeps_26 : decode cX8_sleeps 26 = .ok (.iload_n 3, 1) := by decide +kernel
theorem dX8_sleeps_27 : decode cX8_sleeps 27 = .ok (.iconst 1, 1) := by decide +kernel
theorem dX8_sleeps_28 : decode cX8_sleeps 28 = .ok (.if_icmp .le 5, 3) := by decide +kernel
theorem dX8_sleeps_31 : decode cX8_sleeps 31 = .ok (.iconst (-1), 1) := by decide +kernel
theorem dX8_sleeps_32 : decode cX8_sleeps 32 = .ok (.ireturn, 1) := by decide +kernel
theorem dX8_sleeps_33 : decode cX8_sleeps 33 = .ok (.aload_n 0, 1) := by decide +kernel
theorem dX8_sleeps_34 : decode cX8_sleeps 34 = .ok (.getfield 29, 3) := by decide +kernel
theorem dX8_sleeps_37 : decode cX8_sleeps 37 = .ok (.getfield 152, 3) := by decide +kernel
theorem dX8_sleeps_40 : decode cX8_sleeps 40 = .ok (.iload_n 1, 1) := by decide +kernel
theorem dX8_sleeps_41 : decode cX8_sleeps 41 = .ok (.iaload, 1) := by decide +kernel
theorem dX8_sleeps_42 : decode cX8_sleeps 42 = .ok (.iload_n 2, 1) := by decide +kernel
theorem dX8_sleeps_43 : decode cX8_sleeps 43 = .ok (.ishr, 1) := by decide +kernel
theorem dX8_sleeps_44 : decode cX8_sleeps 44 = .ok (.iconst 1, 1) := by decide +kernel
theorem dX8_sleeps_45 : decode cX8_sleeps 45 = .ok (.iand, 1) := by decide +kernel
theorem dX8_sleeps_46 : decode cX8_sleeps 46 = .ok (.istore 4, 2) := by decide +kernel
theorem dX8_sleeps_48 : decode cX8_sleeps 48 = .ok (.aload_n 0, 1) := by decide +kernel
theorem dX8_sleeps_49 : decode cX8_sleeps 49 = .ok (.getfield 36, 3) := by decide +kernel
theorem dX8_sleeps_52 : decode cX8_sleeps 52 = .ok (.aload_n 0, 1) := by decide +kernel
theorem dX8_sleeps_53 : decode cX8_sleeps 53 = .ok (.getfield 29, 3) := by decide +kernel
theorem dX8_sleeps_56 : decode cX8_sleeps 56 = .ok (.invokevirtual 180, 3) := by decide +kernel
theorem dX8_sleeps_59 : decode cX8_sleeps 59 = .ok (.aload_n 0, 1) := by decide +kernel
theorem dX8_sleeps_60 : decode cX8_sleeps 60 = .ok (.getfield 29, 3) := by decide +kernel
theorem dX8_sleeps_63 : decode cX8_sleeps 63 = .ok (.getfield 152, 3) := by decide +kernel
theorem dX8_sleeps_66 : decode cX8_sleeps 66 = .ok (.iload_n 1, 1) := by decide +kernel
theorem dX8_sleeps_67 : decode cX8_sleeps 67 = .ok (.aload_n 0, 1) := by decide +kernel
theorem dX8_sleeps_68 : decode cX8_sleeps 68 = .ok (.getfield 29, 3) := by decide +kernel
theorem dX8_sleeps_71 : decode cX8_sleeps 71 = .ok (.getfield 152, 3) := by decide +kernel
theorem dX8_sleeps_74 : decode cX8_sleeps 74 = .ok (.iload_n 1, 1) := by decide +kernel
theorem dX8_sleeps_75 : decode cX8_sleeps 75 = .ok (.iaload, 1) := by decide +kernel
theorem dX8_sleeps_76 : decode cX8_sleeps 76 = .ok (.iconst 1, 1) := by decide +kernel
theorem dX8_sleeps_77 : decode cX8_sleeps 77 = .ok (.iload_n 2, 1) := by decide +kernel
theorem dX8_sleeps_78 : decode cX8_sleeps 78 = .ok (.ishl, 1) := by decide +kernel
theorem dX8_sleeps_79 : decode cX8_sleeps 79 = .ok (.iconst (-1), 1) := by decide +kernel
theorem dX8_sleeps_80 : decode cX8_sleeps 80 = .ok (.ixor, 1) := by decide +kernel
theorem dX8_sleeps_81 : decode cX8_sleeps 81 = .ok (.iand, 1) := by decide +kernel
theorem dX8_sleeps_82 : decode cX8_sleeps 82 = .ok (.iload_n 3, 1) := by decide +kernel
theorem dX8_sleeps_83 : decode cX8_sleeps 83 = .ok (.iload_n 2, 1) := by decide +kernel
theorem dX8_sleeps_84 : decode cX8_sleeps 84 = .ok (.ishl, 1) := by decide +kernel
theorem dX8_sleeps_85 : decode cX8_sleeps 85 = .ok (.ior, 1) := by decide +kernel
theorem dX8_sleeps_86 : decode cX8_sleeps 86 = .ok (.iastore, 1) := by decide +kernel
theorem dX8_sleeps_87 : decode cX8_sleeps 87 = .ok (.iload 4, 2) := by decide +kernel
theorem dX8_sleeps_89 : decode cX8_sleeps 89 = .ok (.ireturn, 1) := by decide +kernel
theorem dX8_evening_0 : decode cX8_evening 0 = .ok (.aload_n 0, 1) := by decide +kernel
theorem dX8_evening_1 : decode cX8_evening 1 = .ok (.getfield 29, 3) := by decide +kernel
theorem dX8_evening_4 : decode cX8_evening 4 = .ok (.getfield 171, 3) := by decide +kernel
theorem dX8_evening_7 : decode cX8_evening 7 = .ok (.sipush 999, 3) := by decide +kernel
theorem dX8_evening_10 : decode cX8_evening 10 = .ok (.if_icmp .lt 6, 3) := by decide +kernel
theorem dX8_evening_13 : decode cX8_evening 13 = .ok (.bipush (-2), 2) := by decide +kernel
theorem dX8_evening_15 : decode cX8_evening 15 = .ok (.ireturn, 1) := by decide +kernel
theorem dX8_evening_16 : decode cX8_evening 16 = .ok (.aload_n 0, 1) := by decide +kernel
theorem dX8_evening_17 : decode cX8_evening 17 = .ok (.getfield 36, 3) := by decide +kernel
theorem dX8_evening_20 : decode cX8_evening 20 = .ok (.aload_n 0, 1) := by decide +kernel
theorem dX8_evening_21 : decode cX8_evening 21 = .ok (.getfield 29, 3) := by decide +kernel
theorem dX8_evening_24 : decode cX8_evening 24 = .ok (.invokevirtual 180, 3) := by decide +kernel
theorem dX8_evening_27 : decode cX8_evening 27 = .ok (.aload_n 0, 1) := by decide +kernel
theorem dX8_evening_28 : decode cX8_evening 28 = .ok (.invokevirtual 140, 3) := by decide +kernel
theorem dX8_evening_31 : decode cX8_evening 31 = .ok (.iconst 0, 1) := by decide +kernel
theorem dX8_evening_32 : decode cX8_evening 32 = .ok (.istore_n 1, 1) := by decide +kernel
theorem dX8_evening_33 : decode cX8_evening 33 = .ok (.iconst 0, 1) := by decide +kernel
theorem dX8_evening_34 : decode cX8_evening 34 = .ok (.istore_n 2, 1) := by decide +kernel
theorem dX8_evening_35 : decode cX8_evening 35 = .ok (.iload_n 2, 1) := by decide +kernel
theorem dX8_evening_36 : decode cX8_evening 36 = .ok (.aload_n 0, 1) := by decide +kernel
theorem dX8_evening_37 : decode cX8_evening 37 = .ok (.getfield 19, 3) := by decide +kernel
theorem dX8_evening_40 : decode cX8_evening 40 = .ok (.getfield 190, 3) := by decide +kernel
theorem dX8_evening_43 : decode cX8_evening 43 = .ok (.if_icmp .ge 57, 3) := by decide +kernel
theorem dX8_evening_46 : decode cX8_evening 46 = .ok (.iload_n 1, 1) := by decide +kernel
theorem dX8_evening_47 : decode cX8_evening 47 = .ok (.aload_n 0, 1) := by decide +kernel
theorem dX8_evening_48 : decode cX8_evening 48 = .ok (.getfield 53, 3) := by decide +kernel
theorem dX8_evening_51 : decode cX8_evening 51 = .ok (.iload_n 2, 1) := by decide +kernel
theorem dX8_evening_52 : decode cX8_evening 52 = .ok (.invokevirtual 155, 3) := by decide +kernel
theorem dX8_evening_55 : decode cX8_evening 55 = .ok (.ifCond .eq 7, 3) := by decide +kernel
theorem dX8_evening_58 : decode cX8_evening 58 = .ok (.iconst 1, 1) := by decide +kernel
theorem dX8_evening_59 : decode cX8_evening 59 = .ok (.goto 4, 3) := by decide +kernel
theorem dX8_evening_62 : decode cX8_evening 62 = .ok (.iconst 0, 1) := by decide +kernel
theorem dX8_evening_63 : decode cX8_evening 63 = .ok (.iadd, 1) := by decide +kernel
theorem dX8_evening_64 : decode cX8_evening 64 = .ok (.istore_n 1, 1) := by decide +kernel
theorem dX8_evening_65 : decode cX8_evening 65 = .ok (.aload_n 0, 1) := by decide +kernel
theorem dX8_evening_66 : decode cX8_evening 66 = .ok (.getfield 29, 3) := by decide +kernel
theorem dX8_evening_69 : decode cX8_evening 69 = .ok (.getfield 168, 3) := by decide +kernel
theorem dX8_evening_72 : decode cX8_evening 72 = .ok (.iload_n 2, 1) := by decide +kernel
theorem dX8_evening_73 : decode cX8_evening 73 = .ok (.aload_n 0, 1) := by decide +kernel
theorem dX8_evening_74 : decode cX8_evening 74 = .ok (.getfield 29, 3) := by decide +kernel
theorem dX8_evening_77 : decode cX8_evening 77 = .ok (.getfield 168, 3) := by decide +kernel
theorem dX8_evening_80 : decode cX8_evening 80 = .ok (.iload_n 2, 1) := by decide +kernel
theorem dX8_evening_81 : decode cX8_evening 81 = .ok (.iaload, 1) := by decide +kernel
theorem dX8_evening_82 : decode cX8_evening 82 = .ok (.aload_n 0, 1) := by decide +kernel
theorem dX8_evening_83 : decode cX8_evening 83 = .ok (.getfield 53, 3) := by decide +kernel
theorem dX8_evening_86 : decode cX8_evening 86 = .ok (.iload_n 2, 1) := by decide +kernel
theorem dX8_evening_87 : decode cX8_evening 87 = .ok (.invokevirtual 193, 3) := by decide +kernel
theorem dX8_evening_90 : decode cX8_evening 90 = .ok (.invokestatic 196, 3) := by decide +kernel
theorem dX8_evening_93 : decode cX8_evening 93 = .ok (.iastore, 1) := by decide +kernel
theorem dX8_evening_94 : decode cX8_evening 94 = .ok (.iinc 2 1, 3) := by decide +kernel
theorem dX8_evening_97 : decode cX8_evening 97 = .ok (.goto (-62), 3) := by decide +kernel
theorem dX8_evening_100 : decode cX8_evening 100 = .ok (.aload_n 0, 1) := by decide +kernel
theorem dX8_evening_101 : decode cX8_evening 101 = .ok (.getfield 29, 3) := by decide +kernel
theorem dX8_evening_104 : decode cX8_evening 104 = .ok (.getfield 152, 3) := by decide +kernel
theorem dX8_evening_107 : decode cX8_evening 107 = .ok (.iconst 0, 1) := by decide +kernel
theorem dX8_evening_108 : decode cX8_evening 108 = .ok (.invokestatic 200, 3) := by decide +kernel
theorem dX8_evening_111 : decode cX8_evening 111 = .ok (.aload_n 0, 1) := by decide +kernel
theorem dX8_evening_112 : decode cX8_evening 112 = .ok (.getfield 29, 3) := by decide +kernel
theorem dX8_evening_115 : decode cX8_evening 115 = .ok (.dup, 1) := by decide +kernel
theorem dX8_evening_116 : decode cX8_evening 116 = .ok (.getfield 171, 3) := by decide +kernel
theorem dX8_evening_119 : decode cX8_evening 119 = .ok (.iconst 1, 1) := by decide +kernel
theorem dX8_evening_120 : decode cX8_evening 120 = .ok (.iadd, 1) := by decide +kernel
theorem dX8_evening_121 : decode cX8_evening 121 = .ok (.putfield 171, 3) := by decide +kernel
theorem dX8_evening_124 : decode cX8_evening 124 = .ok (.iload_n 1, 1) := by decide +kernel
theorem dX8_evening_125 : decode cX8_evening 125 = .ok (.ireturn, 1) := by decide +kernel
theorem dX8_undo_0 : decode cX8_undo 0 = .ok (.aload_n 0, 1) := by decide +kernel
theorem dX8_undo_1 : decode cX8_undo 1 = .ok (.getfield 36, 3) := by decide +kernel
theorem dX8_undo_4 : decode cX8_undo 4 = .ok (.getfield 177, 3) := by decide +kernel
theorem dX8_undo_7 : decode cX8_undo 7 = .ok (.ifCond .ne 6, 3) := by decide +kernel
theorem dX8_undo_10 : decode cX8_undo 10 = .ok (.bipush (-2), 2) := by decide +kernel
theorem dX8_undo_12 : decode cX8_undo 12 = .ok (.ireturn, 1) := by decide +kernel
theorem dX8_undo_13 : decode cX8_undo 13 = .ok (.aload_n 0, 1) := by decide +kernel
theorem dX8_undo_14 : decode cX8_undo 14 = .ok (.getfield 36, 3) := by decide +kernel
theorem dX8_undo_17 : decode cX8_undo 17 = .ok (.aload_n 0, 1) := by decide +kernel
theorem dX8_undo_18 : decode cX8_undo 18 = .ok (.getfield 29, 3) := by decide +kernel
theorem dX8_undo_21 : decode cX8_undo 21 = .ok (.invokevirtual 206, 3) := by decide +kernel
theorem dX8_undo_24 : decode cX8_undo 24 = .ok (.aload_n 0, 1) := by decide +kernel
theorem dX8_undo_25 : decode cX8_undo 25 = .ok (.getfield 36, 3) := by decide +kernel
theorem dX8_undo_28 : decode cX8_undo 28 = .ok (.getfield 177, 3) := by decide +kernel
theorem dX8_undo_31 : decode cX8_undo 31 = .ok (.ireturn, 1) := by decide +kernel
theorem dX8_share_0 : decode cX8_share 0 = .ok (.iload_n 1, 1) := by decide +kernel
theorem dX8_share_1 : decode cX8_share 1 = .ok (.iconst (-1), 1) := by decide +kernel
theorem dX8_share_2 : decode cX8_share 2 = .ok (.if_icmp .eq 17, 3) := by decide +kernel
theorem dX8_share_5 : decode cX8_share 5 = .ok (.aload_n 0, 1) := by decide +kernel
theorem dX8_share_6 : decode cX8_share 6 = .ok (.getfield 19, 3) := by decide +kernel
theorem dX8_share_9 : decode cX8_share 9 = .ok (.iload_n 1, 1) := by decide +kernel
theorem dX8_share_10 : decode cX8_share 10 = .ok (.invokevirtual 123, 3) := by decide +kernel
theorem dX8_share_13 : decode cX8_share 13 = .ok (.ifCond .ne 6, 3) := by decide +kernel
theorem dX8_share_16 : decode cX8_share 16 = .ok (.ldc 164, 2) := by decide +kernel
theorem dX8_share_18 : decode cX8_share 18 = .ok (.ireturn, 1) := by decide +kernel
theorem dX8_share_19 : decode cX8_share 19 = .ok (.aload_n 0, 1) := by decide +kernel
theorem dX8_share_20 : decode cX8_share 20 = .ok (.getfield 62, 3) := by decide +kernel
theorem dX8_share_23 : decode cX8_share 23 = .ok (.invokevirtual 209, 3) := by decide +kernel
theorem dX8_share_26 : decode cX8_share 26 = .ok (.iload_n 1, 1) := by decide +kernel
theorem dX8_share_27 : decode cX8_share 27 = .ok (.iconst (-1), 1) := by decide +kernel
theorem dX8_share_28 : decode cX8_share 28 = .ok (.if_icmp .eq 15, 3) := by decide +kernel
theorem dX8_share_31 : decode cX8_share 31 = .ok (.aload_n 0, 1) := by decide +kernel
theorem dX8_share_32 : decode cX8_share 32 = .ok (.getfield 62, 3) := by decide +kernel
theorem dX8_share_35 : decode cX8_share 35 = .ok (.getfield 212, 3) := by decide +kernel
theorem dX8_share_38 : decode cX8_share 38 = .ok (.bipush (-9), 2) := by decide +kernel
theorem dX8_share_40 : decode cX8_share 40 = .ok (.if_icmp .ne 11, 3) := by decide +kernel
theorem dX8_share_43 : decode cX8_share 43 = .ok (.aload_n 0, 1) := by decide +kernel
theorem dX8_share_44 : decode cX8_share 44 = .ok (.getfield 62, 3) := by decide +kernel
theorem dX8_share_47 : decode cX8_share 47 = .ok (.getfield 212, 3) := by decide +kernel
theorem dX8_share_50 : decode cX8_share 50 = .ok (.ireturn, 1) := by decide +kernel
theorem dX8_share_51 : decode cX8_share 51 = .ok (.aload_n 0, 1) := by decide +kernel
theorem dX8_share_52 : decode cX8_share 52 = .ok (.getfield 62, 3) := by decide +kernel
theorem dX8_share_55 : decode cX8_share 55 = .ok (.getfield 215, 3) := by decide +kernel
theorem dX8_share_58 : decode cX8_share 58 = .ok (.iload_n 1, 1) := by decide +kernel
theorem dX8_share_59 : decode cX8_share 59 = .ok (.iaload, 1) := by decide +kernel
theorem dX8_share_60 : decode cX8_share 60 = .ok (.ireturn, 1) := by decide +kernel
theorem dX8_costs_0 : decode cX8_costs 0 = .ok (.aload_n 0, 1) := by decide +kernel
theorem dX8_costs_1 : decode cX8_costs 1 = .ok (.getfield 19, 3) := by decide +kernel
theorem dX8_costs_4 : decode cX8_costs 4 = .ok (.iload_n 1, 1) := by decide +kernel
theorem dX8_costs_5 : decode cX8_costs 5 = .ok (.invokevirtual 123, 3) := by decide +kernel
theorem dX8_costs_8 : decode cX8_costs 8 = .ok (.ifCond .eq 11, 3) := by decide +kernel
theorem dX8_costs_11 : decode cX8_costs 11 = .ok (.aload_n 0, 1) := by decide +kernel
theorem dX8_costs_12 : decode cX8_costs 12 = .ok (.iload_n 1, 1) := by decide +kernel
theorem dX8_costs_13 : decode cX8_costs 13 = .ok (.invokevirtual 218, 3) := by decide +kernel
theorem dX8_costs_16 : decode cX8_costs 16 = .ok (.goto 5, 3) := by decide +kernel
theorem dX8_costs_19 : decode cX8_costs 19 = .ok (.ldc 164, 2) := by decide +kernel
theorem dX8_costs_21 : decode cX8_costs 21 = .ok (.ireturn, 1) := by decide +kernel
theorem dX8_exchange_0 : decode cX8_exchange 0 = .ok (.aload_n 0, 1) := by decide +kernel
theorem dX8_exchange_1 : decode cX8_exchange 1 = .ok (.invokevirtual 140, 3) := by decide +kernel
theorem dX8_exchange_4 : decode cX8_exchange 4 = .ok (.aload_n 0, 1) := by decide +kernel
theorem dX8_exchange_5 : decode cX8_exchange 5 = .ok (.getfield 53, 3) := by decide +kernel
theorem dX8_exchange_8 : decode cX8_exchange 8 = .ok (.invokevirtual 221, 3) := by decide +kernel
theorem dX8_exchange_11 : decode cX8_exchange 11 = .ok (.istore_n 1, 1) := by decide +kernel
theorem dX8_exchange_12 : decode cX8_exchange 12 = .ok (.bipush (-9), 2) := by decide +kernel
theorem dX8_exchange_14 : decode cX8_exchange 14 = .ok (.istore_n 2, 1) := by decide +kernel
theorem dX8_exchange_15 : decode cX8_exchange 15 = .ok (.iconst 0, 1) := by decide +kernel
theorem dX8_exchange_16 : decode cX8_exchange 16 = .ok (.istore_n 3, 1) := by decide +kernel
theorem dX8_exchange_17 : decode cX8_exchange 17 = .ok (.iload_n 3, 1) := by decide +kernel
theorem dX8_exchange_18 : decode cX8_exchange 18 = .ok (.aload_n 0, 1) := by decide +kernel
theorem dX8_exchange_19 : decode cX8_exchange 19 = .ok (.getfield 19, 3) := by decide +kernel
theorem dX8_exchange_22 : decode cX8_exchange 22 = .ok (.getfield 224, 3) := by decide +kernel
theorem dX8_exchange_25 : decode cX8_exchange 25 = .ok (.if_icmp .ge 58, 3) := by decide +kernel
theorem dX8_exchange_28 : decode cX8_exchange 28 = .ok (.iload_n 3, 1) := by decide +kernel
theorem dX8_exchange_29 : decode cX8_exchange 29 = .ok (.iconst 1, 1) := by decide +kernel
theorem dX8_exchange_30 : decode cX8_exchange 30 = .ok (.iadd, 1) := by decide +kernel
theorem dX8_exchange_31 : decode cX8_exchange 31 = .ok (.istore 4, 2) := by decide +kernel
theorem dX8_exchange_33 : decode cX8_exchange 33 = .ok (.iload 4, 2) := by decide +kernel
theorem dX8_exchange_35 : decode cX8_exchange 35 = .ok (.aload_n 0, 1) := by decide +kernel
theorem dX8_exchange_36 : decode cX8_exchange 36 = .ok (.getfield 19, 3) := by decide +kernel
theorem dX8_exchange_39 : decode cX8_exchange 39 = .ok (.getfield 224, 3) := by decide +kernel
theorem dX8_exchange_42 : decode cX8_exchange 42 = .ok (.if_icmp .ge 35, 3) := by decide +kernel
theorem dX8_exchange_45 : decode cX8_exchange 45 = .ok (.aload_n 0, 1) := by decide +kernel
theorem dX8_exchange_46 : decode cX8_exchange 46 = .ok (.iload_n 3, 1) := by decide +kernel
theorem dX8_exchange_47 : decode cX8_exchange 47 = .ok (.iload 4, 2) := by decide +kernel
theorem dX8_exchange_49 : decode cX8_exchange 49 = .ok (.invokevirtual 227, 3) := by decide +kernel
theorem dX8_exchange_52 : decode cX8_exchange 52 = .ok (.istore 5, 2) := by decide +kernel
theorem dX8_exchange_54 : decode cX8_exchange 54 = .ok (.iload 5, 2) := by decide +kernel
theorem dX8_exchange_56 : decode cX8_exchange 56 = .ok (.iload_n 1, 1) := by decide +kernel
theorem dX8_exchange_57 : decode cX8_exchange 57 = .ok (.if_icmp .le 14, 3) := by decide +kernel
theorem dX8_exchange_60 : decode cX8_exchange 60 = .ok (.iload 5, 2) := by decide +kernel
theorem dX8_exchange_62 : decode cX8_exchange 62 = .ok (.istore_n 1, 1) := by decide +kernel
theorem dX8_exchange_63 : decode cX8_exchange 63 = .ok (.bipush 10, 2) := by decide +kernel
theorem dX8_exchange_65 : decode cX8_exchange 65 = .ok (.iload_n 3, 1) := by decide +kernel
theorem dX8_exchange_66 : decode cX8_exchange 66 = .ok (.imul, 1) := by decide +kernel
theorem dX8_exchange_67 : decode cX8_exchange 67 = .ok (.iload 4, 2) := by decide +kernel
theorem dX8_exchange_69 : decode cX8_exchange 69 = .ok (.iadd, 1) := by decide +kernel
theorem dX8_exchange_70 : decode cX8_exchange 70 = .ok (.istore_n 2, 1) := by decide +kernel
theorem dX8_exchange_71 : decode cX8_exchange 71 = .ok (.iinc 4 1, 3) := by decide +kernel
theorem dX8_exchange_74 : decode cX8_exchange 74 = .ok (.goto (-41), 3) := by decide +kernel
theorem dX8_exchange_77 : decode cX8_exchange 77 = .ok (.iinc 3 1, 3) := by decide +kernel
theorem dX8_exchange_80 : decode cX8_exchange 80 = .ok (.goto (-63), 3) := by decide +kernel
theorem dX8_exchange_83 : decode cX8_exchange 83 = .ok (.iload_n 2, 1) := by decide +kernel
theorem dX8_exchange_84 : decode cX8_exchange 84 = .ok (.ireturn, 1) := by decide +kernel
theorem dX8_leftOut_0 : decode cX8_leftOut 0 = .ok (.aload_n 0, 1) := by decide +kernel
theorem dX8_leftOut_1 : decode cX8_leftOut 1 = .ok (.getfield 19, 3) := by decide +kernel
theorem dX8_leftOut_4 : decode cX8_leftOut 4 = .ok (.iload_n 1, 1) := by decide +kernel
theorem dX8_leftOut_5 : decode cX8_leftOut 5 = .ok (.invokevirtual 137, 3) := by decide +kernel
theorem dX8_leftOut_8 : decode cX8_leftOut 8 = .ok (.ifCond .eq 12, 3) := by decide +kernel
theorem dX8_leftOut_11 : decode cX8_leftOut 11 = .ok (.iload_n 2, 1) := by decide +kernel
theorem dX8_leftOut_12 : decode cX8_leftOut 12 = .ok (.ifCond .lt 8, 3) := by decide +kernel
theorem dX8_leftOut_15 : decode cX8_leftOut 15 = .ok (.iload_n 2, 1) := by decide +kernel
theorem dX8_leftOut_16 : decode cX8_leftOut 16 = .ok (.iconst 1, 1) := by decide +kernel
theorem dX8_leftOut_17 : decode cX8_leftOut 17 = .ok (.if_icmp .le 5, 3) := by decide +kernel
theorem dX8_leftOut_20 : decode cX8_leftOut 20 = .ok (.iconst (-1), 1) := by decide +kernel
theorem dX8_leftOut_21 : decode cX8_leftOut 21 = .ok (.ireturn, 1) := by decide +kernel
theorem dX8_leftOut_22 : decode cX8_leftOut 22 = .ok (.aload_n 0, 1) := by decide +kernel
theorem dX8_leftOut_23 : decode cX8_leftOut 23 = .ok (.invokevirtual 140, 3) := by decide +kernel
theorem dX8_leftOut_26 : decode cX8_leftOut 26 = .ok (.aload_n 0, 1) := by decide +kernel
theorem dX8_leftOut_27 : decode cX8_leftOut 27 = .ok (.getfield 69, 3) := by decide +kernel
theorem dX8_leftOut_30 : decode cX8_leftOut 30 = .ok (.iload_n 1, 1) := by decide +kernel
theorem dX8_leftOut_31 : decode cX8_leftOut 31 = .ok (.invokevirtual 230, 3) := by decide +kernel
theorem dX8_leftOut_34 : decode cX8_leftOut 34 = .ok (.aload_n 0, 1) := by decide +kernel
theorem dX8_leftOut_35 : decode cX8_leftOut 35 = .ok (.getfield 69, 3) := by decide +kernel
theorem dX8_leftOut_38 : decode cX8_leftOut 38 = .ok (.invokevirtual 234, 3) := by decide +kernel
theorem dX8_leftOut_41 : decode cX8_leftOut 41 = .ok (.istore_n 3, 1) := by decide +kernel
theorem dX8_leftOut_42 : decode cX8_leftOut 42 = .ok (.iload_n 2, 1) := by decide +kernel
theorem dX8_leftOut_43 : decode cX8_leftOut 43 = .ok (.ifCond .eq 9, 3) := by decide +kernel
theorem dX8_leftOut_46 : decode cX8_leftOut 46 = .ok (.iload_n 3, 1) := by decide +kernel
theorem dX8_leftOut_47 : decode cX8_leftOut 47 = .ok (.bipush (-9), 2) := by decide +kernel
theorem dX8_leftOut_49 : decode cX8_leftOut 49 = .ok (.if_icmp .ne 7, 3) := by decide +kernel
theorem dX8_leftOut_52 : decode cX8_leftOut 52 = .ok (.iload_n 3, 1) := by decide +kernel
theorem dX8_leftOut_53 : decode cX8_leftOut 53 = .ok (.goto 11, 3) := by decide +kernel
theorem dX8_leftOut_56 : decode cX8_leftOut 56 = .ok (.aload_n 0, 1) := by decide +kernel
theorem dX8_leftOut_57 : decode cX8_leftOut 57 = .ok (.getfield 69, 3) := by decide +kernel
theorem dX8_leftOut_60 : decode cX8_leftOut 60 = .ok (.iload_n 3, 1) := by decide +kernel
theorem dX8_leftOut_61 : decode cX8_leftOut 61 = .ok (.invokevirtual 237, 3) := by decide +kernel
theorem dX8_leftOut_64 : decode cX8_leftOut 64 = .ok (.ireturn, 1) := by decide +kernel
theorem dX8_bars_0 : decode cX8_bars 0 = .ok (.aload_n 0, 1) := by decide +kernel
theorem dX8_bars_1 : decode cX8_bars 1 = .ok (.invokevirtual 140, 3) := by decide +kernel
theorem dX8_bars_4 : decode cX8_bars 4 = .ok (.iload_n 1, 1) := by decide +kernel
theorem dX8_bars_5 : decode cX8_bars 5 = .ok (.tableswitch 54 0 2 #[27, 35, 43], 27) := by decide +kernel
theorem dX8_bars_32 : decode cX8_bars 32 = .ok (.aload_n 0, 1) := by decide +kernel
theorem dX8_bars_33 : decode cX8_bars 33 = .ok (.getfield 53, 3) := by decide +kernel
theorem dX8_bars_36 : decode cX8_bars 36 = .ok (.invokevirtual 240, 3) := by decide +kernel
theorem dX8_bars_39 : decode cX8_bars 39 = .ok (.ireturn, 1) := by decide +kernel
theorem dX8_bars_40 : decode cX8_bars 40 = .ok (.aload_n 0, 1) := by decide +kernel
theorem dX8_bars_41 : decode cX8_bars 41 = .ok (.getfield 53, 3) := by decide +kernel
theorem dX8_bars_44 : decode cX8_bars 44 = .ok (.invokevirtual 243, 3) := by decide +kernel
theorem dX8_bars_47 : decode cX8_bars 47 = .ok (.ireturn, 1) := by decide +kernel
theorem dX8_bars_48 : decode cX8_bars 48 = .ok (.aload_n 0, 1) := by decide +kernel
theorem dX8_bars_49 : decode cX8_bars 49 = .ok (.getfield 53, 3) := by decide +kernel
theorem dX8_bars_52 : decode cX8_bars 52 = .ok (.invokevirtual 240, 3) := by decide +kernel
theorem dX8_bars_55 : decode cX8_bars 55 = .ok (.invokestatic 246, 3) := by decide +kernel
theorem dX8_bars_58 : decode cX8_bars 58 = .ok (.ireturn, 1) := by decide +kernel
theorem dX8_bars_59 : decode cX8_bars 59 = .ok (.iconst (-1), 1) := by decide +kernel
theorem dX8_bars_60 : decode cX8_bars 60 = .ok (.ireturn, 1) := by decide +kernel
theorem dX8_heard_0 : decode cX8_heard 0 = .ok (.aload_n 0, 1) := by decide +kernel
theorem dX8_heard_1 : decode cX8_heard 1 = .ok (.getfield 19, 3) := by decide +kernel
theorem dX8_heard_4 : decode cX8_heard 4 = .ok (.iload_n 1, 1) := by decide +kernel
theorem dX8_heard_5 : decode cX8_heard 5 = .ok (.invokevirtual 187, 3) := by decide +kernel
theorem dX8_heard_8 : decode cX8_heard 8 = .ok (.ifCond .eq 16, 3) := by decide +kernel
theorem dX8_heard_11 : decode cX8_heard 11 = .ok (.aload_n 0, 1) := by decide +kernel
theorem dX8_heard_12 : decode cX8_heard 12 = .ok (.iload_n 1, 1) := by decide +kernel
theorem dX8_heard_13 : decode cX8_heard 13 = .ok (.aload_n 0, 1) := by decide +kernel
theorem dX8_heard_14 : decode cX8_heard 14 = .ok (.iload_n 1, 1) := by decide +kernel
theorem dX8_heard_15 : decode cX8_heard 15 = .ok (.invokevirtual 249, 3) := by decide +kernel
theorem dX8_heard_18 : decode cX8_heard 18 = .ok (.invokevirtual 252, 3) := by decide +kernel
theorem dX8_heard_21 : decode cX8_heard 21 = .ok (.goto 4, 3) := by decide +kernel
theorem dX8_heard_24 : decode cX8_heard 24 = .ok (.iconst (-1), 1) := by decide +kernel
theorem dX8_heard_25 : decode cX8_heard 25 = .ok (.ireturn, 1) := by decide +kernel
theorem dX8_rests_0 : decode cX8_rests 0 = .ok (.aload_n 0, 1) := by decide +kernel
theorem dX8_rests_1 : decode cX8_rests 1 = .ok (.getfield 19, 3) := by decide +kernel
theorem dX8_rests_4 : decode cX8_rests 4 = .ok (.iload_n 1, 1) := by decide +kernel
theorem dX8_rests_5 : decode cX8_rests 5 = .ok (.invokevirtual 187, 3) := by decide +kernel
theorem dX8_rests_8 : decode cX8_rests 8 = .ok (.ifCond .ne 5, 3) := by decide +kernel
theorem dX8_rests_11 : decode cX8_rests 11 = .ok (.iconst (-1), 1) := by decide +kernel
theorem dX8_rests_12 : decode cX8_rests 12 = .ok (.ireturn, 1) := by decide +kernel
theorem dX8_rests_13 : decode cX8_rests 13 = .ok (.aload_n 0, 1) := by decide +kernel
theorem dX8_rests_14 : decode cX8_rests 14 = .ok (.invokevirtual 140, 3) := by decide +kernel
theorem dX8_rests_17 : decode cX8_rests 17 = .ok (.aload_n 0, 1) := by decide +kernel
theorem dX8_rests_18 : decode cX8_rests 18 = .ok (.getfield 53, 3) := by decide +kernel
theorem dX8_rests_21 : decode cX8_rests 21 = .ok (.iload_n 1, 1) := by decide +kernel
theorem dX8_rests_22 : decode cX8_rests 22 = .ok (.invokevirtual 255, 3) := by decide +kernel
theorem dX8_rests_25 : decode cX8_rests 25 = .ok (.ireturn, 1) := by decide +kernel
theorem dX8_first_0 : decode cX8_first 0 = .ok (.aload_n 0, 1) := by decide +kernel
theorem dX8_first_1 : decode cX8_first 1 = .ok (.invokevirtual 140, 3) := by decide +kernel
theorem dX8_first_4 : decode cX8_first 4 = .ok (.bipush (-9), 2) := by decide +kernel
theorem dX8_first_6 : decode cX8_first 6 = .ok (.istore_n 1, 1) := by decide +kernel
theorem dX8_first_7 : decode cX8_first 7 = .ok (.iconst (-1), 1) := by decide +kernel
theorem dX8_first_8 : decode cX8_first 8 = .ok (.istore_n 2, 1) := by decide +kernel
theorem dX8_first_9 : decode cX8_first 9 = .ok (.iconst 0, 1) := by decide +kernel
theorem dX8_first_10 : decode cX8_first 10 = .ok (.istore_n 3, 1) := by decide +kernel
theorem dX8_first_11 : decode cX8_first 11 = .ok (.iload_n 3, 1) := by decide +kernel
theorem dX8_first_12 : decode cX8_first 12 = .ok (.aload_n 0, 1) := by decide +kernel
theorem dX8_first_13 : decode cX8_first 13 = .ok (.getfield 19, 3) := by decide +kernel
theorem dX8_first_16 : decode cX8_first 16 = .ok (.getfield 190, 3) := by decide +kernel
theorem dX8_first_19 : decode cX8_first 19 = .ok (.if_icmp .ge 34, 3) := by decide +kernel
theorem dX8_first_22 : decode cX8_first 22 = .ok (.aload_n 0, 1) := by decide +kernel
theorem dX8_first_23 : decode cX8_first 23 = .ok (.getfield 53, 3) := by decide +kernel
theorem dX8_first_26 : decode cX8_first 26 = .ok (.getfield 258, 3) := by decide +kernel
theorem dX8_first_29 : decode cX8_first 29 = .ok (.iload_n 3, 1) := by decide +kernel
theorem dX8_first_30 : decode cX8_first 30 = .ok (.iaload, 1) := by decide +kernel
theorem dX8_first_31 : decode cX8_first 31 = .ok (.invokestatic 261, 3) := by decide +kernel
theorem dX8_first_34 : decode cX8_first 34 = .ok (.istore 4, 2) := by decide +kernel
theorem dX8_first_36 : decode cX8_first 36 = .ok (.iload 4, 2) := by decide +kernel
theorem dX8_first_38 : decode cX8_first 38 = .ok (.iload_n 2, 1) := by decide +kernel
theorem dX8_first_39 : decode cX8_first 39 = .ok (.if_icmp .le 8, 3) := by decide +kernel
theorem dX8_first_42 : decode cX8_first 42 = .ok (.iload 4, 2) := by decide +kernel
theorem dX8_first_44 : decode cX8_first 44 = .ok (.istore_n 2, 1) := by decide +kernel
theorem dX8_first_45 : decode cX8_first 45 = .ok (.iload_n 3, 1) := by decide +kernel
theorem dX8_first_46 : decode cX8_first 46 = .ok (.istore_n 1, 1) := by decide +kernel
theorem dX8_first_47 : decode cX8_first 47 = .ok (.iinc 3 1, 3) := by decide +kernel
theorem dX8_first_50 : decode cX8_first 50 = .ok (.goto (-39), 3) := by decide +kernel
theorem dX8_first_53 : decode cX8_first 53 = .ok (.iload_n 1, 1) := by decide +kernel
theorem dX8_first_54 : decode cX8_first 54 = .ok (.ireturn, 1) := by decide +kernel
theorem dX8_noted_0 : decode cX8_noted 0 = .ok (.aload_n 0, 1) := by decide +kernel
theorem dX8_noted_1 : decode cX8_noted 1 = .ok (.getfield 19, 3) := by decide +kernel
theorem dX8_noted_4 : decode cX8_noted 4 = .ok (.iload_n 1, 1) := by decide +kernel
theorem dX8_noted_5 : decode cX8_noted 5 = .ok (.invokevirtual 187, 3) := by decide +kernel
theorem dX8_noted_8 : decode cX8_noted 8 = .ok (.ifCond .eq 13, 3) := by decide +kernel
theorem dX8_noted_11 : decode cX8_noted 11 = .ok (.iload_n 2, 1) := by decide +kernel
theorem dX8_noted_12 : decode cX8_noted 12 = .ok (.ifCond .lt 9, 3) := by decide +kernel
theorem dX8_noted_15 : decode cX8_noted 15 = .ok (.iload_n 2, 1) := by decide +kernel
theorem dX8_noted_16 : decode cX8_noted 16 = .ok (.bipush 45, 2) := by decide +kernel
theorem dX8_noted_18 : decode cX8_noted 18 = .ok (.if_icmp .le 5, 3) := by decide +kernel
theorem dX8_noted_21 : decode cX8_noted 21 = .ok (.iconst (-1), 1) := by decide +kernel
theorem dX8_noted_22 : decode cX8_noted 22 = .ok (.ireturn, 1) := by decide +kernel
theorem dX8_noted_23 : decode cX8_noted 23 = .ok (.aload_n 0, 1) := by decide +kernel
theorem dX8_noted_24 : decode cX8_noted 24 = .ok (.getfield 90, 3) := by decide +kernel
theorem dX8_noted_27 : decode cX8_noted 27 = .ok (.bipush 6, 2) := by decide +kernel
theorem dX8_noted_29 : decode cX8_noted 29 = .ok (.if_icmp .lt 6, 3) := by decide +kernel
theorem dX8_noted_32 : decode cX8_noted 32 = .ok (.bipush (-3), 2) := by decide +kernel
theorem dX8_noted_34 : decode cX8_noted 34 = .ok (.ireturn, 1) := by decide +kernel
theorem dX8_noted_35 : decode cX8_noted 35 = .ok (.aload_n 0, 1) := by decide +kernel
theorem dX8_noted_36 : decode cX8_noted 36 = .ok (.getfield 84, 3) := by decide +kernel
theorem dX8_noted_39 : decode cX8_noted 39 = .ok (.aload_n 0, 1) := by decide +kernel
theorem dX8_noted_40 : decode cX8_noted 40 = .ok (.getfield 90, 3) := by decide +kernel
theorem dX8_noted_43 : decode cX8_noted 43 = .ok (.iload_n 1, 1) := by decide +kernel
theorem dX8_noted_44 : decode cX8_noted 44 = .ok (.iastore, 1) := by decide +kernel
theorem dX8_noted_45 : decode cX8_noted 45 = .ok (.aload_n 0, 1) := by decide +kernel
theorem dX8_noted_46 : decode cX8_noted 46 = .ok (.getfield 87, 3) := by decide +kernel
theorem dX8_noted_49 : decode cX8_noted 49 = .ok (.aload_n 0, 1) := by decide +kernel
theorem dX8_noted_50 : decode cX8_noted 50 = .ok (.getfield 90, 3) := by decide +kernel
theorem dX8_noted_53 : decode cX8_noted 53 = .ok (.iload_n 2, 1) := by decide +kernel
theorem dX8_noted_54 : decode cX8_noted 54 = .ok (.iastore, 1) := by decide +kernel
theorem dX8_noted_55 : decode cX8_noted 55 = .ok (.aload_n 0, 1) := by decide +kernel
theorem dX8_noted_56 : decode cX8_noted 56 = .ok (.dup, 1) := by decide +kernel
theorem dX8_noted_57 : decode cX8_noted 57 = .ok (.getfield 90, 3) := by decide +kernel
theorem dX8_noted_60 : decode cX8_noted 60 = .ok (.iconst 1, 1) := by decide +kernel
theorem dX8_noted_61 : decode cX8_noted 61 = .ok (.iadd, 1) := by decide +kernel
theorem dX8_noted_62 : decode cX8_noted 62 = .ok (.putfield 90, 3) := by decide +kernel
theorem dX8_noted_65 : decode cX8_noted 65 = .ok (.aload_n 0, 1) := by decide +kernel
theorem dX8_noted_66 : decode cX8_noted 66 = .ok (.getfield 90, 3) := by decide +kernel
theorem dX8_noted_69 : decode cX8_noted 69 = .ok (.ireturn, 1) := by decide +kernel
theorem dX8_forget_0 : decode cX8_forget 0 = .ok (.aload_n 0, 1) := by decide +kernel
theorem dX8_forget_1 : decode cX8_forget 1 = .ok (.getfield 90, 3) := by decide +kernel
theorem dX8_forget_4 : decode cX8_forget 4 = .ok (.istore_n 1, 1) := by decide +kernel
theorem dX8_forget_5 : decode cX8_forget 5 = .ok (.aload_n 0, 1) := by decide +kernel
theorem dX8_forget_6 : decode cX8_forget 6 = .ok (.iconst 0, 1) := by decide +kernel
theorem dX8_forget_7 : decode cX8_forget 7 = .ok (.putfield 90, 3) := by decide +kernel
theorem dX8_forget_10 : decode cX8_forget 10 = .ok (.iload_n 1, 1) := by decide +kernel
theorem dX8_forget_11 : decode cX8_forget 11 = .ok (.ireturn, 1) := by decide +kernel
theorem dX8_who_0 : decode cX8_who 0 = .ok (.aload_n 0, 1) := by decide +kernel
theorem dX8_who_1 : decode cX8_who 1 = .ok (.iconst 0, 1) := by decide +kernel
theorem dX8_who_2 : decode cX8_who 2 = .ok (.invokevirtual 266, 3) := by decide +kernel
theorem dX8_who_5 : decode cX8_who 5 = .ok (.ifCond .eq 8, 3) := by decide +kernel
theorem dX8_who_8 : decode cX8_who 8 = .ok (.bipush 32, 2) := by decide +kernel
theorem dX8_who_10 : decode cX8_who 10 = .ok (.goto 4, 3) := by decide +kernel
theorem dX8_who_13 : decode cX8_who 13 = .ok (.iconst 0, 1) := by decide +kernel
theorem dX8_who_14 : decode cX8_who 14 = .ok (.istore_n 1, 1) := by decide +kernel
theorem dX8_who_15 : decode cX8_who 15 = .ok (.iconst 0, 1) := by decide +kernel
theorem dX8_who_16 : decode cX8_who 16 = .ok (.istore_n 2, 1) := by decide +kernel
theorem dX8_who_17 : decode cX8_who 17 = .ok (.iload_n 2, 1) := by decide +kernel
theorem dX8_who_18 : decode cX8_who 18 = .ok (.aload_n 0, 1) := by decide +kernel
theorem dX8_who_19 : decode cX8_who 19 = .ok (.getfield 19, 3) := by decide +kernel
theorem dX8_who_22 : decode cX8_who 22 = .ok (.getfield 190, 3) := by decide +kernel
theorem dX8_who_25 : decode cX8_who 25 = .ok (.if_icmp .ge 29, 3) := by decide +kernel
theorem dX8_who_28 : decode cX8_who 28 = .ok (.iload_n 1, 1) := by decide +kernel
theorem dX8_who_29 : decode cX8_who 29 = .ok (.aload_n 0, 1) := by decide +kernel
theorem dX8_who_30 : decode cX8_who 30 = .ok (.iconst 1, 1) := by decide +kernel
theorem dX8_who_31 : decode cX8_who 31 = .ok (.iload_n 2, 1) := by decide +kernel
theorem dX8_who_32 : decode cX8_who 32 = .ok (.ishl, 1) := by decide +kernel
theorem dX8_who_33 : decode cX8_who 33 = .ok (.invokevirtual 266, 3) := by decide +kernel
theorem dX8_who_36 : decode cX8_who 36 = .ok (.ifCond .eq 9, 3) := by decide +kernel
theorem dX8_who_39 : decode cX8_who 39 = .ok (.iconst 1, 1) := by decide +kernel
theorem dX8_who_40 : decode cX8_who 40 = .ok (.iload_n 2, 1) := by decide +kernel
theorem dX8_who_41 : decode cX8_who 41 = .ok (.ishl, 1) := by decide +kernel
theorem dX8_who_42 : decode cX8_who 42 = .ok (.goto 4, 3) := by decide +kernel
theorem dX8_who_45 : decode cX8_who 45 = .ok (.iconst 0, 1) := by decide +kernel
theorem dX8_who_46 : decode cX8_who 46 = .ok (.ior, 1) := by decide +kernel
theorem dX8_who_47 : decode cX8_who 47 = .ok (.istore_n 1, 1) := by decide +kernel
theorem dX8_who_48 : decode cX8_who 48 = .ok (.iinc 2 1, 3) := by decide +kernel
theorem dX8_who_51 : decode cX8_who 51 = .ok (.goto (-34), 3) := by decide +kernel
theorem dX8_who_54 : decode cX8_who 54 = .ok (.iload_n 1, 1) := by decide +kernel
theorem dX8_who_55 : decode cX8_who 55 = .ok (.ireturn, 1) := by decide +kernel
theorem dX8_broke_0 : decode cX8_broke 0 = .ok (.aload_n 0, 1) := by decide +kernel
theorem dX8_broke_1 : decode cX8_broke 1 = .ok (.getfield 76, 3) := by decide +kernel
theorem dX8_broke_4 : decode cX8_broke 4 = .ok (.aload_n 0, 1) := by decide +kernel
theorem dX8_broke_5 : decode cX8_broke 5 = .ok (.getfield 29, 3) := by decide +kernel
theorem dX8_broke_8 : decode cX8_broke 8 = .ok (.invokevirtual 269, 3) := by decide +kernel
theorem dX8_broke_11 : decode cX8_broke 11 = .ok (.iconst 0, 1) := by decide +kernel
theorem dX8_broke_12 : decode cX8_broke 12 = .ok (.istore_n 1, 1) := by decide +kernel
theorem dX8_broke_13 : decode cX8_broke 13 = .ok (.iload_n 1, 1) := by decide +kernel
theorem dX8_broke_14 : decode cX8_broke 14 = .ok (.sipush 300, 3) := by decide +kernel
theorem dX8_broke_17 : decode cX8_broke 17 = .ok (.if_icmp .gt 37, 3) := by decide +kernel
theorem dX8_broke_20 : decode cX8_broke 20 = .ok (.aload_n 0, 1) := by decide +kernel
theorem dX8_broke_21 : decode cX8_broke 21 = .ok (.getfield 76, 3) := by decide +kernel
theorem dX8_broke_24 : decode cX8_broke 24 = .ok (.invokevirtual 271, 3) := by decide +kernel
theorem dX8_broke_27 : decode cX8_broke 27 = .ok (.ifCond .eq 5, 3) := by decide +kernel
theorem dX8_broke_30 : decode cX8_broke 30 = .ok (.iload_n 1, 1) := by decide +kernel
theorem dX8_broke_31 : decode cX8_broke 31 = .ok (.ireturn, 1) := by decide +kernel
theorem dX8_broke_32 : decode cX8_broke 32 = .ok (.aload_n 0, 1) := by decide +kernel
theorem dX8_broke_33 : decode cX8_broke 33 = .ok (.getfield 76, 3) := by decide +kernel
theorem dX8_broke_36 : decode cX8_broke 36 = .ok (.iload_n 1, 1) := by decide +kernel
theorem dX8_broke_37 : decode cX8_broke 37 = .ok (.ifCond .ne 7, 3) := by decide +kernel
theorem dX8_broke_40 : decode cX8_broke 40 = .ok (.iconst 1, 1) := by decide +kernel
theorem dX8_broke_41 : decode cX8_broke 41 = .ok (.goto 4, 3) := by decide +kernel
theorem dX8_broke_44 : decode cX8_broke 44 = .ok (.iconst 0, 1) := by decide +kernel
theorem dX8_broke_45 : decode cX8_broke 45 = .ok (.invokevirtual 274, 3) := by decide +kernel
theorem dX8_broke_48 : decode cX8_broke 48 = .ok (.iinc 1 1, 3) := by decide +kernel
theorem dX8_broke_51 : decode cX8_broke 51 = .ok (.goto (-38), 3) := by decide +kernel
theorem dX8_broke_54 : decode cX8_broke 54 = .ok (.bipush (-9), 2) := by decide +kernel
theorem dX8_broke_56 : decode cX8_broke 56 = .ok (.ireturn, 1) := by decide +kernel
theorem dX8_rich_0 : decode cX8_rich 0 = .ok (.iload_n 1, 1) := by decide +kernel
theorem dX8_rich_1 : decode cX8_rich 1 = .ok (.iconst 1, 1) := by decide +kernel
theorem dX8_rich_2 : decode cX8_rich 2 = .ok (.if_icmp .lt 10, 3) := by decide +kernel
theorem dX8_rich_5 : decode cX8_rich 5 = .ok (.iload_n 1, 1) := by decide +kernel
theorem dX8_rich_6 : decode cX8_rich 6 = .ok (.sipush 999, 3) := by decide +kernel
theorem dX8_rich_9 : decode cX8_rich 9 = .ok (.if_icmp .le 5, 3) := by decide +kernel
theorem dX8_rich_12 : decode cX8_rich 12 = .ok (.iconst (-1), 1) := by decide +kernel
theorem dX8_rich_13 : decode cX8_rich 13 = .ok (.ireturn, 1) := by decide +kernel
theorem dX8_rich_14 : decode cX8_rich 14 = .ok (.aload_n 0, 1) := by decide +kernel
theorem dX8_rich_15 : decode cX8_rich 15 = .ok (.getfield 76, 3) := by decide +kernel
theorem dX8_rich_18 : decode cX8_rich 18 = .ok (.aload_n 0, 1) := by decide +kernel
theorem dX8_rich_19 : decode cX8_rich 19 = .ok (.getfield 29, 3) := by decide +kernel
theorem dX8_rich_22 : decode cX8_rich 22 = .ok (.invokevirtual 269, 3) := by decide +kernel
theorem dX8_rich_25 : decode cX8_rich 25 = .ok (.iconst 0, 1) := by decide +kernel
theorem dX8_rich_26 : decode cX8_rich 26 = .ok (.istore_n 2, 1) := by decide +kernel
theorem dX8_rich_27 : decode cX8_rich 27 = .ok (.iload_n 2, 1) := by decide +kernel
theorem dX8_rich_28 : decode cX8_rich 28 = .ok (.sipush 300, 3) := by decide +kernel
theorem dX8_rich_31 : decode cX8_rich 31 = .ok (.if_icmp .gt 38, 3) := by decide +kernel
theorem dX8_rich_34 : decode cX8_rich 34 = .ok (.aload_n 0, 1) := by decide +kernel
theorem dX8_rich_35 : decode cX8_rich 35 = .ok (.getfield 76, 3) := by decide +kernel
theorem dX8_rich_38 : decode cX8_rich 38 = .ok (.iload_n 1, 1) := by decide +kernel
theorem dX8_rich_39 : decode cX8_rich 39 = .ok (.invokevirtual 278, 3) := by decide +kernel
theorem dX8_rich_42 : decode cX8_rich 42 = .ok (.ifCond .eq 5, 3) := by decide +kernel
theorem dX8_rich_45 : decode cX8_rich 45 = .ok (.iload_n 2, 1) := by decide +kernel
theorem dX8_rich_46 : decode cX8_rich 46 = .ok (.ireturn, 1) := by decide +kernel
theorem dX8_rich_47 : decode cX8_rich 47 = .ok (.aload_n 0, 1) := by decide +kernel
theorem dX8_rich_48 : decode cX8_rich 48 = .ok (.getfield 76, 3) := by decide +kernel
theorem dX8_rich_51 : decode cX8_rich 51 = .ok (.iload_n 2, 1) := by decide +kernel
theorem dX8_rich_52 : decode cX8_rich 52 = .ok (.ifCond .ne 7, 3) := by decide +kernel
theorem dX8_rich_55 : decode cX8_rich 55 = .ok (.iconst 1, 1) := by decide +kernel
theorem dX8_rich_56 : decode cX8_rich 56 = .ok (.goto 4, 3) := by decide +kernel
theorem dX8_rich_59 : decode cX8_rich 59 = .ok (.iconst 0, 1) := by decide +kernel
theorem dX8_rich_60 : decode cX8_rich 60 = .ok (.invokevirtual 274, 3) := by decide +kernel
theorem dX8_rich_63 : decode cX8_rich 63 = .ok (.iinc 2 1, 3) := by decide +kernel
theorem dX8_rich_66 : decode cX8_rich 66 = .ok (.goto (-39), 3) := by decide +kernel
theorem dX8_rich_69 : decode cX8_rich 69 = .ok (.bipush (-9), 2) := by decide +kernel
theorem dX8_rich_71 : decode cX8_rich 71 = .ok (.ireturn, 1) := by decide +kernel
theorem dX8_odds_0 : decode cX8_odds 0 = .ok (.aload_n 0, 1) := by decide +kernel
theorem dX8_odds_1 : decode cX8_odds 1 = .ok (.getfield 19, 3) := by decide +kernel
theorem dX8_odds_4 : decode cX8_odds 4 = .ok (.iload_n 1, 1) := by decide +kernel
theorem dX8_odds_5 : decode cX8_odds 5 = .ok (.invokevirtual 187, 3) := by decide +kernel
theorem dX8_odds_8 : decode cX8_odds 8 = .ok (.ifCond .eq 34, 3) := by decide +kernel
theorem dX8_odds_11 : decode cX8_odds 11 = .ok (.iload_n 2, 1) := by decide +kernel
theorem dX8_odds_12 : decode cX8_odds 12 = .ok (.ifCond .lt 30, 3) := by decide +kernel
theorem dX8_odds_15 : decode cX8_odds 15 = .ok (.iload_n 2, 1) := by decide +kernel
theorem dX8_odds_16 : decode cX8_odds 16 = .ok (.bipush 10, 2) := by decide +kernel
theorem dX8_odds_18 : decode cX8_odds 18 = .ok (.if_icmp .gt 24, 3) := by decide +kernel
theorem dX8_odds_21 : decode cX8_odds 21 = .ok (.iload_n 3, 1) := by decide +kernel
theorem dX8_odds_22 : decode cX8_odds 22 = .ok (.ifCond .lt 20, 3) := by decide +kernel
theorem dX8_odds_25 : decode cX8_odds 25 = .ok (.iload_n 3, 1) := by decide +kernel
theorem dX8_odds_26 : decode cX8_odds 26 = .ok (.bipush 46, 2) := by decide +kernel
theorem dX8_odds_28 : decode cX8_odds 28 = .ok (.if_icmp .gt 14, 3) := by decide +kernel
theorem dX8_odds_31 : decode cX8_odds 31 = .ok (.iload 4, 2) := by decide +kernel
theorem dX8_odds_33 : decode cX8_odds 33 = .ok (.ifCond .lt 9, 3) := by decide +kernel
theorem dX8_odds_36 : decode cX8_odds 36 = .ok (.iload 4, 2) := by decide +kernel
theorem dX8_odds_38 : decode cX8_odds 38 = .ok (.iconst 1, 1) := by decide +kernel
theorem dX8_odds_39 : decode cX8_odds 39 = .ok (.if_icmp .le 5, 3) := by decide +kernel
theorem dX8_odds_42 : decode cX8_odds 42 = .ok (.iconst (-1), 1) := by decide +kernel
theorem dX8_odds_43 : decode cX8_odds 43 = .ok (.ireturn, 1) := by decide +kernel
theorem dX8_odds_44 : decode cX8_odds 44 = .ok (.iconst 0, 1) := by decide +kernel
theorem dX8_odds_45 : decode cX8_odds 45 = .ok (.istore 5, 2) := by decide +kernel
theorem dX8_odds_47 : decode cX8_odds 47 = .ok (.iconst 0, 1) := by decide +kernel
theorem dX8_odds_48 : decode cX8_odds 48 = .ok (.istore 6, 2) := by decide +kernel
theorem dX8_odds_50 : decode cX8_odds 50 = .ok (.iconst 0, 1) := by decide +kernel
theorem dX8_odds_51 : decode cX8_odds 51 = .ok (.istore 7, 2) := by decide +kernel
theorem dX8_odds_53 : decode cX8_odds 53 = .ok (.iload 7, 2) := by decide +kernel
theorem dX8_odds_55 : decode cX8_odds 55 = .ok (.iconst 1, 1) := by decide +kernel
theorem dX8_odds_56 : decode cX8_odds 56 = .ok (.aload_n 0, 1) := by decide +kernel
theorem dX8_odds_57 : decode cX8_odds 57 = .ok (.getfield 19, 3) := by decide +kernel
theorem dX8_odds_60 : decode cX8_odds 60 = .ok (.getfield 190, 3) := by decide +kernel
theorem dX8_odds_63 : decode cX8_odds 63 = .ok (.ishl, 1) := by decide +kernel
theorem dX8_odds_64 : decode cX8_odds 64 = .ok (.if_icmp .ge 47, 3) := by decide +kernel
theorem dX8_odds_67 : decode cX8_odds 67 = .ok (.aload_n 0, 1) := by decide +kernel
theorem dX8_odds_68 : decode cX8_odds 68 = .ok (.iload 7, 2) := by decide +kernel
theorem dX8_odds_70 : decode cX8_odds 70 = .ok (.iload_n 2, 1) := by decide +kernel
theorem dX8_odds_71 : decode cX8_odds 71 = .ok (.invokevirtual 281, 3) := by decide +kernel
theorem dX8_odds_74 : decode cX8_odds 74 = .ok (.istore 8, 2) := by decide +kernel
theorem dX8_odds_76 : decode cX8_odds 76 = .ok (.iload 6, 2) := by decide +kernel
theorem dX8_odds_78 : decode cX8_odds 78 = .ok (.iload 8, 2) := by decide +kernel
theorem dX8_odds_80 : decode cX8_odds 80 = .ok (.iadd, 1) := by decide +kernel
theorem dX8_odds_81 : decode cX8_odds 81 = .ok (.istore 6, 2) := by decide +kernel
theorem dX8_odds_83 : decode cX8_odds 83 = .ok (.iload 5, 2) := by decide +kernel
theorem dX8_odds_85 : decode cX8_odds 85 = .ok (.aload_n 0, 1) := by decide +kernel
theorem dX8_odds_86 : decode cX8_odds 86 = .ok (.iload_n 1, 1) := by decide +kernel
theorem dX8_odds_87 : decode cX8_odds 87 = .ok (.iload 7, 2) := by decide +kernel
theorem dX8_odds_89 : decode cX8_odds 89 = .ok (.invokevirtual 252, 3) := by decide +kernel
theorem dX8_odds_92 : decode cX8_odds 92 = .ok (.iload_n 3, 1) := by decide +kernel
theorem dX8_odds_93 : decode cX8_odds 93 = .ok (.if_icmp .lt 8, 3) := by decide +kernel
theorem dX8_odds_96 : decode cX8_odds 96 = .ok (.iload 8, 2) := by decide +kernel
theorem dX8_odds_98 : decode cX8_odds 98 = .ok (.goto 4, 3) := by decide +kernel
theorem dX8_odds_101 : decode cX8_odds 101 = .ok (.iconst 0, 1) := by decide +kernel
theorem dX8_odds_102 : decode cX8_odds 102 = .ok (.iadd, 1) := by decide +kernel
theorem dX8_odds_103 : decode cX8_odds 103 = .ok (.istore 5, 2) := by decide +kernel
theorem dX8_odds_105 : decode cX8_odds 105 = .ok (.iinc 7 1, 3) := by decide +kernel
theorem dX8_odds_108 : decode cX8_odds 108 = .ok (.goto (-55), 3) := by decide +kernel
theorem dX8_odds_111 : decode cX8_odds 111 = .ok (.iload 5, 2) := by decide +kernel
theorem dX8_odds_113 : decode cX8_odds 113 = .ok (.iload 6, 2) := by decide +kernel
theorem dX8_odds_115 : decode cX8_odds 115 = .ok (.invokestatic 284, 3) := by decide +kernel
theorem dX8_odds_118 : decode cX8_odds 118 = .ok (.istore 7, 2) := by decide +kernel
theorem dX8_odds_120 : decode cX8_odds 120 = .ok (.iload 7, 2) := by decide +kernel
theorem dX8_odds_122 : decode cX8_odds 122 = .ok (.ifCond .ne 5, 3) := by decide +kernel
theorem dX8_odds_125 : decode cX8_odds 125 = .ok (.iconst (-1), 1) := by decide +kernel
theorem dX8_odds_126 : decode cX8_odds 126 = .ok (.ireturn, 1) := by decide +kernel
theorem dX8_odds_127 : decode cX8_odds 127 = .ok (.iload 4, 2) := by decide +kernel
theorem dX8_odds_129 : decode cX8_odds 129 = .ok (.ifCond .ne 8, 3) := by decide +kernel
theorem dX8_odds_132 : decode cX8_odds 132 = .ok (.iload 5, 2) := by decide +kernel
theorem dX8_odds_134 : decode cX8_odds 134 = .ok (.goto 5, 3) := by decide +kernel
theorem dX8_odds_137 : decode cX8_odds 137 = .ok (.iload 6, 2) := by decide +kernel
theorem dX8_odds_139 : decode cX8_odds 139 = .ok (.iload 7, 2) := by decide +kernel
theorem dX8_odds_141 : decode cX8_odds 141 = .ok (.idiv, 1) := by decide +kernel
theorem dX8_odds_142 : decode cX8_odds 142 = .ok (.ireturn, 1) := by decide +kernel
theorem dX8_rate_0 : decode cX8_rate 0 = .ok (.aload_n 0, 1) := by decide +kernel
theorem dX8_rate_1 : decode cX8_rate 1 = .ok (.getfield 19, 3) := by decide +kernel
theorem dX8_rate_4 : decode cX8_rate 4 = .ok (.iload_n 2, 1) := by decide +kernel
theorem dX8_rate_5 : decode cX8_rate 5 = .ok (.invokevirtual 123, 3) := by decide +kernel
theorem dX8_rate_8 : decode cX8_rate 8 = .ok (.ifCond .ne 6, 3) := by decide +kernel
theorem dX8_rate_11 : decode cX8_rate 11 = .ok (.ldc 164, 2) := by decide +kernel
theorem dX8_rate_13 : decode cX8_rate 13 = .ok (.ireturn, 1) := by decide +kernel
theorem dX8_rate_14 : decode cX8_rate 14 = .ok (.iload_n 1, 1) := by decide +kernel
theorem dX8_rate_15 : decode cX8_rate 15 = .ok (.tableswitch 73 0 5 #[37, 43, 49, 55, 61, 67], 37) := by decide +kernel
theorem dX8_rate_52 : decode cX8_rate 52 = .ok (.aload_n 0, 1) := by decide +kernel
theorem dX8_rate_53 : decode cX8_rate 53 = .ok (.iload_n 2, 1) := by decide +kernel
theorem dX8_rate_54 : decode cX8_rate 54 = .ok (.invokevirtual 287, 3) := by decide +kernel
theorem dX8_rate_57 : decode cX8_rate 57 = .ok (.ireturn, 1) := by decide +kernel
theorem dX8_rate_58 : decode cX8_rate 58 = .ok (.aload_n 0, 1) := by decide +kernel
theorem dX8_rate_59 : decode cX8_rate 59 = .ok (.iload_n 2, 1) := by decide +kernel
theorem dX8_rate_60 : decode cX8_rate 60 = .ok (.invokevirtual 290, 3) := by decide +kernel
theorem dX8_rate_63 : decode cX8_rate 63 = .ok (.ireturn, 1) := by decide +kernel
theorem dX8_rate_64 : decode cX8_rate 64 = .ok (.aload_n 0, 1) := by decide +kernel
theorem dX8_rate_65 : decode cX8_rate 65 = .ok (.iload_n 2, 1) := by decide +kernel
theorem dX8_rate_66 : decode cX8_rate 66 = .ok (.invokevirtual 293, 3) := by decide +kernel
theorem dX8_rate_69 : decode cX8_rate 69 = .ok (.ireturn, 1) := by decide +kernel
theorem dX8_rate_70 : decode cX8_rate 70 = .ok (.aload_n 0, 1) := by decide +kernel
theorem dX8_rate_71 : decode cX8_rate 71 = .ok (.iload_n 2, 1) := by decide +kernel
theorem dX8_rate_72 : decode cX8_rate 72 = .ok (.invokevirtual 296, 3) := by decide +kernel
theorem dX8_rate_75 : decode cX8_rate 75 = .ok (.ireturn, 1) := by decide +kernel
theorem dX8_rate_76 : decode cX8_rate 76 = .ok (.aload_n 0, 1) := by decide +kernel
theorem dX8_rate_77 : decode cX8_rate 77 = .ok (.iload_n 2, 1) := by decide +kernel
theorem dX8_rate_78 : decode cX8_rate 78 = .ok (.invokevirtual 299, 3) := by decide +kernel
theorem dX8_rate_81 : decode cX8_rate 81 = .ok (.ireturn, 1) := by decide +kernel
theorem dX8_rate_82 : decode cX8_rate 82 = .ok (.aload_n 0, 1) := by decide +kernel
theorem dX8_rate_83 : decode cX8_rate 83 = .ok (.iload_n 2, 1) := by decide +kernel
theorem dX8_rate_84 : decode cX8_rate 84 = .ok (.invokevirtual 302, 3) := by decide +kernel
theorem dX8_rate_87 : decode cX8_rate 87 = .ok (.ireturn, 1) := by decide +kernel
theorem dX8_rate_88 : decode cX8_rate 88 = .ok (.ldc 164, 2) := by decide +kernel
theorem dX8_rate_90 : decode cX8_rate 90 = .ok (.ireturn, 1) := by decide +kernel
theorem dX8_keep_0 : decode cX8_keep 0 = .ok (.iload_n 1, 1) := by decide +kernel
theorem dX8_keep_1 : decode cX8_keep 1 = .ok (.ifCond .lt 8, 3) := by decide +kernel
theorem dX8_keep_4 : decode cX8_keep 4 = .ok (.iload_n 1, 1) := by decide +kernel
theorem dX8_keep_5 : decode cX8_keep 5 = .ok (.iconst 2, 1) := by decide +kernel
theorem dX8_keep_6 : decode cX8_keep 6 = .ok (.if_icmp .lt 5, 3) := by decide +kernel
theorem dX8_keep_9 : decode cX8_keep 9 = .ok (.iconst (-1), 1) := by decide +kernel
theorem dX8_keep_10 : decode cX8_keep 10 = .ok (.ireturn, 1) := by decide +kernel
theorem dX8_keep_11 : decode cX8_keep 11 = .ok (.aload_n 0, 1) := by decide +kernel
theorem dX8_keep_12 : decode cX8_keep 12 = .ok (.getfield 40, 3) := by decide +kernel
theorem dX8_keep_15 : decode cX8_keep 15 = .ok (.iload_n 1, 1) := by decide +kernel
theorem dX8_keep_16 : decode cX8_keep 16 = .ok (.aaload, 1) := by decide +kernel
theorem dX8_keep_17 : decode cX8_keep 17 = .ok (.aload_n 0, 1) := by decide +kernel
theorem dX8_keep_18 : decode cX8_keep 18 = .ok (.getfield 29, 3) := by decide +kernel
theorem dX8_keep_21 : decode cX8_keep 21 = .ok (.invokevirtual 305, 3) := by decide +kernel
theorem dX8_keep_24 : decode cX8_keep 24 = .ok (.aload_n 0, 1) := by decide +kernel
theorem dX8_keep_25 : decode cX8_keep 25 = .ok (.dup, 1) := by decide +kernel
theorem dX8_keep_26 : decode cX8_keep 26 = .ok (.getfield 44, 3) := by decide +kernel
theorem dX8_keep_29 : decode cX8_keep 29 = .ok (.iconst 1, 1) := by decide +kernel
theorem dX8_keep_30 : decode cX8_keep 30 = .ok (.iload_n 1, 1) := by decide +kernel
theorem dX8_keep_31 : decode cX8_keep 31 = .ok (.ishl, 1) := by decide +kernel
theorem dX8_keep_32 : decode cX8_keep 32 = .ok (.ior, 1) := by decide +kernel
theorem dX8_keep_33 : decode cX8_keep 33 = .ok (.putfield 44, 3) := by decide +kernel
theorem dX8_keep_36 : decode cX8_keep 36 = .ok (.aload_n 0, 1) := by decide +kernel
theorem dX8_keep_37 : decode cX8_keep 37 = .ok (.getfield 29, 3) := by decide +kernel
theorem dX8_keep_40 : decode cX8_keep 40 = .ok (.getfield 171, 3) := by decide +kernel
theorem dX8_keep_43 : decode cX8_keep 43 = .ok (.ireturn, 1) := by decide +kernel
theorem dX8_back_0 : decode cX8_back 0 = .ok (.iload_n 1, 1) := by decide +kernel
theorem dX8_back_1 : decode cX8_back 1 = .ok (.ifCond .lt 8, 3) := by decide +kernel
theorem dX8_back_4 : decode cX8_back 4 = .ok (.iload_n 1, 1) := by decide +kernel
theorem dX8_back_5 : decode cX8_back 5 = .ok (.iconst 2, 1) := by decide +kernel
theorem dX8_back_6 : decode cX8_back 6 = .ok (.if_icmp .lt 5, 3) := by decide +kernel
theorem dX8_back_9 : decode cX8_back 9 = .ok (.iconst (-1), 1) := by decide +kernel
theorem dX8_back_10 : decode cX8_back 10 = .ok (.ireturn, 1) := by decide +kernel
theorem dX8_back_11 : decode cX8_back 11 = .ok (.aload_n 0, 1) := by decide +kernel
theorem dX8_back_12 : decode cX8_back 12 = .ok (.getfield 44, 3) := by decide +kernel
theorem dX8_back_15 : decode cX8_back 15 = .ok (.iload_n 1, 1) := by decide +kernel
theorem dX8_back_16 : decode cX8_back 16 = .ok (.ishr, 1) := by decide +kernel
theorem dX8_back_17 : decode cX8_back 17 = .ok (.iconst 1, 1) := by decide +kernel
theorem dX8_back_18 : decode cX8_back 18 = .ok (.iand, 1) := by decide +kernel
theorem dX8_back_19 : decode cX8_back 19 = .ok (.ifCond .ne 6, 3) := by decide +kernel
theorem dX8_back_22 : decode cX8_back 22 = .ok (.bipush (-2), 2) := by decide +kernel
theorem dX8_back_24 : decode cX8_back 24 = .ok (.ireturn, 1) := by decide +kernel
theorem dX8_back_25 : decode cX8_back 25 = .ok (.aload_n 0, 1) := by decide +kernel
theorem dX8_back_26 : decode cX8_back 26 = .ok (.getfield 29, 3) := by decide +kernel
theorem dX8_back_29 : decode cX8_back 29 = .ok (.aload_n 0, 1) := by decide +kernel
theorem dX8_back_30 : decode cX8_back 30 = .ok (.getfield 40, 3) := by decide +kernel
theorem dX8_back_33 : decode cX8_back 33 = .ok (.iload_n 1, 1) := by decide +kernel
theorem dX8_back_34 : decode cX8_back 34 = .ok (.aaload, 1) := by decide +kernel
theorem dX8_back_35 : decode cX8_back 35 = .ok (.invokevirtual 305, 3) := by decide +kernel
theorem dX8_back_38 : decode cX8_back 38 = .ok (.aload_n 0, 1) := by decide +kernel
theorem dX8_back_39 : decode cX8_back 39 = .ok (.getfield 36, 3) := by decide +kernel
theorem dX8_back_42 : decode cX8_back 42 = .ok (.invokevirtual 119, 3) := by decide +kernel
theorem dX8_back_45 : decode cX8_back 45 = .ok (.aload_n 0, 1) := by decide +kernel
theorem dX8_back_46 : decode cX8_back 46 = .ok (.getfield 29, 3) := by decide +kernel
theorem dX8_back_49 : decode cX8_back 49 = .ok (.getfield 171, 3) := by decide +kernel
theorem dX8_back_52 : decode cX8_back 52 = .ok (.ireturn, 1) := by decide +kernel
theorem dX8_count_0 : decode cX8_count 0 = .ok (.iload_n 1, 1) := by decide +kernel
theorem dX8_count_1 : decode cX8_count 1 = .ok (.tableswitch 96 0 6 #[43, 51, 59, 67, 75, 83, 88], 43) := by decide +kernel
theorem dX8_count_44 : decode cX8_count 44 = .ok (.aload_n 0, 1) := by decide +kernel
theorem dX8_count_45 : decode cX8_count 45 = .ok (.getfield 19, 3) := by decide +kernel
theorem dX8_count_48 : decode cX8_count 48 = .ok (.getfield 224, 3) := by decide +kernel
theorem dX8_count_51 : decode cX8_count 51 = .ok (.ireturn, 1) := by decide +kernel
theorem dX8_count_52 : decode cX8_count 52 = .ok (.aload_n 0, 1) := by decide +kernel
theorem dX8_count_53 : decode cX8_count 53 = .ok (.getfield 19, 3) := by decide +kernel
theorem dX8_count_56 : decode cX8_count 56 = .ok (.getfield 190, 3) := by decide +kernel
theorem dX8_count_59 : decode cX8_count 59 = .ok (.ireturn, 1) := by decide +kernel
theorem dX8_count_60 : decode cX8_count 60 = .ok (.aload_n 0, 1) := by decide +kernel
theorem dX8_count_61 : decode cX8_count 61 = .ok (.getfield 19, 3) := by decide +kernel
theorem dX8_count_64 : decode cX8_count 64 = .ok (.getfield 307, 3) := by decide +kernel
theorem dX8_count_67 : decode cX8_count 67 = .ok (.ireturn, 1) := by decide +kernel
theorem dX8_count_68 : decode cX8_count 68 = .ok (.aload_n 0, 1) := by decide +kernel
theorem dX8_count_69 : decode cX8_count 69 = .ok (.getfield 19, 3) := by decide +kernel
theorem dX8_count_72 : decode cX8_count 72 = .ok (.getfield 310, 3) := by decide +kernel
theorem dX8_count_75 : decode cX8_count 75 = .ok (.ireturn, 1) := by decide +kernel
theorem dX8_count_76 : decode cX8_count 76 = .ok (.aload_n 0, 1) := by decide +kernel
theorem dX8_count_77 : decode cX8_count 77 = .ok (.getfield 19, 3) := by decide +kernel
theorem dX8_count_80 : decode cX8_count 80 = .ok (.getfield 313, 3) := by decide +kernel
theorem dX8_count_83 : decode cX8_count 83 = .ok (.ireturn, 1) := by decide +kernel
theorem dX8_count_84 : decode cX8_count 84 = .ok (.aload_n 0, 1) := by decide +kernel
theorem dX8_count_85 : decode cX8_count 85 = .ok (.getfield 90, 3) := by decide +kernel
theorem dX8_count_88 : decode cX8_count 88 = .ok (.ireturn, 1) := by decide +kernel
theorem dX8_count_89 : decode cX8_count 89 = .ok (.aload_n 0, 1) := by decide +kernel
theorem dX8_count_90 : decode cX8_count 90 = .ok (.getfield 12, 3) := by decide +kernel
theorem dX8_count_93 : decode cX8_count 93 = .ok (.getfield 316, 3) := by decide +kernel
theorem dX8_count_96 : decode cX8_count 96 = .ok (.ireturn, 1) := by decide +kernel
theorem dX8_count_97 : decode cX8_count 97 = .ok (.iconst (-1), 1) := by decide +kernel
theorem dX8_count_98 : decode cX8_count 98 = .ok (.ireturn, 1) := by decide +kernel
theorem dX8_trace_0 : decode cX8_trace 0 = .ok (.aload_n 0, 1) := by decide +kernel
theorem dX8_trace_1 : decode cX8_trace 1 = .ok (.getfield 93, 3) := by decide +kernel
theorem dX8_trace_4 : decode cX8_trace 4 = .ok (.lreturn, 1) := by decide +kernel
theorem dX8_seatAll_0 : decode cX8_seatAll 0 = .ok (.aload_n 0, 1) := by decide +kernel
theorem dX8_seatAll_1 : decode cX8_seatAll 1 = .ok (.getfield 53, 3) := by decide +kernel
theorem dX8_seatAll_4 : decode cX8_seatAll 4 = .ok (.aload_n 0, 1) := by decide +kernel
theorem dX8_seatAll_5 : decode cX8_seatAll 5 = .ok (.getfield 29, 3) := by decide +kernel
theorem dX8_seatAll_8 : decode cX8_seatAll 8 = .ok (.getfield 184, 3) := by decide +kernel
theorem dX8_seatAll_11 : decode cX8_seatAll 11 = .ok (.aload_n 0, 1) := by decide +kernel
theorem dX8_seatAll_12 : decode cX8_seatAll 12 = .ok (.getfield 29, 3) := by decide +kernel
theorem dX8_seatAll_15 : decode cX8_seatAll 15 = .ok (.getfield 152, 3) := by decide +kernel
theorem dX8_seatAll_18 : decode cX8_seatAll 18 = .ok (.invokevirtual 319, 3) := by decide +kernel
theorem dX8_seatAll_21 : decode cX8_seatAll 21 = .ok (.return_, 1) := by decide +kernel
theorem dX8_payNow_0 : decode cX8_payNow 0 = .ok (.aload_n 0, 1) := by decide +kernel
theorem dX8_payNow_1 : decode cX8_payNow 1 = .ok (.invokevirtual 140, 3) := by decide +kernel
theorem dX8_payNow_4 : decode cX8_payNow 4 = .ok (.aload_n 0, 1) := by decide +kernel
theorem dX8_payNow_5 : decode cX8_payNow 5 = .ok (.getfield 53, 3) := by decide +kernel
theorem dX8_payNow_8 : decode cX8_payNow 8 = .ok (.iload_n 1, 1) := by decide +kernel
theorem dX8_payNow_9 : decode cX8_payNow 9 = .ok (.invokevirtual 323, 3) := by decide +kernel
theorem dX8_payNow_12 : decode cX8_payNow 12 = .ok (.ireturn, 1) := by decide +kernel
theorem dX8_ownerOrNone_0 : decode cX8_ownerOrNone 0 = .ok (.aload_n 0, 1) := by decide +kernel
theorem dX8_ownerOrNone_1 : decode cX8_ownerOrNone 1 = .ok (.getfield 29, 3) := by decide +kernel
theorem dX8_ownerOrNone_4 : decode cX8_ownerOrNone 4 = .ok (.getfield 184, 3) := by decide +kernel
theorem dX8_ownerOrNone_7 : decode cX8_ownerOrNone 7 = .ok (.iload_n 1, 1) := by decide +kernel
theorem dX8_ownerOrNone_8 : decode cX8_ownerOrNone 8 = .ok (.iaload, 1) := by decide +kernel
theorem dX8_ownerOrNone_9 : decode cX8_ownerOrNone 9 = .ok (.iconst (-1), 1) := by decide +kernel
theorem dX8_ownerOrNone_10 : decode cX8_ownerOrNone 10 = .ok (.if_icmp .ne 8, 3) := by decide +kernel
theorem dX8_ownerOrNone_13 : decode cX8_ownerOrNone 13 = .ok (.bipush (-9), 2) := by decide +kernel
theorem dX8_ownerOrNone_15 : decode cX8_ownerOrNone 15 = .ok (.goto 12, 3) := by decide +kernel
theorem dX8_ownerOrNone_18 : decode cX8_ownerOrNone 18 = .ok (.aload_n 0, 1) := by decide +kernel
theorem dX8_ownerOrNone_19 : decode cX8_ownerOrNone 19 = .ok (.getfield 29, 3) := by decide +kernel
theorem dX8_ownerOrNone_22 : decode cX8_ownerOrNone 22 = .ok (.getfield 184, 3) := by decide +kernel
theorem dX8_ownerOrNone_25 : decode cX8_ownerOrNone 25 = .ok (.iload_n 1, 1) := by decide +kernel
theorem dX8_ownerOrNone_26 : decode cX8_ownerOrNone 26 = .ok (.iaload, 1) := by decide +kernel
theorem dX8_ownerOrNone_27 : decode cX8_ownerOrNone 27 = .ok (.ireturn, 1) := by decide +kernel
theorem dX8_partsOf_0 : decode cX8_partsOf 0 = .ok (.iconst 0, 1) := by decide +kernel
theorem dX8_partsOf_1 : decode cX8_partsOf 1 = .ok (.istore_n 2, 1) := by decide +kernel
theorem dX8_partsOf_2 : decode cX8_partsOf 2 = .ok (.iconst 0, 1) := by decide +kernel
theorem dX8_partsOf_3 : decode cX8_partsOf 3 = .ok (.istore_n 3, 1) := by decide +kernel
theorem dX8_partsOf_4 : decode cX8_partsOf 4 = .ok (.iload_n 3, 1) := by decide +kernel
theorem dX8_partsOf_5 : decode cX8_partsOf 5 = .ok (.aload_n 0, 1) := by decide +kernel
theorem dX8_partsOf_6 : decode cX8_partsOf 6 = .ok (.getfield 19, 3) := by decide +kernel
theorem dX8_partsOf_9 : decode cX8_partsOf 9 = .ok (.getfield 224, 3) := by decide +kernel
theorem dX8_partsOf_12 : decode cX8_partsOf 12 = .ok (.if_icmp .ge 32, 3) := by decide +kernel
theorem dX8_partsOf_15 : decode cX8_partsOf 15 = .ok (.iload_n 2, 1) := by decide +kernel
theorem dX8_partsOf_16 : decode cX8_partsOf 16 = .ok (.aload_n 0, 1) := by decide +kernel
theorem dX8_partsOf_17 : decode cX8_partsOf 17 = .ok (.getfield 29, 3) := by decide +kernel
theorem dX8_partsOf_20 : decode cX8_partsOf 20 = .ok (.getfield 184, 3) := by decide +kernel
theorem dX8_partsOf_23 : decode cX8_partsOf 23 = .ok (.iload_n 3, 1) := by decide +kernel
theorem dX8_partsOf_24 : decode cX8_partsOf 24 = .ok (.iaload, 1) := by decide +kernel
theorem dX8_partsOf_25 : decode cX8_partsOf 25 = .ok (.iload_n 1, 1) := by decide +kernel
theorem dX8_partsOf_26 : decode cX8_partsOf 26 = .ok (.if_icmp .ne 9, 3) := by decide +kernel
theorem dX8_partsOf_29 : decode cX8_partsOf 29 = .ok (.iconst 1, 1) := by decide +kernel
theorem dX8_partsOf_30 : decode cX8_partsOf 30 = .ok (.iload_n 3, 1) := by decide +kernel
theorem dX8_partsOf_31 : decode cX8_partsOf 31 = .ok (.ishl, 1) := by decide +kernel
theorem dX8_partsOf_32 : decode cX8_partsOf 32 = .ok (.goto 4, 3) := by decide +kernel
theorem dX8_partsOf_35 : decode cX8_partsOf 35 = .ok (.iconst 0, 1) := by decide +kernel
theorem dX8_partsOf_36 : decode cX8_partsOf 36 = .ok (.ior, 1) := by decide +kernel
theorem dX8_partsOf_37 : decode cX8_partsOf 37 = .ok (.istore_n 2, 1) := by decide +kernel
theorem dX8_partsOf_38 : decode cX8_partsOf 38 = .ok (.iinc 3 1, 3) := by decide +kernel
theorem dX8_partsOf_41 : decode cX8_partsOf 41 = .ok (.goto (-37), 3) := by decide +kernel
theorem dX8_partsOf_44 : decode cX8_partsOf 44 = .ok (.iload_n 2, 1) := by decide +kernel
theorem dX8_partsOf_45 : decode cX8_partsOf 45 = .ok (.ireturn, 1) := by decide +kernel
theorem dX8_restsOfAllBars_0 : decode cX8_restsOfAllBars 0 = .ok (.aload_n 0, 1) := by decide +kernel
theorem dX8_restsOfAllBars_1 : decode cX8_restsOfAllBars 1 = .ok (.invokevirtual 140, 3) := by decide +kernel
theorem dX8_restsOfAllBars_4 : decode cX8_restsOfAllBars 4 = .ok (.iconst 0, 1) := by decide +kernel
theorem dX8_restsOfAllBars_5 : decode cX8_restsOfAllBars 5 = .ok (.istore_n 1, 1) := by decide +kernel
theorem dX8_restsOfAllBars_6 : decode cX8_restsOfAllBars 6 = .ok (.iconst 0, 1) := by decide +kernel
theorem dX8_restsOfAllBars_7 : decode cX8_restsOfAllBars 7 = .ok (.istore_n 2, 1) := by decide +kernel
theorem dX8_restsOfAllBars_8 : decode cX8_restsOfAllBars 8 = .ok (.iload_n 2, 1) := by decide +kernel
theorem dX8_restsOfAllBars_9 : decode cX8_restsOfAllBars 9 = .ok (.aload_n 0, 1) := by decide +kernel
theorem dX8_restsOfAllBars_10 : decode cX8_restsOfAllBars 10 = .ok (.getfield 19, 3) := by decide +kernel
theorem dX8_restsOfAllBars_13 : decode cX8_restsOfAllBars 13 = .ok (.getfield 307, 3) := by decide +kernel
theorem dX8_restsOfAllBars_16 : decode cX8_restsOfAllBars 16 = .ok (.if_icmp .ge 20, 3) := by decide +kernel
theorem dX8_restsOfAllBars_19 : decode cX8_restsOfAllBars 19 = .ok (.iload_n 1, 1) := by decide +kernel
theorem dX8_restsOfAllBars_20 : decode cX8_restsOfAllBars 20 = .ok (.aload_n 0, 1) := by decide +kernel
theorem dX8_restsOfAllBars_21 : decode cX8_restsOfAllBars 21 = .ok (.getfield 53, 3) := by decide +kernel
theorem dX8_restsOfAllBars_24 : decode cX8_restsOfAllBars 24 = .ok (.iload_n 2, 1) := by decide +kernel
theorem dX8_restsOfAllBars_25 : decode cX8_restsOfAllBars 25 = .ok (.invokevirtual 255, 3) := by decide +kernel
theorem dX8_restsOfAllBars_28 : decode cX8_restsOfAllBars 28 = .ok (.iadd, 1) := by decide +kernel
theorem dX8_restsOfAllBars_29 : decode cX8_restsOfAllBars 29 = .ok (.istore_n 1, 1) := by decide +kernel
theorem dX8_restsOfAllBars_30 : decode cX8_restsOfAllBars 30 = .ok (.iinc 2 1, 3) := by decide +kernel
theorem dX8_restsOfAllBars_33 : decode cX8_restsOfAllBars 33 = .ok (.goto (-25), 3) := by decide +kernel
theorem dX8_restsOfAllBars_36 : decode cX8_restsOfAllBars 36 = .ok (.iload_n 1, 1) := by decide +kernel
theorem dX8_restsOfAllBars_37 : decode cX8_restsOfAllBars 37 = .ok (.ireturn, 1) := by decide +kernel
theorem dX8_costOf_0 : decode cX8_costOf 0 = .ok (.aload_n 0, 1) := by decide +kernel
theorem dX8_costOf_1 : decode cX8_costOf 1 = .ok (.getfield 29, 3) := by decide +kernel
theorem dX8_costOf_4 : decode cX8_costOf 4 = .ok (.getfield 184, 3) := by decide +kernel
theorem dX8_costOf_7 : decode cX8_costOf 7 = .ok (.iload_n 1, 1) := by decide +kernel
theorem dX8_costOf_8 : decode cX8_costOf 8 = .ok (.iaload, 1) := by decide +kernel
theorem dX8_costOf_9 : decode cX8_costOf 9 = .ok (.istore_n 2, 1) := by decide +kernel
theorem dX8_costOf_10 : decode cX8_costOf 10 = .ok (.aload_n 0, 1) := by decide +kernel
theorem dX8_costOf_11 : decode cX8_costOf 11 = .ok (.getfield 19, 3) := by decide +kernel
theorem dX8_costOf_14 : decode cX8_costOf 14 = .ok (.iload_n 2, 1) := by decide +kernel
theorem dX8_costOf_15 : decode cX8_costOf 15 = .ok (.invokevirtual 137, 3) := by decide +kernel
theorem dX8_costOf_18 : decode cX8_costOf 18 = .ok (.ifCond .ne 5, 3) := by decide +kernel
theorem dX8_costOf_21 : decode cX8_costOf 21 = .ok (.iconst 0, 1) := by decide +kernel
theorem dX8_costOf_22 : decode cX8_costOf 22 = .ok (.ireturn, 1) := by decide +kernel
theorem dX8_costOf_23 : decode cX8_costOf 23 = .ok (.aload_n 0, 1) := by decide +kernel
theorem dX8_costOf_24 : decode cX8_costOf 24 = .ok (.getfield 53, 3) := by decide +kernel
theorem dX8_costOf_27 : decode cX8_costOf 27 = .ok (.aload_n 0, 1) := by decide +kernel
theorem dX8_costOf_28 : decode cX8_costOf 28 = .ok (.getfield 29, 3) := by decide +kernel
theorem dX8_costOf_31 : decode cX8_costOf 31 = .ok (.getfield 184, 3) := by decide +kernel
theorem dX8_costOf_34 : decode cX8_costOf 34 = .ok (.aload_n 0, 1) := by decide +kernel
theorem dX8_costOf_35 : decode cX8_costOf 35 = .ok (.getfield 29, 3) := by decide +kernel
theorem dX8_costOf_38 : decode cX8_costOf 38 = .ok (.getfield 152, 3) := by decide +kernel
theorem dX8_costOf_41 : decode cX8_costOf 41 = .ok (.invokevirtual 319, 3) := by decide +kernel
theorem dX8_costOf_44 : decode cX8_costOf 44 = .ok (.aload_n 0, 1) := by decide +kernel
theorem dX8_costOf_45 : decode cX8_costOf 45 = .ok (.getfield 53, 3) := by decide +kernel
theorem dX8_costOf_48 : decode cX8_costOf 48 = .ok (.iload_n 2, 1) := by decide +kernel
theorem dX8_costOf_49 : decode cX8_costOf 49 = .ok (.invokevirtual 323, 3) := by decide +kernel
theorem dX8_costOf_52 : decode cX8_costOf 52 = .ok (.istore_n 3, 1) := by decide +kernel
theorem dX8_costOf_53 : decode cX8_costOf 53 = .ok (.aload_n 0, 1) := by decide +kernel
theorem dX8_costOf_54 : decode cX8_costOf 54 = .ok (.getfield 29, 3) := by decide +kernel
theorem dX8_costOf_57 : decode cX8_costOf 57 = .ok (.getfield 184, 3) := by decide +kernel
theorem dX8_costOf_60 : decode cX8_costOf 60 = .ok (.iconst 0, 1) := by decide +kernel
theorem dX8_costOf_61 : decode cX8_costOf 61 = .ok (.aload_n 0, 1) := by decide +kernel
theorem dX8_costOf_62 : decode cX8_costOf 62 = .ok (.getfield 80, 3) := by decide +kernel
theorem dX8_costOf_65 : decode cX8_costOf 65 = .ok (.iconst 0, 1) := by decide +kernel
theorem dX8_costOf_66 : decode cX8_costOf 66 = .ok (.iconst 5, 1) := by decide +kernel
theorem dX8_costOf_67 : decode cX8_costOf 67 = .ok (.invokestatic 326, 3) := by decide +kernel
theorem dX8_costOf_70 : decode cX8_costOf 70 = .ok (.aload_n 0, 1) := by decide +kernel
theorem dX8_costOf_71 : decode cX8_costOf 71 = .ok (.getfield 80, 3) := by decide +kernel
theorem dX8_costOf_74 : decode cX8_costOf 74 = .ok (.iload_n 1, 1) := by decide +kernel
theorem dX8_costOf_75 : decode cX8_costOf 75 = .ok (.iconst (-1), 1) := by decide +kernel
theorem dX8_costOf_76 : decode cX8_costOf 76 = .ok (.iastore, 1) := by decide +kernel
theorem dX8_costOf_77 : decode cX8_costOf 77 = .ok (.aload_n 0, 1) := by decide +kernel
theorem dX8_costOf_78 : decode cX8_costOf 78 = .ok (.getfield 53, 3) := by decide +kernel
theorem dX8_costOf_81 : decode cX8_costOf 81 = .ok (.aload_n 0, 1) := by decide +kernel
theorem dX8_costOf_82 : decode cX8_costOf 82 = .ok (.getfield 80, 3) := by decide +kernel
theorem dX8_costOf_85 : decode cX8_costOf 85 = .ok (.aload_n 0, 1) := by decide +kernel
theorem dX8_costOf_86 : decode cX8_costOf 86 = .ok (.getfield 29, 3) := by decide +kernel
theorem dX8_costOf_89 : decode cX8_costOf 89 = .ok (.getfield 152, 3) := by decide +kernel
theorem dX8_costOf_92 : decode cX8_costOf 92 = .ok (.invokevirtual 319, 3) := by decide +kernel
theorem dX8_costOf_95 : decode cX8_costOf 95 = .ok (.aload_n 0, 1) := by decide +kernel
theorem dX8_costOf_96 : decode cX8_costOf 96 = .ok (.getfield 53, 3) := by decide +kernel
theorem dX8_costOf_99 : decode cX8_costOf 99 = .ok (.iload_n 2, 1) := by decide +kernel
theorem dX8_costOf_100 : decode cX8_costOf 100 = .ok (.invokevirtual 323, 3) := by decide +kernel
theorem dX8_costOf_103 : decode cX8_costOf 103 = .ok (.iload_n 3, 1) := by decide +kernel
theorem dX8_costOf_104 : decode cX8_costOf 104 = .ok (.isub, 1) := by decide +kernel
theorem dX8_costOf_105 : decode cX8_costOf 105 = .ok (.ireturn, 1) := by decide +kernel
theorem dX8_payIfExchanged_0 : decode cX8_payIfExchanged 0 = .ok (.aload_n 0, 1) := by decide +kernel
theorem dX8_payIfExchanged_1 : decode cX8_payIfExchanged 1 = .ok (.getfield 29, 3) := by decide +kernel
theorem dX8_payIfExchanged_4 : decode cX8_payIfExchanged 4 = .ok (.getfield 184, 3) := by decide +kernel
theorem dX8_payIfExchanged_7 : decode cX8_payIfExchanged 7 = .ok (.iconst 0, 1) := by decide +kernel
theorem dX8_payIfExchanged_8 : decode cX8_payIfExchanged 8 = .ok (.aload_n 0, 1) := by decide +kernel
theorem dX8_payIfExchanged_9 : decode cX8_payIfExchanged 9 = .ok (.getfield 80, 3) := by decide +kernel
theorem dX8_payIfExchanged_12 : decode cX8_payIfExchanged 12 = .ok (.iconst 0, 1) := by decide +kernel
theorem dX8_payIfExchanged_13 : decode cX8_payIfExchanged 13 = .ok (.iconst 5, 1) := by decide +kernel
theorem dX8_payIfExchanged_14 : decode cX8_payIfExchanged 14 = .ok (.invokestatic 326, 3) := by decide +kernel
theorem dX8_payIfExchanged_17 : decode cX8_payIfExchanged 17 = .ok (.aload_n 0, 1) := by decide +kernel
theorem dX8_payIfExchanged_18 : decode cX8_payIfExchanged 18 = .ok (.getfield 80, 3) := by decide +kernel
theorem dX8_payIfExchanged_21 : decode cX8_payIfExchanged 21 = .ok (.iload_n 1, 1) := by decide +kernel
theorem dX8_payIfExchanged_22 : decode cX8_payIfExchanged 22 = .ok (.aload_n 0, 1) := by decide +kernel
theorem dX8_payIfExchanged_23 : decode cX8_payIfExchanged 23 = .ok (.getfield 29, 3) := by decide +kernel
theorem dX8_payIfExchanged_26 : decode cX8_payIfExchanged 26 = .ok (.getfield 184, 3) := by decide +kernel
theorem dX8_payIfExchanged_29 : decode cX8_payIfExchanged 29 = .ok (.iload_n 2, 1) := by decide +kernel
theorem dX8_payIfExchanged_30 : decode cX8_payIfExchanged 30 = .ok (.iaload, 1) := by decide +kernel
theorem dX8_payIfExchanged_31 : decode cX8_payIfExchanged 31 = .ok (.iastore, 1) := by decide +kernel
theorem dX8_payIfExchanged_32 : decode cX8_payIfExchanged 32 = .ok (.aload_n 0, 1) := by decide +kernel
theorem dX8_payIfExchanged_33 : decode cX8_payIfExchanged 33 = .ok (.getfield 80, 3) := by decide +kernel
theorem dX8_payIfExchanged_36 : decode cX8_payIfExchanged 36 = .ok (.iload_n 2, 1) := by decide +kernel
theorem dX8_payIfExchanged_37 : decode cX8_payIfExchanged 37 = .ok (.aload_n 0, 1) := by decide +kernel
theorem dX8_payIfExchanged_38 : decode cX8_payIfExchanged 38 = .ok (.getfield 29, 3) := by decide +kernel
theorem dX8_payIfExchanged_41 : decode cX8_payIfExchanged 41 = .ok (.getfield 184, 3) := by decide +kernel
theorem dX8_payIfExchanged_44 : decode cX8_payIfExchanged 44 = .ok (.iload_n 1, 1) := by decide +kernel
theorem dX8_payIfExchanged_45 : decode cX8_payIfExchanged 45 = .ok (.iaload, 1) := by decide +kernel
theorem dX8_payIfExchanged_46 : decode cX8_payIfExchanged 46 = .ok (.iastore, 1) := by decide +kernel
theorem dX8_payIfExchanged_47 : decode cX8_payIfExchanged 47 = .ok (.aload_n 0, 1) := by decide +kernel
theorem dX8_payIfExchanged_48 : decode cX8_payIfExchanged 48 = .ok (.getfield 53, 3) := by decide +kernel
theorem dX8_payIfExchanged_51 : decode cX8_payIfExchanged 51 = .ok (.aload_n 0, 1) := by decide +kernel
theorem dX8_payIfExchanged_52 : decode cX8_payIfExchanged 52 = .ok (.getfield 80, 3) := by decide +kernel
theorem dX8_payIfExchanged_55 : decode cX8_payIfExchanged 55 = .ok (.aload_n 0, 1) := by decide +kernel
theorem dX8_payIfExchanged_56 : decode cX8_payIfExchanged 56 = .ok (.getfield 29, 3) := by decide +kernel
theorem dX8_payIfExchanged_59 : decode cX8_payIfExchanged 59 = .ok (.getfield 152, 3) := by decide +kernel
theorem dX8_payIfExchanged_62 : decode cX8_payIfExchanged 62 = .ok (.invokevirtual 319, 3) := by decide +kernel
theorem dX8_payIfExchanged_65 : decode cX8_payIfExchanged 65 = .ok (.aload_n 0, 1) := by decide +kernel
theorem dX8_payIfExchanged_66 : decode cX8_payIfExchanged 66 = .ok (.getfield 53, 3) := by decide +kernel
theorem dX8_payIfExchanged_69 : decode cX8_payIfExchanged 69 = .ok (.invokevirtual 221, 3) := by decide +kernel
theorem dX8_payIfExchanged_72 : decode cX8_payIfExchanged 72 = .ok (.ireturn, 1) := by decide +kernel
theorem dX8_sleepersIn_0 : decode cX8_sleepersIn 0 = .ok (.iconst 0, 1) := by decide +kernel
theorem dX8_sleepersIn_1 : decode cX8_sleepersIn 1 = .ok (.istore_n 2, 1) := by decide +kernel
theorem dX8_sleepersIn_2 : decode cX8_sleepersIn 2 = .ok (.iconst 0, 1) := by decide +kernel
theorem dX8_sleepersIn_3 : decode cX8_sleepersIn 3 = .ok (.istore_n 3, 1) := by decide +kernel
theorem dX8_sleepersIn_4 : decode cX8_sleepersIn 4 = .ok (.iload_n 3, 1) := by decide +kernel
theorem dX8_sleepersIn_5 : decode cX8_sleepersIn 5 = .ok (.aload_n 0, 1) := by decide +kernel
theorem dX8_sleepersIn_6 : decode cX8_sleepersIn 6 = .ok (.getfield 19, 3) := by decide +kernel
theorem dX8_sleepersIn_9 : decode cX8_sleepersIn 9 = .ok (.getfield 190, 3) := by decide +kernel
theorem dX8_sleepersIn_12 : decode cX8_sleepersIn 12 = .ok (.if_icmp .ge 27, 3) := by decide +kernel
theorem dX8_sleepersIn_15 : decode cX8_sleepersIn 15 = .ok (.iload_n 2, 1) := by decide +kernel
theorem dX8_sleepersIn_16 : decode cX8_sleepersIn 16 = .ok (.aload_n 0, 1) := by decide +kernel
theorem dX8_sleepersIn_17 : decode cX8_sleepersIn 17 = .ok (.getfield 29, 3) := by decide +kernel
theorem dX8_sleepersIn_20 : decode cX8_sleepersIn 20 = .ok (.getfield 152, 3) := by decide +kernel
theorem dX8_sleepersIn_23 : decode cX8_sleepersIn 23 = .ok (.iload_n 3, 1) := by decide +kernel
theorem dX8_sleepersIn_24 : decode cX8_sleepersIn 24 = .ok (.iaload, 1) := by decide +kernel
theorem dX8_sleepersIn_25 : decode cX8_sleepersIn 25 = .ok (.iload_n 1, 1) := by decide +kernel
theorem dX8_sleepersIn_26 : decode cX8_sleepersIn 26 = .ok (.ishr, 1) := by decide +kernel
theorem dX8_sleepersIn_27 : decode cX8_sleepersIn 27 = .ok (.iconst 1, 1) := by decide +kernel
theorem dX8_sleepersIn_28 : decode cX8_sleepersIn 28 = .ok (.iand, 1) := by decide +kernel
theorem dX8_sleepersIn_29 : decode cX8_sleepersIn 29 = .ok (.iload_n 3, 1) := by decide +kernel
theorem dX8_sleepersIn_30 : decode cX8_sleepersIn 30 = .ok (.ishl, 1) := by decide +kernel
theorem dX8_sleepersIn_31 : decode cX8_sleepersIn 31 = .ok (.ior, 1) := by decide +kernel
theorem dX8_sleepersIn_32 : decode cX8_sleepersIn 32 = .ok (.istore_n 2, 1) := by decide +kernel
theorem dX8_sleepersIn_33 : decode cX8_sleepersIn 33 = .ok (.iinc 3 1, 3) := by decide +kernel
theorem dX8_sleepersIn_36 : decode cX8_sleepersIn 36 = .ok (.goto (-32), 3) := by decide +kernel
theorem dX8_sleepersIn_39 : decode cX8_sleepersIn 39 = .ok (.iload_n 2, 1) := by decide +kernel
theorem dX8_sleepersIn_40 : decode cX8_sleepersIn 40 = .ok (.ireturn, 1) := by decide +kernel
theorem dX8_loudness_0 : decode cX8_loudness 0 = .ok (.iconst 0, 1) := by decide +kernel
theorem dX8_loudness_1 : decode cX8_loudness 1 = .ok (.istore_n 3, 1) := by decide +kernel
theorem dX8_loudness_2 : decode cX8_loudness 2 = .ok (.iconst 0, 1) := by decide +kernel
theorem dX8_loudness_3 : decode cX8_loudness 3 = .ok (.istore 4, 2) := by decide +kernel
theorem dX8_loudness_5 : decode cX8_loudness 5 = .ok (.iload 4, 2) := by decide +kernel
theorem dX8_loudness_7 : decode cX8_loudness 7 = .ok (.aload_n 0, 1) := by decide +kernel
theorem dX8_loudness_8 : decode cX8_loudness 8 = .ok (.getfield 19, 3) := by decide +kernel
theorem dX8_loudness_11 : decode cX8_loudness 11 = .ok (.getfield 224, 3) := by decide +kernel
theorem dX8_loudness_14 : decode cX8_loudness 14 = .ok (.if_icmp .ge 89, 3) := by decide +kernel
theorem dX8_loudness_17 : decode cX8_loudness 17 = .ok (.aload_n 0, 1) := by decide +kernel
theorem dX8_loudness_18 : decode cX8_loudness 18 = .ok (.getfield 29, 3) := by decide +kernel
theorem dX8_loudness_21 : decode cX8_loudness 21 = .ok (.getfield 184, 3) := by decide +kernel
theorem dX8_loudness_24 : decode cX8_loudness 24 = .ok (.iload 4, 2) := by decide +kernel
theorem dX8_loudness_26 : decode cX8_loudness 26 = .ok (.iaload, 1) := by decide +kernel
theorem dX8_loudness_27 : decode cX8_loudness 27 = .ok (.istore 5, 2) := by decide +kernel
theorem dX8_loudness_29 : decode cX8_loudness 29 = .ok (.aload_n 0, 1) := by decide +kernel
theorem dX8_loudness_30 : decode cX8_loudness 30 = .ok (.getfield 19, 3) := by decide +kernel
theorem dX8_loudness_33 : decode cX8_loudness 33 = .ok (.iload 5, 2) := by decide +kernel
theorem dX8_loudness_35 : decode cX8_loudness 35 = .ok (.invokevirtual 137, 3) := by decide +kernel
theorem dX8_loudness_38 : decode cX8_loudness 38 = .ok (.ifCond .eq 16, 3) := by decide +kernel
theorem dX8_loudness_41 : decode cX8_loudness 41 = .ok (.iload_n 2, 1) := by decide +kernel
theorem dX8_loudness_42 : decode cX8_loudness 42 = .ok (.iload 5, 2) := by decide +kernel
theorem dX8_loudness_44 : decode cX8_loudness 44 = .ok (.ishr, 1) := by decide +kernel
theorem dX8_loudness_45 : decode cX8_loudness 45 = .ok (.iconst 1, 1) := by decide +kernel
theorem dX8_loudness_46 : decode cX8_loudness 46 = .ok (.iand, 1) := by decide +kernel
theorem dX8_loudness_47 : decode cX8_loudness 47 = .ok (.ifCond .ne 7, 3) := by decide +kernel
theorem dX8_loudness_50 : decode cX8_loudness 50 = .ok (.iconst 1, 1) := by decide +kernel
theorem dX8_loudness_51 : decode cX8_loudness 51 = .ok (.goto 4, 3) := by decide +kernel
theorem dX8_loudness_54 : decode cX8_loudness 54 = .ok (.iconst 0, 1) := by decide +kernel
theorem dX8_loudness_55 : decode cX8_loudness 55 = .ok (.istore 6, 2) := by decide +kernel
theorem dX8_loudness_57 : decode cX8_loudness 57 = .ok (.iload_n 3, 1) := by decide +kernel
theorem dX8_loudness_58 : decode cX8_loudness 58 = .ok (.iload 6, 2) := by decide +kernel
theorem dX8_loudness_60 : decode cX8_loudness 60 = .ok (.ifCond .eq 34, 3) := by decide +kernel
theorem dX8_loudness_63 : decode cX8_loudness 63 = .ok (.aload_n 0, 1) := by decide +kernel
theorem dX8_loudness_64 : decode cX8_loudness 64 = .ok (.getfield 19, 3) := by decide +kernel
theorem dX8_loudness_67 : decode cX8_loudness 67 = .ok (.getfield 130, 3) := by decide +kernel
theorem dX8_loudness_70 : decode cX8_loudness 70 = .ok (.iload 4, 2) := by decide +kernel
theorem dX8_loudness_72 : decode cX8_loudness 72 = .ok (.iaload, 1) := by decide +kernel
theorem dX8_loudness_73 : decode cX8_loudness 73 = .ok (.iload_n 1, 1) := by decide +kernel
theorem dX8_loudness_74 : decode cX8_loudness 74 = .ok (.ishr, 1) := by decide +kernel
theorem dX8_loudness_75 : decode cX8_loudness 75 = .ok (.iconst 1, 1) := by decide +kernel
theorem dX8_loudness_76 : decode cX8_loudness 76 = .ok (.iand, 1) := by decide +kernel
theorem dX8_loudness_77 : decode cX8_loudness 77 = .ok (.iconst 1, 1) := by decide +kernel
theorem dX8_loudness_78 : decode cX8_loudness 78 = .ok (.if_icmp .ne 16, 3) := by decide +kernel
theorem dX8_loudness_81 : decode cX8_loudness 81 = .ok (.aload_n 0, 1) := by decide +kernel
theorem dX8_loudness_82 : decode cX8_loudness 82 = .ok (.getfield 19, 3) := by decide +kernel
theorem dX8_loudness_85 : decode cX8_loudness 85 = .ok (.getfield 127, 3) := by decide +kernel
theorem dX8_loudness_88 : decode cX8_loudness 88 = .ok (.iload 4, 2) := by decide +kernel
theorem dX8_loudness_90 : decode cX8_loudness 90 = .ok (.iaload, 1) := by decide +kernel
theorem dX8_loudness_91 : decode cX8_loudness 91 = .ok (.goto 4, 3) := by decide +kernel
theorem dX8_loudness_94 : decode cX8_loudness 94 = .ok (.iconst 0, 1) := by decide +kernel
theorem dX8_loudness_95 : decode cX8_loudness 95 = .ok (.iadd, 1) := by decide +kernel
theorem dX8_loudness_96 : decode cX8_loudness 96 = .ok (.istore_n 3, 1) := by decide +kernel
theorem dX8_loudness_97 : decode cX8_loudness 97 = .ok (.iinc 4 1, 3) := by decide +kernel
theorem dX8_loudness_100 : decode cX8_loudness 100 = .ok (.goto (-95), 3) := by decide +kernel
theorem dX8_loudness_103 : decode cX8_loudness 103 = .ok (.iload_n 3, 1) := by decide +kernel
theorem dX8_loudness_104 : decode cX8_loudness 104 = .ok (.ireturn, 1) := by decide +kernel
theorem dX8_agreesWithNoted_0 : decode cX8_agreesWithNoted 0 = .ok (.iconst 0, 1) := by decide +kernel
theorem dX8_agreesWithNoted_1 : decode cX8_agreesWithNoted 1 = .ok (.istore_n 2, 1) := by decide +kernel
theorem dX8_agreesWithNoted_2 : decode cX8_agreesWithNoted 2 = .ok (.iload_n 2, 1) := by decide +kernel
theorem dX8_agreesWithNoted_3 : decode cX8_agreesWithNoted 3 = .ok (.aload_n 0, 1) := by decide +kernel
theorem dX8_agreesWithNoted_4 : decode cX8_agreesWithNoted 4 = .ok (.getfield 90, 3) := by decide +kernel
theorem dX8_agreesWithNoted_7 : decode cX8_agreesWithNoted 7 = .ok (.if_icmp .ge 31, 3) := by decide +kernel
theorem dX8_agreesWithNoted_10 : decode cX8_agreesWithNoted 10 = .ok (.aload_n 0, 1) := by decide +kernel
theorem dX8_agreesWithNoted_11 : decode cX8_agreesWithNoted 11 = .ok (.aload_n 0, 1) := by decide +kernel
theorem dX8_agreesWithNoted_12 : decode cX8_agreesWithNoted 12 = .ok (.getfield 84, 3) := by decide +kernel
theorem dX8_agreesWithNoted_15 : decode cX8_agreesWithNoted 15 = .ok (.iload_n 2, 1) := by decide +kernel
theorem dX8_agreesWithNoted_16 : decode cX8_agreesWithNoted 16 = .ok (.iaload, 1) := by decide +kernel
theorem dX8_agreesWithNoted_17 : decode cX8_agreesWithNoted 17 = .ok (.iload_n 1, 1) := by decide +kernel
theorem dX8_agreesWithNoted_18 : decode cX8_agreesWithNoted 18 = .ok (.invokevirtual 252, 3) := by decide +kernel
theorem dX8_agreesWithNoted_21 : decode cX8_agreesWithNoted 21 = .ok (.aload_n 0, 1) := by decide +kernel
theorem dX8_agreesWithNoted_22 : decode cX8_agreesWithNoted 22 = .ok (.getfield 87, 3) := by decide +kernel
theorem dX8_agreesWithNoted_25 : decode cX8_agreesWithNoted 25 = .ok (.iload_n 2, 1) := by decide +kernel
theorem dX8_agreesWithNoted_26 : decode cX8_agreesWithNoted 26 = .ok (.iaload, 1) := by decide +kernel
theorem dX8_agreesWithNoted_27 : decode cX8_agreesWithNoted 27 = .ok (.if_icmp .eq 5, 3) := by decide +kernel
theorem dX8_agreesWithNoted_30 : decode cX8_agreesWithNoted 30 = .ok (.iconst 0, 1) := by decide +kernel
theorem dX8_agreesWithNoted_31 : decode cX8_agreesWithNoted 31 = .ok (.ireturn, 1) := by decide +kernel
theorem dX8_agreesWithNoted_32 : decode cX8_agreesWithNoted 32 = .ok (.iinc 2 1, 3) := by decide +kernel
theorem dX8_agreesWithNoted_35 : decode cX8_agreesWithNoted 35 = .ok (.goto (-33), 3) := by decide +kernel
theorem dX8_agreesWithNoted_38 : decode cX8_agreesWithNoted 38 = .ok (.iconst 1, 1) := by decide +kernel
theorem dX8_agreesWithNoted_39 : decode cX8_agreesWithNoted 39 = .ok (.ireturn, 1) := by decide +kernel
theorem dX8_weightOf_0 : decode cX8_weightOf 0 = .ok (.iconst 1, 1) := by decide +kernel
theorem dX8_weightOf_1 : decode cX8_weightOf 1 = .ok (.istore_n 3, 1) := by decide +kernel
theorem dX8_weightOf_2 : decode cX8_weightOf 2 = .ok (.iconst 0, 1) := by decide +kernel
theorem dX8_weightOf_3 : decode cX8_weightOf 3 = .ok (.istore 4, 2) := by decide +kernel
theorem dX8_weightOf_5 : decode cX8_weightOf 5 = .ok (.iload 4, 2) := by decide +kernel
theorem dX8_weightOf_7 : decode cX8_weightOf 7 = .ok (.aload_n 0, 1) := by decide +kernel
theorem dX8_weightOf_8 : decode cX8_weightOf 8 = .ok (.getfield 19, 3) := by decide +kernel
theorem dX8_weightOf_11 : decode cX8_weightOf 11 = .ok (.getfield 190, 3) := by decide +kernel
theorem dX8_weightOf_14 : decode cX8_weightOf 14 = .ok (.if_icmp .ge 30, 3) := by decide +kernel
theorem dX8_weightOf_17 : decode cX8_weightOf 17 = .ok (.iload_n 3, 1) := by decide +kernel
theorem dX8_weightOf_18 : decode cX8_weightOf 18 = .ok (.iload_n 1, 1) := by decide +kernel
theorem dX8_weightOf_19 : decode cX8_weightOf 19 = .ok (.iload 4, 2) := by decide +kernel
theorem dX8_weightOf_21 : decode cX8_weightOf 21 = .ok (.ishr, 1) := by decide +kernel
theorem dX8_weightOf_22 : decode cX8_weightOf 22 = .ok (.iconst 1, 1) := by decide +kernel
theorem dX8_weightOf_23 : decode cX8_weightOf 23 = .ok (.iand, 1) := by decide +kernel
theorem dX8_weightOf_24 : decode cX8_weightOf 24 = .ok (.iconst 1, 1) := by decide +kernel
theorem dX8_weightOf_25 : decode cX8_weightOf 25 = .ok (.if_icmp .ne 7, 3) := by decide +kernel
theorem dX8_weightOf_28 : decode cX8_weightOf 28 = .ok (.iload_n 2, 1) := by decide +kernel
theorem dX8_weightOf_29 : decode cX8_weightOf 29 = .ok (.goto 7, 3) := by decide +kernel
theorem dX8_weightOf_32 : decode cX8_weightOf 32 = .ok (.bipush 10, 2) := by decide +kernel
theorem dX8_weightOf_34 : decode cX8_weightOf 34 = .ok (.iload_n 2, 1) := by decide +kernel
theorem dX8_weightOf_35 : decode cX8_weightOf 35 = .ok (.isub, 1) := by decide +kernel
theorem dX8_weightOf_36 : decode cX8_weightOf 36 = .ok (.imul, 1) := by decide +kernel
theorem dX8_weightOf_37 : decode cX8_weightOf 37 = .ok (.istore_n 3, 1) := by decide +kernel
theorem dX8_weightOf_38 : decode cX8_weightOf 38 = .ok (.iinc 4 1, 3) := by decide +kernel
theorem dX8_weightOf_41 : decode cX8_weightOf 41 = .ok (.goto (-36), 3) := by decide +kernel
theorem dX8_weightOf_44 : decode cX8_weightOf 44 = .ok (.iload_n 3, 1) := by decide +kernel
theorem dX8_weightOf_45 : decode cX8_weightOf 45 = .ok (.ireturn, 1) := by decide +kernel
theorem dX8_greatestDivisor_0 : decode cX8_greatestDivisor 0 = .ok (.iload_n 0, 1) := by decide +kernel
theorem dX8_greatestDivisor_1 : decode cX8_greatestDivisor 1 = .ok (.istore_n 2, 1) := by decide +kernel
theorem dX8_greatestDivisor_2 : decode cX8_greatestDivisor 2 = .ok (.iload_n 1, 1) := by decide +kernel
theorem dX8_greatestDivisor_3 : decode cX8_greatestDivisor 3 = .ok (.istore_n 3, 1) := by decide +kernel
theorem dX8_greatestDivisor_4 : decode cX8_greatestDivisor 4 = .ok (.iconst 0, 1) := by decide +kernel
theorem dX8_greatestDivisor_5 : decode cX8_greatestDivisor 5 = .ok (.istore 4, 2) := by decide +kernel
theorem dX8_greatestDivisor_7 : decode cX8_greatestDivisor 7 = .ok (.iload 4, 2) := by decide +kernel
theorem dX8_greatestDivisor_9 : decode cX8_greatestDivisor 9 = .ok (.bipush 64, 2) := by decide +kernel
theorem dX8_greatestDivisor_11 : decode cX8_greatestDivisor 11 = .ok (.if_icmp .ge 23, 3) := by decide +kernel
theorem dX8_greatestDivisor_14 : decode cX8_greatestDivisor 14 = .ok (.iload_n 3, 1) := by decide +kernel
theorem dX8_greatestDivisor_15 : decode cX8_greatestDivisor 15 = .ok (.ifCond .eq 19, 3) := by decide +kernel
theorem dX8_greatestDivisor_18 : decode cX8_greatestDivisor 18 = .ok (.iload_n 2, 1) := by decide +kernel
theorem dX8_greatestDivisor_19 : decode cX8_greatestDivisor 19 = .ok (.iload_n 3, 1) := by decide +kernel
theorem dX8_greatestDivisor_20 : decode cX8_greatestDivisor 20 = .ok (.irem, 1) := by decide +kernel
theorem dX8_greatestDivisor_21 : decode cX8_greatestDivisor 21 = .ok (.istore 5, 2) := by decide +kernel
theorem dX8_greatestDivisor_23 : decode cX8_greatestDivisor 23 = .ok (.iload_n 3, 1) := by decide +kernel
theorem dX8_greatestDivisor_24 : decode cX8_greatestDivisor 24 = .ok (.istore_n 2, 1) := by decide +kernel
theorem dX8_greatestDivisor_25 : decode cX8_greatestDivisor 25 = .ok (.iload 5, 2) := by decide +kernel
theorem dX8_greatestDivisor_27 : decode cX8_greatestDivisor 27 = .ok (.istore_n 3, 1) := by decide +kernel
theorem dX8_greatestDivisor_28 : decode cX8_greatestDivisor 28 = .ok (.iinc 4 1, 3) := by decide +kernel
theorem dX8_greatestDivisor_31 : decode cX8_greatestDivisor 31 = .ok (.goto (-24), 3) := by decide +kernel
theorem dX8_greatestDivisor_34 : decode cX8_greatestDivisor 34 = .ok (.iload_n 2, 1) := by decide +kernel
theorem dX8_greatestDivisor_35 : decode cX8_greatestDivisor 35 = .ok (.ireturn, 1) := by decide +kernel
theorem dX8_longestRun_0 : decode cX8_longestRun 0 = .ok (.iconst 0, 1) := by decide +kernel
theorem dX8_longestRun_1 : decode cX8_longestRun 1 = .ok (.istore_n 1, 1) := by decide +kernel
theorem dX8_longestRun_2 : decode cX8_longestRun 2 = .ok (.iload_n 0, 1) := by decide +kernel
theorem dX8_longestRun_3 : decode cX8_longestRun 3 = .ok (.istore_n 2, 1) := by decide +kernel
theorem dX8_longestRun_4 : decode cX8_longestRun 4 = .ok (.iload_n 2, 1) := by decide +kernel
theorem dX8_longestRun_5 : decode cX8_longestRun 5 = .ok (.ifCond .eq 21, 3) := by decide +kernel
theorem dX8_longestRun_8 : decode cX8_longestRun 8 = .ok (.iload_n 1, 1) := by decide +kernel
theorem dX8_longestRun_9 : decode cX8_longestRun 9 = .ok (.bipush 12, 2) := by decide +kernel
theorem dX8_longestRun_11 : decode cX8_longestRun 11 = .ok (.if_icmp .ge 15, 3) := by decide +kernel
theorem dX8_longestRun_14 : decode cX8_longestRun 14 = .ok (.iinc 1 1, 3) := by decide +kernel
theorem dX8_longestRun_17 : decode cX8_longestRun 17 = .ok (.iload_n 2, 1) := by decide +kernel
theorem dX8_longestRun_18 : decode cX8_longestRun 18 = .ok (.iload_n 2, 1) := by decide +kernel
theorem dX8_longestRun_19 : decode cX8_longestRun 19 = .ok (.iconst 1, 1) := by decide +kernel
theorem dX8_longestRun_20 : decode cX8_longestRun 20 = .ok (.ishr, 1) := by decide +kernel
theorem dX8_longestRun_21 : decode cX8_longestRun 21 = .ok (.iand, 1) := by decide +kernel
theorem dX8_longestRun_22 : decode cX8_longestRun 22 = .ok (.istore_n 2, 1) := by decide +kernel
theorem dX8_longestRun_23 : decode cX8_longestRun 23 = .ok (.goto (-19), 3) := by decide +kernel
theorem dX8_longestRun_26 : decode cX8_longestRun 26 = .ok (.iload_n 1, 1) := by decide +kernel
theorem dX8_longestRun_27 : decode cX8_longestRun 27 = .ok (.ireturn, 1) := by decide +kernel
theorem dX8_savedAfter_0 : decode cX8_savedAfter 0 = .ok (.sipush (-9999), 3) := by decide +kernel
theorem dX8_savedAfter_3 : decode cX8_savedAfter 3 = .ok (.sipush 9999, 3) := by decide +kernel
theorem dX8_savedAfter_6 : decode cX8_savedAfter 6 = .ok (.iload_n 0, 1) := by decide +kernel
theorem dX8_savedAfter_7 : decode cX8_savedAfter 7 = .ok (.iload_n 1, 1) := by decide +kernel
theorem dX8_savedAfter_8 : decode cX8_savedAfter 8 = .ok (.iadd, 1) := by decide +kernel
theorem dX8_savedAfter_9 : decode cX8_savedAfter 9 = .ok (.invokestatic 332, 3) := by decide +kernel
theorem dX8_savedAfter_12 : decode cX8_savedAfter 12 = .ok (.invokestatic 337, 3) := by decide +kernel
theorem dX8_savedAfter_15 : decode cX8_savedAfter 15 = .ok (.ireturn, 1) := by decide +kernel
theorem dX8_asPart_0 : decode cX8_asPart 0 = .ok (.aload_n 0, 1) := by decide +kernel
theorem dX8_asPart_1 : decode cX8_asPart 1 = .ok (.dup, 1) := by decide +kernel
theorem dX8_asPart_2 : decode cX8_asPart 2 = .ok (.getfield 93, 3) := by decide +kernel
theorem dX8_asPart_5 : decode cX8_asPart 5 = .ok (.lconst 1, 1) := by decide +kernel
theorem dX8_asPart_6 : decode cX8_asPart 6 = .ok (.ladd, 1) := by decide +kernel
theorem dX8_asPart_7 : decode cX8_asPart 7 = .ok (.putfield 93, 3) := by decide +kernel
theorem dX8_asPart_10 : decode cX8_asPart 10 = .ok (.aload_n 0, 1) := by decide +kernel
theorem dX8_asPart_11 : decode cX8_asPart 11 = .ok (.getfield 19, 3) := by decide +kernel
theorem dX8_asPart_14 : decode cX8_asPart 14 = .ok (.getfield 130, 3) := by decide +kernel
theorem dX8_asPart_17 : decode cX8_asPart 17 = .ok (.iload_n 1, 1) := by decide +kernel
theorem dX8_asPart_18 : decode cX8_asPart 18 = .ok (.iaload, 1) := by decide +kernel
theorem dX8_asPart_19 : decode cX8_asPart 19 = .ok (.invokestatic 261, 3) := by decide +kernel
theorem dX8_asPart_22 : decode cX8_asPart 22 = .ok (.ireturn, 1) := by decide +kernel
theorem dX8_asOboe_0 : decode cX8_asOboe 0 = .ok (.aload_n 0, 1) := by decide +kernel
theorem dX8_asOboe_1 : decode cX8_asOboe 1 = .ok (.dup, 1) := by decide +kernel
theorem dX8_asOboe_2 : decode cX8_asOboe 2 = .ok (.getfield 93, 3) := by decide +kernel
theorem dX8_asOboe_5 : decode cX8_asOboe 5 = .ok (.ldc2_w 340, 3) := by decide +kernel
theorem dX8_asOboe_8 : decode cX8_asOboe 8 = .ok (.ladd, 1) := by decide +kernel
theorem dX8_asOboe_9 : decode cX8_asOboe 9 = .ok (.putfield 93, 3) := by decide +kernel
theorem dX8_asOboe_12 : decode cX8_asOboe 12 = .ok (.aload_n 0, 1) := by decide +kernel
theorem dX8_asOboe_13 : decode cX8_asOboe 13 = .ok (.iload_n 1, 1) := by decide +kernel
theorem dX8_asOboe_14 : decode cX8_asOboe 14 = .ok (.invokevirtual 287, 3) := by decide +kernel
theorem dX8_asOboe_17 : decode cX8_asOboe 17 = .ok (.aload_n 0, 1) := by decide +kernel
theorem dX8_asOboe_18 : decode cX8_asOboe 18 = .ok (.getfield 19, 3) := by decide +kernel
theorem dX8_asOboe_21 : decode cX8_asOboe 21 = .ok (.getfield 127, 3) := by decide +kernel
theorem dX8_asOboe_24 : decode cX8_asOboe 24 = .ok (.iload_n 1, 1) := by decide +kernel
theorem dX8_asOboe_25 : decode cX8_asOboe 25 = .ok (.iaload, 1) := by decide +kernel
theorem dX8_asOboe_26 : decode cX8_asOboe 26 = .ok (.iadd, 1) := by decide +kernel
theorem dX8_asOboe_27 : decode cX8_asOboe 27 = .ok (.ireturn, 1) := by decide +kernel
theorem dX8_asHorn_0 : decode cX8_asHorn 0 = .ok (.aload_n 0, 1) := by decide +kernel
theorem dX8_asHorn_1 : decode cX8_asHorn 1 = .ok (.dup, 1) := by decide +kernel
theorem dX8_asHorn_2 : decode cX8_asHorn 2 = .ok (.getfield 93, 3) := by decide +kernel
theorem dX8_asHorn_5 : decode cX8_asHorn 5 = .ok (.ldc2_w 342, 3) := by decide +kernel
theorem dX8_asHorn_8 : decode cX8_asHorn 8 = .ok (.ladd, 1) := by decide +kernel
theorem dX8_asHorn_9 : decode cX8_asHorn 9 = .ok (.putfield 93, 3) := by decide +kernel
theorem dX8_asHorn_12 : decode cX8_asHorn 12 = .ok (.aload_n 0, 1) := by decide +kernel
theorem dX8_asHorn_13 : decode cX8_asHorn 13 = .ok (.iload_n 1, 1) := by decide +kernel
theorem dX8_asHorn_14 : decode cX8_asHorn 14 = .ok (.invokevirtual 287, 3) := by decide +kernel
theorem dX8_asHorn_17 : decode cX8_asHorn 17 = .ok (.aload_n 0, 1) := by decide +kernel
theorem dX8_asHorn_18 : decode cX8_asHorn 18 = .ok (.iload_n 1, 1) := by decide +kernel
theorem dX8_asHorn_19 : decode cX8_asHorn 19 = .ok (.invokevirtual 218, 3) := by decide +kernel
theorem dX8_asHorn_22 : decode cX8_asHorn 22 = .ok (.isub, 1) := by decide +kernel
theorem dX8_asHorn_23 : decode cX8_asHorn 23 = .ok (.ireturn, 1) := by decide +kernel
theorem dX8_asSolo_0 : decode cX8_asSolo 0 = .ok (.aload_n 0, 1) := by decide +kernel
theorem dX8_asSolo_1 : decode cX8_asSolo 1 = .ok (.dup, 1) := by decide +kernel
theorem dX8_asSolo_2 : decode cX8_asSolo 2 = .ok (.getfield 93, 3) := by decide +kernel
theorem dX8_asSolo_5 : decode cX8_asSolo 5 = .ok (.ldc2_w 344, 3) := by decide +kernel
theorem dX8_asSolo_8 : decode cX8_asSolo 8 = .ok (.ladd, 1) := by decide +kernel
theorem dX8_asSolo_9 : decode cX8_asSolo 9 = .ok (.putfield 93, 3) := by decide +kernel
theorem dX8_asSolo_12 : decode cX8_asSolo 12 = .ok (.iconst 2, 1) := by decide +kernel
theorem dX8_asSolo_13 : decode cX8_asSolo 13 = .ok (.aload_n 0, 1) := by decide +kernel
theorem dX8_asSolo_14 : decode cX8_asSolo 14 = .ok (.iload_n 1, 1) := by decide +kernel
theorem dX8_asSolo_15 : decode cX8_asSolo 15 = .ok (.invokevirtual 290, 3) := by decide +kernel
theorem dX8_asSolo_18 : decode cX8_asSolo 18 = .ok (.imul, 1) := by decide +kernel
theorem dX8_asSolo_19 : decode cX8_asSolo 19 = .ok (.ireturn, 1) := by decide +kernel
theorem dX8_asDrum_0 : decode cX8_asDrum 0 = .ok (.aload_n 0, 1) := by decide +kernel
theorem dX8_asDrum_1 : decode cX8_asDrum 1 = .ok (.dup, 1) := by decide +kernel
theorem dX8_asDrum_2 : decode cX8_asDrum 2 = .ok (.getfield 93, 3) := by decide +kernel
theorem dX8_asDrum_5 : decode cX8_asDrum 5 = .ok (.ldc2_w 346, 3) := by decide +kernel
theorem dX8_asDrum_8 : decode cX8_asDrum 8 = .ok (.ladd, 1) := by decide +kernel
theorem dX8_asDrum_9 : decode cX8_asDrum 9 = .ok (.putfield 93, 3) := by decide +kernel
theorem dX8_asDrum_12 : decode cX8_asDrum 12 = .ok (.aload_n 0, 1) := by decide +kernel
theorem dX8_asDrum_13 : decode cX8_asDrum 13 = .ok (.iload_n 1, 1) := by decide +kernel
theorem dX8_asDrum_14 : decode cX8_asDrum 14 = .ok (.invokevirtual 293, 3) := by decide +kernel
theorem dX8_asDrum_17 : decode cX8_asDrum 17 = .ok (.iload_n 1, 1) := by decide +kernel
theorem dX8_asDrum_18 : decode cX8_asDrum 18 = .ok (.iadd, 1) := by decide +kernel
theorem dX8_asDrum_19 : decode cX8_asDrum 19 = .ok (.ireturn, 1) := by decide +kernel
theorem dX8_asFugue_0 : decode cX8_asFugue 0 = .ok (.aload_n 0, 1) := by decide +kernel
theorem dX8_asFugue_1 : decode cX8_asFugue 1 = .ok (.dup, 1) := by decide +kernel
theorem dX8_asFugue_2 : decode cX8_asFugue 2 = .ok (.getfield 93, 3) := by decide +kernel
theorem dX8_asFugue_5 : decode cX8_asFugue 5 = .ok (.ldc2_w 348, 3) := by decide +kernel
theorem dX8_asFugue_8 : decode cX8_asFugue 8 = .ok (.ladd, 1) := by decide +kernel
theorem dX8_asFugue_9 : decode cX8_asFugue 9 = .ok (.putfield 93, 3) := by decide +kernel
theorem dX8_asFugue_12 : decode cX8_asFugue 12 = .ok (.aload_n 0, 1) := by decide +kernel
theorem dX8_asFugue_13 : decode cX8_asFugue 13 = .ok (.iload_n 1, 1) := by decide +kernel
theorem dX8_asFugue_14 : decode cX8_asFugue 14 = .ok (.invokevirtual 287, 3) := by decide +kernel
theorem dX8_asFugue_17 : decode cX8_asFugue 17 = .ok (.aload_n 0, 1) := by decide +kernel
theorem dX8_asFugue_18 : decode cX8_asFugue 18 = .ok (.getfield 29, 3) := by decide +kernel
theorem dX8_asFugue_21 : decode cX8_asFugue 21 = .ok (.getfield 171, 3) := by decide +kernel
theorem dX8_asFugue_24 : decode cX8_asFugue 24 = .ok (.iadd, 1) := by decide +kernel
theorem dX8_asFugue_25 : decode cX8_asFugue 25 = .ok (.ireturn, 1) := by decide +kernel
theorem dX9_init_0 : decode cX9_init 0 = .ok (.aload_n 0, 1) := by decide +kernel
theorem dX9_init_1 : decode cX9_init 1 = .ok (.invokespecial 1, 3) := by decide +kernel
theorem dX9_init_4 : decode cX9_init 4 = .ok (.aload_n 0, 1) := by decide +kernel
theorem dX9_init_5 : decode cX9_init 5 = .ok (.sipush 200, 3) := by decide +kernel
theorem dX9_init_8 : decode cX9_init 8 = .ok (.newarray .int, 2) := by decide +kernel
theorem dX9_init_10 : decode cX9_init 10 = .ok (.putfield 7, 3) := by decide +kernel
theorem dX9_init_13 : decode cX9_init 13 = .ok (.aload_n 0, 1) := by decide +kernel
theorem dX9_init_14 : decode cX9_init 14 = .ok (.bipush 10, 2) := by decide +kernel
theorem dX9_init_16 : decode cX9_init 16 = .ok (.newarray .int, 2) := by decide +kernel
theorem dX9_init_18 : decode cX9_init 18 = .ok (.putfield 13, 3) := by decide +kernel
theorem dX9_init_21 : decode cX9_init 21 = .ok (.aload_n 0, 1) := by decide +kernel
theorem dX9_init_22 : decode cX9_init 22 = .ok (.bipush 10, 2) := by decide +kernel
theorem dX9_init_24 : decode cX9_init 24 = .ok (.newarray .int, 2) := by decide +kernel
theorem dX9_init_26 : decode cX9_init 26 = .ok (.putfield 16, 3) := by decide +kernel
theorem dX9_init_29 : decode cX9_init 29 = .ok (.aload_n 0, 1) := by decide +kernel
theorem dX9_init_30 : decode cX9_init 30 = .ok (.bipush 10, 2) := by decide +kernel
theorem dX9_init_32 : decode cX9_init 32 = .ok (.newarray .int, 2) := by decide +kernel
theorem dX9_init_34 : decode cX9_init 34 = .ok (.putfield 19, 3) := by decide +kernel
theorem dX9_init_37 : decode cX9_init 37 = .ok (.aload_n 0, 1) := by decide +kernel
theorem dX9_init_38 : decode cX9_init 38 = .ok (.bipush 10, 2) := by decide +kernel
theorem dX9_init_40 : decode cX9_init 40 = .ok (.newarray .int, 2) := by decide +kernel
theorem dX9_init_42 : decode cX9_init 42 = .ok (.putfield 22, 3) := by decide +kernel
theorem dX9_init_45 : decode cX9_init 45 = .ok (.aload_n 0, 1) := by decide +kernel
theorem dX9_init_46 : decode cX9_init 46 = .ok (.bipush 10, 2) := by decide +kernel
theorem dX9_init_48 : decode cX9_init 48 = .ok (.newarray .int, 2) := by decide +kernel
theorem dX9_init_50 : decode cX9_init 50 = .ok (.putfield 25, 3) := by decide +kernel
theorem dX9_init_53 : decode cX9_init 53 = .ok (.aload_n 0, 1) := by decide +kernel
theorem dX9_init_54 : decode cX9_init 54 = .ok (.bipush 16, 2) := by decide +kernel
theorem dX9_init_56 : decode cX9_init 56 = .ok (.newarray .int, 2) := by decide +kernel
theorem dX9_init_58 : decode cX9_init 58 = .ok (.putfield 28, 3) := by decide +kernel
theorem dX9_init_61 : decode cX9_init 61 = .ok (.aload_n 0, 1) := by decide +kernel
theorem dX9_init_62 : decode cX9_init 62 = .ok (.bipush 16, 2) := by decide +kernel
theorem dX9_init_64 : decode cX9_init 64 = .ok (.newarray .int, 2) := by decide +kernel
theorem dX9_init_66 : decode cX9_init 66 = .ok (.putfield 31, 3) := by decide +kernel
theorem dX9_init_69 : decode cX9_init 69 = .ok (.aload_n 0, 1) := by decide +kernel
theorem dX9_init_70 : decode cX9_init 70 = .ok (.bipush 32, 2) := by decide +kernel
theorem dX9_init_72 : decode cX9_init 72 = .ok (.newarray .int, 2) := by decide +kernel
theorem dX9_init_74 : decode cX9_init 74 = .ok (.putfield 34, 3) := by decide +kernel
theorem dX9_init_77 : decode cX9_init 77 = .ok (.aload_n 0, 1) := by decide +kernel
theorem dX9_init_78 : decode cX9_init 78 = .ok (.iconst 2, 1) := by decide +kernel
theorem dX9_init_79 : decode cX9_init 79 = .ok (.newarray .boolean, 2) := by decide +kernel
theorem dX9_init_81 : decode cX9_init 81 = .ok (.putfield 37, 3) := by decide +kernel
theorem dX9_init_84 : decode cX9_init 84 = .ok (.aload_n 0, 1) := by decide +kernel
theorem dX9_init_85 : decode cX9_init 85 = .ok (.sipush 160, 3) := by decide +kernel
theorem dX9_init_88 : decode cX9_init 88 = .ok (.newarray .int, 2) := by decide +kernel
theorem dX9_init_90 : decode cX9_init 90 = .ok (.putfield 41, 3) := by decide +kernel
theorem dX9_init_93 : decode cX9_init 93 = .ok (.aload_n 0, 1) := by decide +kernel
theorem dX9_init_94 : decode cX9_init 94 = .ok (.bipush 6, 2) := by decide +kernel
theorem dX9_init_96 : decode cX9_init 96 = .ok (.newarray .int, 2) := by decide +kernel
theorem dX9_init_98 : decode cX9_init 98 = .ok (.putfield 44, 3) := by decide +kernel
theorem dX9_init_101 : decode cX9_init 101 = .ok (.aload_n 0, 1) := by decide +kernel
theorem dX9_init_102 : decode cX9_init 102 = .ok (.bipush 6, 2) := by decide +kernel
theorem dX9_init_104 : decode cX9_init 104 = .ok (.newarray .int, 2) := by decide +kernel
theorem dX9_init_106 : decode cX9_init 106 = .ok (.putfield 47, 3) := by decide +kernel
theorem dX9_init_109 : decode cX9_init 109 = .ok (.aload_n 0, 1) := by decide +kernel
theorem dX9_init_110 : decode cX9_init 110 = .ok (.iconst 5, 1) := by decide +kernel
theorem dX9_init_111 : decode cX9_init 111 = .ok (.newarray .int, 2) := by decide +kernel
theorem dX9_init_113 : decode cX9_init 113 = .ok (.putfield 50, 3) := by decide +kernel
theorem dX9_init_116 : decode cX9_init 116 = .ok (.aload_n 0, 1) := by decide +kernel
theorem dX9_init_117 : decode cX9_init 117 = .ok (.iconst 5, 1) := by decide +kernel
theorem dX9_init_118 : decode cX9_init 118 = .ok (.newarray .int, 2) := by decide +kernel
theorem dX9_init_120 : decode cX9_init 120 = .ok (.putfield 53, 3) := by decide +kernel
theorem dX9_init_123 : decode cX9_init 123 = .ok (.aload_n 0, 1) := by decide +kernel
theorem dX9_init_124 : decode cX9_init 124 = .ok (.getfield 13, 3) := by decide +kernel
theorem dX9_init_127 : decode cX9_init 127 = .ok (.iconst 2, 1) := by decide +kernel
theorem dX9_init_128 : decode cX9_init 128 = .ok (.bipush 8, 2) := by decide +kernel
theorem dX9_init_130 : decode cX9_init 130 = .ok (.iastore, 1) := by decide +kernel
theorem dX9_init_131 : decode cX9_init 131 = .ok (.aload_n 0, 1) := by decide +kernel
theorem dX9_init_132 : decode cX9_init 132 = .ok (.getfield 13, 3) := by decide +kernel
theorem dX9_init_135 : decode cX9_init 135 = .ok (.iconst 3, 1) := by decide +kernel
theorem dX9_init_136 : decode cX9_init 136 = .ok (.bipush 12, 2) := by decide +kernel
theorem dX9_init_138 : decode cX9_init 138 = .ok (.iastore, 1) := by decide +kernel
theorem dX9_init_139 : decode cX9_init 139 = .ok (.aload_n 0, 1) := by decide +kernel
theorem dX9_init_140 : decode cX9_init 140 = .ok (.getfield 13, 3) := by decide +kernel
theorem dX9_init_143 : decode cX9_init 143 = .ok (.iconst 4, 1) := by decide +kernel
theorem dX9_init_144 : decode cX9_init 144 = .ok (.iconst 5, 1) := by decide +kernel
theorem dX9_init_145 : decode cX9_init 145 = .ok (.iastore, 1) := by decide +kernel
theorem dX9_init_146 : decode cX9_init 146 = .ok (.return_, 1) := by decide +kernel
theorem dX9_in_0 : decode cX9_in 0 = .ok (.iload_n 0, 1) := by decide +kernel
theorem dX9_in_1 : decode cX9_in 1 = .ok (.iload_n 1, 1) := by decide +kernel
theorem dX9_in_2 : decode cX9_in 2 = .ok (.if_icmp .lt 12, 3) := by decide +kernel
theorem dX9_in_5 : decode cX9_in 5 = .ok (.iload_n 0, 1) := by decide +kernel
theorem dX9_in_6 : decode cX9_in 6 = .ok (.iload_n 2, 1) := by decide +kernel
theorem dX9_in_7 : decode cX9_in 7 = .ok (.if_icmp .gt 7, 3) := by decide +kernel
theorem dX9_in_10 : decode cX9_in 10 = .ok (.iconst 1, 1) := by decide +kernel
theorem dX9_in_11 : decode cX9_in 11 = .ok (.goto 4, 3) := by decide +kernel
theorem dX9_in_14 : decode cX9_in 14 = .ok (.iconst 0, 1) := by decide +kernel
theorem dX9_in_15 : decode cX9_in 15 = .ok (.ireturn, 1) := by decide +kernel
theorem dX9_ones_0 : decode cX9_ones 0 = .ok (.iconst 0, 1) := by decide +kernel
theorem dX9_ones_1 : decode cX9_ones 1 = .ok (.istore_n 1, 1) := by decide +kernel
theorem dX9_ones_2 : decode cX9_ones 2 = .ok (.iconst 0, 1) := by decide +kernel
theorem dX9_ones_3 : decode cX9_ones 3 = .ok (.istore_n 2, 1) := by decide +kernel
theorem dX9_ones_4 : decode cX9_ones 4 = .ok (.iload_n 2, 1) := by decide +kernel
theorem dX9_ones_5 : decode cX9_ones 5 = .ok (.bipush 12, 2) := by decide +kernel
theorem dX9_ones_7 : decode cX9_ones 7 = .ok (.if_icmp .ge 17, 3) := by decide +kernel
theorem dX9_ones_10 : decode cX9_ones 10 = .ok (.iload_n 1, 1) := by decide +kernel
theorem dX9_ones_11 : decode cX9_ones 11 = .ok (.iload_n 0, 1) := by decide +kernel
theorem dX9_ones_12 : decode cX9_ones 12 = .ok (.iload_n 2, 1) := by decide +kernel
theorem dX9_ones_13 : decode cX9_ones 13 = .ok (.ishr, 1) := by decide +kernel
theorem dX9_ones_14 : decode cX9_ones 14 = .ok (.iconst 1, 1) := by decide +kernel
theorem dX9_ones_15 : decode cX9_ones 15 = .ok (.iand, 1) := by decide +kernel
theorem dX9_ones_16 : decode cX9_ones 16 = .ok (.iadd, 1) := by decide +kernel
theorem dX9_ones_17 : decode cX9_ones 17 = .ok (.istore_n 1, 1) := by decide +kernel
theorem dX9_ones_18 : decode cX9_ones 18 = .ok (.iinc 2 1, 3) := by decide +kernel
theorem dX9_ones_21 : decode cX9_ones 21 = .ok (.goto (-17), 3) := by decide +kernel
theorem dX9_ones_24 : decode cX9_ones 24 = .ok (.iload_n 1, 1) := by decide +kernel
theorem dX9_ones_25 : decode cX9_ones 25 = .ok (.ireturn, 1) := by decide +kernel
theorem dX9_type_0 : decode cX9_type 0 = .ok (.aload_n 0, 1) := by decide +kernel
theorem dX9_type_1 : decode cX9_type 1 = .ok (.iconst 0, 1) := by decide +kernel
theorem dX9_type_2 : decode cX9_type 2 = .ok (.putfield 56, 3) := by decide +kernel
theorem dX9_type_5 : decode cX9_type 5 = .ok (.iload_n 1, 1) := by decide +kernel
theorem dX9_type_6 : decode cX9_type 6 = .ok (.iconst 0, 1) := by decide +kernel
theorem dX9_type_7 : decode cX9_type 7 = .ok (.sipush 255, 3) := by decide +kernel
theorem dX9_type_10 : decode cX9_type 10 = .ok (.invokestatic 60, 3) := by decide +kernel
theorem dX9_type_13 : decode cX9_type 13 = .ok (.ifCond .ne 5, 3) := by decide +kernel
theorem dX9_type_16 : decode cX9_type 16 = .ok (.iconst (-1), 1) := by decide +kernel
theorem dX9_type_17 : decode cX9_type 17 = .ok (.ireturn, 1) := by decide +kernel
theorem dX9_type_18 : decode cX9_type 18 = .ok (.aload_n 0, 1) := by decide +kernel
theorem dX9_type_19 : decode cX9_type 19 = .ok (.getfield 64, 3) := by decide +kernel
theorem dX9_type_22 : decode cX9_type 22 = .ok (.sipush 200, 3) := by decide +kernel
theorem dX9_type_25 : decode cX9_type 25 = .ok (.if_icmp .ne 6, 3) := by decide +kernel
theorem dX9_type_28 : decode cX9_type 28 = .ok (.bipush (-3), 2) := by decide +kernel
theorem dX9_type_30 : decode cX9_type 30 = .ok (.ireturn, 1) := by decide +kernel
theorem dX9_type_31 : decode cX9_type 31 = .ok (.aload_n 0, 1) := by decide +kernel
theorem dX9_type_32 : decode cX9_type 32 = .ok (.getfield 7, 3) := by decide +kernel
theorem dX9_type_35 : decode cX9_type 35 = .ok (.aload_n 0, 1) := by decide +kernel
theorem dX9_type_36 : decode cX9_type 36 = .ok (.getfield 64, 3) := by decide +kernel
theorem dX9_type_39 : decode cX9_type 39 = .ok (.iload_n 1, 1) := by decide +kernel
theorem dX9_type_40 : decode cX9_type 40 = .ok (.iastore, 1) := by decide +kernel
theorem dX9_type_41 : decode cX9_type 41 = .ok (.aload_n 0, 1) := by decide +kernel
theorem dX9_type_42 : decode cX9_type 42 = .ok (.dup, 1) := by decide +kernel
theorem dX9_type_43 : decode cX9_type 43 = .ok (.getfield 64, 3) := by decide +kernel
theorem dX9_type_46 : decode cX9_type 46 = .ok (.iconst 1, 1) := by decide +kernel
theorem dX9_type_47 : decode cX9_type 47 = .ok (.iadd, 1) := by decide +kernel
theorem dX9_type_48 : decode cX9_type 48 = .ok (.putfield 64, 3) := by decide +kernel
theorem dX9_type_51 : decode cX9_type 51 = .ok (.aload_n 0, 1) := by decide +kernel
theorem dX9_type_52 : decode cX9_type 52 = .ok (.getfield 64, 3) := by decide +kernel
theorem dX9_type_55 : decode cX9_type 55 = .ok (.ireturn, 1) := by decide +kernel
theorem dX9_clear_0 : decode cX9_clear 0 = .ok (.aload_n 0, 1) := by decide +kernel
theorem dX9_clear_1 : decode cX9_clear 1 = .ok (.iconst 0, 1) := by decide +kernel
theorem dX9_clear_2 : decode cX9_clear 2 = .ok (.putfield 56, 3) := by decide +kernel
theorem dX9_clear_5 : decode cX9_clear 5 = .ok (.aload_n 0, 1) := by decide +kernel
theorem dX9_clear_6 : decode cX9_clear 6 = .ok (.getfield 64, 3) := by decide +kernel
theorem dX9_clear_9 : decode cX9_clear 9 = .ok (.istore_n 1, 1) := by decide +kernel
theorem dX9_clear_10 : decode cX9_clear 10 = .ok (.aload_n 0, 1) := by decide +kernel
theorem dX9_clear_11 : decode cX9_clear 11 = .ok (.iconst 0, 1) := by decide +kernel
theorem dX9_clear_12 : decode cX9_clear 12 = .ok (.putfield 64, 3) := by decide +kernel
theorem dX9_clear_15 : decode cX9_clear 15 = .ok (.iload_n 1, 1) := by decide +kernel
theorem dX9_clear_16 : decode cX9_clear 16 = .ok (.ireturn, 1) := by decide +kernel
theorem dX9_letterAt_0 : decode cX9_letterAt 0 = .ok (.iload_n 1, 1) := by decide +kernel
theorem dX9_letterAt_1 : decode cX9_letterAt 1 = .ok (.aload_n 0, 1) := by decide +kernel
theorem dX9_letterAt_2 : decode cX9_letterAt 2 = .ok (.getfield 64, 3) := by decide +kernel
theorem dX9_letterAt_5 : decode cX9_letterAt 5 = .ok (.if_icmp .ge 12, 3) := by decide +kernel
theorem dX9_letterAt_8 : decode cX9_letterAt 8 = .ok (.aload_n 0, 1) := by decide +kernel
theorem dX9_letterAt_9 : decode cX9_letterAt 9 = .ok (.getfield 7, 3) := by decide +kernel
theorem dX9_letterAt_12 : decode cX9_letterAt 12 = .ok (.iload_n 1, 1) := by decide +kernel
theorem dX9_letterAt_13 : decode cX9_letterAt 13 = .ok (.iaload, 1) := by decide +kernel
theorem dX9_letterAt_14 : decode cX9_letterAt 14 = .ok (.goto 4, 3) := by decide +kernel
theorem dX9_letterAt_17 : decode cX9_letterAt 17 = .ok (.iconst (-1), 1) := by decide +kernel
theorem dX9_letterAt_18 : decode cX9_letterAt 18 = .ok (.ireturn, 1) := by decide +kernel
theorem dX9_isLetter_0 : decode cX9_isLetter 0 = .ok (.iload_n 0, 1) := by decide +kernel
theorem dX9_isLetter_1 : decode cX9_isLetter 1 = .ok (.bipush 98, 2) := by decide +kernel
theorem dX9_isLetter_3 : decode cX9_isLetter 3 = .ok (.if_icmp .eq 39, 3) := by decide +kernel
theorem dX9_isLetter_6 : decode cX9_isLetter 6 = .ok (.iload_n 0, 1) := by decide +kernel
theorem dX9_isLetter_7 : decode cX9_isLetter 7 = .ok (.bipush 112, 2) := by decide +kernel
theorem dX9_isLetter_9 : decode cX9_isLetter 9 = .ok (.if_icmp .eq 33, 3) := by decide +kernel
theorem dX9_isLetter_12 : decode cX9_isLetter 12 = .ok (.iload_n 0, 1) := by decide +kernel
theorem dX9_isLetter_13 : decode cX9_isLetter 13 = .ok (.bipush 109, 2) := by decide +kernel
theorem dX9_isLetter_15 : decode cX9_isLetter 15 = .ok (.if_icmp .eq 27, 3) := by decide +kernel
theorem dX9_isLetter_18 : decode cX9_isLetter 18 = .ok (.iload_n 0, 1) := by decide +kernel
theorem dX9_isLetter_19 : decode cX9_isLetter 19 = .ok (.bipush 119, 2) := by decide +kernel
theorem dX9_isLetter_21 : decode cX9_isLetter 21 = .ok (.if_icmp .eq 21, 3) := by decide +kernel
theorem dX9_isLetter_24 : decode cX9_isLetter 24 = .ok (.iload_n 0, 1) := by decide +kernel
theorem dX9_isLetter_25 : decode cX9_isLetter 25 = .ok (.bipush 102, 2) := by decide +kernel
theorem dX9_isLetter_27 : decode cX9_isLetter 27 = .ok (.if_icmp .eq 15, 3) := by decide +kernel
theorem dX9_isLetter_30 : decode cX9_isLetter 30 = .ok (.iload_n 0, 1) := by decide +kernel
theorem dX9_isLetter_31 : decode cX9_isLetter 31 = .ok (.bipush 110, 2) := by decide +kernel
theorem dX9_isLetter_33 : decode cX9_isLetter 33 = .ok (.if_icmp .eq 9, 3) := by decide +kernel
theorem dX9_isLetter_36 : decode cX9_isLetter 36 = .ok (.iload_n 0, 1) := by decide +kernel
theorem dX9_isLetter_37 : decode cX9_isLetter 37 = .ok (.bipush 114, 2) := by decide +kernel
theorem dX9_isLetter_39 : decode cX9_isLetter 39 = .ok (.if_icmp .ne 7, 3) := by decide +kernel
theorem dX9_isLetter_42 : decode cX9_isLetter 42 = .ok (.iconst 1, 1) := by decide +kernel
theorem dX9_isLetter_43 : decode cX9_isLetter 43 = .ok (.goto 4, 3) := by decide +kernel
theorem dX9_isLetter_46 : decode cX9_isLetter 46 = .ok (.iconst 0, 1) := by decide +kernel
theorem dX9_isLetter_47 : decode cX9_isLetter 47 = .ok (.ireturn, 1) := by decide +kernel
theorem dX9_advances_0 : decode cX9_advances 0 = .ok (.aload_n 0, 1) := by decide +kernel
theorem dX9_advances_1 : decode cX9_advances 1 = .ok (.aload_n 0, 1) := by decide +kernel
theorem dX9_advances_2 : decode cX9_advances 2 = .ok (.getfield 67, 3) := by decide +kernel
theorem dX9_advances_5 : decode cX9_advances 5 = .ok (.invokevirtual 70, 3) := by decide +kernel
theorem dX9_advances_8 : decode cX9_advances 8 = .ok (.bipush 32, 2) := by decide +kernel
theorem dX9_advances_10 : decode cX9_advances 10 = .ok (.if_icmp .ne 16, 3) := by decide +kernel
theorem dX9_advances_13 : decode cX9_advances 13 = .ok (.aload_n 0, 1) := by decide +kernel
theorem dX9_advances_14 : decode cX9_advances 14 = .ok (.dup, 1) := by decide +kernel
theorem dX9_advances_15 : decode cX9_advances 15 = .ok (.getfield 67, 3) := by decide +kernel
theorem dX9_advances_18 : decode cX9_advances 18 = .ok (.iconst 1, 1) := by decide +kernel
theorem dX9_advances_19 : decode cX9_advances 19 = .ok (.iadd, 1) := by decide +kernel
theorem dX9_advances_20 : decode cX9_advances 20 = .ok (.putfield 67, 3) := by decide +kernel
theorem dX9_advances_23 : decode cX9_advances 23 = .ok (.goto (-23), 3) := by decide +kernel
theorem dX9_advances_26 : decode cX9_advances 26 = .ok (.aload_n 0, 1) := by decide +kernel
theorem dX9_advances_27 : decode cX9_advances 27 = .ok (.aload_n 0, 1) := by decide +kernel
theorem dX9_advances_28 : decode cX9_advances 28 = .ok (.getfield 67, 3) := by decide +kernel
theorem dX9_advances_31 : decode cX9_advances 31 = .ok (.putfield 74, 3) := by decide +kernel
theorem dX9_advances_34 : decode cX9_advances 34 = .ok (.aload_n 0, 1) := by decide +kernel
theorem dX9_advances_35 : decode cX9_advances 35 = .ok (.aload_n 0, 1) := by decide +kernel
theorem dX9_advances_36 : decode cX9_advances 36 = .ok (.getfield 67, 3) := by decide +kernel
theorem dX9_advances_39 : decode cX9_advances 39 = .ok (.invokevirtual 70, 3) := by decide +kernel
theorem dX9_advances_42 : decode cX9_advances 42 = .ok (.istore_n 1, 1) := by decide +kernel
theorem dX9_advances_43 : decode cX9_advances 43 = .ok (.iload_n 1, 1) := by decide +kernel
theorem dX9_advances_44 : decode cX9_advances 44 = .ok (.ifCond .ge 11, 3) := by decide +kernel
theorem dX9_advances_47 : decode cX9_advances 47 = .ok (.aload_n 0, 1) := by decide +kernel
theorem dX9_advances_48 : decode cX9_advances 48 = .ok (.iconst 0, 1) := by decide +kernel
theorem dX9_advances_49 : decode cX9_advances 49 = .ok (.putfield 77, 3) := by decide +kernel
theorem dX9_advances_52 : decode cX9_advances 52 = .ok (.goto 170, 3) := by decide +kernel
theorem dX9_advances_55 : decode cX9_advances 55 = .ok (.iload_n 1, 1) := by decide +kernel
theorem dX9_advances_56 : decode cX9_advances 56 = .ok (.bipush 48, 2) := by decide +kernel
theorem dX9_advances_58 : decode cX9_advances 58 = .ok (.bipush 57, 2) := by decide +kernel
theorem dX9_advances_60 : decode cX9_advances 60 = .ok (.invokestatic 60, 3) := by decide +kernel
theorem dX9_advances_63 : decode cX9_advances 63 = .ok (.ifCond .eq 118, 3) := by decide +kernel
theorem dX9_advances_66 : decode cX9_advances 66 = .ok (.aload_n 0, 1) := by decide +kernel
theorem dX9_advances_67 : decode cX9_advances 67 = .ok (.iconst 0, 1) := by decide +kernel
theorem dX9_advances_68 : decode cX9_advances 68 = .ok (.putfield 80, 3) := by decide +kernel
theorem dX9_advances_71 : decode cX9_advances 71 = .ok (.aload_n 0, 1) := by decide +kernel
theorem dX9_advances_72 : decode cX9_advances 72 = .ok (.aload_n 0, 1) := by decide +kernel
theorem dX9_advances_73 : decode cX9_advances 73 = .ok (.getfield 67, 3) := by decide +kernel
theorem dX9_advances_76 : decode cX9_advances 76 = .ok (.invokevirtual 70, 3) := by decide +kernel
theorem dX9_advances_79 : decode cX9_advances 79 = .ok (.bipush 48, 2) := by decide +kernel
theorem dX9_advances_81 : decode cX9_advances 81 = .ok (.bipush 57, 2) := by decide +kernel
theorem dX9_advances_83 : decode cX9_advances 83 = .ok (.invokestatic 60, 3) := by decide +kernel
theorem dX9_advances_86 : decode cX9_advances 86 = .ok (.ifCond .eq 55, 3) := by decide +kernel
theorem dX9_advances_89 : decode cX9_advances 89 = .ok (.aload_n 0, 1) := by decide +kernel
theorem dX9_advances_90 : decode cX9_advances 90 = .ok (.aload_n 0, 1) := by decide +kernel
theorem dX9_advances_91 : decode cX9_advances 91 = .ok (.getfield 80, 3) := by decide +kernel
theorem dX9_advances_94 : decode cX9_advances 94 = .ok (.bipush 99, 2) := by decide +kernel
theorem dX9_advances_96 : decode cX9_advances 96 = .ok (.if_icmp .le 10, 3) := by decide +kernel
theorem dX9_advances_99 : decode cX9_advances 99 = .ok (.aload_n 0, 1) := by decide +kernel
theorem dX9_advances_100 : decode cX9_advances 100 = .ok (.getfield 80, 3) := by decide +kernel
theorem dX9_advances_103 : decode cX9_advances 103 = .ok (.goto 22, 3) := by decide +kernel
theorem dX9_advances_106 : decode cX9_advances 106 = .ok (.bipush 10, 2) := by decide +kernel
theorem dX9_advances_108 : decode cX9_advances 108 = .ok (.aload_n 0, 1) := by decide +kernel
theorem dX9_advances_109 : decode cX9_advances 109 = .ok (.getfield 80, 3) := by decide +kernel
theorem dX9_advances_112 : decode cX9_advances 112 = .ok (.imul, 1) := by decide +kernel
theorem dX9_advances_113 : decode cX9_advances 113 = .ok (.aload_n 0, 1) := by decide +kernel
theorem dX9_advances_114 : decode cX9_advances 114 = .ok (.aload_n 0, 1) := by decide +kernel
theorem dX9_advances_115 : decode cX9_advances 115 = .ok (.getfield 67, 3) := by decide +kernel
theorem dX9_advances_118 : decode cX9_advances 118 = .ok (.invokevirtual 70, 3) := by decide +kernel
theorem dX9_advances_121 : decode cX9_advances 121 = .ok (.iadd, 1) := by decide +kernel
theorem dX9_advances_122 : decode cX9_advances 122 = .ok (.bipush 48, 2) := by decide +kernel
theorem dX9_advances_124 : decode cX9_advances 124 = .ok (.isub, 1) := by decide +kernel
theorem dX9_advances_125 : decode cX9_advances 125 = .ok (.putfield 80, 3) := by decide +kernel
theorem dX9_advances_128 : decode cX9_advances 128 = .ok (.aload_n 0, 1) := by decide +kernel
theorem dX9_advances_129 : decode cX9_advances 129 = .ok (.dup, 1) := by decide +kernel
theorem dX9_advances_130 : decode cX9_advances 130 = .ok (.getfield 67, 3) := by decide +kernel
theorem dX9_advances_133 : decode cX9_advances 133 = .ok (.iconst 1, 1) := by decide +kernel
theorem dX9_advances_134 : decode cX9_advances 134 = .ok (.iadd, 1) := by decide +kernel
theorem dX9_advances_135 : decode cX9_advances 135 = .ok (.putfield 67, 3) := by decide +kernel
