theorem dX9_exchange_117 : decode cX9_exchange 117 = .ok (.iload 5, 2) := by decide +kernel
theorem dX9_exchange_119 : decode cX9_exchange 119 = .ok (.iload_n 1, 1) := by decide +kernel
theorem dX9_exchange_120 : decode cX9_exchange 120 = .ok (.if_icmp .le 13, 3) := by decide +kernel
theorem dX9_exchange_123 : decode cX9_exchange 123 = .ok (.bipush 10, 2) := by decide +kernel
theorem dX9_exchange_125 : decode cX9_exchange 125 = .ok (.iload_n 3, 1) := by decide +kernel
theorem dX9_exchange_126 : decode cX9_exchange 126 = .ok (.imul, 1) := by decide +kernel
theorem dX9_exchange_127 : decode cX9_exchange 127 = .ok (.iload 4, 2) := by decide +kernel
theorem dX9_exchange_129 : decode cX9_exchange 129 = .ok (.iadd, 1) := by decide +kernel
theorem dX9_exchange_130 : decode cX9_exchange 130 = .ok (.goto 4, 3) := by decide +kernel
theorem dX9_exchange_133 : decode cX9_exchange 133 = .ok (.iload_n 2, 1) := by decide +kernel
theorem dX9_exchange_134 : decode cX9_exchange 134 = .ok (.istore_n 2, 1) := by decide +kernel
theorem dX9_exchange_135 : decode cX9_exchange 135 = .ok (.iload 5, 2) := by decide +kernel
theorem dX9_exchange_137 : decode cX9_exchange 137 = .ok (.iload_n 1, 1) := by decide +kernel
theorem dX9_exchange_138 : decode cX9_exchange 138 = .ok (.if_icmp .le 8, 3) := by decide +kernel
theorem dX9_exchange_141 : decode cX9_exchange 141 = .ok (.iload 5, 2) := by decide +kernel
theorem dX9_exchange_143 : decode cX9_exchange 143 = .ok (.goto 4, 3) := by decide +kernel
theorem dX9_exchange_146 : decode cX9_exchange 146 = .ok (.iload_n 1, 1) := by decide +kernel
theorem dX9_exchange_147 : decode cX9_exchange 147 = .ok (.istore_n 1, 1) := by decide +kernel
theorem dX9_exchange_148 : decode cX9_exchange 148 = .ok (.iinc 4 1, 3) := by decide +kernel
theorem dX9_exchange_151 : decode cX9_exchange 151 = .ok (.goto (-117), 3) := by decide +kernel
theorem dX9_exchange_154 : decode cX9_exchange 154 = .ok (.iinc 3 1, 3) := by decide +kernel
theorem dX9_exchange_157 : decode cX9_exchange 157 = .ok (.goto (-138), 3) := by decide +kernel
theorem dX9_exchange_160 : decode cX9_exchange 160 = .ok (.iload_n 2, 1) := by decide +kernel
theorem dX9_exchange_161 : decode cX9_exchange 161 = .ok (.ireturn, 1) := by decide +kernel
theorem dX9_leftOut_0 : decode cX9_leftOut 0 = .ok (.aload_n 0, 1) := by decide +kernel
theorem dX9_leftOut_1 : decode cX9_leftOut 1 = .ok (.iconst 0, 1) := by decide +kernel
theorem dX9_leftOut_2 : decode cX9_leftOut 2 = .ok (.putfield 56, 3) := by decide +kernel
theorem dX9_leftOut_5 : decode cX9_leftOut 5 = .ok (.aload_n 0, 1) := by decide +kernel
theorem dX9_leftOut_6 : decode cX9_leftOut 6 = .ok (.iload_n 1, 1) := by decide +kernel
theorem dX9_leftOut_7 : decode cX9_leftOut 7 = .ok (.invokevirtual 145, 3) := by decide +kernel
theorem dX9_leftOut_10 : decode cX9_leftOut 10 = .ok (.ifCond .eq 12, 3) := by decide +kernel
theorem dX9_leftOut_13 : decode cX9_leftOut 13 = .ok (.iload_n 2, 1) := by decide +kernel
theorem dX9_leftOut_14 : decode cX9_leftOut 14 = .ok (.iconst 0, 1) := by decide +kernel
theorem dX9_leftOut_15 : decode cX9_leftOut 15 = .ok (.iconst 1, 1) := by decide +kernel
theorem dX9_leftOut_16 : decode cX9_leftOut 16 = .ok (.invokestatic 60, 3) := by decide +kernel
theorem dX9_leftOut_19 : decode cX9_leftOut 19 = .ok (.ifCond .ne 5, 3) := by decide +kernel
theorem dX9_leftOut_22 : decode cX9_leftOut 22 = .ok (.iconst (-1), 1) := by decide +kernel
theorem dX9_leftOut_23 : decode cX9_leftOut 23 = .ok (.ireturn, 1) := by decide +kernel
theorem dX9_leftOut_24 : decode cX9_leftOut 24 = .ok (.aload_n 0, 1) := by decide +kernel
theorem dX9_leftOut_25 : decode cX9_leftOut 25 = .ok (.aload_n 0, 1) := by decide +kernel
theorem dX9_leftOut_26 : decode cX9_leftOut 26 = .ok (.getfield 28, 3) := by decide +kernel
theorem dX9_leftOut_29 : decode cX9_leftOut 29 = .ok (.invokevirtual 134, 3) := by decide +kernel
theorem dX9_leftOut_32 : decode cX9_leftOut 32 = .ok (.aload_n 0, 1) := by decide +kernel
theorem dX9_leftOut_33 : decode cX9_leftOut 33 = .ok (.getfield 50, 3) := by decide +kernel
theorem dX9_leftOut_36 : decode cX9_leftOut 36 = .ok (.iload_n 1, 1) := by decide +kernel
theorem dX9_leftOut_37 : decode cX9_leftOut 37 = .ok (.iaload, 1) := by decide +kernel
theorem dX9_leftOut_38 : decode cX9_leftOut 38 = .ok (.aload_n 0, 1) := by decide +kernel
theorem dX9_leftOut_39 : decode cX9_leftOut 39 = .ok (.getfield 28, 3) := by decide +kernel
theorem dX9_leftOut_42 : decode cX9_leftOut 42 = .ok (.iconst 5, 1) := by decide +kernel
theorem dX9_leftOut_43 : decode cX9_leftOut 43 = .ok (.iload_n 1, 1) := by decide +kernel
theorem dX9_leftOut_44 : decode cX9_leftOut 44 = .ok (.iadd, 1) := by decide +kernel
theorem dX9_leftOut_45 : decode cX9_leftOut 45 = .ok (.iaload, 1) := by decide +kernel
theorem dX9_leftOut_46 : decode cX9_leftOut 46 = .ok (.iconst (-1), 1) := by decide +kernel
theorem dX9_leftOut_47 : decode cX9_leftOut 47 = .ok (.ixor, 1) := by decide +kernel
theorem dX9_leftOut_48 : decode cX9_leftOut 48 = .ok (.iand, 1) := by decide +kernel
theorem dX9_leftOut_49 : decode cX9_leftOut 49 = .ok (.istore_n 3, 1) := by decide +kernel
theorem dX9_leftOut_50 : decode cX9_leftOut 50 = .ok (.aload_n 0, 1) := by decide +kernel
theorem dX9_leftOut_51 : decode cX9_leftOut 51 = .ok (.getfield 53, 3) := by decide +kernel
theorem dX9_leftOut_54 : decode cX9_leftOut 54 = .ok (.iload_n 1, 1) := by decide +kernel
theorem dX9_leftOut_55 : decode cX9_leftOut 55 = .ok (.iaload, 1) := by decide +kernel
theorem dX9_leftOut_56 : decode cX9_leftOut 56 = .ok (.istore 4, 2) := by decide +kernel
theorem dX9_leftOut_58 : decode cX9_leftOut 58 = .ok (.bipush (-9), 2) := by decide +kernel
theorem dX9_leftOut_60 : decode cX9_leftOut 60 = .ok (.istore 5, 2) := by decide +kernel
theorem dX9_leftOut_62 : decode cX9_leftOut 62 = .ok (.iconst 0, 1) := by decide +kernel
theorem dX9_leftOut_63 : decode cX9_leftOut 63 = .ok (.istore 6, 2) := by decide +kernel
theorem dX9_leftOut_65 : decode cX9_leftOut 65 = .ok (.iload 6, 2) := by decide +kernel
theorem dX9_leftOut_67 : decode cX9_leftOut 67 = .ok (.aload_n 0, 1) := by decide +kernel
theorem dX9_leftOut_68 : decode cX9_leftOut 68 = .ok (.invokevirtual 124, 3) := by decide +kernel
theorem dX9_leftOut_71 : decode cX9_leftOut 71 = .ok (.if_icmp .gt 76, 3) := by decide +kernel
theorem dX9_leftOut_74 : decode cX9_leftOut 74 = .ok (.iload 6, 2) := by decide +kernel
theorem dX9_leftOut_76 : decode cX9_leftOut 76 = .ok (.iload_n 3, 1) := by decide +kernel
theorem dX9_leftOut_77 : decode cX9_leftOut 77 = .ok (.iconst (-1), 1) := by decide +kernel
theorem dX9_leftOut_78 : decode cX9_leftOut 78 = .ok (.ixor, 1) := by decide +kernel
theorem dX9_leftOut_79 : decode cX9_leftOut 79 = .ok (.iand, 1) := by decide +kernel
theorem dX9_leftOut_80 : decode cX9_leftOut 80 = .ok (.ifCond .ne 61, 3) := by decide +kernel
theorem dX9_leftOut_83 : decode cX9_leftOut 83 = .ok (.iload 5, 2) := by decide +kernel
theorem dX9_leftOut_85 : decode cX9_leftOut 85 = .ok (.bipush (-9), 2) := by decide +kernel
theorem dX9_leftOut_87 : decode cX9_leftOut 87 = .ok (.if_icmp .eq 16, 3) := by decide +kernel
theorem dX9_leftOut_90 : decode cX9_leftOut 90 = .ok (.iload 6, 2) := by decide +kernel
theorem dX9_leftOut_92 : decode cX9_leftOut 92 = .ok (.invokestatic 128, 3) := by decide +kernel
theorem dX9_leftOut_95 : decode cX9_leftOut 95 = .ok (.iload 5, 2) := by decide +kernel
theorem dX9_leftOut_97 : decode cX9_leftOut 97 = .ok (.invokestatic 128, 3) := by decide +kernel
theorem dX9_leftOut_100 : decode cX9_leftOut 100 = .ok (.if_icmp .ge 41, 3) := by decide +kernel
theorem dX9_leftOut_103 : decode cX9_leftOut 103 = .ok (.aload_n 0, 1) := by decide +kernel
theorem dX9_leftOut_104 : decode cX9_leftOut 104 = .ok (.getfield 53, 3) := by decide +kernel
theorem dX9_leftOut_107 : decode cX9_leftOut 107 = .ok (.iload_n 1, 1) := by decide +kernel
theorem dX9_leftOut_108 : decode cX9_leftOut 108 = .ok (.iload 4, 2) := by decide +kernel
theorem dX9_leftOut_110 : decode cX9_leftOut 110 = .ok (.iload 6, 2) := by decide +kernel
theorem dX9_leftOut_112 : decode cX9_leftOut 112 = .ok (.ior, 1) := by decide +kernel
theorem dX9_leftOut_113 : decode cX9_leftOut 113 = .ok (.iastore, 1) := by decide +kernel
theorem dX9_leftOut_114 : decode cX9_leftOut 114 = .ok (.aload_n 0, 1) := by decide +kernel
theorem dX9_leftOut_115 : decode cX9_leftOut 115 = .ok (.aload_n 0, 1) := by decide +kernel
theorem dX9_leftOut_116 : decode cX9_leftOut 116 = .ok (.getfield 28, 3) := by decide +kernel
theorem dX9_leftOut_119 : decode cX9_leftOut 119 = .ok (.iload_n 1, 1) := by decide +kernel
theorem dX9_leftOut_120 : decode cX9_leftOut 120 = .ok (.invokevirtual 138, 3) := by decide +kernel
theorem dX9_leftOut_123 : decode cX9_leftOut 123 = .ok (.aload_n 0, 1) := by decide +kernel
theorem dX9_leftOut_124 : decode cX9_leftOut 124 = .ok (.getfield 25, 3) := by decide +kernel
theorem dX9_leftOut_127 : decode cX9_leftOut 127 = .ok (.iload_n 1, 1) := by decide +kernel
theorem dX9_leftOut_128 : decode cX9_leftOut 128 = .ok (.iaload, 1) := by decide +kernel
theorem dX9_leftOut_129 : decode cX9_leftOut 129 = .ok (.if_icmp .lt 8, 3) := by decide +kernel
theorem dX9_leftOut_132 : decode cX9_leftOut 132 = .ok (.iload 6, 2) := by decide +kernel
theorem dX9_leftOut_134 : decode cX9_leftOut 134 = .ok (.goto 5, 3) := by decide +kernel
theorem dX9_leftOut_137 : decode cX9_leftOut 137 = .ok (.iload 5, 2) := by decide +kernel
theorem dX9_leftOut_139 : decode cX9_leftOut 139 = .ok (.istore 5, 2) := by decide +kernel
theorem dX9_leftOut_141 : decode cX9_leftOut 141 = .ok (.iinc 6 1, 3) := by decide +kernel
theorem dX9_leftOut_144 : decode cX9_leftOut 144 = .ok (.goto (-79), 3) := by decide +kernel
theorem dX9_leftOut_147 : decode cX9_leftOut 147 = .ok (.iload 5, 2) := by decide +kernel
theorem dX9_leftOut_149 : decode cX9_leftOut 149 = .ok (.bipush (-9), 2) := by decide +kernel
theorem dX9_leftOut_151 : decode cX9_leftOut 151 = .ok (.if_icmp .eq 8, 3) := by decide +kernel
theorem dX9_leftOut_154 : decode cX9_leftOut 154 = .ok (.iload_n 2, 1) := by decide +kernel
theorem dX9_leftOut_155 : decode cX9_leftOut 155 = .ok (.iconst 1, 1) := by decide +kernel
theorem dX9_leftOut_156 : decode cX9_leftOut 156 = .ok (.if_icmp .ne 8, 3) := by decide +kernel
theorem dX9_leftOut_159 : decode cX9_leftOut 159 = .ok (.iload 5, 2) := by decide +kernel
theorem dX9_leftOut_161 : decode cX9_leftOut 161 = .ok (.goto 8, 3) := by decide +kernel
theorem dX9_leftOut_164 : decode cX9_leftOut 164 = .ok (.iload 5, 2) := by decide +kernel
theorem dX9_leftOut_166 : decode cX9_leftOut 166 = .ok (.invokestatic 128, 3) := by decide +kernel
theorem dX9_leftOut_169 : decode cX9_leftOut 169 = .ok (.ireturn, 1) := by decide +kernel
theorem dX9_nobodys_0 : decode cX9_nobodys 0 = .ok (.aload_n 0, 1) := by decide +kernel
theorem dX9_nobodys_1 : decode cX9_nobodys 1 = .ok (.invokevirtual 124, 3) := by decide +kernel
theorem dX9_nobodys_4 : decode cX9_nobodys 4 = .ok (.istore_n 1, 1) := by decide +kernel
theorem dX9_nobodys_5 : decode cX9_nobodys 5 = .ok (.iconst 0, 1) := by decide +kernel
theorem dX9_nobodys_6 : decode cX9_nobodys 6 = .ok (.istore_n 2, 1) := by decide +kernel
theorem dX9_nobodys_7 : decode cX9_nobodys 7 = .ok (.iload_n 2, 1) := by decide +kernel
theorem dX9_nobodys_8 : decode cX9_nobodys 8 = .ok (.aload_n 0, 1) := by decide +kernel
theorem dX9_nobodys_9 : decode cX9_nobodys 9 = .ok (.getfield 13, 3) := by decide +kernel
theorem dX9_nobodys_12 : decode cX9_nobodys 12 = .ok (.iconst 1, 1) := by decide +kernel
theorem dX9_nobodys_13 : decode cX9_nobodys 13 = .ok (.iaload, 1) := by decide +kernel
theorem dX9_nobodys_14 : decode cX9_nobodys 14 = .ok (.if_icmp .ge 18, 3) := by decide +kernel
theorem dX9_nobodys_17 : decode cX9_nobodys 17 = .ok (.iload_n 1, 1) := by decide +kernel
theorem dX9_nobodys_18 : decode cX9_nobodys 18 = .ok (.aload_n 0, 1) := by decide +kernel
theorem dX9_nobodys_19 : decode cX9_nobodys 19 = .ok (.getfield 53, 3) := by decide +kernel
theorem dX9_nobodys_22 : decode cX9_nobodys 22 = .ok (.iload_n 2, 1) := by decide +kernel
theorem dX9_nobodys_23 : decode cX9_nobodys 23 = .ok (.iaload, 1) := by decide +kernel
theorem dX9_nobodys_24 : decode cX9_nobodys 24 = .ok (.iand, 1) := by decide +kernel
theorem dX9_nobodys_25 : decode cX9_nobodys 25 = .ok (.istore_n 1, 1) := by decide +kernel
theorem dX9_nobodys_26 : decode cX9_nobodys 26 = .ok (.iinc 2 1, 3) := by decide +kernel
theorem dX9_nobodys_29 : decode cX9_nobodys 29 = .ok (.goto (-22), 3) := by decide +kernel
theorem dX9_nobodys_32 : decode cX9_nobodys 32 = .ok (.iload_n 1, 1) := by decide +kernel
theorem dX9_nobodys_33 : decode cX9_nobodys 33 = .ok (.ireturn, 1) := by decide +kernel
theorem dX9_bars_0 : decode cX9_bars 0 = .ok (.aload_n 0, 1) := by decide +kernel
theorem dX9_bars_1 : decode cX9_bars 1 = .ok (.iconst 0, 1) := by decide +kernel
theorem dX9_bars_2 : decode cX9_bars 2 = .ok (.putfield 56, 3) := by decide +kernel
theorem dX9_bars_5 : decode cX9_bars 5 = .ok (.iload_n 1, 1) := by decide +kernel
theorem dX9_bars_6 : decode cX9_bars 6 = .ok (.iconst 0, 1) := by decide +kernel
theorem dX9_bars_7 : decode cX9_bars 7 = .ok (.iconst 2, 1) := by decide +kernel
theorem dX9_bars_8 : decode cX9_bars 8 = .ok (.invokestatic 60, 3) := by decide +kernel
theorem dX9_bars_11 : decode cX9_bars 11 = .ok (.ifCond .ne 5, 3) := by decide +kernel
theorem dX9_bars_14 : decode cX9_bars 14 = .ok (.iconst (-1), 1) := by decide +kernel
theorem dX9_bars_15 : decode cX9_bars 15 = .ok (.ireturn, 1) := by decide +kernel
theorem dX9_bars_16 : decode cX9_bars 16 = .ok (.aload_n 0, 1) := by decide +kernel
theorem dX9_bars_17 : decode cX9_bars 17 = .ok (.aload_n 0, 1) := by decide +kernel
theorem dX9_bars_18 : decode cX9_bars 18 = .ok (.getfield 28, 3) := by decide +kernel
theorem dX9_bars_21 : decode cX9_bars 21 = .ok (.invokevirtual 134, 3) := by decide +kernel
theorem dX9_bars_24 : decode cX9_bars 24 = .ok (.aload_n 0, 1) := by decide +kernel
theorem dX9_bars_25 : decode cX9_bars 25 = .ok (.getfield 13, 3) := by decide +kernel
theorem dX9_bars_28 : decode cX9_bars 28 = .ok (.iconst 1, 1) := by decide +kernel
theorem dX9_bars_29 : decode cX9_bars 29 = .ok (.iaload, 1) := by decide +kernel
theorem dX9_bars_30 : decode cX9_bars 30 = .ok (.ifCond .ne 7, 3) := by decide +kernel
theorem dX9_bars_33 : decode cX9_bars 33 = .ok (.iconst 0, 1) := by decide +kernel
theorem dX9_bars_34 : decode cX9_bars 34 = .ok (.goto 7, 3) := by decide +kernel
theorem dX9_bars_37 : decode cX9_bars 37 = .ok (.aload_n 0, 1) := by decide +kernel
theorem dX9_bars_38 : decode cX9_bars 38 = .ok (.invokevirtual 124, 3) := by decide +kernel
theorem dX9_bars_41 : decode cX9_bars 41 = .ok (.istore_n 2, 1) := by decide +kernel
theorem dX9_bars_42 : decode cX9_bars 42 = .ok (.iconst 0, 1) := by decide +kernel
theorem dX9_bars_43 : decode cX9_bars 43 = .ok (.istore_n 3, 1) := by decide +kernel
theorem dX9_bars_44 : decode cX9_bars 44 = .ok (.iload_n 3, 1) := by decide +kernel
theorem dX9_bars_45 : decode cX9_bars 45 = .ok (.aload_n 0, 1) := by decide +kernel
theorem dX9_bars_46 : decode cX9_bars 46 = .ok (.getfield 13, 3) := by decide +kernel
theorem dX9_bars_49 : decode cX9_bars 49 = .ok (.iconst 1, 1) := by decide +kernel
theorem dX9_bars_50 : decode cX9_bars 50 = .ok (.iaload, 1) := by decide +kernel
theorem dX9_bars_51 : decode cX9_bars 51 = .ok (.if_icmp .ge 20, 3) := by decide +kernel
theorem dX9_bars_54 : decode cX9_bars 54 = .ok (.iload_n 2, 1) := by decide +kernel
theorem dX9_bars_55 : decode cX9_bars 55 = .ok (.aload_n 0, 1) := by decide +kernel
theorem dX9_bars_56 : decode cX9_bars 56 = .ok (.getfield 53, 3) := by decide +kernel
theorem dX9_bars_59 : decode cX9_bars 59 = .ok (.iload_n 3, 1) := by decide +kernel
theorem dX9_bars_60 : decode cX9_bars 60 = .ok (.iaload, 1) := by decide +kernel
theorem dX9_bars_61 : decode cX9_bars 61 = .ok (.iconst (-1), 1) := by decide +kernel
theorem dX9_bars_62 : decode cX9_bars 62 = .ok (.ixor, 1) := by decide +kernel
theorem dX9_bars_63 : decode cX9_bars 63 = .ok (.iand, 1) := by decide +kernel
theorem dX9_bars_64 : decode cX9_bars 64 = .ok (.istore_n 2, 1) := by decide +kernel
theorem dX9_bars_65 : decode cX9_bars 65 = .ok (.iinc 3 1, 3) := by decide +kernel
theorem dX9_bars_68 : decode cX9_bars 68 = .ok (.goto (-24), 3) := by decide +kernel
theorem dX9_bars_71 : decode cX9_bars 71 = .ok (.iconst 0, 1) := by decide +kernel
theorem dX9_bars_72 : decode cX9_bars 72 = .ok (.istore_n 3, 1) := by decide +kernel
theorem dX9_bars_73 : decode cX9_bars 73 = .ok (.iconst 0, 1) := by decide +kernel
theorem dX9_bars_74 : decode cX9_bars 74 = .ok (.istore 4, 2) := by decide +kernel
theorem dX9_bars_76 : decode cX9_bars 76 = .ok (.iconst 0, 1) := by decide +kernel
theorem dX9_bars_77 : decode cX9_bars 77 = .ok (.istore 5, 2) := by decide +kernel
theorem dX9_bars_79 : decode cX9_bars 79 = .ok (.iload 5, 2) := by decide +kernel
theorem dX9_bars_81 : decode cX9_bars 81 = .ok (.aload_n 0, 1) := by decide +kernel
theorem dX9_bars_82 : decode cX9_bars 82 = .ok (.getfield 13, 3) := by decide +kernel
theorem dX9_bars_85 : decode cX9_bars 85 = .ok (.iconst 2, 1) := by decide +kernel
theorem dX9_bars_86 : decode cX9_bars 86 = .ok (.iaload, 1) := by decide +kernel
theorem dX9_bars_87 : decode cX9_bars 87 = .ok (.if_icmp .ge 44, 3) := by decide +kernel
theorem dX9_bars_90 : decode cX9_bars 90 = .ok (.aload_n 0, 1) := by decide +kernel
theorem dX9_bars_91 : decode cX9_bars 91 = .ok (.invokevirtual 181, 3) := by decide +kernel
theorem dX9_bars_94 : decode cX9_bars 94 = .ok (.iload 5, 2) := by decide +kernel
theorem dX9_bars_96 : decode cX9_bars 96 = .ok (.ishr, 1) := by decide +kernel
theorem dX9_bars_97 : decode cX9_bars 97 = .ok (.iconst 1, 1) := by decide +kernel
theorem dX9_bars_98 : decode cX9_bars 98 = .ok (.iand, 1) := by decide +kernel
theorem dX9_bars_99 : decode cX9_bars 99 = .ok (.iconst 1, 1) := by decide +kernel
theorem dX9_bars_100 : decode cX9_bars 100 = .ok (.if_icmp .ne 9, 3) := by decide +kernel
theorem dX9_bars_103 : decode cX9_bars 103 = .ok (.iload_n 3, 1) := by decide +kernel
theorem dX9_bars_104 : decode cX9_bars 104 = .ok (.iconst 1, 1) := by decide +kernel
theorem dX9_bars_105 : decode cX9_bars 105 = .ok (.iadd, 1) := by decide +kernel
theorem dX9_bars_106 : decode cX9_bars 106 = .ok (.goto 4, 3) := by decide +kernel
theorem dX9_bars_109 : decode cX9_bars 109 = .ok (.iconst 0, 1) := by decide +kernel
theorem dX9_bars_110 : decode cX9_bars 110 = .ok (.istore_n 3, 1) := by decide +kernel
theorem dX9_bars_111 : decode cX9_bars 111 = .ok (.iload_n 3, 1) := by decide +kernel
theorem dX9_bars_112 : decode cX9_bars 112 = .ok (.iload 4, 2) := by decide +kernel
theorem dX9_bars_114 : decode cX9_bars 114 = .ok (.if_icmp .le 7, 3) := by decide +kernel
theorem dX9_bars_117 : decode cX9_bars 117 = .ok (.iload_n 3, 1) := by decide +kernel
theorem dX9_bars_118 : decode cX9_bars 118 = .ok (.goto 5, 3) := by decide +kernel
theorem dX9_bars_121 : decode cX9_bars 121 = .ok (.iload 4, 2) := by decide +kernel
theorem dX9_bars_123 : decode cX9_bars 123 = .ok (.istore 4, 2) := by decide +kernel
theorem dX9_bars_125 : decode cX9_bars 125 = .ok (.iinc 5 1, 3) := by decide +kernel
theorem dX9_bars_128 : decode cX9_bars 128 = .ok (.goto (-49), 3) := by decide +kernel
theorem dX9_bars_131 : decode cX9_bars 131 = .ok (.iload_n 1, 1) := by decide +kernel
theorem dX9_bars_132 : decode cX9_bars 132 = .ok (.ifCond .ne 10, 3) := by decide +kernel
theorem dX9_bars_135 : decode cX9_bars 135 = .ok (.aload_n 0, 1) := by decide +kernel
theorem dX9_bars_136 : decode cX9_bars 136 = .ok (.invokevirtual 181, 3) := by decide +kernel
theorem dX9_bars_139 : decode cX9_bars 139 = .ok (.goto 14, 3) := by decide +kernel
theorem dX9_bars_142 : decode cX9_bars 142 = .ok (.iload_n 1, 1) := by decide +kernel
theorem dX9_bars_143 : decode cX9_bars 143 = .ok (.iconst 1, 1) := by decide +kernel
theorem dX9_bars_144 : decode cX9_bars 144 = .ok (.if_icmp .ne 7, 3) := by decide +kernel
theorem dX9_bars_147 : decode cX9_bars 147 = .ok (.iload_n 2, 1) := by decide +kernel
theorem dX9_bars_148 : decode cX9_bars 148 = .ok (.goto 5, 3) := by decide +kernel
theorem dX9_bars_151 : decode cX9_bars 151 = .ok (.iload 4, 2) := by decide +kernel
theorem dX9_bars_153 : decode cX9_bars 153 = .ok (.ireturn, 1) := by decide +kernel
theorem dX9_heardBy_0 : decode cX9_heardBy 0 = .ok (.iconst 0, 1) := by decide +kernel
theorem dX9_heardBy_1 : decode cX9_heardBy 1 = .ok (.istore_n 3, 1) := by decide +kernel
theorem dX9_heardBy_2 : decode cX9_heardBy 2 = .ok (.iconst 0, 1) := by decide +kernel
theorem dX9_heardBy_3 : decode cX9_heardBy 3 = .ok (.istore 4, 2) := by decide +kernel
theorem dX9_heardBy_5 : decode cX9_heardBy 5 = .ok (.iload 4, 2) := by decide +kernel
theorem dX9_heardBy_7 : decode cX9_heardBy 7 = .ok (.aload_n 0, 1) := by decide +kernel
theorem dX9_heardBy_8 : decode cX9_heardBy 8 = .ok (.getfield 13, 3) := by decide +kernel
theorem dX9_heardBy_11 : decode cX9_heardBy 11 = .ok (.iconst 0, 1) := by decide +kernel
theorem dX9_heardBy_12 : decode cX9_heardBy 12 = .ok (.iaload, 1) := by decide +kernel
theorem dX9_heardBy_13 : decode cX9_heardBy 13 = .ok (.if_icmp .ge 66, 3) := by decide +kernel
theorem dX9_heardBy_16 : decode cX9_heardBy 16 = .ok (.aload_n 1, 1) := by decide +kernel
theorem dX9_heardBy_17 : decode cX9_heardBy 17 = .ok (.iconst 0, 1) := by decide +kernel
theorem dX9_heardBy_18 : decode cX9_heardBy 18 = .ok (.iload 4, 2) := by decide +kernel
theorem dX9_heardBy_20 : decode cX9_heardBy 20 = .ok (.iadd, 1) := by decide +kernel
theorem dX9_heardBy_21 : decode cX9_heardBy 21 = .ok (.iaload, 1) := by decide +kernel
theorem dX9_heardBy_22 : decode cX9_heardBy 22 = .ok (.iconst 1, 1) := by decide +kernel
theorem dX9_heardBy_23 : decode cX9_heardBy 23 = .ok (.isub, 1) := by decide +kernel
theorem dX9_heardBy_24 : decode cX9_heardBy 24 = .ok (.istore 5, 2) := by decide +kernel
theorem dX9_heardBy_26 : decode cX9_heardBy 26 = .ok (.iload_n 3, 1) := by decide +kernel
theorem dX9_heardBy_27 : decode cX9_heardBy 27 = .ok (.iload 5, 2) := by decide +kernel
theorem dX9_heardBy_29 : decode cX9_heardBy 29 = .ok (.ifCond .lt 41, 3) := by decide +kernel
theorem dX9_heardBy_32 : decode cX9_heardBy 32 = .ok (.aload_n 0, 1) := by decide +kernel
theorem dX9_heardBy_33 : decode cX9_heardBy 33 = .ok (.getfield 19, 3) := by decide +kernel
theorem dX9_heardBy_36 : decode cX9_heardBy 36 = .ok (.iload 4, 2) := by decide +kernel
theorem dX9_heardBy_38 : decode cX9_heardBy 38 = .ok (.iaload, 1) := by decide +kernel
theorem dX9_heardBy_39 : decode cX9_heardBy 39 = .ok (.iload_n 2, 1) := by decide +kernel
theorem dX9_heardBy_40 : decode cX9_heardBy 40 = .ok (.ishr, 1) := by decide +kernel
theorem dX9_heardBy_41 : decode cX9_heardBy 41 = .ok (.iconst 1, 1) := by decide +kernel
theorem dX9_heardBy_42 : decode cX9_heardBy 42 = .ok (.iand, 1) := by decide +kernel
theorem dX9_heardBy_43 : decode cX9_heardBy 43 = .ok (.iconst 1, 1) := by decide +kernel
theorem dX9_heardBy_44 : decode cX9_heardBy 44 = .ok (.if_icmp .ne 26, 3) := by decide +kernel
theorem dX9_heardBy_47 : decode cX9_heardBy 47 = .ok (.aload_n 1, 1) := by decide +kernel
theorem dX9_heardBy_48 : decode cX9_heardBy 48 = .ok (.iconst 5, 1) := by decide +kernel
theorem dX9_heardBy_49 : decode cX9_heardBy 49 = .ok (.iload 5, 2) := by decide +kernel
theorem dX9_heardBy_51 : decode cX9_heardBy 51 = .ok (.iadd, 1) := by decide +kernel
theorem dX9_heardBy_52 : decode cX9_heardBy 52 = .ok (.iaload, 1) := by decide +kernel
theorem dX9_heardBy_53 : decode cX9_heardBy 53 = .ok (.iload_n 2, 1) := by decide +kernel
theorem dX9_heardBy_54 : decode cX9_heardBy 54 = .ok (.ishr, 1) := by decide +kernel
theorem dX9_heardBy_55 : decode cX9_heardBy 55 = .ok (.iconst 1, 1) := by decide +kernel
theorem dX9_heardBy_56 : decode cX9_heardBy 56 = .ok (.iand, 1) := by decide +kernel
theorem dX9_heardBy_57 : decode cX9_heardBy 57 = .ok (.ifCond .ne 13, 3) := by decide +kernel
theorem dX9_heardBy_60 : decode cX9_heardBy 60 = .ok (.aload_n 0, 1) := by decide +kernel
theorem dX9_heardBy_61 : decode cX9_heardBy 61 = .ok (.getfield 16, 3) := by decide +kernel
theorem dX9_heardBy_64 : decode cX9_heardBy 64 = .ok (.iload 4, 2) := by decide +kernel
theorem dX9_heardBy_66 : decode cX9_heardBy 66 = .ok (.iaload, 1) := by decide +kernel
theorem dX9_heardBy_67 : decode cX9_heardBy 67 = .ok (.goto 4, 3) := by decide +kernel
theorem dX9_heardBy_70 : decode cX9_heardBy 70 = .ok (.iconst 0, 1) := by decide +kernel
theorem dX9_heardBy_71 : decode cX9_heardBy 71 = .ok (.iadd, 1) := by decide +kernel
theorem dX9_heardBy_72 : decode cX9_heardBy 72 = .ok (.istore_n 3, 1) := by decide +kernel
theorem dX9_heardBy_73 : decode cX9_heardBy 73 = .ok (.iinc 4 1, 3) := by decide +kernel
theorem dX9_heardBy_76 : decode cX9_heardBy 76 = .ok (.goto (-71), 3) := by decide +kernel
theorem dX9_heardBy_79 : decode cX9_heardBy 79 = .ok (.iload_n 3, 1) := by decide +kernel
theorem dX9_heardBy_80 : decode cX9_heardBy 80 = .ok (.ireturn, 1) := by decide +kernel
theorem dX9_heard_0 : decode cX9_heard 0 = .ok (.aload_n 0, 1) := by decide +kernel
theorem dX9_heard_1 : decode cX9_heard 1 = .ok (.iconst 0, 1) := by decide +kernel
theorem dX9_heard_2 : decode cX9_heard 2 = .ok (.putfield 56, 3) := by decide +kernel
theorem dX9_heard_5 : decode cX9_heard 5 = .ok (.iload_n 1, 1) := by decide +kernel
theorem dX9_heard_6 : decode cX9_heard 6 = .ok (.iconst 0, 1) := by decide +kernel
theorem dX9_heard_7 : decode cX9_heard 7 = .ok (.aload_n 0, 1) := by decide +kernel
theorem dX9_heard_8 : decode cX9_heard 8 = .ok (.getfield 13, 3) := by decide +kernel
theorem dX9_heard_11 : decode cX9_heard 11 = .ok (.iconst 2, 1) := by decide +kernel
theorem dX9_heard_12 : decode cX9_heard 12 = .ok (.iaload, 1) := by decide +kernel
theorem dX9_heard_13 : decode cX9_heard 13 = .ok (.iconst 1, 1) := by decide +kernel
theorem dX9_heard_14 : decode cX9_heard 14 = .ok (.isub, 1) := by decide +kernel
theorem dX9_heard_15 : decode cX9_heard 15 = .ok (.invokestatic 60, 3) := by decide +kernel
theorem dX9_heard_18 : decode cX9_heard 18 = .ok (.ifCond .eq 15, 3) := by decide +kernel
theorem dX9_heard_21 : decode cX9_heard 21 = .ok (.aload_n 0, 1) := by decide +kernel
theorem dX9_heard_22 : decode cX9_heard 22 = .ok (.aload_n 0, 1) := by decide +kernel
theorem dX9_heard_23 : decode cX9_heard 23 = .ok (.getfield 28, 3) := by decide +kernel
theorem dX9_heard_26 : decode cX9_heard 26 = .ok (.iload_n 1, 1) := by decide +kernel
theorem dX9_heard_27 : decode cX9_heard 27 = .ok (.invokevirtual 184, 3) := by decide +kernel
theorem dX9_heard_30 : decode cX9_heard 30 = .ok (.goto 4, 3) := by decide +kernel
theorem dX9_heard_33 : decode cX9_heard 33 = .ok (.iconst (-1), 1) := by decide +kernel
theorem dX9_heard_34 : decode cX9_heard 34 = .ok (.ireturn, 1) := by decide +kernel
theorem dX9_rests_0 : decode cX9_rests 0 = .ok (.aload_n 0, 1) := by decide +kernel
theorem dX9_rests_1 : decode cX9_rests 1 = .ok (.iconst 0, 1) := by decide +kernel
theorem dX9_rests_2 : decode cX9_rests 2 = .ok (.putfield 56, 3) := by decide +kernel
theorem dX9_rests_5 : decode cX9_rests 5 = .ok (.aload_n 0, 1) := by decide +kernel
theorem dX9_rests_6 : decode cX9_rests 6 = .ok (.aload_n 0, 1) := by decide +kernel
theorem dX9_rests_7 : decode cX9_rests 7 = .ok (.getfield 28, 3) := by decide +kernel
theorem dX9_rests_10 : decode cX9_rests 10 = .ok (.invokevirtual 134, 3) := by decide +kernel
theorem dX9_rests_13 : decode cX9_rests 13 = .ok (.iload_n 1, 1) := by decide +kernel
theorem dX9_rests_14 : decode cX9_rests 14 = .ok (.iconst 0, 1) := by decide +kernel
theorem dX9_rests_15 : decode cX9_rests 15 = .ok (.aload_n 0, 1) := by decide +kernel
theorem dX9_rests_16 : decode cX9_rests 16 = .ok (.getfield 13, 3) := by decide +kernel
theorem dX9_rests_19 : decode cX9_rests 19 = .ok (.iconst 2, 1) := by decide +kernel
theorem dX9_rests_20 : decode cX9_rests 20 = .ok (.iaload, 1) := by decide +kernel
theorem dX9_rests_21 : decode cX9_rests 21 = .ok (.iconst 1, 1) := by decide +kernel
theorem dX9_rests_22 : decode cX9_rests 22 = .ok (.isub, 1) := by decide +kernel
theorem dX9_rests_23 : decode cX9_rests 23 = .ok (.invokestatic 60, 3) := by decide +kernel
theorem dX9_rests_26 : decode cX9_rests 26 = .ok (.ifCond .eq 11, 3) := by decide +kernel
theorem dX9_rests_29 : decode cX9_rests 29 = .ok (.aload_n 0, 1) := by decide +kernel
theorem dX9_rests_30 : decode cX9_rests 30 = .ok (.iload_n 1, 1) := by decide +kernel
theorem dX9_rests_31 : decode cX9_rests 31 = .ok (.invokevirtual 131, 3) := by decide +kernel
theorem dX9_rests_34 : decode cX9_rests 34 = .ok (.goto 4, 3) := by decide +kernel
theorem dX9_rests_37 : decode cX9_rests 37 = .ok (.iconst (-1), 1) := by decide +kernel
theorem dX9_rests_38 : decode cX9_rests 38 = .ok (.ireturn, 1) := by decide +kernel
theorem dX9_first_0 : decode cX9_first 0 = .ok (.aload_n 0, 1) := by decide +kernel
theorem dX9_first_1 : decode cX9_first 1 = .ok (.iconst 0, 1) := by decide +kernel
theorem dX9_first_2 : decode cX9_first 2 = .ok (.putfield 56, 3) := by decide +kernel
theorem dX9_first_5 : decode cX9_first 5 = .ok (.aload_n 0, 1) := by decide +kernel
theorem dX9_first_6 : decode cX9_first 6 = .ok (.aload_n 0, 1) := by decide +kernel
theorem dX9_first_7 : decode cX9_first 7 = .ok (.getfield 28, 3) := by decide +kernel
theorem dX9_first_10 : decode cX9_first 10 = .ok (.invokevirtual 134, 3) := by decide +kernel
theorem dX9_first_13 : decode cX9_first 13 = .ok (.bipush (-9), 2) := by decide +kernel
theorem dX9_first_15 : decode cX9_first 15 = .ok (.istore_n 1, 1) := by decide +kernel
theorem dX9_first_16 : decode cX9_first 16 = .ok (.iconst (-1), 1) := by decide +kernel
theorem dX9_first_17 : decode cX9_first 17 = .ok (.istore_n 2, 1) := by decide +kernel
theorem dX9_first_18 : decode cX9_first 18 = .ok (.iconst 0, 1) := by decide +kernel
theorem dX9_first_19 : decode cX9_first 19 = .ok (.istore_n 3, 1) := by decide +kernel
theorem dX9_first_20 : decode cX9_first 20 = .ok (.iload_n 3, 1) := by decide +kernel
theorem dX9_first_21 : decode cX9_first 21 = .ok (.aload_n 0, 1) := by decide +kernel
theorem dX9_first_22 : decode cX9_first 22 = .ok (.getfield 13, 3) := by decide +kernel
theorem dX9_first_25 : decode cX9_first 25 = .ok (.iconst 1, 1) := by decide +kernel
theorem dX9_first_26 : decode cX9_first 26 = .ok (.iaload, 1) := by decide +kernel
theorem dX9_first_27 : decode cX9_first 27 = .ok (.if_icmp .ge 52, 3) := by decide +kernel
theorem dX9_first_30 : decode cX9_first 30 = .ok (.aload_n 0, 1) := by decide +kernel
theorem dX9_first_31 : decode cX9_first 31 = .ok (.getfield 13, 3) := by decide +kernel
theorem dX9_first_34 : decode cX9_first 34 = .ok (.iconst 2, 1) := by decide +kernel
theorem dX9_first_35 : decode cX9_first 35 = .ok (.iaload, 1) := by decide +kernel
theorem dX9_first_36 : decode cX9_first 36 = .ok (.aload_n 0, 1) := by decide +kernel
theorem dX9_first_37 : decode cX9_first 37 = .ok (.getfield 53, 3) := by decide +kernel
theorem dX9_first_40 : decode cX9_first 40 = .ok (.iload_n 3, 1) := by decide +kernel
theorem dX9_first_41 : decode cX9_first 41 = .ok (.iaload, 1) := by decide +kernel
theorem dX9_first_42 : decode cX9_first 42 = .ok (.invokestatic 128, 3) := by decide +kernel
theorem dX9_first_45 : decode cX9_first 45 = .ok (.isub, 1) := by decide +kernel
theorem dX9_first_46 : decode cX9_first 46 = .ok (.istore 4, 2) := by decide +kernel
theorem dX9_first_48 : decode cX9_first 48 = .ok (.iload 4, 2) := by decide +kernel
theorem dX9_first_50 : decode cX9_first 50 = .ok (.iload_n 2, 1) := by decide +kernel
theorem dX9_first_51 : decode cX9_first 51 = .ok (.if_icmp .le 7, 3) := by decide +kernel
theorem dX9_first_54 : decode cX9_first 54 = .ok (.iload_n 3, 1) := by decide +kernel
theorem dX9_first_55 : decode cX9_first 55 = .ok (.goto 4, 3) := by decide +kernel
theorem dX9_first_58 : decode cX9_first 58 = .ok (.iload_n 1, 1) := by decide +kernel
theorem dX9_first_59 : decode cX9_first 59 = .ok (.istore_n 1, 1) := by decide +kernel
theorem dX9_first_60 : decode cX9_first 60 = .ok (.iload 4, 2) := by decide +kernel
theorem dX9_first_62 : decode cX9_first 62 = .ok (.iload_n 2, 1) := by decide +kernel
theorem dX9_first_63 : decode cX9_first 63 = .ok (.if_icmp .le 8, 3) := by decide +kernel
theorem dX9_first_66 : decode cX9_first 66 = .ok (.iload 4, 2) := by decide +kernel
theorem dX9_first_68 : decode cX9_first 68 = .ok (.goto 4, 3) := by decide +kernel
theorem dX9_first_71 : decode cX9_first 71 = .ok (.iload_n 2, 1) := by decide +kernel
theorem dX9_first_72 : decode cX9_first 72 = .ok (.istore_n 2, 1) := by decide +kernel
theorem dX9_first_73 : decode cX9_first 73 = .ok (.iinc 3 1, 3) := by decide +kernel
theorem dX9_first_76 : decode cX9_first 76 = .ok (.goto (-56), 3) := by decide +kernel
theorem dX9_first_79 : decode cX9_first 79 = .ok (.iload_n 1, 1) := by decide +kernel
theorem dX9_first_80 : decode cX9_first 80 = .ok (.ireturn, 1) := by decide +kernel
theorem dX9_noted_0 : decode cX9_noted 0 = .ok (.aload_n 0, 1) := by decide +kernel
theorem dX9_noted_1 : decode cX9_noted 1 = .ok (.iconst 0, 1) := by decide +kernel
theorem dX9_noted_2 : decode cX9_noted 2 = .ok (.putfield 56, 3) := by decide +kernel
theorem dX9_noted_5 : decode cX9_noted 5 = .ok (.iload_n 1, 1) := by decide +kernel
theorem dX9_noted_6 : decode cX9_noted 6 = .ok (.iconst 0, 1) := by decide +kernel
theorem dX9_noted_7 : decode cX9_noted 7 = .ok (.aload_n 0, 1) := by decide +kernel
theorem dX9_noted_8 : decode cX9_noted 8 = .ok (.getfield 13, 3) := by decide +kernel
theorem dX9_noted_11 : decode cX9_noted 11 = .ok (.iconst 2, 1) := by decide +kernel
theorem dX9_noted_12 : decode cX9_noted 12 = .ok (.iaload, 1) := by decide +kernel
theorem dX9_noted_13 : decode cX9_noted 13 = .ok (.iconst 1, 1) := by decide +kernel
theorem dX9_noted_14 : decode cX9_noted 14 = .ok (.isub, 1) := by decide +kernel
theorem dX9_noted_15 : decode cX9_noted 15 = .ok (.invokestatic 60, 3) := by decide +kernel
theorem dX9_noted_18 : decode cX9_noted 18 = .ok (.ifCond .eq 13, 3) := by decide +kernel
theorem dX9_noted_21 : decode cX9_noted 21 = .ok (.iload_n 2, 1) := by decide +kernel
theorem dX9_noted_22 : decode cX9_noted 22 = .ok (.iconst 0, 1) := by decide +kernel
theorem dX9_noted_23 : decode cX9_noted 23 = .ok (.bipush 45, 2) := by decide +kernel
theorem dX9_noted_25 : decode cX9_noted 25 = .ok (.invokestatic 60, 3) := by decide +kernel
theorem dX9_noted_28 : decode cX9_noted 28 = .ok (.ifCond .ne 5, 3) := by decide +kernel
theorem dX9_noted_31 : decode cX9_noted 31 = .ok (.iconst (-1), 1) := by decide +kernel
theorem dX9_noted_32 : decode cX9_noted 32 = .ok (.ireturn, 1) := by decide +kernel
theorem dX9_noted_33 : decode cX9_noted 33 = .ok (.aload_n 0, 1) := by decide +kernel
theorem dX9_noted_34 : decode cX9_noted 34 = .ok (.getfield 118, 3) := by decide +kernel
theorem dX9_noted_37 : decode cX9_noted 37 = .ok (.bipush 6, 2) := by decide +kernel
theorem dX9_noted_39 : decode cX9_noted 39 = .ok (.if_icmp .ne 6, 3) := by decide +kernel
theorem dX9_noted_42 : decode cX9_noted 42 = .ok (.bipush (-3), 2) := by decide +kernel
theorem dX9_noted_44 : decode cX9_noted 44 = .ok (.ireturn, 1) := by decide +kernel
theorem dX9_noted_45 : decode cX9_noted 45 = .ok (.aload_n 0, 1) := by decide +kernel
theorem dX9_noted_46 : decode cX9_noted 46 = .ok (.getfield 44, 3) := by decide +kernel
theorem dX9_noted_49 : decode cX9_noted 49 = .ok (.aload_n 0, 1) := by decide +kernel
theorem dX9_noted_50 : decode cX9_noted 50 = .ok (.getfield 118, 3) := by decide +kernel
theorem dX9_noted_53 : decode cX9_noted 53 = .ok (.iload_n 1, 1) := by decide +kernel
theorem dX9_noted_54 : decode cX9_noted 54 = .ok (.iastore, 1) := by decide +kernel
theorem dX9_noted_55 : decode cX9_noted 55 = .ok (.aload_n 0, 1) := by decide +kernel
theorem dX9_noted_56 : decode cX9_noted 56 = .ok (.getfield 47, 3) := by decide +kernel
theorem dX9_noted_59 : decode cX9_noted 59 = .ok (.aload_n 0, 1) := by decide +kernel
theorem dX9_noted_60 : decode cX9_noted 60 = .ok (.getfield 118, 3) := by decide +kernel
theorem dX9_noted_63 : decode cX9_noted 63 = .ok (.iload_n 2, 1) := by decide +kernel
theorem dX9_noted_64 : decode cX9_noted 64 = .ok (.iastore, 1) := by decide +kernel
theorem dX9_noted_65 : decode cX9_noted 65 = .ok (.aload_n 0, 1) := by decide +kernel
theorem dX9_noted_66 : decode cX9_noted 66 = .ok (.dup, 1) := by decide +kernel
theorem dX9_noted_67 : decode cX9_noted 67 = .ok (.getfield 118, 3) := by decide +kernel
theorem dX9_noted_70 : decode cX9_noted 70 = .ok (.iconst 1, 1) := by decide +kernel
theorem dX9_noted_71 : decode cX9_noted 71 = .ok (.iadd, 1) := by decide +kernel
theorem dX9_noted_72 : decode cX9_noted 72 = .ok (.putfield 118, 3) := by decide +kernel
theorem dX9_noted_75 : decode cX9_noted 75 = .ok (.aload_n 0, 1) := by decide +kernel
theorem dX9_noted_76 : decode cX9_noted 76 = .ok (.getfield 118, 3) := by decide +kernel
theorem dX9_noted_79 : decode cX9_noted 79 = .ok (.ireturn, 1) := by decide +kernel
theorem dX9_forget_0 : decode cX9_forget 0 = .ok (.aload_n 0, 1) := by decide +kernel
theorem dX9_forget_1 : decode cX9_forget 1 = .ok (.iconst 0, 1) := by decide +kernel
theorem dX9_forget_2 : decode cX9_forget 2 = .ok (.putfield 56, 3) := by decide +kernel
theorem dX9_forget_5 : decode cX9_forget 5 = .ok (.aload_n 0, 1) := by decide +kernel
theorem dX9_forget_6 : decode cX9_forget 6 = .ok (.getfield 118, 3) := by decide +kernel
theorem dX9_forget_9 : decode cX9_forget 9 = .ok (.istore_n 1, 1) := by decide +kernel
theorem dX9_forget_10 : decode cX9_forget 10 = .ok (.aload_n 0, 1) := by decide +kernel
theorem dX9_forget_11 : decode cX9_forget 11 = .ok (.iconst 0, 1) := by decide +kernel
theorem dX9_forget_12 : decode cX9_forget 12 = .ok (.putfield 118, 3) := by decide +kernel
theorem dX9_forget_15 : decode cX9_forget 15 = .ok (.iload_n 1, 1) := by decide +kernel
theorem dX9_forget_16 : decode cX9_forget 16 = .ok (.ireturn, 1) := by decide +kernel
theorem dX9_isAsNoted_0 : decode cX9_isAsNoted 0 = .ok (.aload_n 0, 1) := by decide +kernel
theorem dX9_isAsNoted_1 : decode cX9_isAsNoted 1 = .ok (.invokevirtual 172, 3) := by decide +kernel
theorem dX9_isAsNoted_4 : decode cX9_isAsNoted 4 = .ok (.iconst 0, 1) := by decide +kernel
theorem dX9_isAsNoted_5 : decode cX9_isAsNoted 5 = .ok (.istore_n 2, 1) := by decide +kernel
theorem dX9_isAsNoted_6 : decode cX9_isAsNoted 6 = .ok (.iload_n 2, 1) := by decide +kernel
theorem dX9_isAsNoted_7 : decode cX9_isAsNoted 7 = .ok (.iconst 5, 1) := by decide +kernel
theorem dX9_isAsNoted_8 : decode cX9_isAsNoted 8 = .ok (.if_icmp .ge 30, 3) := by decide +kernel
theorem dX9_isAsNoted_11 : decode cX9_isAsNoted 11 = .ok (.aload_n 0, 1) := by decide +kernel
theorem dX9_isAsNoted_12 : decode cX9_isAsNoted 12 = .ok (.getfield 31, 3) := by decide +kernel
theorem dX9_isAsNoted_15 : decode cX9_isAsNoted 15 = .ok (.iconst 5, 1) := by decide +kernel
theorem dX9_isAsNoted_16 : decode cX9_isAsNoted 16 = .ok (.iload_n 2, 1) := by decide +kernel
theorem dX9_isAsNoted_17 : decode cX9_isAsNoted 17 = .ok (.iadd, 1) := by decide +kernel
theorem dX9_isAsNoted_18 : decode cX9_isAsNoted 18 = .ok (.iload_n 2, 1) := by decide +kernel
theorem dX9_isAsNoted_19 : decode cX9_isAsNoted 19 = .ok (.iload_n 1, 1) := by decide +kernel
theorem dX9_isAsNoted_20 : decode cX9_isAsNoted 20 = .ok (.if_icmp .ne 10, 3) := by decide +kernel
theorem dX9_isAsNoted_23 : decode cX9_isAsNoted 23 = .ok (.aload_n 0, 1) := by decide +kernel
theorem dX9_isAsNoted_24 : decode cX9_isAsNoted 24 = .ok (.invokevirtual 124, 3) := by decide +kernel
theorem dX9_isAsNoted_27 : decode cX9_isAsNoted 27 = .ok (.goto 4, 3) := by decide +kernel
theorem dX9_isAsNoted_30 : decode cX9_isAsNoted 30 = .ok (.iconst 0, 1) := by decide +kernel
theorem dX9_isAsNoted_31 : decode cX9_isAsNoted 31 = .ok (.iastore, 1) := by decide +kernel
theorem dX9_isAsNoted_32 : decode cX9_isAsNoted 32 = .ok (.iinc 2 1, 3) := by decide +kernel
theorem dX9_isAsNoted_35 : decode cX9_isAsNoted 35 = .ok (.goto (-29), 3) := by decide +kernel
theorem dX9_isAsNoted_38 : decode cX9_isAsNoted 38 = .ok (.iconst 1, 1) := by decide +kernel
theorem dX9_isAsNoted_39 : decode cX9_isAsNoted 39 = .ok (.istore_n 2, 1) := by decide +kernel
theorem dX9_isAsNoted_40 : decode cX9_isAsNoted 40 = .ok (.iconst 0, 1) := by decide +kernel
theorem dX9_isAsNoted_41 : decode cX9_isAsNoted 41 = .ok (.istore_n 3, 1) := by decide +kernel
theorem dX9_isAsNoted_42 : decode cX9_isAsNoted 42 = .ok (.iload_n 3, 1) := by decide +kernel
theorem dX9_isAsNoted_43 : decode cX9_isAsNoted 43 = .ok (.aload_n 0, 1) := by decide +kernel
theorem dX9_isAsNoted_44 : decode cX9_isAsNoted 44 = .ok (.getfield 118, 3) := by decide +kernel
theorem dX9_isAsNoted_47 : decode cX9_isAsNoted 47 = .ok (.if_icmp .ge 42, 3) := by decide +kernel
theorem dX9_isAsNoted_50 : decode cX9_isAsNoted 50 = .ok (.iload_n 2, 1) := by decide +kernel
theorem dX9_isAsNoted_51 : decode cX9_isAsNoted 51 = .ok (.ifCond .eq 30, 3) := by decide +kernel
theorem dX9_isAsNoted_54 : decode cX9_isAsNoted 54 = .ok (.aload_n 0, 1) := by decide +kernel
theorem dX9_isAsNoted_55 : decode cX9_isAsNoted 55 = .ok (.aload_n 0, 1) := by decide +kernel
theorem dX9_isAsNoted_56 : decode cX9_isAsNoted 56 = .ok (.getfield 31, 3) := by decide +kernel
theorem dX9_isAsNoted_59 : decode cX9_isAsNoted 59 = .ok (.aload_n 0, 1) := by decide +kernel
theorem dX9_isAsNoted_60 : decode cX9_isAsNoted 60 = .ok (.getfield 44, 3) := by decide +kernel
theorem dX9_isAsNoted_63 : decode cX9_isAsNoted 63 = .ok (.iload_n 3, 1) := by decide +kernel
theorem dX9_isAsNoted_64 : decode cX9_isAsNoted 64 = .ok (.iaload, 1) := by decide +kernel
theorem dX9_isAsNoted_65 : decode cX9_isAsNoted 65 = .ok (.invokevirtual 184, 3) := by decide +kernel
theorem dX9_isAsNoted_68 : decode cX9_isAsNoted 68 = .ok (.aload_n 0, 1) := by decide +kernel
theorem dX9_isAsNoted_69 : decode cX9_isAsNoted 69 = .ok (.getfield 47, 3) := by decide +kernel
theorem dX9_isAsNoted_72 : decode cX9_isAsNoted 72 = .ok (.iload_n 3, 1) := by decide +kernel
theorem dX9_isAsNoted_73 : decode cX9_isAsNoted 73 = .ok (.iaload, 1) := by decide +kernel
theorem dX9_isAsNoted_74 : decode cX9_isAsNoted 74 = .ok (.if_icmp .ne 7, 3) := by decide +kernel
theorem dX9_isAsNoted_77 : decode cX9_isAsNoted 77 = .ok (.iconst 1, 1) := by decide +kernel
theorem dX9_isAsNoted_78 : decode cX9_isAsNoted 78 = .ok (.goto 4, 3) := by decide +kernel
theorem dX9_isAsNoted_81 : decode cX9_isAsNoted 81 = .ok (.iconst 0, 1) := by decide +kernel
theorem dX9_isAsNoted_82 : decode cX9_isAsNoted 82 = .ok (.istore_n 2, 1) := by decide +kernel
theorem dX9_isAsNoted_83 : decode cX9_isAsNoted 83 = .ok (.iinc 3 1, 3) := by decide +kernel
theorem dX9_isAsNoted_86 : decode cX9_isAsNoted 86 = .ok (.goto (-44), 3) := by decide +kernel
theorem dX9_isAsNoted_89 : decode cX9_isAsNoted 89 = .ok (.iload_n 2, 1) := by decide +kernel
theorem dX9_isAsNoted_90 : decode cX9_isAsNoted 90 = .ok (.ireturn, 1) := by decide +kernel
theorem dX9_who_0 : decode cX9_who 0 = .ok (.aload_n 0, 1) := by decide +kernel
theorem dX9_who_1 : decode cX9_who 1 = .ok (.iconst 0, 1) := by decide +kernel
theorem dX9_who_2 : decode cX9_who 2 = .ok (.putfield 56, 3) := by decide +kernel
theorem dX9_who_5 : decode cX9_who 5 = .ok (.aload_n 0, 1) := by decide +kernel
theorem dX9_who_6 : decode cX9_who 6 = .ok (.bipush (-9), 2) := by decide +kernel
theorem dX9_who_8 : decode cX9_who 8 = .ok (.invokevirtual 187, 3) := by decide +kernel
theorem dX9_who_11 : decode cX9_who 11 = .ok (.ifCond .eq 8, 3) := by decide +kernel
theorem dX9_who_14 : decode cX9_who 14 = .ok (.bipush 32, 2) := by decide +kernel
theorem dX9_who_16 : decode cX9_who 16 = .ok (.goto 4, 3) := by decide +kernel
theorem dX9_who_19 : decode cX9_who 19 = .ok (.iconst 0, 1) := by decide +kernel
theorem dX9_who_20 : decode cX9_who 20 = .ok (.istore_n 1, 1) := by decide +kernel
theorem dX9_who_21 : decode cX9_who 21 = .ok (.iconst 0, 1) := by decide +kernel
theorem dX9_who_22 : decode cX9_who 22 = .ok (.istore_n 2, 1) := by decide +kernel
theorem dX9_who_23 : decode cX9_who 23 = .ok (.iload_n 2, 1) := by decide +kernel
theorem dX9_who_24 : decode cX9_who 24 = .ok (.aload_n 0, 1) := by decide +kernel
theorem dX9_who_25 : decode cX9_who 25 = .ok (.getfield 13, 3) := by decide +kernel
theorem dX9_who_28 : decode cX9_who 28 = .ok (.iconst 1, 1) := by decide +kernel
theorem dX9_who_29 : decode cX9_who 29 = .ok (.iaload, 1) := by decide +kernel
theorem dX9_who_30 : decode cX9_who 30 = .ok (.if_icmp .ge 27, 3) := by decide +kernel
theorem dX9_who_33 : decode cX9_who 33 = .ok (.iload_n 1, 1) := by decide +kernel
theorem dX9_who_34 : decode cX9_who 34 = .ok (.aload_n 0, 1) := by decide +kernel
theorem dX9_who_35 : decode cX9_who 35 = .ok (.iload_n 2, 1) := by decide +kernel
theorem dX9_who_36 : decode cX9_who 36 = .ok (.invokevirtual 187, 3) := by decide +kernel
theorem dX9_who_39 : decode cX9_who 39 = .ok (.ifCond .eq 9, 3) := by decide +kernel
theorem dX9_who_42 : decode cX9_who 42 = .ok (.iconst 1, 1) := by decide +kernel
theorem dX9_who_43 : decode cX9_who 43 = .ok (.iload_n 2, 1) := by decide +kernel
theorem dX9_who_44 : decode cX9_who 44 = .ok (.ishl, 1) := by decide +kernel
theorem dX9_who_45 : decode cX9_who 45 = .ok (.goto 4, 3) := by decide +kernel
theorem dX9_who_48 : decode cX9_who 48 = .ok (.iconst 0, 1) := by decide +kernel
theorem dX9_who_49 : decode cX9_who 49 = .ok (.ior, 1) := by decide +kernel
theorem dX9_who_50 : decode cX9_who 50 = .ok (.istore_n 1, 1) := by decide +kernel
theorem dX9_who_51 : decode cX9_who 51 = .ok (.iinc 2 1, 3) := by decide +kernel
theorem dX9_who_54 : decode cX9_who 54 = .ok (.goto (-31), 3) := by decide +kernel
theorem dX9_who_57 : decode cX9_who 57 = .ok (.iload_n 1, 1) := by decide +kernel
theorem dX9_who_58 : decode cX9_who 58 = .ok (.ireturn, 1) := by decide +kernel
theorem dX9_poorest_0 : decode cX9_poorest 0 = .ok (.ldc 162, 2) := by decide +kernel
theorem dX9_poorest_2 : decode cX9_poorest 2 = .ok (.istore_n 2, 1) := by decide +kernel
theorem dX9_poorest_3 : decode cX9_poorest 3 = .ok (.iconst 0, 1) := by decide +kernel
theorem dX9_poorest_4 : decode cX9_poorest 4 = .ok (.istore_n 3, 1) := by decide +kernel
theorem dX9_poorest_5 : decode cX9_poorest 5 = .ok (.iload_n 3, 1) := by decide +kernel
theorem dX9_poorest_6 : decode cX9_poorest 6 = .ok (.aload_n 0, 1) := by decide +kernel
theorem dX9_poorest_7 : decode cX9_poorest 7 = .ok (.getfield 13, 3) := by decide +kernel
theorem dX9_poorest_10 : decode cX9_poorest 10 = .ok (.iconst 1, 1) := by decide +kernel
theorem dX9_poorest_11 : decode cX9_poorest 11 = .ok (.iaload, 1) := by decide +kernel
theorem dX9_poorest_12 : decode cX9_poorest 12 = .ok (.if_icmp .ge 30, 3) := by decide +kernel
theorem dX9_poorest_15 : decode cX9_poorest 15 = .ok (.aload_n 1, 1) := by decide +kernel
theorem dX9_poorest_16 : decode cX9_poorest 16 = .ok (.bipush 10, 2) := by decide +kernel
theorem dX9_poorest_18 : decode cX9_poorest 18 = .ok (.iload_n 3, 1) := by decide +kernel
theorem dX9_poorest_19 : decode cX9_poorest 19 = .ok (.iadd, 1) := by decide +kernel
theorem dX9_poorest_20 : decode cX9_poorest 20 = .ok (.iaload, 1) := by decide +kernel
theorem dX9_poorest_21 : decode cX9_poorest 21 = .ok (.iload_n 2, 1) := by decide +kernel
theorem dX9_poorest_22 : decode cX9_poorest 22 = .ok (.if_icmp .ge 12, 3) := by decide +kernel
theorem dX9_poorest_25 : decode cX9_poorest 25 = .ok (.aload_n 1, 1) := by decide +kernel
theorem dX9_poorest_26 : decode cX9_poorest 26 = .ok (.bipush 10, 2) := by decide +kernel
theorem dX9_poorest_28 : decode cX9_poorest 28 = .ok (.iload_n 3, 1) := by decide +kernel
theorem dX9_poorest_29 : decode cX9_poorest 29 = .ok (.iadd, 1) := by decide +kernel
theorem dX9_poorest_30 : decode cX9_poorest 30 = .ok (.iaload, 1) := by decide +kernel
theorem dX9_poorest_31 : decode cX9_poorest 31 = .ok (.goto 4, 3) := by decide +kernel
theorem dX9_poorest_34 : decode cX9_poorest 34 = .ok (.iload_n 2, 1) := by decide +kernel
theorem dX9_poorest_35 : decode cX9_poorest 35 = .ok (.istore_n 2, 1) := by decide +kernel
theorem dX9_poorest_36 : decode cX9_poorest 36 = .ok (.iinc 3 1, 3) := by decide +kernel
theorem dX9_poorest_39 : decode cX9_poorest 39 = .ok (.goto (-34), 3) := by decide +kernel
theorem dX9_poorest_42 : decode cX9_poorest 42 = .ok (.iload_n 2, 1) := by decide +kernel
theorem dX9_poorest_43 : decode cX9_poorest 43 = .ok (.ireturn, 1) := by decide +kernel
theorem dX9_broke_0 : decode cX9_broke 0 = .ok (.aload_n 0, 1) := by decide +kernel
theorem dX9_broke_1 : decode cX9_broke 1 = .ok (.iconst 0, 1) := by decide +kernel
theorem dX9_broke_2 : decode cX9_broke 2 = .ok (.putfield 56, 3) := by decide +kernel
theorem dX9_broke_5 : decode cX9_broke 5 = .ok (.aload_n 0, 1) := by decide +kernel
theorem dX9_broke_6 : decode cX9_broke 6 = .ok (.invokevirtual 172, 3) := by decide +kernel
theorem dX9_broke_9 : decode cX9_broke 9 = .ok (.iconst 0, 1) := by decide +kernel
theorem dX9_broke_10 : decode cX9_broke 10 = .ok (.istore_n 1, 1) := by decide +kernel
theorem dX9_broke_11 : decode cX9_broke 11 = .ok (.iload_n 1, 1) := by decide +kernel
theorem dX9_broke_12 : decode cX9_broke 12 = .ok (.sipush 300, 3) := by decide +kernel
theorem dX9_broke_15 : decode cX9_broke 15 = .ok (.if_icmp .gt 31, 3) := by decide +kernel
theorem dX9_broke_18 : decode cX9_broke 18 = .ok (.aload_n 0, 1) := by decide +kernel
theorem dX9_broke_19 : decode cX9_broke 19 = .ok (.aload_n 0, 1) := by decide +kernel
theorem dX9_broke_20 : decode cX9_broke 20 = .ok (.getfield 31, 3) := by decide +kernel
theorem dX9_broke_23 : decode cX9_broke 23 = .ok (.invokevirtual 190, 3) := by decide +kernel
theorem dX9_broke_26 : decode cX9_broke 26 = .ok (.ifCond .ge 5, 3) := by decide +kernel
theorem dX9_broke_29 : decode cX9_broke 29 = .ok (.iload_n 1, 1) := by decide +kernel
theorem dX9_broke_30 : decode cX9_broke 30 = .ok (.ireturn, 1) := by decide +kernel
theorem dX9_broke_31 : decode cX9_broke 31 = .ok (.aload_n 0, 1) := by decide +kernel
theorem dX9_broke_32 : decode cX9_broke 32 = .ok (.aload_n 0, 1) := by decide +kernel
theorem dX9_broke_33 : decode cX9_broke 33 = .ok (.getfield 31, 3) := by decide +kernel
theorem dX9_broke_36 : decode cX9_broke 36 = .ok (.invokevirtual 158, 3) := by decide +kernel
theorem dX9_broke_39 : decode cX9_broke 39 = .ok (.pop, 1) := by decide +kernel
theorem dX9_broke_40 : decode cX9_broke 40 = .ok (.iinc 1 1, 3) := by decide +kernel
theorem dX9_broke_43 : decode cX9_broke 43 = .ok (.goto (-32), 3) := by decide +kernel
theorem dX9_broke_46 : decode cX9_broke 46 = .ok (.bipush (-9), 2) := by decide +kernel
theorem dX9_broke_48 : decode cX9_broke 48 = .ok (.ireturn, 1) := by decide +kernel
theorem dX9_rich_0 : decode cX9_rich 0 = .ok (.aload_n 0, 1) := by decide +kernel
theorem dX9_rich_1 : decode cX9_rich 1 = .ok (.iconst 0, 1) := by decide +kernel
theorem dX9_rich_2 : decode cX9_rich 2 = .ok (.putfield 56, 3) := by decide +kernel
theorem dX9_rich_5 : decode cX9_rich 5 = .ok (.iload_n 1, 1) := by decide +kernel
theorem dX9_rich_6 : decode cX9_rich 6 = .ok (.iconst 1, 1) := by decide +kernel
theorem dX9_rich_7 : decode cX9_rich 7 = .ok (.sipush 999, 3) := by decide +kernel
theorem dX9_rich_10 : decode cX9_rich 10 = .ok (.invokestatic 60, 3) := by decide +kernel
theorem dX9_rich_13 : decode cX9_rich 13 = .ok (.ifCond .ne 5, 3) := by decide +kernel
theorem dX9_rich_16 : decode cX9_rich 16 = .ok (.iconst (-1), 1) := by decide +kernel
theorem dX9_rich_17 : decode cX9_rich 17 = .ok (.ireturn, 1) := by decide +kernel
theorem dX9_rich_18 : decode cX9_rich 18 = .ok (.aload_n 0, 1) := by decide +kernel
theorem dX9_rich_19 : decode cX9_rich 19 = .ok (.invokevirtual 172, 3) := by decide +kernel
theorem dX9_rich_22 : decode cX9_rich 22 = .ok (.iconst 0, 1) := by decide +kernel
theorem dX9_rich_23 : decode cX9_rich 23 = .ok (.istore_n 2, 1) := by decide +kernel
theorem dX9_rich_24 : decode cX9_rich 24 = .ok (.iload_n 2, 1) := by decide +kernel
theorem dX9_rich_25 : decode cX9_rich 25 = .ok (.sipush 300, 3) := by decide +kernel
theorem dX9_rich_28 : decode cX9_rich 28 = .ok (.if_icmp .gt 32, 3) := by decide +kernel
theorem dX9_rich_31 : decode cX9_rich 31 = .ok (.aload_n 0, 1) := by decide +kernel
theorem dX9_rich_32 : decode cX9_rich 32 = .ok (.aload_n 0, 1) := by decide +kernel
theorem dX9_rich_33 : decode cX9_rich 33 = .ok (.getfield 31, 3) := by decide +kernel
theorem dX9_rich_36 : decode cX9_rich 36 = .ok (.invokevirtual 190, 3) := by decide +kernel
theorem dX9_rich_39 : decode cX9_rich 39 = .ok (.iload_n 1, 1) := by decide +kernel
theorem dX9_rich_40 : decode cX9_rich 40 = .ok (.if_icmp .lt 5, 3) := by decide +kernel
theorem dX9_rich_43 : decode cX9_rich 43 = .ok (.iload_n 2, 1) := by decide +kernel
theorem dX9_rich_44 : decode cX9_rich 44 = .ok (.ireturn, 1) := by decide +kernel
theorem dX9_rich_45 : decode cX9_rich 45 = .ok (.aload_n 0, 1) := by decide +kernel
theorem dX9_rich_46 : decode cX9_rich 46 = .ok (.aload_n 0, 1) := by decide +kernel
theorem dX9_rich_47 : decode cX9_rich 47 = .ok (.getfield 31, 3) := by decide +kernel
theorem dX9_rich_50 : decode cX9_rich 50 = .ok (.invokevirtual 158, 3) := by decide +kernel
theorem dX9_rich_53 : decode cX9_rich 53 = .ok (.pop, 1) := by decide +kernel
theorem dX9_rich_54 : decode cX9_rich 54 = .ok (.iinc 2 1, 3) := by decide +kernel
theorem dX9_rich_57 : decode cX9_rich 57 = .ok (.goto (-33), 3) := by decide +kernel
theorem dX9_rich_60 : decode cX9_rich 60 = .ok (.bipush (-9), 2) := by decide +kernel
theorem dX9_rich_62 : decode cX9_rich 62 = .ok (.ireturn, 1) := by decide +kernel
theorem dX9_gcd_0 : decode cX9_gcd 0 = .ok (.iload_n 0, 1) := by decide +kernel
theorem dX9_gcd_1 : decode cX9_gcd 1 = .ok (.istore_n 2, 1) := by decide +kernel
theorem dX9_gcd_2 : decode cX9_gcd 2 = .ok (.iload_n 1, 1) := by decide +kernel
theorem dX9_gcd_3 : decode cX9_gcd 3 = .ok (.istore_n 3, 1) := by decide +kernel
theorem dX9_gcd_4 : decode cX9_gcd 4 = .ok (.iload_n 3, 1) := by decide +kernel
theorem dX9_gcd_5 : decode cX9_gcd 5 = .ok (.ifCond .eq 16, 3) := by decide +kernel
theorem dX9_gcd_8 : decode cX9_gcd 8 = .ok (.iload_n 2, 1) := by decide +kernel
theorem dX9_gcd_9 : decode cX9_gcd 9 = .ok (.iload_n 3, 1) := by decide +kernel
theorem dX9_gcd_10 : decode cX9_gcd 10 = .ok (.irem, 1) := by decide +kernel
theorem dX9_gcd_11 : decode cX9_gcd 11 = .ok (.istore 4, 2) := by decide +kernel
theorem dX9_gcd_13 : decode cX9_gcd 13 = .ok (.iload_n 3, 1) := by decide +kernel
theorem dX9_gcd_14 : decode cX9_gcd 14 = .ok (.istore_n 2, 1) := by decide +kernel
theorem dX9_gcd_15 : decode cX9_gcd 15 = .ok (.iload 4, 2) := by decide +kernel
theorem dX9_gcd_17 : decode cX9_gcd 17 = .ok (.istore_n 3, 1) := by decide +kernel
theorem dX9_gcd_18 : decode cX9_gcd 18 = .ok (.goto (-14), 3) := by decide +kernel
theorem dX9_gcd_21 : decode cX9_gcd 21 = .ok (.iload_n 2, 1) := by decide +kernel
theorem dX9_gcd_22 : decode cX9_gcd 22 = .ok (.ireturn, 1) := by decide +kernel
theorem dX9_odds_0 : decode cX9_odds 0 = .ok (.aload_n 0, 1) := by decide +kernel
theorem dX9_odds_1 : decode cX9_odds 1 = .ok (.iconst 0, 1) := by decide +kernel
theorem dX9_odds_2 : decode cX9_odds 2 = .ok (.putfield 56, 3) := by decide +kernel
theorem dX9_odds_5 : decode cX9_odds 5 = .ok (.iload_n 1, 1) := by decide +kernel
theorem dX9_odds_6 : decode cX9_odds 6 = .ok (.iconst 0, 1) := by decide +kernel
theorem dX9_odds_7 : decode cX9_odds 7 = .ok (.aload_n 0, 1) := by decide +kernel
theorem dX9_odds_8 : decode cX9_odds 8 = .ok (.getfield 13, 3) := by decide +kernel
theorem dX9_odds_11 : decode cX9_odds 11 = .ok (.iconst 2, 1) := by decide +kernel
theorem dX9_odds_12 : decode cX9_odds 12 = .ok (.iaload, 1) := by decide +kernel
theorem dX9_odds_13 : decode cX9_odds 13 = .ok (.iconst 1, 1) := by decide +kernel
theorem dX9_odds_14 : decode cX9_odds 14 = .ok (.isub, 1) := by decide +kernel
theorem dX9_odds_15 : decode cX9_odds 15 = .ok (.invokestatic 60, 3) := by decide +kernel
theorem dX9_odds_18 : decode cX9_odds 18 = .ok (.ifCond .eq 33, 3) := by decide +kernel
theorem dX9_odds_21 : decode cX9_odds 21 = .ok (.iload_n 2, 1) := by decide +kernel
theorem dX9_odds_22 : decode cX9_odds 22 = .ok (.iconst 0, 1) := by decide +kernel
theorem dX9_odds_23 : decode cX9_odds 23 = .ok (.bipush 10, 2) := by decide +kernel
theorem dX9_odds_25 : decode cX9_odds 25 = .ok (.invokestatic 60, 3) := by decide +kernel
theorem dX9_odds_28 : decode cX9_odds 28 = .ok (.ifCond .eq 23, 3) := by decide +kernel
theorem dX9_odds_31 : decode cX9_odds 31 = .ok (.iload_n 3, 1) := by decide +kernel
theorem dX9_odds_32 : decode cX9_odds 32 = .ok (.iconst 0, 1) := by decide +kernel
theorem dX9_odds_33 : decode cX9_odds 33 = .ok (.bipush 46, 2) := by decide +kernel
theorem dX9_odds_35 : decode cX9_odds 35 = .ok (.invokestatic 60, 3) := by decide +kernel
theorem dX9_odds_38 : decode cX9_odds 38 = .ok (.ifCond .eq 13, 3) := by decide +kernel
theorem dX9_odds_41 : decode cX9_odds 41 = .ok (.iload 4, 2) := by decide +kernel
theorem dX9_odds_43 : decode cX9_odds 43 = .ok (.iconst 0, 1) := by decide +kernel
theorem dX9_odds_44 : decode cX9_odds 44 = .ok (.iconst 1, 1) := by decide +kernel
theorem dX9_odds_45 : decode cX9_odds 45 = .ok (.invokestatic 60, 3) := by decide +kernel
theorem dX9_odds_48 : decode cX9_odds 48 = .ok (.ifCond .ne 5, 3) := by decide +kernel
theorem dX9_odds_51 : decode cX9_odds 51 = .ok (.iconst (-1), 1) := by decide +kernel
theorem dX9_odds_52 : decode cX9_odds 52 = .ok (.ireturn, 1) := by decide +kernel
theorem dX9_odds_53 : decode cX9_odds 53 = .ok (.aload_n 0, 1) := by decide +kernel
theorem dX9_odds_54 : decode cX9_odds 54 = .ok (.aload_n 0, 1) := by decide +kernel
theorem dX9_odds_55 : decode cX9_odds 55 = .ok (.getfield 28, 3) := by decide +kernel
theorem dX9_odds_58 : decode cX9_odds 58 = .ok (.invokevirtual 134, 3) := by decide +kernel
theorem dX9_odds_61 : decode cX9_odds 61 = .ok (.iconst 0, 1) := by decide +kernel
theorem dX9_odds_62 : decode cX9_odds 62 = .ok (.istore 5, 2) := by decide +kernel
theorem dX9_odds_64 : decode cX9_odds 64 = .ok (.iconst 0, 1) := by decide +kernel
theorem dX9_odds_65 : decode cX9_odds 65 = .ok (.istore 6, 2) := by decide +kernel
theorem dX9_odds_67 : decode cX9_odds 67 = .ok (.iconst 1, 1) := by decide +kernel
theorem dX9_odds_68 : decode cX9_odds 68 = .ok (.istore 7, 2) := by decide +kernel
theorem dX9_odds_70 : decode cX9_odds 70 = .ok (.iconst 0, 1) := by decide +kernel
theorem dX9_odds_71 : decode cX9_odds 71 = .ok (.istore 8, 2) := by decide +kernel
theorem dX9_odds_73 : decode cX9_odds 73 = .ok (.iload 8, 2) := by decide +kernel
theorem dX9_odds_75 : decode cX9_odds 75 = .ok (.aload_n 0, 1) := by decide +kernel
theorem dX9_odds_76 : decode cX9_odds 76 = .ok (.getfield 13, 3) := by decide +kernel
theorem dX9_odds_79 : decode cX9_odds 79 = .ok (.iconst 1, 1) := by decide +kernel
theorem dX9_odds_80 : decode cX9_odds 80 = .ok (.iaload, 1) := by decide +kernel
theorem dX9_odds_81 : decode cX9_odds 81 = .ok (.if_icmp .ge 54, 3) := by decide +kernel
theorem dX9_odds_84 : decode cX9_odds 84 = .ok (.iload 5, 2) := by decide +kernel
theorem dX9_odds_86 : decode cX9_odds 86 = .ok (.aload_n 0, 1) := by decide +kernel
theorem dX9_odds_87 : decode cX9_odds 87 = .ok (.getfield 50, 3) := by decide +kernel
theorem dX9_odds_90 : decode cX9_odds 90 = .ok (.iload 8, 2) := by decide +kernel
theorem dX9_odds_92 : decode cX9_odds 92 = .ok (.iaload, 1) := by decide +kernel
theorem dX9_odds_93 : decode cX9_odds 93 = .ok (.iload_n 1, 1) := by decide +kernel
theorem dX9_odds_94 : decode cX9_odds 94 = .ok (.ishr, 1) := by decide +kernel
theorem dX9_odds_95 : decode cX9_odds 95 = .ok (.iconst 1, 1) := by decide +kernel
theorem dX9_odds_96 : decode cX9_odds 96 = .ok (.iand, 1) := by decide +kernel
theorem dX9_odds_97 : decode cX9_odds 97 = .ok (.iload 8, 2) := by decide +kernel
theorem dX9_odds_99 : decode cX9_odds 99 = .ok (.ishl, 1) := by decide +kernel
theorem dX9_odds_100 : decode cX9_odds 100 = .ok (.ior, 1) := by decide +kernel
theorem dX9_odds_101 : decode cX9_odds 101 = .ok (.istore 5, 2) := by decide +kernel
theorem dX9_odds_103 : decode cX9_odds 103 = .ok (.iload 7, 2) := by decide +kernel
theorem dX9_odds_105 : decode cX9_odds 105 = .ok (.aload_n 0, 1) := by decide +kernel
theorem dX9_odds_106 : decode cX9_odds 106 = .ok (.getfield 50, 3) := by decide +kernel
theorem dX9_odds_109 : decode cX9_odds 109 = .ok (.iload 8, 2) := by decide +kernel
theorem dX9_odds_111 : decode cX9_odds 111 = .ok (.iaload, 1) := by decide +kernel
theorem dX9_odds_112 : decode cX9_odds 112 = .ok (.iload_n 1, 1) := by decide +kernel
theorem dX9_odds_113 : decode cX9_odds 113 = .ok (.ishr, 1) := by decide +kernel
theorem dX9_odds_114 : decode cX9_odds 114 = .ok (.iconst 1, 1) := by decide +kernel
theorem dX9_odds_115 : decode cX9_odds 115 = .ok (.iand, 1) := by decide +kernel
theorem dX9_odds_116 : decode cX9_odds 116 = .ok (.iconst 1, 1) := by decide +kernel
theorem dX9_odds_117 : decode cX9_odds 117 = .ok (.if_icmp .ne 8, 3) := by decide +kernel
theorem dX9_odds_120 : decode cX9_odds 120 = .ok (.bipush 10, 2) := by decide +kernel
theorem dX9_odds_122 : decode cX9_odds 122 = .ok (.goto 4, 3) := by decide +kernel
theorem dX9_odds_125 : decode cX9_odds 125 = .ok (.iconst 1, 1) := by decide +kernel
theorem dX9_odds_126 : decode cX9_odds 126 = .ok (.imul, 1) := by decide +kernel
theorem dX9_odds_127 : decode cX9_odds 127 = .ok (.istore 7, 2) := by decide +kernel
theorem dX9_odds_129 : decode cX9_odds 129 = .ok (.iinc 8 1, 3) := by decide +kernel
theorem dX9_odds_132 : decode cX9_odds 132 = .ok (.goto (-59), 3) := by decide +kernel
theorem dX9_odds_135 : decode cX9_odds 135 = .ok (.iconst 0, 1) := by decide +kernel
theorem dX9_odds_136 : decode cX9_odds 136 = .ok (.istore 8, 2) := by decide +kernel
theorem dX9_odds_138 : decode cX9_odds 138 = .ok (.iload 8, 2) := by decide +kernel
theorem dX9_odds_140 : decode cX9_odds 140 = .ok (.iconst 1, 1) := by decide +kernel
theorem dX9_odds_141 : decode cX9_odds 141 = .ok (.aload_n 0, 1) := by decide +kernel
theorem dX9_odds_142 : decode cX9_odds 142 = .ok (.getfield 13, 3) := by decide +kernel
theorem dX9_odds_145 : decode cX9_odds 145 = .ok (.iconst 1, 1) := by decide +kernel
theorem dX9_odds_146 : decode cX9_odds 146 = .ok (.iaload, 1) := by decide +kernel
theorem dX9_odds_147 : decode cX9_odds 147 = .ok (.ishl, 1) := by decide +kernel
theorem dX9_odds_148 : decode cX9_odds 148 = .ok (.if_icmp .ge 126, 3) := by decide +kernel
theorem dX9_odds_151 : decode cX9_odds 151 = .ok (.iload 8, 2) := by decide +kernel
theorem dX9_odds_153 : decode cX9_odds 153 = .ok (.iload 5, 2) := by decide +kernel
theorem dX9_odds_155 : decode cX9_odds 155 = .ok (.iconst (-1), 1) := by decide +kernel
theorem dX9_odds_156 : decode cX9_odds 156 = .ok (.ixor, 1) := by decide +kernel
theorem dX9_odds_157 : decode cX9_odds 157 = .ok (.iand, 1) := by decide +kernel
theorem dX9_odds_158 : decode cX9_odds 158 = .ok (.ifCond .ne 110, 3) := by decide +kernel
theorem dX9_odds_161 : decode cX9_odds 161 = .ok (.aload_n 0, 1) := by decide +kernel
theorem dX9_odds_162 : decode cX9_odds 162 = .ok (.invokevirtual 172, 3) := by decide +kernel
theorem dX9_odds_165 : decode cX9_odds 165 = .ok (.iconst 1, 1) := by decide +kernel
theorem dX9_odds_166 : decode cX9_odds 166 = .ok (.istore 9, 2) := by decide +kernel
theorem dX9_odds_168 : decode cX9_odds 168 = .ok (.iconst 0, 1) := by decide +kernel
theorem dX9_odds_169 : decode cX9_odds 169 = .ok (.istore 10, 2) := by decide +kernel
theorem dX9_odds_171 : decode cX9_odds 171 = .ok (.iload 10, 2) := by decide +kernel
theorem dX9_odds_173 : decode cX9_odds 173 = .ok (.aload_n 0, 1) := by decide +kernel
theorem dX9_odds_174 : decode cX9_odds 174 = .ok (.getfield 13, 3) := by decide +kernel
theorem dX9_odds_177 : decode cX9_odds 177 = .ok (.iconst 1, 1) := by decide +kernel
theorem dX9_odds_178 : decode cX9_odds 178 = .ok (.iaload, 1) := by decide +kernel
theorem dX9_odds_179 : decode cX9_odds 179 = .ok (.if_icmp .ge 65, 3) := by decide +kernel
theorem dX9_odds_182 : decode cX9_odds 182 = .ok (.aload_n 0, 1) := by decide +kernel
theorem dX9_odds_183 : decode cX9_odds 183 = .ok (.getfield 31, 3) := by decide +kernel
theorem dX9_odds_186 : decode cX9_odds 186 = .ok (.iconst 5, 1) := by decide +kernel
theorem dX9_odds_187 : decode cX9_odds 187 = .ok (.iload 10, 2) := by decide +kernel
theorem dX9_odds_189 : decode cX9_odds 189 = .ok (.iadd, 1) := by decide +kernel
theorem dX9_odds_190 : decode cX9_odds 190 = .ok (.iload 8, 2) := by decide +kernel
theorem dX9_odds_192 : decode cX9_odds 192 = .ok (.iload 10, 2) := by decide +kernel
theorem dX9_odds_194 : decode cX9_odds 194 = .ok (.ishr, 1) := by decide +kernel
theorem dX9_odds_195 : decode cX9_odds 195 = .ok (.iconst 1, 1) := by decide +kernel
theorem dX9_odds_196 : decode cX9_odds 196 = .ok (.iand, 1) := by decide +kernel
theorem dX9_odds_197 : decode cX9_odds 197 = .ok (.iload_n 1, 1) := by decide +kernel
theorem dX9_odds_198 : decode cX9_odds 198 = .ok (.ishl, 1) := by decide +kernel
theorem dX9_odds_199 : decode cX9_odds 199 = .ok (.iastore, 1) := by decide +kernel
theorem dX9_odds_200 : decode cX9_odds 200 = .ok (.iload 9, 2) := by decide +kernel
theorem dX9_odds_202 : decode cX9_odds 202 = .ok (.iload 5, 2) := by decide +kernel
theorem dX9_odds_204 : decode cX9_odds 204 = .ok (.iload 10, 2) := by decide +kernel
theorem dX9_odds_206 : decode cX9_odds 206 = .ok (.ishr, 1) := by decide +kernel
theorem dX9_odds_207 : decode cX9_odds 207 = .ok (.iconst 1, 1) := by decide +kernel
theorem dX9_odds_208 : decode cX9_odds 208 = .ok (.iand, 1) := by decide +kernel
theorem dX9_odds_209 : decode cX9_odds 209 = .ok (.ifCond .ne 7, 3) := by decide +kernel
theorem dX9_odds_212 : decode cX9_odds 212 = .ok (.iconst 1, 1) := by decide +kernel
theorem dX9_odds_213 : decode cX9_odds 213 = .ok (.goto 22, 3) := by decide +kernel
theorem dX9_odds_216 : decode cX9_odds 216 = .ok (.iload 8, 2) := by decide +kernel
theorem dX9_odds_218 : decode cX9_odds 218 = .ok (.iload 10, 2) := by decide +kernel
theorem dX9_odds_220 : decode cX9_odds 220 = .ok (.ishr, 1) := by decide +kernel
theorem dX9_odds_221 : decode cX9_odds 221 = .ok (.iconst 1, 1) := by decide +kernel
theorem dX9_odds_222 : decode cX9_odds 222 = .ok (.iand, 1) := by decide +kernel
theorem dX9_odds_223 : decode cX9_odds 223 = .ok (.iconst 1, 1) := by decide +kernel
theorem dX9_odds_224 : decode cX9_odds 224 = .ok (.if_icmp .ne 7, 3) := by decide +kernel
theorem dX9_odds_227 : decode cX9_odds 227 = .ok (.iload_n 2, 1) := by decide +kernel
theorem dX9_odds_228 : decode cX9_odds 228 = .ok (.goto 7, 3) := by decide +kernel
theorem dX9_odds_231 : decode cX9_odds 231 = .ok (.bipush 10, 2) := by decide +kernel
theorem dX9_odds_233 : decode cX9_odds 233 = .ok (.iload_n 2, 1) := by decide +kernel
theorem dX9_odds_234 : decode cX9_odds 234 = .ok (.isub, 1) := by decide +kernel
theorem dX9_odds_235 : decode cX9_odds 235 = .ok (.imul, 1) := by decide +kernel
theorem dX9_odds_236 : decode cX9_odds 236 = .ok (.istore 9, 2) := by decide +kernel
theorem dX9_odds_238 : decode cX9_odds 238 = .ok (.iinc 10 1, 3) := by decide +kernel
theorem dX9_odds_241 : decode cX9_odds 241 = .ok (.goto (-70), 3) := by decide +kernel
theorem dX9_odds_244 : decode cX9_odds 244 = .ok (.iload 6, 2) := by decide +kernel
theorem dX9_odds_246 : decode cX9_odds 246 = .ok (.aload_n 0, 1) := by decide +kernel
theorem dX9_odds_247 : decode cX9_odds 247 = .ok (.aload_n 0, 1) := by decide +kernel
theorem dX9_odds_248 : decode cX9_odds 248 = .ok (.getfield 31, 3) := by decide +kernel
theorem dX9_odds_251 : decode cX9_odds 251 = .ok (.iload_n 1, 1) := by decide +kernel
theorem dX9_odds_252 : decode cX9_odds 252 = .ok (.invokevirtual 184, 3) := by decide +kernel
theorem dX9_odds_255 : decode cX9_odds 255 = .ok (.iload_n 3, 1) := by decide +kernel
theorem dX9_odds_256 : decode cX9_odds 256 = .ok (.if_icmp .lt 8, 3) := by decide +kernel
theorem dX9_odds_259 : decode cX9_odds 259 = .ok (.iload 9, 2) := by decide +kernel
theorem dX9_odds_261 : decode cX9_odds 261 = .ok (.goto 4, 3) := by decide +kernel
theorem dX9_odds_264 : decode cX9_odds 264 = .ok (.iconst 0, 1) := by decide +kernel
theorem dX9_odds_265 : decode cX9_odds 265 = .ok (.iadd, 1) := by decide +kernel
theorem dX9_odds_266 : decode cX9_odds 266 = .ok (.istore 6, 2) := by decide +kernel
theorem dX9_odds_268 : decode cX9_odds 268 = .ok (.iinc 8 1, 3) := by decide +kernel
theorem dX9_odds_271 : decode cX9_odds 271 = .ok (.goto (-133), 3) := by decide +kernel
theorem dX9_odds_274 : decode cX9_odds 274 = .ok (.iload 6, 2) := by decide +kernel
theorem dX9_odds_276 : decode cX9_odds 276 = .ok (.iload 7, 2) := by decide +kernel
theorem dX9_odds_278 : decode cX9_odds 278 = .ok (.invokestatic 193, 3) := by decide +kernel
theorem dX9_odds_281 : decode cX9_odds 281 = .ok (.istore 8, 2) := by decide +kernel
theorem dX9_odds_283 : decode cX9_odds 283 = .ok (.iload 4, 2) := by decide +kernel
theorem dX9_odds_285 : decode cX9_odds 285 = .ok (.ifCond .ne 11, 3) := by decide +kernel
theorem dX9_odds_288 : decode cX9_odds 288 = .ok (.iload 6, 2) := by decide +kernel
theorem dX9_odds_290 : decode cX9_odds 290 = .ok (.iload 8, 2) := by decide +kernel
theorem dX9_odds_292 : decode cX9_odds 292 = .ok (.idiv, 1) := by decide +kernel
theorem dX9_odds_293 : decode cX9_odds 293 = .ok (.goto 8, 3) := by decide +kernel
theorem dX9_odds_296 : decode cX9_odds 296 = .ok (.iload 7, 2) := by decide +kernel
theorem dX9_odds_298 : decode cX9_odds 298 = .ok (.iload 8, 2) := by decide +kernel
theorem dX9_odds_300 : decode cX9_odds 300 = .ok (.idiv, 1) := by decide +kernel
theorem dX9_odds_301 : decode cX9_odds 301 = .ok (.ireturn, 1) := by decide +kernel
theorem dX9_rate_0 : decode cX9_rate 0 = .ok (.aload_n 0, 1) := by decide +kernel
theorem dX9_rate_1 : decode cX9_rate 1 = .ok (.iconst 0, 1) := by decide +kernel
theorem dX9_rate_2 : decode cX9_rate 2 = .ok (.putfield 56, 3) := by decide +kernel
theorem dX9_rate_5 : decode cX9_rate 5 = .ok (.iload_n 1, 1) := by decide +kernel
theorem dX9_rate_6 : decode cX9_rate 6 = .ok (.iconst 0, 1) := by decide +kernel
theorem dX9_rate_7 : decode cX9_rate 7 = .ok (.iconst 5, 1) := by decide +kernel
theorem dX9_rate_8 : decode cX9_rate 8 = .ok (.invokestatic 60, 3) := by decide +kernel
theorem dX9_rate_11 : decode cX9_rate 11 = .ok (.ifCond .eq 11, 3) := by decide +kernel
theorem dX9_rate_14 : decode cX9_rate 14 = .ok (.aload_n 0, 1) := by decide +kernel
theorem dX9_rate_15 : decode cX9_rate 15 = .ok (.iload_n 2, 1) := by decide +kernel
theorem dX9_rate_16 : decode cX9_rate 16 = .ok (.invokevirtual 142, 3) := by decide +kernel
theorem dX9_rate_19 : decode cX9_rate 19 = .ok (.ifCond .ne 6, 3) := by decide +kernel
theorem dX9_rate_22 : decode cX9_rate 22 = .ok (.ldc 154, 2) := by decide +kernel
theorem dX9_rate_24 : decode cX9_rate 24 = .ok (.ireturn, 1) := by decide +kernel
theorem dX9_rate_25 : decode cX9_rate 25 = .ok (.aload_n 0, 1) := by decide +kernel
theorem dX9_rate_26 : decode cX9_rate 26 = .ok (.getfield 19, 3) := by decide +kernel
theorem dX9_rate_29 : decode cX9_rate 29 = .ok (.iload_n 2, 1) := by decide +kernel
theorem dX9_rate_30 : decode cX9_rate 30 = .ok (.iaload, 1) := by decide +kernel
theorem dX9_rate_31 : decode cX9_rate 31 = .ok (.invokestatic 128, 3) := by decide +kernel
theorem dX9_rate_34 : decode cX9_rate 34 = .ok (.istore_n 3, 1) := by decide +kernel
theorem dX9_rate_35 : decode cX9_rate 35 = .ok (.aload_n 0, 1) := by decide +kernel
theorem dX9_rate_36 : decode cX9_rate 36 = .ok (.dup, 1) := by decide +kernel
theorem dX9_rate_37 : decode cX9_rate 37 = .ok (.getfield 196, 3) := by decide +kernel
theorem dX9_rate_40 : decode cX9_rate 40 = .ok (.iload_n 1, 1) := by decide +kernel
theorem dX9_rate_41 : decode cX9_rate 41 = .ok (.ifCond .ne 7, 3) := by decide +kernel
theorem dX9_rate_44 : decode cX9_rate 44 = .ok (.lconst 1, 1) := by decide +kernel
theorem dX9_rate_45 : decode cX9_rate 45 = .ok (.goto 50, 3) := by decide +kernel
theorem dX9_rate_48 : decode cX9_rate 48 = .ok (.iload_n 1, 1) := by decide +kernel
theorem dX9_rate_49 : decode cX9_rate 49 = .ok (.iconst 1, 1) := by decide +kernel
theorem dX9_rate_50 : decode cX9_rate 50 = .ok (.if_icmp .ne 9, 3) := by decide +kernel
theorem dX9_rate_53 : decode cX9_rate 53 = .ok (.ldc2_w 200, 3) := by decide +kernel
theorem dX9_rate_56 : decode cX9_rate 56 = .ok (.goto 39, 3) := by decide +kernel
theorem dX9_rate_59 : decode cX9_rate 59 = .ok (.iload_n 1, 1) := by decide +kernel
theorem dX9_rate_60 : decode cX9_rate 60 = .ok (.iconst 2, 1) := by decide +kernel
theorem dX9_rate_61 : decode cX9_rate 61 = .ok (.if_icmp .ne 9, 3) := by decide +kernel
theorem dX9_rate_64 : decode cX9_rate 64 = .ok (.ldc2_w 202, 3) := by decide +kernel
theorem dX9_rate_67 : decode cX9_rate 67 = .ok (.goto 28, 3) := by decide +kernel
theorem dX9_rate_70 : decode cX9_rate 70 = .ok (.iload_n 1, 1) := by decide +kernel
theorem dX9_rate_71 : decode cX9_rate 71 = .ok (.iconst 3, 1) := by decide +kernel
theorem dX9_rate_72 : decode cX9_rate 72 = .ok (.if_icmp .ne 9, 3) := by decide +kernel
theorem dX9_rate_75 : decode cX9_rate 75 = .ok (.ldc2_w 204, 3) := by decide +kernel
theorem dX9_rate_78 : decode cX9_rate 78 = .ok (.goto 17, 3) := by decide +kernel
theorem dX9_rate_81 : decode cX9_rate 81 = .ok (.iload_n 1, 1) := by decide +kernel
theorem dX9_rate_82 : decode cX9_rate 82 = .ok (.iconst 4, 1) := by decide +kernel
theorem dX9_rate_83 : decode cX9_rate 83 = .ok (.if_icmp .ne 9, 3) := by decide +kernel
theorem dX9_rate_86 : decode cX9_rate 86 = .ok (.ldc2_w 206, 3) := by decide +kernel
theorem dX9_rate_89 : decode cX9_rate 89 = .ok (.goto 6, 3) := by decide +kernel
theorem dX9_rate_92 : decode cX9_rate 92 = .ok (.ldc2_w 208, 3) := by decide +kernel
theorem dX9_rate_95 : decode cX9_rate 95 = .ok (.ladd, 1) := by decide +kernel
theorem dX9_rate_96 : decode cX9_rate 96 = .ok (.putfield 196, 3) := by decide +kernel
theorem dX9_rate_99 : decode cX9_rate 99 = .ok (.iload_n 1, 1) := by decide +kernel
theorem dX9_rate_100 : decode cX9_rate 100 = .ok (.ifCond .ne 7, 3) := by decide +kernel
theorem dX9_rate_103 : decode cX9_rate 103 = .ok (.iload_n 3, 1) := by decide +kernel
theorem dX9_rate_104 : decode cX9_rate 104 = .ok (.goto 78, 3) := by decide +kernel
theorem dX9_rate_107 : decode cX9_rate 107 = .ok (.iload_n 1, 1) := by decide +kernel
theorem dX9_rate_108 : decode cX9_rate 108 = .ok (.iconst 1, 1) := by decide +kernel
theorem dX9_rate_109 : decode cX9_rate 109 = .ok (.if_icmp .ne 14, 3) := by decide +kernel
theorem dX9_rate_112 : decode cX9_rate 112 = .ok (.iload_n 3, 1) := by decide +kernel
theorem dX9_rate_113 : decode cX9_rate 113 = .ok (.aload_n 0, 1) := by decide +kernel
theorem dX9_rate_114 : decode cX9_rate 114 = .ok (.getfield 16, 3) := by decide +kernel
theorem dX9_rate_117 : decode cX9_rate 117 = .ok (.iload_n 2, 1) := by decide +kernel
theorem dX9_rate_118 : decode cX9_rate 118 = .ok (.iaload, 1) := by decide +kernel
theorem dX9_rate_119 : decode cX9_rate 119 = .ok (.iadd, 1) := by decide +kernel
theorem dX9_rate_120 : decode cX9_rate 120 = .ok (.goto 62, 3) := by decide +kernel
theorem dX9_rate_123 : decode cX9_rate 123 = .ok (.iload_n 1, 1) := by decide +kernel
theorem dX9_rate_124 : decode cX9_rate 124 = .ok (.iconst 2, 1) := by decide +kernel
theorem dX9_rate_125 : decode cX9_rate 125 = .ok (.if_icmp .ne 13, 3) := by decide +kernel
theorem dX9_rate_128 : decode cX9_rate 128 = .ok (.iload_n 3, 1) := by decide +kernel
theorem dX9_rate_129 : decode cX9_rate 129 = .ok (.aload_n 0, 1) := by decide +kernel
theorem dX9_rate_130 : decode cX9_rate 130 = .ok (.iload_n 2, 1) := by decide +kernel
theorem dX9_rate_131 : decode cX9_rate 131 = .ok (.invokevirtual 175, 3) := by decide +kernel
theorem dX9_rate_134 : decode cX9_rate 134 = .ok (.isub, 1) := by decide +kernel
theorem dX9_rate_135 : decode cX9_rate 135 = .ok (.goto 47, 3) := by decide +kernel
theorem dX9_rate_138 : decode cX9_rate 138 = .ok (.iload_n 1, 1) := by decide +kernel
theorem dX9_rate_139 : decode cX9_rate 139 = .ok (.iconst 3, 1) := by decide +kernel
theorem dX9_rate_140 : decode cX9_rate 140 = .ok (.if_icmp .ne 16, 3) := by decide +kernel
theorem dX9_rate_143 : decode cX9_rate 143 = .ok (.iconst 2, 1) := by decide +kernel
theorem dX9_rate_144 : decode cX9_rate 144 = .ok (.iload_n 3, 1) := by decide +kernel
theorem dX9_rate_145 : decode cX9_rate 145 = .ok (.aload_n 0, 1) := by decide +kernel
theorem dX9_rate_146 : decode cX9_rate 146 = .ok (.getfield 16, 3) := by decide +kernel
theorem dX9_rate_149 : decode cX9_rate 149 = .ok (.iload_n 2, 1) := by decide +kernel
theorem dX9_rate_150 : decode cX9_rate 150 = .ok (.iaload, 1) := by decide +kernel
theorem dX9_rate_151 : decode cX9_rate 151 = .ok (.iadd, 1) := by decide +kernel
theorem dX9_rate_152 : decode cX9_rate 152 = .ok (.imul, 1) := by decide +kernel
theorem dX9_rate_153 : decode cX9_rate 153 = .ok (.goto 29, 3) := by decide +kernel
theorem dX9_rate_156 : decode cX9_rate 156 = .ok (.iload_n 1, 1) := by decide +kernel
theorem dX9_rate_157 : decode cX9_rate 157 = .ok (.iconst 4, 1) := by decide +kernel
theorem dX9_rate_158 : decode cX9_rate 158 = .ok (.if_icmp .ne 15, 3) := by decide +kernel
theorem dX9_rate_161 : decode cX9_rate 161 = .ok (.iload_n 3, 1) := by decide +kernel
theorem dX9_rate_162 : decode cX9_rate 162 = .ok (.aload_n 0, 1) := by decide +kernel
theorem dX9_rate_163 : decode cX9_rate 163 = .ok (.iload_n 2, 1) := by decide +kernel
theorem dX9_rate_164 : decode cX9_rate 164 = .ok (.invokevirtual 175, 3) := by decide +kernel
theorem dX9_rate_167 : decode cX9_rate 167 = .ok (.isub, 1) := by decide +kernel
theorem dX9_rate_168 : decode cX9_rate 168 = .ok (.iload_n 2, 1) := by decide +kernel
theorem dX9_rate_169 : decode cX9_rate 169 = .ok (.iadd, 1) := by decide +kernel
theorem dX9_rate_170 : decode cX9_rate 170 = .ok (.goto 12, 3) := by decide +kernel
theorem dX9_rate_173 : decode cX9_rate 173 = .ok (.iload_n 3, 1) := by decide +kernel
theorem dX9_rate_174 : decode cX9_rate 174 = .ok (.aload_n 0, 1) := by decide +kernel
theorem dX9_rate_175 : decode cX9_rate 175 = .ok (.getfield 28, 3) := by decide +kernel
theorem dX9_rate_178 : decode cX9_rate 178 = .ok (.bipush 15, 2) := by decide +kernel
theorem dX9_rate_180 : decode cX9_rate 180 = .ok (.iaload, 1) := by decide +kernel
theorem dX9_rate_181 : decode cX9_rate 181 = .ok (.iadd, 1) := by decide +kernel
theorem dX9_rate_182 : decode cX9_rate 182 = .ok (.ireturn, 1) := by decide +kernel
theorem dX9_keep_0 : decode cX9_keep 0 = .ok (.aload_n 0, 1) := by decide +kernel
theorem dX9_keep_1 : decode cX9_keep 1 = .ok (.iconst 0, 1) := by decide +kernel
theorem dX9_keep_2 : decode cX9_keep 2 = .ok (.putfield 56, 3) := by decide +kernel
theorem dX9_keep_5 : decode cX9_keep 5 = .ok (.iload_n 1, 1) := by decide +kernel
theorem dX9_keep_6 : decode cX9_keep 6 = .ok (.iconst 0, 1) := by decide +kernel
theorem dX9_keep_7 : decode cX9_keep 7 = .ok (.iconst 1, 1) := by decide +kernel
theorem dX9_keep_8 : decode cX9_keep 8 = .ok (.invokestatic 60, 3) := by decide +kernel
theorem dX9_keep_11 : decode cX9_keep 11 = .ok (.ifCond .ne 5, 3) := by decide +kernel
theorem dX9_keep_14 : decode cX9_keep 14 = .ok (.iconst (-1), 1) := by decide +kernel
theorem dX9_keep_15 : decode cX9_keep 15 = .ok (.ireturn, 1) := by decide +kernel
theorem dX9_keep_16 : decode cX9_keep 16 = .ok (.iconst 0, 1) := by decide +kernel
theorem dX9_keep_17 : decode cX9_keep 17 = .ok (.istore_n 2, 1) := by decide +kernel
theorem dX9_keep_18 : decode cX9_keep 18 = .ok (.iload_n 2, 1) := by decide +kernel
theorem dX9_keep_19 : decode cX9_keep 19 = .ok (.bipush 16, 2) := by decide +kernel
theorem dX9_keep_21 : decode cX9_keep 21 = .ok (.if_icmp .ge 26, 3) := by decide +kernel
theorem dX9_keep_24 : decode cX9_keep 24 = .ok (.aload_n 0, 1) := by decide +kernel
theorem dX9_keep_25 : decode cX9_keep 25 = .ok (.getfield 34, 3) := by decide +kernel
theorem dX9_keep_28 : decode cX9_keep 28 = .ok (.bipush 16, 2) := by decide +kernel
theorem dX9_keep_30 : decode cX9_keep 30 = .ok (.iload_n 1, 1) := by decide +kernel
theorem dX9_keep_31 : decode cX9_keep 31 = .ok (.imul, 1) := by decide +kernel
theorem dX9_keep_32 : decode cX9_keep 32 = .ok (.iload_n 2, 1) := by decide +kernel
theorem dX9_keep_33 : decode cX9_keep 33 = .ok (.iadd, 1) := by decide +kernel
theorem dX9_keep_34 : decode cX9_keep 34 = .ok (.aload_n 0, 1) := by decide +kernel
theorem dX9_keep_35 : decode cX9_keep 35 = .ok (.getfield 28, 3) := by decide +kernel
theorem dX9_keep_38 : decode cX9_keep 38 = .ok (.iload_n 2, 1) := by decide +kernel
theorem dX9_keep_39 : decode cX9_keep 39 = .ok (.iaload, 1) := by decide +kernel
theorem dX9_keep_40 : decode cX9_keep 40 = .ok (.iastore, 1) := by decide +kernel
theorem dX9_keep_41 : decode cX9_keep 41 = .ok (.iinc 2 1, 3) := by decide +kernel
theorem dX9_keep_44 : decode cX9_keep 44 = .ok (.goto (-26), 3) := by decide +kernel
theorem dX9_keep_47 : decode cX9_keep 47 = .ok (.aload_n 0, 1) := by decide +kernel
theorem dX9_keep_48 : decode cX9_keep 48 = .ok (.getfield 37, 3) := by decide +kernel
theorem dX9_keep_51 : decode cX9_keep 51 = .ok (.iload_n 1, 1) := by decide +kernel
theorem dX9_keep_52 : decode cX9_keep 52 = .ok (.iconst 1, 1) := by decide +kernel
theorem dX9_keep_53 : decode cX9_keep 53 = .ok (.bastore, 1) := by decide +kernel
theorem dX9_keep_54 : decode cX9_keep 54 = .ok (.aload_n 0, 1) := by decide +kernel
theorem dX9_keep_55 : decode cX9_keep 55 = .ok (.getfield 28, 3) := by decide +kernel
theorem dX9_keep_58 : decode cX9_keep 58 = .ok (.bipush 15, 2) := by decide +kernel
theorem dX9_keep_60 : decode cX9_keep 60 = .ok (.iaload, 1) := by decide +kernel
theorem dX9_keep_61 : decode cX9_keep 61 = .ok (.ireturn, 1) := by decide +kernel
theorem dX9_back_0 : decode cX9_back 0 = .ok (.aload_n 0, 1) := by decide +kernel
theorem dX9_back_1 : decode cX9_back 1 = .ok (.iconst 0, 1) := by decide +kernel
theorem dX9_back_2 : decode cX9_back 2 = .ok (.putfield 56, 3) := by decide +kernel
theorem dX9_back_5 : decode cX9_back 5 = .ok (.iload_n 1, 1) := by decide +kernel
theorem dX9_back_6 : decode cX9_back 6 = .ok (.iconst 0, 1) := by decide +kernel
theorem dX9_back_7 : decode cX9_back 7 = .ok (.iconst 1, 1) := by decide +kernel
theorem dX9_back_8 : decode cX9_back 8 = .ok (.invokestatic 60, 3) := by decide +kernel
theorem dX9_back_11 : decode cX9_back 11 = .ok (.ifCond .ne 5, 3) := by decide +kernel
theorem dX9_back_14 : decode cX9_back 14 = .ok (.iconst (-1), 1) := by decide +kernel
theorem dX9_back_15 : decode cX9_back 15 = .ok (.ireturn, 1) := by decide +kernel
theorem dX9_back_16 : decode cX9_back 16 = .ok (.aload_n 0, 1) := by decide +kernel
theorem dX9_back_17 : decode cX9_back 17 = .ok (.getfield 37, 3) := by decide +kernel
theorem dX9_back_20 : decode cX9_back 20 = .ok (.iload_n 1, 1) := by decide +kernel
theorem dX9_back_21 : decode cX9_back 21 = .ok (.baload, 1) := by decide +kernel
theorem dX9_back_22 : decode cX9_back 22 = .ok (.ifCond .ne 6, 3) := by decide +kernel
theorem dX9_back_25 : decode cX9_back 25 = .ok (.bipush (-2), 2) := by decide +kernel
theorem dX9_back_27 : decode cX9_back 27 = .ok (.ireturn, 1) := by decide +kernel
theorem dX9_back_28 : decode cX9_back 28 = .ok (.iconst 0, 1) := by decide +kernel
theorem dX9_back_29 : decode cX9_back 29 = .ok (.istore_n 2, 1) := by decide +kernel
theorem dX9_back_30 : decode cX9_back 30 = .ok (.iload_n 2, 1) := by decide +kernel
theorem dX9_back_31 : decode cX9_back 31 = .ok (.bipush 16, 2) := by decide +kernel
theorem dX9_back_33 : decode cX9_back 33 = .ok (.if_icmp .ge 26, 3) := by decide +kernel
theorem dX9_back_36 : decode cX9_back 36 = .ok (.aload_n 0, 1) := by decide +kernel
theorem dX9_back_37 : decode cX9_back 37 = .ok (.getfield 28, 3) := by decide +kernel
theorem dX9_back_40 : decode cX9_back 40 = .ok (.iload_n 2, 1) := by decide +kernel
theorem dX9_back_41 : decode cX9_back 41 = .ok (.aload_n 0, 1) := by decide +kernel
theorem dX9_back_42 : decode cX9_back 42 = .ok (.getfield 34, 3) := by decide +kernel
theorem dX9_back_45 : decode cX9_back 45 = .ok (.bipush 16, 2) := by decide +kernel
theorem dX9_back_47 : decode cX9_back 47 = .ok (.iload_n 1, 1) := by decide +kernel
theorem dX9_back_48 : decode cX9_back 48 = .ok (.imul, 1) := by decide +kernel
theorem dX9_back_49 : decode cX9_back 49 = .ok (.iload_n 2, 1) := by decide +kernel
theorem dX9_back_50 : decode cX9_back 50 = .ok (.iadd, 1) := by decide +kernel
theorem dX9_back_51 : decode cX9_back 51 = .ok (.iaload, 1) := by decide +kernel
theorem dX9_back_52 : decode cX9_back 52 = .ok (.iastore, 1) := by decide +kernel
theorem dX9_back_53 : decode cX9_back 53 = .ok (.iinc 2 1, 3) := by decide +kernel
theorem dX9_back_56 : decode cX9_back 56 = .ok (.goto (-26), 3) := by decide +kernel
theorem dX9_back_59 : decode cX9_back 59 = .ok (.aload_n 0, 1) := by decide +kernel
theorem dX9_back_60 : decode cX9_back 60 = .ok (.iconst 0, 1) := by decide +kernel
theorem dX9_back_61 : decode cX9_back 61 = .ok (.putfield 121, 3) := by decide +kernel
theorem dX9_back_64 : decode cX9_back 64 = .ok (.aload_n 0, 1) := by decide +kernel
theorem dX9_back_65 : decode cX9_back 65 = .ok (.getfield 28, 3) := by decide +kernel
theorem dX9_back_68 : decode cX9_back 68 = .ok (.bipush 15, 2) := by decide +kernel
theorem dX9_back_70 : decode cX9_back 70 = .ok (.iaload, 1) := by decide +kernel
theorem dX9_back_71 : decode cX9_back 71 = .ok (.ireturn, 1) := by decide +kernel
theorem dX9_count_0 : decode cX9_count 0 = .ok (.aload_n 0, 1) := by decide +kernel
theorem dX9_count_1 : decode cX9_count 1 = .ok (.iconst 0, 1) := by decide +kernel
theorem dX9_count_2 : decode cX9_count 2 = .ok (.putfield 56, 3) := by decide +kernel
theorem dX9_count_5 : decode cX9_count 5 = .ok (.iload_n 1, 1) := by decide +kernel
theorem dX9_count_6 : decode cX9_count 6 = .ok (.iconst 0, 1) := by decide +kernel
theorem dX9_count_7 : decode cX9_count 7 = .ok (.iconst 4, 1) := by decide +kernel
theorem dX9_count_8 : decode cX9_count 8 = .ok (.invokestatic 60, 3) := by decide +kernel
theorem dX9_count_11 : decode cX9_count 11 = .ok (.ifCond .eq 12, 3) := by decide +kernel
theorem dX9_count_14 : decode cX9_count 14 = .ok (.aload_n 0, 1) := by decide +kernel
theorem dX9_count_15 : decode cX9_count 15 = .ok (.getfield 13, 3) := by decide +kernel
theorem dX9_count_18 : decode cX9_count 18 = .ok (.iload_n 1, 1) := by decide +kernel
theorem dX9_count_19 : decode cX9_count 19 = .ok (.iaload, 1) := by decide +kernel
theorem dX9_count_20 : decode cX9_count 20 = .ok (.goto 29, 3) := by decide +kernel
theorem dX9_count_23 : decode cX9_count 23 = .ok (.iload_n 1, 1) := by decide +kernel
theorem dX9_count_24 : decode cX9_count 24 = .ok (.iconst 5, 1) := by decide +kernel
theorem dX9_count_25 : decode cX9_count 25 = .ok (.if_icmp .ne 10, 3) := by decide +kernel
theorem dX9_count_28 : decode cX9_count 28 = .ok (.aload_n 0, 1) := by decide +kernel
theorem dX9_count_29 : decode cX9_count 29 = .ok (.getfield 118, 3) := by decide +kernel
theorem dX9_count_32 : decode cX9_count 32 = .ok (.goto 17, 3) := by decide +kernel
theorem dX9_count_35 : decode cX9_count 35 = .ok (.iload_n 1, 1) := by decide +kernel
theorem dX9_count_36 : decode cX9_count 36 = .ok (.bipush 6, 2) := by decide +kernel
theorem dX9_count_38 : decode cX9_count 38 = .ok (.if_icmp .ne 10, 3) := by decide +kernel
theorem dX9_count_41 : decode cX9_count 41 = .ok (.aload_n 0, 1) := by decide +kernel
theorem dX9_count_42 : decode cX9_count 42 = .ok (.getfield 64, 3) := by decide +kernel
theorem dX9_count_45 : decode cX9_count 45 = .ok (.goto 4, 3) := by decide +kernel
theorem dX9_count_48 : decode cX9_count 48 = .ok (.iconst (-1), 1) := by decide +kernel
theorem dX9_count_49 : decode cX9_count 49 = .ok (.ireturn, 1) := by decide +kernel
theorem dX9_trace_0 : decode cX9_trace 0 = .ok (.aload_n 0, 1) := by decide +kernel
theorem dX9_trace_1 : decode cX9_trace 1 = .ok (.iconst 0, 1) := by decide +kernel
theorem dX9_trace_2 : decode cX9_trace 2 = .ok (.putfield 56, 3) := by decide +kernel
theorem dX9_trace_5 : decode cX9_trace 5 = .ok (.aload_n 0, 1) := by decide +kernel
theorem dX9_trace_6 : decode cX9_trace 6 = .ok (.getfield 196, 3) := by decide +kernel
theorem dX9_trace_9 : decode cX9_trace 9 = .ok (.lreturn, 1) := by decide +kernel
theorem dJ6_bitCount_0f7a4_0 : decode cJ6_bitCount_0f7a4 0 = .ok (.iload_n 0, 1) := by decide +kernel
theorem dJ6_bitCount_0f7a4_1 : decode cJ6_bitCount_0f7a4 1 = .ok (.iload_n 0, 1) := by decide +kernel
theorem dJ6_bitCount_0f7a4_2 : decode cJ6_bitCount_0f7a4 2 = .ok (.iconst 1, 1) := by decide +kernel
theorem dJ6_bitCount_0f7a4_3 : decode cJ6_bitCount_0f7a4 3 = .ok (.iushr, 1) := by decide +kernel
theorem dJ6_bitCount_0f7a4_4 : decode cJ6_bitCount_0f7a4 4 = .ok (.ldc_w 265, 3) := by decide +kernel
theorem dJ6_bitCount_0f7a4_7 : decode cJ6_bitCount_0f7a4 7 = .ok (.iand, 1) := by decide +kernel
theorem dJ6_bitCount_0f7a4_8 : decode cJ6_bitCount_0f7a4 8 = .ok (.isub, 1) := by decide +kernel
theorem dJ6_bitCount_0f7a4_9 : decode cJ6_bitCount_0f7a4 9 = .ok (.istore_n 0, 1) := by decide +kernel
theorem dJ6_bitCount_0f7a4_10 : decode cJ6_bitCount_0f7a4 10 = .ok (.iload_n 0, 1) := by decide +kernel
theorem dJ6_bitCount_0f7a4_11 : decode cJ6_bitCount_0f7a4 11 = .ok (.ldc_w 266, 3) := by decide +kernel
theorem dJ6_bitCount_0f7a4_14 : decode cJ6_bitCount_0f7a4 14 = .ok (.iand, 1) := by decide +kernel
theorem dJ6_bitCount_0f7a4_15 : decode cJ6_bitCount_0f7a4 15 = .ok (.iload_n 0, 1) := by decide +kernel
theorem dJ6_bitCount_0f7a4_16 : decode cJ6_bitCount_0f7a4 16 = .ok (.iconst 2, 1) := by decide +kernel
theorem dJ6_bitCount_0f7a4_17 : decode cJ6_bitCount_0f7a4 17 = .ok (.iushr, 1) := by decide +kernel
theorem dJ6_bitCount_0f7a4_18 : decode cJ6_bitCount_0f7a4 18 = .ok (.ldc_w 266, 3) := by decide +kernel
theorem dJ6_bitCount_0f7a4_21 : decode cJ6_bitCount_0f7a4 21 = .ok (.iand, 1) := by decide +kernel
theorem dJ6_bitCount_0f7a4_22 : decode cJ6_bitCount_0f7a4 22 = .ok (.iadd, 1) := by decide +kernel
theorem dJ6_bitCount_0f7a4_23 : decode cJ6_bitCount_0f7a4 23 = .ok (.istore_n 0, 1) := by decide +kernel
theorem dJ6_bitCount_0f7a4_24 : decode cJ6_bitCount_0f7a4 24 = .ok (.iload_n 0, 1) := by decide +kernel
theorem dJ6_bitCount_0f7a4_25 : decode cJ6_bitCount_0f7a4 25 = .ok (.iload_n 0, 1) := by decide +kernel
theorem dJ6_bitCount_0f7a4_26 : decode cJ6_bitCount_0f7a4 26 = .ok (.iconst 4, 1) := by decide +kernel
theorem dJ6_bitCount_0f7a4_27 : decode cJ6_bitCount_0f7a4 27 = .ok (.iushr, 1) := by decide +kernel
theorem dJ6_bitCount_0f7a4_28 : decode cJ6_bitCount_0f7a4 28 = .ok (.iadd, 1) := by decide +kernel
theorem dJ6_bitCount_0f7a4_29 : decode cJ6_bitCount_0f7a4 29 = .ok (.ldc_w 267, 3) := by decide +kernel
theorem dJ6_bitCount_0f7a4_32 : decode cJ6_bitCount_0f7a4 32 = .ok (.iand, 1) := by decide +kernel
theorem dJ6_bitCount_0f7a4_33 : decode cJ6_bitCount_0f7a4 33 = .ok (.istore_n 0, 1) := by decide +kernel
theorem dJ6_bitCount_0f7a4_34 : decode cJ6_bitCount_0f7a4 34 = .ok (.iload_n 0, 1) := by decide +kernel
theorem dJ6_bitCount_0f7a4_35 : decode cJ6_bitCount_0f7a4 35 = .ok (.iload_n 0, 1) := by decide +kernel
theorem dJ6_bitCount_0f7a4_36 : decode cJ6_bitCount_0f7a4 36 = .ok (.bipush 8, 2) := by decide +kernel
theorem dJ6_bitCount_0f7a4_38 : decode cJ6_bitCount_0f7a4 38 = .ok (.iushr, 1) := by decide +kernel
theorem dJ6_bitCount_0f7a4_39 : decode cJ6_bitCount_0f7a4 39 = .ok (.iadd, 1) := by decide +kernel
theorem dJ6_bitCount_0f7a4_40 : decode cJ6_bitCount_0f7a4 40 = .ok (.istore_n 0, 1) := by decide +kernel
theorem dJ6_bitCount_0f7a4_41 : decode cJ6_bitCount_0f7a4 41 = .ok (.iload_n 0, 1) := by decide +kernel
theorem dJ6_bitCount_0f7a4_42 : decode cJ6_bitCount_0f7a4 42 = .ok (.iload_n 0, 1) := by decide +kernel
theorem dJ6_bitCount_0f7a4_43 : decode cJ6_bitCount_0f7a4 43 = .ok (.bipush 16, 2) := by decide +kernel
theorem dJ6_bitCount_0f7a4_45 : decode cJ6_bitCount_0f7a4 45 = .ok (.iushr, 1) := by decide +kernel
theorem dJ6_bitCount_0f7a4_46 : decode cJ6_bitCount_0f7a4 46 = .ok (.iadd, 1) := by decide +kernel
theorem dJ6_bitCount_0f7a4_47 : decode cJ6_bitCount_0f7a4 47 = .ok (.istore_n 0, 1) := by decide +kernel
theorem dJ6_bitCount_0f7a4_48 : decode cJ6_bitCount_0f7a4 48 = .ok (.iload_n 0, 1) := by decide +kernel
theorem dJ6_bitCount_0f7a4_49 : decode cJ6_bitCount_0f7a4 49 = .ok (.bipush 63, 2) := by decide +kernel
theorem dJ6_bitCount_0f7a4_51 : decode cJ6_bitCount_0f7a4 51 = .ok (.iand, 1) := by decide +kernel
theorem dJ6_bitCount_0f7a4_52 : decode cJ6_bitCount_0f7a4 52 = .ok (.ireturn, 1) := by decide +kernel
theorem dJ9_max_7cf53_0 : decode cJ9_max_7cf53 0 = .ok (.iload_n 0, 1) := by decide +kernel
theorem dJ9_max_7cf53_1 : decode cJ9_max_7cf53 1 = .ok (.iload_n 1, 1) := by decide +kernel
theorem dJ9_max_7cf53_2 : decode cJ9_max_7cf53 2 = .ok (.if_icmp .lt 7, 3) := by decide +kernel
theorem dJ9_max_7cf53_5 : decode cJ9_max_7cf53 5 = .ok (.iload_n 0, 1) := by decide +kernel
theorem dJ9_max_7cf53_6 : decode cJ9_max_7cf53 6 = .ok (.goto 4, 3) := by decide +kernel
theorem dJ9_max_7cf53_9 : decode cJ9_max_7cf53 9 = .ok (.iload_n 1, 1) := by decide +kernel
theorem dJ9_max_7cf53_10 : decode cJ9_max_7cf53 10 = .ok (.ireturn, 1) := by decide +kernel
theorem dJ9_min_7cf53_0 : decode cJ9_min_7cf53 0 = .ok (.iload_n 0, 1) := by decide +kernel
theorem dJ9_min_7cf53_1 : decode cJ9_min_7cf53 1 = .ok (.iload_n 1, 1) := by decide +kernel
theorem dJ9_min_7cf53_2 : decode cJ9_min_7cf53 2 = .ok (.if_icmp .gt 7, 3) := by decide +kernel
theorem dJ9_min_7cf53_5 : decode cJ9_min_7cf53 5 = .ok (.iload_n 0, 1) := by decide +kernel
theorem dJ9_min_7cf53_6 : decode cJ9_min_7cf53 6 = .ok (.goto 4, 3) := by decide +kernel
theorem dJ9_min_7cf53_9 : decode cJ9_min_7cf53 9 = .ok (.iload_n 1, 1) := by decide +kernel
theorem dJ9_min_7cf53_10 : decode cJ9_min_7cf53 10 = .ok (.ireturn, 1) := by decide +kernel
theorem dJ7_fill_53178_0 : decode cJ7_fill_53178 0 = .ok (.iconst 0, 1) := by decide +kernel
theorem dJ7_fill_53178_1 : decode cJ7_fill_53178 1 = .ok (.istore_n 2, 1) := by decide +kernel
theorem dJ7_fill_53178_2 : decode cJ7_fill_53178 2 = .ok (.aload_n 0, 1) := by decide +kernel
theorem dJ7_fill_53178_3 : decode cJ7_fill_53178 3 = .ok (.arraylength, 1) := by decide +kernel
theorem dJ7_fill_53178_4 : decode cJ7_fill_53178 4 = .ok (.istore_n 3, 1) := by decide +kernel
theorem dJ7_fill_53178_5 : decode cJ7_fill_53178 5 = .ok (.iload_n 2, 1) := by decide +kernel
theorem dJ7_fill_53178_6 : decode cJ7_fill_53178 6 = .ok (.iload_n 3, 1) := by decide +kernel
theorem dJ7_fill_53178_7 : decode cJ7_fill_53178 7 = .ok (.if_icmp .ge 13, 3) := by decide +kernel
theorem dJ7_fill_53178_10 : decode cJ7_fill_53178 10 = .ok (.aload_n 0, 1) := by decide +kernel
theorem dJ7_fill_53178_11 : decode cJ7_fill_53178 11 = .ok (.iload_n 2, 1) := by decide +kernel
theorem dJ7_fill_53178_12 : decode cJ7_fill_53178 12 = .ok (.iload_n 1, 1) := by decide +kernel
theorem dJ7_fill_53178_13 : decode cJ7_fill_53178 13 = .ok (.iastore, 1) := by decide +kernel
theorem dJ7_fill_53178_14 : decode cJ7_fill_53178 14 = .ok (.iinc 2 1, 3) := by decide +kernel
theorem dJ7_fill_53178_17 : decode cJ7_fill_53178 17 = .ok (.goto (-12), 3) := by decide +kernel
theorem dJ7_fill_53178_20 : decode cJ7_fill_53178 20 = .ok (.return_, 1) := by decide +kernel
theorem dL_law_0 : decode cL_law 0 = .ok (.new 7, 3) := by decide +kernel
theorem dL_law_3 : decode cL_law 3 = .ok (.dup, 1) := by decide +kernel
theorem dL_law_4 : decode cL_law 4 = .ok (.invokespecial 9, 3) := by decide +kernel
theorem dL_law_7 : decode cL_law 7 = .ok (.astore_n 1, 1) := by decide +kernel
theorem dL_law_8 : decode cL_law 8 = .ok (.new 10, 3) := by decide +kernel
theorem dL_law_11 : decode cL_law 11 = .ok (.dup, 1) := by decide +kernel
theorem dL_law_12 : decode cL_law 12 = .ok (.invokespecial 12, 3) := by decide +kernel
theorem dL_law_15 : decode cL_law 15 = .ok (.astore_n 2, 1) := by decide +kernel
theorem dL_law_16 : decode cL_law 16 = .ok (.iconst 0, 1) := by decide +kernel
theorem dL_law_17 : decode cL_law 17 = .ok (.istore_n 3, 1) := by decide +kernel
theorem dL_law_18 : decode cL_law 18 = .ok (.iload_n 3, 1) := by decide +kernel
theorem dL_law_19 : decode cL_law 19 = .ok (.aload_n 0, 1) := by decide +kernel
theorem dL_law_20 : decode cL_law 20 = .ok (.arraylength, 1) := by decide +kernel
theorem dL_law_21 : decode cL_law 21 = .ok (.iconst 5, 1) := by decide +kernel
theorem dL_law_22 : decode cL_law 22 = .ok (.isub, 1) := by decide +kernel
theorem dL_law_23 : decode cL_law 23 = .ok (.if_icmp .gt 862, 3) := by decide +kernel
theorem dL_law_26 : decode cL_law 26 = .ok (.aload_n 0, 1) := by decide +kernel
theorem dL_law_27 : decode cL_law 27 = .ok (.iload_n 3, 1) := by decide +kernel
theorem dL_law_28 : decode cL_law 28 = .ok (.iaload, 1) := by decide +kernel
theorem dL_law_29 : decode cL_law 29 = .ok (.bipush 31, 2) := by decide +kernel
theorem dL_law_31 : decode cL_law 31 = .ok (.iand, 1) := by decide +kernel
theorem dL_law_32 : decode cL_law 32 = .ok (.tableswitch 847 0 29 #[136, 159, 172, 185, 218, 251, 284, 307, 340, 383, 396, 409, 432, 455, 468, 501, 524, 547, 570, 583, 616, 629, 642, 655, 678, 731, 764, 787, 810, 833], 136) := by decide +kernel
theorem dL_law_168 : decode cL_law 168 = .ok (.aload_n 1, 1) := by decide +kernel
theorem dL_law_169 : decode cL_law 169 = .ok (.aload_n 0, 1) := by decide +kernel
theorem dL_law_170 : decode cL_law 170 = .ok (.iload_n 3, 1) := by decide +kernel
theorem dL_law_171 : decode cL_law 171 = .ok (.iconst 1, 1) := by decide +kernel
theorem dL_law_172 : decode cL_law 172 = .ok (.iadd, 1) := by decide +kernel
theorem dL_law_173 : decode cL_law 173 = .ok (.iaload, 1) := by decide +kernel
theorem dL_law_174 : decode cL_law 174 = .ok (.invokevirtual 13, 3) := by decide +kernel
theorem dL_law_177 : decode cL_law 177 = .ok (.aload_n 2, 1) := by decide +kernel
theorem dL_law_178 : decode cL_law 178 = .ok (.aload_n 0, 1) := by decide +kernel
theorem dL_law_179 : decode cL_law 179 = .ok (.iload_n 3, 1) := by decide +kernel
theorem dL_law_180 : decode cL_law 180 = .ok (.iconst 1, 1) := by decide +kernel
theorem dL_law_181 : decode cL_law 181 = .ok (.iadd, 1) := by decide +kernel
theorem dL_law_182 : decode cL_law 182 = .ok (.iaload, 1) := by decide +kernel
theorem dL_law_183 : decode cL_law 183 = .ok (.invokevirtual 17, 3) := by decide +kernel
theorem dL_law_186 : decode cL_law 186 = .ok (.if_icmp .eq 693, 3) := by decide +kernel
theorem dL_law_189 : decode cL_law 189 = .ok (.iconst 0, 1) := by decide +kernel
theorem dL_law_190 : decode cL_law 190 = .ok (.ireturn, 1) := by decide +kernel
theorem dL_law_191 : decode cL_law 191 = .ok (.aload_n 1, 1) := by decide +kernel
theorem dL_law_192 : decode cL_law 192 = .ok (.invokevirtual 18, 3) := by decide +kernel
theorem dL_law_195 : decode cL_law 195 = .ok (.aload_n 2, 1) := by decide +kernel
theorem dL_law_196 : decode cL_law 196 = .ok (.invokevirtual 22, 3) := by decide +kernel
theorem dL_law_199 : decode cL_law 199 = .ok (.if_icmp .eq 680, 3) := by decide +kernel
theorem dL_law_202 : decode cL_law 202 = .ok (.iconst 0, 1) := by decide +kernel
theorem dL_law_203 : decode cL_law 203 = .ok (.ireturn, 1) := by decide +kernel
theorem dL_law_204 : decode cL_law 204 = .ok (.aload_n 1, 1) := by decide +kernel
theorem dL_law_205 : decode cL_law 205 = .ok (.invokevirtual 23, 3) := by decide +kernel
theorem dL_law_208 : decode cL_law 208 = .ok (.aload_n 2, 1) := by decide +kernel
theorem dL_law_209 : decode cL_law 209 = .ok (.invokevirtual 26, 3) := by decide +kernel
theorem dL_law_212 : decode cL_law 212 = .ok (.if_icmp .eq 667, 3) := by decide +kernel
theorem dL_law_215 : decode cL_law 215 = .ok (.iconst 0, 1) := by decide +kernel
theorem dL_law_216 : decode cL_law 216 = .ok (.ireturn, 1) := by decide +kernel
theorem dL_law_217 : decode cL_law 217 = .ok (.aload_n 1, 1) := by decide +kernel
theorem dL_law_218 : decode cL_law 218 = .ok (.aload_n 0, 1) := by decide +kernel
theorem dL_law_219 : decode cL_law 219 = .ok (.iload_n 3, 1) := by decide +kernel
theorem dL_law_220 : decode cL_law 220 = .ok (.iconst 1, 1) := by decide +kernel
theorem dL_law_221 : decode cL_law 221 = .ok (.iadd, 1) := by decide +kernel
theorem dL_law_222 : decode cL_law 222 = .ok (.iaload, 1) := by decide +kernel
theorem dL_law_223 : decode cL_law 223 = .ok (.aload_n 0, 1) := by decide +kernel
theorem dL_law_224 : decode cL_law 224 = .ok (.iload_n 3, 1) := by decide +kernel
theorem dL_law_225 : decode cL_law 225 = .ok (.iconst 2, 1) := by decide +kernel
theorem dL_law_226 : decode cL_law 226 = .ok (.iadd, 1) := by decide +kernel
theorem dL_law_227 : decode cL_law 227 = .ok (.iaload, 1) := by decide +kernel
theorem dL_law_228 : decode cL_law 228 = .ok (.invokevirtual 27, 3) := by decide +kernel
theorem dL_law_231 : decode cL_law 231 = .ok (.aload_n 2, 1) := by decide +kernel
theorem dL_law_232 : decode cL_law 232 = .ok (.aload_n 0, 1) := by decide +kernel
theorem dL_law_233 : decode cL_law 233 = .ok (.iload_n 3, 1) := by decide +kernel
theorem dL_law_234 : decode cL_law 234 = .ok (.iconst 1, 1) := by decide +kernel
theorem dL_law_235 : decode cL_law 235 = .ok (.iadd, 1) := by decide +kernel
theorem dL_law_236 : decode cL_law 236 = .ok (.iaload, 1) := by decide +kernel
theorem dL_law_237 : decode cL_law 237 = .ok (.aload_n 0, 1) := by decide +kernel
theorem dL_law_238 : decode cL_law 238 = .ok (.iload_n 3, 1) := by decide +kernel
theorem dL_law_239 : decode cL_law 239 = .ok (.iconst 2, 1) := by decide +kernel
theorem dL_law_240 : decode cL_law 240 = .ok (.iadd, 1) := by decide +kernel
theorem dL_law_241 : decode cL_law 241 = .ok (.iaload, 1) := by decide +kernel
theorem dL_law_242 : decode cL_law 242 = .ok (.invokevirtual 31, 3) := by decide +kernel
theorem dL_law_245 : decode cL_law 245 = .ok (.if_icmp .eq 634, 3) := by decide +kernel
theorem dL_law_248 : decode cL_law 248 = .ok (.iconst 0, 1) := by decide +kernel
theorem dL_law_249 : decode cL_law 249 = .ok (.ireturn, 1) := by decide +kernel
theorem dL_law_250 : decode cL_law 250 = .ok (.aload_n 1, 1) := by decide +kernel
theorem dL_law_251 : decode cL_law 251 = .ok (.aload_n 0, 1) := by decide +kernel
theorem dL_law_252 : decode cL_law 252 = .ok (.iload_n 3, 1) := by decide +kernel
theorem dL_law_253 : decode cL_law 253 = .ok (.iconst 1, 1) := by decide +kernel
theorem dL_law_254 : decode cL_law 254 = .ok (.iadd, 1) := by decide +kernel
theorem dL_law_255 : decode cL_law 255 = .ok (.iaload, 1) := by decide +kernel
theorem dL_law_256 : decode cL_law 256 = .ok (.aload_n 0, 1) := by decide +kernel
theorem dL_law_257 : decode cL_law 257 = .ok (.iload_n 3, 1) := by decide +kernel
theorem dL_law_258 : decode cL_law 258 = .ok (.iconst 2, 1) := by decide +kernel
theorem dL_law_259 : decode cL_law 259 = .ok (.iadd, 1) := by decide +kernel
theorem dL_law_260 : decode cL_law 260 = .ok (.iaload, 1) := by decide +kernel
theorem dL_law_261 : decode cL_law 261 = .ok (.invokevirtual 32, 3) := by decide +kernel
theorem dL_law_264 : decode cL_law 264 = .ok (.aload_n 2, 1) := by decide +kernel
theorem dL_law_265 : decode cL_law 265 = .ok (.aload_n 0, 1) := by decide +kernel
theorem dL_law_266 : decode cL_law 266 = .ok (.iload_n 3, 1) := by decide +kernel
theorem dL_law_267 : decode cL_law 267 = .ok (.iconst 1, 1) := by decide +kernel
theorem dL_law_268 : decode cL_law 268 = .ok (.iadd, 1) := by decide +kernel
theorem dL_law_269 : decode cL_law 269 = .ok (.iaload, 1) := by decide +kernel
theorem dL_law_270 : decode cL_law 270 = .ok (.aload_n 0, 1) := by decide +kernel
theorem dL_law_271 : decode cL_law 271 = .ok (.iload_n 3, 1) := by decide +kernel
theorem dL_law_272 : decode cL_law 272 = .ok (.iconst 2, 1) := by decide +kernel
theorem dL_law_273 : decode cL_law 273 = .ok (.iadd, 1) := by decide +kernel
theorem dL_law_274 : decode cL_law 274 = .ok (.iaload, 1) := by decide +kernel
theorem dL_law_275 : decode cL_law 275 = .ok (.invokevirtual 35, 3) := by decide +kernel
theorem dL_law_278 : decode cL_law 278 = .ok (.if_icmp .eq 601, 3) := by decide +kernel
theorem dL_law_281 : decode cL_law 281 = .ok (.iconst 0, 1) := by decide +kernel
theorem dL_law_282 : decode cL_law 282 = .ok (.ireturn, 1) := by decide +kernel
theorem dL_law_283 : decode cL_law 283 = .ok (.aload_n 1, 1) := by decide +kernel
theorem dL_law_284 : decode cL_law 284 = .ok (.aload_n 0, 1) := by decide +kernel
theorem dL_law_285 : decode cL_law 285 = .ok (.iload_n 3, 1) := by decide +kernel
theorem dL_law_286 : decode cL_law 286 = .ok (.iconst 1, 1) := by decide +kernel
theorem dL_law_287 : decode cL_law 287 = .ok (.iadd, 1) := by decide +kernel
theorem dL_law_288 : decode cL_law 288 = .ok (.iaload, 1) := by decide +kernel
theorem dL_law_289 : decode cL_law 289 = .ok (.aload_n 0, 1) := by decide +kernel
theorem dL_law_290 : decode cL_law 290 = .ok (.iload_n 3, 1) := by decide +kernel
theorem dL_law_291 : decode cL_law 291 = .ok (.iconst 2, 1) := by decide +kernel
theorem dL_law_292 : decode cL_law 292 = .ok (.iadd, 1) := by decide +kernel
theorem dL_law_293 : decode cL_law 293 = .ok (.iaload, 1) := by decide +kernel
theorem dL_law_294 : decode cL_law 294 = .ok (.invokevirtual 36, 3) := by decide +kernel
theorem dL_law_297 : decode cL_law 297 = .ok (.aload_n 2, 1) := by decide +kernel
theorem dL_law_298 : decode cL_law 298 = .ok (.aload_n 0, 1) := by decide +kernel
theorem dL_law_299 : decode cL_law 299 = .ok (.iload_n 3, 1) := by decide +kernel
theorem dL_law_300 : decode cL_law 300 = .ok (.iconst 1, 1) := by decide +kernel
theorem dL_law_301 : decode cL_law 301 = .ok (.iadd, 1) := by decide +kernel
theorem dL_law_302 : decode cL_law 302 = .ok (.iaload, 1) := by decide +kernel
theorem dL_law_303 : decode cL_law 303 = .ok (.aload_n 0, 1) := by decide +kernel
theorem dL_law_304 : decode cL_law 304 = .ok (.iload_n 3, 1) := by decide +kernel
theorem dL_law_305 : decode cL_law 305 = .ok (.iconst 2, 1) := by decide +kernel
theorem dL_law_306 : decode cL_law 306 = .ok (.iadd, 1) := by decide +kernel
theorem dL_law_307 : decode cL_law 307 = .ok (.iaload, 1) := by decide +kernel
theorem dL_law_308 : decode cL_law 308 = .ok (.invokevirtual 39, 3) := by decide +kernel
theorem dL_law_311 : decode cL_law 311 = .ok (.if_icmp .eq 568, 3) := by decide +kernel
theorem dL_law_314 : decode cL_law 314 = .ok (.iconst 0, 1) := by decide +kernel
theorem dL_law_315 : decode cL_law 315 = .ok (.ireturn, 1) := by decide +kernel
theorem dL_law_316 : decode cL_law 316 = .ok (.aload_n 1, 1) := by decide +kernel
theorem dL_law_317 : decode cL_law 317 = .ok (.aload_n 0, 1) := by decide +kernel
theorem dL_law_318 : decode cL_law 318 = .ok (.iload_n 3, 1) := by decide +kernel
theorem dL_law_319 : decode cL_law 319 = .ok (.iconst 1, 1) := by decide +kernel
theorem dL_law_320 : decode cL_law 320 = .ok (.iadd, 1) := by decide +kernel
theorem dL_law_321 : decode cL_law 321 = .ok (.iaload, 1) := by decide +kernel
theorem dL_law_322 : decode cL_law 322 = .ok (.invokevirtual 40, 3) := by decide +kernel
theorem dL_law_325 : decode cL_law 325 = .ok (.aload_n 2, 1) := by decide +kernel
theorem dL_law_326 : decode cL_law 326 = .ok (.aload_n 0, 1) := by decide +kernel
theorem dL_law_327 : decode cL_law 327 = .ok (.iload_n 3, 1) := by decide +kernel
theorem dL_law_328 : decode cL_law 328 = .ok (.iconst 1, 1) := by decide +kernel
theorem dL_law_329 : decode cL_law 329 = .ok (.iadd, 1) := by decide +kernel
theorem dL_law_330 : decode cL_law 330 = .ok (.iaload, 1) := by decide +kernel
theorem dL_law_331 : decode cL_law 331 = .ok (.invokevirtual 43, 3) := by decide +kernel
theorem dL_law_334 : decode cL_law 334 = .ok (.if_icmp .eq 545, 3) := by decide +kernel
theorem dL_law_337 : decode cL_law 337 = .ok (.iconst 0, 1) := by decide +kernel
theorem dL_law_338 : decode cL_law 338 = .ok (.ireturn, 1) := by decide +kernel
theorem dL_law_339 : decode cL_law 339 = .ok (.aload_n 1, 1) := by decide +kernel
theorem dL_law_340 : decode cL_law 340 = .ok (.aload_n 0, 1) := by decide +kernel
theorem dL_law_341 : decode cL_law 341 = .ok (.iload_n 3, 1) := by decide +kernel
theorem dL_law_342 : decode cL_law 342 = .ok (.iconst 1, 1) := by decide +kernel
theorem dL_law_343 : decode cL_law 343 = .ok (.iadd, 1) := by decide +kernel
theorem dL_law_344 : decode cL_law 344 = .ok (.iaload, 1) := by decide +kernel
theorem dL_law_345 : decode cL_law 345 = .ok (.aload_n 0, 1) := by decide +kernel
theorem dL_law_346 : decode cL_law 346 = .ok (.iload_n 3, 1) := by decide +kernel
theorem dL_law_347 : decode cL_law 347 = .ok (.iconst 2, 1) := by decide +kernel
theorem dL_law_348 : decode cL_law 348 = .ok (.iadd, 1) := by decide +kernel
theorem dL_law_349 : decode cL_law 349 = .ok (.iaload, 1) := by decide +kernel
theorem dL_law_350 : decode cL_law 350 = .ok (.invokevirtual 44, 3) := by decide +kernel
theorem dL_law_353 : decode cL_law 353 = .ok (.aload_n 2, 1) := by decide +kernel
theorem dL_law_354 : decode cL_law 354 = .ok (.aload_n 0, 1) := by decide +kernel
theorem dL_law_355 : decode cL_law 355 = .ok (.iload_n 3, 1) := by decide +kernel
theorem dL_law_356 : decode cL_law 356 = .ok (.iconst 1, 1) := by decide +kernel
theorem dL_law_357 : decode cL_law 357 = .ok (.iadd, 1) := by decide +kernel
theorem dL_law_358 : decode cL_law 358 = .ok (.iaload, 1) := by decide +kernel
theorem dL_law_359 : decode cL_law 359 = .ok (.aload_n 0, 1) := by decide +kernel
theorem dL_law_360 : decode cL_law 360 = .ok (.iload_n 3, 1) := by decide +kernel
theorem dL_law_361 : decode cL_law 361 = .ok (.iconst 2, 1) := by decide +kernel
theorem dL_law_362 : decode cL_law 362 = .ok (.iadd, 1) := by decide +kernel
theorem dL_law_363 : decode cL_law 363 = .ok (.iaload, 1) := by decide +kernel
theorem dL_law_364 : decode cL_law 364 = .ok (.invokevirtual 47, 3) := by decide +kernel
theorem dL_law_367 : decode cL_law 367 = .ok (.if_icmp .eq 512, 3) := by decide +kernel
theorem dL_law_370 : decode cL_law 370 = .ok (.iconst 0, 1) := by decide +kernel
theorem dL_law_371 : decode cL_law 371 = .ok (.ireturn, 1) := by decide +kernel
theorem dL_law_372 : decode cL_law 372 = .ok (.aload_n 1, 1) := by decide +kernel
theorem dL_law_373 : decode cL_law 373 = .ok (.aload_n 0, 1) := by decide +kernel
theorem dL_law_374 : decode cL_law 374 = .ok (.iload_n 3, 1) := by decide +kernel
theorem dL_law_375 : decode cL_law 375 = .ok (.iconst 1, 1) := by decide +kernel
theorem dL_law_376 : decode cL_law 376 = .ok (.iadd, 1) := by decide +kernel
theorem dL_law_377 : decode cL_law 377 = .ok (.iaload, 1) := by decide +kernel
theorem dL_law_378 : decode cL_law 378 = .ok (.aload_n 0, 1) := by decide +kernel
theorem dL_law_379 : decode cL_law 379 = .ok (.iload_n 3, 1) := by decide +kernel
theorem dL_law_380 : decode cL_law 380 = .ok (.iconst 2, 1) := by decide +kernel
theorem dL_law_381 : decode cL_law 381 = .ok (.iadd, 1) := by decide +kernel
theorem dL_law_382 : decode cL_law 382 = .ok (.iaload, 1) := by decide +kernel
theorem dL_law_383 : decode cL_law 383 = .ok (.aload_n 0, 1) := by decide +kernel
theorem dL_law_384 : decode cL_law 384 = .ok (.iload_n 3, 1) := by decide +kernel
theorem dL_law_385 : decode cL_law 385 = .ok (.iconst 3, 1) := by decide +kernel
theorem dL_law_386 : decode cL_law 386 = .ok (.iadd, 1) := by decide +kernel
theorem dL_law_387 : decode cL_law 387 = .ok (.iaload, 1) := by decide +kernel
theorem dL_law_388 : decode cL_law 388 = .ok (.invokevirtual 48, 3) := by decide +kernel
theorem dL_law_391 : decode cL_law 391 = .ok (.aload_n 2, 1) := by decide +kernel
theorem dL_law_392 : decode cL_law 392 = .ok (.aload_n 0, 1) := by decide +kernel
theorem dL_law_393 : decode cL_law 393 = .ok (.iload_n 3, 1) := by decide +kernel
theorem dL_law_394 : decode cL_law 394 = .ok (.iconst 1, 1) := by decide +kernel
theorem dL_law_395 : decode cL_law 395 = .ok (.iadd, 1) := by decide +kernel
theorem dL_law_396 : decode cL_law 396 = .ok (.iaload, 1) := by decide +kernel
theorem dL_law_397 : decode cL_law 397 = .ok (.aload_n 0, 1) := by decide +kernel
theorem dL_law_398 : decode cL_law 398 = .ok (.iload_n 3, 1) := by decide +kernel
theorem dL_law_399 : decode cL_law 399 = .ok (.iconst 2, 1) := by decide +kernel
theorem dL_law_400 : decode cL_law 400 = .ok (.iadd, 1) := by decide +kernel
theorem dL_law_401 : decode cL_law 401 = .ok (.iaload, 1) := by decide +kernel
theorem dL_law_402 : decode cL_law 402 = .ok (.aload_n 0, 1) := by decide +kernel
theorem dL_law_403 : decode cL_law 403 = .ok (.iload_n 3, 1) := by decide +kernel
theorem dL_law_404 : decode cL_law 404 = .ok (.iconst 3, 1) := by decide +kernel
theorem dL_law_405 : decode cL_law 405 = .ok (.iadd, 1) := by decide +kernel
theorem dL_law_406 : decode cL_law 406 = .ok (.iaload, 1) := by decide +kernel
theorem dL_law_407 : decode cL_law 407 = .ok (.invokevirtual 52, 3) := by decide +kernel
theorem dL_law_410 : decode cL_law 410 = .ok (.if_icmp .eq 469, 3) := by decide +kernel
theorem dL_law_413 : decode cL_law 413 = .ok (.iconst 0, 1) := by decide +kernel
theorem dL_law_414 : decode cL_law 414 = .ok (.ireturn, 1) := by decide +kernel
theorem dL_law_415 : decode cL_law 415 = .ok (.aload_n 1, 1) := by decide +kernel
theorem dL_law_416 : decode cL_law 416 = .ok (.invokevirtual 53, 3) := by decide +kernel
theorem dL_law_419 : decode cL_law 419 = .ok (.aload_n 2, 1) := by decide +kernel
theorem dL_law_420 : decode cL_law 420 = .ok (.invokevirtual 56, 3) := by decide +kernel
theorem dL_law_423 : decode cL_law 423 = .ok (.if_icmp .eq 456, 3) := by decide +kernel
theorem dL_law_426 : decode cL_law 426 = .ok (.iconst 0, 1) := by decide +kernel
theorem dL_law_427 : decode cL_law 427 = .ok (.ireturn, 1) := by decide +kernel
theorem dL_law_428 : decode cL_law 428 = .ok (.aload_n 1, 1) := by decide +kernel
theorem dL_law_429 : decode cL_law 429 = .ok (.invokevirtual 57, 3) := by decide +kernel
theorem dL_law_432 : decode cL_law 432 = .ok (.aload_n 2, 1) := by decide +kernel
theorem dL_law_433 : decode cL_law 433 = .ok (.invokevirtual 60, 3) := by decide +kernel
theorem dL_law_436 : decode cL_law 436 = .ok (.if_icmp .eq 443, 3) := by decide +kernel
theorem dL_law_439 : decode cL_law 439 = .ok (.iconst 0, 1) := by decide +kernel
theorem dL_law_440 : decode cL_law 440 = .ok (.ireturn, 1) := by decide +kernel
theorem dL_law_441 : decode cL_law 441 = .ok (.aload_n 1, 1) := by decide +kernel
theorem dL_law_442 : decode cL_law 442 = .ok (.aload_n 0, 1) := by decide +kernel
theorem dL_law_443 : decode cL_law 443 = .ok (.iload_n 3, 1) := by decide +kernel
theorem dL_law_444 : decode cL_law 444 = .ok (.iconst 1, 1) := by decide +kernel
theorem dL_law_445 : decode cL_law 445 = .ok (.iadd, 1) := by decide +kernel
theorem dL_law_446 : decode cL_law 446 = .ok (.iaload, 1) := by decide +kernel
theorem dL_law_447 : decode cL_law 447 = .ok (.invokevirtual 61, 3) := by decide +kernel
theorem dL_law_450 : decode cL_law 450 = .ok (.aload_n 2, 1) := by decide +kernel
theorem dL_law_451 : decode cL_law 451 = .ok (.aload_n 0, 1) := by decide +kernel
theorem dL_law_452 : decode cL_law 452 = .ok (.iload_n 3, 1) := by decide +kernel
theorem dL_law_453 : decode cL_law 453 = .ok (.iconst 1, 1) := by decide +kernel
theorem dL_law_454 : decode cL_law 454 = .ok (.iadd, 1) := by decide +kernel
theorem dL_law_455 : decode cL_law 455 = .ok (.iaload, 1) := by decide +kernel
theorem dL_law_456 : decode cL_law 456 = .ok (.invokevirtual 64, 3) := by decide +kernel
theorem dL_law_459 : decode cL_law 459 = .ok (.if_icmp .eq 420, 3) := by decide +kernel
theorem dL_law_462 : decode cL_law 462 = .ok (.iconst 0, 1) := by decide +kernel
theorem dL_law_463 : decode cL_law 463 = .ok (.ireturn, 1) := by decide +kernel
theorem dL_law_464 : decode cL_law 464 = .ok (.aload_n 1, 1) := by decide +kernel
theorem dL_law_465 : decode cL_law 465 = .ok (.aload_n 0, 1) := by decide +kernel
theorem dL_law_466 : decode cL_law 466 = .ok (.iload_n 3, 1) := by decide +kernel
theorem dL_law_467 : decode cL_law 467 = .ok (.iconst 1, 1) := by decide +kernel
theorem dL_law_468 : decode cL_law 468 = .ok (.iadd, 1) := by decide +kernel
theorem dL_law_469 : decode cL_law 469 = .ok (.iaload, 1) := by decide +kernel
theorem dL_law_470 : decode cL_law 470 = .ok (.invokevirtual 65, 3) := by decide +kernel
theorem dL_law_473 : decode cL_law 473 = .ok (.aload_n 2, 1) := by decide +kernel
theorem dL_law_474 : decode cL_law 474 = .ok (.aload_n 0, 1) := by decide +kernel
theorem dL_law_475 : decode cL_law 475 = .ok (.iload_n 3, 1) := by decide +kernel
theorem dL_law_476 : decode cL_law 476 = .ok (.iconst 1, 1) := by decide +kernel
theorem dL_law_477 : decode cL_law 477 = .ok (.iadd, 1) := by decide +kernel
theorem dL_law_478 : decode cL_law 478 = .ok (.iaload, 1) := by decide +kernel
theorem dL_law_479 : decode cL_law 479 = .ok (.invokevirtual 68, 3) := by decide +kernel
theorem dL_law_482 : decode cL_law 482 = .ok (.if_icmp .eq 397, 3) := by decide +kernel
theorem dL_law_485 : decode cL_law 485 = .ok (.iconst 0, 1) := by decide +kernel
theorem dL_law_486 : decode cL_law 486 = .ok (.ireturn, 1) := by decide +kernel
theorem dL_law_487 : decode cL_law 487 = .ok (.aload_n 1, 1) := by decide +kernel
theorem dL_law_488 : decode cL_law 488 = .ok (.invokevirtual 69, 3) := by decide +kernel
theorem dL_law_491 : decode cL_law 491 = .ok (.aload_n 2, 1) := by decide +kernel
theorem dL_law_492 : decode cL_law 492 = .ok (.invokevirtual 72, 3) := by decide +kernel
theorem dL_law_495 : decode cL_law 495 = .ok (.if_icmp .eq 384, 3) := by decide +kernel
theorem dL_law_498 : decode cL_law 498 = .ok (.iconst 0, 1) := by decide +kernel
theorem dL_law_499 : decode cL_law 499 = .ok (.ireturn, 1) := by decide +kernel
theorem dL_law_500 : decode cL_law 500 = .ok (.aload_n 1, 1) := by decide +kernel
theorem dL_law_501 : decode cL_law 501 = .ok (.aload_n 0, 1) := by decide +kernel
theorem dL_law_502 : decode cL_law 502 = .ok (.iload_n 3, 1) := by decide +kernel
theorem dL_law_503 : decode cL_law 503 = .ok (.iconst 1, 1) := by decide +kernel
theorem dL_law_504 : decode cL_law 504 = .ok (.iadd, 1) := by decide +kernel
theorem dL_law_505 : decode cL_law 505 = .ok (.iaload, 1) := by decide +kernel
theorem dL_law_506 : decode cL_law 506 = .ok (.aload_n 0, 1) := by decide +kernel
theorem dL_law_507 : decode cL_law 507 = .ok (.iload_n 3, 1) := by decide +kernel
theorem dL_law_508 : decode cL_law 508 = .ok (.iconst 2, 1) := by decide +kernel
theorem dL_law_509 : decode cL_law 509 = .ok (.iadd, 1) := by decide +kernel
theorem dL_law_510 : decode cL_law 510 = .ok (.iaload, 1) := by decide +kernel
theorem dL_law_511 : decode cL_law 511 = .ok (.invokevirtual 73, 3) := by decide +kernel
theorem dL_law_514 : decode cL_law 514 = .ok (.aload_n 2, 1) := by decide +kernel
theorem dL_law_515 : decode cL_law 515 = .ok (.aload_n 0, 1) := by decide +kernel
theorem dL_law_516 : decode cL_law 516 = .ok (.iload_n 3, 1) := by decide +kernel
theorem dL_law_517 : decode cL_law 517 = .ok (.iconst 1, 1) := by decide +kernel
theorem dL_law_518 : decode cL_law 518 = .ok (.iadd, 1) := by decide +kernel
theorem dL_law_519 : decode cL_law 519 = .ok (.iaload, 1) := by decide +kernel
theorem dL_law_520 : decode cL_law 520 = .ok (.aload_n 0, 1) := by decide +kernel
theorem dL_law_521 : decode cL_law 521 = .ok (.iload_n 3, 1) := by decide +kernel
theorem dL_law_522 : decode cL_law 522 = .ok (.iconst 2, 1) := by decide +kernel
theorem dL_law_523 : decode cL_law 523 = .ok (.iadd, 1) := by decide +kernel
theorem dL_law_524 : decode cL_law 524 = .ok (.iaload, 1) := by decide +kernel
theorem dL_law_525 : decode cL_law 525 = .ok (.invokevirtual 76, 3) := by decide +kernel
theorem dL_law_528 : decode cL_law 528 = .ok (.if_icmp .eq 351, 3) := by decide +kernel
theorem dL_law_531 : decode cL_law 531 = .ok (.iconst 0, 1) := by decide +kernel
theorem dL_law_532 : decode cL_law 532 = .ok (.ireturn, 1) := by decide +kernel
theorem dL_law_533 : decode cL_law 533 = .ok (.aload_n 1, 1) := by decide +kernel
theorem dL_law_534 : decode cL_law 534 = .ok (.aload_n 0, 1) := by decide +kernel
theorem dL_law_535 : decode cL_law 535 = .ok (.iload_n 3, 1) := by decide +kernel
theorem dL_law_536 : decode cL_law 536 = .ok (.iconst 1, 1) := by decide +kernel
theorem dL_law_537 : decode cL_law 537 = .ok (.iadd, 1) := by decide +kernel
theorem dL_law_538 : decode cL_law 538 = .ok (.iaload, 1) := by decide +kernel
theorem dL_law_539 : decode cL_law 539 = .ok (.invokevirtual 77, 3) := by decide +kernel
theorem dL_law_542 : decode cL_law 542 = .ok (.aload_n 2, 1) := by decide +kernel
theorem dL_law_543 : decode cL_law 543 = .ok (.aload_n 0, 1) := by decide +kernel
theorem dL_law_544 : decode cL_law 544 = .ok (.iload_n 3, 1) := by decide +kernel
theorem dL_law_545 : decode cL_law 545 = .ok (.iconst 1, 1) := by decide +kernel
theorem dL_law_546 : decode cL_law 546 = .ok (.iadd, 1) := by decide +kernel
theorem dL_law_547 : decode cL_law 547 = .ok (.iaload, 1) := by decide +kernel
theorem dL_law_548 : decode cL_law 548 = .ok (.invokevirtual 80, 3) := by decide +kernel
theorem dL_law_551 : decode cL_law 551 = .ok (.if_icmp .eq 328, 3) := by decide +kernel
theorem dL_law_554 : decode cL_law 554 = .ok (.iconst 0, 1) := by decide +kernel
theorem dL_law_555 : decode cL_law 555 = .ok (.ireturn, 1) := by decide +kernel
theorem dL_law_556 : decode cL_law 556 = .ok (.aload_n 1, 1) := by decide +kernel
theorem dL_law_557 : decode cL_law 557 = .ok (.aload_n 0, 1) := by decide +kernel
theorem dL_law_558 : decode cL_law 558 = .ok (.iload_n 3, 1) := by decide +kernel
theorem dL_law_559 : decode cL_law 559 = .ok (.iconst 1, 1) := by decide +kernel
theorem dL_law_560 : decode cL_law 560 = .ok (.iadd, 1) := by decide +kernel
theorem dL_law_561 : decode cL_law 561 = .ok (.iaload, 1) := by decide +kernel
theorem dL_law_562 : decode cL_law 562 = .ok (.invokevirtual 81, 3) := by decide +kernel
theorem dL_law_565 : decode cL_law 565 = .ok (.aload_n 2, 1) := by decide +kernel
theorem dL_law_566 : decode cL_law 566 = .ok (.aload_n 0, 1) := by decide +kernel
theorem dL_law_567 : decode cL_law 567 = .ok (.iload_n 3, 1) := by decide +kernel
theorem dL_law_568 : decode cL_law 568 = .ok (.iconst 1, 1) := by decide +kernel
theorem dL_law_569 : decode cL_law 569 = .ok (.iadd, 1) := by decide +kernel
theorem dL_law_570 : decode cL_law 570 = .ok (.iaload, 1) := by decide +kernel
theorem dL_law_571 : decode cL_law 571 = .ok (.invokevirtual 84, 3) := by decide +kernel
theorem dL_law_574 : decode cL_law 574 = .ok (.if_icmp .eq 305, 3) := by decide +kernel
theorem dL_law_577 : decode cL_law 577 = .ok (.iconst 0, 1) := by decide +kernel
theorem dL_law_578 : decode cL_law 578 = .ok (.ireturn, 1) := by decide +kernel
theorem dL_law_579 : decode cL_law 579 = .ok (.aload_n 1, 1) := by decide +kernel
theorem dL_law_580 : decode cL_law 580 = .ok (.aload_n 0, 1) := by decide +kernel
theorem dL_law_581 : decode cL_law 581 = .ok (.iload_n 3, 1) := by decide +kernel
theorem dL_law_582 : decode cL_law 582 = .ok (.iconst 1, 1) := by decide +kernel
theorem dL_law_583 : decode cL_law 583 = .ok (.iadd, 1) := by decide +kernel
theorem dL_law_584 : decode cL_law 584 = .ok (.iaload, 1) := by decide +kernel
theorem dL_law_585 : decode cL_law 585 = .ok (.invokevirtual 85, 3) := by decide +kernel
theorem dL_law_588 : decode cL_law 588 = .ok (.aload_n 2, 1) := by decide +kernel
theorem dL_law_589 : decode cL_law 589 = .ok (.aload_n 0, 1) := by decide +kernel
theorem dL_law_590 : decode cL_law 590 = .ok (.iload_n 3, 1) := by decide +kernel
theorem dL_law_591 : decode cL_law 591 = .ok (.iconst 1, 1) := by decide +kernel
theorem dL_law_592 : decode cL_law 592 = .ok (.iadd, 1) := by decide +kernel
theorem dL_law_593 : decode cL_law 593 = .ok (.iaload, 1) := by decide +kernel
theorem dL_law_594 : decode cL_law 594 = .ok (.invokevirtual 88, 3) := by decide +kernel
theorem dL_law_597 : decode cL_law 597 = .ok (.if_icmp .eq 282, 3) := by decide +kernel
theorem dL_law_600 : decode cL_law 600 = .ok (.iconst 0, 1) := by decide +kernel
theorem dL_law_601 : decode cL_law 601 = .ok (.ireturn, 1) := by decide +kernel
theorem dL_law_602 : decode cL_law 602 = .ok (.aload_n 1, 1) := by decide +kernel
theorem dL_law_603 : decode cL_law 603 = .ok (.invokevirtual 89, 3) := by decide +kernel
theorem dL_law_606 : decode cL_law 606 = .ok (.aload_n 2, 1) := by decide +kernel
theorem dL_law_607 : decode cL_law 607 = .ok (.invokevirtual 92, 3) := by decide +kernel
theorem dL_law_610 : decode cL_law 610 = .ok (.if_icmp .eq 269, 3) := by decide +kernel
theorem dL_law_613 : decode cL_law 613 = .ok (.iconst 0, 1) := by decide +kernel
theorem dL_law_614 : decode cL_law 614 = .ok (.ireturn, 1) := by decide +kernel
theorem dL_law_615 : decode cL_law 615 = .ok (.aload_n 1, 1) := by decide +kernel
theorem dL_law_616 : decode cL_law 616 = .ok (.aload_n 0, 1) := by decide +kernel
theorem dL_law_617 : decode cL_law 617 = .ok (.iload_n 3, 1) := by decide +kernel
theorem dL_law_618 : decode cL_law 618 = .ok (.iconst 1, 1) := by decide +kernel
theorem dL_law_619 : decode cL_law 619 = .ok (.iadd, 1) := by decide +kernel
theorem dL_law_620 : decode cL_law 620 = .ok (.iaload, 1) := by decide +kernel
theorem dL_law_621 : decode cL_law 621 = .ok (.aload_n 0, 1) := by decide +kernel
theorem dL_law_622 : decode cL_law 622 = .ok (.iload_n 3, 1) := by decide +kernel
theorem dL_law_623 : decode cL_law 623 = .ok (.iconst 2, 1) := by decide +kernel
theorem dL_law_624 : decode cL_law 624 = .ok (.iadd, 1) := by decide +kernel
theorem dL_law_625 : decode cL_law 625 = .ok (.iaload, 1) := by decide +kernel
theorem dL_law_626 : decode cL_law 626 = .ok (.invokevirtual 93, 3) := by decide +kernel
theorem dL_law_629 : decode cL_law 629 = .ok (.aload_n 2, 1) := by decide +kernel
theorem dL_law_630 : decode cL_law 630 = .ok (.aload_n 0, 1) := by decide +kernel
theorem dL_law_631 : decode cL_law 631 = .ok (.iload_n 3, 1) := by decide +kernel
theorem dL_law_632 : decode cL_law 632 = .ok (.iconst 1, 1) := by decide +kernel
theorem dL_law_633 : decode cL_law 633 = .ok (.iadd, 1) := by decide +kernel
theorem dL_law_634 : decode cL_law 634 = .ok (.iaload, 1) := by decide +kernel
theorem dL_law_635 : decode cL_law 635 = .ok (.aload_n 0, 1) := by decide +kernel
theorem dL_law_636 : decode cL_law 636 = .ok (.iload_n 3, 1) := by decide +kernel
theorem dL_law_637 : decode cL_law 637 = .ok (.iconst 2, 1) := by decide +kernel
theorem dL_law_638 : decode cL_law 638 = .ok (.iadd, 1) := by decide +kernel
theorem dL_law_639 : decode cL_law 639 = .ok (.iaload, 1) := by decide +kernel
theorem dL_law_640 : decode cL_law 640 = .ok (.invokevirtual 96, 3) := by decide +kernel
theorem dL_law_643 : decode cL_law 643 = .ok (.if_icmp .eq 236, 3) := by decide +kernel
theorem dL_law_646 : decode cL_law 646 = .ok (.iconst 0, 1) := by decide +kernel
theorem dL_law_647 : decode cL_law 647 = .ok (.ireturn, 1) := by decide +kernel
theorem dL_law_648 : decode cL_law 648 = .ok (.aload_n 1, 1) := by decide +kernel
theorem dL_law_649 : decode cL_law 649 = .ok (.invokevirtual 97, 3) := by decide +kernel
theorem dL_law_652 : decode cL_law 652 = .ok (.aload_n 2, 1) := by decide +kernel
theorem dL_law_653 : decode cL_law 653 = .ok (.invokevirtual 100, 3) := by decide +kernel
theorem dL_law_656 : decode cL_law 656 = .ok (.if_icmp .eq 223, 3) := by decide +kernel
theorem dL_law_659 : decode cL_law 659 = .ok (.iconst 0, 1) := by decide +kernel
theorem dL_law_660 : decode cL_law 660 = .ok (.ireturn, 1) := by decide +kernel
theorem dL_law_661 : decode cL_law 661 = .ok (.aload_n 1, 1) := by decide +kernel
theorem dL_law_662 : decode cL_law 662 = .ok (.invokevirtual 101, 3) := by decide +kernel
theorem dL_law_665 : decode cL_law 665 = .ok (.aload_n 2, 1) := by decide +kernel
theorem dL_law_666 : decode cL_law 666 = .ok (.invokevirtual 104, 3) := by decide +kernel
theorem dL_law_669 : decode cL_law 669 = .ok (.if_icmp .eq 210, 3) := by decide +kernel
theorem dL_law_672 : decode cL_law 672 = .ok (.iconst 0, 1) := by decide +kernel
theorem dL_law_673 : decode cL_law 673 = .ok (.ireturn, 1) := by decide +kernel
theorem dL_law_674 : decode cL_law 674 = .ok (.aload_n 1, 1) := by decide +kernel
theorem dL_law_675 : decode cL_law 675 = .ok (.invokevirtual 105, 3) := by decide +kernel
theorem dL_law_678 : decode cL_law 678 = .ok (.aload_n 2, 1) := by decide +kernel
theorem dL_law_679 : decode cL_law 679 = .ok (.invokevirtual 108, 3) := by decide +kernel
theorem dL_law_682 : decode cL_law 682 = .ok (.if_icmp .eq 197, 3) := by decide +kernel
theorem dL_law_685 : decode cL_law 685 = .ok (.iconst 0, 1) := by decide +kernel
theorem dL_law_686 : decode cL_law 686 = .ok (.ireturn, 1) := by decide +kernel
theorem dL_law_687 : decode cL_law 687 = .ok (.aload_n 1, 1) := by decide +kernel
theorem dL_law_688 : decode cL_law 688 = .ok (.aload_n 0, 1) := by decide +kernel
theorem dL_law_689 : decode cL_law 689 = .ok (.iload_n 3, 1) := by decide +kernel
theorem dL_law_690 : decode cL_law 690 = .ok (.iconst 1, 1) := by decide +kernel
theorem dL_law_691 : decode cL_law 691 = .ok (.iadd, 1) := by decide +kernel
theorem dL_law_692 : decode cL_law 692 = .ok (.iaload, 1) := by decide +kernel
theorem dL_law_693 : decode cL_law 693 = .ok (.invokevirtual 109, 3) := by decide +kernel
theorem dL_law_696 : decode cL_law 696 = .ok (.aload_n 2, 1) := by decide +kernel
theorem dL_law_697 : decode cL_law 697 = .ok (.aload_n 0, 1) := by decide +kernel
theorem dL_law_698 : decode cL_law 698 = .ok (.iload_n 3, 1) := by decide +kernel
theorem dL_law_699 : decode cL_law 699 = .ok (.iconst 1, 1) := by decide +kernel
theorem dL_law_700 : decode cL_law 700 = .ok (.iadd, 1) := by decide +kernel
theorem dL_law_701 : decode cL_law 701 = .ok (.iaload, 1) := by decide +kernel
theorem dL_law_702 : decode cL_law 702 = .ok (.invokevirtual 112, 3) := by decide +kernel
theorem dL_law_705 : decode cL_law 705 = .ok (.if_icmp .eq 174, 3) := by decide +kernel
theorem dL_law_708 : decode cL_law 708 = .ok (.iconst 0, 1) := by decide +kernel
theorem dL_law_709 : decode cL_law 709 = .ok (.ireturn, 1) := by decide +kernel
theorem dL_law_710 : decode cL_law 710 = .ok (.aload_n 1, 1) := by decide +kernel
theorem dL_law_711 : decode cL_law 711 = .ok (.aload_n 0, 1) := by decide +kernel
theorem dL_law_712 : decode cL_law 712 = .ok (.iload_n 3, 1) := by decide +kernel
theorem dL_law_713 : decode cL_law 713 = .ok (.iconst 1, 1) := by decide +kernel
theorem dL_law_714 : decode cL_law 714 = .ok (.iadd, 1) := by decide +kernel
theorem dL_law_715 : decode cL_law 715 = .ok (.iaload, 1) := by decide +kernel
theorem dL_law_716 : decode cL_law 716 = .ok (.aload_n 0, 1) := by decide +kernel
theorem dL_law_717 : decode cL_law 717 = .ok (.iload_n 3, 1) := by decide +kernel
theorem dL_law_718 : decode cL_law 718 = .ok (.iconst 2, 1) := by decide +kernel
theorem dL_law_719 : decode cL_law 719 = .ok (.iadd, 1) := by decide +kernel
theorem dL_law_720 : decode cL_law 720 = .ok (.iaload, 1) := by decide +kernel
theorem dL_law_721 : decode cL_law 721 = .ok (.aload_n 0, 1) := by decide +kernel
theorem dL_law_722 : decode cL_law 722 = .ok (.iload_n 3, 1) := by decide +kernel
theorem dL_law_723 : decode cL_law 723 = .ok (.iconst 3, 1) := by decide +kernel
theorem dL_law_724 : decode cL_law 724 = .ok (.iadd, 1) := by decide +kernel
theorem dL_law_725 : decode cL_law 725 = .ok (.iaload, 1) := by decide +kernel
theorem dL_law_726 : decode cL_law 726 = .ok (.aload_n 0, 1) := by decide +kernel
theorem dL_law_727 : decode cL_law 727 = .ok (.iload_n 3, 1) := by decide +kernel
theorem dL_law_728 : decode cL_law 728 = .ok (.iconst 4, 1) := by decide +kernel
theorem dL_law_729 : decode cL_law 729 = .ok (.iadd, 1) := by decide +kernel
theorem dL_law_730 : decode cL_law 730 = .ok (.iaload, 1) := by decide +kernel
theorem dL_law_731 : decode cL_law 731 = .ok (.invokevirtual 113, 3) := by decide +kernel
theorem dL_law_734 : decode cL_law 734 = .ok (.aload_n 2, 1) := by decide +kernel
theorem dL_law_735 : decode cL_law 735 = .ok (.aload_n 0, 1) := by decide +kernel
theorem dL_law_736 : decode cL_law 736 = .ok (.iload_n 3, 1) := by decide +kernel
theorem dL_law_737 : decode cL_law 737 = .ok (.iconst 1, 1) := by decide +kernel
theorem dL_law_738 : decode cL_law 738 = .ok (.iadd, 1) := by decide +kernel
theorem dL_law_739 : decode cL_law 739 = .ok (.iaload, 1) := by decide +kernel
theorem dL_law_740 : decode cL_law 740 = .ok (.aload_n 0, 1) := by decide +kernel
theorem dL_law_741 : decode cL_law 741 = .ok (.iload_n 3, 1) := by decide +kernel
theorem dL_law_742 : decode cL_law 742 = .ok (.iconst 2, 1) := by decide +kernel
theorem dL_law_743 : decode cL_law 743 = .ok (.iadd, 1) := by decide +kernel
theorem dL_law_744 : decode cL_law 744 = .ok (.iaload, 1) := by decide +kernel
theorem dL_law_745 : decode cL_law 745 = .ok (.aload_n 0, 1) := by decide +kernel
theorem dL_law_746 : decode cL_law 746 = .ok (.iload_n 3, 1) := by decide +kernel
theorem dL_law_747 : decode cL_law 747 = .ok (.iconst 3, 1) := by decide +kernel
theorem dL_law_748 : decode cL_law 748 = .ok (.iadd, 1) := by decide +kernel
theorem dL_law_749 : decode cL_law 749 = .ok (.iaload, 1) := by decide +kernel
theorem dL_law_750 : decode cL_law 750 = .ok (.aload_n 0, 1) := by decide +kernel
theorem dL_law_751 : decode cL_law 751 = .ok (.iload_n 3, 1) := by decide +kernel
theorem dL_law_752 : decode cL_law 752 = .ok (.iconst 4, 1) := by decide +kernel
theorem dL_law_753 : decode cL_law 753 = .ok (.iadd, 1) := by decide +kernel
theorem dL_law_754 : decode cL_law 754 = .ok (.iaload, 1) := by decide +kernel
theorem dL_law_755 : decode cL_law 755 = .ok (.invokevirtual 117, 3) := by decide +kernel
theorem dL_law_758 : decode cL_law 758 = .ok (.if_icmp .eq 121, 3) := by decide +kernel
theorem dL_law_761 : decode cL_law 761 = .ok (.iconst 0, 1) := by decide +kernel
theorem dL_law_762 : decode cL_law 762 = .ok (.ireturn, 1) := by decide +kernel
theorem dL_law_763 : decode cL_law 763 = .ok (.aload_n 1, 1) := by decide +kernel
theorem dL_law_764 : decode cL_law 764 = .ok (.aload_n 0, 1) := by decide +kernel
theorem dL_law_765 : decode cL_law 765 = .ok (.iload_n 3, 1) := by decide +kernel
theorem dL_law_766 : decode cL_law 766 = .ok (.iconst 1, 1) := by decide +kernel
theorem dL_law_767 : decode cL_law 767 = .ok (.iadd, 1) := by decide +kernel
theorem dL_law_768 : decode cL_law 768 = .ok (.iaload, 1) := by decide +kernel
theorem dL_law_769 : decode cL_law 769 = .ok (.aload_n 0, 1) := by decide +kernel
theorem dL_law_770 : decode cL_law 770 = .ok (.iload_n 3, 1) := by decide +kernel
theorem dL_law_771 : decode cL_law 771 = .ok (.iconst 2, 1) := by decide +kernel
theorem dL_law_772 : decode cL_law 772 = .ok (.iadd, 1) := by decide +kernel
theorem dL_law_773 : decode cL_law 773 = .ok (.iaload, 1) := by decide +kernel
theorem dL_law_774 : decode cL_law 774 = .ok (.invokevirtual 118, 3) := by decide +kernel
theorem dL_law_777 : decode cL_law 777 = .ok (.aload_n 2, 1) := by decide +kernel
theorem dL_law_778 : decode cL_law 778 = .ok (.aload_n 0, 1) := by decide +kernel
theorem dL_law_779 : decode cL_law 779 = .ok (.iload_n 3, 1) := by decide +kernel
theorem dL_law_780 : decode cL_law 780 = .ok (.iconst 1, 1) := by decide +kernel
theorem dL_law_781 : decode cL_law 781 = .ok (.iadd, 1) := by decide +kernel
theorem dL_law_782 : decode cL_law 782 = .ok (.iaload, 1) := by decide +kernel
theorem dL_law_783 : decode cL_law 783 = .ok (.aload_n 0, 1) := by decide +kernel
theorem dL_law_784 : decode cL_law 784 = .ok (.iload_n 3, 1) := by decide +kernel
theorem dL_law_785 : decode cL_law 785 = .ok (.iconst 2, 1) := by decide +kernel
theorem dL_law_786 : decode cL_law 786 = .ok (.iadd, 1) := by decide +kernel
theorem dL_law_787 : decode cL_law 787 = .ok (.iaload, 1) := by decide +kernel
theorem dL_law_788 : decode cL_law 788 = .ok (.invokevirtual 121, 3) := by decide +kernel
theorem dL_law_791 : decode cL_law 791 = .ok (.if_icmp .eq 88, 3) := by decide +kernel
theorem dL_law_794 : decode cL_law 794 = .ok (.iconst 0, 1) := by decide +kernel
theorem dL_law_795 : decode cL_law 795 = .ok (.ireturn, 1) := by decide +kernel
theorem dL_law_796 : decode cL_law 796 = .ok (.aload_n 1, 1) := by decide +kernel
theorem dL_law_797 : decode cL_law 797 = .ok (.aload_n 0, 1) := by decide +kernel
theorem dL_law_798 : decode cL_law 798 = .ok (.iload_n 3, 1) := by decide +kernel
theorem dL_law_799 : decode cL_law 799 = .ok (.iconst 1, 1) := by decide +kernel
theorem dL_law_800 : decode cL_law 800 = .ok (.iadd, 1) := by decide +kernel
theorem dL_law_801 : decode cL_law 801 = .ok (.iaload, 1) := by decide +kernel
theorem dL_law_802 : decode cL_law 802 = .ok (.invokevirtual 122, 3) := by decide +kernel
theorem dL_law_805 : decode cL_law 805 = .ok (.aload_n 2, 1) := by decide +kernel
theorem dL_law_806 : decode cL_law 806 = .ok (.aload_n 0, 1) := by decide +kernel
theorem dL_law_807 : decode cL_law 807 = .ok (.iload_n 3, 1) := by decide +kernel
theorem dL_law_808 : decode cL_law 808 = .ok (.iconst 1, 1) := by decide +kernel
theorem dL_law_809 : decode cL_law 809 = .ok (.iadd, 1) := by decide +kernel
theorem dL_law_810 : decode cL_law 810 = .ok (.iaload, 1) := by decide +kernel
theorem dL_law_811 : decode cL_law 811 = .ok (.invokevirtual 125, 3) := by decide +kernel
theorem dL_law_814 : decode cL_law 814 = .ok (.if_icmp .eq 65, 3) := by decide +kernel
theorem dL_law_817 : decode cL_law 817 = .ok (.iconst 0, 1) := by decide +kernel
theorem dL_law_818 : decode cL_law 818 = .ok (.ireturn, 1) := by decide +kernel
theorem dL_law_819 : decode cL_law 819 = .ok (.aload_n 1, 1) := by decide +kernel
theorem dL_law_820 : decode cL_law 820 = .ok (.aload_n 0, 1) := by decide +kernel
theorem dL_law_821 : decode cL_law 821 = .ok (.iload_n 3, 1) := by decide +kernel
theorem dL_law_822 : decode cL_law 822 = .ok (.iconst 1, 1) := by decide +kernel
theorem dL_law_823 : decode cL_law 823 = .ok (.iadd, 1) := by decide +kernel
theorem dL_law_824 : decode cL_law 824 = .ok (.iaload, 1) := by decide +kernel
theorem dL_law_825 : decode cL_law 825 = .ok (.invokevirtual 126, 3) := by decide +kernel
theorem dL_law_828 : decode cL_law 828 = .ok (.aload_n 2, 1) := by decide +kernel
theorem dL_law_829 : decode cL_law 829 = .ok (.aload_n 0, 1) := by decide +kernel
theorem dL_law_830 : decode cL_law 830 = .ok (.iload_n 3, 1) := by decide +kernel
theorem dL_law_831 : decode cL_law 831 = .ok (.iconst 1, 1) := by decide +kernel
theorem dL_law_832 : decode cL_law 832 = .ok (.iadd, 1) := by decide +kernel
theorem dL_law_833 : decode cL_law 833 = .ok (.iaload, 1) := by decide +kernel
theorem dL_law_834 : decode cL_law 834 = .ok (.invokevirtual 129, 3) := by decide +kernel
theorem dL_law_837 : decode cL_law 837 = .ok (.if_icmp .eq 42, 3) := by decide +kernel
theorem dL_law_840 : decode cL_law 840 = .ok (.iconst 0, 1) := by decide +kernel
theorem dL_law_841 : decode cL_law 841 = .ok (.ireturn, 1) := by decide +kernel
theorem dL_law_842 : decode cL_law 842 = .ok (.aload_n 1, 1) := by decide +kernel
theorem dL_law_843 : decode cL_law 843 = .ok (.aload_n 0, 1) := by decide +kernel
theorem dL_law_844 : decode cL_law 844 = .ok (.iload_n 3, 1) := by decide +kernel
theorem dL_law_845 : decode cL_law 845 = .ok (.iconst 1, 1) := by decide +kernel
theorem dL_law_846 : decode cL_law 846 = .ok (.iadd, 1) := by decide +kernel
theorem dL_law_847 : decode cL_law 847 = .ok (.iaload, 1) := by decide +kernel
theorem dL_law_848 : decode cL_law 848 = .ok (.invokevirtual 130, 3) := by decide +kernel
theorem dL_law_851 : decode cL_law 851 = .ok (.aload_n 2, 1) := by decide +kernel
theorem dL_law_852 : decode cL_law 852 = .ok (.aload_n 0, 1) := by decide +kernel
theorem dL_law_853 : decode cL_law 853 = .ok (.iload_n 3, 1) := by decide +kernel
theorem dL_law_854 : decode cL_law 854 = .ok (.iconst 1, 1) := by decide +kernel
theorem dL_law_855 : decode cL_law 855 = .ok (.iadd, 1) := by decide +kernel
theorem dL_law_856 : decode cL_law 856 = .ok (.iaload, 1) := by decide +kernel
theorem dL_law_857 : decode cL_law 857 = .ok (.invokevirtual 133, 3) := by decide +kernel
theorem dL_law_860 : decode cL_law 860 = .ok (.if_icmp .eq 19, 3) := by decide +kernel
theorem dL_law_863 : decode cL_law 863 = .ok (.iconst 0, 1) := by decide +kernel
theorem dL_law_864 : decode cL_law 864 = .ok (.ireturn, 1) := by decide +kernel
theorem dL_law_865 : decode cL_law 865 = .ok (.aload_n 1, 1) := by decide +kernel
theorem dL_law_866 : decode cL_law 866 = .ok (.invokevirtual 134, 3) := by decide +kernel
theorem dL_law_869 : decode cL_law 869 = .ok (.aload_n 2, 1) := by decide +kernel
theorem dL_law_870 : decode cL_law 870 = .ok (.invokevirtual 138, 3) := by decide +kernel
theorem dL_law_873 : decode cL_law 873 = .ok (.lcmp, 1) := by decide +kernel
theorem dL_law_874 : decode cL_law 874 = .ok (.ifCond .eq 5, 3) := by decide +kernel
theorem dL_law_877 : decode cL_law 877 = .ok (.iconst 0, 1) := by decide +kernel
theorem dL_law_878 : decode cL_law 878 = .ok (.ireturn, 1) := by decide +kernel
theorem dL_law_879 : decode cL_law 879 = .ok (.iinc 3 5, 3) := by decide +kernel
theorem dL_law_882 : decode cL_law 882 = .ok (.goto (-864), 3) := by decide +kernel
theorem dL_law_885 : decode cL_law 885 = .ok (.iconst 1, 1) := by decide +kernel
theorem dL_law_886 : decode cL_law 886 = .ok (.ireturn, 1) := by decide +kernel
