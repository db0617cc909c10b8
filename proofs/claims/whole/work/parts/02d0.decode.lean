theorem dX0_init_0 : decode cX0_init 0 = .ok (.aload_n 0, 1) := by decide +kernel
theorem dX0_init_1 : decode cX0_init 1 = .ok (.invokespecial 3, 3) := by decide +kernel
theorem dX0_init_4 : decode cX0_init 4 = .ok (.aload_n 0, 1) := by decide +kernel
theorem dX0_init_5 : decode cX0_init 5 = .ok (.bipush 12, 2) := by decide +kernel
theorem dX0_init_7 : decode cX0_init 7 = .ok (.newarray .int, 2) := by decide +kernel
theorem dX0_init_9 : decode cX0_init 9 = .ok (.putfield 9, 3) := by decide +kernel
theorem dX0_init_12 : decode cX0_init 12 = .ok (.aload_n 0, 1) := by decide +kernel
theorem dX0_init_13 : decode cX0_init 13 = .ok (.iconst 0, 1) := by decide +kernel
theorem dX0_init_14 : decode cX0_init 14 = .ok (.putfield 15, 3) := by decide +kernel
theorem dX0_init_17 : decode cX0_init 17 = .ok (.aload_n 0, 1) := by decide +kernel
theorem dX0_init_18 : decode cX0_init 18 = .ok (.iconst 0, 1) := by decide +kernel
theorem dX0_init_19 : decode cX0_init 19 = .ok (.putfield 19, 3) := by decide +kernel
theorem dX0_init_22 : decode cX0_init 22 = .ok (.aload_n 0, 1) := by decide +kernel
theorem dX0_init_23 : decode cX0_init 23 = .ok (.aload_n 1, 1) := by decide +kernel
theorem dX0_init_24 : decode cX0_init 24 = .ok (.putfield 22, 3) := by decide +kernel
theorem dX0_init_27 : decode cX0_init 27 = .ok (.aload_n 0, 1) := by decide +kernel
theorem dX0_init_28 : decode cX0_init 28 = .ok (.aload_n 2, 1) := by decide +kernel
theorem dX0_init_29 : decode cX0_init 29 = .ok (.putfield 26, 3) := by decide +kernel
theorem dX0_init_32 : decode cX0_init 32 = .ok (.return_, 1) := by decide +kernel
theorem dX0_weigh_0 : decode cX0_weigh 0 = .ok (.aload_n 0, 1) := by decide +kernel
theorem dX0_weigh_1 : decode cX0_weigh 1 = .ok (.aload_n 0, 1) := by decide +kernel
theorem dX0_weigh_2 : decode cX0_weigh 2 = .ok (.getfield 26, 3) := by decide +kernel
theorem dX0_weigh_5 : decode cX0_weigh 5 = .ok (.getfield 30, 3) := by decide +kernel
theorem dX0_weigh_8 : decode cX0_weigh 8 = .ok (.iload_n 1, 1) := by decide +kernel
theorem dX0_weigh_9 : decode cX0_weigh 9 = .ok (.iaload, 1) := by decide +kernel
theorem dX0_weigh_10 : decode cX0_weigh 10 = .ok (.putfield 15, 3) := by decide +kernel
theorem dX0_weigh_13 : decode cX0_weigh 13 = .ok (.aload_n 0, 1) := by decide +kernel
theorem dX0_weigh_14 : decode cX0_weigh 14 = .ok (.aload_n 0, 1) := by decide +kernel
theorem dX0_weigh_15 : decode cX0_weigh 15 = .ok (.getfield 26, 3) := by decide +kernel
theorem dX0_weigh_18 : decode cX0_weigh 18 = .ok (.iload_n 1, 1) := by decide +kernel
theorem dX0_weigh_19 : decode cX0_weigh 19 = .ok (.invokevirtual 35, 3) := by decide +kernel
theorem dX0_weigh_22 : decode cX0_weigh 22 = .ok (.ineg, 1) := by decide +kernel
theorem dX0_weigh_23 : decode cX0_weigh 23 = .ok (.putfield 19, 3) := by decide +kernel
theorem dX0_weigh_26 : decode cX0_weigh 26 = .ok (.iconst 0, 1) := by decide +kernel
theorem dX0_weigh_27 : decode cX0_weigh 27 = .ok (.istore_n 2, 1) := by decide +kernel
theorem dX0_weigh_28 : decode cX0_weigh 28 = .ok (.iload_n 2, 1) := by decide +kernel
theorem dX0_weigh_29 : decode cX0_weigh 29 = .ok (.aload_n 0, 1) := by decide +kernel
theorem dX0_weigh_30 : decode cX0_weigh 30 = .ok (.getfield 22, 3) := by decide +kernel
theorem dX0_weigh_33 : decode cX0_weigh 33 = .ok (.getfield 39, 3) := by decide +kernel
theorem dX0_weigh_36 : decode cX0_weigh 36 = .ok (.if_icmp .ge 32, 3) := by decide +kernel
theorem dX0_weigh_39 : decode cX0_weigh 39 = .ok (.aload_n 0, 1) := by decide +kernel
theorem dX0_weigh_40 : decode cX0_weigh 40 = .ok (.getfield 9, 3) := by decide +kernel
theorem dX0_weigh_43 : decode cX0_weigh 43 = .ok (.iload_n 2, 1) := by decide +kernel
theorem dX0_weigh_44 : decode cX0_weigh 44 = .ok (.aload_n 0, 1) := by decide +kernel
theorem dX0_weigh_45 : decode cX0_weigh 45 = .ok (.getfield 26, 3) := by decide +kernel
theorem dX0_weigh_48 : decode cX0_weigh 48 = .ok (.aload_n 0, 1) := by decide +kernel
theorem dX0_weigh_49 : decode cX0_weigh 49 = .ok (.getfield 26, 3) := by decide +kernel
theorem dX0_weigh_52 : decode cX0_weigh 52 = .ok (.iload_n 2, 1) := by decide +kernel
theorem dX0_weigh_53 : decode cX0_weigh 53 = .ok (.invokevirtual 44, 3) := by decide +kernel
theorem dX0_weigh_56 : decode cX0_weigh 56 = .ok (.iconst 1, 1) := by decide +kernel
theorem dX0_weigh_57 : decode cX0_weigh 57 = .ok (.iadd, 1) := by decide +kernel
theorem dX0_weigh_58 : decode cX0_weigh 58 = .ok (.invokevirtual 47, 3) := by decide +kernel
theorem dX0_weigh_61 : decode cX0_weigh 61 = .ok (.iastore, 1) := by decide +kernel
theorem dX0_weigh_62 : decode cX0_weigh 62 = .ok (.iinc 2 1, 3) := by decide +kernel
theorem dX0_weigh_65 : decode cX0_weigh 65 = .ok (.goto (-37), 3) := by decide +kernel
theorem dX0_weigh_68 : decode cX0_weigh 68 = .ok (.return_, 1) := by decide +kernel
theorem dX0_fewest_0 : decode cX0_fewest 0 = .ok (.iconst 0, 1) := by decide +kernel
theorem dX0_fewest_1 : decode cX0_fewest 1 = .ok (.istore_n 1, 1) := by decide +kernel
theorem dX0_fewest_2 : decode cX0_fewest 2 = .ok (.iload_n 1, 1) := by decide +kernel
theorem dX0_fewest_3 : decode cX0_fewest 3 = .ok (.aload_n 0, 1) := by decide +kernel
theorem dX0_fewest_4 : decode cX0_fewest 4 = .ok (.getfield 15, 3) := by decide +kernel
theorem dX0_fewest_7 : decode cX0_fewest 7 = .ok (.invokestatic 50, 3) := by decide +kernel
theorem dX0_fewest_10 : decode cX0_fewest 10 = .ok (.if_icmp .gt 27, 3) := by decide +kernel
theorem dX0_fewest_13 : decode cX0_fewest 13 = .ok (.aload_n 0, 1) := by decide +kernel
theorem dX0_fewest_14 : decode cX0_fewest 14 = .ok (.aload_n 0, 1) := by decide +kernel
theorem dX0_fewest_15 : decode cX0_fewest 15 = .ok (.getfield 15, 3) := by decide +kernel
theorem dX0_fewest_18 : decode cX0_fewest 18 = .ok (.iload_n 1, 1) := by decide +kernel
theorem dX0_fewest_19 : decode cX0_fewest 19 = .ok (.invokevirtual 55, 3) := by decide +kernel
theorem dX0_fewest_22 : decode cX0_fewest 22 = .ok (.aload_n 0, 1) := by decide +kernel
theorem dX0_fewest_23 : decode cX0_fewest 23 = .ok (.getfield 19, 3) := by decide +kernel
theorem dX0_fewest_26 : decode cX0_fewest 26 = .ok (.if_icmp .lt 5, 3) := by decide +kernel
theorem dX0_fewest_29 : decode cX0_fewest 29 = .ok (.iload_n 1, 1) := by decide +kernel
theorem dX0_fewest_30 : decode cX0_fewest 30 = .ok (.ireturn, 1) := by decide +kernel
theorem dX0_fewest_31 : decode cX0_fewest 31 = .ok (.iinc 1 1, 3) := by decide +kernel
theorem dX0_fewest_34 : decode cX0_fewest 34 = .ok (.goto (-32), 3) := by decide +kernel
theorem dX0_fewest_37 : decode cX0_fewest 37 = .ok (.bipush (-9), 2) := by decide +kernel
theorem dX0_fewest_39 : decode cX0_fewest 39 = .ok (.ireturn, 1) := by decide +kernel
theorem dX0_leastOf_0 : decode cX0_leastOf 0 = .ok (.iconst 0, 1) := by decide +kernel
theorem dX0_leastOf_1 : decode cX0_leastOf 1 = .ok (.istore_n 2, 1) := by decide +kernel
theorem dX0_leastOf_2 : decode cX0_leastOf 2 = .ok (.aload_n 0, 1) := by decide +kernel
theorem dX0_leastOf_3 : decode cX0_leastOf 3 = .ok (.getfield 15, 3) := by decide +kernel
theorem dX0_leastOf_6 : decode cX0_leastOf 6 = .ok (.istore_n 3, 1) := by decide +kernel
theorem dX0_leastOf_7 : decode cX0_leastOf 7 = .ok (.iload_n 1, 1) := by decide +kernel
theorem dX0_leastOf_8 : decode cX0_leastOf 8 = .ok (.istore 4, 2) := by decide +kernel
theorem dX0_leastOf_10 : decode cX0_leastOf 10 = .ok (.aload_n 0, 1) := by decide +kernel
theorem dX0_leastOf_11 : decode cX0_leastOf 11 = .ok (.getfield 19, 3) := by decide +kernel
theorem dX0_leastOf_14 : decode cX0_leastOf 14 = .ok (.istore 5, 2) := by decide +kernel
theorem dX0_leastOf_16 : decode cX0_leastOf 16 = .ok (.bipush 11, 2) := by decide +kernel
theorem dX0_leastOf_18 : decode cX0_leastOf 18 = .ok (.istore 6, 2) := by decide +kernel
theorem dX0_leastOf_20 : decode cX0_leastOf 20 = .ok (.iload 6, 2) := by decide +kernel
theorem dX0_leastOf_22 : decode cX0_leastOf 22 = .ok (.ifCond .lt 77, 3) := by decide +kernel
theorem dX0_leastOf_25 : decode cX0_leastOf 25 = .ok (.aload_n 0, 1) := by decide +kernel
theorem dX0_leastOf_26 : decode cX0_leastOf 26 = .ok (.getfield 15, 3) := by decide +kernel
theorem dX0_leastOf_29 : decode cX0_leastOf 29 = .ok (.iload 6, 2) := by decide +kernel
theorem dX0_leastOf_31 : decode cX0_leastOf 31 = .ok (.ishr, 1) := by decide +kernel
theorem dX0_leastOf_32 : decode cX0_leastOf 32 = .ok (.iconst 1, 1) := by decide +kernel
theorem dX0_leastOf_33 : decode cX0_leastOf 33 = .ok (.iand, 1) := by decide +kernel
theorem dX0_leastOf_34 : decode cX0_leastOf 34 = .ok (.iconst 1, 1) := by decide +kernel
theorem dX0_leastOf_35 : decode cX0_leastOf 35 = .ok (.if_icmp .ne 7, 3) := by decide +kernel
theorem dX0_leastOf_38 : decode cX0_leastOf 38 = .ok (.iconst 1, 1) := by decide +kernel
theorem dX0_leastOf_39 : decode cX0_leastOf 39 = .ok (.goto 4, 3) := by decide +kernel
theorem dX0_leastOf_42 : decode cX0_leastOf 42 = .ok (.iconst 0, 1) := by decide +kernel
theorem dX0_leastOf_43 : decode cX0_leastOf 43 = .ok (.istore 7, 2) := by decide +kernel
theorem dX0_leastOf_45 : decode cX0_leastOf 45 = .ok (.iload_n 3, 1) := by decide +kernel
theorem dX0_leastOf_46 : decode cX0_leastOf 46 = .ok (.iconst 1, 1) := by decide +kernel
theorem dX0_leastOf_47 : decode cX0_leastOf 47 = .ok (.iload 6, 2) := by decide +kernel
theorem dX0_leastOf_49 : decode cX0_leastOf 49 = .ok (.ishl, 1) := by decide +kernel
theorem dX0_leastOf_50 : decode cX0_leastOf 50 = .ok (.iconst (-1), 1) := by decide +kernel
theorem dX0_leastOf_51 : decode cX0_leastOf 51 = .ok (.ixor, 1) := by decide +kernel
theorem dX0_leastOf_52 : decode cX0_leastOf 52 = .ok (.iand, 1) := by decide +kernel
theorem dX0_leastOf_53 : decode cX0_leastOf 53 = .ok (.istore_n 3, 1) := by decide +kernel
theorem dX0_leastOf_54 : decode cX0_leastOf 54 = .ok (.iload 7, 2) := by decide +kernel
theorem dX0_leastOf_56 : decode cX0_leastOf 56 = .ok (.ifCond .eq 37, 3) := by decide +kernel
theorem dX0_leastOf_59 : decode cX0_leastOf 59 = .ok (.aload_n 0, 1) := by decide +kernel
theorem dX0_leastOf_60 : decode cX0_leastOf 60 = .ok (.iload_n 3, 1) := by decide +kernel
theorem dX0_leastOf_61 : decode cX0_leastOf 61 = .ok (.iload 4, 2) := by decide +kernel
theorem dX0_leastOf_63 : decode cX0_leastOf 63 = .ok (.invokevirtual 55, 3) := by decide +kernel
theorem dX0_leastOf_66 : decode cX0_leastOf 66 = .ok (.iload 5, 2) := by decide +kernel
theorem dX0_leastOf_68 : decode cX0_leastOf 68 = .ok (.if_icmp .ge 25, 3) := by decide +kernel
theorem dX0_leastOf_71 : decode cX0_leastOf 71 = .ok (.iload_n 2, 1) := by decide +kernel
theorem dX0_leastOf_72 : decode cX0_leastOf 72 = .ok (.iconst 1, 1) := by decide +kernel
theorem dX0_leastOf_73 : decode cX0_leastOf 73 = .ok (.iload 6, 2) := by decide +kernel
theorem dX0_leastOf_75 : decode cX0_leastOf 75 = .ok (.ishl, 1) := by decide +kernel
theorem dX0_leastOf_76 : decode cX0_leastOf 76 = .ok (.ior, 1) := by decide +kernel
theorem dX0_leastOf_77 : decode cX0_leastOf 77 = .ok (.istore_n 2, 1) := by decide +kernel
theorem dX0_leastOf_78 : decode cX0_leastOf 78 = .ok (.iinc 4 (-1), 3) := by decide +kernel
theorem dX0_leastOf_81 : decode cX0_leastOf 81 = .ok (.iload 5, 2) := by decide +kernel
theorem dX0_leastOf_83 : decode cX0_leastOf 83 = .ok (.aload_n 0, 1) := by decide +kernel
theorem dX0_leastOf_84 : decode cX0_leastOf 84 = .ok (.getfield 9, 3) := by decide +kernel
theorem dX0_leastOf_87 : decode cX0_leastOf 87 = .ok (.iload 6, 2) := by decide +kernel
theorem dX0_leastOf_89 : decode cX0_leastOf 89 = .ok (.iaload, 1) := by decide +kernel
theorem dX0_leastOf_90 : decode cX0_leastOf 90 = .ok (.isub, 1) := by decide +kernel
theorem dX0_leastOf_91 : decode cX0_leastOf 91 = .ok (.istore 5, 2) := by decide +kernel
theorem dX0_leastOf_93 : decode cX0_leastOf 93 = .ok (.iinc 6 (-1), 3) := by decide +kernel
theorem dX0_leastOf_96 : decode cX0_leastOf 96 = .ok (.goto (-76), 3) := by decide +kernel
theorem dX0_leastOf_99 : decode cX0_leastOf 99 = .ok (.iload_n 2, 1) := by decide +kernel
theorem dX0_leastOf_100 : decode cX0_leastOf 100 = .ok (.ireturn, 1) := by decide +kernel
theorem dX0_mostOf_0 : decode cX0_mostOf 0 = .ok (.iconst 0, 1) := by decide +kernel
theorem dX0_mostOf_1 : decode cX0_mostOf 1 = .ok (.istore_n 3, 1) := by decide +kernel
theorem dX0_mostOf_2 : decode cX0_mostOf 2 = .ok (.iload_n 1, 1) := by decide +kernel
theorem dX0_mostOf_3 : decode cX0_mostOf 3 = .ok (.istore 4, 2) := by decide +kernel
theorem dX0_mostOf_5 : decode cX0_mostOf 5 = .ok (.iconst 0, 1) := by decide +kernel
theorem dX0_mostOf_6 : decode cX0_mostOf 6 = .ok (.istore 5, 2) := by decide +kernel
theorem dX0_mostOf_8 : decode cX0_mostOf 8 = .ok (.iload 5, 2) := by decide +kernel
theorem dX0_mostOf_10 : decode cX0_mostOf 10 = .ok (.iload_n 2, 1) := by decide +kernel
theorem dX0_mostOf_11 : decode cX0_mostOf 11 = .ok (.if_icmp .ge 43, 3) := by decide +kernel
theorem dX0_mostOf_14 : decode cX0_mostOf 14 = .ok (.iload 4, 2) := by decide +kernel
theorem dX0_mostOf_16 : decode cX0_mostOf 16 = .ok (.ifCond .eq 38, 3) := by decide +kernel
theorem dX0_mostOf_19 : decode cX0_mostOf 19 = .ok (.aload_n 0, 1) := by decide +kernel
theorem dX0_mostOf_20 : decode cX0_mostOf 20 = .ok (.iload 4, 2) := by decide +kernel
theorem dX0_mostOf_22 : decode cX0_mostOf 22 = .ok (.invokevirtual 59, 3) := by decide +kernel
theorem dX0_mostOf_25 : decode cX0_mostOf 25 = .ok (.istore 6, 2) := by decide +kernel
theorem dX0_mostOf_27 : decode cX0_mostOf 27 = .ok (.iload_n 3, 1) := by decide +kernel
theorem dX0_mostOf_28 : decode cX0_mostOf 28 = .ok (.aload_n 0, 1) := by decide +kernel
theorem dX0_mostOf_29 : decode cX0_mostOf 29 = .ok (.getfield 9, 3) := by decide +kernel
theorem dX0_mostOf_32 : decode cX0_mostOf 32 = .ok (.iload 6, 2) := by decide +kernel
theorem dX0_mostOf_34 : decode cX0_mostOf 34 = .ok (.iaload, 1) := by decide +kernel
theorem dX0_mostOf_35 : decode cX0_mostOf 35 = .ok (.iadd, 1) := by decide +kernel
theorem dX0_mostOf_36 : decode cX0_mostOf 36 = .ok (.istore_n 3, 1) := by decide +kernel
theorem dX0_mostOf_37 : decode cX0_mostOf 37 = .ok (.iload 4, 2) := by decide +kernel
theorem dX0_mostOf_39 : decode cX0_mostOf 39 = .ok (.iconst 1, 1) := by decide +kernel
theorem dX0_mostOf_40 : decode cX0_mostOf 40 = .ok (.iload 6, 2) := by decide +kernel
theorem dX0_mostOf_42 : decode cX0_mostOf 42 = .ok (.ishl, 1) := by decide +kernel
theorem dX0_mostOf_43 : decode cX0_mostOf 43 = .ok (.iconst (-1), 1) := by decide +kernel
theorem dX0_mostOf_44 : decode cX0_mostOf 44 = .ok (.ixor, 1) := by decide +kernel
theorem dX0_mostOf_45 : decode cX0_mostOf 45 = .ok (.iand, 1) := by decide +kernel
theorem dX0_mostOf_46 : decode cX0_mostOf 46 = .ok (.istore 4, 2) := by decide +kernel
theorem dX0_mostOf_48 : decode cX0_mostOf 48 = .ok (.iinc 5 1, 3) := by decide +kernel
theorem dX0_mostOf_51 : decode cX0_mostOf 51 = .ok (.goto (-43), 3) := by decide +kernel
theorem dX0_mostOf_54 : decode cX0_mostOf 54 = .ok (.iload_n 3, 1) := by decide +kernel
theorem dX0_mostOf_55 : decode cX0_mostOf 55 = .ok (.ireturn, 1) := by decide +kernel
theorem dX0_dearestOf_0 : decode cX0_dearestOf 0 = .ok (.iconst 0, 1) := by decide +kernel
theorem dX0_dearestOf_1 : decode cX0_dearestOf 1 = .ok (.istore_n 2, 1) := by decide +kernel
theorem dX0_dearestOf_2 : decode cX0_dearestOf 2 = .ok (.iconst (-1), 1) := by decide +kernel
theorem dX0_dearestOf_3 : decode cX0_dearestOf 3 = .ok (.istore_n 3, 1) := by decide +kernel
theorem dX0_dearestOf_4 : decode cX0_dearestOf 4 = .ok (.iconst 0, 1) := by decide +kernel
theorem dX0_dearestOf_5 : decode cX0_dearestOf 5 = .ok (.istore 4, 2) := by decide +kernel
theorem dX0_dearestOf_7 : decode cX0_dearestOf 7 = .ok (.iload 4, 2) := by decide +kernel
theorem dX0_dearestOf_9 : decode cX0_dearestOf 9 = .ok (.aload_n 0, 1) := by decide +kernel
theorem dX0_dearestOf_10 : decode cX0_dearestOf 10 = .ok (.getfield 22, 3) := by decide +kernel
theorem dX0_dearestOf_13 : decode cX0_dearestOf 13 = .ok (.getfield 39, 3) := by decide +kernel
theorem dX0_dearestOf_16 : decode cX0_dearestOf 16 = .ok (.if_icmp .ge 41, 3) := by decide +kernel
theorem dX0_dearestOf_19 : decode cX0_dearestOf 19 = .ok (.iload_n 1, 1) := by decide +kernel
theorem dX0_dearestOf_20 : decode cX0_dearestOf 20 = .ok (.iload 4, 2) := by decide +kernel
theorem dX0_dearestOf_22 : decode cX0_dearestOf 22 = .ok (.ishr, 1) := by decide +kernel
theorem dX0_dearestOf_23 : decode cX0_dearestOf 23 = .ok (.iconst 1, 1) := by decide +kernel
theorem dX0_dearestOf_24 : decode cX0_dearestOf 24 = .ok (.iand, 1) := by decide +kernel
theorem dX0_dearestOf_25 : decode cX0_dearestOf 25 = .ok (.iconst 1, 1) := by decide +kernel
theorem dX0_dearestOf_26 : decode cX0_dearestOf 26 = .ok (.if_icmp .ne 25, 3) := by decide +kernel
theorem dX0_dearestOf_29 : decode cX0_dearestOf 29 = .ok (.aload_n 0, 1) := by decide +kernel
theorem dX0_dearestOf_30 : decode cX0_dearestOf 30 = .ok (.getfield 9, 3) := by decide +kernel
theorem dX0_dearestOf_33 : decode cX0_dearestOf 33 = .ok (.iload 4, 2) := by decide +kernel
theorem dX0_dearestOf_35 : decode cX0_dearestOf 35 = .ok (.iaload, 1) := by decide +kernel
theorem dX0_dearestOf_36 : decode cX0_dearestOf 36 = .ok (.iload_n 3, 1) := by decide +kernel
theorem dX0_dearestOf_37 : decode cX0_dearestOf 37 = .ok (.if_icmp .le 14, 3) := by decide +kernel
theorem dX0_dearestOf_40 : decode cX0_dearestOf 40 = .ok (.iload 4, 2) := by decide +kernel
theorem dX0_dearestOf_42 : decode cX0_dearestOf 42 = .ok (.istore_n 2, 1) := by decide +kernel
theorem dX0_dearestOf_43 : decode cX0_dearestOf 43 = .ok (.aload_n 0, 1) := by decide +kernel
theorem dX0_dearestOf_44 : decode cX0_dearestOf 44 = .ok (.getfield 9, 3) := by decide +kernel
theorem dX0_dearestOf_47 : decode cX0_dearestOf 47 = .ok (.iload 4, 2) := by decide +kernel
theorem dX0_dearestOf_49 : decode cX0_dearestOf 49 = .ok (.iaload, 1) := by decide +kernel
theorem dX0_dearestOf_50 : decode cX0_dearestOf 50 = .ok (.istore_n 3, 1) := by decide +kernel
theorem dX0_dearestOf_51 : decode cX0_dearestOf 51 = .ok (.iinc 4 1, 3) := by decide +kernel
theorem dX0_dearestOf_54 : decode cX0_dearestOf 54 = .ok (.goto (-47), 3) := by decide +kernel
theorem dX0_dearestOf_57 : decode cX0_dearestOf 57 = .ok (.iload_n 2, 1) := by decide +kernel
theorem dX0_dearestOf_58 : decode cX0_dearestOf 58 = .ok (.ireturn, 1) := by decide +kernel
theorem dX1_init_0 : decode cX1_init 0 = .ok (.aload_n 0, 1) := by decide +kernel
theorem dX1_init_1 : decode cX1_init 1 = .ok (.invokespecial 3, 3) := by decide +kernel
theorem dX1_init_4 : decode cX1_init 4 = .ok (.aload_n 0, 1) := by decide +kernel
theorem dX1_init_5 : decode cX1_init 5 = .ok (.iconst 5, 1) := by decide +kernel
theorem dX1_init_6 : decode cX1_init 6 = .ok (.newarray .int, 2) := by decide +kernel
theorem dX1_init_8 : decode cX1_init 8 = .ok (.putfield 9, 3) := by decide +kernel
theorem dX1_init_11 : decode cX1_init 11 = .ok (.aload_n 0, 1) := by decide +kernel
theorem dX1_init_12 : decode cX1_init 12 = .ok (.iconst 5, 1) := by decide +kernel
theorem dX1_init_13 : decode cX1_init 13 = .ok (.newarray .int, 2) := by decide +kernel
theorem dX1_init_15 : decode cX1_init 15 = .ok (.putfield 15, 3) := by decide +kernel
theorem dX1_init_18 : decode cX1_init 18 = .ok (.aload_n 0, 1) := by decide +kernel
theorem dX1_init_19 : decode cX1_init 19 = .ok (.iconst 5, 1) := by decide +kernel
theorem dX1_init_20 : decode cX1_init 20 = .ok (.newarray .int, 2) := by decide +kernel
theorem dX1_init_22 : decode cX1_init 22 = .ok (.putfield 18, 3) := by decide +kernel
theorem dX1_init_25 : decode cX1_init 25 = .ok (.aload_n 0, 1) := by decide +kernel
theorem dX1_init_26 : decode cX1_init 26 = .ok (.aload_n 1, 1) := by decide +kernel
theorem dX1_init_27 : decode cX1_init 27 = .ok (.putfield 21, 3) := by decide +kernel
theorem dX1_init_30 : decode cX1_init 30 = .ok (.aload_n 0, 1) := by decide +kernel
theorem dX1_init_31 : decode cX1_init 31 = .ok (.aload_n 2, 1) := by decide +kernel
theorem dX1_init_32 : decode cX1_init 32 = .ok (.putfield 25, 3) := by decide +kernel
theorem dX1_init_35 : decode cX1_init 35 = .ok (.return_, 1) := by decide +kernel
theorem dX1_begin_0 : decode cX1_begin 0 = .ok (.aload_n 1, 1) := by decide +kernel
theorem dX1_begin_1 : decode cX1_begin 1 = .ok (.getfield 29, 3) := by decide +kernel
theorem dX1_begin_4 : decode cX1_begin 4 = .ok (.iconst 0, 1) := by decide +kernel
theorem dX1_begin_5 : decode cX1_begin 5 = .ok (.aload_n 0, 1) := by decide +kernel
theorem dX1_begin_6 : decode cX1_begin 6 = .ok (.getfield 9, 3) := by decide +kernel
theorem dX1_begin_9 : decode cX1_begin 9 = .ok (.iconst 0, 1) := by decide +kernel
theorem dX1_begin_10 : decode cX1_begin 10 = .ok (.iconst 5, 1) := by decide +kernel
theorem dX1_begin_11 : decode cX1_begin 11 = .ok (.invokestatic 32, 3) := by decide +kernel
theorem dX1_begin_14 : decode cX1_begin 14 = .ok (.aload_n 0, 1) := by decide +kernel
theorem dX1_begin_15 : decode cX1_begin 15 = .ok (.getfield 25, 3) := by decide +kernel
theorem dX1_begin_18 : decode cX1_begin 18 = .ok (.aload_n 1, 1) := by decide +kernel
theorem dX1_begin_19 : decode cX1_begin 19 = .ok (.getfield 38, 3) := by decide +kernel
theorem dX1_begin_22 : decode cX1_begin 22 = .ok (.aload_n 1, 1) := by decide +kernel
theorem dX1_begin_23 : decode cX1_begin 23 = .ok (.getfield 41, 3) := by decide +kernel
theorem dX1_begin_26 : decode cX1_begin 26 = .ok (.invokevirtual 44, 3) := by decide +kernel
theorem dX1_begin_29 : decode cX1_begin 29 = .ok (.aload_n 0, 1) := by decide +kernel
theorem dX1_begin_30 : decode cX1_begin 30 = .ok (.aload_n 0, 1) := by decide +kernel
theorem dX1_begin_31 : decode cX1_begin 31 = .ok (.getfield 15, 3) := by decide +kernel
theorem dX1_begin_34 : decode cX1_begin 34 = .ok (.invokevirtual 50, 3) := by decide +kernel
theorem dX1_begin_37 : decode cX1_begin 37 = .ok (.aload_n 0, 1) := by decide +kernel
theorem dX1_begin_38 : decode cX1_begin 38 = .ok (.getfield 25, 3) := by decide +kernel
theorem dX1_begin_41 : decode cX1_begin 41 = .ok (.aload_n 1, 1) := by decide +kernel
theorem dX1_begin_42 : decode cX1_begin 42 = .ok (.getfield 38, 3) := by decide +kernel
theorem dX1_begin_45 : decode cX1_begin 45 = .ok (.getstatic 54, 3) := by decide +kernel
theorem dX1_begin_48 : decode cX1_begin 48 = .ok (.invokevirtual 44, 3) := by decide +kernel
theorem dX1_begin_51 : decode cX1_begin 51 = .ok (.aload_n 0, 1) := by decide +kernel
theorem dX1_begin_52 : decode cX1_begin 52 = .ok (.aload_n 0, 1) := by decide +kernel
theorem dX1_begin_53 : decode cX1_begin 53 = .ok (.getfield 18, 3) := by decide +kernel
theorem dX1_begin_56 : decode cX1_begin 56 = .ok (.invokevirtual 50, 3) := by decide +kernel
theorem dX1_begin_59 : decode cX1_begin 59 = .ok (.return_, 1) := by decide +kernel
theorem dX1_noteGains_0 : decode cX1_noteGains 0 = .ok (.iconst 0, 1) := by decide +kernel
theorem dX1_noteGains_1 : decode cX1_noteGains 1 = .ok (.istore_n 2, 1) := by decide +kernel
theorem dX1_noteGains_2 : decode cX1_noteGains 2 = .ok (.iload_n 2, 1) := by decide +kernel
theorem dX1_noteGains_3 : decode cX1_noteGains 3 = .ok (.aload_n 0, 1) := by decide +kernel
theorem dX1_noteGains_4 : decode cX1_noteGains 4 = .ok (.getfield 21, 3) := by decide +kernel
theorem dX1_noteGains_7 : decode cX1_noteGains 7 = .ok (.getfield 57, 3) := by decide +kernel
theorem dX1_noteGains_10 : decode cX1_noteGains 10 = .ok (.if_icmp .ge 20, 3) := by decide +kernel
theorem dX1_noteGains_13 : decode cX1_noteGains 13 = .ok (.aload_n 1, 1) := by decide +kernel
theorem dX1_noteGains_14 : decode cX1_noteGains 14 = .ok (.iload_n 2, 1) := by decide +kernel
theorem dX1_noteGains_15 : decode cX1_noteGains 15 = .ok (.aload_n 0, 1) := by decide +kernel
theorem dX1_noteGains_16 : decode cX1_noteGains 16 = .ok (.getfield 25, 3) := by decide +kernel
theorem dX1_noteGains_19 : decode cX1_noteGains 19 = .ok (.iload_n 2, 1) := by decide +kernel
theorem dX1_noteGains_20 : decode cX1_noteGains 20 = .ok (.invokevirtual 63, 3) := by decide +kernel
theorem dX1_noteGains_23 : decode cX1_noteGains 23 = .ok (.iastore, 1) := by decide +kernel
theorem dX1_noteGains_24 : decode cX1_noteGains 24 = .ok (.iinc 2 1, 3) := by decide +kernel
theorem dX1_noteGains_27 : decode cX1_noteGains 27 = .ok (.goto (-25), 3) := by decide +kernel
theorem dX1_noteGains_30 : decode cX1_noteGains 30 = .ok (.return_, 1) := by decide +kernel
theorem dX1_pass_0 : decode cX1_pass 0 = .ok (.iconst 0, 1) := by decide +kernel
theorem dX1_pass_1 : decode cX1_pass 1 = .ok (.istore_n 2, 1) := by decide +kernel
theorem dX1_pass_2 : decode cX1_pass 2 = .ok (.iload_n 2, 1) := by decide +kernel
theorem dX1_pass_3 : decode cX1_pass 3 = .ok (.aload_n 0, 1) := by decide +kernel
theorem dX1_pass_4 : decode cX1_pass 4 = .ok (.getfield 21, 3) := by decide +kernel
theorem dX1_pass_7 : decode cX1_pass 7 = .ok (.getfield 57, 3) := by decide +kernel
theorem dX1_pass_10 : decode cX1_pass 10 = .ok (.if_icmp .ge 43, 3) := by decide +kernel
theorem dX1_pass_13 : decode cX1_pass 13 = .ok (.aload_n 0, 1) := by decide +kernel
theorem dX1_pass_14 : decode cX1_pass 14 = .ok (.getfield 9, 3) := by decide +kernel
theorem dX1_pass_17 : decode cX1_pass 17 = .ok (.iload_n 2, 1) := by decide +kernel
theorem dX1_pass_18 : decode cX1_pass 18 = .ok (.aload_n 0, 1) := by decide +kernel
theorem dX1_pass_19 : decode cX1_pass 19 = .ok (.getfield 9, 3) := by decide +kernel
theorem dX1_pass_22 : decode cX1_pass 22 = .ok (.iload_n 2, 1) := by decide +kernel
theorem dX1_pass_23 : decode cX1_pass 23 = .ok (.iaload, 1) := by decide +kernel
theorem dX1_pass_24 : decode cX1_pass 24 = .ok (.iload_n 1, 1) := by decide +kernel
theorem dX1_pass_25 : decode cX1_pass 25 = .ok (.ifCond .eq 12, 3) := by decide +kernel
theorem dX1_pass_28 : decode cX1_pass 28 = .ok (.aload_n 0, 1) := by decide +kernel
theorem dX1_pass_29 : decode cX1_pass 29 = .ok (.getfield 15, 3) := by decide +kernel
theorem dX1_pass_32 : decode cX1_pass 32 = .ok (.iload_n 2, 1) := by decide +kernel
theorem dX1_pass_33 : decode cX1_pass 33 = .ok (.iaload, 1) := by decide +kernel
theorem dX1_pass_34 : decode cX1_pass 34 = .ok (.goto 9, 3) := by decide +kernel
theorem dX1_pass_37 : decode cX1_pass 37 = .ok (.aload_n 0, 1) := by decide +kernel
theorem dX1_pass_38 : decode cX1_pass 38 = .ok (.getfield 18, 3) := by decide +kernel
theorem dX1_pass_41 : decode cX1_pass 41 = .ok (.iload_n 2, 1) := by decide +kernel
theorem dX1_pass_42 : decode cX1_pass 42 = .ok (.iaload, 1) := by decide +kernel
theorem dX1_pass_43 : decode cX1_pass 43 = .ok (.invokestatic 67, 3) := by decide +kernel
theorem dX1_pass_46 : decode cX1_pass 46 = .ok (.iastore, 1) := by decide +kernel
theorem dX1_pass_47 : decode cX1_pass 47 = .ok (.iinc 2 1, 3) := by decide +kernel
theorem dX1_pass_50 : decode cX1_pass 50 = .ok (.goto (-48), 3) := by decide +kernel
theorem dX1_pass_53 : decode cX1_pass 53 = .ok (.return_, 1) := by decide +kernel
theorem dX1_somebodyOwes_0 : decode cX1_somebodyOwes 0 = .ok (.iconst 0, 1) := by decide +kernel
theorem dX1_somebodyOwes_1 : decode cX1_somebodyOwes 1 = .ok (.istore_n 1, 1) := by decide +kernel
theorem dX1_somebodyOwes_2 : decode cX1_somebodyOwes 2 = .ok (.iload_n 1, 1) := by decide +kernel
theorem dX1_somebodyOwes_3 : decode cX1_somebodyOwes 3 = .ok (.aload_n 0, 1) := by decide +kernel
theorem dX1_somebodyOwes_4 : decode cX1_somebodyOwes 4 = .ok (.getfield 21, 3) := by decide +kernel
theorem dX1_somebodyOwes_7 : decode cX1_somebodyOwes 7 = .ok (.getfield 57, 3) := by decide +kernel
theorem dX1_somebodyOwes_10 : decode cX1_somebodyOwes 10 = .ok (.if_icmp .ge 20, 3) := by decide +kernel
theorem dX1_somebodyOwes_13 : decode cX1_somebodyOwes 13 = .ok (.aload_n 0, 1) := by decide +kernel
theorem dX1_somebodyOwes_14 : decode cX1_somebodyOwes 14 = .ok (.getfield 9, 3) := by decide +kernel
theorem dX1_somebodyOwes_17 : decode cX1_somebodyOwes 17 = .ok (.iload_n 1, 1) := by decide +kernel
theorem dX1_somebodyOwes_18 : decode cX1_somebodyOwes 18 = .ok (.iaload, 1) := by decide +kernel
theorem dX1_somebodyOwes_19 : decode cX1_somebodyOwes 19 = .ok (.ifCond .ge 5, 3) := by decide +kernel
theorem dX1_somebodyOwes_22 : decode cX1_somebodyOwes 22 = .ok (.iconst 1, 1) := by decide +kernel
theorem dX1_somebodyOwes_23 : decode cX1_somebodyOwes 23 = .ok (.ireturn, 1) := by decide +kernel
theorem dX1_somebodyOwes_24 : decode cX1_somebodyOwes 24 = .ok (.iinc 1 1, 3) := by decide +kernel
theorem dX1_somebodyOwes_27 : decode cX1_somebodyOwes 27 = .ok (.goto (-25), 3) := by decide +kernel
theorem dX1_somebodyOwes_30 : decode cX1_somebodyOwes 30 = .ok (.iconst 0, 1) := by decide +kernel
theorem dX1_somebodyOwes_31 : decode cX1_somebodyOwes 31 = .ok (.ireturn, 1) := by decide +kernel
theorem dX1_allHave_0 : decode cX1_allHave 0 = .ok (.iconst 0, 1) := by decide +kernel
theorem dX1_allHave_1 : decode cX1_allHave 1 = .ok (.istore_n 2, 1) := by decide +kernel
theorem dX1_allHave_2 : decode cX1_allHave 2 = .ok (.iload_n 2, 1) := by decide +kernel
theorem dX1_allHave_3 : decode cX1_allHave 3 = .ok (.aload_n 0, 1) := by decide +kernel
theorem dX1_allHave_4 : decode cX1_allHave 4 = .ok (.getfield 21, 3) := by decide +kernel
theorem dX1_allHave_7 : decode cX1_allHave 7 = .ok (.getfield 57, 3) := by decide +kernel
theorem dX1_allHave_10 : decode cX1_allHave 10 = .ok (.if_icmp .ge 21, 3) := by decide +kernel
theorem dX1_allHave_13 : decode cX1_allHave 13 = .ok (.aload_n 0, 1) := by decide +kernel
theorem dX1_allHave_14 : decode cX1_allHave 14 = .ok (.getfield 9, 3) := by decide +kernel
theorem dX1_allHave_17 : decode cX1_allHave 17 = .ok (.iload_n 2, 1) := by decide +kernel
theorem dX1_allHave_18 : decode cX1_allHave 18 = .ok (.iaload, 1) := by decide +kernel
theorem dX1_allHave_19 : decode cX1_allHave 19 = .ok (.iload_n 1, 1) := by decide +kernel
theorem dX1_allHave_20 : decode cX1_allHave 20 = .ok (.if_icmp .ge 5, 3) := by decide +kernel
theorem dX1_allHave_23 : decode cX1_allHave 23 = .ok (.iconst 0, 1) := by decide +kernel
theorem dX1_allHave_24 : decode cX1_allHave 24 = .ok (.ireturn, 1) := by decide +kernel
theorem dX1_allHave_25 : decode cX1_allHave 25 = .ok (.iinc 2 1, 3) := by decide +kernel
theorem dX1_allHave_28 : decode cX1_allHave 28 = .ok (.goto (-26), 3) := by decide +kernel
theorem dX1_allHave_31 : decode cX1_allHave 31 = .ok (.iconst 1, 1) := by decide +kernel
theorem dX1_allHave_32 : decode cX1_allHave 32 = .ok (.ireturn, 1) := by decide +kernel
theorem dX2_init_0 : decode cX2_init 0 = .ok (.aload_n 0, 1) := by decide +kernel
theorem dX2_init_1 : decode cX2_init 1 = .ok (.invokespecial 3, 3) := by decide +kernel
theorem dX2_init_4 : decode cX2_init 4 = .ok (.aload_n 0, 1) := by decide +kernel
theorem dX2_init_5 : decode cX2_init 5 = .ok (.bipush 10, 2) := by decide +kernel
theorem dX2_init_7 : decode cX2_init 7 = .ok (.anewarray 9, 3) := by decide +kernel
theorem dX2_init_10 : decode cX2_init 10 = .ok (.putfield 11, 3) := by decide +kernel
theorem dX2_init_13 : decode cX2_init 13 = .ok (.aload_n 0, 1) := by decide +kernel
theorem dX2_init_14 : decode cX2_init 14 = .ok (.iconst 0, 1) := by decide +kernel
theorem dX2_init_15 : decode cX2_init 15 = .ok (.putfield 17, 3) := by decide +kernel
theorem dX2_init_18 : decode cX2_init 18 = .ok (.aload_n 0, 1) := by decide +kernel
theorem dX2_init_19 : decode cX2_init 19 = .ok (.iconst 0, 1) := by decide +kernel
theorem dX2_init_20 : decode cX2_init 20 = .ok (.putfield 21, 3) := by decide +kernel
theorem dX2_init_23 : decode cX2_init 23 = .ok (.iconst 0, 1) := by decide +kernel
theorem dX2_init_24 : decode cX2_init 24 = .ok (.istore_n 1, 1) := by decide +kernel
theorem dX2_init_25 : decode cX2_init 25 = .ok (.iload_n 1, 1) := by decide +kernel
theorem dX2_init_26 : decode cX2_init 26 = .ok (.bipush 10, 2) := by decide +kernel
theorem dX2_init_28 : decode cX2_init 28 = .ok (.if_icmp .ge 22, 3) := by decide +kernel
theorem dX2_init_31 : decode cX2_init 31 = .ok (.aload_n 0, 1) := by decide +kernel
theorem dX2_init_32 : decode cX2_init 32 = .ok (.getfield 11, 3) := by decide +kernel
theorem dX2_init_35 : decode cX2_init 35 = .ok (.iload_n 1, 1) := by decide +kernel
theorem dX2_init_36 : decode cX2_init 36 = .ok (.new 9, 3) := by decide +kernel
theorem dX2_init_39 : decode cX2_init 39 = .ok (.dup, 1) := by decide +kernel
theorem dX2_init_40 : decode cX2_init 40 = .ok (.invokespecial 24, 3) := by decide +kernel
theorem dX2_init_43 : decode cX2_init 43 = .ok (.aastore, 1) := by decide +kernel
theorem dX2_init_44 : decode cX2_init 44 = .ok (.iinc 1 1, 3) := by decide +kernel
theorem dX2_init_47 : decode cX2_init 47 = .ok (.goto (-22), 3) := by decide +kernel
theorem dX2_init_50 : decode cX2_init 50 = .ok (.return_, 1) := by decide +kernel
theorem dX2_remember_0 : decode cX2_remember 0 = .ok (.aload_n 0, 1) := by decide +kernel
theorem dX2_remember_1 : decode cX2_remember 1 = .ok (.aload_n 0, 1) := by decide +kernel
theorem dX2_remember_2 : decode cX2_remember 2 = .ok (.getfield 17, 3) := by decide +kernel
theorem dX2_remember_5 : decode cX2_remember 5 = .ok (.iconst 1, 1) := by decide +kernel
theorem dX2_remember_6 : decode cX2_remember 6 = .ok (.iadd, 1) := by decide +kernel
theorem dX2_remember_7 : decode cX2_remember 7 = .ok (.bipush 10, 2) := by decide +kernel
theorem dX2_remember_9 : decode cX2_remember 9 = .ok (.irem, 1) := by decide +kernel
theorem dX2_remember_10 : decode cX2_remember 10 = .ok (.putfield 17, 3) := by decide +kernel
theorem dX2_remember_13 : decode cX2_remember 13 = .ok (.aload_n 0, 1) := by decide +kernel
theorem dX2_remember_14 : decode cX2_remember 14 = .ok (.getfield 11, 3) := by decide +kernel
theorem dX2_remember_17 : decode cX2_remember 17 = .ok (.aload_n 0, 1) := by decide +kernel
theorem dX2_remember_18 : decode cX2_remember 18 = .ok (.getfield 17, 3) := by decide +kernel
theorem dX2_remember_21 : decode cX2_remember 21 = .ok (.aaload, 1) := by decide +kernel
theorem dX2_remember_22 : decode cX2_remember 22 = .ok (.aload_n 1, 1) := by decide +kernel
theorem dX2_remember_23 : decode cX2_remember 23 = .ok (.invokevirtual 25, 3) := by decide +kernel
theorem dX2_remember_26 : decode cX2_remember 26 = .ok (.aload_n 0, 1) := by decide +kernel
theorem dX2_remember_27 : decode cX2_remember 27 = .ok (.bipush 10, 2) := by decide +kernel
theorem dX2_remember_29 : decode cX2_remember 29 = .ok (.aload_n 0, 1) := by decide +kernel
theorem dX2_remember_30 : decode cX2_remember 30 = .ok (.getfield 21, 3) := by decide +kernel
theorem dX2_remember_33 : decode cX2_remember 33 = .ok (.iconst 1, 1) := by decide +kernel
theorem dX2_remember_34 : decode cX2_remember 34 = .ok (.iadd, 1) := by decide +kernel
theorem dX2_remember_35 : decode cX2_remember 35 = .ok (.invokestatic 29, 3) := by decide +kernel
theorem dX2_remember_38 : decode cX2_remember 38 = .ok (.putfield 21, 3) := by decide +kernel
theorem dX2_remember_41 : decode cX2_remember 41 = .ok (.return_, 1) := by decide +kernel
theorem dX2_takeBack_0 : decode cX2_takeBack 0 = .ok (.aload_n 0, 1) := by decide +kernel
theorem dX2_takeBack_1 : decode cX2_takeBack 1 = .ok (.getfield 21, 3) := by decide +kernel
theorem dX2_takeBack_4 : decode cX2_takeBack 4 = .ok (.ifCond .le 42, 3) := by decide +kernel
theorem dX2_takeBack_7 : decode cX2_takeBack 7 = .ok (.aload_n 1, 1) := by decide +kernel
theorem dX2_takeBack_8 : decode cX2_takeBack 8 = .ok (.aload_n 0, 1) := by decide +kernel
theorem dX2_takeBack_9 : decode cX2_takeBack 9 = .ok (.getfield 11, 3) := by decide +kernel
theorem dX2_takeBack_12 : decode cX2_takeBack 12 = .ok (.aload_n 0, 1) := by decide +kernel
theorem dX2_takeBack_13 : decode cX2_takeBack 13 = .ok (.getfield 17, 3) := by decide +kernel
theorem dX2_takeBack_16 : decode cX2_takeBack 16 = .ok (.aaload, 1) := by decide +kernel
theorem dX2_takeBack_17 : decode cX2_takeBack 17 = .ok (.invokevirtual 25, 3) := by decide +kernel
theorem dX2_takeBack_20 : decode cX2_takeBack 20 = .ok (.aload_n 0, 1) := by decide +kernel
theorem dX2_takeBack_21 : decode cX2_takeBack 21 = .ok (.aload_n 0, 1) := by decide +kernel
theorem dX2_takeBack_22 : decode cX2_takeBack 22 = .ok (.getfield 17, 3) := by decide +kernel
theorem dX2_takeBack_25 : decode cX2_takeBack 25 = .ok (.bipush 10, 2) := by decide +kernel
theorem dX2_takeBack_27 : decode cX2_takeBack 27 = .ok (.iadd, 1) := by decide +kernel
theorem dX2_takeBack_28 : decode cX2_takeBack 28 = .ok (.iconst 1, 1) := by decide +kernel
theorem dX2_takeBack_29 : decode cX2_takeBack 29 = .ok (.isub, 1) := by decide +kernel
theorem dX2_takeBack_30 : decode cX2_takeBack 30 = .ok (.bipush 10, 2) := by decide +kernel
theorem dX2_takeBack_32 : decode cX2_takeBack 32 = .ok (.irem, 1) := by decide +kernel
theorem dX2_takeBack_33 : decode cX2_takeBack 33 = .ok (.putfield 17, 3) := by decide +kernel
theorem dX2_takeBack_36 : decode cX2_takeBack 36 = .ok (.aload_n 0, 1) := by decide +kernel
theorem dX2_takeBack_37 : decode cX2_takeBack 37 = .ok (.dup, 1) := by decide +kernel
theorem dX2_takeBack_38 : decode cX2_takeBack 38 = .ok (.getfield 21, 3) := by decide +kernel
theorem dX2_takeBack_41 : decode cX2_takeBack 41 = .ok (.iconst 1, 1) := by decide +kernel
theorem dX2_takeBack_42 : decode cX2_takeBack 42 = .ok (.isub, 1) := by decide +kernel
theorem dX2_takeBack_43 : decode cX2_takeBack 43 = .ok (.putfield 21, 3) := by decide +kernel
theorem dX2_takeBack_46 : decode cX2_takeBack 46 = .ok (.return_, 1) := by decide +kernel
theorem dX2_lose_0 : decode cX2_lose 0 = .ok (.aload_n 0, 1) := by decide +kernel
theorem dX2_lose_1 : decode cX2_lose 1 = .ok (.iconst 0, 1) := by decide +kernel
theorem dX2_lose_2 : decode cX2_lose 2 = .ok (.putfield 21, 3) := by decide +kernel
theorem dX2_lose_5 : decode cX2_lose 5 = .ok (.return_, 1) := by decide +kernel
theorem dX3_init_0 : decode cX3_init 0 = .ok (.aload_n 0, 1) := by decide +kernel
theorem dX3_init_1 : decode cX3_init 1 = .ok (.invokespecial 3, 3) := by decide +kernel
theorem dX3_init_4 : decode cX3_init 4 = .ok (.aload_n 0, 1) := by decide +kernel
theorem dX3_init_5 : decode cX3_init 5 = .ok (.sipush 200, 3) := by decide +kernel
theorem dX3_init_8 : decode cX3_init 8 = .ok (.newarray .char, 2) := by decide +kernel
theorem dX3_init_10 : decode cX3_init 10 = .ok (.putfield 9, 3) := by decide +kernel
theorem dX3_init_13 : decode cX3_init 13 = .ok (.aload_n 0, 1) := by decide +kernel
theorem dX3_init_14 : decode cX3_init 14 = .ok (.iconst 0, 1) := by decide +kernel
theorem dX3_init_15 : decode cX3_init 15 = .ok (.putfield 15, 3) := by decide +kernel
theorem dX3_init_18 : decode cX3_init 18 = .ok (.aload_n 0, 1) := by decide +kernel
theorem dX3_init_19 : decode cX3_init 19 = .ok (.iconst 0, 1) := by decide +kernel
theorem dX3_init_20 : decode cX3_init 20 = .ok (.putfield 19, 3) := by decide +kernel
theorem dX3_init_23 : decode cX3_init 23 = .ok (.aload_n 0, 1) := by decide +kernel
theorem dX3_init_24 : decode cX3_init 24 = .ok (.iconst 0, 1) := by decide +kernel
theorem dX3_init_25 : decode cX3_init 25 = .ok (.putfield 22, 3) := by decide +kernel
theorem dX3_init_28 : decode cX3_init 28 = .ok (.aload_n 0, 1) := by decide +kernel
theorem dX3_init_29 : decode cX3_init 29 = .ok (.sipush 257, 3) := by decide +kernel
theorem dX3_init_32 : decode cX3_init 32 = .ok (.putfield 25, 3) := by decide +kernel
theorem dX3_init_35 : decode cX3_init 35 = .ok (.aload_n 0, 1) := by decide +kernel
theorem dX3_init_36 : decode cX3_init 36 = .ok (.iconst 0, 1) := by decide +kernel
theorem dX3_init_37 : decode cX3_init 37 = .ok (.putfield 28, 3) := by decide +kernel
theorem dX3_init_40 : decode cX3_init 40 = .ok (.aload_n 0, 1) := by decide +kernel
theorem dX3_init_41 : decode cX3_init 41 = .ok (.iconst 0, 1) := by decide +kernel
theorem dX3_init_42 : decode cX3_init 42 = .ok (.putfield 31, 3) := by decide +kernel
theorem dX3_init_45 : decode cX3_init 45 = .ok (.aload_n 0, 1) := by decide +kernel
theorem dX3_init_46 : decode cX3_init 46 = .ok (.iconst 0, 1) := by decide +kernel
theorem dX3_init_47 : decode cX3_init 47 = .ok (.putfield 35, 3) := by decide +kernel
theorem dX3_init_50 : decode cX3_init 50 = .ok (.return_, 1) := by decide +kernel
theorem dX3_hasRoom_0 : decode cX3_hasRoom 0 = .ok (.aload_n 0, 1) := by decide +kernel
theorem dX3_hasRoom_1 : decode cX3_hasRoom 1 = .ok (.getfield 15, 3) := by decide +kernel
theorem dX3_hasRoom_4 : decode cX3_hasRoom 4 = .ok (.sipush 200, 3) := by decide +kernel
theorem dX3_hasRoom_7 : decode cX3_hasRoom 7 = .ok (.if_icmp .ge 7, 3) := by decide +kernel
theorem dX3_hasRoom_10 : decode cX3_hasRoom 10 = .ok (.iconst 1, 1) := by decide +kernel
theorem dX3_hasRoom_11 : decode cX3_hasRoom 11 = .ok (.goto 4, 3) := by decide +kernel
theorem dX3_hasRoom_14 : decode cX3_hasRoom 14 = .ok (.iconst 0, 1) := by decide +kernel
theorem dX3_hasRoom_15 : decode cX3_hasRoom 15 = .ok (.ireturn, 1) := by decide +kernel
theorem dX3_append_0 : decode cX3_append 0 = .ok (.aload_n 0, 1) := by decide +kernel
theorem dX3_append_1 : decode cX3_append 1 = .ok (.invokevirtual 38, 3) := by decide +kernel
theorem dX3_append_4 : decode cX3_append 4 = .ok (.ifCond .eq 23, 3) := by decide +kernel
theorem dX3_append_7 : decode cX3_append 7 = .ok (.aload_n 0, 1) := by decide +kernel
theorem dX3_append_8 : decode cX3_append 8 = .ok (.getfield 9, 3) := by decide +kernel
theorem dX3_append_11 : decode cX3_append 11 = .ok (.aload_n 0, 1) := by decide +kernel
theorem dX3_append_12 : decode cX3_append 12 = .ok (.getfield 15, 3) := by decide +kernel
theorem dX3_append_15 : decode cX3_append 15 = .ok (.iload_n 1, 1) := by decide +kernel
theorem dX3_append_16 : decode cX3_append 16 = .ok (.castore, 1) := by decide +kernel
theorem dX3_append_17 : decode cX3_append 17 = .ok (.aload_n 0, 1) := by decide +kernel
theorem dX3_append_18 : decode cX3_append 18 = .ok (.dup, 1) := by decide +kernel
theorem dX3_append_19 : decode cX3_append 19 = .ok (.getfield 15, 3) := by decide +kernel
theorem dX3_append_22 : decode cX3_append 22 = .ok (.iconst 1, 1) := by decide +kernel
theorem dX3_append_23 : decode cX3_append 23 = .ok (.iadd, 1) := by decide +kernel
theorem dX3_append_24 : decode cX3_append 24 = .ok (.putfield 15, 3) := by decide +kernel
theorem dX3_append_27 : decode cX3_append 27 = .ok (.aload_n 0, 1) := by decide +kernel
theorem dX3_append_28 : decode cX3_append 28 = .ok (.getfield 15, 3) := by decide +kernel
theorem dX3_append_31 : decode cX3_append 31 = .ok (.ireturn, 1) := by decide +kernel
theorem dX3_empty_0 : decode cX3_empty 0 = .ok (.aload_n 0, 1) := by decide +kernel
theorem dX3_empty_1 : decode cX3_empty 1 = .ok (.getfield 15, 3) := by decide +kernel
theorem dX3_empty_4 : decode cX3_empty 4 = .ok (.istore_n 1, 1) := by decide +kernel
theorem dX3_empty_5 : decode cX3_empty 5 = .ok (.aload_n 0, 1) := by decide +kernel
theorem dX3_empty_6 : decode cX3_empty 6 = .ok (.iconst 0, 1) := by decide +kernel
theorem dX3_empty_7 : decode cX3_empty 7 = .ok (.putfield 15, 3) := by decide +kernel
theorem dX3_empty_10 : decode cX3_empty 10 = .ok (.iload_n 1, 1) := by decide +kernel
theorem dX3_empty_11 : decode cX3_empty 11 = .ok (.ireturn, 1) := by decide +kernel
theorem dX3_readInto_0 : decode cX3_readInto 0 = .ok (.aload_n 1, 1) := by decide +kernel
theorem dX3_readInto_1 : decode cX3_readInto 1 = .ok (.invokevirtual 42, 3) := by decide +kernel
theorem dX3_readInto_4 : decode cX3_readInto 4 = .ok (.aload_n 0, 1) := by decide +kernel
theorem dX3_readInto_5 : decode cX3_readInto 5 = .ok (.iconst 0, 1) := by decide +kernel
theorem dX3_readInto_6 : decode cX3_readInto 6 = .ok (.putfield 19, 3) := by decide +kernel
theorem dX3_readInto_9 : decode cX3_readInto 9 = .ok (.aload_n 0, 1) := by decide +kernel
theorem dX3_readInto_10 : decode cX3_readInto 10 = .ok (.iconst 0, 1) := by decide +kernel
theorem dX3_readInto_11 : decode cX3_readInto 11 = .ok (.putfield 31, 3) := by decide +kernel
theorem dX3_readInto_14 : decode cX3_readInto 14 = .ok (.aload_n 0, 1) := by decide +kernel
theorem dX3_readInto_15 : decode cX3_readInto 15 = .ok (.iconst 0, 1) := by decide +kernel
theorem dX3_readInto_16 : decode cX3_readInto 16 = .ok (.putfield 35, 3) := by decide +kernel
theorem dX3_readInto_19 : decode cX3_readInto 19 = .ok (.iconst 0, 1) := by decide +kernel
theorem dX3_readInto_20 : decode cX3_readInto 20 = .ok (.istore_n 2, 1) := by decide +kernel
theorem dX3_readInto_21 : decode cX3_readInto 21 = .ok (.iload_n 2, 1) := by decide +kernel
theorem dX3_readInto_22 : decode cX3_readInto 22 = .ok (.aload_n 0, 1) := by decide +kernel
theorem dX3_readInto_23 : decode cX3_readInto 23 = .ok (.getfield 15, 3) := by decide +kernel
theorem dX3_readInto_26 : decode cX3_readInto 26 = .ok (.if_icmp .gt 37, 3) := by decide +kernel
theorem dX3_readInto_29 : decode cX3_readInto 29 = .ok (.aload_n 0, 1) := by decide +kernel
theorem dX3_readInto_30 : decode cX3_readInto 30 = .ok (.invokevirtual 47, 3) := by decide +kernel
theorem dX3_readInto_33 : decode cX3_readInto 33 = .ok (.aload_n 0, 1) := by decide +kernel
theorem dX3_readInto_34 : decode cX3_readInto 34 = .ok (.getfield 25, 3) := by decide +kernel
theorem dX3_readInto_37 : decode cX3_readInto 37 = .ok (.sipush 257, 3) := by decide +kernel
theorem dX3_readInto_40 : decode cX3_readInto 40 = .ok (.if_icmp .ne 5, 3) := by decide +kernel
theorem dX3_readInto_43 : decode cX3_readInto 43 = .ok (.iload_n 2, 1) := by decide +kernel
theorem dX3_readInto_44 : decode cX3_readInto 44 = .ok (.ireturn, 1) := by decide +kernel
theorem dX3_readInto_45 : decode cX3_readInto 45 = .ok (.aload_n 0, 1) := by decide +kernel
theorem dX3_readInto_46 : decode cX3_readInto 46 = .ok (.aload_n 1, 1) := by decide +kernel
theorem dX3_readInto_47 : decode cX3_readInto 47 = .ok (.iload_n 2, 1) := by decide +kernel
theorem dX3_readInto_48 : decode cX3_readInto 48 = .ok (.invokevirtual 50, 3) := by decide +kernel
theorem dX3_readInto_51 : decode cX3_readInto 51 = .ok (.ifCond .ne 6, 3) := by decide +kernel
theorem dX3_readInto_54 : decode cX3_readInto 54 = .ok (.goto 9, 3) := by decide +kernel
theorem dX3_readInto_57 : decode cX3_readInto 57 = .ok (.iinc 2 1, 3) := by decide +kernel
theorem dX3_readInto_60 : decode cX3_readInto 60 = .ok (.goto (-39), 3) := by decide +kernel
theorem dX3_readInto_63 : decode cX3_readInto 63 = .ok (.bipush (-10), 2) := by decide +kernel
theorem dX3_readInto_65 : decode cX3_readInto 65 = .ok (.aload_n 0, 1) := by decide +kernel
theorem dX3_readInto_66 : decode cX3_readInto 66 = .ok (.getfield 22, 3) := by decide +kernel
theorem dX3_readInto_69 : decode cX3_readInto 69 = .ok (.isub, 1) := by decide +kernel
theorem dX3_readInto_70 : decode cX3_readInto 70 = .ok (.ireturn, 1) := by decide +kernel
theorem dX3_takesItem_0 : decode cX3_takesItem 0 = .ok (.aload_n 0, 1) := by decide +kernel
theorem dX3_takesItem_1 : decode cX3_takesItem 1 = .ok (.getfield 25, 3) := by decide +kernel
theorem dX3_takesItem_4 : decode cX3_takesItem 4 = .ok (.lookupswitch 191 #[(98, 52), (102, 163), (109, 106), (112, 77), (119, 135)], 52) := by decide +kernel
theorem dX3_takesItem_56 : decode cX3_takesItem 56 = .ok (.iload_n 2, 1) := by decide +kernel
theorem dX3_takesItem_57 : decode cX3_takesItem 57 = .ok (.ifCond .ne 22, 3) := by decide +kernel
theorem dX3_takesItem_60 : decode cX3_takesItem 60 = .ok (.aload_n 0, 1) := by decide +kernel
theorem dX3_takesItem_61 : decode cX3_takesItem 61 = .ok (.aload_n 1, 1) := by decide +kernel
theorem dX3_takesItem_62 : decode cX3_takesItem 62 = .ok (.invokevirtual 54, 3) := by decide +kernel
theorem dX3_takesItem_65 : decode cX3_takesItem 65 = .ok (.ifCond .eq 14, 3) := by decide +kernel
theorem dX3_takesItem_68 : decode cX3_takesItem 68 = .ok (.aload_n 0, 1) := by decide +kernel
theorem dX3_takesItem_69 : decode cX3_takesItem 69 = .ok (.invokevirtual 58, 3) := by decide +kernel
theorem dX3_takesItem_72 : decode cX3_takesItem 72 = .ok (.ifCond .eq 7, 3) := by decide +kernel
theorem dX3_takesItem_75 : decode cX3_takesItem 75 = .ok (.iconst 1, 1) := by decide +kernel
theorem dX3_takesItem_76 : decode cX3_takesItem 76 = .ok (.goto 4, 3) := by decide +kernel
theorem dX3_takesItem_79 : decode cX3_takesItem 79 = .ok (.iconst 0, 1) := by decide +kernel
theorem dX3_takesItem_80 : decode cX3_takesItem 80 = .ok (.ireturn, 1) := by decide +kernel
theorem dX3_takesItem_81 : decode cX3_takesItem 81 = .ok (.aload_n 1, 1) := by decide +kernel
theorem dX3_takesItem_82 : decode cX3_takesItem 82 = .ok (.getfield 61, 3) := by decide +kernel
theorem dX3_takesItem_85 : decode cX3_takesItem 85 = .ok (.iconst 5, 1) := by decide +kernel
theorem dX3_takesItem_86 : decode cX3_takesItem 86 = .ok (.if_icmp .ge 22, 3) := by decide +kernel
theorem dX3_takesItem_89 : decode cX3_takesItem 89 = .ok (.aload_n 0, 1) := by decide +kernel
theorem dX3_takesItem_90 : decode cX3_takesItem 90 = .ok (.aload_n 1, 1) := by decide +kernel
theorem dX3_takesItem_91 : decode cX3_takesItem 91 = .ok (.invokevirtual 64, 3) := by decide +kernel
theorem dX3_takesItem_94 : decode cX3_takesItem 94 = .ok (.ifCond .eq 14, 3) := by decide +kernel
theorem dX3_takesItem_97 : decode cX3_takesItem 97 = .ok (.aload_n 0, 1) := by decide +kernel
theorem dX3_takesItem_98 : decode cX3_takesItem 98 = .ok (.invokevirtual 58, 3) := by decide +kernel
theorem dX3_takesItem_101 : decode cX3_takesItem 101 = .ok (.ifCond .eq 7, 3) := by decide +kernel
theorem dX3_takesItem_104 : decode cX3_takesItem 104 = .ok (.iconst 1, 1) := by decide +kernel
theorem dX3_takesItem_105 : decode cX3_takesItem 105 = .ok (.goto 4, 3) := by decide +kernel
theorem dX3_takesItem_108 : decode cX3_takesItem 108 = .ok (.iconst 0, 1) := by decide +kernel
theorem dX3_takesItem_109 : decode cX3_takesItem 109 = .ok (.ireturn, 1) := by decide +kernel
theorem dX3_takesItem_110 : decode cX3_takesItem 110 = .ok (.aload_n 1, 1) := by decide +kernel
theorem dX3_takesItem_111 : decode cX3_takesItem 111 = .ok (.getfield 67, 3) := by decide +kernel
theorem dX3_takesItem_114 : decode cX3_takesItem 114 = .ok (.iconst 5, 1) := by decide +kernel
theorem dX3_takesItem_115 : decode cX3_takesItem 115 = .ok (.if_icmp .ge 22, 3) := by decide +kernel
theorem dX3_takesItem_118 : decode cX3_takesItem 118 = .ok (.aload_n 0, 1) := by decide +kernel
theorem dX3_takesItem_119 : decode cX3_takesItem 119 = .ok (.aload_n 1, 1) := by decide +kernel
theorem dX3_takesItem_120 : decode cX3_takesItem 120 = .ok (.invokevirtual 70, 3) := by decide +kernel
theorem dX3_takesItem_123 : decode cX3_takesItem 123 = .ok (.ifCond .eq 14, 3) := by decide +kernel
theorem dX3_takesItem_126 : decode cX3_takesItem 126 = .ok (.aload_n 0, 1) := by decide +kernel
theorem dX3_takesItem_127 : decode cX3_takesItem 127 = .ok (.invokevirtual 58, 3) := by decide +kernel
theorem dX3_takesItem_130 : decode cX3_takesItem 130 = .ok (.ifCond .eq 7, 3) := by decide +kernel
theorem dX3_takesItem_133 : decode cX3_takesItem 133 = .ok (.iconst 1, 1) := by decide +kernel
theorem dX3_takesItem_134 : decode cX3_takesItem 134 = .ok (.goto 4, 3) := by decide +kernel
theorem dX3_takesItem_137 : decode cX3_takesItem 137 = .ok (.iconst 0, 1) := by decide +kernel
theorem dX3_takesItem_138 : decode cX3_takesItem 138 = .ok (.ireturn, 1) := by decide +kernel
theorem dX3_takesItem_139 : decode cX3_takesItem 139 = .ok (.aload_n 0, 1) := by decide +kernel
theorem dX3_takesItem_140 : decode cX3_takesItem 140 = .ok (.getfield 31, 3) := by decide +kernel
theorem dX3_takesItem_143 : decode cX3_takesItem 143 = .ok (.ifCond .ne 22, 3) := by decide +kernel
theorem dX3_takesItem_146 : decode cX3_takesItem 146 = .ok (.aload_n 0, 1) := by decide +kernel
theorem dX3_takesItem_147 : decode cX3_takesItem 147 = .ok (.aload_n 1, 1) := by decide +kernel
theorem dX3_takesItem_148 : decode cX3_takesItem 148 = .ok (.invokevirtual 73, 3) := by decide +kernel
theorem dX3_takesItem_151 : decode cX3_takesItem 151 = .ok (.ifCond .eq 14, 3) := by decide +kernel
theorem dX3_takesItem_154 : decode cX3_takesItem 154 = .ok (.aload_n 0, 1) := by decide +kernel
theorem dX3_takesItem_155 : decode cX3_takesItem 155 = .ok (.invokevirtual 58, 3) := by decide +kernel
theorem dX3_takesItem_158 : decode cX3_takesItem 158 = .ok (.ifCond .eq 7, 3) := by decide +kernel
theorem dX3_takesItem_161 : decode cX3_takesItem 161 = .ok (.iconst 1, 1) := by decide +kernel
theorem dX3_takesItem_162 : decode cX3_takesItem 162 = .ok (.goto 4, 3) := by decide +kernel
theorem dX3_takesItem_165 : decode cX3_takesItem 165 = .ok (.iconst 0, 1) := by decide +kernel
theorem dX3_takesItem_166 : decode cX3_takesItem 166 = .ok (.ireturn, 1) := by decide +kernel
theorem dX3_takesItem_167 : decode cX3_takesItem 167 = .ok (.aload_n 0, 1) := by decide +kernel
theorem dX3_takesItem_168 : decode cX3_takesItem 168 = .ok (.getfield 35, 3) := by decide +kernel
theorem dX3_takesItem_171 : decode cX3_takesItem 171 = .ok (.ifCond .ne 22, 3) := by decide +kernel
theorem dX3_takesItem_174 : decode cX3_takesItem 174 = .ok (.aload_n 0, 1) := by decide +kernel
theorem dX3_takesItem_175 : decode cX3_takesItem 175 = .ok (.aload_n 1, 1) := by decide +kernel
theorem dX3_takesItem_176 : decode cX3_takesItem 176 = .ok (.invokevirtual 76, 3) := by decide +kernel
theorem dX3_takesItem_179 : decode cX3_takesItem 179 = .ok (.ifCond .eq 14, 3) := by decide +kernel
theorem dX3_takesItem_182 : decode cX3_takesItem 182 = .ok (.aload_n 0, 1) := by decide +kernel
theorem dX3_takesItem_183 : decode cX3_takesItem 183 = .ok (.invokevirtual 58, 3) := by decide +kernel
theorem dX3_takesItem_186 : decode cX3_takesItem 186 = .ok (.ifCond .eq 7, 3) := by decide +kernel
theorem dX3_takesItem_189 : decode cX3_takesItem 189 = .ok (.iconst 1, 1) := by decide +kernel
theorem dX3_takesItem_190 : decode cX3_takesItem 190 = .ok (.goto 4, 3) := by decide +kernel
theorem dX3_takesItem_193 : decode cX3_takesItem 193 = .ok (.iconst 0, 1) := by decide +kernel
theorem dX3_takesItem_194 : decode cX3_takesItem 194 = .ok (.ireturn, 1) := by decide +kernel
theorem dX3_takesItem_195 : decode cX3_takesItem 195 = .ok (.iconst 0, 1) := by decide +kernel
theorem dX3_takesItem_196 : decode cX3_takesItem 196 = .ok (.ireturn, 1) := by decide +kernel
theorem dX3_takesBars_0 : decode cX3_takesBars 0 = .ok (.aload_n 0, 1) := by decide +kernel
theorem dX3_takesBars_1 : decode cX3_takesBars 1 = .ok (.iconst 1, 1) := by decide +kernel
theorem dX3_takesBars_2 : decode cX3_takesBars 2 = .ok (.bipush 12, 2) := by decide +kernel
theorem dX3_takesBars_4 : decode cX3_takesBars 4 = .ok (.invokevirtual 79, 3) := by decide +kernel
theorem dX3_takesBars_7 : decode cX3_takesBars 7 = .ok (.ifCond .ne 5, 3) := by decide +kernel
theorem dX3_takesBars_10 : decode cX3_takesBars 10 = .ok (.iconst 0, 1) := by decide +kernel
theorem dX3_takesBars_11 : decode cX3_takesBars 11 = .ok (.ireturn, 1) := by decide +kernel
theorem dX3_takesBars_12 : decode cX3_takesBars 12 = .ok (.aload_n 1, 1) := by decide +kernel
theorem dX3_takesBars_13 : decode cX3_takesBars 13 = .ok (.aload_n 0, 1) := by decide +kernel
theorem dX3_takesBars_14 : decode cX3_takesBars 14 = .ok (.getfield 28, 3) := by decide +kernel
theorem dX3_takesBars_17 : decode cX3_takesBars 17 = .ok (.putfield 83, 3) := by decide +kernel
theorem dX3_takesBars_20 : decode cX3_takesBars 20 = .ok (.iconst 1, 1) := by decide +kernel
theorem dX3_takesBars_21 : decode cX3_takesBars 21 = .ok (.ireturn, 1) := by decide +kernel
theorem dX3_takesPart_0 : decode cX3_takesPart 0 = .ok (.aload_n 0, 1) := by decide +kernel
theorem dX3_takesPart_1 : decode cX3_takesPart 1 = .ok (.iconst 1, 1) := by decide +kernel
theorem dX3_takesPart_2 : decode cX3_takesPart 2 = .ok (.bipush 9, 2) := by decide +kernel
theorem dX3_takesPart_4 : decode cX3_takesPart 4 = .ok (.invokevirtual 79, 3) := by decide +kernel
theorem dX3_takesPart_7 : decode cX3_takesPart 7 = .ok (.ifCond .ne 5, 3) := by decide +kernel
theorem dX3_takesPart_10 : decode cX3_takesPart 10 = .ok (.iconst 0, 1) := by decide +kernel
theorem dX3_takesPart_11 : decode cX3_takesPart 11 = .ok (.ireturn, 1) := by decide +kernel
theorem dX3_takesPart_12 : decode cX3_takesPart 12 = .ok (.aload_n 0, 1) := by decide +kernel
theorem dX3_takesPart_13 : decode cX3_takesPart 13 = .ok (.getfield 28, 3) := by decide +kernel
theorem dX3_takesPart_16 : decode cX3_takesPart 16 = .ok (.istore_n 2, 1) := by decide +kernel
theorem dX3_takesPart_17 : decode cX3_takesPart 17 = .ok (.iconst 0, 1) := by decide +kernel
theorem dX3_takesPart_18 : decode cX3_takesPart 18 = .ok (.istore_n 3, 1) := by decide +kernel
theorem dX3_takesPart_19 : decode cX3_takesPart 19 = .ok (.iconst 0, 1) := by decide +kernel
theorem dX3_takesPart_20 : decode cX3_takesPart 20 = .ok (.istore 4, 2) := by decide +kernel
theorem dX3_takesPart_22 : decode cX3_takesPart 22 = .ok (.iload 4, 2) := by decide +kernel
theorem dX3_takesPart_24 : decode cX3_takesPart 24 = .ok (.aload_n 1, 1) := by decide +kernel
theorem dX3_takesPart_25 : decode cX3_takesPart 25 = .ok (.getfield 83, 3) := by decide +kernel
theorem dX3_takesPart_28 : decode cX3_takesPart 28 = .ok (.if_icmp .ge 53, 3) := by decide +kernel
theorem dX3_takesPart_31 : decode cX3_takesPart 31 = .ok (.aload_n 0, 1) := by decide +kernel
theorem dX3_takesPart_32 : decode cX3_takesPart 32 = .ok (.invokevirtual 47, 3) := by decide +kernel
theorem dX3_takesPart_35 : decode cX3_takesPart 35 = .ok (.aload_n 0, 1) := by decide +kernel
theorem dX3_takesPart_36 : decode cX3_takesPart 36 = .ok (.getfield 25, 3) := by decide +kernel
theorem dX3_takesPart_39 : decode cX3_takesPart 39 = .ok (.bipush 110, 2) := by decide +kernel
theorem dX3_takesPart_41 : decode cX3_takesPart 41 = .ok (.if_icmp .eq 14, 3) := by decide +kernel
theorem dX3_takesPart_44 : decode cX3_takesPart 44 = .ok (.aload_n 0, 1) := by decide +kernel
theorem dX3_takesPart_45 : decode cX3_takesPart 45 = .ok (.getfield 25, 3) := by decide +kernel
theorem dX3_takesPart_48 : decode cX3_takesPart 48 = .ok (.bipush 114, 2) := by decide +kernel
theorem dX3_takesPart_50 : decode cX3_takesPart 50 = .ok (.if_icmp .eq 5, 3) := by decide +kernel
theorem dX3_takesPart_53 : decode cX3_takesPart 53 = .ok (.iconst 0, 1) := by decide +kernel
theorem dX3_takesPart_54 : decode cX3_takesPart 54 = .ok (.ireturn, 1) := by decide +kernel
theorem dX3_takesPart_55 : decode cX3_takesPart 55 = .ok (.iload_n 3, 1) := by decide +kernel
theorem dX3_takesPart_56 : decode cX3_takesPart 56 = .ok (.aload_n 0, 1) := by decide +kernel
theorem dX3_takesPart_57 : decode cX3_takesPart 57 = .ok (.getfield 25, 3) := by decide +kernel
theorem dX3_takesPart_60 : decode cX3_takesPart 60 = .ok (.bipush 110, 2) := by decide +kernel
theorem dX3_takesPart_62 : decode cX3_takesPart 62 = .ok (.if_icmp .ne 10, 3) := by decide +kernel
theorem dX3_takesPart_65 : decode cX3_takesPart 65 = .ok (.iconst 1, 1) := by decide +kernel
theorem dX3_takesPart_66 : decode cX3_takesPart 66 = .ok (.iload 4, 2) := by decide +kernel
theorem dX3_takesPart_68 : decode cX3_takesPart 68 = .ok (.ishl, 1) := by decide +kernel
theorem dX3_takesPart_69 : decode cX3_takesPart 69 = .ok (.goto 4, 3) := by decide +kernel
theorem dX3_takesPart_72 : decode cX3_takesPart 72 = .ok (.iconst 0, 1) := by decide +kernel
theorem dX3_takesPart_73 : decode cX3_takesPart 73 = .ok (.ior, 1) := by decide +kernel
theorem dX3_takesPart_74 : decode cX3_takesPart 74 = .ok (.istore_n 3, 1) := by decide +kernel
theorem dX3_takesPart_75 : decode cX3_takesPart 75 = .ok (.iinc 4 1, 3) := by decide +kernel
theorem dX3_takesPart_78 : decode cX3_takesPart 78 = .ok (.goto (-56), 3) := by decide +kernel
theorem dX3_takesPart_81 : decode cX3_takesPart 81 = .ok (.aload_n 1, 1) := by decide +kernel
theorem dX3_takesPart_82 : decode cX3_takesPart 82 = .ok (.getfield 86, 3) := by decide +kernel
theorem dX3_takesPart_85 : decode cX3_takesPart 85 = .ok (.aload_n 1, 1) := by decide +kernel
theorem dX3_takesPart_86 : decode cX3_takesPart 86 = .ok (.getfield 61, 3) := by decide +kernel
theorem dX3_takesPart_89 : decode cX3_takesPart 89 = .ok (.iload_n 2, 1) := by decide +kernel
theorem dX3_takesPart_90 : decode cX3_takesPart 90 = .ok (.iastore, 1) := by decide +kernel
theorem dX3_takesPart_91 : decode cX3_takesPart 91 = .ok (.aload_n 1, 1) := by decide +kernel
theorem dX3_takesPart_92 : decode cX3_takesPart 92 = .ok (.getfield 90, 3) := by decide +kernel
theorem dX3_takesPart_95 : decode cX3_takesPart 95 = .ok (.aload_n 1, 1) := by decide +kernel
theorem dX3_takesPart_96 : decode cX3_takesPart 96 = .ok (.getfield 61, 3) := by decide +kernel
theorem dX3_takesPart_99 : decode cX3_takesPart 99 = .ok (.iload_n 3, 1) := by decide +kernel
theorem dX3_takesPart_100 : decode cX3_takesPart 100 = .ok (.iastore, 1) := by decide +kernel
theorem dX3_takesPart_101 : decode cX3_takesPart 101 = .ok (.aload_n 1, 1) := by decide +kernel
theorem dX3_takesPart_102 : decode cX3_takesPart 102 = .ok (.dup, 1) := by decide +kernel
theorem dX3_takesPart_103 : decode cX3_takesPart 103 = .ok (.getfield 61, 3) := by decide +kernel
theorem dX3_takesPart_106 : decode cX3_takesPart 106 = .ok (.iconst 1, 1) := by decide +kernel
theorem dX3_takesPart_107 : decode cX3_takesPart 107 = .ok (.iadd, 1) := by decide +kernel
theorem dX3_takesPart_108 : decode cX3_takesPart 108 = .ok (.putfield 61, 3) := by decide +kernel
theorem dX3_takesPart_111 : decode cX3_takesPart 111 = .ok (.iconst 1, 1) := by decide +kernel
theorem dX3_takesPart_112 : decode cX3_takesPart 112 = .ok (.ireturn, 1) := by decide +kernel
theorem dX3_takesPlayer_0 : decode cX3_takesPlayer 0 = .ok (.aload_n 0, 1) := by decide +kernel
theorem dX3_takesPlayer_1 : decode cX3_takesPlayer 1 = .ok (.iconst 1, 1) := by decide +kernel
theorem dX3_takesPlayer_2 : decode cX3_takesPlayer 2 = .ok (.bipush 12, 2) := by decide +kernel
theorem dX3_takesPlayer_4 : decode cX3_takesPlayer 4 = .ok (.invokevirtual 79, 3) := by decide +kernel
theorem dX3_takesPlayer_7 : decode cX3_takesPlayer 7 = .ok (.ifCond .ne 5, 3) := by decide +kernel
theorem dX3_takesPlayer_10 : decode cX3_takesPlayer 10 = .ok (.iconst 0, 1) := by decide +kernel
theorem dX3_takesPlayer_11 : decode cX3_takesPlayer 11 = .ok (.ireturn, 1) := by decide +kernel
theorem dX3_takesPlayer_12 : decode cX3_takesPlayer 12 = .ok (.aload_n 0, 1) := by decide +kernel
theorem dX3_takesPlayer_13 : decode cX3_takesPlayer 13 = .ok (.getfield 28, 3) := by decide +kernel
theorem dX3_takesPlayer_16 : decode cX3_takesPlayer 16 = .ok (.istore_n 2, 1) := by decide +kernel
theorem dX3_takesPlayer_17 : decode cX3_takesPlayer 17 = .ok (.aload_n 0, 1) := by decide +kernel
theorem dX3_takesPlayer_18 : decode cX3_takesPlayer 18 = .ok (.iconst 0, 1) := by decide +kernel
theorem dX3_takesPlayer_19 : decode cX3_takesPlayer 19 = .ok (.bipush 99, 2) := by decide +kernel
theorem dX3_takesPlayer_21 : decode cX3_takesPlayer 21 = .ok (.invokevirtual 79, 3) := by decide +kernel
theorem dX3_takesPlayer_24 : decode cX3_takesPlayer 24 = .ok (.ifCond .ne 5, 3) := by decide +kernel
theorem dX3_takesPlayer_27 : decode cX3_takesPlayer 27 = .ok (.iconst 0, 1) := by decide +kernel
theorem dX3_takesPlayer_28 : decode cX3_takesPlayer 28 = .ok (.ireturn, 1) := by decide +kernel
theorem dX3_takesPlayer_29 : decode cX3_takesPlayer 29 = .ok (.aload_n 1, 1) := by decide +kernel
theorem dX3_takesPlayer_30 : decode cX3_takesPlayer 30 = .ok (.getfield 93, 3) := by decide +kernel
theorem dX3_takesPlayer_33 : decode cX3_takesPlayer 33 = .ok (.aload_n 1, 1) := by decide +kernel
theorem dX3_takesPlayer_34 : decode cX3_takesPlayer 34 = .ok (.getfield 67, 3) := by decide +kernel
theorem dX3_takesPlayer_37 : decode cX3_takesPlayer 37 = .ok (.iload_n 2, 1) := by decide +kernel
theorem dX3_takesPlayer_38 : decode cX3_takesPlayer 38 = .ok (.iastore, 1) := by decide +kernel
theorem dX3_takesPlayer_39 : decode cX3_takesPlayer 39 = .ok (.aload_n 1, 1) := by decide +kernel
theorem dX3_takesPlayer_40 : decode cX3_takesPlayer 40 = .ok (.getfield 96, 3) := by decide +kernel
theorem dX3_takesPlayer_43 : decode cX3_takesPlayer 43 = .ok (.aload_n 1, 1) := by decide +kernel
theorem dX3_takesPlayer_44 : decode cX3_takesPlayer 44 = .ok (.getfield 67, 3) := by decide +kernel
theorem dX3_takesPlayer_47 : decode cX3_takesPlayer 47 = .ok (.aload_n 0, 1) := by decide +kernel
theorem dX3_takesPlayer_48 : decode cX3_takesPlayer 48 = .ok (.getfield 28, 3) := by decide +kernel
theorem dX3_takesPlayer_51 : decode cX3_takesPlayer 51 = .ok (.iastore, 1) := by decide +kernel
theorem dX3_takesPlayer_52 : decode cX3_takesPlayer 52 = .ok (.aload_n 1, 1) := by decide +kernel
theorem dX3_takesPlayer_53 : decode cX3_takesPlayer 53 = .ok (.dup, 1) := by decide +kernel
theorem dX3_takesPlayer_54 : decode cX3_takesPlayer 54 = .ok (.getfield 67, 3) := by decide +kernel
theorem dX3_takesPlayer_57 : decode cX3_takesPlayer 57 = .ok (.iconst 1, 1) := by decide +kernel
theorem dX3_takesPlayer_58 : decode cX3_takesPlayer 58 = .ok (.iadd, 1) := by decide +kernel
theorem dX3_takesPlayer_59 : decode cX3_takesPlayer 59 = .ok (.putfield 67, 3) := by decide +kernel
theorem dX3_takesPlayer_62 : decode cX3_takesPlayer 62 = .ok (.iconst 1, 1) := by decide +kernel
theorem dX3_takesPlayer_63 : decode cX3_takesPlayer 63 = .ok (.ireturn, 1) := by decide +kernel
theorem dX3_takesPurse_0 : decode cX3_takesPurse 0 = .ok (.aload_n 0, 1) := by decide +kernel
theorem dX3_takesPurse_1 : decode cX3_takesPurse 1 = .ok (.iconst 1, 1) := by decide +kernel
theorem dX3_takesPurse_2 : decode cX3_takesPurse 2 = .ok (.bipush 60, 2) := by decide +kernel
theorem dX3_takesPurse_4 : decode cX3_takesPurse 4 = .ok (.invokevirtual 79, 3) := by decide +kernel
theorem dX3_takesPurse_7 : decode cX3_takesPurse 7 = .ok (.ifCond .ne 5, 3) := by decide +kernel
theorem dX3_takesPurse_10 : decode cX3_takesPurse 10 = .ok (.iconst 0, 1) := by decide +kernel
theorem dX3_takesPurse_11 : decode cX3_takesPurse 11 = .ok (.ireturn, 1) := by decide +kernel
theorem dX3_takesPurse_12 : decode cX3_takesPurse 12 = .ok (.aload_n 1, 1) := by decide +kernel
theorem dX3_takesPurse_13 : decode cX3_takesPurse 13 = .ok (.aload_n 0, 1) := by decide +kernel
theorem dX3_takesPurse_14 : decode cX3_takesPurse 14 = .ok (.getfield 28, 3) := by decide +kernel
theorem dX3_takesPurse_17 : decode cX3_takesPurse 17 = .ok (.putfield 99, 3) := by decide +kernel
theorem dX3_takesPurse_20 : decode cX3_takesPurse 20 = .ok (.aload_n 0, 1) := by decide +kernel
theorem dX3_takesPurse_21 : decode cX3_takesPurse 21 = .ok (.iconst 1, 1) := by decide +kernel
theorem dX3_takesPurse_22 : decode cX3_takesPurse 22 = .ok (.putfield 31, 3) := by decide +kernel
theorem dX3_takesPurse_25 : decode cX3_takesPurse 25 = .ok (.iconst 1, 1) := by decide +kernel
theorem dX3_takesPurse_26 : decode cX3_takesPurse 26 = .ok (.ireturn, 1) := by decide +kernel
theorem dX3_takesFine_0 : decode cX3_takesFine 0 = .ok (.aload_n 0, 1) := by decide +kernel
theorem dX3_takesFine_1 : decode cX3_takesFine 1 = .ok (.iconst 0, 1) := by decide +kernel
theorem dX3_takesFine_2 : decode cX3_takesFine 2 = .ok (.bipush 30, 2) := by decide +kernel
theorem dX3_takesFine_4 : decode cX3_takesFine 4 = .ok (.invokevirtual 79, 3) := by decide +kernel
theorem dX3_takesFine_7 : decode cX3_takesFine 7 = .ok (.ifCond .ne 5, 3) := by decide +kernel
theorem dX3_takesFine_10 : decode cX3_takesFine 10 = .ok (.iconst 0, 1) := by decide +kernel
theorem dX3_takesFine_11 : decode cX3_takesFine 11 = .ok (.ireturn, 1) := by decide +kernel
theorem dX3_takesFine_12 : decode cX3_takesFine 12 = .ok (.aload_n 1, 1) := by decide +kernel
theorem dX3_takesFine_13 : decode cX3_takesFine 13 = .ok (.aload_n 0, 1) := by decide +kernel
theorem dX3_takesFine_14 : decode cX3_takesFine 14 = .ok (.getfield 28, 3) := by decide +kernel
theorem dX3_takesFine_17 : decode cX3_takesFine 17 = .ok (.putfield 102, 3) := by decide +kernel
theorem dX3_takesFine_20 : decode cX3_takesFine 20 = .ok (.aload_n 0, 1) := by decide +kernel
theorem dX3_takesFine_21 : decode cX3_takesFine 21 = .ok (.iconst 1, 1) := by decide +kernel
theorem dX3_takesFine_22 : decode cX3_takesFine 22 = .ok (.putfield 35, 3) := by decide +kernel
theorem dX3_takesFine_25 : decode cX3_takesFine 25 = .ok (.iconst 1, 1) := by decide +kernel
theorem dX3_takesFine_26 : decode cX3_takesFine 26 = .ok (.ireturn, 1) := by decide +kernel
theorem dX3_takesEnd_0 : decode cX3_takesEnd 0 = .ok (.aload_n 0, 1) := by decide +kernel
theorem dX3_takesEnd_1 : decode cX3_takesEnd 1 = .ok (.invokevirtual 47, 3) := by decide +kernel
theorem dX3_takesEnd_4 : decode cX3_takesEnd 4 = .ok (.aload_n 0, 1) := by decide +kernel
theorem dX3_takesEnd_5 : decode cX3_takesEnd 5 = .ok (.getfield 25, 3) := by decide +kernel
theorem dX3_takesEnd_8 : decode cX3_takesEnd 8 = .ok (.bipush 59, 2) := by decide +kernel
theorem dX3_takesEnd_10 : decode cX3_takesEnd 10 = .ok (.if_icmp .ne 7, 3) := by decide +kernel
theorem dX3_takesEnd_13 : decode cX3_takesEnd 13 = .ok (.iconst 1, 1) := by decide +kernel
theorem dX3_takesEnd_14 : decode cX3_takesEnd 14 = .ok (.goto 4, 3) := by decide +kernel
theorem dX3_takesEnd_17 : decode cX3_takesEnd 17 = .ok (.iconst 0, 1) := by decide +kernel
theorem dX3_takesEnd_18 : decode cX3_takesEnd 18 = .ok (.ireturn, 1) := by decide +kernel
theorem dX3_takesNumber_0 : decode cX3_takesNumber 0 = .ok (.aload_n 0, 1) := by decide +kernel
theorem dX3_takesNumber_1 : decode cX3_takesNumber 1 = .ok (.invokevirtual 47, 3) := by decide +kernel
theorem dX3_takesNumber_4 : decode cX3_takesNumber 4 = .ok (.aload_n 0, 1) := by decide +kernel
theorem dX3_takesNumber_5 : decode cX3_takesNumber 5 = .ok (.getfield 25, 3) := by decide +kernel
theorem dX3_takesNumber_8 : decode cX3_takesNumber 8 = .ok (.sipush 256, 3) := by decide +kernel
theorem dX3_takesNumber_11 : decode cX3_takesNumber 11 = .ok (.if_icmp .ne 23, 3) := by decide +kernel
theorem dX3_takesNumber_14 : decode cX3_takesNumber 14 = .ok (.aload_n 0, 1) := by decide +kernel
theorem dX3_takesNumber_15 : decode cX3_takesNumber 15 = .ok (.getfield 28, 3) := by decide +kernel
theorem dX3_takesNumber_18 : decode cX3_takesNumber 18 = .ok (.iload_n 1, 1) := by decide +kernel
theorem dX3_takesNumber_19 : decode cX3_takesNumber 19 = .ok (.if_icmp .lt 15, 3) := by decide +kernel
theorem dX3_takesNumber_22 : decode cX3_takesNumber 22 = .ok (.aload_n 0, 1) := by decide +kernel
theorem dX3_takesNumber_23 : decode cX3_takesNumber 23 = .ok (.getfield 28, 3) := by decide +kernel
theorem dX3_takesNumber_26 : decode cX3_takesNumber 26 = .ok (.iload_n 2, 1) := by decide +kernel
theorem dX3_takesNumber_27 : decode cX3_takesNumber 27 = .ok (.if_icmp .gt 7, 3) := by decide +kernel
theorem dX3_takesNumber_30 : decode cX3_takesNumber 30 = .ok (.iconst 1, 1) := by decide +kernel
theorem dX3_takesNumber_31 : decode cX3_takesNumber 31 = .ok (.goto 4, 3) := by decide +kernel
theorem dX3_takesNumber_34 : decode cX3_takesNumber 34 = .ok (.iconst 0, 1) := by decide +kernel
theorem dX3_takesNumber_35 : decode cX3_takesNumber 35 = .ok (.ireturn, 1) := by decide +kernel
theorem dX3_next_0 : decode cX3_next 0 = .ok (.aload_n 0, 1) := by decide +kernel
theorem dX3_next_1 : decode cX3_next 1 = .ok (.getfield 19, 3) := by decide +kernel
theorem dX3_next_4 : decode cX3_next 4 = .ok (.aload_n 0, 1) := by decide +kernel
theorem dX3_next_5 : decode cX3_next 5 = .ok (.getfield 15, 3) := by decide +kernel
theorem dX3_next_8 : decode cX3_next 8 = .ok (.if_icmp .ge 30, 3) := by decide +kernel
theorem dX3_next_11 : decode cX3_next 11 = .ok (.aload_n 0, 1) := by decide +kernel
theorem dX3_next_12 : decode cX3_next 12 = .ok (.getfield 9, 3) := by decide +kernel
theorem dX3_next_15 : decode cX3_next 15 = .ok (.aload_n 0, 1) := by decide +kernel
theorem dX3_next_16 : decode cX3_next 16 = .ok (.getfield 19, 3) := by decide +kernel
theorem dX3_next_19 : decode cX3_next 19 = .ok (.caload, 1) := by decide +kernel
theorem dX3_next_20 : decode cX3_next 20 = .ok (.bipush 32, 2) := by decide +kernel
theorem dX3_next_22 : decode cX3_next 22 = .ok (.if_icmp .ne 16, 3) := by decide +kernel
theorem dX3_next_25 : decode cX3_next 25 = .ok (.aload_n 0, 1) := by decide +kernel
theorem dX3_next_26 : decode cX3_next 26 = .ok (.dup, 1) := by decide +kernel
theorem dX3_next_27 : decode cX3_next 27 = .ok (.getfield 19, 3) := by decide +kernel
theorem dX3_next_30 : decode cX3_next 30 = .ok (.iconst 1, 1) := by decide +kernel
theorem dX3_next_31 : decode cX3_next 31 = .ok (.iadd, 1) := by decide +kernel
theorem dX3_next_32 : decode cX3_next 32 = .ok (.putfield 19, 3) := by decide +kernel
theorem dX3_next_35 : decode cX3_next 35 = .ok (.goto (-35), 3) := by decide +kernel
theorem dX3_next_38 : decode cX3_next 38 = .ok (.aload_n 0, 1) := by decide +kernel
theorem dX3_next_39 : decode cX3_next 39 = .ok (.aload_n 0, 1) := by decide +kernel
theorem dX3_next_40 : decode cX3_next 40 = .ok (.getfield 19, 3) := by decide +kernel
theorem dX3_next_43 : decode cX3_next 43 = .ok (.putfield 22, 3) := by decide +kernel
theorem dX3_next_46 : decode cX3_next 46 = .ok (.aload_n 0, 1) := by decide +kernel
theorem dX3_next_47 : decode cX3_next 47 = .ok (.iconst 0, 1) := by decide +kernel
theorem dX3_next_48 : decode cX3_next 48 = .ok (.putfield 28, 3) := by decide +kernel
theorem dX3_next_51 : decode cX3_next 51 = .ok (.aload_n 0, 1) := by decide +kernel
theorem dX3_next_52 : decode cX3_next 52 = .ok (.getfield 19, 3) := by decide +kernel
theorem dX3_next_55 : decode cX3_next 55 = .ok (.aload_n 0, 1) := by decide +kernel
theorem dX3_next_56 : decode cX3_next 56 = .ok (.getfield 15, 3) := by decide +kernel
theorem dX3_next_59 : decode cX3_next 59 = .ok (.if_icmp .ge 60, 3) := by decide +kernel
theorem dX3_next_62 : decode cX3_next 62 = .ok (.aload_n 0, 1) := by decide +kernel
theorem dX3_next_63 : decode cX3_next 63 = .ok (.getfield 9, 3) := by decide +kernel
theorem dX3_next_66 : decode cX3_next 66 = .ok (.aload_n 0, 1) := by decide +kernel
theorem dX3_next_67 : decode cX3_next 67 = .ok (.getfield 19, 3) := by decide +kernel
theorem dX3_next_70 : decode cX3_next 70 = .ok (.caload, 1) := by decide +kernel
theorem dX3_next_71 : decode cX3_next 71 = .ok (.invokestatic 105, 3) := by decide +kernel
theorem dX3_next_74 : decode cX3_next 74 = .ok (.ifCond .eq 45, 3) := by decide +kernel
theorem dX3_next_77 : decode cX3_next 77 = .ok (.aload_n 0, 1) := by decide +kernel
theorem dX3_next_78 : decode cX3_next 78 = .ok (.bipush 100, 2) := by decide +kernel
theorem dX3_next_80 : decode cX3_next 80 = .ok (.bipush 10, 2) := by decide +kernel
theorem dX3_next_82 : decode cX3_next 82 = .ok (.aload_n 0, 1) := by decide +kernel
theorem dX3_next_83 : decode cX3_next 83 = .ok (.getfield 28, 3) := by decide +kernel
theorem dX3_next_86 : decode cX3_next 86 = .ok (.imul, 1) := by decide +kernel
theorem dX3_next_87 : decode cX3_next 87 = .ok (.aload_n 0, 1) := by decide +kernel
theorem dX3_next_88 : decode cX3_next 88 = .ok (.getfield 9, 3) := by decide +kernel
theorem dX3_next_91 : decode cX3_next 91 = .ok (.aload_n 0, 1) := by decide +kernel
theorem dX3_next_92 : decode cX3_next 92 = .ok (.getfield 19, 3) := by decide +kernel
theorem dX3_next_95 : decode cX3_next 95 = .ok (.caload, 1) := by decide +kernel
theorem dX3_next_96 : decode cX3_next 96 = .ok (.iadd, 1) := by decide +kernel
theorem dX3_next_97 : decode cX3_next 97 = .ok (.bipush 48, 2) := by decide +kernel
theorem dX3_next_99 : decode cX3_next 99 = .ok (.isub, 1) := by decide +kernel
theorem dX3_next_100 : decode cX3_next 100 = .ok (.invokestatic 109, 3) := by decide +kernel
theorem dX3_next_103 : decode cX3_next 103 = .ok (.putfield 28, 3) := by decide +kernel
theorem dX3_next_106 : decode cX3_next 106 = .ok (.aload_n 0, 1) := by decide +kernel
theorem dX3_next_107 : decode cX3_next 107 = .ok (.dup, 1) := by decide +kernel
theorem dX3_next_108 : decode cX3_next 108 = .ok (.getfield 19, 3) := by decide +kernel
theorem dX3_next_111 : decode cX3_next 111 = .ok (.iconst 1, 1) := by decide +kernel
theorem dX3_next_112 : decode cX3_next 112 = .ok (.iadd, 1) := by decide +kernel
theorem dX3_next_113 : decode cX3_next 113 = .ok (.putfield 19, 3) := by decide +kernel
theorem dX3_next_116 : decode cX3_next 116 = .ok (.goto (-65), 3) := by decide +kernel
theorem dX3_next_119 : decode cX3_next 119 = .ok (.aload_n 0, 1) := by decide +kernel
theorem dX3_next_120 : decode cX3_next 120 = .ok (.getfield 19, 3) := by decide +kernel
theorem dX3_next_123 : decode cX3_next 123 = .ok (.aload_n 0, 1) := by decide +kernel
theorem dX3_next_124 : decode cX3_next 124 = .ok (.getfield 22, 3) := by decide +kernel
theorem dX3_next_127 : decode cX3_next 127 = .ok (.if_icmp .le 65, 3) := by decide +kernel
theorem dX3_next_130 : decode cX3_next 130 = .ok (.aload_n 0, 1) := by decide +kernel
theorem dX3_next_131 : decode cX3_next 131 = .ok (.getfield 9, 3) := by decide +kernel
theorem dX3_next_134 : decode cX3_next 134 = .ok (.aload_n 0, 1) := by decide +kernel
theorem dX3_next_135 : decode cX3_next 135 = .ok (.getfield 22, 3) := by decide +kernel
theorem dX3_next_138 : decode cX3_next 138 = .ok (.caload, 1) := by decide +kernel
theorem dX3_next_139 : decode cX3_next 139 = .ok (.bipush 48, 2) := by decide +kernel
theorem dX3_next_141 : decode cX3_next 141 = .ok (.if_icmp .ne 20, 3) := by decide +kernel
theorem dX3_next_144 : decode cX3_next 144 = .ok (.aload_n 0, 1) := by decide +kernel
theorem dX3_next_145 : decode cX3_next 145 = .ok (.getfield 19, 3) := by decide +kernel
theorem dX3_next_148 : decode cX3_next 148 = .ok (.aload_n 0, 1) := by decide +kernel
theorem dX3_next_149 : decode cX3_next 149 = .ok (.getfield 22, 3) := by decide +kernel
theorem dX3_next_152 : decode cX3_next 152 = .ok (.isub, 1) := by decide +kernel
theorem dX3_next_153 : decode cX3_next 153 = .ok (.iconst 1, 1) := by decide +kernel
theorem dX3_next_154 : decode cX3_next 154 = .ok (.if_icmp .le 7, 3) := by decide +kernel
theorem dX3_next_157 : decode cX3_next 157 = .ok (.iconst 1, 1) := by decide +kernel
theorem dX3_next_158 : decode cX3_next 158 = .ok (.goto 4, 3) := by decide +kernel
theorem dX3_next_161 : decode cX3_next 161 = .ok (.iconst 0, 1) := by decide +kernel
theorem dX3_next_162 : decode cX3_next 162 = .ok (.istore_n 1, 1) := by decide +kernel
theorem dX3_next_163 : decode cX3_next 163 = .ok (.aload_n 0, 1) := by decide +kernel
theorem dX3_next_164 : decode cX3_next 164 = .ok (.aload_n 0, 1) := by decide +kernel
theorem dX3_next_165 : decode cX3_next 165 = .ok (.getfield 28, 3) := by decide +kernel
theorem dX3_next_168 : decode cX3_next 168 = .ok (.bipush 99, 2) := by decide +kernel
theorem dX3_next_170 : decode cX3_next 170 = .ok (.if_icmp .gt 7, 3) := by decide +kernel
theorem dX3_next_173 : decode cX3_next 173 = .ok (.iload_n 1, 1) := by decide +kernel
theorem dX3_next_174 : decode cX3_next 174 = .ok (.ifCond .eq 9, 3) := by decide +kernel
theorem dX3_next_177 : decode cX3_next 177 = .ok (.sipush 258, 3) := by decide +kernel
theorem dX3_next_180 : decode cX3_next 180 = .ok (.goto 6, 3) := by decide +kernel
theorem dX3_next_183 : decode cX3_next 183 = .ok (.sipush 256, 3) := by decide +kernel
theorem dX3_next_186 : decode cX3_next 186 = .ok (.putfield 25, 3) := by decide +kernel
theorem dX3_next_189 : decode cX3_next 189 = .ok (.goto 47, 3) := by decide +kernel
theorem dX3_next_192 : decode cX3_next 192 = .ok (.aload_n 0, 1) := by decide +kernel
theorem dX3_next_193 : decode cX3_next 193 = .ok (.getfield 19, 3) := by decide +kernel
theorem dX3_next_196 : decode cX3_next 196 = .ok (.aload_n 0, 1) := by decide +kernel
theorem dX3_next_197 : decode cX3_next 197 = .ok (.getfield 15, 3) := by decide +kernel
theorem dX3_next_200 : decode cX3_next 200 = .ok (.if_icmp .ge 29, 3) := by decide +kernel
theorem dX3_next_203 : decode cX3_next 203 = .ok (.aload_n 0, 1) := by decide +kernel
theorem dX3_next_204 : decode cX3_next 204 = .ok (.aload_n 0, 1) := by decide +kernel
theorem dX3_next_205 : decode cX3_next 205 = .ok (.getfield 9, 3) := by decide +kernel
theorem dX3_next_208 : decode cX3_next 208 = .ok (.aload_n 0, 1) := by decide +kernel
theorem dX3_next_209 : decode cX3_next 209 = .ok (.getfield 19, 3) := by decide +kernel
theorem dX3_next_212 : decode cX3_next 212 = .ok (.caload, 1) := by decide +kernel
theorem dX3_next_213 : decode cX3_next 213 = .ok (.putfield 25, 3) := by decide +kernel
theorem dX3_next_216 : decode cX3_next 216 = .ok (.aload_n 0, 1) := by decide +kernel
theorem dX3_next_217 : decode cX3_next 217 = .ok (.dup, 1) := by decide +kernel
theorem dX3_next_218 : decode cX3_next 218 = .ok (.getfield 19, 3) := by decide +kernel
theorem dX3_next_221 : decode cX3_next 221 = .ok (.iconst 1, 1) := by decide +kernel
theorem dX3_next_222 : decode cX3_next 222 = .ok (.iadd, 1) := by decide +kernel
theorem dX3_next_223 : decode cX3_next 223 = .ok (.putfield 19, 3) := by decide +kernel
theorem dX3_next_226 : decode cX3_next 226 = .ok (.goto 10, 3) := by decide +kernel
theorem dX3_next_229 : decode cX3_next 229 = .ok (.aload_n 0, 1) := by decide +kernel
theorem dX3_next_230 : decode cX3_next 230 = .ok (.sipush 257, 3) := by decide +kernel
theorem dX3_next_233 : decode cX3_next 233 = .ok (.putfield 25, 3) := by decide +kernel
theorem dX3_next_236 : decode cX3_next 236 = .ok (.return_, 1) := by decide +kernel
theorem dX3_isDigit_0 : decode cX3_isDigit 0 = .ok (.iload_n 0, 1) := by decide +kernel
theorem dX3_isDigit_1 : decode cX3_isDigit 1 = .ok (.bipush 48, 2) := by decide +kernel
theorem dX3_isDigit_3 : decode cX3_isDigit 3 = .ok (.if_icmp .lt 13, 3) := by decide +kernel
theorem dX3_isDigit_6 : decode cX3_isDigit 6 = .ok (.iload_n 0, 1) := by decide +kernel
theorem dX3_isDigit_7 : decode cX3_isDigit 7 = .ok (.bipush 57, 2) := by decide +kernel
theorem dX3_isDigit_9 : decode cX3_isDigit 9 = .ok (.if_icmp .gt 7, 3) := by decide +kernel
theorem dX3_isDigit_12 : decode cX3_isDigit 12 = .ok (.iconst 1, 1) := by decide +kernel
theorem dX3_isDigit_13 : decode cX3_isDigit 13 = .ok (.goto 4, 3) := by decide +kernel
theorem dX3_isDigit_16 : decode cX3_isDigit 16 = .ok (.iconst 0, 1) := by decide +kernel
theorem dX3_isDigit_17 : decode cX3_isDigit 17 = .ok (.ireturn, 1) := by decide +kernel
theorem dX4_init_0 : decode cX4_init 0 = .ok (.aload_n 0, 1) := by decide +kernel
theorem dX4_init_1 : decode cX4_init 1 = .ok (.invokespecial 3, 3) := by decide +kernel
theorem dX4_init_4 : decode cX4_init 4 = .ok (.aload_n 0, 1) := by decide +kernel
theorem dX4_init_5 : decode cX4_init 5 = .ok (.iconst 5, 1) := by decide +kernel
theorem dX4_init_6 : decode cX4_init 6 = .ok (.newarray .int, 2) := by decide +kernel
theorem dX4_init_8 : decode cX4_init 8 = .ok (.putfield 9, 3) := by decide +kernel
theorem dX4_init_11 : decode cX4_init 11 = .ok (.aload_n 0, 1) := by decide +kernel
theorem dX4_init_12 : decode cX4_init 12 = .ok (.iconst 5, 1) := by decide +kernel
theorem dX4_init_13 : decode cX4_init 13 = .ok (.newarray .int, 2) := by decide +kernel
theorem dX4_init_15 : decode cX4_init 15 = .ok (.putfield 15, 3) := by decide +kernel
theorem dX4_init_18 : decode cX4_init 18 = .ok (.aload_n 0, 1) := by decide +kernel
theorem dX4_init_19 : decode cX4_init 19 = .ok (.bipush (-9), 2) := by decide +kernel
theorem dX4_init_21 : decode cX4_init 21 = .ok (.putfield 18, 3) := by decide +kernel
theorem dX4_init_24 : decode cX4_init 24 = .ok (.aload_n 0, 1) := by decide +kernel
theorem dX4_init_25 : decode cX4_init 25 = .ok (.iconst 0, 1) := by decide +kernel
theorem dX4_init_26 : decode cX4_init 26 = .ok (.putfield 22, 3) := by decide +kernel
theorem dX4_init_29 : decode cX4_init 29 = .ok (.aload_n 0, 1) := by decide +kernel
theorem dX4_init_30 : decode cX4_init 30 = .ok (.aload_n 1, 1) := by decide +kernel
theorem dX4_init_31 : decode cX4_init 31 = .ok (.putfield 26, 3) := by decide +kernel
theorem dX4_init_34 : decode cX4_init 34 = .ok (.aload_n 0, 1) := by decide +kernel
theorem dX4_init_35 : decode cX4_init 35 = .ok (.aload_n 2, 1) := by decide +kernel
theorem dX4_init_36 : decode cX4_init 36 = .ok (.putfield 30, 3) := by decide +kernel
theorem dX4_init_39 : decode cX4_init 39 = .ok (.return_, 1) := by decide +kernel
theorem dX4_lose_0 : decode cX4_lose 0 = .ok (.aload_n 0, 1) := by decide +kernel
theorem dX4_lose_1 : decode cX4_lose 1 = .ok (.iconst 0, 1) := by decide +kernel
theorem dX4_lose_2 : decode cX4_lose 2 = .ok (.putfield 22, 3) := by decide +kernel
theorem dX4_lose_5 : decode cX4_lose 5 = .ok (.return_, 1) := by decide +kernel
theorem dX4_search_0 : decode cX4_search 0 = .ok (.aload_n 0, 1) := by decide +kernel
theorem dX4_search_1 : decode cX4_search 1 = .ok (.getfield 22, 3) := by decide +kernel
theorem dX4_search_4 : decode cX4_search 4 = .ok (.ifCond .eq 4, 3) := by decide +kernel
theorem dX4_search_7 : decode cX4_search 7 = .ok (.return_, 1) := by decide +kernel
theorem dX4_search_8 : decode cX4_search 8 = .ok (.aload_n 0, 1) := by decide +kernel
theorem dX4_search_9 : decode cX4_search 9 = .ok (.iconst 1, 1) := by decide +kernel
theorem dX4_search_10 : decode cX4_search 10 = .ok (.putfield 22, 3) := by decide +kernel
theorem dX4_search_13 : decode cX4_search 13 = .ok (.aload_n 0, 1) := by decide +kernel
theorem dX4_search_14 : decode cX4_search 14 = .ok (.bipush (-9), 2) := by decide +kernel
theorem dX4_search_16 : decode cX4_search 16 = .ok (.putfield 18, 3) := by decide +kernel
theorem dX4_search_19 : decode cX4_search 19 = .ok (.aload_n 0, 1) := by decide +kernel
theorem dX4_search_20 : decode cX4_search 20 = .ok (.getfield 9, 3) := by decide +kernel
theorem dX4_search_23 : decode cX4_search 23 = .ok (.iconst 0, 1) := by decide +kernel
theorem dX4_search_24 : decode cX4_search 24 = .ok (.invokestatic 34, 3) := by decide +kernel
theorem dX4_search_27 : decode cX4_search 27 = .ok (.aload_n 0, 1) := by decide +kernel
theorem dX4_search_28 : decode cX4_search 28 = .ok (.invokevirtual 40, 3) := by decide +kernel
theorem dX4_search_31 : decode cX4_search 31 = .ok (.istore_n 1, 1) := by decide +kernel
theorem dX4_search_32 : decode cX4_search 32 = .ok (.iconst 0, 1) := by decide +kernel
theorem dX4_search_33 : decode cX4_search 33 = .ok (.istore_n 2, 1) := by decide +kernel
theorem dX4_search_34 : decode cX4_search 34 = .ok (.iload_n 2, 1) := by decide +kernel
theorem dX4_search_35 : decode cX4_search 35 = .ok (.iload_n 1, 1) := by decide +kernel
theorem dX4_search_36 : decode cX4_search 36 = .ok (.if_icmp .ge 45, 3) := by decide +kernel
theorem dX4_search_39 : decode cX4_search 39 = .ok (.aload_n 0, 1) := by decide +kernel
theorem dX4_search_40 : decode cX4_search 40 = .ok (.invokevirtual 44, 3) := by decide +kernel
theorem dX4_search_43 : decode cX4_search 43 = .ok (.istore_n 3, 1) := by decide +kernel
theorem dX4_search_44 : decode cX4_search 44 = .ok (.iload_n 3, 1) := by decide +kernel
theorem dX4_search_45 : decode cX4_search 45 = .ok (.aload_n 0, 1) := by decide +kernel
theorem dX4_search_46 : decode cX4_search 46 = .ok (.getfield 18, 3) := by decide +kernel
theorem dX4_search_49 : decode cX4_search 49 = .ok (.if_icmp .le 22, 3) := by decide +kernel
theorem dX4_search_52 : decode cX4_search 52 = .ok (.aload_n 0, 1) := by decide +kernel
theorem dX4_search_53 : decode cX4_search 53 = .ok (.iload_n 3, 1) := by decide +kernel
theorem dX4_search_54 : decode cX4_search 54 = .ok (.putfield 18, 3) := by decide +kernel
theorem dX4_search_57 : decode cX4_search 57 = .ok (.aload_n 0, 1) := by decide +kernel
theorem dX4_search_58 : decode cX4_search 58 = .ok (.getfield 9, 3) := by decide +kernel
theorem dX4_search_61 : decode cX4_search 61 = .ok (.iconst 0, 1) := by decide +kernel
theorem dX4_search_62 : decode cX4_search 62 = .ok (.aload_n 0, 1) := by decide +kernel
theorem dX4_search_63 : decode cX4_search 63 = .ok (.getfield 15, 3) := by decide +kernel
theorem dX4_search_66 : decode cX4_search 66 = .ok (.iconst 0, 1) := by decide +kernel
theorem dX4_search_67 : decode cX4_search 67 = .ok (.iconst 5, 1) := by decide +kernel
theorem dX4_search_68 : decode cX4_search 68 = .ok (.invokestatic 47, 3) := by decide +kernel
theorem dX4_search_71 : decode cX4_search 71 = .ok (.aload_n 0, 1) := by decide +kernel
theorem dX4_search_72 : decode cX4_search 72 = .ok (.invokevirtual 53, 3) := by decide +kernel
theorem dX4_search_75 : decode cX4_search 75 = .ok (.iinc 2 1, 3) := by decide +kernel
theorem dX4_search_78 : decode cX4_search 78 = .ok (.goto (-44), 3) := by decide +kernel
theorem dX4_search_81 : decode cX4_search 81 = .ok (.return_, 1) := by decide +kernel
theorem dX4_howManyWays_0 : decode cX4_howManyWays 0 = .ok (.aload_n 0, 1) := by decide +kernel
theorem dX4_howManyWays_1 : decode cX4_howManyWays 1 = .ok (.getfield 26, 3) := by decide +kernel
theorem dX4_howManyWays_4 : decode cX4_howManyWays 4 = .ok (.getfield 56, 3) := by decide +kernel
theorem dX4_howManyWays_7 : decode cX4_howManyWays 7 = .ok (.ifCond .ne 5, 3) := by decide +kernel
theorem dX4_howManyWays_10 : decode cX4_howManyWays 10 = .ok (.iconst 0, 1) := by decide +kernel
theorem dX4_howManyWays_11 : decode cX4_howManyWays 11 = .ok (.ireturn, 1) := by decide +kernel
theorem dX4_howManyWays_12 : decode cX4_howManyWays 12 = .ok (.iconst 1, 1) := by decide +kernel
theorem dX4_howManyWays_13 : decode cX4_howManyWays 13 = .ok (.istore_n 1, 1) := by decide +kernel
theorem dX4_howManyWays_14 : decode cX4_howManyWays 14 = .ok (.iconst 0, 1) := by decide +kernel
theorem dX4_howManyWays_15 : decode cX4_howManyWays 15 = .ok (.istore_n 2, 1) := by decide +kernel
theorem dX4_howManyWays_16 : decode cX4_howManyWays 16 = .ok (.iload_n 2, 1) := by decide +kernel
theorem dX4_howManyWays_17 : decode cX4_howManyWays 17 = .ok (.aload_n 0, 1) := by decide +kernel
theorem dX4_howManyWays_18 : decode cX4_howManyWays 18 = .ok (.getfield 26, 3) := by decide +kernel
theorem dX4_howManyWays_21 : decode cX4_howManyWays 21 = .ok (.getfield 61, 3) := by decide +kernel
theorem dX4_howManyWays_24 : decode cX4_howManyWays 24 = .ok (.if_icmp .ge 19, 3) := by decide +kernel
theorem dX4_howManyWays_27 : decode cX4_howManyWays 27 = .ok (.iload_n 1, 1) := by decide +kernel
theorem dX4_howManyWays_28 : decode cX4_howManyWays 28 = .ok (.aload_n 0, 1) := by decide +kernel
theorem dX4_howManyWays_29 : decode cX4_howManyWays 29 = .ok (.getfield 26, 3) := by decide +kernel
theorem dX4_howManyWays_32 : decode cX4_howManyWays 32 = .ok (.getfield 56, 3) := by decide +kernel
theorem dX4_howManyWays_35 : decode cX4_howManyWays 35 = .ok (.imul, 1) := by decide +kernel
theorem dX4_howManyWays_36 : decode cX4_howManyWays 36 = .ok (.istore_n 1, 1) := by decide +kernel
theorem dX4_howManyWays_37 : decode cX4_howManyWays 37 = .ok (.iinc 2 1, 3) := by decide +kernel
theorem dX4_howManyWays_40 : decode cX4_howManyWays 40 = .ok (.goto (-24), 3) := by decide +kernel
theorem dX4_howManyWays_43 : decode cX4_howManyWays 43 = .ok (.iload_n 1, 1) := by decide +kernel
theorem dX4_howManyWays_44 : decode cX4_howManyWays 44 = .ok (.ireturn, 1) := by decide +kernel
theorem dX4_poorestOfWay_0 : decode cX4_poorestOfWay 0 = .ok (.aload_n 0, 1) := by decide +kernel
theorem dX4_poorestOfWay_1 : decode cX4_poorestOfWay 1 = .ok (.getfield 30, 3) := by decide +kernel
theorem dX4_poorestOfWay_4 : decode cX4_poorestOfWay 4 = .ok (.aload_n 0, 1) := by decide +kernel
theorem dX4_poorestOfWay_5 : decode cX4_poorestOfWay 5 = .ok (.getfield 9, 3) := by decide +kernel
theorem dX4_poorestOfWay_8 : decode cX4_poorestOfWay 8 = .ok (.invokevirtual 64, 3) := by decide +kernel
theorem dX4_poorestOfWay_11 : decode cX4_poorestOfWay 11 = .ok (.iconst 0, 1) := by decide +kernel
theorem dX4_poorestOfWay_12 : decode cX4_poorestOfWay 12 = .ok (.istore_n 1, 1) := by decide +kernel
theorem dX4_poorestOfWay_13 : decode cX4_poorestOfWay 13 = .ok (.iload_n 1, 1) := by decide +kernel
theorem dX4_poorestOfWay_14 : decode cX4_poorestOfWay 14 = .ok (.aload_n 0, 1) := by decide +kernel
theorem dX4_poorestOfWay_15 : decode cX4_poorestOfWay 15 = .ok (.getfield 26, 3) := by decide +kernel
theorem dX4_poorestOfWay_18 : decode cX4_poorestOfWay 18 = .ok (.getfield 56, 3) := by decide +kernel
theorem dX4_poorestOfWay_21 : decode cX4_poorestOfWay 21 = .ok (.if_icmp .ge 23, 3) := by decide +kernel
theorem dX4_poorestOfWay_24 : decode cX4_poorestOfWay 24 = .ok (.aload_n 0, 1) := by decide +kernel
theorem dX4_poorestOfWay_25 : decode cX4_poorestOfWay 25 = .ok (.getfield 30, 3) := by decide +kernel
theorem dX4_poorestOfWay_28 : decode cX4_poorestOfWay 28 = .ok (.iload_n 1, 1) := by decide +kernel
theorem dX4_poorestOfWay_29 : decode cX4_poorestOfWay 29 = .ok (.invokevirtual 70, 3) := by decide +kernel
theorem dX4_poorestOfWay_32 : decode cX4_poorestOfWay 32 = .ok (.ifCond .eq 6, 3) := by decide +kernel
theorem dX4_poorestOfWay_35 : decode cX4_poorestOfWay 35 = .ok (.bipush (-9), 2) := by decide +kernel
theorem dX4_poorestOfWay_37 : decode cX4_poorestOfWay 37 = .ok (.ireturn, 1) := by decide +kernel
theorem dX4_poorestOfWay_38 : decode cX4_poorestOfWay 38 = .ok (.iinc 1 1, 3) := by decide +kernel
theorem dX4_poorestOfWay_41 : decode cX4_poorestOfWay 41 = .ok (.goto (-28), 3) := by decide +kernel
theorem dX4_poorestOfWay_44 : decode cX4_poorestOfWay 44 = .ok (.aload_n 0, 1) := by decide +kernel
theorem dX4_poorestOfWay_45 : decode cX4_poorestOfWay 45 = .ok (.getfield 30, 3) := by decide +kernel
theorem dX4_poorestOfWay_48 : decode cX4_poorestOfWay 48 = .ok (.getstatic 74, 3) := by decide +kernel
theorem dX4_poorestOfWay_51 : decode cX4_poorestOfWay 51 = .ok (.invokevirtual 77, 3) := by decide +kernel
theorem dX4_poorestOfWay_54 : decode cX4_poorestOfWay 54 = .ok (.sipush 720, 3) := by decide +kernel
theorem dX4_poorestOfWay_57 : decode cX4_poorestOfWay 57 = .ok (.istore_n 1, 1) := by decide +kernel
theorem dX4_poorestOfWay_58 : decode cX4_poorestOfWay 58 = .ok (.iconst 0, 1) := by decide +kernel
theorem dX4_poorestOfWay_59 : decode cX4_poorestOfWay 59 = .ok (.istore_n 2, 1) := by decide +kernel
theorem dX4_poorestOfWay_60 : decode cX4_poorestOfWay 60 = .ok (.iload_n 2, 1) := by decide +kernel
theorem dX4_poorestOfWay_61 : decode cX4_poorestOfWay 61 = .ok (.aload_n 0, 1) := by decide +kernel
theorem dX4_poorestOfWay_62 : decode cX4_poorestOfWay 62 = .ok (.getfield 26, 3) := by decide +kernel
theorem dX4_poorestOfWay_65 : decode cX4_poorestOfWay 65 = .ok (.getfield 56, 3) := by decide +kernel
theorem dX4_poorestOfWay_68 : decode cX4_poorestOfWay 68 = .ok (.if_icmp .ge 40, 3) := by decide +kernel
theorem dX4_poorestOfWay_71 : decode cX4_poorestOfWay 71 = .ok (.aload_n 0, 1) := by decide +kernel
theorem dX4_poorestOfWay_72 : decode cX4_poorestOfWay 72 = .ok (.getfield 30, 3) := by decide +kernel
theorem dX4_poorestOfWay_75 : decode cX4_poorestOfWay 75 = .ok (.iload_n 2, 1) := by decide +kernel
theorem dX4_poorestOfWay_76 : decode cX4_poorestOfWay 76 = .ok (.invokevirtual 80, 3) := by decide +kernel
theorem dX4_poorestOfWay_79 : decode cX4_poorestOfWay 79 = .ok (.istore_n 3, 1) := by decide +kernel
theorem dX4_poorestOfWay_80 : decode cX4_poorestOfWay 80 = .ok (.iload_n 3, 1) := by decide +kernel
theorem dX4_poorestOfWay_81 : decode cX4_poorestOfWay 81 = .ok (.aload_n 0, 1) := by decide +kernel
theorem dX4_poorestOfWay_82 : decode cX4_poorestOfWay 82 = .ok (.getfield 26, 3) := by decide +kernel
theorem dX4_poorestOfWay_85 : decode cX4_poorestOfWay 85 = .ok (.getfield 84, 3) := by decide +kernel
theorem dX4_poorestOfWay_88 : decode cX4_poorestOfWay 88 = .ok (.iload_n 2, 1) := by decide +kernel
theorem dX4_poorestOfWay_89 : decode cX4_poorestOfWay 89 = .ok (.iaload, 1) := by decide +kernel
theorem dX4_poorestOfWay_90 : decode cX4_poorestOfWay 90 = .ok (.if_icmp .ge 6, 3) := by decide +kernel
theorem dX4_poorestOfWay_93 : decode cX4_poorestOfWay 93 = .ok (.bipush (-9), 2) := by decide +kernel
theorem dX4_poorestOfWay_95 : decode cX4_poorestOfWay 95 = .ok (.ireturn, 1) := by decide +kernel
theorem dX4_poorestOfWay_96 : decode cX4_poorestOfWay 96 = .ok (.iload_n 1, 1) := by decide +kernel
theorem dX4_poorestOfWay_97 : decode cX4_poorestOfWay 97 = .ok (.iload_n 3, 1) := by decide +kernel
theorem dX4_poorestOfWay_98 : decode cX4_poorestOfWay 98 = .ok (.invokestatic 87, 3) := by decide +kernel
theorem dX4_poorestOfWay_101 : decode cX4_poorestOfWay 101 = .ok (.istore_n 1, 1) := by decide +kernel
theorem dX4_poorestOfWay_102 : decode cX4_poorestOfWay 102 = .ok (.iinc 2 1, 3) := by decide +kernel
theorem dX4_poorestOfWay_105 : decode cX4_poorestOfWay 105 = .ok (.goto (-45), 3) := by decide +kernel
theorem dX4_poorestOfWay_108 : decode cX4_poorestOfWay 108 = .ok (.iload_n 1, 1) := by decide +kernel
theorem dX4_poorestOfWay_109 : decode cX4_poorestOfWay 109 = .ok (.ireturn, 1) := by decide +kernel
theorem dX4_turnToNextWay_0 : decode cX4_turnToNextWay 0 = .ok (.aload_n 0, 1) := by decide +kernel
theorem dX4_turnToNextWay_1 : decode cX4_turnToNextWay 1 = .ok (.getfield 26, 3) := by decide +kernel
theorem dX4_turnToNextWay_4 : decode cX4_turnToNextWay 4 = .ok (.getfield 61, 3) := by decide +kernel
theorem dX4_turnToNextWay_7 : decode cX4_turnToNextWay 7 = .ok (.iconst 1, 1) := by decide +kernel
theorem dX4_turnToNextWay_8 : decode cX4_turnToNextWay 8 = .ok (.isub, 1) := by decide +kernel
theorem dX4_turnToNextWay_9 : decode cX4_turnToNextWay 9 = .ok (.istore_n 1, 1) := by decide +kernel
theorem dX4_turnToNextWay_10 : decode cX4_turnToNextWay 10 = .ok (.iload_n 1, 1) := by decide +kernel
theorem dX4_turnToNextWay_11 : decode cX4_turnToNextWay 11 = .ok (.ifCond .lt 43, 3) := by decide +kernel
theorem dX4_turnToNextWay_14 : decode cX4_turnToNextWay 14 = .ok (.aload_n 0, 1) := by decide +kernel
theorem dX4_turnToNextWay_15 : decode cX4_turnToNextWay 15 = .ok (.getfield 9, 3) := by decide +kernel
theorem dX4_turnToNextWay_18 : decode cX4_turnToNextWay 18 = .ok (.iload_n 1, 1) := by decide +kernel
theorem dX4_turnToNextWay_19 : decode cX4_turnToNextWay 19 = .ok (.dup2, 1) := by decide +kernel
theorem dX4_turnToNextWay_20 : decode cX4_turnToNextWay 20 = .ok (.iaload, 1) := by decide +kernel
theorem dX4_turnToNextWay_21 : decode cX4_turnToNextWay 21 = .ok (.iconst 1, 1) := by decide +kernel
theorem dX4_turnToNextWay_22 : decode cX4_turnToNextWay 22 = .ok (.iadd, 1) := by decide +kernel
theorem dX4_turnToNextWay_23 : decode cX4_turnToNextWay 23 = .ok (.iastore, 1) := by decide +kernel
theorem dX4_turnToNextWay_24 : decode cX4_turnToNextWay 24 = .ok (.aload_n 0, 1) := by decide +kernel
theorem dX4_turnToNextWay_25 : decode cX4_turnToNextWay 25 = .ok (.getfield 9, 3) := by decide +kernel
theorem dX4_turnToNextWay_28 : decode cX4_turnToNextWay 28 = .ok (.iload_n 1, 1) := by decide +kernel
theorem dX4_turnToNextWay_29 : decode cX4_turnToNextWay 29 = .ok (.iaload, 1) := by decide +kernel
theorem dX4_turnToNextWay_30 : decode cX4_turnToNextWay 30 = .ok (.aload_n 0, 1) := by decide +kernel
theorem dX4_turnToNextWay_31 : decode cX4_turnToNextWay 31 = .ok (.getfield 26, 3) := by decide +kernel
theorem dX4_turnToNextWay_34 : decode cX4_turnToNextWay 34 = .ok (.getfield 56, 3) := by decide +kernel
theorem dX4_turnToNextWay_37 : decode cX4_turnToNextWay 37 = .ok (.if_icmp .ge 4, 3) := by decide +kernel
theorem dX4_turnToNextWay_40 : decode cX4_turnToNextWay 40 = .ok (.return_, 1) := by decide +kernel
theorem dX4_turnToNextWay_41 : decode cX4_turnToNextWay 41 = .ok (.aload_n 0, 1) := by decide +kernel
theorem dX4_turnToNextWay_42 : decode cX4_turnToNextWay 42 = .ok (.getfield 9, 3) := by decide +kernel
theorem dX4_turnToNextWay_45 : decode cX4_turnToNextWay 45 = .ok (.iload_n 1, 1) := by decide +kernel
theorem dX4_turnToNextWay_46 : decode cX4_turnToNextWay 46 = .ok (.iconst 0, 1) := by decide +kernel
theorem dX4_turnToNextWay_47 : decode cX4_turnToNextWay 47 = .ok (.iastore, 1) := by decide +kernel
theorem dX4_turnToNextWay_48 : decode cX4_turnToNextWay 48 = .ok (.iinc 1 (-1), 3) := by decide +kernel
theorem dX4_turnToNextWay_51 : decode cX4_turnToNextWay 51 = .ok (.goto (-41), 3) := by decide +kernel
theorem dX4_turnToNextWay_54 : decode cX4_turnToNextWay 54 = .ok (.return_, 1) := by decide +kernel
theorem dX5_init_0 : decode cX5_init 0 = .ok (.aload_n 0, 1) := by decide +kernel
theorem dX5_init_1 : decode cX5_init 1 = .ok (.invokespecial 3, 3) := by decide +kernel
theorem dX5_init_4 : decode cX5_init 4 = .ok (.aload_n 0, 1) := by decide +kernel
theorem dX5_init_5 : decode cX5_init 5 = .ok (.iconst 5, 1) := by decide +kernel
theorem dX5_init_6 : decode cX5_init 6 = .ok (.newarray .int, 2) := by decide +kernel
theorem dX5_init_8 : decode cX5_init 8 = .ok (.putfield 9, 3) := by decide +kernel
theorem dX5_init_11 : decode cX5_init 11 = .ok (.aload_n 0, 1) := by decide +kernel
theorem dX5_init_12 : decode cX5_init 12 = .ok (.iconst 5, 1) := by decide +kernel
theorem dX5_init_13 : decode cX5_init 13 = .ok (.newarray .int, 2) := by decide +kernel
theorem dX5_init_15 : decode cX5_init 15 = .ok (.putfield 15, 3) := by decide +kernel
theorem dX5_init_18 : decode cX5_init 18 = .ok (.aload_n 0, 1) := by decide +kernel
theorem dX5_init_19 : decode cX5_init 19 = .ok (.bipush 6, 2) := by decide +kernel
theorem dX5_init_21 : decode cX5_init 21 = .ok (.newarray .int, 2) := by decide +kernel
theorem dX5_init_23 : decode cX5_init 23 = .ok (.putfield 18, 3) := by decide +kernel
theorem dX5_init_26 : decode cX5_init 26 = .ok (.aload_n 0, 1) := by decide +kernel
theorem dX5_init_27 : decode cX5_init 27 = .ok (.aload_n 1, 1) := by decide +kernel
theorem dX5_init_28 : decode cX5_init 28 = .ok (.putfield 21, 3) := by decide +kernel
theorem dX5_init_31 : decode cX5_init 31 = .ok (.return_, 1) := by decide +kernel
theorem dX5_seat_0 : decode cX5_seat 0 = .ok (.aload_n 0, 1) := by decide +kernel
theorem dX5_seat_1 : decode cX5_seat 1 = .ok (.aload_n 1, 1) := by decide +kernel
theorem dX5_seat_2 : decode cX5_seat 2 = .ok (.invokevirtual 25, 3) := by decide +kernel
theorem dX5_seat_5 : decode cX5_seat 5 = .ok (.aload_n 0, 1) := by decide +kernel
theorem dX5_seat_6 : decode cX5_seat 6 = .ok (.aload_n 2, 1) := by decide +kernel
theorem dX5_seat_7 : decode cX5_seat 7 = .ok (.invokevirtual 29, 3) := by decide +kernel
theorem dX5_seat_10 : decode cX5_seat 10 = .ok (.return_, 1) := by decide +kernel
theorem dX5_handOut_0 : decode cX5_handOut 0 = .ok (.aload_n 0, 1) := by decide +kernel
theorem dX5_handOut_1 : decode cX5_handOut 1 = .ok (.getfield 9, 3) := by decide +kernel
theorem dX5_handOut_4 : decode cX5_handOut 4 = .ok (.iconst 0, 1) := by decide +kernel
theorem dX5_handOut_5 : decode cX5_handOut 5 = .ok (.invokestatic 32, 3) := by decide +kernel
theorem dX5_handOut_8 : decode cX5_handOut 8 = .ok (.iconst 0, 1) := by decide +kernel
theorem dX5_handOut_9 : decode cX5_handOut 9 = .ok (.istore_n 2, 1) := by decide +kernel
theorem dX5_handOut_10 : decode cX5_handOut 10 = .ok (.iload_n 2, 1) := by decide +kernel
theorem dX5_handOut_11 : decode cX5_handOut 11 = .ok (.aload_n 0, 1) := by decide +kernel
theorem dX5_handOut_12 : decode cX5_handOut 12 = .ok (.getfield 21, 3) := by decide +kernel
theorem dX5_handOut_15 : decode cX5_handOut 15 = .ok (.getfield 38, 3) := by decide +kernel
theorem dX5_handOut_18 : decode cX5_handOut 18 = .ok (.if_icmp .ge 42, 3) := by decide +kernel
theorem dX5_handOut_21 : decode cX5_handOut 21 = .ok (.aload_n 0, 1) := by decide +kernel
theorem dX5_handOut_22 : decode cX5_handOut 22 = .ok (.getfield 21, 3) := by decide +kernel
theorem dX5_handOut_25 : decode cX5_handOut 25 = .ok (.aload_n 1, 1) := by decide +kernel
theorem dX5_handOut_26 : decode cX5_handOut 26 = .ok (.iload_n 2, 1) := by decide +kernel
theorem dX5_handOut_27 : decode cX5_handOut 27 = .ok (.iaload, 1) := by decide +kernel
theorem dX5_handOut_28 : decode cX5_handOut 28 = .ok (.invokevirtual 44, 3) := by decide +kernel
theorem dX5_handOut_31 : decode cX5_handOut 31 = .ok (.ifCond .eq 23, 3) := by decide +kernel
theorem dX5_handOut_34 : decode cX5_handOut 34 = .ok (.aload_n 0, 1) := by decide +kernel
theorem dX5_handOut_35 : decode cX5_handOut 35 = .ok (.getfield 9, 3) := by decide +kernel
theorem dX5_handOut_38 : decode cX5_handOut 38 = .ok (.aload_n 1, 1) := by decide +kernel
theorem dX5_handOut_39 : decode cX5_handOut 39 = .ok (.iload_n 2, 1) := by decide +kernel
theorem dX5_handOut_40 : decode cX5_handOut 40 = .ok (.iaload, 1) := by decide +kernel
theorem dX5_handOut_41 : decode cX5_handOut 41 = .ok (.dup2, 1) := by decide +kernel
theorem dX5_handOut_42 : decode cX5_handOut 42 = .ok (.iaload, 1) := by decide +kernel
theorem dX5_handOut_43 : decode cX5_handOut 43 = .ok (.aload_n 0, 1) := by decide +kernel
theorem dX5_handOut_44 : decode cX5_handOut 44 = .ok (.getfield 21, 3) := by decide +kernel
theorem dX5_handOut_47 : decode cX5_handOut 47 = .ok (.getfield 48, 3) := by decide +kernel
theorem dX5_handOut_50 : decode cX5_handOut 50 = .ok (.iload_n 2, 1) := by decide +kernel
theorem dX5_handOut_51 : decode cX5_handOut 51 = .ok (.iaload, 1) := by decide +kernel
theorem dX5_handOut_52 : decode cX5_handOut 52 = .ok (.ior, 1) := by decide +kernel
theorem dX5_handOut_53 : decode cX5_handOut 53 = .ok (.iastore, 1) := by decide +kernel
theorem dX5_handOut_54 : decode cX5_handOut 54 = .ok (.iinc 2 1, 3) := by decide +kernel
theorem dX5_handOut_57 : decode cX5_handOut 57 = .ok (.goto (-47), 3) := by decide +kernel
theorem dX5_handOut_60 : decode cX5_handOut 60 = .ok (.return_, 1) := by decide +kernel
theorem dX5_letSleep_0 : decode cX5_letSleep 0 = .ok (.aload_n 0, 1) := by decide +kernel
theorem dX5_letSleep_1 : decode cX5_letSleep 1 = .ok (.getfield 18, 3) := by decide +kernel
theorem dX5_letSleep_4 : decode cX5_letSleep 4 = .ok (.iconst 0, 1) := by decide +kernel
theorem dX5_letSleep_5 : decode cX5_letSleep 5 = .ok (.invokestatic 32, 3) := by decide +kernel
theorem dX5_letSleep_8 : decode cX5_letSleep 8 = .ok (.aload_n 0, 1) := by decide +kernel
theorem dX5_letSleep_9 : decode cX5_letSleep 9 = .ok (.getfield 18, 3) := by decide +kernel
theorem dX5_letSleep_12 : decode cX5_letSleep 12 = .ok (.iconst 0, 1) := by decide +kernel
theorem dX5_letSleep_13 : decode cX5_letSleep 13 = .ok (.aload_n 0, 1) := by decide +kernel
theorem dX5_letSleep_14 : decode cX5_letSleep 14 = .ok (.getfield 21, 3) := by decide +kernel
theorem dX5_letSleep_17 : decode cX5_letSleep 17 = .ok (.invokevirtual 51, 3) := by decide +kernel
theorem dX5_letSleep_20 : decode cX5_letSleep 20 = .ok (.iastore, 1) := by decide +kernel
theorem dX5_letSleep_21 : decode cX5_letSleep 21 = .ok (.iconst 0, 1) := by decide +kernel
theorem dX5_letSleep_22 : decode cX5_letSleep 22 = .ok (.istore_n 2, 1) := by decide +kernel
theorem dX5_letSleep_23 : decode cX5_letSleep 23 = .ok (.iload_n 2, 1) := by decide +kernel
theorem dX5_letSleep_24 : decode cX5_letSleep 24 = .ok (.aload_n 0, 1) := by decide +kernel
theorem dX5_letSleep_25 : decode cX5_letSleep 25 = .ok (.getfield 21, 3) := by decide +kernel
theorem dX5_letSleep_28 : decode cX5_letSleep 28 = .ok (.getfield 55, 3) := by decide +kernel
theorem dX5_letSleep_31 : decode cX5_letSleep 31 = .ok (.if_icmp .ge 97, 3) := by decide +kernel
theorem dX5_letSleep_34 : decode cX5_letSleep 34 = .ok (.aload_n 0, 1) := by decide +kernel
theorem dX5_letSleep_35 : decode cX5_letSleep 35 = .ok (.getfield 15, 3) := by decide +kernel
theorem dX5_letSleep_38 : decode cX5_letSleep 38 = .ok (.iload_n 2, 1) := by decide +kernel
theorem dX5_letSleep_39 : decode cX5_letSleep 39 = .ok (.aload_n 0, 1) := by decide +kernel
theorem dX5_letSleep_40 : decode cX5_letSleep 40 = .ok (.getfield 9, 3) := by decide +kernel
theorem dX5_letSleep_43 : decode cX5_letSleep 43 = .ok (.iload_n 2, 1) := by decide +kernel
theorem dX5_letSleep_44 : decode cX5_letSleep 44 = .ok (.iaload, 1) := by decide +kernel
theorem dX5_letSleep_45 : decode cX5_letSleep 45 = .ok (.aload_n 1, 1) := by decide +kernel
theorem dX5_letSleep_46 : decode cX5_letSleep 46 = .ok (.iload_n 2, 1) := by decide +kernel
theorem dX5_letSleep_47 : decode cX5_letSleep 47 = .ok (.iaload, 1) := by decide +kernel
theorem dX5_letSleep_48 : decode cX5_letSleep 48 = .ok (.iconst (-1), 1) := by decide +kernel
theorem dX5_letSleep_49 : decode cX5_letSleep 49 = .ok (.ixor, 1) := by decide +kernel
theorem dX5_letSleep_50 : decode cX5_letSleep 50 = .ok (.iand, 1) := by decide +kernel
theorem dX5_letSleep_51 : decode cX5_letSleep 51 = .ok (.iastore, 1) := by decide +kernel
theorem dX5_letSleep_52 : decode cX5_letSleep 52 = .ok (.aload_n 0, 1) := by decide +kernel
theorem dX5_letSleep_53 : decode cX5_letSleep 53 = .ok (.getfield 21, 3) := by decide +kernel
theorem dX5_letSleep_56 : decode cX5_letSleep 56 = .ok (.getfield 55, 3) := by decide +kernel
theorem dX5_letSleep_59 : decode cX5_letSleep 59 = .ok (.istore_n 3, 1) := by decide +kernel
theorem dX5_letSleep_60 : decode cX5_letSleep 60 = .ok (.iload_n 3, 1) := by decide +kernel
theorem dX5_letSleep_61 : decode cX5_letSleep 61 = .ok (.ifCond .le 46, 3) := by decide +kernel
theorem dX5_letSleep_64 : decode cX5_letSleep 64 = .ok (.aload_n 0, 1) := by decide +kernel
theorem dX5_letSleep_65 : decode cX5_letSleep 65 = .ok (.getfield 18, 3) := by decide +kernel
theorem dX5_letSleep_68 : decode cX5_letSleep 68 = .ok (.iload_n 3, 1) := by decide +kernel
theorem dX5_letSleep_69 : decode cX5_letSleep 69 = .ok (.aload_n 0, 1) := by decide +kernel
theorem dX5_letSleep_70 : decode cX5_letSleep 70 = .ok (.getfield 18, 3) := by decide +kernel
theorem dX5_letSleep_73 : decode cX5_letSleep 73 = .ok (.iload_n 3, 1) := by decide +kernel
theorem dX5_letSleep_74 : decode cX5_letSleep 74 = .ok (.iaload, 1) := by decide +kernel
theorem dX5_letSleep_75 : decode cX5_letSleep 75 = .ok (.aload_n 0, 1) := by decide +kernel
theorem dX5_letSleep_76 : decode cX5_letSleep 76 = .ok (.getfield 15, 3) := by decide +kernel
theorem dX5_letSleep_79 : decode cX5_letSleep 79 = .ok (.iload_n 2, 1) := by decide +kernel
theorem dX5_letSleep_80 : decode cX5_letSleep 80 = .ok (.iaload, 1) := by decide +kernel
theorem dX5_letSleep_81 : decode cX5_letSleep 81 = .ok (.iand, 1) := by decide +kernel
theorem dX5_letSleep_82 : decode cX5_letSleep 82 = .ok (.aload_n 0, 1) := by decide +kernel
theorem dX5_letSleep_83 : decode cX5_letSleep 83 = .ok (.getfield 18, 3) := by decide +kernel
theorem dX5_letSleep_86 : decode cX5_letSleep 86 = .ok (.iload_n 3, 1) := by decide +kernel
theorem dX5_letSleep_87 : decode cX5_letSleep 87 = .ok (.iconst 1, 1) := by decide +kernel
theorem dX5_letSleep_88 : decode cX5_letSleep 88 = .ok (.isub, 1) := by decide +kernel
theorem dX5_letSleep_89 : decode cX5_letSleep 89 = .ok (.iaload, 1) := by decide +kernel
theorem dX5_letSleep_90 : decode cX5_letSleep 90 = .ok (.aload_n 0, 1) := by decide +kernel
theorem dX5_letSleep_91 : decode cX5_letSleep 91 = .ok (.getfield 15, 3) := by decide +kernel
theorem dX5_letSleep_94 : decode cX5_letSleep 94 = .ok (.iload_n 2, 1) := by decide +kernel
theorem dX5_letSleep_95 : decode cX5_letSleep 95 = .ok (.iaload, 1) := by decide +kernel
theorem dX5_letSleep_96 : decode cX5_letSleep 96 = .ok (.iconst (-1), 1) := by decide +kernel
theorem dX5_letSleep_97 : decode cX5_letSleep 97 = .ok (.ixor, 1) := by decide +kernel
theorem dX5_letSleep_98 : decode cX5_letSleep 98 = .ok (.iand, 1) := by decide +kernel
theorem dX5_letSleep_99 : decode cX5_letSleep 99 = .ok (.ior, 1) := by decide +kernel
theorem dX5_letSleep_100 : decode cX5_letSleep 100 = .ok (.iastore, 1) := by decide +kernel
theorem dX5_letSleep_101 : decode cX5_letSleep 101 = .ok (.iinc 3 (-1), 3) := by decide +kernel
theorem dX5_letSleep_104 : decode cX5_letSleep 104 = .ok (.goto (-44), 3) := by decide +kernel
theorem dX5_letSleep_107 : decode cX5_letSleep 107 = .ok (.aload_n 0, 1) := by decide +kernel
theorem dX5_letSleep_108 : decode cX5_letSleep 108 = .ok (.getfield 18, 3) := by decide +kernel
theorem dX5_letSleep_111 : decode cX5_letSleep 111 = .ok (.iconst 0, 1) := by decide +kernel
theorem dX5_letSleep_112 : decode cX5_letSleep 112 = .ok (.dup2, 1) := by decide +kernel
theorem dX5_letSleep_113 : decode cX5_letSleep 113 = .ok (.iaload, 1) := by decide +kernel
theorem dX5_letSleep_114 : decode cX5_letSleep 114 = .ok (.aload_n 0, 1) := by decide +kernel
theorem dX5_letSleep_115 : decode cX5_letSleep 115 = .ok (.getfield 15, 3) := by decide +kernel
theorem dX5_letSleep_118 : decode cX5_letSleep 118 = .ok (.iload_n 2, 1) := by decide +kernel
theorem dX5_letSleep_119 : decode cX5_letSleep 119 = .ok (.iaload, 1) := by decide +kernel
theorem dX5_letSleep_120 : decode cX5_letSleep 120 = .ok (.iand, 1) := by decide +kernel
theorem dX5_letSleep_121 : decode cX5_letSleep 121 = .ok (.iastore, 1) := by decide +kernel
theorem dX5_letSleep_122 : decode cX5_letSleep 122 = .ok (.iinc 2 1, 3) := by decide +kernel
theorem dX5_letSleep_125 : decode cX5_letSleep 125 = .ok (.goto (-102), 3) := by decide +kernel
theorem dX5_letSleep_128 : decode cX5_letSleep 128 = .ok (.return_, 1) := by decide +kernel
theorem dX5_restersIn_0 : decode cX5_restersIn 0 = .ok (.aload_n 0, 1) := by decide +kernel
theorem dX5_restersIn_1 : decode cX5_restersIn 1 = .ok (.getfield 21, 3) := by decide +kernel
theorem dX5_restersIn_4 : decode cX5_restersIn 4 = .ok (.getfield 55, 3) := by decide +kernel
theorem dX5_restersIn_7 : decode cX5_restersIn 7 = .ok (.istore_n 2, 1) := by decide +kernel
theorem dX5_restersIn_8 : decode cX5_restersIn 8 = .ok (.iload_n 2, 1) := by decide +kernel
theorem dX5_restersIn_9 : decode cX5_restersIn 9 = .ok (.ifCond .le 25, 3) := by decide +kernel
theorem dX5_restersIn_12 : decode cX5_restersIn 12 = .ok (.aload_n 0, 1) := by decide +kernel
theorem dX5_restersIn_13 : decode cX5_restersIn 13 = .ok (.getfield 18, 3) := by decide +kernel
theorem dX5_restersIn_16 : decode cX5_restersIn 16 = .ok (.iload_n 2, 1) := by decide +kernel
theorem dX5_restersIn_17 : decode cX5_restersIn 17 = .ok (.iaload, 1) := by decide +kernel
theorem dX5_restersIn_18 : decode cX5_restersIn 18 = .ok (.iload_n 1, 1) := by decide +kernel
theorem dX5_restersIn_19 : decode cX5_restersIn 19 = .ok (.ishr, 1) := by decide +kernel
theorem dX5_restersIn_20 : decode cX5_restersIn 20 = .ok (.iconst 1, 1) := by decide +kernel
theorem dX5_restersIn_21 : decode cX5_restersIn 21 = .ok (.iand, 1) := by decide +kernel
theorem dX5_restersIn_22 : decode cX5_restersIn 22 = .ok (.iconst 1, 1) := by decide +kernel
theorem dX5_restersIn_23 : decode cX5_restersIn 23 = .ok (.if_icmp .ne 5, 3) := by decide +kernel
theorem dX5_restersIn_26 : decode cX5_restersIn 26 = .ok (.iload_n 2, 1) := by decide +kernel
theorem dX5_restersIn_27 : decode cX5_restersIn 27 = .ok (.ireturn, 1) := by decide +kernel
theorem dX5_restersIn_28 : decode cX5_restersIn 28 = .ok (.iinc 2 (-1), 3) := by decide +kernel
theorem dX5_restersIn_31 : decode cX5_restersIn 31 = .ok (.goto (-23), 3) := by decide +kernel
theorem dX5_restersIn_34 : decode cX5_restersIn 34 = .ok (.iconst 0, 1) := by decide +kernel
theorem dX5_restersIn_35 : decode cX5_restersIn 35 = .ok (.ireturn, 1) := by decide +kernel
theorem dX5_nobodys_0 : decode cX5_nobodys 0 = .ok (.aload_n 0, 1) := by decide +kernel
theorem dX5_nobodys_1 : decode cX5_nobodys 1 = .ok (.getfield 18, 3) := by decide +kernel
theorem dX5_nobodys_4 : decode cX5_nobodys 4 = .ok (.aload_n 0, 1) := by decide +kernel
theorem dX5_nobodys_5 : decode cX5_nobodys 5 = .ok (.getfield 21, 3) := by decide +kernel
theorem dX5_nobodys_8 : decode cX5_nobodys 8 = .ok (.getfield 55, 3) := by decide +kernel
theorem dX5_nobodys_11 : decode cX5_nobodys 11 = .ok (.iaload, 1) := by decide +kernel
theorem dX5_nobodys_12 : decode cX5_nobodys 12 = .ok (.ireturn, 1) := by decide +kernel
theorem dX5_tutti_0 : decode cX5_tutti 0 = .ok (.aload_n 0, 1) := by decide +kernel
theorem dX5_tutti_1 : decode cX5_tutti 1 = .ok (.getfield 21, 3) := by decide +kernel
theorem dX5_tutti_4 : decode cX5_tutti 4 = .ok (.getfield 55, 3) := by decide +kernel
theorem dX5_tutti_7 : decode cX5_tutti 7 = .ok (.ifCond .ne 7, 3) := by decide +kernel
theorem dX5_tutti_10 : decode cX5_tutti 10 = .ok (.iconst 0, 1) := by decide +kernel
theorem dX5_tutti_11 : decode cX5_tutti 11 = .ok (.goto 9, 3) := by decide +kernel
theorem dX5_tutti_14 : decode cX5_tutti 14 = .ok (.aload_n 0, 1) := by decide +kernel
theorem dX5_tutti_15 : decode cX5_tutti 15 = .ok (.getfield 18, 3) := by decide +kernel
theorem dX5_tutti_18 : decode cX5_tutti 18 = .ok (.iconst 0, 1) := by decide +kernel
theorem dX5_tutti_19 : decode cX5_tutti 19 = .ok (.iaload, 1) := by decide +kernel
theorem dX5_tutti_20 : decode cX5_tutti 20 = .ok (.ireturn, 1) := by decide +kernel
theorem dX5_pay_0 : decode cX5_pay 0 = .ok (.aload_n 0, 1) := by decide +kernel
theorem dX5_pay_1 : decode cX5_pay 1 = .ok (.getfield 21, 3) := by decide +kernel
theorem dX5_pay_4 : decode cX5_pay 4 = .ok (.getfield 58, 3) := by decide +kernel
theorem dX5_pay_7 : decode cX5_pay 7 = .ok (.ineg, 1) := by decide +kernel
theorem dX5_pay_8 : decode cX5_pay 8 = .ok (.aload_n 0, 1) := by decide +kernel
theorem dX5_pay_9 : decode cX5_pay 9 = .ok (.getfield 9, 3) := by decide +kernel
theorem dX5_pay_12 : decode cX5_pay 12 = .ok (.iload_n 1, 1) := by decide +kernel
theorem dX5_pay_13 : decode cX5_pay 13 = .ok (.iaload, 1) := by decide +kernel
theorem dX5_pay_14 : decode cX5_pay 14 = .ok (.aload_n 0, 1) := by decide +kernel
theorem dX5_pay_15 : decode cX5_pay 15 = .ok (.getfield 15, 3) := by decide +kernel
theorem dX5_pay_18 : decode cX5_pay 18 = .ok (.iload_n 1, 1) := by decide +kernel
theorem dX5_pay_19 : decode cX5_pay 19 = .ok (.iaload, 1) := by decide +kernel
theorem dX5_pay_20 : decode cX5_pay 20 = .ok (.iconst (-1), 1) := by decide +kernel
theorem dX5_pay_21 : decode cX5_pay 21 = .ok (.ixor, 1) := by decide +kernel
theorem dX5_pay_22 : decode cX5_pay 22 = .ok (.iand, 1) := by decide +kernel
theorem dX5_pay_23 : decode cX5_pay 23 = .ok (.invokestatic 61, 3) := by decide +kernel
theorem dX5_pay_26 : decode cX5_pay 26 = .ok (.imul, 1) := by decide +kernel
theorem dX5_pay_27 : decode cX5_pay 27 = .ok (.istore_n 2, 1) := by decide +kernel
theorem dX5_pay_28 : decode cX5_pay 28 = .ok (.iconst 1, 1) := by decide +kernel
theorem dX5_pay_29 : decode cX5_pay 29 = .ok (.istore_n 3, 1) := by decide +kernel
theorem dX5_pay_30 : decode cX5_pay 30 = .ok (.iload_n 3, 1) := by decide +kernel
theorem dX5_pay_31 : decode cX5_pay 31 = .ok (.aload_n 0, 1) := by decide +kernel
theorem dX5_pay_32 : decode cX5_pay 32 = .ok (.getfield 21, 3) := by decide +kernel
theorem dX5_pay_35 : decode cX5_pay 35 = .ok (.getfield 55, 3) := by decide +kernel
theorem dX5_pay_38 : decode cX5_pay 38 = .ok (.if_icmp .gt 36, 3) := by decide +kernel
theorem dX5_pay_41 : decode cX5_pay 41 = .ok (.iload_n 2, 1) := by decide +kernel
theorem dX5_pay_42 : decode cX5_pay 42 = .ok (.aload_n 0, 1) := by decide +kernel
theorem dX5_pay_43 : decode cX5_pay 43 = .ok (.iload_n 3, 1) := by decide +kernel
theorem dX5_pay_44 : decode cX5_pay 44 = .ok (.invokevirtual 67, 3) := by decide +kernel
theorem dX5_pay_47 : decode cX5_pay 47 = .ok (.aload_n 0, 1) := by decide +kernel
theorem dX5_pay_48 : decode cX5_pay 48 = .ok (.getfield 18, 3) := by decide +kernel
theorem dX5_pay_51 : decode cX5_pay 51 = .ok (.iload_n 3, 1) := by decide +kernel
theorem dX5_pay_52 : decode cX5_pay 52 = .ok (.iaload, 1) := by decide +kernel
theorem dX5_pay_53 : decode cX5_pay 53 = .ok (.aload_n 0, 1) := by decide +kernel
theorem dX5_pay_54 : decode cX5_pay 54 = .ok (.getfield 15, 3) := by decide +kernel
theorem dX5_pay_57 : decode cX5_pay 57 = .ok (.iload_n 1, 1) := by decide +kernel
theorem dX5_pay_58 : decode cX5_pay 58 = .ok (.iaload, 1) := by decide +kernel
theorem dX5_pay_59 : decode cX5_pay 59 = .ok (.iconst (-1), 1) := by decide +kernel
theorem dX5_pay_60 : decode cX5_pay 60 = .ok (.ixor, 1) := by decide +kernel
theorem dX5_pay_61 : decode cX5_pay 61 = .ok (.iand, 1) := by decide +kernel
theorem dX5_pay_62 : decode cX5_pay 62 = .ok (.invokestatic 61, 3) := by decide +kernel
theorem dX5_pay_65 : decode cX5_pay 65 = .ok (.imul, 1) := by decide +kernel
theorem dX5_pay_66 : decode cX5_pay 66 = .ok (.iadd, 1) := by decide +kernel
theorem dX5_pay_67 : decode cX5_pay 67 = .ok (.istore_n 2, 1) := by decide +kernel
theorem dX5_pay_68 : decode cX5_pay 68 = .ok (.iinc 3 1, 3) := by decide +kernel
theorem dX5_pay_71 : decode cX5_pay 71 = .ok (.goto (-41), 3) := by decide +kernel
theorem dX5_pay_74 : decode cX5_pay 74 = .ok (.iload_n 2, 1) := by decide +kernel
theorem dX5_pay_75 : decode cX5_pay 75 = .ok (.ireturn, 1) := by decide +kernel
theorem dX5_cutFor_0 : decode cX5_cutFor 0 = .ok (.iload_n 1, 1) := by decide +kernel
theorem dX5_cutFor_1 : decode cX5_cutFor 1 = .ok (.ifCond .le 15, 3) := by decide +kernel
theorem dX5_cutFor_4 : decode cX5_cutFor 4 = .ok (.aload_n 0, 1) := by decide +kernel
theorem dX5_cutFor_5 : decode cX5_cutFor 5 = .ok (.getfield 21, 3) := by decide +kernel
theorem dX5_cutFor_8 : decode cX5_cutFor 8 = .ok (.getfield 70, 3) := by decide +kernel
theorem dX5_cutFor_11 : decode cX5_cutFor 11 = .ok (.iload_n 1, 1) := by decide +kernel
theorem dX5_cutFor_12 : decode cX5_cutFor 12 = .ok (.idiv, 1) := by decide +kernel
theorem dX5_cutFor_13 : decode cX5_cutFor 13 = .ok (.goto 4, 3) := by decide +kernel
theorem dX5_cutFor_16 : decode cX5_cutFor 16 = .ok (.iconst 0, 1) := by decide +kernel
theorem dX5_cutFor_17 : decode cX5_cutFor 17 = .ok (.ireturn, 1) := by decide +kernel
theorem dX5_payOfAll_0 : decode cX5_payOfAll 0 = .ok (.iconst 0, 1) := by decide +kernel
theorem dX5_payOfAll_1 : decode cX5_payOfAll 1 = .ok (.istore_n 1, 1) := by decide +kernel
theorem dX5_payOfAll_2 : decode cX5_payOfAll 2 = .ok (.iconst 0, 1) := by decide +kernel
theorem dX5_payOfAll_3 : decode cX5_payOfAll 3 = .ok (.istore_n 2, 1) := by decide +kernel
theorem dX5_payOfAll_4 : decode cX5_payOfAll 4 = .ok (.iload_n 2, 1) := by decide +kernel
theorem dX5_payOfAll_5 : decode cX5_payOfAll 5 = .ok (.aload_n 0, 1) := by decide +kernel
theorem dX5_payOfAll_6 : decode cX5_payOfAll 6 = .ok (.getfield 21, 3) := by decide +kernel
theorem dX5_payOfAll_9 : decode cX5_payOfAll 9 = .ok (.getfield 55, 3) := by decide +kernel
theorem dX5_payOfAll_12 : decode cX5_payOfAll 12 = .ok (.if_icmp .ge 17, 3) := by decide +kernel
theorem dX5_payOfAll_15 : decode cX5_payOfAll 15 = .ok (.iload_n 1, 1) := by decide +kernel
theorem dX5_payOfAll_16 : decode cX5_payOfAll 16 = .ok (.aload_n 0, 1) := by decide +kernel
theorem dX5_payOfAll_17 : decode cX5_payOfAll 17 = .ok (.iload_n 2, 1) := by decide +kernel
theorem dX5_payOfAll_18 : decode cX5_payOfAll 18 = .ok (.invokevirtual 73, 3) := by decide +kernel
theorem dX5_payOfAll_21 : decode cX5_payOfAll 21 = .ok (.iadd, 1) := by decide +kernel
theorem dX5_payOfAll_22 : decode cX5_payOfAll 22 = .ok (.istore_n 1, 1) := by decide +kernel
theorem dX5_payOfAll_23 : decode cX5_payOfAll 23 = .ok (.iinc 2 1, 3) := by decide +kernel
theorem dX5_payOfAll_26 : decode cX5_payOfAll 26 = .ok (.goto (-22), 3) := by decide +kernel
theorem dX5_payOfAll_29 : decode cX5_payOfAll 29 = .ok (.iload_n 1, 1) := by decide +kernel
theorem dX5_payOfAll_30 : decode cX5_payOfAll 30 = .ok (.ireturn, 1) := by decide +kernel
theorem dX5_gain_0 : decode cX5_gain 0 = .ok (.aload_n 0, 1) := by decide +kernel
theorem dX5_gain_1 : decode cX5_gain 1 = .ok (.iload_n 1, 1) := by decide +kernel
theorem dX5_gain_2 : decode cX5_gain 2 = .ok (.invokevirtual 73, 3) := by decide +kernel
theorem dX5_gain_5 : decode cX5_gain 5 = .ok (.aload_n 0, 1) := by decide +kernel
theorem dX5_gain_6 : decode cX5_gain 6 = .ok (.getfield 21, 3) := by decide +kernel
theorem dX5_gain_9 : decode cX5_gain 9 = .ok (.getfield 76, 3) := by decide +kernel
theorem dX5_gain_12 : decode cX5_gain 12 = .ok (.iload_n 1, 1) := by decide +kernel
theorem dX5_gain_13 : decode cX5_gain 13 = .ok (.iaload, 1) := by decide +kernel
theorem dX5_gain_14 : decode cX5_gain 14 = .ok (.isub, 1) := by decide +kernel
theorem dX5_gain_15 : decode cX5_gain 15 = .ok (.ireturn, 1) := by decide +kernel
theorem dX5_lives_0 : decode cX5_lives 0 = .ok (.aload_n 0, 1) := by decide +kernel
theorem dX5_lives_1 : decode cX5_lives 1 = .ok (.iload_n 1, 1) := by decide +kernel
theorem dX5_lives_2 : decode cX5_lives 2 = .ok (.invokevirtual 79, 3) := by decide +kernel
theorem dX5_lives_5 : decode cX5_lives 5 = .ok (.ifCond .lt 7, 3) := by decide +kernel
theorem dX5_lives_8 : decode cX5_lives 8 = .ok (.iconst 1, 1) := by decide +kernel
theorem dX5_lives_9 : decode cX5_lives 9 = .ok (.goto 4, 3) := by decide +kernel
theorem dX5_lives_12 : decode cX5_lives 12 = .ok (.iconst 0, 1) := by decide +kernel
theorem dX5_lives_13 : decode cX5_lives 13 = .ok (.ireturn, 1) := by decide +kernel
theorem dX5_outOfBreath_0 : decode cX5_outOfBreath 0 = .ok (.aload_n 0, 1) := by decide +kernel
theorem dX5_outOfBreath_1 : decode cX5_outOfBreath 1 = .ok (.getfield 9, 3) := by decide +kernel
theorem dX5_outOfBreath_4 : decode cX5_outOfBreath 4 = .ok (.iload_n 1, 1) := by decide +kernel
theorem dX5_outOfBreath_5 : decode cX5_outOfBreath 5 = .ok (.iaload, 1) := by decide +kernel
theorem dX5_outOfBreath_6 : decode cX5_outOfBreath 6 = .ok (.invokestatic 82, 3) := by decide +kernel
theorem dX5_outOfBreath_9 : decode cX5_outOfBreath 9 = .ok (.aload_n 0, 1) := by decide +kernel
theorem dX5_outOfBreath_10 : decode cX5_outOfBreath 10 = .ok (.getfield 21, 3) := by decide +kernel
theorem dX5_outOfBreath_13 : decode cX5_outOfBreath 13 = .ok (.getfield 85, 3) := by decide +kernel
theorem dX5_outOfBreath_16 : decode cX5_outOfBreath 16 = .ok (.iload_n 1, 1) := by decide +kernel
theorem dX5_outOfBreath_17 : decode cX5_outOfBreath 17 = .ok (.iaload, 1) := by decide +kernel
theorem dX5_outOfBreath_18 : decode cX5_outOfBreath 18 = .ok (.if_icmp .le 7, 3) := by decide +kernel
theorem dX5_outOfBreath_21 : decode cX5_outOfBreath 21 = .ok (.iconst 1, 1) := by decide +kernel
theorem dX5_outOfBreath_22 : decode cX5_outOfBreath 22 = .ok (.goto 4, 3) := by decide +kernel
theorem dX5_outOfBreath_25 : decode cX5_outOfBreath 25 = .ok (.iconst 0, 1) := by decide +kernel
theorem dX5_outOfBreath_26 : decode cX5_outOfBreath 26 = .ok (.ireturn, 1) := by decide +kernel
theorem dX6_init_0 : decode cX6_init 0 = .ok (.aload_n 0, 1) := by decide +kernel
theorem dX6_init_1 : decode cX6_init 1 = .ok (.invokespecial 3, 3) := by decide +kernel
theorem dX6_init_4 : decode cX6_init 4 = .ok (.aload_n 0, 1) := by decide +kernel
theorem dX6_init_5 : decode cX6_init 5 = .ok (.iconst 5, 1) := by decide +kernel
theorem dX6_init_6 : decode cX6_init 6 = .ok (.newarray .int, 2) := by decide +kernel
theorem dX6_init_8 : decode cX6_init 8 = .ok (.dup, 1) := by decide +kernel
theorem dX6_init_9 : decode cX6_init 9 = .ok (.iconst 0, 1) := by decide +kernel
theorem dX6_init_10 : decode cX6_init 10 = .ok (.iconst (-1), 1) := by decide +kernel
theorem dX6_init_11 : decode cX6_init 11 = .ok (.iastore, 1) := by decide +kernel
theorem dX6_init_12 : decode cX6_init 12 = .ok (.dup, 1) := by decide +kernel
theorem dX6_init_13 : decode cX6_init 13 = .ok (.iconst 1, 1) := by decide +kernel
theorem dX6_init_14 : decode cX6_init 14 = .ok (.iconst (-1), 1) := by decide +kernel
theorem dX6_init_15 : decode cX6_init 15 = .ok (.iastore, 1) := by decide +kernel
theorem dX6_init_16 : decode cX6_init 16 = .ok (.dup, 1) := by decide +kernel
theorem dX6_init_17 : decode cX6_init 17 = .ok (.iconst 2, 1) := by decide +kernel
theorem dX6_init_18 : decode cX6_init 18 = .ok (.iconst (-1), 1) := by decide +kernel
theorem dX6_init_19 : decode cX6_init 19 = .ok (.iastore, 1) := by decide +kernel
theorem dX6_init_20 : decode cX6_init 20 = .ok (.dup, 1) := by decide +kernel
theorem dX6_init_21 : decode cX6_init 21 = .ok (.iconst 3, 1) := by decide +kernel
theorem dX6_init_22 : decode cX6_init 22 = .ok (.iconst (-1), 1) := by decide +kernel
theorem dX6_init_23 : decode cX6_init 23 = .ok (.iastore, 1) := by decide +kernel
theorem dX6_init_24 : decode cX6_init 24 = .ok (.dup, 1) := by decide +kernel
theorem dX6_init_25 : decode cX6_init 25 = .ok (.iconst 4, 1) := by decide +kernel
theorem dX6_init_26 : decode cX6_init 26 = .ok (.iconst (-1), 1) := by decide +kernel
theorem dX6_init_27 : decode cX6_init 27 = .ok (.iastore, 1) := by decide +kernel
theorem dX6_init_28 : decode cX6_init 28 = .ok (.putfield 9, 3) := by decide +kernel
theorem dX6_init_31 : decode cX6_init 31 = .ok (.aload_n 0, 1) := by decide +kernel
theorem dX6_init_32 : decode cX6_init 32 = .ok (.iconst 5, 1) := by decide +kernel
theorem dX6_init_33 : decode cX6_init 33 = .ok (.newarray .int, 2) := by decide +kernel
theorem dX6_init_35 : decode cX6_init 35 = .ok (.putfield 15, 3) := by decide +kernel
theorem dX6_init_38 : decode cX6_init 38 = .ok (.aload_n 0, 1) := by decide +kernel
theorem dX6_init_39 : decode cX6_init 39 = .ok (.iconst 5, 1) := by decide +kernel
theorem dX6_init_40 : decode cX6_init 40 = .ok (.newarray .int, 2) := by decide +kernel
theorem dX6_init_42 : decode cX6_init 42 = .ok (.putfield 18, 3) := by decide +kernel
theorem dX6_init_45 : decode cX6_init 45 = .ok (.aload_n 0, 1) := by decide +kernel
theorem dX6_init_46 : decode cX6_init 46 = .ok (.iconst 0, 1) := by decide +kernel
theorem dX6_init_47 : decode cX6_init 47 = .ok (.putfield 21, 3) := by decide +kernel
theorem dX6_init_50 : decode cX6_init 50 = .ok (.return_, 1) := by decide +kernel
theorem dX6_begin_0 : decode cX6_begin 0 = .ok (.aload_n 0, 1) := by decide +kernel
theorem dX6_begin_1 : decode cX6_begin 1 = .ok (.getfield 9, 3) := by decide +kernel
theorem dX6_begin_4 : decode cX6_begin 4 = .ok (.iconst (-1), 1) := by decide +kernel
theorem dX6_begin_5 : decode cX6_begin 5 = .ok (.invokestatic 25, 3) := by decide +kernel
theorem dX6_begin_8 : decode cX6_begin 8 = .ok (.aload_n 0, 1) := by decide +kernel
theorem dX6_begin_9 : decode cX6_begin 9 = .ok (.getfield 15, 3) := by decide +kernel
theorem dX6_begin_12 : decode cX6_begin 12 = .ok (.iconst 0, 1) := by decide +kernel
theorem dX6_begin_13 : decode cX6_begin 13 = .ok (.invokestatic 25, 3) := by decide +kernel
theorem dX6_begin_16 : decode cX6_begin 16 = .ok (.aload_n 0, 1) := by decide +kernel
theorem dX6_begin_17 : decode cX6_begin 17 = .ok (.getfield 18, 3) := by decide +kernel
theorem dX6_begin_20 : decode cX6_begin 20 = .ok (.iconst 0, 1) := by decide +kernel
theorem dX6_begin_21 : decode cX6_begin 21 = .ok (.invokestatic 25, 3) := by decide +kernel
theorem dX6_begin_24 : decode cX6_begin 24 = .ok (.aload_n 0, 1) := by decide +kernel
theorem dX6_begin_25 : decode cX6_begin 25 = .ok (.iconst 0, 1) := by decide +kernel
theorem dX6_begin_26 : decode cX6_begin 26 = .ok (.putfield 21, 3) := by decide +kernel
theorem dX6_begin_29 : decode cX6_begin 29 = .ok (.return_, 1) := by decide +kernel
theorem dX6_become_0 : decode cX6_become 0 = .ok (.aload_n 1, 1) := by decide +kernel
theorem dX6_become_1 : decode cX6_become 1 = .ok (.getfield 9, 3) := by decide +kernel
theorem dX6_become_4 : decode cX6_become 4 = .ok (.iconst 0, 1) := by decide +kernel
theorem dX6_become_5 : decode cX6_become 5 = .ok (.aload_n 0, 1) := by decide +kernel
theorem dX6_become_6 : decode cX6_become 6 = .ok (.getfield 9, 3) := by decide +kernel
theorem dX6_become_9 : decode cX6_become 9 = .ok (.iconst 0, 1) := by decide +kernel
theorem dX6_become_10 : decode cX6_become 10 = .ok (.iconst 5, 1) := by decide +kernel
theorem dX6_become_11 : decode cX6_become 11 = .ok (.invokestatic 31, 3) := by decide +kernel
theorem dX6_become_14 : decode cX6_become 14 = .ok (.aload_n 1, 1) := by decide +kernel
theorem dX6_become_15 : decode cX6_become 15 = .ok (.getfield 15, 3) := by decide +kernel
theorem dX6_become_18 : decode cX6_become 18 = .ok (.iconst 0, 1) := by decide +kernel
theorem dX6_become_19 : decode cX6_become 19 = .ok (.aload_n 0, 1) := by decide +kernel
theorem dX6_become_20 : decode cX6_become 20 = .ok (.getfield 15, 3) := by decide +kernel
theorem dX6_become_23 : decode cX6_become 23 = .ok (.iconst 0, 1) := by decide +kernel
theorem dX6_become_24 : decode cX6_become 24 = .ok (.iconst 5, 1) := by decide +kernel
theorem dX6_become_25 : decode cX6_become 25 = .ok (.invokestatic 31, 3) := by decide +kernel
theorem dX6_become_28 : decode cX6_become 28 = .ok (.aload_n 1, 1) := by decide +kernel
theorem dX6_become_29 : decode cX6_become 29 = .ok (.getfield 18, 3) := by decide +kernel
theorem dX6_become_32 : decode cX6_become 32 = .ok (.iconst 0, 1) := by decide +kernel
theorem dX6_become_33 : decode cX6_become 33 = .ok (.aload_n 0, 1) := by decide +kernel
theorem dX6_become_34 : decode cX6_become 34 = .ok (.getfield 18, 3) := by decide +kernel
theorem dX6_become_37 : decode cX6_become 37 = .ok (.iconst 0, 1) := by decide +kernel
theorem dX6_become_38 : decode cX6_become 38 = .ok (.iconst 5, 1) := by decide +kernel
theorem dX6_become_39 : decode cX6_become 39 = .ok (.invokestatic 31, 3) := by decide +kernel
theorem dX6_become_42 : decode cX6_become 42 = .ok (.aload_n 0, 1) := by decide +kernel
theorem dX6_become_43 : decode cX6_become 43 = .ok (.aload_n 1, 1) := by decide +kernel
theorem dX6_become_44 : decode cX6_become 44 = .ok (.getfield 21, 3) := by decide +kernel
theorem dX6_become_47 : decode cX6_become 47 = .ok (.putfield 21, 3) := by decide +kernel
theorem dX6_become_50 : decode cX6_become 50 = .ok (.return_, 1) := by decide +kernel
theorem dX7_init_0 : decode cX7_init 0 = .ok (.aload_n 0, 1) := by decide +kernel
theorem dX7_init_1 : decode cX7_init 1 = .ok (.invokespecial 3, 3) := by decide +kernel
theorem dX7_init_4 : decode cX7_init 4 = .ok (.aload_n 0, 1) := by decide +kernel
theorem dX7_init_5 : decode cX7_init 5 = .ok (.bipush 8, 2) := by decide +kernel
theorem dX7_init_7 : decode cX7_init 7 = .ok (.putfield 9, 3) := by decide +kernel
theorem dX7_init_10 : decode cX7_init 10 = .ok (.aload_n 0, 1) := by decide +kernel
theorem dX7_init_11 : decode cX7_init 11 = .ok (.bipush 12, 2) := by decide +kernel
theorem dX7_init_13 : decode cX7_init 13 = .ok (.putfield 15, 3) := by decide +kernel
theorem dX7_init_16 : decode cX7_init 16 = .ok (.aload_n 0, 1) := by decide +kernel
theorem dX7_init_17 : decode cX7_init 17 = .ok (.iconst 5, 1) := by decide +kernel
theorem dX7_init_18 : decode cX7_init 18 = .ok (.putfield 18, 3) := by decide +kernel
theorem dX7_init_21 : decode cX7_init 21 = .ok (.aload_n 0, 1) := by decide +kernel
theorem dX7_init_22 : decode cX7_init 22 = .ok (.iconst 0, 1) := by decide +kernel
theorem dX7_init_23 : decode cX7_init 23 = .ok (.putfield 21, 3) := by decide +kernel
theorem dX7_init_26 : decode cX7_init 26 = .ok (.aload_n 0, 1) := by decide +kernel
theorem dX7_init_27 : decode cX7_init 27 = .ok (.iconst 0, 1) := by decide +kernel
theorem dX7_init_28 : decode cX7_init 28 = .ok (.putfield 24, 3) := by decide +kernel
theorem dX7_init_31 : decode cX7_init 31 = .ok (.aload_n 0, 1) := by decide +kernel
theorem dX7_init_32 : decode cX7_init 32 = .ok (.iconst 5, 1) := by decide +kernel
theorem dX7_init_33 : decode cX7_init 33 = .ok (.newarray .int, 2) := by decide +kernel
theorem dX7_init_35 : decode cX7_init 35 = .ok (.putfield 27, 3) := by decide +kernel
theorem dX7_init_38 : decode cX7_init 38 = .ok (.aload_n 0, 1) := by decide +kernel
theorem dX7_init_39 : decode cX7_init 39 = .ok (.iconst 5, 1) := by decide +kernel
theorem dX7_init_40 : decode cX7_init 40 = .ok (.newarray .int, 2) := by decide +kernel
theorem dX7_init_42 : decode cX7_init 42 = .ok (.putfield 31, 3) := by decide +kernel
theorem dX7_init_45 : decode cX7_init 45 = .ok (.aload_n 0, 1) := by decide +kernel
theorem dX7_init_46 : decode cX7_init 46 = .ok (.iconst 5, 1) := by decide +kernel
theorem dX7_init_47 : decode cX7_init 47 = .ok (.newarray .int, 2) := by decide +kernel
theorem dX7_init_49 : decode cX7_init 49 = .ok (.putfield 34, 3) := by decide +kernel
theorem dX7_init_52 : decode cX7_init 52 = .ok (.aload_n 0, 1) := by decide +kernel
theorem dX7_init_53 : decode cX7_init 53 = .ok (.iconst 5, 1) := by decide +kernel
theorem dX7_init_54 : decode cX7_init 54 = .ok (.newarray .int, 2) := by decide +kernel
theorem dX7_init_56 : decode cX7_init 56 = .ok (.putfield 37, 3) := by decide +kernel
theorem dX7_init_59 : decode cX7_init 59 = .ok (.return_, 1) := by decide +kernel
theorem dX7_begin_0 : decode cX7_begin 0 = .ok (.aload_n 0, 1) := by decide +kernel
theorem dX7_begin_1 : decode cX7_begin 1 = .ok (.bipush 8, 2) := by decide +kernel
theorem dX7_begin_3 : decode cX7_begin 3 = .ok (.putfield 9, 3) := by decide +kernel
theorem dX7_begin_6 : decode cX7_begin 6 = .ok (.aload_n 0, 1) := by decide +kernel
theorem dX7_begin_7 : decode cX7_begin 7 = .ok (.bipush 12, 2) := by decide +kernel
theorem dX7_begin_9 : decode cX7_begin 9 = .ok (.putfield 15, 3) := by decide +kernel
theorem dX7_begin_12 : decode cX7_begin 12 = .ok (.aload_n 0, 1) := by decide +kernel
theorem dX7_begin_13 : decode cX7_begin 13 = .ok (.iconst 5, 1) := by decide +kernel
theorem dX7_begin_14 : decode cX7_begin 14 = .ok (.putfield 18, 3) := by decide +kernel
theorem dX7_begin_17 : decode cX7_begin 17 = .ok (.aload_n 0, 1) := by decide +kernel
theorem dX7_begin_18 : decode cX7_begin 18 = .ok (.iconst 0, 1) := by decide +kernel
theorem dX7_begin_19 : decode cX7_begin 19 = .ok (.putfield 21, 3) := by decide +kernel
theorem dX7_begin_22 : decode cX7_begin 22 = .ok (.aload_n 0, 1) := by decide +kernel
theorem dX7_begin_23 : decode cX7_begin 23 = .ok (.iconst 0, 1) := by decide +kernel
theorem dX7_begin_24 : decode cX7_begin 24 = .ok (.putfield 24, 3) := by decide +kernel
theorem dX7_begin_27 : decode cX7_begin 27 = .ok (.return_, 1) := by decide +kernel
theorem dX7_become_0 : decode cX7_become 0 = .ok (.aload_n 0, 1) := by decide +kernel
theorem dX7_become_1 : decode cX7_become 1 = .ok (.aload_n 1, 1) := by decide +kernel
theorem dX7_become_2 : decode cX7_become 2 = .ok (.getfield 9, 3) := by decide +kernel
theorem dX7_become_5 : decode cX7_become 5 = .ok (.putfield 9, 3) := by decide +kernel
theorem dX7_become_8 : decode cX7_become 8 = .ok (.aload_n 0, 1) := by decide +kernel
theorem dX7_become_9 : decode cX7_become 9 = .ok (.aload_n 1, 1) := by decide +kernel
theorem dX7_become_10 : decode cX7_become 10 = .ok (.getfield 15, 3) := by decide +kernel
theorem dX7_become_13 : decode cX7_become 13 = .ok (.putfield 15, 3) := by decide +kernel
theorem dX7_become_16 : decode cX7_become 16 = .ok (.aload_n 0, 1) := by decide +kernel
theorem dX7_become_17 : decode cX7_become 17 = .ok (.aload_n 1, 1) := by decide +kernel
theorem dX7_become_18 : decode cX7_become 18 = .ok (.getfield 18, 3) := by decide +kernel
theorem dX7_become_21 : decode cX7_become 21 = .ok (.putfield 18, 3) := by decide +kernel
theorem dX7_become_24 : decode cX7_become 24 = .ok (.aload_n 0, 1) := by decide +kernel
theorem dX7_become_25 : decode cX7_become 25 = .ok (.aload_n 1, 1) := by decide +kernel
theorem dX7_become_26 : decode cX7_become 26 = .ok (.getfield 21, 3) := by decide +kernel
theorem dX7_become_29 : decode cX7_become 29 = .ok (.putfield 21, 3) := by decide +kernel
theorem dX7_become_32 : decode cX7_become 32 = .ok (.aload_n 0, 1) := by decide +kernel
theorem dX7_become_33 : decode cX7_become 33 = .ok (.aload_n 1, 1) := by decide +kernel
theorem dX7_become_34 : decode cX7_become 34 = .ok (.getfield 24, 3) := by decide +kernel
theorem dX7_become_37 : decode cX7_become 37 = .ok (.putfield 24, 3) := by decide +kernel
theorem dX7_become_40 : decode cX7_become 40 = .ok (.aload_n 1, 1) := by decide +kernel
theorem dX7_become_41 : decode cX7_become 41 = .ok (.getfield 27, 3) := by decide +kernel
theorem dX7_become_44 : decode cX7_become 44 = .ok (.iconst 0, 1) := by decide +kernel
theorem dX7_become_45 : decode cX7_become 45 = .ok (.aload_n 0, 1) := by decide +kernel
theorem dX7_become_46 : decode cX7_become 46 = .ok (.getfield 27, 3) := by decide +kernel
theorem dX7_become_49 : decode cX7_become 49 = .ok (.iconst 0, 1) := by decide +kernel
theorem dX7_become_50 : decode cX7_become 50 = .ok (.iconst 5, 1) := by decide +kernel
theorem dX7_become_51 : decode cX7_become 51 = .ok (.invokestatic 40, 3) := by decide +kernel
theorem dX7_become_54 : decode cX7_become 54 = .ok (.aload_n 1, 1) := by decide +kernel
theorem dX7_become_55 : decode cX7_become 55 = .ok (.getfield 31, 3) := by decide +kernel
theorem dX7_become_58 : decode cX7_become 58 = .ok (.iconst 0, 1) := by decide +kernel
theorem dX7_become_59 : decode cX7_become 59 = .ok (.aload_n 0, 1) := by decide +kernel
theorem dX7_become_60 : decode cX7_become 60 = .ok (.getfield 31, 3) := by decide +kernel
theorem dX7_become_63 : decode cX7_become 63 = .ok (.iconst 0, 1) := by decide +kernel
theorem dX7_become_64 : decode cX7_become 64 = .ok (.iconst 5, 1) := by decide +kernel
theorem dX7_become_65 : decode cX7_become 65 = .ok (.invokestatic 40, 3) := by decide +kernel
theorem dX7_become_68 : decode cX7_become 68 = .ok (.aload_n 1, 1) := by decide +kernel
theorem dX7_become_69 : decode cX7_become 69 = .ok (.getfield 34, 3) := by decide +kernel
theorem dX7_become_72 : decode cX7_become 72 = .ok (.iconst 0, 1) := by decide +kernel
theorem dX7_become_73 : decode cX7_become 73 = .ok (.aload_n 0, 1) := by decide +kernel
theorem dX7_become_74 : decode cX7_become 74 = .ok (.getfield 34, 3) := by decide +kernel
theorem dX7_become_77 : decode cX7_become 77 = .ok (.iconst 0, 1) := by decide +kernel
theorem dX7_become_78 : decode cX7_become 78 = .ok (.iconst 5, 1) := by decide +kernel
theorem dX7_become_79 : decode cX7_become 79 = .ok (.invokestatic 40, 3) := by decide +kernel
theorem dX7_become_82 : decode cX7_become 82 = .ok (.aload_n 1, 1) := by decide +kernel
theorem dX7_become_83 : decode cX7_become 83 = .ok (.getfield 37, 3) := by decide +kernel
theorem dX7_become_86 : decode cX7_become 86 = .ok (.iconst 0, 1) := by decide +kernel
theorem dX7_become_87 : decode cX7_become 87 = .ok (.aload_n 0, 1) := by decide +kernel
theorem dX7_become_88 : decode cX7_become 88 = .ok (.getfield 37, 3) := by decide +kernel
theorem dX7_become_91 : decode cX7_become 91 = .ok (.iconst 0, 1) := by decide +kernel
theorem dX7_become_92 : decode cX7_become 92 = .ok (.iconst 5, 1) := by decide +kernel
theorem dX7_become_93 : decode cX7_become 93 = .ok (.invokestatic 40, 3) := by decide +kernel
theorem dX7_become_96 : decode cX7_become 96 = .ok (.return_, 1) := by decide +kernel
theorem dX7_hasPart_0 : decode cX7_hasPart 0 = .ok (.iload_n 1, 1) := by decide +kernel
theorem dX7_hasPart_1 : decode cX7_hasPart 1 = .ok (.ifCond .lt 15, 3) := by decide +kernel
theorem dX7_hasPart_4 : decode cX7_hasPart 4 = .ok (.iload_n 1, 1) := by decide +kernel
theorem dX7_hasPart_5 : decode cX7_hasPart 5 = .ok (.aload_n 0, 1) := by decide +kernel
theorem dX7_hasPart_6 : decode cX7_hasPart 6 = .ok (.getfield 21, 3) := by decide +kernel
theorem dX7_hasPart_9 : decode cX7_hasPart 9 = .ok (.if_icmp .ge 7, 3) := by decide +kernel
theorem dX7_hasPart_12 : decode cX7_hasPart 12 = .ok (.iconst 1, 1) := by decide +kernel
theorem dX7_hasPart_13 : decode cX7_hasPart 13 = .ok (.goto 4, 3) := by decide +kernel
theorem dX7_hasPart_16 : decode cX7_hasPart 16 = .ok (.iconst 0, 1) := by decide +kernel
theorem dX7_hasPart_17 : decode cX7_hasPart 17 = .ok (.ireturn, 1) := by decide +kernel
theorem dX7_hasPlayer_0 : decode cX7_hasPlayer 0 = .ok (.iload_n 1, 1) := by decide +kernel
theorem dX7_hasPlayer_1 : decode cX7_hasPlayer 1 = .ok (.ifCond .lt 15, 3) := by decide +kernel
theorem dX7_hasPlayer_4 : decode cX7_hasPlayer 4 = .ok (.iload_n 1, 1) := by decide +kernel
theorem dX7_hasPlayer_5 : decode cX7_hasPlayer 5 = .ok (.aload_n 0, 1) := by decide +kernel
theorem dX7_hasPlayer_6 : decode cX7_hasPlayer 6 = .ok (.getfield 24, 3) := by decide +kernel
theorem dX7_hasPlayer_9 : decode cX7_hasPlayer 9 = .ok (.if_icmp .ge 7, 3) := by decide +kernel
theorem dX7_hasPlayer_12 : decode cX7_hasPlayer 12 = .ok (.iconst 1, 1) := by decide +kernel
theorem dX7_hasPlayer_13 : decode cX7_hasPlayer 13 = .ok (.goto 4, 3) := by decide +kernel
theorem dX7_hasPlayer_16 : decode cX7_hasPlayer 16 = .ok (.iconst 0, 1) := by decide +kernel
theorem dX7_hasPlayer_17 : decode cX7_hasPlayer 17 = .ok (.ireturn, 1) := by decide +kernel
theorem dX7_hasBar_0 : decode cX7_hasBar 0 = .ok (.iload_n 1, 1) := by decide +kernel
theorem dX7_hasBar_1 : decode cX7_hasBar 1 = .ok (.ifCond .lt 15, 3) := by decide +kernel
theorem dX7_hasBar_4 : decode cX7_hasBar 4 = .ok (.iload_n 1, 1) := by decide +kernel
theorem dX7_hasBar_5 : decode cX7_hasBar 5 = .ok (.aload_n 0, 1) := by decide +kernel
theorem dX7_hasBar_6 : decode cX7_hasBar 6 = .ok (.getfield 9, 3) := by decide +kernel
theorem dX7_hasBar_9 : decode cX7_hasBar 9 = .ok (.if_icmp .ge 7, 3) := by decide +kernel
theorem dX7_hasBar_12 : decode cX7_hasBar 12 = .ok (.iconst 1, 1) := by decide +kernel
theorem dX7_hasBar_13 : decode cX7_hasBar 13 = .ok (.goto 4, 3) := by decide +kernel
theorem dX7_hasBar_16 : decode cX7_hasBar 16 = .ok (.iconst 0, 1) := by decide +kernel
theorem dX7_hasBar_17 : decode cX7_hasBar 17 = .ok (.ireturn, 1) := by decide +kernel
theorem dX7_allBars_0 : decode cX7_allBars 0 = .ok (.iconst 1, 1) := by decide +kernel
theorem dX7_allBars_1 : decode cX7_allBars 1 = .ok (.aload_n 0, 1) := by decide +kernel
theorem dX7_allBars_2 : decode cX7_allBars 2 = .ok (.getfield 9, 3) := by decide +kernel
theorem dX7_allBars_5 : decode cX7_allBars 5 = .ok (.ishl, 1) := by decide +kernel
theorem dX7_allBars_6 : decode cX7_allBars 6 = .ok (.iconst 1, 1) := by decide +kernel
theorem dX7_allBars_7 : decode cX7_allBars 7 = .ok (.isub, 1) := by decide +kernel
theorem dX7_allBars_8 : decode cX7_allBars 8 = .ok (.ireturn, 1) := by decide +kernel
theorem dX8_init_0 : decode cX8_init 0 = .ok (.aload_n 0, 1) := by decide +kernel
theorem dX8_init_1 : decode cX8_init 1 = .ok (.invokespecial 3, 3) := by decide +kernel
theorem dX8_init_4 : decode cX8_init 4 = .ok (.aload_n 0, 1) := by decide +kernel
theorem dX8_init_5 : decode cX8_init 5 = .ok (.new 9, 3) := by decide +kernel
theorem dX8_init_8 : decode cX8_init 8 = .ok (.dup, 1) := by decide +kernel
theorem dX8_init_9 : decode cX8_init 9 = .ok (.invokespecial 11, 3) := by decide +kernel
theorem dX8_init_12 : decode cX8_init 12 = .ok (.putfield 12, 3) := by decide +kernel
theorem dX8_init_15 : decode cX8_init 15 = .ok (.aload_n 0, 1) := by decide +kernel
theorem dX8_init_16 : decode cX8_init 16 = .ok (.new 16, 3) := by decide +kernel
theorem dX8_init_19 : decode cX8_init 19 = .ok (.dup, 1) := by decide +kernel
theorem dX8_init_20 : decode cX8_init 20 = .ok (.invokespecial 18, 3) := by decide +kernel
theorem dX8_init_23 : decode cX8_init 23 = .ok (.putfield 19, 3) := by decide +kernel
theorem dX8_init_26 : decode cX8_init 26 = .ok (.aload_n 0, 1) := by decide +kernel
theorem dX8_init_27 : decode cX8_init 27 = .ok (.new 16, 3) := by decide +kernel
theorem dX8_init_30 : decode cX8_init 30 = .ok (.dup, 1) := by decide +kernel
theorem dX8_init_31 : decode cX8_init 31 = .ok (.invokespecial 18, 3) := by decide +kernel
theorem dX8_init_34 : decode cX8_init 34 = .ok (.putfield 23, 3) := by decide +kernel
theorem dX8_init_37 : decode cX8_init 37 = .ok (.aload_n 0, 1) := by decide +kernel
theorem dX8_init_38 : decode cX8_init 38 = .ok (.new 26, 3) := by decide +kernel
theorem dX8_init_41 : decode cX8_init 41 = .ok (.dup, 1) := by decide +kernel
theorem dX8_init_42 : decode cX8_init 42 = .ok (.invokespecial 28, 3) := by decide +kernel
theorem dX8_init_45 : decode cX8_init 45 = .ok (.putfield 29, 3) := by decide +kernel
theorem dX8_init_48 : decode cX8_init 48 = .ok (.aload_n 0, 1) := by decide +kernel
theorem dX8_init_49 : decode cX8_init 49 = .ok (.new 33, 3) := by decide +kernel
theorem dX8_init_52 : decode cX8_init 52 = .ok (.dup, 1) := by decide +kernel
theorem dX8_init_53 : decode cX8_init 53 = .ok (.invokespecial 35, 3) := by decide +kernel
theorem dX8_init_56 : decode cX8_init 56 = .ok (.putfield 36, 3) := by decide +kernel
theorem dX8_init_59 : decode cX8_init 59 = .ok (.aload_n 0, 1) := by decide +kernel
theorem dX8_init_60 : decode cX8_init 60 = .ok (.iconst 2, 1) := by decide +kernel
theorem dX8_init_61 : decode cX8_init 61 = .ok (.anewarray 26, 3) := by decide +kernel
theorem dX8_init_64 : decode cX8_init 64 = .ok (.putfield 40, 3) := by decide +kernel
theorem dX8_init_67 : decode cX8_init 67 = .ok (.aload_n 0, 1) := by decide +kernel
theorem dX8_init_68 : decode cX8_init 68 = .ok (.iconst 0, 1) := by decide +kernel
theorem dX8_init_69 : decode cX8_init 69 = .ok (.putfield 44, 3) := by decide +kernel
theorem dX8_init_72 : decode cX8_init 72 = .ok (.aload_n 0, 1) := by decide +kernel
theorem dX8_init_73 : decode cX8_init 73 = .ok (.new 48, 3) := by decide +kernel
theorem dX8_init_76 : decode cX8_init 76 = .ok (.dup, 1) := by decide +kernel
theorem dX8_init_77 : decode cX8_init 77 = .ok (.aload_n 0, 1) := by decide +kernel
theorem dX8_init_78 : decode cX8_init 78 = .ok (.getfield 19, 3) := by decide +kernel
theorem dX8_init_81 : decode cX8_init 81 = .ok (.invokespecial 50, 3) := by decide +kernel
theorem dX8_init_84 : decode cX8_init 84 = .ok (.putfield 53, 3) := by decide +kernel
theorem dX8_init_87 : decode cX8_init 87 = .ok (.aload_n 0, 1) := by decide +kernel
theorem dX8_init_88 : decode cX8_init 88 = .ok (.new 57, 3) := by decide +kernel
theorem dX8_init_91 : decode cX8_init 91 = .ok (.dup, 1) := by decide +kernel
theorem dX8_init_92 : decode cX8_init 92 = .ok (.aload_n 0, 1) := by decide +kernel
theorem dX8_init_93 : decode cX8_init 93 = .ok (.getfield 19, 3) := by decide +kernel
