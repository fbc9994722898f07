theorem dX8_out_70 : decode cX8_out 70 = .ok (.invokestatic 274, 3) := by decide +kernel
theorem dX8_out_73 : decode cX8_out 73 = .ok (.iload_n 1, 1) := by decide +kernel
theorem dX8_out_74 : decode cX8_out 74 = .ok (.if_icmp .ne 33, 3) := by decide +kernel
theorem dX8_out_77 : decode cX8_out 77 = .ok (.aload_n 0, 1) := by decide +kernel
theorem dX8_out_78 : decode cX8_out 78 = .ok (.getfield 70, 3) := by decide +kernel
theorem dX8_out_81 : decode cX8_out 81 = .ok (.iload 7, 2) := by decide +kernel
theorem dX8_out_83 : decode cX8_out 83 = .ok (.invokevirtual 279, 3) := by decide +kernel
theorem dX8_out_86 : decode cX8_out 86 = .ok (.iload_n 2, 1) := by decide +kernel
theorem dX8_out_87 : decode cX8_out 87 = .ok (.if_icmp .gt 20, 3) := by decide +kernel
theorem dX8_out_90 : decode cX8_out 90 = .ok (.iinc 4 1, 3) := by decide +kernel
theorem dX8_out_93 : decode cX8_out 93 = .ok (.iload 5, 2) := by decide +kernel
theorem dX8_out_95 : decode cX8_out 95 = .ok (.iload 7, 2) := by decide +kernel
theorem dX8_out_97 : decode cX8_out 97 = .ok (.iand, 1) := by decide +kernel
theorem dX8_out_98 : decode cX8_out 98 = .ok (.istore 5, 2) := by decide +kernel
theorem dX8_out_100 : decode cX8_out 100 = .ok (.iload 6, 2) := by decide +kernel
theorem dX8_out_102 : decode cX8_out 102 = .ok (.iload 7, 2) := by decide +kernel
theorem dX8_out_104 : decode cX8_out 104 = .ok (.ior, 1) := by decide +kernel
theorem dX8_out_105 : decode cX8_out 105 = .ok (.istore 6, 2) := by decide +kernel
theorem dX8_out_107 : decode cX8_out 107 = .ok (.iinc 7 1, 3) := by decide +kernel
theorem dX8_out_110 : decode cX8_out 110 = .ok (.goto (-56), 3) := by decide +kernel
theorem dX8_out_113 : decode cX8_out 113 = .ok (.iload_n 3, 1) := by decide +kernel
theorem dX8_out_114 : decode cX8_out 114 = .ok (.ifCond .ne 6, 3) := by decide +kernel
theorem dX8_out_117 : decode cX8_out 117 = .ok (.iload 4, 2) := by decide +kernel
theorem dX8_out_119 : decode cX8_out 119 = .ok (.ireturn, 1) := by decide +kernel
theorem dX8_out_120 : decode cX8_out 120 = .ok (.iload 4, 2) := by decide +kernel
theorem dX8_out_122 : decode cX8_out 122 = .ok (.ifCond .ne 5, 3) := by decide +kernel
theorem dX8_out_125 : decode cX8_out 125 = .ok (.iconst (-1), 1) := by decide +kernel
theorem dX8_out_126 : decode cX8_out 126 = .ok (.ireturn, 1) := by decide +kernel
theorem dX8_out_127 : decode cX8_out 127 = .ok (.iload_n 3, 1) := by decide +kernel
theorem dX8_out_128 : decode cX8_out 128 = .ok (.iconst 1, 1) := by decide +kernel
theorem dX8_out_129 : decode cX8_out 129 = .ok (.if_icmp .ne 8, 3) := by decide +kernel
theorem dX8_out_132 : decode cX8_out 132 = .ok (.iload 5, 2) := by decide +kernel
theorem dX8_out_134 : decode cX8_out 134 = .ok (.goto 5, 3) := by decide +kernel
theorem dX8_out_137 : decode cX8_out 137 = .ok (.iload 6, 2) := by decide +kernel
theorem dX8_out_139 : decode cX8_out 139 = .ok (.ireturn, 1) := by decide +kernel
theorem dX8_write_0 : decode cX8_write 0 = .ok (.aload_n 0, 1) := by decide +kernel
theorem dX8_write_1 : decode cX8_write 1 = .ok (.iload_n 1, 1) := by decide +kernel
theorem dX8_write_2 : decode cX8_write 2 = .ok (.invokevirtual 166, 3) := by decide +kernel
theorem dX8_write_5 : decode cX8_write 5 = .ok (.ifCond .eq 6, 3) := by decide +kernel
theorem dX8_write_8 : decode cX8_write 8 = .ok (.ldc 170, 2) := by decide +kernel
theorem dX8_write_10 : decode cX8_write 10 = .ok (.ireturn, 1) := by decide +kernel
theorem dX8_write_11 : decode cX8_write 11 = .ok (.iload_n 2, 1) := by decide +kernel
theorem dX8_write_12 : decode cX8_write 12 = .ok (.ifCond .lt 9, 3) := by decide +kernel
theorem dX8_write_15 : decode cX8_write 15 = .ok (.iload_n 2, 1) := by decide +kernel
theorem dX8_write_16 : decode cX8_write 16 = .ok (.ldc 241, 2) := by decide +kernel
theorem dX8_write_18 : decode cX8_write 18 = .ok (.if_icmp .le 6, 3) := by decide +kernel
theorem dX8_write_21 : decode cX8_write 21 = .ok (.ldc 93, 2) := by decide +kernel
theorem dX8_write_23 : decode cX8_write 23 = .ok (.ireturn, 1) := by decide +kernel
theorem dX8_write_24 : decode cX8_write 24 = .ok (.aload_n 0, 1) := by decide +kernel
theorem dX8_write_25 : decode cX8_write 25 = .ok (.getfield 77, 3) := by decide +kernel
theorem dX8_write_28 : decode cX8_write 28 = .ok (.iload_n 1, 1) := by decide +kernel
theorem dX8_write_29 : decode cX8_write 29 = .ok (.invokevirtual 282, 3) := by decide +kernel
theorem dX8_write_32 : decode cX8_write 32 = .ok (.bipush 40, 2) := by decide +kernel
theorem dX8_write_34 : decode cX8_write 34 = .ok (.if_icmp .lt 6, 3) := by decide +kernel
theorem dX8_write_37 : decode cX8_write 37 = .ok (.ldc 97, 2) := by decide +kernel
theorem dX8_write_39 : decode cX8_write 39 = .ok (.ireturn, 1) := by decide +kernel
theorem dX8_write_40 : decode cX8_write 40 = .ok (.aload_n 0, 1) := by decide +kernel
theorem dX8_write_41 : decode cX8_write 41 = .ok (.getfield 77, 3) := by decide +kernel
theorem dX8_write_44 : decode cX8_write 44 = .ok (.iload_n 1, 1) := by decide +kernel
theorem dX8_write_45 : decode cX8_write 45 = .ok (.iload_n 2, 1) := by decide +kernel
theorem dX8_write_46 : decode cX8_write 46 = .ok (.invokevirtual 285, 3) := by decide +kernel
theorem dX8_write_49 : decode cX8_write 49 = .ok (.aload_n 0, 1) := by decide +kernel
theorem dX8_write_50 : decode cX8_write 50 = .ok (.getfield 77, 3) := by decide +kernel
theorem dX8_write_53 : decode cX8_write 53 = .ok (.iload_n 1, 1) := by decide +kernel
theorem dX8_write_54 : decode cX8_write 54 = .ok (.invokevirtual 282, 3) := by decide +kernel
theorem dX8_write_57 : decode cX8_write 57 = .ok (.ireturn, 1) := by decide +kernel
theorem dX8_tear_0 : decode cX8_tear 0 = .ok (.aload_n 0, 1) := by decide +kernel
theorem dX8_tear_1 : decode cX8_tear 1 = .ok (.iload_n 1, 1) := by decide +kernel
theorem dX8_tear_2 : decode cX8_tear 2 = .ok (.invokevirtual 166, 3) := by decide +kernel
theorem dX8_tear_5 : decode cX8_tear 5 = .ok (.ifCond .eq 6, 3) := by decide +kernel
theorem dX8_tear_8 : decode cX8_tear 8 = .ok (.ldc 170, 2) := by decide +kernel
theorem dX8_tear_10 : decode cX8_tear 10 = .ok (.ireturn, 1) := by decide +kernel
theorem dX8_tear_11 : decode cX8_tear 11 = .ok (.aload_n 0, 1) := by decide +kernel
theorem dX8_tear_12 : decode cX8_tear 12 = .ok (.getfield 77, 3) := by decide +kernel
theorem dX8_tear_15 : decode cX8_tear 15 = .ok (.iload_n 1, 1) := by decide +kernel
theorem dX8_tear_16 : decode cX8_tear 16 = .ok (.invokevirtual 282, 3) := by decide +kernel
theorem dX8_tear_19 : decode cX8_tear 19 = .ok (.istore_n 2, 1) := by decide +kernel
theorem dX8_tear_20 : decode cX8_tear 20 = .ok (.aload_n 0, 1) := by decide +kernel
theorem dX8_tear_21 : decode cX8_tear 21 = .ok (.getfield 77, 3) := by decide +kernel
theorem dX8_tear_24 : decode cX8_tear 24 = .ok (.iload_n 1, 1) := by decide +kernel
theorem dX8_tear_25 : decode cX8_tear 25 = .ok (.invokevirtual 287, 3) := by decide +kernel
theorem dX8_tear_28 : decode cX8_tear 28 = .ok (.iload_n 2, 1) := by decide +kernel
theorem dX8_tear_29 : decode cX8_tear 29 = .ok (.ireturn, 1) := by decide +kernel
theorem dX8_judge_0 : decode cX8_judge 0 = .ok (.aload_n 0, 1) := by decide +kernel
theorem dX8_judge_1 : decode cX8_judge 1 = .ok (.iload_n 1, 1) := by decide +kernel
theorem dX8_judge_2 : decode cX8_judge 2 = .ok (.invokevirtual 166, 3) := by decide +kernel
theorem dX8_judge_5 : decode cX8_judge 5 = .ok (.ifCond .eq 6, 3) := by decide +kernel
theorem dX8_judge_8 : decode cX8_judge 8 = .ok (.ldc 170, 2) := by decide +kernel
theorem dX8_judge_10 : decode cX8_judge 10 = .ok (.ireturn, 1) := by decide +kernel
theorem dX8_judge_11 : decode cX8_judge 11 = .ok (.aload_n 0, 1) := by decide +kernel
theorem dX8_judge_12 : decode cX8_judge 12 = .ok (.getfield 77, 3) := by decide +kernel
theorem dX8_judge_15 : decode cX8_judge 15 = .ok (.iload_n 1, 1) := by decide +kernel
theorem dX8_judge_16 : decode cX8_judge 16 = .ok (.invokevirtual 282, 3) := by decide +kernel
theorem dX8_judge_19 : decode cX8_judge 19 = .ok (.aload_n 0, 1) := by decide +kernel
theorem dX8_judge_20 : decode cX8_judge 20 = .ok (.getfield 41, 3) := by decide +kernel
theorem dX8_judge_23 : decode cX8_judge 23 = .ok (.getfield 137, 3) := by decide +kernel
theorem dX8_judge_26 : decode cX8_judge 26 = .ok (.invokestatic 290, 3) := by decide +kernel
theorem dX8_judge_29 : decode cX8_judge 29 = .ok (.istore_n 2, 1) := by decide +kernel
theorem dX8_judge_30 : decode cX8_judge 30 = .ok (.iconst 0, 1) := by decide +kernel
theorem dX8_judge_31 : decode cX8_judge 31 = .ok (.istore_n 3, 1) := by decide +kernel
theorem dX8_judge_32 : decode cX8_judge 32 = .ok (.iload_n 3, 1) := by decide +kernel
theorem dX8_judge_33 : decode cX8_judge 33 = .ok (.iload_n 2, 1) := by decide +kernel
theorem dX8_judge_34 : decode cX8_judge 34 = .ok (.if_icmp .ge 32, 3) := by decide +kernel
theorem dX8_judge_37 : decode cX8_judge 37 = .ok (.aload_n 0, 1) := by decide +kernel
theorem dX8_judge_38 : decode cX8_judge 38 = .ok (.getfield 77, 3) := by decide +kernel
theorem dX8_judge_41 : decode cX8_judge 41 = .ok (.iload_n 1, 1) := by decide +kernel
theorem dX8_judge_42 : decode cX8_judge 42 = .ok (.iload_n 3, 1) := by decide +kernel
theorem dX8_judge_43 : decode cX8_judge 43 = .ok (.invokevirtual 295, 3) := by decide +kernel
theorem dX8_judge_46 : decode cX8_judge 46 = .ok (.aload_n 0, 1) := by decide +kernel
theorem dX8_judge_47 : decode cX8_judge 47 = .ok (.getfield 41, 3) := by decide +kernel
theorem dX8_judge_50 : decode cX8_judge 50 = .ok (.iload_n 1, 1) := by decide +kernel
theorem dX8_judge_51 : decode cX8_judge 51 = .ok (.iload_n 3, 1) := by decide +kernel
theorem dX8_judge_52 : decode cX8_judge 52 = .ok (.invokevirtual 298, 3) := by decide +kernel
theorem dX8_judge_55 : decode cX8_judge 55 = .ok (.if_icmp .eq 5, 3) := by decide +kernel
theorem dX8_judge_58 : decode cX8_judge 58 = .ok (.iload_n 3, 1) := by decide +kernel
theorem dX8_judge_59 : decode cX8_judge 59 = .ok (.ireturn, 1) := by decide +kernel
theorem dX8_judge_60 : decode cX8_judge 60 = .ok (.iinc 3 1, 3) := by decide +kernel
theorem dX8_judge_63 : decode cX8_judge 63 = .ok (.goto (-31), 3) := by decide +kernel
theorem dX8_judge_66 : decode cX8_judge 66 = .ok (.iconst (-1), 1) := by decide +kernel
theorem dX8_judge_67 : decode cX8_judge 67 = .ok (.ireturn, 1) := by decide +kernel
theorem dX8_seed_0 : decode cX8_seed 0 = .ok (.iload_n 1, 1) := by decide +kernel
theorem dX8_seed_1 : decode cX8_seed 1 = .ok (.ifCond .ge 6, 3) := by decide +kernel
theorem dX8_seed_4 : decode cX8_seed 4 = .ok (.ldc 93, 2) := by decide +kernel
theorem dX8_seed_6 : decode cX8_seed 6 = .ok (.ireturn, 1) := by decide +kernel
theorem dX8_seed_7 : decode cX8_seed 7 = .ok (.aload_n 0, 1) := by decide +kernel
theorem dX8_seed_8 : decode cX8_seed 8 = .ok (.getfield 41, 3) := by decide +kernel
theorem dX8_seed_11 : decode cX8_seed 11 = .ok (.getfield 299, 3) := by decide +kernel
theorem dX8_seed_14 : decode cX8_seed 14 = .ok (.l2i, 1) := by decide +kernel
theorem dX8_seed_15 : decode cX8_seed 15 = .ok (.istore_n 2, 1) := by decide +kernel
theorem dX8_seed_16 : decode cX8_seed 16 = .ok (.aload_n 0, 1) := by decide +kernel
theorem dX8_seed_17 : decode cX8_seed 17 = .ok (.getfield 41, 3) := by decide +kernel
theorem dX8_seed_20 : decode cX8_seed 20 = .ok (.iload_n 1, 1) := by decide +kernel
theorem dX8_seed_21 : decode cX8_seed 21 = .ok (.i2l, 1) := by decide +kernel
theorem dX8_seed_22 : decode cX8_seed 22 = .ok (.putfield 299, 3) := by decide +kernel
theorem dX8_seed_25 : decode cX8_seed 25 = .ok (.iload_n 2, 1) := by decide +kernel
theorem dX8_seed_26 : decode cX8_seed 26 = .ok (.ireturn, 1) := by decide +kernel
theorem dX8_keep_0 : decode cX8_keep 0 = .ok (.aload_n 0, 1) := by decide +kernel
theorem dX8_keep_1 : decode cX8_keep 1 = .ok (.iload_n 1, 1) := by decide +kernel
theorem dX8_keep_2 : decode cX8_keep 2 = .ok (.invokevirtual 303, 3) := by decide +kernel
theorem dX8_keep_5 : decode cX8_keep 5 = .ok (.ifCond .eq 6, 3) := by decide +kernel
theorem dX8_keep_8 : decode cX8_keep 8 = .ok (.ldc 170, 2) := by decide +kernel
theorem dX8_keep_10 : decode cX8_keep 10 = .ok (.ireturn, 1) := by decide +kernel
theorem dX8_keep_11 : decode cX8_keep 11 = .ok (.aload_n 0, 1) := by decide +kernel
theorem dX8_keep_12 : decode cX8_keep 12 = .ok (.getfield 45, 3) := by decide +kernel
theorem dX8_keep_15 : decode cX8_keep 15 = .ok (.iload_n 1, 1) := by decide +kernel
theorem dX8_keep_16 : decode cX8_keep 16 = .ok (.aaload, 1) := by decide +kernel
theorem dX8_keep_17 : decode cX8_keep 17 = .ok (.aload_n 0, 1) := by decide +kernel
theorem dX8_keep_18 : decode cX8_keep 18 = .ok (.getfield 41, 3) := by decide +kernel
theorem dX8_keep_21 : decode cX8_keep 21 = .ok (.invokevirtual 306, 3) := by decide +kernel
theorem dX8_keep_24 : decode cX8_keep 24 = .ok (.aload_n 0, 1) := by decide +kernel
theorem dX8_keep_25 : decode cX8_keep 25 = .ok (.getfield 49, 3) := by decide +kernel
theorem dX8_keep_28 : decode cX8_keep 28 = .ok (.iload_n 1, 1) := by decide +kernel
theorem dX8_keep_29 : decode cX8_keep 29 = .ok (.iconst 1, 1) := by decide +kernel
theorem dX8_keep_30 : decode cX8_keep 30 = .ok (.bastore, 1) := by decide +kernel
theorem dX8_keep_31 : decode cX8_keep 31 = .ok (.iconst 1, 1) := by decide +kernel
theorem dX8_keep_32 : decode cX8_keep 32 = .ok (.ireturn, 1) := by decide +kernel
theorem dX8_goBack_0 : decode cX8_goBack 0 = .ok (.aload_n 0, 1) := by decide +kernel
theorem dX8_goBack_1 : decode cX8_goBack 1 = .ok (.iload_n 1, 1) := by decide +kernel
theorem dX8_goBack_2 : decode cX8_goBack 2 = .ok (.invokevirtual 303, 3) := by decide +kernel
theorem dX8_goBack_5 : decode cX8_goBack 5 = .ok (.ifCond .eq 6, 3) := by decide +kernel
theorem dX8_goBack_8 : decode cX8_goBack 8 = .ok (.ldc 170, 2) := by decide +kernel
theorem dX8_goBack_10 : decode cX8_goBack 10 = .ok (.ireturn, 1) := by decide +kernel
theorem dX8_goBack_11 : decode cX8_goBack 11 = .ok (.aload_n 0, 1) := by decide +kernel
theorem dX8_goBack_12 : decode cX8_goBack 12 = .ok (.getfield 49, 3) := by decide +kernel
theorem dX8_goBack_15 : decode cX8_goBack 15 = .ok (.iload_n 1, 1) := by decide +kernel
theorem dX8_goBack_16 : decode cX8_goBack 16 = .ok (.baload, 1) := by decide +kernel
theorem dX8_goBack_17 : decode cX8_goBack 17 = .ok (.ifCond .ne 6, 3) := by decide +kernel
theorem dX8_goBack_20 : decode cX8_goBack 20 = .ok (.ldc 120, 2) := by decide +kernel
theorem dX8_goBack_22 : decode cX8_goBack 22 = .ok (.ireturn, 1) := by decide +kernel
theorem dX8_goBack_23 : decode cX8_goBack 23 = .ok (.aload_n 0, 1) := by decide +kernel
theorem dX8_goBack_24 : decode cX8_goBack 24 = .ok (.getfield 41, 3) := by decide +kernel
theorem dX8_goBack_27 : decode cX8_goBack 27 = .ok (.aload_n 0, 1) := by decide +kernel
theorem dX8_goBack_28 : decode cX8_goBack 28 = .ok (.getfield 45, 3) := by decide +kernel
theorem dX8_goBack_31 : decode cX8_goBack 31 = .ok (.iload_n 1, 1) := by decide +kernel
theorem dX8_goBack_32 : decode cX8_goBack 32 = .ok (.aaload, 1) := by decide +kernel
theorem dX8_goBack_33 : decode cX8_goBack 33 = .ok (.invokevirtual 306, 3) := by decide +kernel
theorem dX8_goBack_36 : decode cX8_goBack 36 = .ok (.iconst 1, 1) := by decide +kernel
theorem dX8_goBack_37 : decode cX8_goBack 37 = .ok (.ireturn, 1) := by decide +kernel
theorem dX8_isNoLight_0 : decode cX8_isNoLight 0 = .ok (.iload_n 1, 1) := by decide +kernel
theorem dX8_isNoLight_1 : decode cX8_isNoLight 1 = .ok (.ifCond .lt 14, 3) := by decide +kernel
theorem dX8_isNoLight_4 : decode cX8_isNoLight 4 = .ok (.iload_n 1, 1) := by decide +kernel
theorem dX8_isNoLight_5 : decode cX8_isNoLight 5 = .ok (.aload_n 0, 1) := by decide +kernel
theorem dX8_isNoLight_6 : decode cX8_isNoLight 6 = .ok (.getfield 19, 3) := by decide +kernel
theorem dX8_isNoLight_9 : decode cX8_isNoLight 9 = .ok (.getfield 117, 3) := by decide +kernel
theorem dX8_isNoLight_12 : decode cX8_isNoLight 12 = .ok (.if_icmp .lt 7, 3) := by decide +kernel
theorem dX8_isNoLight_15 : decode cX8_isNoLight 15 = .ok (.iconst 1, 1) := by decide +kernel
theorem dX8_isNoLight_16 : decode cX8_isNoLight 16 = .ok (.goto 4, 3) := by decide +kernel
theorem dX8_isNoLight_19 : decode cX8_isNoLight 19 = .ok (.iconst 0, 1) := by decide +kernel
theorem dX8_isNoLight_20 : decode cX8_isNoLight 20 = .ok (.ireturn, 1) := by decide +kernel
theorem dX8_isNoImage_0 : decode cX8_isNoImage 0 = .ok (.iload_n 1, 1) := by decide +kernel
theorem dX8_isNoImage_1 : decode cX8_isNoImage 1 = .ok (.ifCond .lt 21, 3) := by decide +kernel
theorem dX8_isNoImage_4 : decode cX8_isNoImage 4 = .ok (.iload_n 1, 1) := by decide +kernel
theorem dX8_isNoImage_5 : decode cX8_isNoImage 5 = .ok (.aload_n 0, 1) := by decide +kernel
theorem dX8_isNoImage_6 : decode cX8_isNoImage 6 = .ok (.getfield 45, 3) := by decide +kernel
theorem dX8_isNoImage_9 : decode cX8_isNoImage 9 = .ok (.arraylength, 1) := by decide +kernel
theorem dX8_isNoImage_10 : decode cX8_isNoImage 10 = .ok (.if_icmp .ge 12, 3) := by decide +kernel
theorem dX8_isNoImage_13 : decode cX8_isNoImage 13 = .ok (.iload_n 1, 1) := by decide +kernel
theorem dX8_isNoImage_14 : decode cX8_isNoImage 14 = .ok (.aload_n 0, 1) := by decide +kernel
theorem dX8_isNoImage_15 : decode cX8_isNoImage 15 = .ok (.getfield 49, 3) := by decide +kernel
theorem dX8_isNoImage_18 : decode cX8_isNoImage 18 = .ok (.arraylength, 1) := by decide +kernel
theorem dX8_isNoImage_19 : decode cX8_isNoImage 19 = .ok (.if_icmp .lt 7, 3) := by decide +kernel
theorem dX8_isNoImage_22 : decode cX8_isNoImage 22 = .ok (.iconst 1, 1) := by decide +kernel
theorem dX8_isNoImage_23 : decode cX8_isNoImage 23 = .ok (.goto 4, 3) := by decide +kernel
theorem dX8_isNoImage_26 : decode cX8_isNoImage 26 = .ok (.iconst 0, 1) := by decide +kernel
theorem dX8_isNoImage_27 : decode cX8_isNoImage 27 = .ok (.ireturn, 1) := by decide +kernel
theorem dX8_isNoSky_0 : decode cX8_isNoSky 0 = .ok (.iload_n 0, 1) := by decide +kernel
theorem dX8_isNoSky_1 : decode cX8_isNoSky 1 = .ok (.ifCond .lt 8, 3) := by decide +kernel
theorem dX8_isNoSky_4 : decode cX8_isNoSky 4 = .ok (.iload_n 0, 1) := by decide +kernel
theorem dX8_isNoSky_5 : decode cX8_isNoSky 5 = .ok (.iconst 3, 1) := by decide +kernel
theorem dX8_isNoSky_6 : decode cX8_isNoSky 6 = .ok (.if_icmp .lt 7, 3) := by decide +kernel
theorem dX8_isNoSky_9 : decode cX8_isNoSky 9 = .ok (.iconst 1, 1) := by decide +kernel
theorem dX8_isNoSky_10 : decode cX8_isNoSky 10 = .ok (.goto 4, 3) := by decide +kernel
theorem dX8_isNoSky_13 : decode cX8_isNoSky 13 = .ok (.iconst 0, 1) := by decide +kernel
theorem dX8_isNoSky_14 : decode cX8_isNoSky 14 = .ok (.ireturn, 1) := by decide +kernel
theorem dX8_refuseText_0 : decode cX8_refuseText 0 = .ok (.aload_n 0, 1) := by decide +kernel
theorem dX8_refuseText_1 : decode cX8_refuseText 1 = .ok (.aload_n 0, 1) := by decide +kernel
theorem dX8_refuseText_2 : decode cX8_refuseText 2 = .ok (.getfield 10, 3) := by decide +kernel
theorem dX8_refuseText_5 : decode cX8_refuseText 5 = .ok (.getfield 310, 3) := by decide +kernel
theorem dX8_refuseText_8 : decode cX8_refuseText 8 = .ok (.putfield 85, 3) := by decide +kernel
theorem dX8_refuseText_11 : decode cX8_refuseText 11 = .ok (.bipush (-10), 2) := by decide +kernel
theorem dX8_refuseText_13 : decode cX8_refuseText 13 = .ok (.aload_n 0, 1) := by decide +kernel
theorem dX8_refuseText_14 : decode cX8_refuseText 14 = .ok (.getfield 10, 3) := by decide +kernel
theorem dX8_refuseText_17 : decode cX8_refuseText 17 = .ok (.getfield 311, 3) := by decide +kernel
theorem dX8_refuseText_20 : decode cX8_refuseText 20 = .ok (.isub, 1) := by decide +kernel
theorem dX8_refuseText_21 : decode cX8_refuseText 21 = .ok (.ireturn, 1) := by decide +kernel
theorem dX8_forgetImages_0 : decode cX8_forgetImages 0 = .ok (.iconst 0, 1) := by decide +kernel
theorem dX8_forgetImages_1 : decode cX8_forgetImages 1 = .ok (.istore_n 1, 1) := by decide +kernel
theorem dX8_forgetImages_2 : decode cX8_forgetImages 2 = .ok (.iload_n 1, 1) := by decide +kernel
theorem dX8_forgetImages_3 : decode cX8_forgetImages 3 = .ok (.aload_n 0, 1) := by decide +kernel
theorem dX8_forgetImages_4 : decode cX8_forgetImages 4 = .ok (.getfield 49, 3) := by decide +kernel
theorem dX8_forgetImages_7 : decode cX8_forgetImages 7 = .ok (.arraylength, 1) := by decide +kernel
theorem dX8_forgetImages_8 : decode cX8_forgetImages 8 = .ok (.if_icmp .ge 16, 3) := by decide +kernel
theorem dX8_forgetImages_11 : decode cX8_forgetImages 11 = .ok (.aload_n 0, 1) := by decide +kernel
theorem dX8_forgetImages_12 : decode cX8_forgetImages 12 = .ok (.getfield 49, 3) := by decide +kernel
theorem dX8_forgetImages_15 : decode cX8_forgetImages 15 = .ok (.iload_n 1, 1) := by decide +kernel
theorem dX8_forgetImages_16 : decode cX8_forgetImages 16 = .ok (.iconst 0, 1) := by decide +kernel
theorem dX8_forgetImages_17 : decode cX8_forgetImages 17 = .ok (.bastore, 1) := by decide +kernel
theorem dX8_forgetImages_18 : decode cX8_forgetImages 18 = .ok (.iinc 1 1, 3) := by decide +kernel
theorem dX8_forgetImages_21 : decode cX8_forgetImages 21 = .ok (.goto (-19), 3) := by decide +kernel
theorem dX8_forgetImages_24 : decode cX8_forgetImages 24 = .ok (.return_, 1) := by decide +kernel
theorem dX8_sumOver_0 : decode cX8_sumOver 0 = .ok (.iconst 0, 1) := by decide +kernel
theorem dX8_sumOver_1 : decode cX8_sumOver 1 = .ok (.istore_n 3, 1) := by decide +kernel
theorem dX8_sumOver_2 : decode cX8_sumOver 2 = .ok (.iconst 0, 1) := by decide +kernel
theorem dX8_sumOver_3 : decode cX8_sumOver 3 = .ok (.istore 4, 2) := by decide +kernel
theorem dX8_sumOver_5 : decode cX8_sumOver 5 = .ok (.iload 4, 2) := by decide +kernel
theorem dX8_sumOver_7 : decode cX8_sumOver 7 = .ok (.aload_n 0, 1) := by decide +kernel
theorem dX8_sumOver_8 : decode cX8_sumOver 8 = .ok (.getfield 19, 3) := by decide +kernel
theorem dX8_sumOver_11 : decode cX8_sumOver 11 = .ok (.getfield 117, 3) := by decide +kernel
theorem dX8_sumOver_14 : decode cX8_sumOver 14 = .ok (.if_icmp .ge 28, 3) := by decide +kernel
theorem dX8_sumOver_17 : decode cX8_sumOver 17 = .ok (.iload_n 1, 1) := by decide +kernel
theorem dX8_sumOver_18 : decode cX8_sumOver 18 = .ok (.iload 4, 2) := by decide +kernel
theorem dX8_sumOver_20 : decode cX8_sumOver 20 = .ok (.ishr, 1) := by decide +kernel
theorem dX8_sumOver_21 : decode cX8_sumOver 21 = .ok (.iconst 1, 1) := by decide +kernel
theorem dX8_sumOver_22 : decode cX8_sumOver 22 = .ok (.iand, 1) := by decide +kernel
theorem dX8_sumOver_23 : decode cX8_sumOver 23 = .ok (.iconst 1, 1) := by decide +kernel
theorem dX8_sumOver_24 : decode cX8_sumOver 24 = .ok (.if_icmp .ne 12, 3) := by decide +kernel
theorem dX8_sumOver_27 : decode cX8_sumOver 27 = .ok (.iload_n 3, 1) := by decide +kernel
theorem dX8_sumOver_28 : decode cX8_sumOver 28 = .ok (.aload_n 2, 1) := by decide +kernel
theorem dX8_sumOver_29 : decode cX8_sumOver 29 = .ok (.iload 4, 2) := by decide +kernel
theorem dX8_sumOver_31 : decode cX8_sumOver 31 = .ok (.invokestatic 174, 3) := by decide +kernel
theorem dX8_sumOver_34 : decode cX8_sumOver 34 = .ok (.iadd, 1) := by decide +kernel
theorem dX8_sumOver_35 : decode cX8_sumOver 35 = .ok (.istore_n 3, 1) := by decide +kernel
theorem dX8_sumOver_36 : decode cX8_sumOver 36 = .ok (.iinc 4 1, 3) := by decide +kernel
theorem dX8_sumOver_39 : decode cX8_sumOver 39 = .ok (.goto (-34), 3) := by decide +kernel
theorem dX8_sumOver_42 : decode cX8_sumOver 42 = .ok (.iload_n 3, 1) := by decide +kernel
theorem dX8_sumOver_43 : decode cX8_sumOver 43 = .ok (.ireturn, 1) := by decide +kernel
theorem dX8_needOfNights_0 : decode cX8_needOfNights 0 = .ok (.aload_n 0, 1) := by decide +kernel
theorem dX8_needOfNights_1 : decode cX8_needOfNights 1 = .ok (.getfield 41, 3) := by decide +kernel
theorem dX8_needOfNights_4 : decode cX8_needOfNights 4 = .ok (.getfield 193, 3) := by decide +kernel
theorem dX8_needOfNights_7 : decode cX8_needOfNights 7 = .ok (.iload_n 1, 1) := by decide +kernel
theorem dX8_needOfNights_8 : decode cX8_needOfNights 8 = .ok (.invokestatic 174, 3) := by decide +kernel
theorem dX8_needOfNights_11 : decode cX8_needOfNights 11 = .ok (.iconst 1, 1) := by decide +kernel
theorem dX8_needOfNights_12 : decode cX8_needOfNights 12 = .ok (.if_icmp .ne 7, 3) := by decide +kernel
theorem dX8_needOfNights_15 : decode cX8_needOfNights 15 = .ok (.iconst 1, 1) := by decide +kernel
theorem dX8_needOfNights_16 : decode cX8_needOfNights 16 = .ok (.goto 4, 3) := by decide +kernel
theorem dX8_needOfNights_19 : decode cX8_needOfNights 19 = .ok (.iconst 0, 1) := by decide +kernel
theorem dX8_needOfNights_20 : decode cX8_needOfNights 20 = .ok (.istore_n 3, 1) := by decide +kernel
theorem dX8_needOfNights_21 : decode cX8_needOfNights 21 = .ok (.aload_n 0, 1) := by decide +kernel
theorem dX8_needOfNights_22 : decode cX8_needOfNights 22 = .ok (.getfield 19, 3) := by decide +kernel
theorem dX8_needOfNights_25 : decode cX8_needOfNights 25 = .ok (.getfield 171, 3) := by decide +kernel
theorem dX8_needOfNights_28 : decode cX8_needOfNights 28 = .ok (.iload_n 1, 1) := by decide +kernel
theorem dX8_needOfNights_29 : decode cX8_needOfNights 29 = .ok (.invokestatic 174, 3) := by decide +kernel
theorem dX8_needOfNights_32 : decode cX8_needOfNights 32 = .ok (.iconst 2, 1) := by decide +kernel
theorem dX8_needOfNights_33 : decode cX8_needOfNights 33 = .ok (.if_icmp .ne 7, 3) := by decide +kernel
theorem dX8_needOfNights_36 : decode cX8_needOfNights 36 = .ok (.iconst 1, 1) := by decide +kernel
theorem dX8_needOfNights_37 : decode cX8_needOfNights 37 = .ok (.goto 4, 3) := by decide +kernel
theorem dX8_needOfNights_40 : decode cX8_needOfNights 40 = .ok (.iconst 0, 1) := by decide +kernel
theorem dX8_needOfNights_41 : decode cX8_needOfNights 41 = .ok (.istore 4, 2) := by decide +kernel
theorem dX8_needOfNights_43 : decode cX8_needOfNights 43 = .ok (.iconst 0, 1) := by decide +kernel
theorem dX8_needOfNights_44 : decode cX8_needOfNights 44 = .ok (.istore 5, 2) := by decide +kernel
theorem dX8_needOfNights_46 : decode cX8_needOfNights 46 = .ok (.iconst 0, 1) := by decide +kernel
theorem dX8_needOfNights_47 : decode cX8_needOfNights 47 = .ok (.istore 6, 2) := by decide +kernel
theorem dX8_needOfNights_49 : decode cX8_needOfNights 49 = .ok (.iload 6, 2) := by decide +kernel
theorem dX8_needOfNights_51 : decode cX8_needOfNights 51 = .ok (.iload_n 2, 1) := by decide +kernel
theorem dX8_needOfNights_52 : decode cX8_needOfNights 52 = .ok (.if_icmp .ge 61, 3) := by decide +kernel
theorem dX8_needOfNights_55 : decode cX8_needOfNights 55 = .ok (.aload_n 0, 1) := by decide +kernel
theorem dX8_needOfNights_56 : decode cX8_needOfNights 56 = .ok (.getfield 19, 3) := by decide +kernel
theorem dX8_needOfNights_59 : decode cX8_needOfNights 59 = .ok (.iload_n 1, 1) := by decide +kernel
theorem dX8_needOfNights_60 : decode cX8_needOfNights 60 = .ok (.aload_n 0, 1) := by decide +kernel
theorem dX8_needOfNights_61 : decode cX8_needOfNights 61 = .ok (.getfield 19, 3) := by decide +kernel
theorem dX8_needOfNights_64 : decode cX8_needOfNights 64 = .ok (.aload_n 0, 1) := by decide +kernel
theorem dX8_needOfNights_65 : decode cX8_needOfNights 65 = .ok (.getfield 41, 3) := by decide +kernel
theorem dX8_needOfNights_68 : decode cX8_needOfNights 68 = .ok (.getfield 137, 3) := by decide +kernel
theorem dX8_needOfNights_71 : decode cX8_needOfNights 71 = .ok (.iload 6, 2) := by decide +kernel
theorem dX8_needOfNights_73 : decode cX8_needOfNights 73 = .ok (.iadd, 1) := by decide +kernel
theorem dX8_needOfNights_74 : decode cX8_needOfNights 74 = .ok (.invokevirtual 314, 3) := by decide +kernel
theorem dX8_needOfNights_77 : decode cX8_needOfNights 77 = .ok (.iconst 0, 1) := by decide +kernel
theorem dX8_needOfNights_78 : decode cX8_needOfNights 78 = .ok (.iload_n 3, 1) := by decide +kernel
theorem dX8_needOfNights_79 : decode cX8_needOfNights 79 = .ok (.invokevirtual 317, 3) := by decide +kernel
theorem dX8_needOfNights_82 : decode cX8_needOfNights 82 = .ok (.istore 7, 2) := by decide +kernel
theorem dX8_needOfNights_84 : decode cX8_needOfNights 84 = .ok (.iload 5, 2) := by decide +kernel
theorem dX8_needOfNights_86 : decode cX8_needOfNights 86 = .ok (.iload 4, 2) := by decide +kernel
theorem dX8_needOfNights_88 : decode cX8_needOfNights 88 = .ok (.ifCond .eq 14, 3) := by decide +kernel
theorem dX8_needOfNights_91 : decode cX8_needOfNights 91 = .ok (.iload 7, 2) := by decide +kernel
theorem dX8_needOfNights_93 : decode cX8_needOfNights 93 = .ok (.iload 7, 2) := by decide +kernel
theorem dX8_needOfNights_95 : decode cX8_needOfNights 95 = .ok (.bipush 10, 2) := by decide +kernel
theorem dX8_needOfNights_97 : decode cX8_needOfNights 97 = .ok (.idiv, 1) := by decide +kernel
theorem dX8_needOfNights_98 : decode cX8_needOfNights 98 = .ok (.iadd, 1) := by decide +kernel
theorem dX8_needOfNights_99 : decode cX8_needOfNights 99 = .ok (.goto 5, 3) := by decide +kernel
theorem dX8_needOfNights_102 : decode cX8_needOfNights 102 = .ok (.iload 7, 2) := by decide +kernel
theorem dX8_needOfNights_104 : decode cX8_needOfNights 104 = .ok (.iadd, 1) := by decide +kernel
theorem dX8_needOfNights_105 : decode cX8_needOfNights 105 = .ok (.istore 5, 2) := by decide +kernel
theorem dX8_needOfNights_107 : decode cX8_needOfNights 107 = .ok (.iinc 6 1, 3) := by decide +kernel
theorem dX8_needOfNights_110 : decode cX8_needOfNights 110 = .ok (.goto (-61), 3) := by decide +kernel
theorem dX8_needOfNights_113 : decode cX8_needOfNights 113 = .ok (.iload 5, 2) := by decide +kernel
theorem dX8_needOfNights_115 : decode cX8_needOfNights 115 = .ok (.ireturn, 1) := by decide +kernel
theorem dX8_nightsNotDark_0 : decode cX8_nightsNotDark 0 = .ok (.aload_n 0, 1) := by decide +kernel
theorem dX8_nightsNotDark_1 : decode cX8_nightsNotDark 1 = .ok (.getfield 41, 3) := by decide +kernel
theorem dX8_nightsNotDark_4 : decode cX8_nightsNotDark 4 = .ok (.getfield 190, 3) := by decide +kernel
theorem dX8_nightsNotDark_7 : decode cX8_nightsNotDark 7 = .ok (.iload_n 1, 1) := by decide +kernel
theorem dX8_nightsNotDark_8 : decode cX8_nightsNotDark 8 = .ok (.invokestatic 174, 3) := by decide +kernel
theorem dX8_nightsNotDark_11 : decode cX8_nightsNotDark 11 = .ok (.iload_n 2, 1) := by decide +kernel
theorem dX8_nightsNotDark_12 : decode cX8_nightsNotDark 12 = .ok (.iadd, 1) := by decide +kernel
theorem dX8_nightsNotDark_13 : decode cX8_nightsNotDark 13 = .ok (.istore_n 3, 1) := by decide +kernel
theorem dX8_nightsNotDark_14 : decode cX8_nightsNotDark 14 = .ok (.aload_n 0, 1) := by decide +kernel
theorem dX8_nightsNotDark_15 : decode cX8_nightsNotDark 15 = .ok (.getfield 41, 3) := by decide +kernel
theorem dX8_nightsNotDark_18 : decode cX8_nightsNotDark 18 = .ok (.getfield 193, 3) := by decide +kernel
theorem dX8_nightsNotDark_21 : decode cX8_nightsNotDark 21 = .ok (.iload_n 1, 1) := by decide +kernel
theorem dX8_nightsNotDark_22 : decode cX8_nightsNotDark 22 = .ok (.invokestatic 174, 3) := by decide +kernel
theorem dX8_nightsNotDark_25 : decode cX8_nightsNotDark 25 = .ok (.iconst 1, 1) := by decide +kernel
theorem dX8_nightsNotDark_26 : decode cX8_nightsNotDark 26 = .ok (.if_icmp .ne 7, 3) := by decide +kernel
theorem dX8_nightsNotDark_29 : decode cX8_nightsNotDark 29 = .ok (.iconst 1, 1) := by decide +kernel
theorem dX8_nightsNotDark_30 : decode cX8_nightsNotDark 30 = .ok (.goto 4, 3) := by decide +kernel
theorem dX8_nightsNotDark_33 : decode cX8_nightsNotDark 33 = .ok (.iconst 0, 1) := by decide +kernel
theorem dX8_nightsNotDark_34 : decode cX8_nightsNotDark 34 = .ok (.istore 4, 2) := by decide +kernel
theorem dX8_nightsNotDark_36 : decode cX8_nightsNotDark 36 = .ok (.iconst 0, 1) := by decide +kernel
theorem dX8_nightsNotDark_37 : decode cX8_nightsNotDark 37 = .ok (.istore 5, 2) := by decide +kernel
theorem dX8_nightsNotDark_39 : decode cX8_nightsNotDark 39 = .ok (.iload 5, 2) := by decide +kernel
theorem dX8_nightsNotDark_41 : decode cX8_nightsNotDark 41 = .ok (.sipush 400, 3) := by decide +kernel
theorem dX8_nightsNotDark_44 : decode cX8_nightsNotDark 44 = .ok (.if_icmp .ge 94, 3) := by decide +kernel
theorem dX8_nightsNotDark_47 : decode cX8_nightsNotDark 47 = .ok (.aload_n 0, 1) := by decide +kernel
theorem dX8_nightsNotDark_48 : decode cX8_nightsNotDark 48 = .ok (.getfield 41, 3) := by decide +kernel
theorem dX8_nightsNotDark_51 : decode cX8_nightsNotDark 51 = .ok (.getfield 137, 3) := by decide +kernel
theorem dX8_nightsNotDark_54 : decode cX8_nightsNotDark 54 = .ok (.iload 5, 2) := by decide +kernel
theorem dX8_nightsNotDark_56 : decode cX8_nightsNotDark 56 = .ok (.iadd, 1) := by decide +kernel
theorem dX8_nightsNotDark_57 : decode cX8_nightsNotDark 57 = .ok (.istore 6, 2) := by decide +kernel
theorem dX8_nightsNotDark_59 : decode cX8_nightsNotDark 59 = .ok (.aload_n 0, 1) := by decide +kernel
theorem dX8_nightsNotDark_60 : decode cX8_nightsNotDark 60 = .ok (.getfield 29, 3) := by decide +kernel
theorem dX8_nightsNotDark_63 : decode cX8_nightsNotDark 63 = .ok (.iload 6, 2) := by decide +kernel
theorem dX8_nightsNotDark_65 : decode cX8_nightsNotDark 65 = .ok (.invokevirtual 202, 3) := by decide +kernel
theorem dX8_nightsNotDark_68 : decode cX8_nightsNotDark 68 = .ok (.istore 7, 2) := by decide +kernel
theorem dX8_nightsNotDark_70 : decode cX8_nightsNotDark 70 = .ok (.aload_n 0, 1) := by decide +kernel
theorem dX8_nightsNotDark_71 : decode cX8_nightsNotDark 71 = .ok (.getfield 19, 3) := by decide +kernel
theorem dX8_nightsNotDark_74 : decode cX8_nightsNotDark 74 = .ok (.iload_n 1, 1) := by decide +kernel
theorem dX8_nightsNotDark_75 : decode cX8_nightsNotDark 75 = .ok (.aload_n 0, 1) := by decide +kernel
theorem dX8_nightsNotDark_76 : decode cX8_nightsNotDark 76 = .ok (.getfield 19, 3) := by decide +kernel
theorem dX8_nightsNotDark_79 : decode cX8_nightsNotDark 79 = .ok (.iload 6, 2) := by decide +kernel
theorem dX8_nightsNotDark_81 : decode cX8_nightsNotDark 81 = .ok (.invokevirtual 314, 3) := by decide +kernel
theorem dX8_nightsNotDark_84 : decode cX8_nightsNotDark 84 = .ok (.iload 7, 2) := by decide +kernel
theorem dX8_nightsNotDark_86 : decode cX8_nightsNotDark 86 = .ok (.iload 4, 2) := by decide +kernel
theorem dX8_nightsNotDark_88 : decode cX8_nightsNotDark 88 = .ok (.invokevirtual 317, 3) := by decide +kernel
theorem dX8_nightsNotDark_91 : decode cX8_nightsNotDark 91 = .ok (.istore 8, 2) := by decide +kernel
theorem dX8_nightsNotDark_93 : decode cX8_nightsNotDark 93 = .ok (.aload_n 0, 1) := by decide +kernel
theorem dX8_nightsNotDark_94 : decode cX8_nightsNotDark 94 = .ok (.getfield 19, 3) := by decide +kernel
theorem dX8_nightsNotDark_97 : decode cX8_nightsNotDark 97 = .ok (.iload_n 1, 1) := by decide +kernel
theorem dX8_nightsNotDark_98 : decode cX8_nightsNotDark 98 = .ok (.iload 7, 2) := by decide +kernel
theorem dX8_nightsNotDark_100 : decode cX8_nightsNotDark 100 = .ok (.invokevirtual 321, 3) := by decide +kernel
theorem dX8_nightsNotDark_103 : decode cX8_nightsNotDark 103 = .ok (.ifCond .ne 9, 3) := by decide +kernel
theorem dX8_nightsNotDark_106 : decode cX8_nightsNotDark 106 = .ok (.iload_n 3, 1) := by decide +kernel
theorem dX8_nightsNotDark_107 : decode cX8_nightsNotDark 107 = .ok (.iload 8, 2) := by decide +kernel
theorem dX8_nightsNotDark_109 : decode cX8_nightsNotDark 109 = .ok (.if_icmp .ge 6, 3) := by decide +kernel
theorem dX8_nightsNotDark_112 : decode cX8_nightsNotDark 112 = .ok (.iload 5, 2) := by decide +kernel
theorem dX8_nightsNotDark_114 : decode cX8_nightsNotDark 114 = .ok (.ireturn, 1) := by decide +kernel
theorem dX8_nightsNotDark_115 : decode cX8_nightsNotDark 115 = .ok (.iload_n 3, 1) := by decide +kernel
theorem dX8_nightsNotDark_116 : decode cX8_nightsNotDark 116 = .ok (.iload 8, 2) := by decide +kernel
theorem dX8_nightsNotDark_118 : decode cX8_nightsNotDark 118 = .ok (.isub, 1) := by decide +kernel
theorem dX8_nightsNotDark_119 : decode cX8_nightsNotDark 119 = .ok (.istore_n 3, 1) := by decide +kernel
theorem dX8_nightsNotDark_120 : decode cX8_nightsNotDark 120 = .ok (.iload_n 3, 1) := by decide +kernel
theorem dX8_nightsNotDark_121 : decode cX8_nightsNotDark 121 = .ok (.aload_n 0, 1) := by decide +kernel
theorem dX8_nightsNotDark_122 : decode cX8_nightsNotDark 122 = .ok (.getfield 19, 3) := by decide +kernel
theorem dX8_nightsNotDark_125 : decode cX8_nightsNotDark 125 = .ok (.iload_n 1, 1) := by decide +kernel
theorem dX8_nightsNotDark_126 : decode cX8_nightsNotDark 126 = .ok (.iload_n 3, 1) := by decide +kernel
theorem dX8_nightsNotDark_127 : decode cX8_nightsNotDark 127 = .ok (.invokevirtual 325, 3) := by decide +kernel
theorem dX8_nightsNotDark_130 : decode cX8_nightsNotDark 130 = .ok (.isub, 1) := by decide +kernel
theorem dX8_nightsNotDark_131 : decode cX8_nightsNotDark 131 = .ok (.istore_n 3, 1) := by decide +kernel
theorem dX8_nightsNotDark_132 : decode cX8_nightsNotDark 132 = .ok (.iinc 5 1, 3) := by decide +kernel
theorem dX8_nightsNotDark_135 : decode cX8_nightsNotDark 135 = .ok (.goto (-96), 3) := by decide +kernel
theorem dX8_nightsNotDark_138 : decode cX8_nightsNotDark 138 = .ok (.sipush 400, 3) := by decide +kernel
theorem dX8_nightsNotDark_141 : decode cX8_nightsNotDark 141 = .ok (.ireturn, 1) := by decide +kernel
theorem dX8_oddsTooLate_0 : decode cX8_oddsTooLate 0 = .ok (.aload_n 0, 1) := by decide +kernel
theorem dX8_oddsTooLate_1 : decode cX8_oddsTooLate 1 = .ok (.getfield 19, 3) := by decide +kernel
theorem dX8_oddsTooLate_4 : decode cX8_oddsTooLate 4 = .ok (.getfield 178, 3) := by decide +kernel
theorem dX8_oddsTooLate_7 : decode cX8_oddsTooLate 7 = .ok (.iload_n 1, 1) := by decide +kernel
theorem dX8_oddsTooLate_8 : decode cX8_oddsTooLate 8 = .ok (.invokestatic 174, 3) := by decide +kernel
theorem dX8_oddsTooLate_11 : decode cX8_oddsTooLate 11 = .ok (.aload_n 0, 1) := by decide +kernel
theorem dX8_oddsTooLate_12 : decode cX8_oddsTooLate 12 = .ok (.getfield 41, 3) := by decide +kernel
theorem dX8_oddsTooLate_15 : decode cX8_oddsTooLate 15 = .ok (.getfield 152, 3) := by decide +kernel
theorem dX8_oddsTooLate_18 : decode cX8_oddsTooLate 18 = .ok (.isub, 1) := by decide +kernel
theorem dX8_oddsTooLate_19 : decode cX8_oddsTooLate 19 = .ok (.invokestatic 328, 3) := by decide +kernel
theorem dX8_oddsTooLate_22 : decode cX8_oddsTooLate 22 = .ok (.istore_n 3, 1) := by decide +kernel
theorem dX8_oddsTooLate_23 : decode cX8_oddsTooLate 23 = .ok (.iload_n 3, 1) := by decide +kernel
theorem dX8_oddsTooLate_24 : decode cX8_oddsTooLate 24 = .ok (.ifCond .ne 5, 3) := by decide +kernel
theorem dX8_oddsTooLate_27 : decode cX8_oddsTooLate 27 = .ok (.iconst 0, 1) := by decide +kernel
theorem dX8_oddsTooLate_28 : decode cX8_oddsTooLate 28 = .ok (.ireturn, 1) := by decide +kernel
theorem dX8_oddsTooLate_29 : decode cX8_oddsTooLate 29 = .ok (.aload_n 0, 1) := by decide +kernel
theorem dX8_oddsTooLate_30 : decode cX8_oddsTooLate 30 = .ok (.iload_n 1, 1) := by decide +kernel
theorem dX8_oddsTooLate_31 : decode cX8_oddsTooLate 31 = .ok (.iload_n 2, 1) := by decide +kernel
theorem dX8_oddsTooLate_32 : decode cX8_oddsTooLate 32 = .ok (.invokevirtual 250, 3) := by decide +kernel
theorem dX8_oddsTooLate_35 : decode cX8_oddsTooLate 35 = .ok (.istore 4, 2) := by decide +kernel
theorem dX8_oddsTooLate_37 : decode cX8_oddsTooLate 37 = .ok (.aload_n 0, 1) := by decide +kernel
theorem dX8_oddsTooLate_38 : decode cX8_oddsTooLate 38 = .ok (.getfield 63, 3) := by decide +kernel
theorem dX8_oddsTooLate_41 : decode cX8_oddsTooLate 41 = .ok (.aload_n 0, 1) := by decide +kernel
theorem dX8_oddsTooLate_42 : decode cX8_oddsTooLate 42 = .ok (.getfield 41, 3) := by decide +kernel
theorem dX8_oddsTooLate_45 : decode cX8_oddsTooLate 45 = .ok (.getfield 331, 3) := by decide +kernel
theorem dX8_oddsTooLate_48 : decode cX8_oddsTooLate 48 = .ok (.iload_n 3, 1) := by decide +kernel
theorem dX8_oddsTooLate_49 : decode cX8_oddsTooLate 49 = .ok (.invokevirtual 256, 3) := by decide +kernel
theorem dX8_oddsTooLate_52 : decode cX8_oddsTooLate 52 = .ok (.iconst 0, 1) := by decide +kernel
theorem dX8_oddsTooLate_53 : decode cX8_oddsTooLate 53 = .ok (.istore 5, 2) := by decide +kernel
theorem dX8_oddsTooLate_55 : decode cX8_oddsTooLate 55 = .ok (.iload 5, 2) := by decide +kernel
theorem dX8_oddsTooLate_57 : decode cX8_oddsTooLate 57 = .ok (.iload 4, 2) := by decide +kernel
theorem dX8_oddsTooLate_59 : decode cX8_oddsTooLate 59 = .ok (.if_icmp .ge 36, 3) := by decide +kernel
theorem dX8_oddsTooLate_62 : decode cX8_oddsTooLate 62 = .ok (.aload_n 0, 1) := by decide +kernel
theorem dX8_oddsTooLate_63 : decode cX8_oddsTooLate 63 = .ok (.getfield 63, 3) := by decide +kernel
theorem dX8_oddsTooLate_66 : decode cX8_oddsTooLate 66 = .ok (.aload_n 0, 1) := by decide +kernel
theorem dX8_oddsTooLate_67 : decode cX8_oddsTooLate 67 = .ok (.getfield 19, 3) := by decide +kernel
theorem dX8_oddsTooLate_70 : decode cX8_oddsTooLate 70 = .ok (.aload_n 0, 1) := by decide +kernel
theorem dX8_oddsTooLate_71 : decode cX8_oddsTooLate 71 = .ok (.getfield 19, 3) := by decide +kernel
theorem dX8_oddsTooLate_74 : decode cX8_oddsTooLate 74 = .ok (.iconst 0, 1) := by decide +kernel
theorem dX8_oddsTooLate_75 : decode cX8_oddsTooLate 75 = .ok (.invokevirtual 334, 3) := by decide +kernel
theorem dX8_oddsTooLate_78 : decode cX8_oddsTooLate 78 = .ok (.aload_n 0, 1) := by decide +kernel
theorem dX8_oddsTooLate_79 : decode cX8_oddsTooLate 79 = .ok (.getfield 19, 3) := by decide +kernel
theorem dX8_oddsTooLate_82 : decode cX8_oddsTooLate 82 = .ok (.iconst 1, 1) := by decide +kernel
theorem dX8_oddsTooLate_83 : decode cX8_oddsTooLate 83 = .ok (.invokevirtual 334, 3) := by decide +kernel
theorem dX8_oddsTooLate_86 : decode cX8_oddsTooLate 86 = .ok (.invokevirtual 260, 3) := by decide +kernel
theorem dX8_oddsTooLate_89 : decode cX8_oddsTooLate 89 = .ok (.iinc 5 1, 3) := by decide +kernel
theorem dX8_oddsTooLate_92 : decode cX8_oddsTooLate 92 = .ok (.goto (-37), 3) := by decide +kernel
theorem dX8_oddsTooLate_95 : decode cX8_oddsTooLate 95 = .ok (.lconst 0, 1) := by decide +kernel
theorem dX8_oddsTooLate_96 : decode cX8_oddsTooLate 96 = .ok (.lstore 5, 2) := by decide +kernel
theorem dX8_oddsTooLate_98 : decode cX8_oddsTooLate 98 = .ok (.iconst 0, 1) := by decide +kernel
theorem dX8_oddsTooLate_99 : decode cX8_oddsTooLate 99 = .ok (.istore 7, 2) := by decide +kernel
theorem dX8_oddsTooLate_101 : decode cX8_oddsTooLate 101 = .ok (.iload 7, 2) := by decide +kernel
theorem dX8_oddsTooLate_103 : decode cX8_oddsTooLate 103 = .ok (.iconst 3, 1) := by decide +kernel
theorem dX8_oddsTooLate_104 : decode cX8_oddsTooLate 104 = .ok (.if_icmp .ge 23, 3) := by decide +kernel
theorem dX8_oddsTooLate_107 : decode cX8_oddsTooLate 107 = .ok (.lload 5, 2) := by decide +kernel
theorem dX8_oddsTooLate_109 : decode cX8_oddsTooLate 109 = .ok (.aload_n 0, 1) := by decide +kernel
theorem dX8_oddsTooLate_110 : decode cX8_oddsTooLate 110 = .ok (.getfield 63, 3) := by decide +kernel
theorem dX8_oddsTooLate_113 : decode cX8_oddsTooLate 113 = .ok (.iload 7, 2) := by decide +kernel
theorem dX8_oddsTooLate_115 : decode cX8_oddsTooLate 115 = .ok (.invokevirtual 264, 3) := by decide +kernel
theorem dX8_oddsTooLate_118 : decode cX8_oddsTooLate 118 = .ok (.ladd, 1) := by decide +kernel
theorem dX8_oddsTooLate_119 : decode cX8_oddsTooLate 119 = .ok (.lstore 5, 2) := by decide +kernel
theorem dX8_oddsTooLate_121 : decode cX8_oddsTooLate 121 = .ok (.iinc 7 1, 3) := by decide +kernel
theorem dX8_oddsTooLate_124 : decode cX8_oddsTooLate 124 = .ok (.goto (-23), 3) := by decide +kernel
theorem dX8_oddsTooLate_127 : decode cX8_oddsTooLate 127 = .ok (.lload 5, 2) := by decide +kernel
theorem dX8_oddsTooLate_129 : decode cX8_oddsTooLate 129 = .ok (.ldc2_w 268, 3) := by decide +kernel
theorem dX8_oddsTooLate_132 : decode cX8_oddsTooLate 132 = .ok (.ldiv, 1) := by decide +kernel
theorem dX8_oddsTooLate_133 : decode cX8_oddsTooLate 133 = .ok (.l2i, 1) := by decide +kernel
theorem dX8_oddsTooLate_134 : decode cX8_oddsTooLate 134 = .ok (.ireturn, 1) := by decide +kernel
theorem dX8_at_0 : decode cX8_at 0 = .ok (.iload_n 1, 1) := by decide +kernel
theorem dX8_at_1 : decode cX8_at 1 = .ok (.ifCond .lt 15, 3) := by decide +kernel
theorem dX8_at_4 : decode cX8_at 4 = .ok (.iload_n 1, 1) := by decide +kernel
theorem dX8_at_5 : decode cX8_at 5 = .ok (.aload_n 0, 1) := by decide +kernel
theorem dX8_at_6 : decode cX8_at 6 = .ok (.arraylength, 1) := by decide +kernel
theorem dX8_at_7 : decode cX8_at 7 = .ok (.if_icmp .ge 9, 3) := by decide +kernel
theorem dX8_at_10 : decode cX8_at 10 = .ok (.aload_n 0, 1) := by decide +kernel
theorem dX8_at_11 : decode cX8_at 11 = .ok (.iload_n 1, 1) := by decide +kernel
theorem dX8_at_12 : decode cX8_at 12 = .ok (.iaload, 1) := by decide +kernel
theorem dX8_at_13 : decode cX8_at 13 = .ok (.goto 4, 3) := by decide +kernel
theorem dX8_at_16 : decode cX8_at 16 = .ok (.iconst 0, 1) := by decide +kernel
theorem dX8_at_17 : decode cX8_at 17 = .ok (.ireturn, 1) := by decide +kernel
theorem dX8_put_0 : decode cX8_put 0 = .ok (.iload_n 1, 1) := by decide +kernel
theorem dX8_put_1 : decode cX8_put 1 = .ok (.ifCond .lt 13, 3) := by decide +kernel
theorem dX8_put_4 : decode cX8_put 4 = .ok (.iload_n 1, 1) := by decide +kernel
theorem dX8_put_5 : decode cX8_put 5 = .ok (.aload_n 0, 1) := by decide +kernel
theorem dX8_put_6 : decode cX8_put 6 = .ok (.arraylength, 1) := by decide +kernel
theorem dX8_put_7 : decode cX8_put 7 = .ok (.if_icmp .ge 7, 3) := by decide +kernel
theorem dX8_put_10 : decode cX8_put 10 = .ok (.aload_n 0, 1) := by decide +kernel
theorem dX8_put_11 : decode cX8_put 11 = .ok (.iload_n 1, 1) := by decide +kernel
theorem dX8_put_12 : decode cX8_put 12 = .ok (.iload_n 2, 1) := by decide +kernel
theorem dX8_put_13 : decode cX8_put 13 = .ok (.iastore, 1) := by decide +kernel
theorem dX8_put_14 : decode cX8_put 14 = .ok (.return_, 1) := by decide +kernel
theorem dX8_copyRow_0 : decode cX8_copyRow 0 = .ok (.aload_n 0, 1) := by decide +kernel
theorem dX8_copyRow_1 : decode cX8_copyRow 1 = .ok (.iconst 0, 1) := by decide +kernel
theorem dX8_copyRow_2 : decode cX8_copyRow 2 = .ok (.aload_n 1, 1) := by decide +kernel
theorem dX8_copyRow_3 : decode cX8_copyRow 3 = .ok (.iconst 0, 1) := by decide +kernel
theorem dX8_copyRow_4 : decode cX8_copyRow 4 = .ok (.aload_n 0, 1) := by decide +kernel
theorem dX8_copyRow_5 : decode cX8_copyRow 5 = .ok (.arraylength, 1) := by decide +kernel
theorem dX8_copyRow_6 : decode cX8_copyRow 6 = .ok (.aload_n 1, 1) := by decide +kernel
theorem dX8_copyRow_7 : decode cX8_copyRow 7 = .ok (.arraylength, 1) := by decide +kernel
theorem dX8_copyRow_8 : decode cX8_copyRow 8 = .ok (.invokestatic 290, 3) := by decide +kernel
theorem dX8_copyRow_11 : decode cX8_copyRow 11 = .ok (.invokestatic 337, 3) := by decide +kernel
theorem dX8_copyRow_14 : decode cX8_copyRow 14 = .ok (.return_, 1) := by decide +kernel
theorem dX8_kindWord_0 : decode cX8_kindWord 0 = .ok (.iload_n 0, 1) := by decide +kernel
theorem dX8_kindWord_1 : decode cX8_kindWord 1 = .ok (.tableswitch 55 0 4 #[35, 39, 43, 47, 51], 35) := by decide +kernel
theorem dX8_kindWord_36 : decode cX8_kindWord 36 = .ok (.ldc_w 343, 3) := by decide +kernel
theorem dX8_kindWord_39 : decode cX8_kindWord 39 = .ok (.areturn, 1) := by decide +kernel
theorem dX8_kindWord_40 : decode cX8_kindWord 40 = .ok (.ldc_w 345, 3) := by decide +kernel
theorem dX8_kindWord_43 : decode cX8_kindWord 43 = .ok (.areturn, 1) := by decide +kernel
theorem dX8_kindWord_44 : decode cX8_kindWord 44 = .ok (.ldc_w 347, 3) := by decide +kernel
theorem dX8_kindWord_47 : decode cX8_kindWord 47 = .ok (.areturn, 1) := by decide +kernel
theorem dX8_kindWord_48 : decode cX8_kindWord 48 = .ok (.ldc_w 349, 3) := by decide +kernel
theorem dX8_kindWord_51 : decode cX8_kindWord 51 = .ok (.areturn, 1) := by decide +kernel
theorem dX8_kindWord_52 : decode cX8_kindWord 52 = .ok (.ldc_w 351, 3) := by decide +kernel
theorem dX8_kindWord_55 : decode cX8_kindWord 55 = .ok (.areturn, 1) := by decide +kernel
theorem dX8_kindWord_56 : decode cX8_kindWord 56 = .ok (.ldc_w 353, 3) := by decide +kernel
theorem dX8_kindWord_59 : decode cX8_kindWord 59 = .ok (.areturn, 1) := by decide +kernel
theorem dX8_skyWord_0 : decode cX8_skyWord 0 = .ok (.iload_n 0, 1) := by decide +kernel
theorem dX8_skyWord_1 : decode cX8_skyWord 1 = .ok (.tableswitch 39 0 2 #[27, 31, 35], 27) := by decide +kernel
theorem dX8_skyWord_28 : decode cX8_skyWord 28 = .ok (.ldc_w 355, 3) := by decide +kernel
theorem dX8_skyWord_31 : decode cX8_skyWord 31 = .ok (.areturn, 1) := by decide +kernel
theorem dX8_skyWord_32 : decode cX8_skyWord 32 = .ok (.ldc_w 357, 3) := by decide +kernel
theorem dX8_skyWord_35 : decode cX8_skyWord 35 = .ok (.areturn, 1) := by decide +kernel
theorem dX8_skyWord_36 : decode cX8_skyWord 36 = .ok (.ldc_w 359, 3) := by decide +kernel
theorem dX8_skyWord_39 : decode cX8_skyWord 39 = .ok (.areturn, 1) := by decide +kernel
theorem dX8_skyWord_40 : decode cX8_skyWord 40 = .ok (.ldc_w 353, 3) := by decide +kernel
theorem dX8_skyWord_43 : decode cX8_skyWord 43 = .ok (.areturn, 1) := by decide +kernel
theorem dX9_init_0 : decode cX9_init 0 = .ok (.aload_n 0, 1) := by decide +kernel
theorem dX9_init_1 : decode cX9_init 1 = .ok (.invokespecial 1, 3) := by decide +kernel
theorem dX9_init_4 : decode cX9_init 4 = .ok (.aload_n 0, 1) := by decide +kernel
theorem dX9_init_5 : decode cX9_init 5 = .ok (.bipush 45, 2) := by decide +kernel
theorem dX9_init_7 : decode cX9_init 7 = .ok (.newarray .int, 2) := by decide +kernel
theorem dX9_init_9 : decode cX9_init 9 = .ok (.putfield 7, 3) := by decide +kernel
theorem dX9_init_12 : decode cX9_init 12 = .ok (.aload_n 0, 1) := by decide +kernel
theorem dX9_init_13 : decode cX9_init 13 = .ok (.bipush 20, 2) := by decide +kernel
theorem dX9_init_15 : decode cX9_init 15 = .ok (.putfield 13, 3) := by decide +kernel
theorem dX9_init_18 : decode cX9_init 18 = .ok (.aload_n 0, 1) := by decide +kernel
theorem dX9_init_19 : decode cX9_init 19 = .ok (.bipush 50, 2) := by decide +kernel
theorem dX9_init_21 : decode cX9_init 21 = .ok (.putfield 17, 3) := by decide +kernel
theorem dX9_init_24 : decode cX9_init 24 = .ok (.aload_n 0, 1) := by decide +kernel
theorem dX9_init_25 : decode cX9_init 25 = .ok (.sipush 500, 3) := by decide +kernel
theorem dX9_init_28 : decode cX9_init 28 = .ok (.putfield 20, 3) := by decide +kernel
theorem dX9_init_31 : decode cX9_init 31 = .ok (.aload_n 0, 1) := by decide +kernel
theorem dX9_init_32 : decode cX9_init 32 = .ok (.bipush 10, 2) := by decide +kernel
theorem dX9_init_34 : decode cX9_init 34 = .ok (.putfield 23, 3) := by decide +kernel
theorem dX9_init_37 : decode cX9_init 37 = .ok (.aload_n 0, 1) := by decide +kernel
theorem dX9_init_38 : decode cX9_init 38 = .ok (.iconst 1, 1) := by decide +kernel
theorem dX9_init_39 : decode cX9_init 39 = .ok (.putfield 26, 3) := by decide +kernel
theorem dX9_init_42 : decode cX9_init 42 = .ok (.aload_n 0, 1) := by decide +kernel
theorem dX9_init_43 : decode cX9_init 43 = .ok (.bipush 12, 2) := by decide +kernel
theorem dX9_init_45 : decode cX9_init 45 = .ok (.newarray .int, 2) := by decide +kernel
theorem dX9_init_47 : decode cX9_init 47 = .ok (.putfield 29, 3) := by decide +kernel
theorem dX9_init_50 : decode cX9_init 50 = .ok (.aload_n 0, 1) := by decide +kernel
theorem dX9_init_51 : decode cX9_init 51 = .ok (.bipush 9, 2) := by decide +kernel
theorem dX9_init_53 : decode cX9_init 53 = .ok (.newarray .int, 2) := by decide +kernel
theorem dX9_init_55 : decode cX9_init 55 = .ok (.putfield 32, 3) := by decide +kernel
theorem dX9_init_58 : decode cX9_init 58 = .ok (.aload_n 0, 1) := by decide +kernel
theorem dX9_init_59 : decode cX9_init 59 = .ok (.bipush 30, 2) := by decide +kernel
theorem dX9_init_61 : decode cX9_init 61 = .ok (.newarray .int, 2) := by decide +kernel
theorem dX9_init_63 : decode cX9_init 63 = .ok (.putfield 35, 3) := by decide +kernel
theorem dX9_init_66 : decode cX9_init 66 = .ok (.aload_n 0, 1) := by decide +kernel
theorem dX9_init_67 : decode cX9_init 67 = .ok (.bipush 30, 2) := by decide +kernel
theorem dX9_init_69 : decode cX9_init 69 = .ok (.newarray .int, 2) := by decide +kernel
theorem dX9_init_71 : decode cX9_init 71 = .ok (.putfield 38, 3) := by decide +kernel
theorem dX9_init_74 : decode cX9_init 74 = .ok (.aload_n 0, 1) := by decide +kernel
theorem dX9_init_75 : decode cX9_init 75 = .ok (.bipush 9, 2) := by decide +kernel
theorem dX9_init_77 : decode cX9_init 77 = .ok (.newarray .int, 2) := by decide +kernel
theorem dX9_init_79 : decode cX9_init 79 = .ok (.putfield 41, 3) := by decide +kernel
theorem dX9_init_82 : decode cX9_init 82 = .ok (.aload_n 0, 1) := by decide +kernel
theorem dX9_init_83 : decode cX9_init 83 = .ok (.bipush 9, 2) := by decide +kernel
theorem dX9_init_85 : decode cX9_init 85 = .ok (.newarray .boolean, 2) := by decide +kernel
theorem dX9_init_87 : decode cX9_init 87 = .ok (.putfield 44, 3) := by decide +kernel
theorem dX9_init_90 : decode cX9_init 90 = .ok (.aload_n 0, 1) := by decide +kernel
theorem dX9_init_91 : decode cX9_init 91 = .ok (.bipush 9, 2) := by decide +kernel
theorem dX9_init_93 : decode cX9_init 93 = .ok (.newarray .int, 2) := by decide +kernel
theorem dX9_init_95 : decode cX9_init 95 = .ok (.putfield 48, 3) := by decide +kernel
theorem dX9_init_98 : decode cX9_init 98 = .ok (.aload_n 0, 1) := by decide +kernel
theorem dX9_init_99 : decode cX9_init 99 = .ok (.bipush 9, 2) := by decide +kernel
theorem dX9_init_101 : decode cX9_init 101 = .ok (.newarray .int, 2) := by decide +kernel
theorem dX9_init_103 : decode cX9_init 103 = .ok (.putfield 51, 3) := by decide +kernel
theorem dX9_init_106 : decode cX9_init 106 = .ok (.aload_n 0, 1) := by decide +kernel
theorem dX9_init_107 : decode cX9_init 107 = .ok (.iconst (-1), 1) := by decide +kernel
theorem dX9_init_108 : decode cX9_init 108 = .ok (.putfield 54, 3) := by decide +kernel
theorem dX9_init_111 : decode cX9_init 111 = .ok (.aload_n 0, 1) := by decide +kernel
theorem dX9_init_112 : decode cX9_init 112 = .ok (.sipush 360, 3) := by decide +kernel
theorem dX9_init_115 : decode cX9_init 115 = .ok (.newarray .int, 2) := by decide +kernel
theorem dX9_init_117 : decode cX9_init 117 = .ok (.putfield 57, 3) := by decide +kernel
theorem dX9_init_120 : decode cX9_init 120 = .ok (.aload_n 0, 1) := by decide +kernel
theorem dX9_init_121 : decode cX9_init 121 = .ok (.sipush 500, 3) := by decide +kernel
theorem dX9_init_124 : decode cX9_init 124 = .ok (.newarray .int, 2) := by decide +kernel
theorem dX9_init_126 : decode cX9_init 126 = .ok (.putfield 60, 3) := by decide +kernel
theorem dX9_init_129 : decode cX9_init 129 = .ok (.aload_n 0, 1) := by decide +kernel
theorem dX9_init_130 : decode cX9_init 130 = .ok (.iconst (-1), 1) := by decide +kernel
theorem dX9_init_131 : decode cX9_init 131 = .ok (.putfield 63, 3) := by decide +kernel
theorem dX9_init_134 : decode cX9_init 134 = .ok (.aload_n 0, 1) := by decide +kernel
theorem dX9_init_135 : decode cX9_init 135 = .ok (.bipush 45, 2) := by decide +kernel
theorem dX9_init_137 : decode cX9_init 137 = .ok (.newarray .int, 2) := by decide +kernel
theorem dX9_init_139 : decode cX9_init 139 = .ok (.putfield 66, 3) := by decide +kernel
theorem dX9_init_142 : decode cX9_init 142 = .ok (.aload_n 0, 1) := by decide +kernel
theorem dX9_init_143 : decode cX9_init 143 = .ok (.iconst 5, 1) := by decide +kernel
theorem dX9_init_144 : decode cX9_init 144 = .ok (.newarray .int, 2) := by decide +kernel
theorem dX9_init_146 : decode cX9_init 146 = .ok (.putfield 69, 3) := by decide +kernel
theorem dX9_init_149 : decode cX9_init 149 = .ok (.aload_n 0, 1) := by decide +kernel
theorem dX9_init_150 : decode cX9_init 150 = .ok (.bipush 12, 2) := by decide +kernel
theorem dX9_init_152 : decode cX9_init 152 = .ok (.newarray .int, 2) := by decide +kernel
theorem dX9_init_154 : decode cX9_init 154 = .ok (.putfield 72, 3) := by decide +kernel
theorem dX9_init_157 : decode cX9_init 157 = .ok (.aload_n 0, 1) := by decide +kernel
theorem dX9_init_158 : decode cX9_init 158 = .ok (.bipush 9, 2) := by decide +kernel
theorem dX9_init_160 : decode cX9_init 160 = .ok (.newarray .int, 2) := by decide +kernel
theorem dX9_init_162 : decode cX9_init 162 = .ok (.putfield 75, 3) := by decide +kernel
theorem dX9_init_165 : decode cX9_init 165 = .ok (.aload_n 0, 1) := by decide +kernel
theorem dX9_init_166 : decode cX9_init 166 = .ok (.bipush 30, 2) := by decide +kernel
theorem dX9_init_168 : decode cX9_init 168 = .ok (.newarray .int, 2) := by decide +kernel
theorem dX9_init_170 : decode cX9_init 170 = .ok (.putfield 78, 3) := by decide +kernel
theorem dX9_init_173 : decode cX9_init 173 = .ok (.aload_n 0, 1) := by decide +kernel
theorem dX9_init_174 : decode cX9_init 174 = .ok (.bipush 30, 2) := by decide +kernel
theorem dX9_init_176 : decode cX9_init 176 = .ok (.newarray .int, 2) := by decide +kernel
theorem dX9_init_178 : decode cX9_init 178 = .ok (.putfield 81, 3) := by decide +kernel
theorem dX9_init_181 : decode cX9_init 181 = .ok (.aload_n 0, 1) := by decide +kernel
theorem dX9_init_182 : decode cX9_init 182 = .ok (.sipush 1230, 3) := by decide +kernel
theorem dX9_init_185 : decode cX9_init 185 = .ok (.newarray .long, 2) := by decide +kernel
theorem dX9_init_187 : decode cX9_init 187 = .ok (.putfield 84, 3) := by decide +kernel
theorem dX9_init_190 : decode cX9_init 190 = .ok (.aload_n 0, 1) := by decide +kernel
theorem dX9_init_191 : decode cX9_init 191 = .ok (.iconst 2, 1) := by decide +kernel
theorem dX9_init_192 : decode cX9_init 192 = .ok (.newarray .boolean, 2) := by decide +kernel
theorem dX9_init_194 : decode cX9_init 194 = .ok (.putfield 88, 3) := by decide +kernel
theorem dX9_init_197 : decode cX9_init 197 = .ok (.aload_n 0, 1) := by decide +kernel
theorem dX9_init_198 : decode cX9_init 198 = .ok (.bipush 9, 2) := by decide +kernel
theorem dX9_init_200 : decode cX9_init 200 = .ok (.newarray .int, 2) := by decide +kernel
theorem dX9_init_202 : decode cX9_init 202 = .ok (.putfield 91, 3) := by decide +kernel
theorem dX9_init_205 : decode cX9_init 205 = .ok (.aload_n 0, 1) := by decide +kernel
theorem dX9_init_206 : decode cX9_init 206 = .ok (.sipush 300, 3) := by decide +kernel
theorem dX9_init_209 : decode cX9_init 209 = .ok (.newarray .long, 2) := by decide +kernel
theorem dX9_init_211 : decode cX9_init 211 = .ok (.putfield 94, 3) := by decide +kernel
theorem dX9_init_214 : decode cX9_init 214 = .ok (.aload_n 0, 1) := by decide +kernel
theorem dX9_init_215 : decode cX9_init 215 = .ok (.sipush 300, 3) := by decide +kernel
theorem dX9_init_218 : decode cX9_init 218 = .ok (.newarray .long, 2) := by decide +kernel
theorem dX9_init_220 : decode cX9_init 220 = .ok (.putfield 97, 3) := by decide +kernel
theorem dX9_init_223 : decode cX9_init 223 = .ok (.aload_n 0, 1) := by decide +kernel
theorem dX9_init_224 : decode cX9_init 224 = .ok (.iconst 3, 1) := by decide +kernel
theorem dX9_init_225 : decode cX9_init 225 = .ok (.newarray .long, 2) := by decide +kernel
theorem dX9_init_227 : decode cX9_init 227 = .ok (.putfield 100, 3) := by decide +kernel
theorem dX9_init_230 : decode cX9_init 230 = .ok (.aload_n 0, 1) := by decide +kernel
theorem dX9_init_231 : decode cX9_init 231 = .ok (.iconst 3, 1) := by decide +kernel
theorem dX9_init_232 : decode cX9_init 232 = .ok (.newarray .long, 2) := by decide +kernel
theorem dX9_init_234 : decode cX9_init 234 = .ok (.putfield 103, 3) := by decide +kernel
theorem dX9_init_237 : decode cX9_init 237 = .ok (.aload_n 0, 1) := by decide +kernel
theorem dX9_init_238 : decode cX9_init 238 = .ok (.bipush 12, 2) := by decide +kernel
theorem dX9_init_240 : decode cX9_init 240 = .ok (.newarray .int, 2) := by decide +kernel
theorem dX9_init_242 : decode cX9_init 242 = .ok (.putfield 106, 3) := by decide +kernel
theorem dX9_init_245 : decode cX9_init 245 = .ok (.aload_n 0, 1) := by decide +kernel
theorem dX9_init_246 : decode cX9_init 246 = .ok (.bipush 12, 2) := by decide +kernel
theorem dX9_init_248 : decode cX9_init 248 = .ok (.newarray .boolean, 2) := by decide +kernel
theorem dX9_init_250 : decode cX9_init 250 = .ok (.putfield 109, 3) := by decide +kernel
theorem dX9_init_253 : decode cX9_init 253 = .ok (.aload_n 0, 1) := by decide +kernel
theorem dX9_init_254 : decode cX9_init 254 = .ok (.bipush 9, 2) := by decide +kernel
theorem dX9_init_256 : decode cX9_init 256 = .ok (.newarray .int, 2) := by decide +kernel
theorem dX9_init_258 : decode cX9_init 258 = .ok (.putfield 112, 3) := by decide +kernel
theorem dX9_init_261 : decode cX9_init 261 = .ok (.aload_n 0, 1) := by decide +kernel
theorem dX9_init_262 : decode cX9_init 262 = .ok (.sipush 360, 3) := by decide +kernel
theorem dX9_init_265 : decode cX9_init 265 = .ok (.newarray .int, 2) := by decide +kernel
theorem dX9_init_267 : decode cX9_init 267 = .ok (.putfield 115, 3) := by decide +kernel
theorem dX9_init_270 : decode cX9_init 270 = .ok (.aload_n 0, 1) := by decide +kernel
theorem dX9_init_271 : decode cX9_init 271 = .ok (.getfield 29, 3) := by decide +kernel
theorem dX9_init_274 : decode cX9_init 274 = .ok (.iconst 0, 1) := by decide +kernel
theorem dX9_init_275 : decode cX9_init 275 = .ok (.bipush 12, 2) := by decide +kernel
theorem dX9_init_277 : decode cX9_init 277 = .ok (.iastore, 1) := by decide +kernel
theorem dX9_init_278 : decode cX9_init 278 = .ok (.iconst 0, 1) := by decide +kernel
theorem dX9_init_279 : decode cX9_init 279 = .ok (.istore_n 1, 1) := by decide +kernel
theorem dX9_init_280 : decode cX9_init 280 = .ok (.iload_n 1, 1) := by decide +kernel
theorem dX9_init_281 : decode cX9_init 281 = .ok (.bipush 9, 2) := by decide +kernel
theorem dX9_init_283 : decode cX9_init 283 = .ok (.if_icmp .ge 27, 3) := by decide +kernel
theorem dX9_init_286 : decode cX9_init 286 = .ok (.aload_n 0, 1) := by decide +kernel
theorem dX9_init_287 : decode cX9_init 287 = .ok (.getfield 32, 3) := by decide +kernel
theorem dX9_init_290 : decode cX9_init 290 = .ok (.iload_n 1, 1) := by decide +kernel
theorem dX9_init_291 : decode cX9_init 291 = .ok (.iload_n 1, 1) := by decide +kernel
theorem dX9_init_292 : decode cX9_init 292 = .ok (.iconst 4, 1) := by decide +kernel
theorem dX9_init_293 : decode cX9_init 293 = .ok (.irem, 1) := by decide +kernel
theorem dX9_init_294 : decode cX9_init 294 = .ok (.ifCond .ne 8, 3) := by decide +kernel
theorem dX9_init_297 : decode cX9_init 297 = .ok (.bipush 100, 2) := by decide +kernel
theorem dX9_init_299 : decode cX9_init 299 = .ok (.goto 4, 3) := by decide +kernel
theorem dX9_init_302 : decode cX9_init 302 = .ok (.iconst 0, 1) := by decide +kernel
theorem dX9_init_303 : decode cX9_init 303 = .ok (.iastore, 1) := by decide +kernel
theorem dX9_init_304 : decode cX9_init 304 = .ok (.iinc 1 1, 3) := by decide +kernel
theorem dX9_init_307 : decode cX9_init 307 = .ok (.goto (-27), 3) := by decide +kernel
theorem dX9_init_310 : decode cX9_init 310 = .ok (.aload_n 0, 1) := by decide +kernel
theorem dX9_init_311 : decode cX9_init 311 = .ok (.invokevirtual 118, 3) := by decide +kernel
theorem dX9_init_314 : decode cX9_init 314 = .ok (.return_, 1) := by decide +kernel
theorem dX9_in_0 : decode cX9_in 0 = .ok (.lload_n 0, 1) := by decide +kernel
theorem dX9_in_1 : decode cX9_in 1 = .ok (.lload_n 2, 1) := by decide +kernel
theorem dX9_in_2 : decode cX9_in 2 = .ok (.lcmp, 1) := by decide +kernel
theorem dX9_in_3 : decode cX9_in 3 = .ok (.ifCond .lt 14, 3) := by decide +kernel
theorem dX9_in_6 : decode cX9_in 6 = .ok (.lload_n 0, 1) := by decide +kernel
theorem dX9_in_7 : decode cX9_in 7 = .ok (.lload 4, 2) := by decide +kernel
theorem dX9_in_9 : decode cX9_in 9 = .ok (.lcmp, 1) := by decide +kernel
theorem dX9_in_10 : decode cX9_in 10 = .ok (.ifCond .gt 7, 3) := by decide +kernel
theorem dX9_in_13 : decode cX9_in 13 = .ok (.iconst 1, 1) := by decide +kernel
theorem dX9_in_14 : decode cX9_in 14 = .ok (.goto 4, 3) := by decide +kernel
theorem dX9_in_17 : decode cX9_in 17 = .ok (.iconst 0, 1) := by decide +kernel
theorem dX9_in_18 : decode cX9_in 18 = .ok (.ireturn, 1) := by decide +kernel
theorem dX9_has_0 : decode cX9_has 0 = .ok (.iload_n 0, 1) := by decide +kernel
theorem dX9_has_1 : decode cX9_has 1 = .ok (.iload_n 1, 1) := by decide +kernel
theorem dX9_has_2 : decode cX9_has 2 = .ok (.ishr, 1) := by decide +kernel
theorem dX9_has_3 : decode cX9_has 3 = .ok (.iconst 1, 1) := by decide +kernel
theorem dX9_has_4 : decode cX9_has 4 = .ok (.iand, 1) := by decide +kernel
theorem dX9_has_5 : decode cX9_has 5 = .ok (.iconst 1, 1) := by decide +kernel
theorem dX9_has_6 : decode cX9_has 6 = .ok (.if_icmp .ne 7, 3) := by decide +kernel
theorem dX9_has_9 : decode cX9_has 9 = .ok (.iconst 1, 1) := by decide +kernel
theorem dX9_has_10 : decode cX9_has 10 = .ok (.goto 4, 3) := by decide +kernel
theorem dX9_has_13 : decode cX9_has 13 = .ok (.iconst 0, 1) := by decide +kernel
theorem dX9_has_14 : decode cX9_has 14 = .ok (.ireturn, 1) := by decide +kernel
theorem dX9_bits_0 : decode cX9_bits 0 = .ok (.iconst 0, 1) := by decide +kernel
theorem dX9_bits_1 : decode cX9_bits 1 = .ok (.istore_n 1, 1) := by decide +kernel
theorem dX9_bits_2 : decode cX9_bits 2 = .ok (.iconst 0, 1) := by decide +kernel
theorem dX9_bits_3 : decode cX9_bits 3 = .ok (.istore_n 2, 1) := by decide +kernel
theorem dX9_bits_4 : decode cX9_bits 4 = .ok (.iload_n 2, 1) := by decide +kernel
theorem dX9_bits_5 : decode cX9_bits 5 = .ok (.bipush 9, 2) := by decide +kernel
theorem dX9_bits_7 : decode cX9_bits 7 = .ok (.if_icmp .ge 17, 3) := by decide +kernel
theorem dX9_bits_10 : decode cX9_bits 10 = .ok (.iload_n 1, 1) := by decide +kernel
theorem dX9_bits_11 : decode cX9_bits 11 = .ok (.iload_n 0, 1) := by decide +kernel
theorem dX9_bits_12 : decode cX9_bits 12 = .ok (.iload_n 2, 1) := by decide +kernel
theorem dX9_bits_13 : decode cX9_bits 13 = .ok (.ishr, 1) := by decide +kernel
theorem dX9_bits_14 : decode cX9_bits 14 = .ok (.iconst 1, 1) := by decide +kernel
theorem dX9_bits_15 : decode cX9_bits 15 = .ok (.iand, 1) := by decide +kernel
theorem dX9_bits_16 : decode cX9_bits 16 = .ok (.iadd, 1) := by decide +kernel
theorem dX9_bits_17 : decode cX9_bits 17 = .ok (.istore_n 1, 1) := by decide +kernel
theorem dX9_bits_18 : decode cX9_bits 18 = .ok (.iinc 2 1, 3) := by decide +kernel
theorem dX9_bits_21 : decode cX9_bits 21 = .ok (.goto (-17), 3) := by decide +kernel
theorem dX9_bits_24 : decode cX9_bits 24 = .ok (.iload_n 1, 1) := by decide +kernel
theorem dX9_bits_25 : decode cX9_bits 25 = .ok (.ireturn, 1) := by decide +kernel
theorem dX9_isLight_0 : decode cX9_isLight 0 = .ok (.iload_n 1, 1) := by decide +kernel
theorem dX9_isLight_1 : decode cX9_isLight 1 = .ok (.i2l, 1) := by decide +kernel
theorem dX9_isLight_2 : decode cX9_isLight 2 = .ok (.lconst 0, 1) := by decide +kernel
theorem dX9_isLight_3 : decode cX9_isLight 3 = .ok (.aload_n 0, 1) := by decide +kernel
theorem dX9_isLight_4 : decode cX9_isLight 4 = .ok (.getfield 121, 3) := by decide +kernel
theorem dX9_isLight_7 : decode cX9_isLight 7 = .ok (.iconst 1, 1) := by decide +kernel
theorem dX9_isLight_8 : decode cX9_isLight 8 = .ok (.isub, 1) := by decide +kernel
theorem dX9_isLight_9 : decode cX9_isLight 9 = .ok (.i2l, 1) := by decide +kernel
theorem dX9_isLight_10 : decode cX9_isLight 10 = .ok (.invokestatic 124, 3) := by decide +kernel
theorem dX9_isLight_13 : decode cX9_isLight 13 = .ok (.ireturn, 1) := by decide +kernel
theorem dX9_isSky_0 : decode cX9_isSky 0 = .ok (.iload_n 0, 1) := by decide +kernel
theorem dX9_isSky_1 : decode cX9_isSky 1 = .ok (.i2l, 1) := by decide +kernel
theorem dX9_isSky_2 : decode cX9_isSky 2 = .ok (.lconst 0, 1) := by decide +kernel
theorem dX9_isSky_3 : decode cX9_isSky 3 = .ok (.ldc2_w 128, 3) := by decide +kernel
theorem dX9_isSky_6 : decode cX9_isSky 6 = .ok (.invokestatic 124, 3) := by decide +kernel
theorem dX9_isSky_9 : decode cX9_isSky 9 = .ok (.ireturn, 1) := by decide +kernel
theorem dX9_anew_0 : decode cX9_anew 0 = .ok (.iconst 0, 1) := by decide +kernel
theorem dX9_anew_1 : decode cX9_anew 1 = .ok (.istore_n 1, 1) := by decide +kernel
theorem dX9_anew_2 : decode cX9_anew 2 = .ok (.iload_n 1, 1) := by decide +kernel
theorem dX9_anew_3 : decode cX9_anew 3 = .ok (.bipush 9, 2) := by decide +kernel
theorem dX9_anew_5 : decode cX9_anew 5 = .ok (.if_icmp .ge 58, 3) := by decide +kernel
theorem dX9_anew_8 : decode cX9_anew 8 = .ok (.aload_n 0, 1) := by decide +kernel
theorem dX9_anew_9 : decode cX9_anew 9 = .ok (.getfield 41, 3) := by decide +kernel
theorem dX9_anew_12 : decode cX9_anew 12 = .ok (.iload_n 1, 1) := by decide +kernel
theorem dX9_anew_13 : decode cX9_anew 13 = .ok (.iload_n 1, 1) := by decide +kernel
theorem dX9_anew_14 : decode cX9_anew 14 = .ok (.aload_n 0, 1) := by decide +kernel
theorem dX9_anew_15 : decode cX9_anew 15 = .ok (.getfield 121, 3) := by decide +kernel
theorem dX9_anew_18 : decode cX9_anew 18 = .ok (.if_icmp .ge 16, 3) := by decide +kernel
theorem dX9_anew_21 : decode cX9_anew 21 = .ok (.aload_n 0, 1) := by decide +kernel
theorem dX9_anew_22 : decode cX9_anew 22 = .ok (.getfield 7, 3) := by decide +kernel
theorem dX9_anew_25 : decode cX9_anew 25 = .ok (.iconst 5, 1) := by decide +kernel
theorem dX9_anew_26 : decode cX9_anew 26 = .ok (.iload_n 1, 1) := by decide +kernel
theorem dX9_anew_27 : decode cX9_anew 27 = .ok (.imul, 1) := by decide +kernel
theorem dX9_anew_28 : decode cX9_anew 28 = .ok (.iconst 3, 1) := by decide +kernel
theorem dX9_anew_29 : decode cX9_anew 29 = .ok (.iadd, 1) := by decide +kernel
theorem dX9_anew_30 : decode cX9_anew 30 = .ok (.iaload, 1) := by decide +kernel
theorem dX9_anew_31 : decode cX9_anew 31 = .ok (.goto 4, 3) := by decide +kernel
theorem dX9_anew_34 : decode cX9_anew 34 = .ok (.iconst 0, 1) := by decide +kernel
theorem dX9_anew_35 : decode cX9_anew 35 = .ok (.iastore, 1) := by decide +kernel
theorem dX9_anew_36 : decode cX9_anew 36 = .ok (.aload_n 0, 1) := by decide +kernel
theorem dX9_anew_37 : decode cX9_anew 37 = .ok (.getfield 44, 3) := by decide +kernel
theorem dX9_anew_40 : decode cX9_anew 40 = .ok (.iload_n 1, 1) := by decide +kernel
theorem dX9_anew_41 : decode cX9_anew 41 = .ok (.iconst 0, 1) := by decide +kernel
theorem dX9_anew_42 : decode cX9_anew 42 = .ok (.bastore, 1) := by decide +kernel
theorem dX9_anew_43 : decode cX9_anew 43 = .ok (.aload_n 0, 1) := by decide +kernel
theorem dX9_anew_44 : decode cX9_anew 44 = .ok (.getfield 48, 3) := by decide +kernel
theorem dX9_anew_47 : decode cX9_anew 47 = .ok (.iload_n 1, 1) := by decide +kernel
theorem dX9_anew_48 : decode cX9_anew 48 = .ok (.iconst 0, 1) := by decide +kernel
theorem dX9_anew_49 : decode cX9_anew 49 = .ok (.iastore, 1) := by decide +kernel
theorem dX9_anew_50 : decode cX9_anew 50 = .ok (.aload_n 0, 1) := by decide +kernel
theorem dX9_anew_51 : decode cX9_anew 51 = .ok (.getfield 51, 3) := by decide +kernel
theorem dX9_anew_54 : decode cX9_anew 54 = .ok (.iload_n 1, 1) := by decide +kernel
theorem dX9_anew_55 : decode cX9_anew 55 = .ok (.iconst 0, 1) := by decide +kernel
theorem dX9_anew_56 : decode cX9_anew 56 = .ok (.iastore, 1) := by decide +kernel
theorem dX9_anew_57 : decode cX9_anew 57 = .ok (.iinc 1 1, 3) := by decide +kernel
theorem dX9_anew_60 : decode cX9_anew 60 = .ok (.goto (-58), 3) := by decide +kernel
theorem dX9_anew_63 : decode cX9_anew 63 = .ok (.aload_n 0, 1) := by decide +kernel
theorem dX9_anew_64 : decode cX9_anew 64 = .ok (.aload_n 0, 1) := by decide +kernel
theorem dX9_anew_65 : decode cX9_anew 65 = .ok (.getfield 20, 3) := by decide +kernel
theorem dX9_anew_68 : decode cX9_anew 68 = .ok (.i2l, 1) := by decide +kernel
theorem dX9_anew_69 : decode cX9_anew 69 = .ok (.putfield 130, 3) := by decide +kernel
theorem dX9_anew_72 : decode cX9_anew 72 = .ok (.aload_n 0, 1) := by decide +kernel
theorem dX9_anew_73 : decode cX9_anew 73 = .ok (.iconst 0, 1) := by decide +kernel
theorem dX9_anew_74 : decode cX9_anew 74 = .ok (.putfield 134, 3) := by decide +kernel
theorem dX9_anew_77 : decode cX9_anew 77 = .ok (.aload_n 0, 1) := by decide +kernel
theorem dX9_anew_78 : decode cX9_anew 78 = .ok (.lconst 0, 1) := by decide +kernel
theorem dX9_anew_79 : decode cX9_anew 79 = .ok (.putfield 137, 3) := by decide +kernel
theorem dX9_anew_82 : decode cX9_anew 82 = .ok (.aload_n 0, 1) := by decide +kernel
theorem dX9_anew_83 : decode cX9_anew 83 = .ok (.lconst 0, 1) := by decide +kernel
theorem dX9_anew_84 : decode cX9_anew 84 = .ok (.putfield 140, 3) := by decide +kernel
theorem dX9_anew_87 : decode cX9_anew 87 = .ok (.aload_n 0, 1) := by decide +kernel
theorem dX9_anew_88 : decode cX9_anew 88 = .ok (.iconst 0, 1) := by decide +kernel
theorem dX9_anew_89 : decode cX9_anew 89 = .ok (.putfield 143, 3) := by decide +kernel
theorem dX9_anew_92 : decode cX9_anew 92 = .ok (.aload_n 0, 1) := by decide +kernel
theorem dX9_anew_93 : decode cX9_anew 93 = .ok (.iconst 0, 1) := by decide +kernel
theorem dX9_anew_94 : decode cX9_anew 94 = .ok (.putfield 146, 3) := by decide +kernel
theorem dX9_anew_97 : decode cX9_anew 97 = .ok (.aload_n 0, 1) := by decide +kernel
theorem dX9_anew_98 : decode cX9_anew 98 = .ok (.iconst (-1), 1) := by decide +kernel
theorem dX9_anew_99 : decode cX9_anew 99 = .ok (.putfield 54, 3) := by decide +kernel
theorem dX9_anew_102 : decode cX9_anew 102 = .ok (.aload_n 0, 1) := by decide +kernel
theorem dX9_anew_103 : decode cX9_anew 103 = .ok (.iconst 0, 1) := by decide +kernel
theorem dX9_anew_104 : decode cX9_anew 104 = .ok (.putfield 149, 3) := by decide +kernel
theorem dX9_anew_107 : decode cX9_anew 107 = .ok (.aload_n 0, 1) := by decide +kernel
theorem dX9_anew_108 : decode cX9_anew 108 = .ok (.lconst 0, 1) := by decide +kernel
theorem dX9_anew_109 : decode cX9_anew 109 = .ok (.putfield 152, 3) := by decide +kernel
theorem dX9_anew_112 : decode cX9_anew 112 = .ok (.aload_n 0, 1) := by decide +kernel
theorem dX9_anew_113 : decode cX9_anew 113 = .ok (.lconst 0, 1) := by decide +kernel
theorem dX9_anew_114 : decode cX9_anew 114 = .ok (.putfield 155, 3) := by decide +kernel
theorem dX9_anew_117 : decode cX9_anew 117 = .ok (.aload_n 0, 1) := by decide +kernel
theorem dX9_anew_118 : decode cX9_anew 118 = .ok (.iconst 0, 1) := by decide +kernel
theorem dX9_anew_119 : decode cX9_anew 119 = .ok (.putfield 158, 3) := by decide +kernel
theorem dX9_anew_122 : decode cX9_anew 122 = .ok (.aload_n 0, 1) := by decide +kernel
theorem dX9_anew_123 : decode cX9_anew 123 = .ok (.iconst 0, 1) := by decide +kernel
theorem dX9_anew_124 : decode cX9_anew 124 = .ok (.putfield 161, 3) := by decide +kernel
theorem dX9_anew_127 : decode cX9_anew 127 = .ok (.return_, 1) := by decide +kernel
theorem dX9_feed_0 : decode cX9_feed 0 = .ok (.iload_n 1, 1) := by decide +kernel
theorem dX9_feed_1 : decode cX9_feed 1 = .ok (.i2l, 1) := by decide +kernel
theorem dX9_feed_2 : decode cX9_feed 2 = .ok (.lconst 1, 1) := by decide +kernel
theorem dX9_feed_3 : decode cX9_feed 3 = .ok (.ldc2_w 164, 3) := by decide +kernel
theorem dX9_feed_6 : decode cX9_feed 6 = .ok (.invokestatic 124, 3) := by decide +kernel
theorem dX9_feed_9 : decode cX9_feed 9 = .ok (.ifCond .ne 6, 3) := by decide +kernel
theorem dX9_feed_12 : decode cX9_feed 12 = .ok (.ldc 166, 2) := by decide +kernel
theorem dX9_feed_14 : decode cX9_feed 14 = .ok (.ireturn, 1) := by decide +kernel
theorem dX9_feed_15 : decode cX9_feed 15 = .ok (.aload_n 0, 1) := by decide +kernel
theorem dX9_feed_16 : decode cX9_feed 16 = .ok (.getfield 167, 3) := by decide +kernel
theorem dX9_feed_19 : decode cX9_feed 19 = .ok (.iload_n 1, 1) := by decide +kernel
theorem dX9_feed_20 : decode cX9_feed 20 = .ok (.iadd, 1) := by decide +kernel
theorem dX9_feed_21 : decode cX9_feed 21 = .ok (.sipush 500, 3) := by decide +kernel
theorem dX9_feed_24 : decode cX9_feed 24 = .ok (.if_icmp .le 6, 3) := by decide +kernel
theorem dX9_feed_27 : decode cX9_feed 27 = .ok (.ldc 170, 2) := by decide +kernel
theorem dX9_feed_29 : decode cX9_feed 29 = .ok (.ireturn, 1) := by decide +kernel
theorem dX9_feed_30 : decode cX9_feed 30 = .ok (.iload_n 1, 1) := by decide +kernel
theorem dX9_feed_31 : decode cX9_feed 31 = .ok (.iconst 1, 1) := by decide +kernel
theorem dX9_feed_32 : decode cX9_feed 32 = .ok (.isub, 1) := by decide +kernel
theorem dX9_feed_33 : decode cX9_feed 33 = .ok (.istore 4, 2) := by decide +kernel
theorem dX9_feed_35 : decode cX9_feed 35 = .ok (.iload 4, 2) := by decide +kernel
theorem dX9_feed_37 : decode cX9_feed 37 = .ok (.ifCond .lt 40, 3) := by decide +kernel
theorem dX9_feed_40 : decode cX9_feed 40 = .ok (.aload_n 0, 1) := by decide +kernel
theorem dX9_feed_41 : decode cX9_feed 41 = .ok (.getfield 60, 3) := by decide +kernel
theorem dX9_feed_44 : decode cX9_feed 44 = .ok (.aload_n 0, 1) := by decide +kernel
theorem dX9_feed_45 : decode cX9_feed 45 = .ok (.getfield 167, 3) := by decide +kernel
theorem dX9_feed_48 : decode cX9_feed 48 = .ok (.lload_n 2, 1) := by decide +kernel
theorem dX9_feed_49 : decode cX9_feed 49 = .ok (.bipush 8, 2) := by decide +kernel
theorem dX9_feed_51 : decode cX9_feed 51 = .ok (.iload 4, 2) := by decide +kernel
theorem dX9_feed_53 : decode cX9_feed 53 = .ok (.imul, 1) := by decide +kernel
theorem dX9_feed_54 : decode cX9_feed 54 = .ok (.lshr, 1) := by decide +kernel
theorem dX9_feed_55 : decode cX9_feed 55 = .ok (.ldc2_w 171, 3) := by decide +kernel
theorem dX9_feed_58 : decode cX9_feed 58 = .ok (.land, 1) := by decide +kernel
theorem dX9_feed_59 : decode cX9_feed 59 = .ok (.l2i, 1) := by decide +kernel
theorem dX9_feed_60 : decode cX9_feed 60 = .ok (.iastore, 1) := by decide +kernel
theorem dX9_feed_61 : decode cX9_feed 61 = .ok (.aload_n 0, 1) := by decide +kernel
theorem dX9_feed_62 : decode cX9_feed 62 = .ok (.dup, 1) := by decide +kernel
theorem dX9_feed_63 : decode cX9_feed 63 = .ok (.getfield 167, 3) := by decide +kernel
theorem dX9_feed_66 : decode cX9_feed 66 = .ok (.iconst 1, 1) := by decide +kernel
theorem dX9_feed_67 : decode cX9_feed 67 = .ok (.iadd, 1) := by decide +kernel
theorem dX9_feed_68 : decode cX9_feed 68 = .ok (.putfield 167, 3) := by decide +kernel
theorem dX9_feed_71 : decode cX9_feed 71 = .ok (.iinc 4 (-1), 3) := by decide +kernel
theorem dX9_feed_74 : decode cX9_feed 74 = .ok (.goto (-39), 3) := by decide +kernel
theorem dX9_feed_77 : decode cX9_feed 77 = .ok (.aload_n 0, 1) := by decide +kernel
theorem dX9_feed_78 : decode cX9_feed 78 = .ok (.getfield 167, 3) := by decide +kernel
theorem dX9_feed_81 : decode cX9_feed 81 = .ok (.ireturn, 1) := by decide +kernel
theorem dX9_here_0 : decode cX9_here 0 = .ok (.aload_n 0, 1) := by decide +kernel
theorem dX9_here_1 : decode cX9_here 1 = .ok (.getfield 173, 3) := by decide +kernel
theorem dX9_here_4 : decode cX9_here 4 = .ok (.aload_n 0, 1) := by decide +kernel
theorem dX9_here_5 : decode cX9_here 5 = .ok (.getfield 167, 3) := by decide +kernel
theorem dX9_here_8 : decode cX9_here 8 = .ok (.if_icmp .ge 30, 3) := by decide +kernel
theorem dX9_here_11 : decode cX9_here 11 = .ok (.aload_n 0, 1) := by decide +kernel
theorem dX9_here_12 : decode cX9_here 12 = .ok (.getfield 60, 3) := by decide +kernel
theorem dX9_here_15 : decode cX9_here 15 = .ok (.aload_n 0, 1) := by decide +kernel
theorem dX9_here_16 : decode cX9_here 16 = .ok (.getfield 173, 3) := by decide +kernel
theorem dX9_here_19 : decode cX9_here 19 = .ok (.iaload, 1) := by decide +kernel
theorem dX9_here_20 : decode cX9_here 20 = .ok (.bipush 32, 2) := by decide +kernel
theorem dX9_here_22 : decode cX9_here 22 = .ok (.if_icmp .ne 16, 3) := by decide +kernel
theorem dX9_here_25 : decode cX9_here 25 = .ok (.aload_n 0, 1) := by decide +kernel
theorem dX9_here_26 : decode cX9_here 26 = .ok (.dup, 1) := by decide +kernel
theorem dX9_here_27 : decode cX9_here 27 = .ok (.getfield 173, 3) := by decide +kernel
theorem dX9_here_30 : decode cX9_here 30 = .ok (.iconst 1, 1) := by decide +kernel
theorem dX9_here_31 : decode cX9_here 31 = .ok (.iadd, 1) := by decide +kernel
theorem dX9_here_32 : decode cX9_here 32 = .ok (.putfield 173, 3) := by decide +kernel
theorem dX9_here_35 : decode cX9_here 35 = .ok (.goto (-35), 3) := by decide +kernel
theorem dX9_here_38 : decode cX9_here 38 = .ok (.aload_n 0, 1) := by decide +kernel
theorem dX9_here_39 : decode cX9_here 39 = .ok (.getfield 173, 3) := by decide +kernel
theorem dX9_here_42 : decode cX9_here 42 = .ok (.aload_n 0, 1) := by decide +kernel
theorem dX9_here_43 : decode cX9_here 43 = .ok (.getfield 167, 3) := by decide +kernel
theorem dX9_here_46 : decode cX9_here 46 = .ok (.if_icmp .ge 15, 3) := by decide +kernel
theorem dX9_here_49 : decode cX9_here 49 = .ok (.aload_n 0, 1) := by decide +kernel
theorem dX9_here_50 : decode cX9_here 50 = .ok (.getfield 60, 3) := by decide +kernel
theorem dX9_here_53 : decode cX9_here 53 = .ok (.aload_n 0, 1) := by decide +kernel
theorem dX9_here_54 : decode cX9_here 54 = .ok (.getfield 173, 3) := by decide +kernel
theorem dX9_here_57 : decode cX9_here 57 = .ok (.iaload, 1) := by decide +kernel
theorem dX9_here_58 : decode cX9_here 58 = .ok (.goto 4, 3) := by decide +kernel
theorem dX9_here_61 : decode cX9_here 61 = .ok (.iconst (-1), 1) := by decide +kernel
theorem dX9_here_62 : decode cX9_here 62 = .ok (.ireturn, 1) := by decide +kernel
theorem dX9_fails_0 : decode cX9_fails 0 = .ok (.aload_n 0, 1) := by decide +kernel
theorem dX9_fails_1 : decode cX9_fails 1 = .ok (.iload_n 2, 1) := by decide +kernel
theorem dX9_fails_2 : decode cX9_fails 2 = .ok (.putfield 63, 3) := by decide +kernel
theorem dX9_fails_5 : decode cX9_fails 5 = .ok (.iload_n 1, 1) := by decide +kernel
theorem dX9_fails_6 : decode cX9_fails 6 = .ok (.ireturn, 1) := by decide +kernel
theorem dX9_readWord_0 : decode cX9_readWord 0 = .ok (.aload_n 0, 1) := by decide +kernel
theorem dX9_readWord_1 : decode cX9_readWord 1 = .ok (.invokevirtual 176, 3) := by decide +kernel
theorem dX9_readWord_4 : decode cX9_readWord 4 = .ok (.istore_n 1, 1) := by decide +kernel
theorem dX9_readWord_5 : decode cX9_readWord 5 = .ok (.aload_n 0, 1) := by decide +kernel
theorem dX9_readWord_6 : decode cX9_readWord 6 = .ok (.lconst 0, 1) := by decide +kernel
theorem dX9_readWord_7 : decode cX9_readWord 7 = .ok (.putfield 180, 3) := by decide +kernel
theorem dX9_readWord_10 : decode cX9_readWord 10 = .ok (.aload_n 0, 1) := by decide +kernel
theorem dX9_readWord_11 : decode cX9_readWord 11 = .ok (.aload_n 0, 1) := by decide +kernel
theorem dX9_readWord_12 : decode cX9_readWord 12 = .ok (.getfield 173, 3) := by decide +kernel
theorem dX9_readWord_15 : decode cX9_readWord 15 = .ok (.putfield 183, 3) := by decide +kernel
theorem dX9_readWord_18 : decode cX9_readWord 18 = .ok (.aload_n 0, 1) := by decide +kernel
theorem dX9_readWord_19 : decode cX9_readWord 19 = .ok (.getfield 183, 3) := by decide +kernel
theorem dX9_readWord_22 : decode cX9_readWord 22 = .ok (.aload_n 0, 1) := by decide +kernel
theorem dX9_readWord_23 : decode cX9_readWord 23 = .ok (.getfield 167, 3) := by decide +kernel
theorem dX9_readWord_26 : decode cX9_readWord 26 = .ok (.if_icmp .ge 82, 3) := by decide +kernel
theorem dX9_readWord_29 : decode cX9_readWord 29 = .ok (.aload_n 0, 1) := by decide +kernel
theorem dX9_readWord_30 : decode cX9_readWord 30 = .ok (.getfield 60, 3) := by decide +kernel
theorem dX9_readWord_33 : decode cX9_readWord 33 = .ok (.aload_n 0, 1) := by decide +kernel
theorem dX9_readWord_34 : decode cX9_readWord 34 = .ok (.getfield 183, 3) := by decide +kernel
theorem dX9_readWord_37 : decode cX9_readWord 37 = .ok (.iaload, 1) := by decide +kernel
theorem dX9_readWord_38 : decode cX9_readWord 38 = .ok (.i2l, 1) := by decide +kernel
theorem dX9_readWord_39 : decode cX9_readWord 39 = .ok (.ldc2_w 186, 3) := by decide +kernel
theorem dX9_readWord_42 : decode cX9_readWord 42 = .ok (.ldc2_w 188, 3) := by decide +kernel
theorem dX9_readWord_45 : decode cX9_readWord 45 = .ok (.invokestatic 124, 3) := by decide +kernel
theorem dX9_readWord_48 : decode cX9_readWord 48 = .ok (.ifCond .eq 60, 3) := by decide +kernel
theorem dX9_readWord_51 : decode cX9_readWord 51 = .ok (.aload_n 0, 1) := by decide +kernel
theorem dX9_readWord_52 : decode cX9_readWord 52 = .ok (.aload_n 0, 1) := by decide +kernel
theorem dX9_readWord_53 : decode cX9_readWord 53 = .ok (.getfield 180, 3) := by decide +kernel
theorem dX9_readWord_56 : decode cX9_readWord 56 = .ok (.ldc2_w 190, 3) := by decide +kernel
theorem dX9_readWord_59 : decode cX9_readWord 59 = .ok (.lcmp, 1) := by decide +kernel
theorem dX9_readWord_60 : decode cX9_readWord 60 = .ok (.ifCond .le 9, 3) := by decide +kernel
theorem dX9_readWord_63 : decode cX9_readWord 63 = .ok (.ldc2_w 192, 3) := by decide +kernel
theorem dX9_readWord_66 : decode cX9_readWord 66 = .ok (.goto 26, 3) := by decide +kernel
theorem dX9_readWord_69 : decode cX9_readWord 69 = .ok (.ldc2_w 194, 3) := by decide +kernel
theorem dX9_readWord_72 : decode cX9_readWord 72 = .ok (.aload_n 0, 1) := by decide +kernel
theorem dX9_readWord_73 : decode cX9_readWord 73 = .ok (.getfield 180, 3) := by decide +kernel
theorem dX9_readWord_76 : decode cX9_readWord 76 = .ok (.lmul, 1) := by decide +kernel
theorem dX9_readWord_77 : decode cX9_readWord 77 = .ok (.aload_n 0, 1) := by decide +kernel
theorem dX9_readWord_78 : decode cX9_readWord 78 = .ok (.getfield 60, 3) := by decide +kernel
theorem dX9_readWord_81 : decode cX9_readWord 81 = .ok (.aload_n 0, 1) := by decide +kernel
theorem dX9_readWord_82 : decode cX9_readWord 82 = .ok (.getfield 183, 3) := by decide +kernel
theorem dX9_readWord_85 : decode cX9_readWord 85 = .ok (.iaload, 1) := by decide +kernel
theorem dX9_readWord_86 : decode cX9_readWord 86 = .ok (.i2l, 1) := by decide +kernel
theorem dX9_readWord_87 : decode cX9_readWord 87 = .ok (.ladd, 1) := by decide +kernel
theorem dX9_readWord_88 : decode cX9_readWord 88 = .ok (.ldc2_w 196, 3) := by decide +kernel
theorem dX9_readWord_91 : decode cX9_readWord 91 = .ok (.lsub, 1) := by decide +kernel
theorem dX9_readWord_92 : decode cX9_readWord 92 = .ok (.putfield 180, 3) := by decide +kernel
theorem dX9_readWord_95 : decode cX9_readWord 95 = .ok (.aload_n 0, 1) := by decide +kernel
theorem dX9_readWord_96 : decode cX9_readWord 96 = .ok (.dup, 1) := by decide +kernel
theorem dX9_readWord_97 : decode cX9_readWord 97 = .ok (.getfield 183, 3) := by decide +kernel
theorem dX9_readWord_100 : decode cX9_readWord 100 = .ok (.iconst 1, 1) := by decide +kernel
theorem dX9_readWord_101 : decode cX9_readWord 101 = .ok (.iadd, 1) := by decide +kernel
theorem dX9_readWord_102 : decode cX9_readWord 102 = .ok (.putfield 183, 3) := by decide +kernel
theorem dX9_readWord_105 : decode cX9_readWord 105 = .ok (.goto (-87), 3) := by decide +kernel
theorem dX9_readWord_108 : decode cX9_readWord 108 = .ok (.return_, 1) := by decide +kernel
theorem dX9_code_0 : decode cX9_code 0 = .ok (.ldc2_w 194, 3) := by decide +kernel
theorem dX9_code_3 : decode cX9_code 3 = .ok (.ldc2_w 194, 3) := by decide +kernel
theorem dX9_code_6 : decode cX9_code 6 = .ok (.iload_n 0, 1) := by decide +kernel
theorem dX9_code_7 : decode cX9_code 7 = .ok (.i2l, 1) := by decide +kernel
theorem dX9_code_8 : decode cX9_code 8 = .ok (.ldc2_w 196, 3) := by decide +kernel
theorem dX9_code_11 : decode cX9_code 11 = .ok (.lsub, 1) := by decide +kernel
theorem dX9_code_12 : decode cX9_code 12 = .ok (.lmul, 1) := by decide +kernel
theorem dX9_code_13 : decode cX9_code 13 = .ok (.iload_n 1, 1) := by decide +kernel
theorem dX9_code_14 : decode cX9_code 14 = .ok (.i2l, 1) := by decide +kernel
theorem dX9_code_15 : decode cX9_code 15 = .ok (.ladd, 1) := by decide +kernel
theorem dX9_code_16 : decode cX9_code 16 = .ok (.ldc2_w 196, 3) := by decide +kernel
theorem dX9_code_19 : decode cX9_code 19 = .ok (.lsub, 1) := by decide +kernel
theorem dX9_code_20 : decode cX9_code 20 = .ok (.lmul, 1) := by decide +kernel
theorem dX9_code_21 : decode cX9_code 21 = .ok (.iload_n 2, 1) := by decide +kernel
theorem dX9_code_22 : decode cX9_code 22 = .ok (.i2l, 1) := by decide +kernel
theorem dX9_code_23 : decode cX9_code 23 = .ok (.ladd, 1) := by decide +kernel
theorem dX9_code_24 : decode cX9_code 24 = .ok (.ldc2_w 196, 3) := by decide +kernel
theorem dX9_code_27 : decode cX9_code 27 = .ok (.lsub, 1) := by decide +kernel
theorem dX9_code_28 : decode cX9_code 28 = .ok (.lreturn, 1) := by decide +kernel
theorem dX9_longer_0 : decode cX9_longer 0 = .ok (.iload_n 3, 1) := by decide +kernel
theorem dX9_longer_1 : decode cX9_longer 1 = .ok (.ifCond .ne 18, 3) := by decide +kernel
theorem dX9_longer_4 : decode cX9_longer 4 = .ok (.ldc2_w 194, 3) := by decide +kernel
theorem dX9_longer_7 : decode cX9_longer 7 = .ok (.lload_n 0, 1) := by decide +kernel
theorem dX9_longer_8 : decode cX9_longer 8 = .ok (.lmul, 1) := by decide +kernel
theorem dX9_longer_9 : decode cX9_longer 9 = .ok (.iload_n 2, 1) := by decide +kernel
theorem dX9_longer_10 : decode cX9_longer 10 = .ok (.i2l, 1) := by decide +kernel
theorem dX9_longer_11 : decode cX9_longer 11 = .ok (.ladd, 1) := by decide +kernel
theorem dX9_longer_12 : decode cX9_longer 12 = .ok (.ldc2_w 196, 3) := by decide +kernel
theorem dX9_longer_15 : decode cX9_longer 15 = .ok (.lsub, 1) := by decide +kernel
theorem dX9_longer_16 : decode cX9_longer 16 = .ok (.goto 26, 3) := by decide +kernel
theorem dX9_longer_19 : decode cX9_longer 19 = .ok (.ldc2_w 194, 3) := by decide +kernel
theorem dX9_longer_22 : decode cX9_longer 22 = .ok (.ldc2_w 194, 3) := by decide +kernel
theorem dX9_longer_25 : decode cX9_longer 25 = .ok (.lload_n 0, 1) := by decide +kernel
theorem dX9_longer_26 : decode cX9_longer 26 = .ok (.lmul, 1) := by decide +kernel
theorem dX9_longer_27 : decode cX9_longer 27 = .ok (.iload_n 2, 1) := by decide +kernel
theorem dX9_longer_28 : decode cX9_longer 28 = .ok (.i2l, 1) := by decide +kernel
theorem dX9_longer_29 : decode cX9_longer 29 = .ok (.ladd, 1) := by decide +kernel
theorem dX9_longer_30 : decode cX9_longer 30 = .ok (.ldc2_w 196, 3) := by decide +kernel
theorem dX9_longer_33 : decode cX9_longer 33 = .ok (.lsub, 1) := by decide +kernel
theorem dX9_longer_34 : decode cX9_longer 34 = .ok (.lmul, 1) := by decide +kernel
theorem dX9_longer_35 : decode cX9_longer 35 = .ok (.iload_n 3, 1) := by decide +kernel
theorem dX9_longer_36 : decode cX9_longer 36 = .ok (.i2l, 1) := by decide +kernel
theorem dX9_longer_37 : decode cX9_longer 37 = .ok (.ladd, 1) := by decide +kernel
theorem dX9_longer_38 : decode cX9_longer 38 = .ok (.ldc2_w 196, 3) := by decide +kernel
theorem dX9_longer_41 : decode cX9_longer 41 = .ok (.lsub, 1) := by decide +kernel
theorem dX9_longer_42 : decode cX9_longer 42 = .ok (.lreturn, 1) := by decide +kernel
theorem dX9_takeNumber_0 : decode cX9_takeNumber 0 = .ok (.aload_n 0, 1) := by decide +kernel
theorem dX9_takeNumber_1 : decode cX9_takeNumber 1 = .ok (.invokevirtual 176, 3) := by decide +kernel
theorem dX9_takeNumber_4 : decode cX9_takeNumber 4 = .ok (.istore_n 3, 1) := by decide +kernel
theorem dX9_takeNumber_5 : decode cX9_takeNumber 5 = .ok (.iload_n 3, 1) := by decide +kernel
theorem dX9_takeNumber_6 : decode cX9_takeNumber 6 = .ok (.i2l, 1) := by decide +kernel
theorem dX9_takeNumber_7 : decode cX9_takeNumber 7 = .ok (.ldc2_w 198, 3) := by decide +kernel
theorem dX9_takeNumber_10 : decode cX9_takeNumber 10 = .ok (.ldc2_w 200, 3) := by decide +kernel
theorem dX9_takeNumber_13 : decode cX9_takeNumber 13 = .ok (.invokestatic 124, 3) := by decide +kernel
theorem dX9_takeNumber_16 : decode cX9_takeNumber 16 = .ok (.ifCond .ne 13, 3) := by decide +kernel
theorem dX9_takeNumber_19 : decode cX9_takeNumber 19 = .ok (.aload_n 0, 1) := by decide +kernel
theorem dX9_takeNumber_20 : decode cX9_takeNumber 20 = .ok (.iconst 1, 1) := by decide +kernel
theorem dX9_takeNumber_21 : decode cX9_takeNumber 21 = .ok (.aload_n 0, 1) := by decide +kernel
theorem dX9_takeNumber_22 : decode cX9_takeNumber 22 = .ok (.getfield 173, 3) := by decide +kernel
theorem dX9_takeNumber_25 : decode cX9_takeNumber 25 = .ok (.invokevirtual 202, 3) := by decide +kernel
theorem dX9_takeNumber_28 : decode cX9_takeNumber 28 = .ok (.ireturn, 1) := by decide +kernel
theorem dX9_takeNumber_29 : decode cX9_takeNumber 29 = .ok (.aload_n 0, 1) := by decide +kernel
theorem dX9_takeNumber_30 : decode cX9_takeNumber 30 = .ok (.aload_n 0, 1) := by decide +kernel
theorem dX9_takeNumber_31 : decode cX9_takeNumber 31 = .ok (.getfield 173, 3) := by decide +kernel
theorem dX9_takeNumber_34 : decode cX9_takeNumber 34 = .ok (.putfield 206, 3) := by decide +kernel
theorem dX9_takeNumber_37 : decode cX9_takeNumber 37 = .ok (.aload_n 0, 1) := by decide +kernel
theorem dX9_takeNumber_38 : decode cX9_takeNumber 38 = .ok (.iconst 0, 1) := by decide +kernel
theorem dX9_takeNumber_39 : decode cX9_takeNumber 39 = .ok (.putfield 209, 3) := by decide +kernel
theorem dX9_takeNumber_42 : decode cX9_takeNumber 42 = .ok (.aload_n 0, 1) := by decide +kernel
theorem dX9_takeNumber_43 : decode cX9_takeNumber 43 = .ok (.getfield 173, 3) := by decide +kernel
theorem dX9_takeNumber_46 : decode cX9_takeNumber 46 = .ok (.aload_n 0, 1) := by decide +kernel
theorem dX9_takeNumber_47 : decode cX9_takeNumber 47 = .ok (.getfield 167, 3) := by decide +kernel
theorem dX9_takeNumber_50 : decode cX9_takeNumber 50 = .ok (.if_icmp .ge 78, 3) := by decide +kernel
theorem dX9_takeNumber_53 : decode cX9_takeNumber 53 = .ok (.aload_n 0, 1) := by decide +kernel
theorem dX9_takeNumber_54 : decode cX9_takeNumber 54 = .ok (.getfield 60, 3) := by decide +kernel
theorem dX9_takeNumber_57 : decode cX9_takeNumber 57 = .ok (.aload_n 0, 1) := by decide +kernel
theorem dX9_takeNumber_58 : decode cX9_takeNumber 58 = .ok (.getfield 173, 3) := by decide +kernel
theorem dX9_takeNumber_61 : decode cX9_takeNumber 61 = .ok (.iaload, 1) := by decide +kernel
theorem dX9_takeNumber_62 : decode cX9_takeNumber 62 = .ok (.i2l, 1) := by decide +kernel
theorem dX9_takeNumber_63 : decode cX9_takeNumber 63 = .ok (.ldc2_w 198, 3) := by decide +kernel
theorem dX9_takeNumber_66 : decode cX9_takeNumber 66 = .ok (.ldc2_w 200, 3) := by decide +kernel
theorem dX9_takeNumber_69 : decode cX9_takeNumber 69 = .ok (.invokestatic 124, 3) := by decide +kernel
theorem dX9_takeNumber_72 : decode cX9_takeNumber 72 = .ok (.ifCond .eq 56, 3) := by decide +kernel
theorem dX9_takeNumber_75 : decode cX9_takeNumber 75 = .ok (.aload_n 0, 1) := by decide +kernel
theorem dX9_takeNumber_76 : decode cX9_takeNumber 76 = .ok (.aload_n 0, 1) := by decide +kernel
theorem dX9_takeNumber_77 : decode cX9_takeNumber 77 = .ok (.getfield 209, 3) := by decide +kernel
theorem dX9_takeNumber_80 : decode cX9_takeNumber 80 = .ok (.ldc 212, 2) := by decide +kernel
theorem dX9_takeNumber_82 : decode cX9_takeNumber 82 = .ok (.if_icmp .le 10, 3) := by decide +kernel
theorem dX9_takeNumber_85 : decode cX9_takeNumber 85 = .ok (.aload_n 0, 1) := by decide +kernel
theorem dX9_takeNumber_86 : decode cX9_takeNumber 86 = .ok (.getfield 209, 3) := by decide +kernel
theorem dX9_takeNumber_89 : decode cX9_takeNumber 89 = .ok (.goto 23, 3) := by decide +kernel
theorem dX9_takeNumber_92 : decode cX9_takeNumber 92 = .ok (.bipush 10, 2) := by decide +kernel
theorem dX9_takeNumber_94 : decode cX9_takeNumber 94 = .ok (.aload_n 0, 1) := by decide +kernel
theorem dX9_takeNumber_95 : decode cX9_takeNumber 95 = .ok (.getfield 209, 3) := by decide +kernel
theorem dX9_takeNumber_98 : decode cX9_takeNumber 98 = .ok (.imul, 1) := by decide +kernel
theorem dX9_takeNumber_99 : decode cX9_takeNumber 99 = .ok (.aload_n 0, 1) := by decide +kernel
theorem dX9_takeNumber_100 : decode cX9_takeNumber 100 = .ok (.getfield 60, 3) := by decide +kernel
theorem dX9_takeNumber_103 : decode cX9_takeNumber 103 = .ok (.aload_n 0, 1) := by decide +kernel
theorem dX9_takeNumber_104 : decode cX9_takeNumber 104 = .ok (.getfield 173, 3) := by decide +kernel
theorem dX9_takeNumber_107 : decode cX9_takeNumber 107 = .ok (.iaload, 1) := by decide +kernel
theorem dX9_takeNumber_108 : decode cX9_takeNumber 108 = .ok (.iadd, 1) := by decide +kernel
theorem dX9_takeNumber_109 : decode cX9_takeNumber 109 = .ok (.bipush 48, 2) := by decide +kernel
theorem dX9_takeNumber_111 : decode cX9_takeNumber 111 = .ok (.isub, 1) := by decide +kernel
theorem dX9_takeNumber_112 : decode cX9_takeNumber 112 = .ok (.putfield 209, 3) := by decide +kernel
theorem dX9_takeNumber_115 : decode cX9_takeNumber 115 = .ok (.aload_n 0, 1) := by decide +kernel
theorem dX9_takeNumber_116 : decode cX9_takeNumber 116 = .ok (.dup, 1) := by decide +kernel
theorem dX9_takeNumber_117 : decode cX9_takeNumber 117 = .ok (.getfield 173, 3) := by decide +kernel
theorem dX9_takeNumber_120 : decode cX9_takeNumber 120 = .ok (.iconst 1, 1) := by decide +kernel
theorem dX9_takeNumber_121 : decode cX9_takeNumber 121 = .ok (.iadd, 1) := by decide +kernel
theorem dX9_takeNumber_122 : decode cX9_takeNumber 122 = .ok (.putfield 173, 3) := by decide +kernel
theorem dX9_takeNumber_125 : decode cX9_takeNumber 125 = .ok (.goto (-83), 3) := by decide +kernel
theorem dX9_takeNumber_128 : decode cX9_takeNumber 128 = .ok (.aload_n 0, 1) := by decide +kernel
theorem dX9_takeNumber_129 : decode cX9_takeNumber 129 = .ok (.getfield 173, 3) := by decide +kernel
theorem dX9_takeNumber_132 : decode cX9_takeNumber 132 = .ok (.aload_n 0, 1) := by decide +kernel
theorem dX9_takeNumber_133 : decode cX9_takeNumber 133 = .ok (.getfield 206, 3) := by decide +kernel
theorem dX9_takeNumber_136 : decode cX9_takeNumber 136 = .ok (.isub, 1) := by decide +kernel
theorem dX9_takeNumber_137 : decode cX9_takeNumber 137 = .ok (.iconst 4, 1) := by decide +kernel
theorem dX9_takeNumber_138 : decode cX9_takeNumber 138 = .ok (.if_icmp .gt 18, 3) := by decide +kernel
theorem dX9_takeNumber_141 : decode cX9_takeNumber 141 = .ok (.aload_n 0, 1) := by decide +kernel
theorem dX9_takeNumber_142 : decode cX9_takeNumber 142 = .ok (.getfield 209, 3) := by decide +kernel
theorem dX9_takeNumber_145 : decode cX9_takeNumber 145 = .ok (.i2l, 1) := by decide +kernel
theorem dX9_takeNumber_146 : decode cX9_takeNumber 146 = .ok (.iload_n 1, 1) := by decide +kernel
theorem dX9_takeNumber_147 : decode cX9_takeNumber 147 = .ok (.i2l, 1) := by decide +kernel
theorem dX9_takeNumber_148 : decode cX9_takeNumber 148 = .ok (.iload_n 2, 1) := by decide +kernel
theorem dX9_takeNumber_149 : decode cX9_takeNumber 149 = .ok (.i2l, 1) := by decide +kernel
theorem dX9_takeNumber_150 : decode cX9_takeNumber 150 = .ok (.invokestatic 124, 3) := by decide +kernel
theorem dX9_takeNumber_153 : decode cX9_takeNumber 153 = .ok (.ifCond .ne 15, 3) := by decide +kernel
theorem dX9_takeNumber_156 : decode cX9_takeNumber 156 = .ok (.aload_n 0, 1) := by decide +kernel
theorem dX9_takeNumber_157 : decode cX9_takeNumber 157 = .ok (.iconst 2, 1) := by decide +kernel
theorem dX9_takeNumber_158 : decode cX9_takeNumber 158 = .ok (.aload_n 0, 1) := by decide +kernel
theorem dX9_takeNumber_159 : decode cX9_takeNumber 159 = .ok (.getfield 206, 3) := by decide +kernel
theorem dX9_takeNumber_162 : decode cX9_takeNumber 162 = .ok (.invokevirtual 202, 3) := by decide +kernel
theorem dX9_takeNumber_165 : decode cX9_takeNumber 165 = .ok (.goto 4, 3) := by decide +kernel
theorem dX9_takeNumber_168 : decode cX9_takeNumber 168 = .ok (.iconst 0, 1) := by decide +kernel
theorem dX9_takeNumber_169 : decode cX9_takeNumber 169 = .ok (.ireturn, 1) := by decide +kernel
theorem dX9_into_0 : decode cX9_into 0 = .ok (.aload_n 0, 1) := by decide +kernel
theorem dX9_into_1 : decode cX9_into 1 = .ok (.iload_n 3, 1) := by decide +kernel
theorem dX9_into_2 : decode cX9_into 2 = .ok (.iload 4, 2) := by decide +kernel
theorem dX9_into_4 : decode cX9_into 4 = .ok (.invokevirtual 213, 3) := by decide +kernel
theorem dX9_into_7 : decode cX9_into 7 = .ok (.istore 5, 2) := by decide +kernel
theorem dX9_into_9 : decode cX9_into 9 = .ok (.aload_n 1, 1) := by decide +kernel
theorem dX9_into_10 : decode cX9_into 10 = .ok (.iload_n 2, 1) := by decide +kernel
theorem dX9_into_11 : decode cX9_into 11 = .ok (.aload_n 0, 1) := by decide +kernel
theorem dX9_into_12 : decode cX9_into 12 = .ok (.getfield 209, 3) := by decide +kernel
theorem dX9_into_15 : decode cX9_into 15 = .ok (.iastore, 1) := by decide +kernel
theorem dX9_into_16 : decode cX9_into 16 = .ok (.iload 5, 2) := by decide +kernel
theorem dX9_into_18 : decode cX9_into 18 = .ok (.ireturn, 1) := by decide +kernel
theorem dX9_takeLight_0 : decode cX9_takeLight 0 = .ok (.iconst 5, 1) := by decide +kernel
theorem dX9_takeLight_1 : decode cX9_takeLight 1 = .ok (.aload_n 0, 1) := by decide +kernel
theorem dX9_takeLight_2 : decode cX9_takeLight 2 = .ok (.getfield 216, 3) := by decide +kernel
theorem dX9_takeLight_5 : decode cX9_takeLight 5 = .ok (.imul, 1) := by decide +kernel
theorem dX9_takeLight_6 : decode cX9_takeLight 6 = .ok (.istore_n 1, 1) := by decide +kernel
theorem dX9_takeLight_7 : decode cX9_takeLight 7 = .ok (.aload_n 0, 1) := by decide +kernel
theorem dX9_takeLight_8 : decode cX9_takeLight 8 = .ok (.invokevirtual 219, 3) := by decide +kernel
theorem dX9_takeLight_11 : decode cX9_takeLight 11 = .ok (.aload_n 0, 1) := by decide +kernel
theorem dX9_takeLight_12 : decode cX9_takeLight 12 = .ok (.getfield 180, 3) := by decide +kernel
theorem dX9_takeLight_15 : decode cX9_takeLight 15 = .ok (.bipush 112, 2) := by decide +kernel
theorem dX9_takeLight_17 : decode cX9_takeLight 17 = .ok (.bipush 108, 2) := by decide +kernel
theorem dX9_takeLight_19 : decode cX9_takeLight 19 = .ok (.bipush 97, 2) := by decide +kernel
theorem dX9_takeLight_21 : decode cX9_takeLight 21 = .ok (.invokestatic 222, 3) := by decide +kernel
theorem dX9_takeLight_24 : decode cX9_takeLight 24 = .ok (.bipush 105, 2) := by decide +kernel
theorem dX9_takeLight_26 : decode cX9_takeLight 26 = .ok (.bipush 110, 2) := by decide +kernel
theorem dX9_takeLight_28 : decode cX9_takeLight 28 = .ok (.invokestatic 226, 3) := by decide +kernel
theorem dX9_takeLight_31 : decode cX9_takeLight 31 = .ok (.lcmp, 1) := by decide +kernel
theorem dX9_takeLight_32 : decode cX9_takeLight 32 = .ok (.ifCond .ne 7, 3) := by decide +kernel
theorem dX9_takeLight_35 : decode cX9_takeLight 35 = .ok (.iconst 0, 1) := by decide +kernel
theorem dX9_takeLight_36 : decode cX9_takeLight 36 = .ok (.goto 128, 3) := by decide +kernel
theorem dX9_takeLight_39 : decode cX9_takeLight 39 = .ok (.aload_n 0, 1) := by decide +kernel
theorem dX9_takeLight_40 : decode cX9_takeLight 40 = .ok (.getfield 180, 3) := by decide +kernel
theorem dX9_takeLight_43 : decode cX9_takeLight 43 = .ok (.bipush 100, 2) := by decide +kernel
theorem dX9_takeLight_45 : decode cX9_takeLight 45 = .ok (.bipush 111, 2) := by decide +kernel
theorem dX9_takeLight_47 : decode cX9_takeLight 47 = .ok (.bipush 117, 2) := by decide +kernel
theorem dX9_takeLight_49 : decode cX9_takeLight 49 = .ok (.invokestatic 222, 3) := by decide +kernel
theorem dX9_takeLight_52 : decode cX9_takeLight 52 = .ok (.bipush 98, 2) := by decide +kernel
theorem dX9_takeLight_54 : decode cX9_takeLight 54 = .ok (.bipush 108, 2) := by decide +kernel
theorem dX9_takeLight_56 : decode cX9_takeLight 56 = .ok (.invokestatic 226, 3) := by decide +kernel
theorem dX9_takeLight_59 : decode cX9_takeLight 59 = .ok (.bipush 101, 2) := by decide +kernel
theorem dX9_takeLight_61 : decode cX9_takeLight 61 = .ok (.iconst 0, 1) := by decide +kernel
theorem dX9_takeLight_62 : decode cX9_takeLight 62 = .ok (.invokestatic 226, 3) := by decide +kernel
theorem dX9_takeLight_65 : decode cX9_takeLight 65 = .ok (.lcmp, 1) := by decide +kernel
theorem dX9_takeLight_66 : decode cX9_takeLight 66 = .ok (.ifCond .ne 7, 3) := by decide +kernel
theorem dX9_takeLight_69 : decode cX9_takeLight 69 = .ok (.iconst 1, 1) := by decide +kernel
theorem dX9_takeLight_70 : decode cX9_takeLight 70 = .ok (.goto 94, 3) := by decide +kernel
theorem dX9_takeLight_73 : decode cX9_takeLight 73 = .ok (.aload_n 0, 1) := by decide +kernel
theorem dX9_takeLight_74 : decode cX9_takeLight 74 = .ok (.getfield 180, 3) := by decide +kernel
theorem dX9_takeLight_77 : decode cX9_takeLight 77 = .ok (.bipush 108, 2) := by decide +kernel
theorem dX9_takeLight_79 : decode cX9_takeLight 79 = .ok (.bipush 101, 2) := by decide +kernel
theorem dX9_takeLight_81 : decode cX9_takeLight 81 = .ok (.bipush 97, 2) := by decide +kernel
theorem dX9_takeLight_83 : decode cX9_takeLight 83 = .ok (.invokestatic 222, 3) := by decide +kernel
theorem dX9_takeLight_86 : decode cX9_takeLight 86 = .ok (.bipush 107, 2) := by decide +kernel
theorem dX9_takeLight_88 : decode cX9_takeLight 88 = .ok (.bipush 121, 2) := by decide +kernel
theorem dX9_takeLight_90 : decode cX9_takeLight 90 = .ok (.invokestatic 226, 3) := by decide +kernel
theorem dX9_takeLight_93 : decode cX9_takeLight 93 = .ok (.lcmp, 1) := by decide +kernel
theorem dX9_takeLight_94 : decode cX9_takeLight 94 = .ok (.ifCond .ne 7, 3) := by decide +kernel
theorem dX9_takeLight_97 : decode cX9_takeLight 97 = .ok (.iconst 2, 1) := by decide +kernel
theorem dX9_takeLight_98 : decode cX9_takeLight 98 = .ok (.goto 66, 3) := by decide +kernel
theorem dX9_takeLight_101 : decode cX9_takeLight 101 = .ok (.aload_n 0, 1) := by decide +kernel
theorem dX9_takeLight_102 : decode cX9_takeLight 102 = .ok (.getfield 180, 3) := by decide +kernel
theorem dX9_takeLight_105 : decode cX9_takeLight 105 = .ok (.bipush 102, 2) := by decide +kernel
theorem dX9_takeLight_107 : decode cX9_takeLight 107 = .ok (.bipush 108, 2) := by decide +kernel
theorem dX9_takeLight_109 : decode cX9_takeLight 109 = .ok (.bipush 111, 2) := by decide +kernel
theorem dX9_takeLight_111 : decode cX9_takeLight 111 = .ok (.invokestatic 222, 3) := by decide +kernel
theorem dX9_takeLight_114 : decode cX9_takeLight 114 = .ok (.bipush 97, 2) := by decide +kernel
theorem dX9_takeLight_116 : decode cX9_takeLight 116 = .ok (.bipush 116, 2) := by decide +kernel
theorem dX9_takeLight_118 : decode cX9_takeLight 118 = .ok (.invokestatic 226, 3) := by decide +kernel
theorem dX9_takeLight_121 : decode cX9_takeLight 121 = .ok (.bipush 105, 2) := by decide +kernel
theorem dX9_takeLight_123 : decode cX9_takeLight 123 = .ok (.bipush 110, 2) := by decide +kernel
theorem dX9_takeLight_125 : decode cX9_takeLight 125 = .ok (.invokestatic 226, 3) := by decide +kernel
theorem dX9_takeLight_128 : decode cX9_takeLight 128 = .ok (.bipush 103, 2) := by decide +kernel
theorem dX9_takeLight_130 : decode cX9_takeLight 130 = .ok (.iconst 0, 1) := by decide +kernel
theorem dX9_takeLight_131 : decode cX9_takeLight 131 = .ok (.invokestatic 226, 3) := by decide +kernel
theorem dX9_takeLight_134 : decode cX9_takeLight 134 = .ok (.lcmp, 1) := by decide +kernel
theorem dX9_takeLight_135 : decode cX9_takeLight 135 = .ok (.ifCond .ne 7, 3) := by decide +kernel
theorem dX9_takeLight_138 : decode cX9_takeLight 138 = .ok (.iconst 3, 1) := by decide +kernel
theorem dX9_takeLight_139 : decode cX9_takeLight 139 = .ok (.goto 25, 3) := by decide +kernel
theorem dX9_takeLight_142 : decode cX9_takeLight 142 = .ok (.aload_n 0, 1) := by decide +kernel
theorem dX9_takeLight_143 : decode cX9_takeLight 143 = .ok (.getfield 180, 3) := by decide +kernel
theorem dX9_takeLight_146 : decode cX9_takeLight 146 = .ok (.bipush 103, 2) := by decide +kernel
theorem dX9_takeLight_148 : decode cX9_takeLight 148 = .ok (.bipush 97, 2) := by decide +kernel
theorem dX9_takeLight_150 : decode cX9_takeLight 150 = .ok (.bipush 115, 2) := by decide +kernel
theorem dX9_takeLight_152 : decode cX9_takeLight 152 = .ok (.invokestatic 222, 3) := by decide +kernel
theorem dX9_takeLight_155 : decode cX9_takeLight 155 = .ok (.lcmp, 1) := by decide +kernel
theorem dX9_takeLight_156 : decode cX9_takeLight 156 = .ok (.ifCond .ne 7, 3) := by decide +kernel
theorem dX9_takeLight_159 : decode cX9_takeLight 159 = .ok (.iconst 4, 1) := by decide +kernel
theorem dX9_takeLight_160 : decode cX9_takeLight 160 = .ok (.goto 4, 3) := by decide +kernel
theorem dX9_takeLight_163 : decode cX9_takeLight 163 = .ok (.iconst (-1), 1) := by decide +kernel
theorem dX9_takeLight_164 : decode cX9_takeLight 164 = .ok (.istore_n 2, 1) := by decide +kernel
theorem dX9_takeLight_165 : decode cX9_takeLight 165 = .ok (.iload_n 2, 1) := by decide +kernel
theorem dX9_takeLight_166 : decode cX9_takeLight 166 = .ok (.ifCond .ge 13, 3) := by decide +kernel
theorem dX9_takeLight_169 : decode cX9_takeLight 169 = .ok (.aload_n 0, 1) := by decide +kernel
theorem dX9_takeLight_170 : decode cX9_takeLight 170 = .ok (.iconst 1, 1) := by decide +kernel
theorem dX9_takeLight_171 : decode cX9_takeLight 171 = .ok (.aload_n 0, 1) := by decide +kernel
theorem dX9_takeLight_172 : decode cX9_takeLight 172 = .ok (.getfield 173, 3) := by decide +kernel
theorem dX9_takeLight_175 : decode cX9_takeLight 175 = .ok (.invokevirtual 202, 3) := by decide +kernel
theorem dX9_takeLight_178 : decode cX9_takeLight 178 = .ok (.ireturn, 1) := by decide +kernel
theorem dX9_takeLight_179 : decode cX9_takeLight 179 = .ok (.aload_n 0, 1) := by decide +kernel
theorem dX9_takeLight_180 : decode cX9_takeLight 180 = .ok (.aload_n 0, 1) := by decide +kernel
theorem dX9_takeLight_181 : decode cX9_takeLight 181 = .ok (.getfield 183, 3) := by decide +kernel
theorem dX9_takeLight_184 : decode cX9_takeLight 184 = .ok (.putfield 173, 3) := by decide +kernel
theorem dX9_takeLight_187 : decode cX9_takeLight 187 = .ok (.aload_n 0, 1) := by decide +kernel
theorem dX9_takeLight_188 : decode cX9_takeLight 188 = .ok (.dup, 1) := by decide +kernel
theorem dX9_takeLight_189 : decode cX9_takeLight 189 = .ok (.getfield 216, 3) := by decide +kernel
theorem dX9_takeLight_192 : decode cX9_takeLight 192 = .ok (.iconst 1, 1) := by decide +kernel
theorem dX9_takeLight_193 : decode cX9_takeLight 193 = .ok (.iadd, 1) := by decide +kernel
theorem dX9_takeLight_194 : decode cX9_takeLight 194 = .ok (.putfield 216, 3) := by decide +kernel
theorem dX9_takeLight_197 : decode cX9_takeLight 197 = .ok (.aload_n 0, 1) := by decide +kernel
theorem dX9_takeLight_198 : decode cX9_takeLight 198 = .ok (.getfield 66, 3) := by decide +kernel
theorem dX9_takeLight_201 : decode cX9_takeLight 201 = .ok (.iload_n 1, 1) := by decide +kernel
theorem dX9_takeLight_202 : decode cX9_takeLight 202 = .ok (.iload_n 2, 1) := by decide +kernel
theorem dX9_takeLight_203 : decode cX9_takeLight 203 = .ok (.iastore, 1) := by decide +kernel
theorem dX9_takeLight_204 : decode cX9_takeLight 204 = .ok (.aload_n 0, 1) := by decide +kernel
theorem dX9_takeLight_205 : decode cX9_takeLight 205 = .ok (.aload_n 0, 1) := by decide +kernel
theorem dX9_takeLight_206 : decode cX9_takeLight 206 = .ok (.getfield 66, 3) := by decide +kernel
theorem dX9_takeLight_209 : decode cX9_takeLight 209 = .ok (.iload_n 1, 1) := by decide +kernel
theorem dX9_takeLight_210 : decode cX9_takeLight 210 = .ok (.iconst 1, 1) := by decide +kernel
theorem dX9_takeLight_211 : decode cX9_takeLight 211 = .ok (.iadd, 1) := by decide +kernel
theorem dX9_takeLight_212 : decode cX9_takeLight 212 = .ok (.iconst 0, 1) := by decide +kernel
theorem dX9_takeLight_213 : decode cX9_takeLight 213 = .ok (.bipush 99, 2) := by decide +kernel
theorem dX9_takeLight_215 : decode cX9_takeLight 215 = .ok (.invokevirtual 230, 3) := by decide +kernel
theorem dX9_takeLight_218 : decode cX9_takeLight 218 = .ok (.istore_n 3, 1) := by decide +kernel
theorem dX9_takeLight_219 : decode cX9_takeLight 219 = .ok (.iload_n 3, 1) := by decide +kernel
theorem dX9_takeLight_220 : decode cX9_takeLight 220 = .ok (.ifCond .le 7, 3) := by decide +kernel
theorem dX9_takeLight_223 : decode cX9_takeLight 223 = .ok (.iload_n 3, 1) := by decide +kernel
theorem dX9_takeLight_224 : decode cX9_takeLight 224 = .ok (.goto 17, 3) := by decide +kernel
theorem dX9_takeLight_227 : decode cX9_takeLight 227 = .ok (.aload_n 0, 1) := by decide +kernel
theorem dX9_takeLight_228 : decode cX9_takeLight 228 = .ok (.aload_n 0, 1) := by decide +kernel
theorem dX9_takeLight_229 : decode cX9_takeLight 229 = .ok (.getfield 66, 3) := by decide +kernel
theorem dX9_takeLight_232 : decode cX9_takeLight 232 = .ok (.iload_n 1, 1) := by decide +kernel
theorem dX9_takeLight_233 : decode cX9_takeLight 233 = .ok (.iconst 2, 1) := by decide +kernel
theorem dX9_takeLight_234 : decode cX9_takeLight 234 = .ok (.iadd, 1) := by decide +kernel
theorem dX9_takeLight_235 : decode cX9_takeLight 235 = .ok (.iconst 0, 1) := by decide +kernel
theorem dX9_takeLight_236 : decode cX9_takeLight 236 = .ok (.bipush 99, 2) := by decide +kernel
theorem dX9_takeLight_238 : decode cX9_takeLight 238 = .ok (.invokevirtual 230, 3) := by decide +kernel
theorem dX9_takeLight_241 : decode cX9_takeLight 241 = .ok (.istore_n 3, 1) := by decide +kernel
theorem dX9_takeLight_242 : decode cX9_takeLight 242 = .ok (.iload_n 3, 1) := by decide +kernel
theorem dX9_takeLight_243 : decode cX9_takeLight 243 = .ok (.ifCond .le 7, 3) := by decide +kernel
theorem dX9_takeLight_246 : decode cX9_takeLight 246 = .ok (.iload_n 3, 1) := by decide +kernel
theorem dX9_takeLight_247 : decode cX9_takeLight 247 = .ok (.goto 18, 3) := by decide +kernel
theorem dX9_takeLight_250 : decode cX9_takeLight 250 = .ok (.aload_n 0, 1) := by decide +kernel
theorem dX9_takeLight_251 : decode cX9_takeLight 251 = .ok (.aload_n 0, 1) := by decide +kernel
theorem dX9_takeLight_252 : decode cX9_takeLight 252 = .ok (.getfield 66, 3) := by decide +kernel
theorem dX9_takeLight_255 : decode cX9_takeLight 255 = .ok (.iload_n 1, 1) := by decide +kernel
theorem dX9_takeLight_256 : decode cX9_takeLight 256 = .ok (.iconst 3, 1) := by decide +kernel
theorem dX9_takeLight_257 : decode cX9_takeLight 257 = .ok (.iadd, 1) := by decide +kernel
theorem dX9_takeLight_258 : decode cX9_takeLight 258 = .ok (.iconst 0, 1) := by decide +kernel
theorem dX9_takeLight_259 : decode cX9_takeLight 259 = .ok (.sipush 999, 3) := by decide +kernel
theorem dX9_takeLight_262 : decode cX9_takeLight 262 = .ok (.invokevirtual 230, 3) := by decide +kernel
theorem dX9_takeLight_265 : decode cX9_takeLight 265 = .ok (.istore_n 3, 1) := by decide +kernel
theorem dX9_takeLight_266 : decode cX9_takeLight 266 = .ok (.iload_n 3, 1) := by decide +kernel
theorem dX9_takeLight_267 : decode cX9_takeLight 267 = .ok (.ifCond .le 7, 3) := by decide +kernel
theorem dX9_takeLight_270 : decode cX9_takeLight 270 = .ok (.iload_n 3, 1) := by decide +kernel
theorem dX9_takeLight_271 : decode cX9_takeLight 271 = .ok (.goto 17, 3) := by decide +kernel
theorem dX9_takeLight_274 : decode cX9_takeLight 274 = .ok (.aload_n 0, 1) := by decide +kernel
theorem dX9_takeLight_275 : decode cX9_takeLight 275 = .ok (.aload_n 0, 1) := by decide +kernel
theorem dX9_takeLight_276 : decode cX9_takeLight 276 = .ok (.getfield 66, 3) := by decide +kernel
theorem dX9_takeLight_279 : decode cX9_takeLight 279 = .ok (.iload_n 1, 1) := by decide +kernel
theorem dX9_takeLight_280 : decode cX9_takeLight 280 = .ok (.iconst 4, 1) := by decide +kernel
theorem dX9_takeLight_281 : decode cX9_takeLight 281 = .ok (.iadd, 1) := by decide +kernel
theorem dX9_takeLight_282 : decode cX9_takeLight 282 = .ok (.iconst 0, 1) := by decide +kernel
theorem dX9_takeLight_283 : decode cX9_takeLight 283 = .ok (.bipush 99, 2) := by decide +kernel
theorem dX9_takeLight_285 : decode cX9_takeLight 285 = .ok (.invokevirtual 230, 3) := by decide +kernel
theorem dX9_takeLight_288 : decode cX9_takeLight 288 = .ok (.ireturn, 1) := by decide +kernel
theorem dX9_takeNights_0 : decode cX9_takeNights 0 = .ok (.aload_n 0, 1) := by decide +kernel
theorem dX9_takeNights_1 : decode cX9_takeNights 1 = .ok (.iconst 0, 1) := by decide +kernel
theorem dX9_takeNights_2 : decode cX9_takeNights 2 = .ok (.putfield 234, 3) := by decide +kernel
theorem dX9_takeNights_5 : decode cX9_takeNights 5 = .ok (.iconst 1, 1) := by decide +kernel
theorem dX9_takeNights_6 : decode cX9_takeNights 6 = .ok (.istore_n 1, 1) := by decide +kernel
theorem dX9_takeNights_7 : decode cX9_takeNights 7 = .ok (.iload_n 1, 1) := by decide +kernel
theorem dX9_takeNights_8 : decode cX9_takeNights 8 = .ok (.ifCond .eq 95, 3) := by decide +kernel
theorem dX9_takeNights_11 : decode cX9_takeNights 11 = .ok (.aload_n 0, 1) := by decide +kernel
theorem dX9_takeNights_12 : decode cX9_takeNights 12 = .ok (.iconst 1, 1) := by decide +kernel
theorem dX9_takeNights_13 : decode cX9_takeNights 13 = .ok (.bipush 24, 2) := by decide +kernel
theorem dX9_takeNights_15 : decode cX9_takeNights 15 = .ok (.invokevirtual 213, 3) := by decide +kernel
theorem dX9_takeNights_18 : decode cX9_takeNights 18 = .ok (.istore_n 2, 1) := by decide +kernel
theorem dX9_takeNights_19 : decode cX9_takeNights 19 = .ok (.iload_n 2, 1) := by decide +kernel
theorem dX9_takeNights_20 : decode cX9_takeNights 20 = .ok (.ifCond .le 5, 3) := by decide +kernel
theorem dX9_takeNights_23 : decode cX9_takeNights 23 = .ok (.iload_n 2, 1) := by decide +kernel
theorem dX9_takeNights_24 : decode cX9_takeNights 24 = .ok (.ireturn, 1) := by decide +kernel
theorem dX9_takeNights_25 : decode cX9_takeNights 25 = .ok (.aload_n 0, 1) := by decide +kernel
theorem dX9_takeNights_26 : decode cX9_takeNights 26 = .ok (.getfield 234, 3) := by decide +kernel
theorem dX9_takeNights_29 : decode cX9_takeNights 29 = .ok (.bipush 12, 2) := by decide +kernel
theorem dX9_takeNights_31 : decode cX9_takeNights 31 = .ok (.if_icmp .ne 13, 3) := by decide +kernel
theorem dX9_takeNights_34 : decode cX9_takeNights 34 = .ok (.aload_n 0, 1) := by decide +kernel
theorem dX9_takeNights_35 : decode cX9_takeNights 35 = .ok (.iconst 3, 1) := by decide +kernel
theorem dX9_takeNights_36 : decode cX9_takeNights 36 = .ok (.aload_n 0, 1) := by decide +kernel
theorem dX9_takeNights_37 : decode cX9_takeNights 37 = .ok (.getfield 206, 3) := by decide +kernel
theorem dX9_takeNights_40 : decode cX9_takeNights 40 = .ok (.invokevirtual 202, 3) := by decide +kernel
theorem dX9_takeNights_43 : decode cX9_takeNights 43 = .ok (.ireturn, 1) := by decide +kernel
theorem dX9_takeNights_44 : decode cX9_takeNights 44 = .ok (.aload_n 0, 1) := by decide +kernel
theorem dX9_takeNights_45 : decode cX9_takeNights 45 = .ok (.getfield 72, 3) := by decide +kernel
theorem dX9_takeNights_48 : decode cX9_takeNights 48 = .ok (.aload_n 0, 1) := by decide +kernel
theorem dX9_takeNights_49 : decode cX9_takeNights 49 = .ok (.getfield 234, 3) := by decide +kernel
theorem dX9_takeNights_52 : decode cX9_takeNights 52 = .ok (.aload_n 0, 1) := by decide +kernel
theorem dX9_takeNights_53 : decode cX9_takeNights 53 = .ok (.getfield 209, 3) := by decide +kernel
theorem dX9_takeNights_56 : decode cX9_takeNights 56 = .ok (.iastore, 1) := by decide +kernel
theorem dX9_takeNights_57 : decode cX9_takeNights 57 = .ok (.aload_n 0, 1) := by decide +kernel
theorem dX9_takeNights_58 : decode cX9_takeNights 58 = .ok (.dup, 1) := by decide +kernel
theorem dX9_takeNights_59 : decode cX9_takeNights 59 = .ok (.getfield 234, 3) := by decide +kernel
theorem dX9_takeNights_62 : decode cX9_takeNights 62 = .ok (.iconst 1, 1) := by decide +kernel
theorem dX9_takeNights_63 : decode cX9_takeNights 63 = .ok (.iadd, 1) := by decide +kernel
theorem dX9_takeNights_64 : decode cX9_takeNights 64 = .ok (.putfield 234, 3) := by decide +kernel
theorem dX9_takeNights_67 : decode cX9_takeNights 67 = .ok (.aload_n 0, 1) := by decide +kernel
theorem dX9_takeNights_68 : decode cX9_takeNights 68 = .ok (.invokevirtual 176, 3) := by decide +kernel
theorem dX9_takeNights_71 : decode cX9_takeNights 71 = .ok (.bipush 44, 2) := by decide +kernel
theorem dX9_takeNights_73 : decode cX9_takeNights 73 = .ok (.if_icmp .ne 7, 3) := by decide +kernel
theorem dX9_takeNights_76 : decode cX9_takeNights 76 = .ok (.iconst 1, 1) := by decide +kernel
theorem dX9_takeNights_77 : decode cX9_takeNights 77 = .ok (.goto 4, 3) := by decide +kernel
theorem dX9_takeNights_80 : decode cX9_takeNights 80 = .ok (.iconst 0, 1) := by decide +kernel
theorem dX9_takeNights_81 : decode cX9_takeNights 81 = .ok (.istore_n 1, 1) := by decide +kernel
theorem dX9_takeNights_82 : decode cX9_takeNights 82 = .ok (.aload_n 0, 1) := by decide +kernel
theorem dX9_takeNights_83 : decode cX9_takeNights 83 = .ok (.dup, 1) := by decide +kernel
theorem dX9_takeNights_84 : decode cX9_takeNights 84 = .ok (.getfield 173, 3) := by decide +kernel
theorem dX9_takeNights_87 : decode cX9_takeNights 87 = .ok (.iload_n 1, 1) := by decide +kernel
theorem dX9_takeNights_88 : decode cX9_takeNights 88 = .ok (.ifCond .eq 7, 3) := by decide +kernel
theorem dX9_takeNights_91 : decode cX9_takeNights 91 = .ok (.iconst 1, 1) := by decide +kernel
theorem dX9_takeNights_92 : decode cX9_takeNights 92 = .ok (.goto 4, 3) := by decide +kernel
theorem dX9_takeNights_95 : decode cX9_takeNights 95 = .ok (.iconst 0, 1) := by decide +kernel
theorem dX9_takeNights_96 : decode cX9_takeNights 96 = .ok (.iadd, 1) := by decide +kernel
theorem dX9_takeNights_97 : decode cX9_takeNights 97 = .ok (.putfield 173, 3) := by decide +kernel
theorem dX9_takeNights_100 : decode cX9_takeNights 100 = .ok (.goto (-93), 3) := by decide +kernel
theorem dX9_takeNights_103 : decode cX9_takeNights 103 = .ok (.iconst 0, 1) := by decide +kernel
theorem dX9_takeNights_104 : decode cX9_takeNights 104 = .ok (.ireturn, 1) := by decide +kernel
theorem dX9_takeOdds_0 : decode cX9_takeOdds 0 = .ok (.iconst 0, 1) := by decide +kernel
theorem dX9_takeOdds_1 : decode cX9_takeOdds 1 = .ok (.istore_n 1, 1) := by decide +kernel
theorem dX9_takeOdds_2 : decode cX9_takeOdds 2 = .ok (.iload_n 1, 1) := by decide +kernel
theorem dX9_takeOdds_3 : decode cX9_takeOdds 3 = .ok (.bipush 9, 2) := by decide +kernel
theorem dX9_takeOdds_5 : decode cX9_takeOdds 5 = .ok (.if_icmp .ge 90, 3) := by decide +kernel
theorem dX9_takeOdds_8 : decode cX9_takeOdds 8 = .ok (.aload_n 0, 1) := by decide +kernel
theorem dX9_takeOdds_9 : decode cX9_takeOdds 9 = .ok (.aload_n 0, 1) := by decide +kernel
theorem dX9_takeOdds_10 : decode cX9_takeOdds 10 = .ok (.getfield 75, 3) := by decide +kernel
theorem dX9_takeOdds_13 : decode cX9_takeOdds 13 = .ok (.iload_n 1, 1) := by decide +kernel
theorem dX9_takeOdds_14 : decode cX9_takeOdds 14 = .ok (.iconst 0, 1) := by decide +kernel
theorem dX9_takeOdds_15 : decode cX9_takeOdds 15 = .ok (.bipush 100, 2) := by decide +kernel
theorem dX9_takeOdds_17 : decode cX9_takeOdds 17 = .ok (.invokevirtual 230, 3) := by decide +kernel
theorem dX9_takeOdds_20 : decode cX9_takeOdds 20 = .ok (.istore_n 2, 1) := by decide +kernel
theorem dX9_takeOdds_21 : decode cX9_takeOdds 21 = .ok (.iload_n 1, 1) := by decide +kernel
theorem dX9_takeOdds_22 : decode cX9_takeOdds 22 = .ok (.iconst 3, 1) := by decide +kernel
theorem dX9_takeOdds_23 : decode cX9_takeOdds 23 = .ok (.irem, 1) := by decide +kernel
theorem dX9_takeOdds_24 : decode cX9_takeOdds 24 = .ok (.iconst 2, 1) := by decide +kernel
theorem dX9_takeOdds_25 : decode cX9_takeOdds 25 = .ok (.if_icmp .ne 36, 3) := by decide +kernel
theorem dX9_takeOdds_28 : decode cX9_takeOdds 28 = .ok (.aload_n 0, 1) := by decide +kernel
theorem dX9_takeOdds_29 : decode cX9_takeOdds 29 = .ok (.getfield 75, 3) := by decide +kernel
theorem dX9_takeOdds_32 : decode cX9_takeOdds 32 = .ok (.iload_n 1, 1) := by decide +kernel
theorem dX9_takeOdds_33 : decode cX9_takeOdds 33 = .ok (.iaload, 1) := by decide +kernel
theorem dX9_takeOdds_34 : decode cX9_takeOdds 34 = .ok (.aload_n 0, 1) := by decide +kernel
theorem dX9_takeOdds_35 : decode cX9_takeOdds 35 = .ok (.getfield 75, 3) := by decide +kernel
theorem dX9_takeOdds_38 : decode cX9_takeOdds 38 = .ok (.iload_n 1, 1) := by decide +kernel
theorem dX9_takeOdds_39 : decode cX9_takeOdds 39 = .ok (.iconst 1, 1) := by decide +kernel
theorem dX9_takeOdds_40 : decode cX9_takeOdds 40 = .ok (.isub, 1) := by decide +kernel
theorem dX9_takeOdds_41 : decode cX9_takeOdds 41 = .ok (.iaload, 1) := by decide +kernel
theorem dX9_takeOdds_42 : decode cX9_takeOdds 42 = .ok (.iadd, 1) := by decide +kernel
theorem dX9_takeOdds_43 : decode cX9_takeOdds 43 = .ok (.aload_n 0, 1) := by decide +kernel
theorem dX9_takeOdds_44 : decode cX9_takeOdds 44 = .ok (.getfield 75, 3) := by decide +kernel
theorem dX9_takeOdds_47 : decode cX9_takeOdds 47 = .ok (.iload_n 1, 1) := by decide +kernel
theorem dX9_takeOdds_48 : decode cX9_takeOdds 48 = .ok (.iconst 2, 1) := by decide +kernel
theorem dX9_takeOdds_49 : decode cX9_takeOdds 49 = .ok (.isub, 1) := by decide +kernel
theorem dX9_takeOdds_50 : decode cX9_takeOdds 50 = .ok (.iaload, 1) := by decide +kernel
theorem dX9_takeOdds_51 : decode cX9_takeOdds 51 = .ok (.iadd, 1) := by decide +kernel
theorem dX9_takeOdds_52 : decode cX9_takeOdds 52 = .ok (.bipush 100, 2) := by decide +kernel
theorem dX9_takeOdds_54 : decode cX9_takeOdds 54 = .ok (.if_icmp .eq 7, 3) := by decide +kernel
theorem dX9_takeOdds_57 : decode cX9_takeOdds 57 = .ok (.iconst 1, 1) := by decide +kernel
theorem dX9_takeOdds_58 : decode cX9_takeOdds 58 = .ok (.goto 4, 3) := by decide +kernel
theorem dX9_takeOdds_61 : decode cX9_takeOdds 61 = .ok (.iconst 0, 1) := by decide +kernel
theorem dX9_takeOdds_62 : decode cX9_takeOdds 62 = .ok (.istore_n 3, 1) := by decide +kernel
theorem dX9_takeOdds_63 : decode cX9_takeOdds 63 = .ok (.iload_n 2, 1) := by decide +kernel
theorem dX9_takeOdds_64 : decode cX9_takeOdds 64 = .ok (.ifCond .gt 7, 3) := by decide +kernel
theorem dX9_takeOdds_67 : decode cX9_takeOdds 67 = .ok (.iload_n 3, 1) := by decide +kernel
theorem dX9_takeOdds_68 : decode cX9_takeOdds 68 = .ok (.ifCond .eq 21, 3) := by decide +kernel
theorem dX9_takeOdds_71 : decode cX9_takeOdds 71 = .ok (.iload_n 2, 1) := by decide +kernel
theorem dX9_takeOdds_72 : decode cX9_takeOdds 72 = .ok (.ifCond .le 7, 3) := by decide +kernel
theorem dX9_takeOdds_75 : decode cX9_takeOdds 75 = .ok (.iload_n 2, 1) := by decide +kernel
theorem dX9_takeOdds_76 : decode cX9_takeOdds 76 = .ok (.goto 12, 3) := by decide +kernel
theorem dX9_takeOdds_79 : decode cX9_takeOdds 79 = .ok (.aload_n 0, 1) := by decide +kernel
theorem dX9_takeOdds_80 : decode cX9_takeOdds 80 = .ok (.iconst 4, 1) := by decide +kernel
theorem dX9_takeOdds_81 : decode cX9_takeOdds 81 = .ok (.aload_n 0, 1) := by decide +kernel
theorem dX9_takeOdds_82 : decode cX9_takeOdds 82 = .ok (.getfield 206, 3) := by decide +kernel
theorem dX9_takeOdds_85 : decode cX9_takeOdds 85 = .ok (.invokevirtual 202, 3) := by decide +kernel
theorem dX9_takeOdds_88 : decode cX9_takeOdds 88 = .ok (.ireturn, 1) := by decide +kernel
theorem dX9_takeOdds_89 : decode cX9_takeOdds 89 = .ok (.iinc 1 1, 3) := by decide +kernel
theorem dX9_takeOdds_92 : decode cX9_takeOdds 92 = .ok (.goto (-90), 3) := by decide +kernel
theorem dX9_takeOdds_95 : decode cX9_takeOdds 95 = .ok (.iconst 0, 1) := by decide +kernel
theorem dX9_takeOdds_96 : decode cX9_takeOdds 96 = .ok (.ireturn, 1) := by decide +kernel
theorem dX9_takeOnce_0 : decode cX9_takeOnce 0 = .ok (.iload_n 1, 1) := by decide +kernel
theorem dX9_takeOnce_1 : decode cX9_takeOnce 1 = .ok (.iconst 2, 1) := by decide +kernel
theorem dX9_takeOnce_2 : decode cX9_takeOnce 2 = .ok (.if_icmp .ne 17, 3) := by decide +kernel
theorem dX9_takeOnce_5 : decode cX9_takeOnce 5 = .ok (.aload_n 0, 1) := by decide +kernel
theorem dX9_takeOnce_6 : decode cX9_takeOnce 6 = .ok (.aload_n 0, 1) := by decide +kernel
theorem dX9_takeOnce_7 : decode cX9_takeOnce 7 = .ok (.getfield 69, 3) := by decide +kernel
theorem dX9_takeOnce_10 : decode cX9_takeOnce 10 = .ok (.iconst 2, 1) := by decide +kernel
theorem dX9_takeOnce_11 : decode cX9_takeOnce 11 = .ok (.iconst 0, 1) := by decide +kernel
theorem dX9_takeOnce_12 : decode cX9_takeOnce 12 = .ok (.sipush 9999, 3) := by decide +kernel
theorem dX9_takeOnce_15 : decode cX9_takeOnce 15 = .ok (.invokevirtual 230, 3) := by decide +kernel
theorem dX9_takeOnce_18 : decode cX9_takeOnce 18 = .ok (.ireturn, 1) := by decide +kernel
theorem dX9_takeOnce_19 : decode cX9_takeOnce 19 = .ok (.iload_n 1, 1) := by decide +kernel
theorem dX9_takeOnce_20 : decode cX9_takeOnce 20 = .ok (.iconst 1, 1) := by decide +kernel
theorem dX9_takeOnce_21 : decode cX9_takeOnce 21 = .ok (.if_icmp .ne 18, 3) := by decide +kernel
theorem dX9_takeOnce_24 : decode cX9_takeOnce 24 = .ok (.aload_n 0, 1) := by decide +kernel
theorem dX9_takeOnce_25 : decode cX9_takeOnce 25 = .ok (.aload_n 0, 1) := by decide +kernel
theorem dX9_takeOnce_26 : decode cX9_takeOnce 26 = .ok (.getfield 69, 3) := by decide +kernel
theorem dX9_takeOnce_29 : decode cX9_takeOnce 29 = .ok (.iconst 0, 1) := by decide +kernel
theorem dX9_takeOnce_30 : decode cX9_takeOnce 30 = .ok (.iconst 1, 1) := by decide +kernel
theorem dX9_takeOnce_31 : decode cX9_takeOnce 31 = .ok (.bipush 99, 2) := by decide +kernel
theorem dX9_takeOnce_33 : decode cX9_takeOnce 33 = .ok (.invokevirtual 230, 3) := by decide +kernel
theorem dX9_takeOnce_36 : decode cX9_takeOnce 36 = .ok (.goto 15, 3) := by decide +kernel
theorem dX9_takeOnce_39 : decode cX9_takeOnce 39 = .ok (.aload_n 0, 1) := by decide +kernel
theorem dX9_takeOnce_40 : decode cX9_takeOnce 40 = .ok (.aload_n 0, 1) := by decide +kernel
theorem dX9_takeOnce_41 : decode cX9_takeOnce 41 = .ok (.getfield 69, 3) := by decide +kernel
theorem dX9_takeOnce_44 : decode cX9_takeOnce 44 = .ok (.iconst 3, 1) := by decide +kernel
theorem dX9_takeOnce_45 : decode cX9_takeOnce 45 = .ok (.iconst 0, 1) := by decide +kernel
theorem dX9_takeOnce_46 : decode cX9_takeOnce 46 = .ok (.bipush 99, 2) := by decide +kernel
theorem dX9_takeOnce_48 : decode cX9_takeOnce 48 = .ok (.invokevirtual 230, 3) := by decide +kernel
theorem dX9_takeOnce_51 : decode cX9_takeOnce 51 = .ok (.istore_n 2, 1) := by decide +kernel
theorem dX9_takeOnce_52 : decode cX9_takeOnce 52 = .ok (.iload_n 2, 1) := by decide +kernel
theorem dX9_takeOnce_53 : decode cX9_takeOnce 53 = .ok (.ifCond .le 7, 3) := by decide +kernel
theorem dX9_takeOnce_56 : decode cX9_takeOnce 56 = .ok (.iload_n 2, 1) := by decide +kernel
theorem dX9_takeOnce_57 : decode cX9_takeOnce 57 = .ok (.goto 36, 3) := by decide +kernel
theorem dX9_takeOnce_60 : decode cX9_takeOnce 60 = .ok (.iload_n 1, 1) := by decide +kernel
theorem dX9_takeOnce_61 : decode cX9_takeOnce 61 = .ok (.iconst 1, 1) := by decide +kernel
theorem dX9_takeOnce_62 : decode cX9_takeOnce 62 = .ok (.if_icmp .ne 19, 3) := by decide +kernel
theorem dX9_takeOnce_65 : decode cX9_takeOnce 65 = .ok (.aload_n 0, 1) := by decide +kernel
theorem dX9_takeOnce_66 : decode cX9_takeOnce 66 = .ok (.aload_n 0, 1) := by decide +kernel
theorem dX9_takeOnce_67 : decode cX9_takeOnce 67 = .ok (.getfield 69, 3) := by decide +kernel
theorem dX9_takeOnce_70 : decode cX9_takeOnce 70 = .ok (.iconst 1, 1) := by decide +kernel
theorem dX9_takeOnce_71 : decode cX9_takeOnce 71 = .ok (.iconst 1, 1) := by decide +kernel
theorem dX9_takeOnce_72 : decode cX9_takeOnce 72 = .ok (.sipush 999, 3) := by decide +kernel
theorem dX9_takeOnce_75 : decode cX9_takeOnce 75 = .ok (.invokevirtual 230, 3) := by decide +kernel
theorem dX9_takeOnce_78 : decode cX9_takeOnce 78 = .ok (.goto 15, 3) := by decide +kernel
theorem dX9_takeOnce_81 : decode cX9_takeOnce 81 = .ok (.aload_n 0, 1) := by decide +kernel
theorem dX9_takeOnce_82 : decode cX9_takeOnce 82 = .ok (.aload_n 0, 1) := by decide +kernel
theorem dX9_takeOnce_83 : decode cX9_takeOnce 83 = .ok (.getfield 69, 3) := by decide +kernel
theorem dX9_takeOnce_86 : decode cX9_takeOnce 86 = .ok (.iconst 4, 1) := by decide +kernel
theorem dX9_takeOnce_87 : decode cX9_takeOnce 87 = .ok (.iconst 1, 1) := by decide +kernel
theorem dX9_takeOnce_88 : decode cX9_takeOnce 88 = .ok (.bipush 99, 2) := by decide +kernel
theorem dX9_takeOnce_90 : decode cX9_takeOnce 90 = .ok (.invokevirtual 230, 3) := by decide +kernel
theorem dX9_takeOnce_93 : decode cX9_takeOnce 93 = .ok (.ireturn, 1) := by decide +kernel
theorem dX9_takeClause_0 : decode cX9_takeClause 0 = .ok (.aload_n 0, 1) := by decide +kernel
theorem dX9_takeClause_1 : decode cX9_takeClause 1 = .ok (.invokevirtual 219, 3) := by decide +kernel
theorem dX9_takeClause_4 : decode cX9_takeClause 4 = .ok (.aload_n 0, 1) := by decide +kernel
theorem dX9_takeClause_5 : decode cX9_takeClause 5 = .ok (.getfield 180, 3) := by decide +kernel
theorem dX9_takeClause_8 : decode cX9_takeClause 8 = .ok (.bipush 108, 2) := by decide +kernel
theorem dX9_takeClause_10 : decode cX9_takeClause 10 = .ok (.bipush 105, 2) := by decide +kernel
theorem dX9_takeClause_12 : decode cX9_takeClause 12 = .ok (.bipush 103, 2) := by decide +kernel
theorem dX9_takeClause_14 : decode cX9_takeClause 14 = .ok (.invokestatic 222, 3) := by decide +kernel
theorem dX9_takeClause_17 : decode cX9_takeClause 17 = .ok (.bipush 104, 2) := by decide +kernel
theorem dX9_takeClause_19 : decode cX9_takeClause 19 = .ok (.bipush 116, 2) := by decide +kernel
theorem dX9_takeClause_21 : decode cX9_takeClause 21 = .ok (.invokestatic 226, 3) := by decide +kernel
theorem dX9_takeClause_24 : decode cX9_takeClause 24 = .ok (.lcmp, 1) := by decide +kernel
theorem dX9_takeClause_25 : decode cX9_takeClause 25 = .ok (.ifCond .ne 7, 3) := by decide +kernel
theorem dX9_takeClause_28 : decode cX9_takeClause 28 = .ok (.iconst 0, 1) := by decide +kernel
theorem dX9_takeClause_29 : decode cX9_takeClause 29 = .ok (.goto 65, 3) := by decide +kernel
theorem dX9_takeClause_32 : decode cX9_takeClause 32 = .ok (.aload_n 0, 1) := by decide +kernel
theorem dX9_takeClause_33 : decode cX9_takeClause 33 = .ok (.getfield 180, 3) := by decide +kernel
theorem dX9_takeClause_36 : decode cX9_takeClause 36 = .ok (.bipush 98, 2) := by decide +kernel
theorem dX9_takeClause_38 : decode cX9_takeClause 38 = .ok (.bipush 111, 2) := by decide +kernel
theorem dX9_takeClause_40 : decode cX9_takeClause 40 = .ok (.bipush 97, 2) := by decide +kernel
theorem dX9_takeClause_42 : decode cX9_takeClause 42 = .ok (.invokestatic 222, 3) := by decide +kernel
theorem dX9_takeClause_45 : decode cX9_takeClause 45 = .ok (.bipush 116, 2) := by decide +kernel
theorem dX9_takeClause_47 : decode cX9_takeClause 47 = .ok (.iconst 0, 1) := by decide +kernel
theorem dX9_takeClause_48 : decode cX9_takeClause 48 = .ok (.invokestatic 226, 3) := by decide +kernel
theorem dX9_takeClause_51 : decode cX9_takeClause 51 = .ok (.lcmp, 1) := by decide +kernel
theorem dX9_takeClause_52 : decode cX9_takeClause 52 = .ok (.ifCond .ne 7, 3) := by decide +kernel
theorem dX9_takeClause_55 : decode cX9_takeClause 55 = .ok (.iconst 1, 1) := by decide +kernel
theorem dX9_takeClause_56 : decode cX9_takeClause 56 = .ok (.goto 38, 3) := by decide +kernel
theorem dX9_takeClause_59 : decode cX9_takeClause 59 = .ok (.aload_n 0, 1) := by decide +kernel
theorem dX9_takeClause_60 : decode cX9_takeClause 60 = .ok (.getfield 180, 3) := by decide +kernel
theorem dX9_takeClause_63 : decode cX9_takeClause 63 = .ok (.bipush 98, 2) := by decide +kernel
theorem dX9_takeClause_65 : decode cX9_takeClause 65 = .ok (.bipush 97, 2) := by decide +kernel
theorem dX9_takeClause_67 : decode cX9_takeClause 67 = .ok (.bipush 114, 2) := by decide +kernel
theorem dX9_takeClause_69 : decode cX9_takeClause 69 = .ok (.invokestatic 222, 3) := by decide +kernel
theorem dX9_takeClause_72 : decode cX9_takeClause 72 = .ok (.bipush 114, 2) := by decide +kernel
theorem dX9_takeClause_74 : decode cX9_takeClause 74 = .ok (.bipush 101, 2) := by decide +kernel
theorem dX9_takeClause_76 : decode cX9_takeClause 76 = .ok (.invokestatic 226, 3) := by decide +kernel
theorem dX9_takeClause_79 : decode cX9_takeClause 79 = .ok (.bipush 108, 2) := by decide +kernel
theorem dX9_takeClause_81 : decode cX9_takeClause 81 = .ok (.iconst 0, 1) := by decide +kernel
theorem dX9_takeClause_82 : decode cX9_takeClause 82 = .ok (.invokestatic 226, 3) := by decide +kernel
theorem dX9_takeClause_85 : decode cX9_takeClause 85 = .ok (.lcmp, 1) := by decide +kernel
theorem dX9_takeClause_86 : decode cX9_takeClause 86 = .ok (.ifCond .ne 7, 3) := by decide +kernel
theorem dX9_takeClause_89 : decode cX9_takeClause 89 = .ok (.iconst 2, 1) := by decide +kernel
theorem dX9_takeClause_90 : decode cX9_takeClause 90 = .ok (.goto 4, 3) := by decide +kernel
theorem dX9_takeClause_93 : decode cX9_takeClause 93 = .ok (.iconst (-1), 1) := by decide +kernel
theorem dX9_takeClause_94 : decode cX9_takeClause 94 = .ok (.istore_n 1, 1) := by decide +kernel
theorem dX9_takeClause_95 : decode cX9_takeClause 95 = .ok (.iload_n 1, 1) := by decide +kernel
theorem dX9_takeClause_96 : decode cX9_takeClause 96 = .ok (.ifCond .lt 7, 3) := by decide +kernel
theorem dX9_takeClause_99 : decode cX9_takeClause 99 = .ok (.iload_n 1, 1) := by decide +kernel
theorem dX9_takeClause_100 : decode cX9_takeClause 100 = .ok (.goto 86, 3) := by decide +kernel
theorem dX9_takeClause_103 : decode cX9_takeClause 103 = .ok (.aload_n 0, 1) := by decide +kernel
theorem dX9_takeClause_104 : decode cX9_takeClause 104 = .ok (.getfield 180, 3) := by decide +kernel
theorem dX9_takeClause_107 : decode cX9_takeClause 107 = .ok (.bipush 104, 2) := by decide +kernel
theorem dX9_takeClause_109 : decode cX9_takeClause 109 = .ok (.bipush 101, 2) := by decide +kernel
theorem dX9_takeClause_111 : decode cX9_takeClause 111 = .ok (.bipush 110, 2) := by decide +kernel
theorem dX9_takeClause_113 : decode cX9_takeClause 113 = .ok (.invokestatic 222, 3) := by decide +kernel
theorem dX9_takeClause_116 : decode cX9_takeClause 116 = .ok (.bipush 115, 2) := by decide +kernel
theorem dX9_takeClause_118 : decode cX9_takeClause 118 = .ok (.iconst 0, 1) := by decide +kernel
theorem dX9_takeClause_119 : decode cX9_takeClause 119 = .ok (.invokestatic 226, 3) := by decide +kernel
theorem dX9_takeClause_122 : decode cX9_takeClause 122 = .ok (.lcmp, 1) := by decide +kernel
theorem dX9_takeClause_123 : decode cX9_takeClause 123 = .ok (.ifCond .ne 7, 3) := by decide +kernel
theorem dX9_takeClause_126 : decode cX9_takeClause 126 = .ok (.iconst 3, 1) := by decide +kernel
theorem dX9_takeClause_127 : decode cX9_takeClause 127 = .ok (.goto 59, 3) := by decide +kernel
theorem dX9_takeClause_130 : decode cX9_takeClause 130 = .ok (.aload_n 0, 1) := by decide +kernel
