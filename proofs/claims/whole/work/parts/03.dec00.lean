theorem dX0_init_0 : decode cX0_init 0 = .ok (.aload_n 0, 1) := by decide +kernel
theorem dX0_init_1 : decode cX0_init 1 = .ok (.invokespecial 3, 3) := by decide +kernel
theorem dX0_init_4 : decode cX0_init 4 = .ok (.aload_n 0, 1) := by decide +kernel
theorem dX0_init_5 : decode cX0_init 5 = .ok (.sipush 360, 3) := by decide +kernel
theorem dX0_init_8 : decode cX0_init 8 = .ok (.newarray .int, 2) := by decide +kernel
theorem dX0_init_10 : decode cX0_init 10 = .ok (.putfield 9, 3) := by decide +kernel
theorem dX0_init_13 : decode cX0_init 13 = .ok (.aload_n 0, 1) := by decide +kernel
theorem dX0_init_14 : decode cX0_init 14 = .ok (.bipush 9, 2) := by decide +kernel
theorem dX0_init_16 : decode cX0_init 16 = .ok (.newarray .int, 2) := by decide +kernel
theorem dX0_init_18 : decode cX0_init 18 = .ok (.putfield 15, 3) := by decide +kernel
theorem dX0_init_21 : decode cX0_init 21 = .ok (.return_, 1) := by decide +kernel
theorem dX0_clear_0 : decode cX0_clear 0 = .ok (.iconst 0, 1) := by decide +kernel
theorem dX0_clear_1 : decode cX0_clear 1 = .ok (.istore_n 1, 1) := by decide +kernel
theorem dX0_clear_2 : decode cX0_clear 2 = .ok (.iload_n 1, 1) := by decide +kernel
theorem dX0_clear_3 : decode cX0_clear 3 = .ok (.bipush 9, 2) := by decide +kernel
theorem dX0_clear_5 : decode cX0_clear 5 = .ok (.if_icmp .ge 14, 3) := by decide +kernel
theorem dX0_clear_8 : decode cX0_clear 8 = .ok (.aload_n 0, 1) := by decide +kernel
theorem dX0_clear_9 : decode cX0_clear 9 = .ok (.iload_n 1, 1) := by decide +kernel
theorem dX0_clear_10 : decode cX0_clear 10 = .ok (.invokevirtual 18, 3) := by decide +kernel
theorem dX0_clear_13 : decode cX0_clear 13 = .ok (.iinc 1 1, 3) := by decide +kernel
theorem dX0_clear_16 : decode cX0_clear 16 = .ok (.goto (-14), 3) := by decide +kernel
theorem dX0_clear_19 : decode cX0_clear 19 = .ok (.return_, 1) := by decide +kernel
theorem dX0_empty_0 : decode cX0_empty 0 = .ok (.aload_n 0, 1) := by decide +kernel
theorem dX0_empty_1 : decode cX0_empty 1 = .ok (.getfield 15, 3) := by decide +kernel
theorem dX0_empty_4 : decode cX0_empty 4 = .ok (.iload_n 1, 1) := by decide +kernel
theorem dX0_empty_5 : decode cX0_empty 5 = .ok (.iconst 0, 1) := by decide +kernel
theorem dX0_empty_6 : decode cX0_empty 6 = .ok (.invokestatic 22, 3) := by decide +kernel
theorem dX0_empty_9 : decode cX0_empty 9 = .ok (.return_, 1) := by decide +kernel
theorem dX0_pagesOf_0 : decode cX0_pagesOf 0 = .ok (.aload_n 0, 1) := by decide +kernel
theorem dX0_pagesOf_1 : decode cX0_pagesOf 1 = .ok (.getfield 15, 3) := by decide +kernel
theorem dX0_pagesOf_4 : decode cX0_pagesOf 4 = .ok (.iload_n 1, 1) := by decide +kernel
theorem dX0_pagesOf_5 : decode cX0_pagesOf 5 = .ok (.invokestatic 26, 3) := by decide +kernel
theorem dX0_pagesOf_8 : decode cX0_pagesOf 8 = .ok (.ireturn, 1) := by decide +kernel
theorem dX0_add_0 : decode cX0_add 0 = .ok (.aload_n 0, 1) := by decide +kernel
theorem dX0_add_1 : decode cX0_add 1 = .ok (.getfield 9, 3) := by decide +kernel
theorem dX0_add_4 : decode cX0_add 4 = .ok (.iload_n 1, 1) := by decide +kernel
theorem dX0_add_5 : decode cX0_add 5 = .ok (.bipush 40, 2) := by decide +kernel
theorem dX0_add_7 : decode cX0_add 7 = .ok (.imul, 1) := by decide +kernel
theorem dX0_add_8 : decode cX0_add 8 = .ok (.aload_n 0, 1) := by decide +kernel
theorem dX0_add_9 : decode cX0_add 9 = .ok (.iload_n 1, 1) := by decide +kernel
theorem dX0_add_10 : decode cX0_add 10 = .ok (.invokevirtual 30, 3) := by decide +kernel
theorem dX0_add_13 : decode cX0_add 13 = .ok (.iadd, 1) := by decide +kernel
theorem dX0_add_14 : decode cX0_add 14 = .ok (.iload_n 2, 1) := by decide +kernel
theorem dX0_add_15 : decode cX0_add 15 = .ok (.invokestatic 22, 3) := by decide +kernel
theorem dX0_add_18 : decode cX0_add 18 = .ok (.aload_n 0, 1) := by decide +kernel
theorem dX0_add_19 : decode cX0_add 19 = .ok (.getfield 15, 3) := by decide +kernel
theorem dX0_add_22 : decode cX0_add 22 = .ok (.iload_n 1, 1) := by decide +kernel
theorem dX0_add_23 : decode cX0_add 23 = .ok (.aload_n 0, 1) := by decide +kernel
theorem dX0_add_24 : decode cX0_add 24 = .ok (.iload_n 1, 1) := by decide +kernel
theorem dX0_add_25 : decode cX0_add 25 = .ok (.invokevirtual 30, 3) := by decide +kernel
theorem dX0_add_28 : decode cX0_add 28 = .ok (.iconst 1, 1) := by decide +kernel
theorem dX0_add_29 : decode cX0_add 29 = .ok (.iadd, 1) := by decide +kernel
theorem dX0_add_30 : decode cX0_add 30 = .ok (.invokestatic 22, 3) := by decide +kernel
theorem dX0_add_33 : decode cX0_add 33 = .ok (.return_, 1) := by decide +kernel
theorem dX0_oilOn_0 : decode cX0_oilOn 0 = .ok (.aload_n 0, 1) := by decide +kernel
theorem dX0_oilOn_1 : decode cX0_oilOn 1 = .ok (.getfield 9, 3) := by decide +kernel
theorem dX0_oilOn_4 : decode cX0_oilOn 4 = .ok (.iload_n 1, 1) := by decide +kernel
theorem dX0_oilOn_5 : decode cX0_oilOn 5 = .ok (.bipush 40, 2) := by decide +kernel
theorem dX0_oilOn_7 : decode cX0_oilOn 7 = .ok (.imul, 1) := by decide +kernel
theorem dX0_oilOn_8 : decode cX0_oilOn 8 = .ok (.iload_n 2, 1) := by decide +kernel
theorem dX0_oilOn_9 : decode cX0_oilOn 9 = .ok (.iadd, 1) := by decide +kernel
theorem dX0_oilOn_10 : decode cX0_oilOn 10 = .ok (.invokestatic 26, 3) := by decide +kernel
theorem dX0_oilOn_13 : decode cX0_oilOn 13 = .ok (.ireturn, 1) := by decide +kernel
theorem dX1_init_0 : decode cX1_init 0 = .ok (.aload_n 0, 1) := by decide +kernel
theorem dX1_init_1 : decode cX1_init 1 = .ok (.invokespecial 3, 3) := by decide +kernel
theorem dX1_init_4 : decode cX1_init 4 = .ok (.aload_n 0, 1) := by decide +kernel
theorem dX1_init_5 : decode cX1_init 5 = .ok (.bipush 12, 2) := by decide +kernel
theorem dX1_init_7 : decode cX1_init 7 = .ok (.newarray .int, 2) := by decide +kernel
theorem dX1_init_9 : decode cX1_init 9 = .ok (.putfield 9, 3) := by decide +kernel
theorem dX1_init_12 : decode cX1_init 12 = .ok (.aload_n 0, 1) := by decide +kernel
theorem dX1_init_13 : decode cX1_init 13 = .ok (.bipush 12, 2) := by decide +kernel
theorem dX1_init_15 : decode cX1_init 15 = .ok (.newarray .int, 2) := by decide +kernel
theorem dX1_init_17 : decode cX1_init 17 = .ok (.putfield 15, 3) := by decide +kernel
theorem dX1_init_20 : decode cX1_init 20 = .ok (.return_, 1) := by decide +kernel
theorem dX1_clear_0 : decode cX1_clear 0 = .ok (.aload_n 0, 1) := by decide +kernel
theorem dX1_clear_1 : decode cX1_clear 1 = .ok (.iconst 0, 1) := by decide +kernel
theorem dX1_clear_2 : decode cX1_clear 2 = .ok (.putfield 18, 3) := by decide +kernel
theorem dX1_clear_5 : decode cX1_clear 5 = .ok (.return_, 1) := by decide +kernel
theorem dX1_add_0 : decode cX1_add 0 = .ok (.aload_n 0, 1) := by decide +kernel
theorem dX1_add_1 : decode cX1_add 1 = .ok (.getfield 9, 3) := by decide +kernel
theorem dX1_add_4 : decode cX1_add 4 = .ok (.aload_n 0, 1) := by decide +kernel
theorem dX1_add_5 : decode cX1_add 5 = .ok (.getfield 18, 3) := by decide +kernel
theorem dX1_add_8 : decode cX1_add 8 = .ok (.iload_n 1, 1) := by decide +kernel
theorem dX1_add_9 : decode cX1_add 9 = .ok (.invokestatic 22, 3) := by decide +kernel
theorem dX1_add_12 : decode cX1_add 12 = .ok (.aload_n 0, 1) := by decide +kernel
theorem dX1_add_13 : decode cX1_add 13 = .ok (.getfield 15, 3) := by decide +kernel
theorem dX1_add_16 : decode cX1_add 16 = .ok (.aload_n 0, 1) := by decide +kernel
theorem dX1_add_17 : decode cX1_add 17 = .ok (.getfield 18, 3) := by decide +kernel
theorem dX1_add_20 : decode cX1_add 20 = .ok (.iload_n 2, 1) := by decide +kernel
theorem dX1_add_21 : decode cX1_add 21 = .ok (.ifCond .eq 7, 3) := by decide +kernel
theorem dX1_add_24 : decode cX1_add 24 = .ok (.iconst 1, 1) := by decide +kernel
theorem dX1_add_25 : decode cX1_add 25 = .ok (.goto 4, 3) := by decide +kernel
theorem dX1_add_28 : decode cX1_add 28 = .ok (.iconst 0, 1) := by decide +kernel
theorem dX1_add_29 : decode cX1_add 29 = .ok (.invokestatic 22, 3) := by decide +kernel
theorem dX1_add_32 : decode cX1_add 32 = .ok (.aload_n 0, 1) := by decide +kernel
theorem dX1_add_33 : decode cX1_add 33 = .ok (.dup, 1) := by decide +kernel
theorem dX1_add_34 : decode cX1_add 34 = .ok (.getfield 18, 3) := by decide +kernel
theorem dX1_add_37 : decode cX1_add 37 = .ok (.iconst 1, 1) := by decide +kernel
theorem dX1_add_38 : decode cX1_add 38 = .ok (.iadd, 1) := by decide +kernel
theorem dX1_add_39 : decode cX1_add 39 = .ok (.putfield 18, 3) := by decide +kernel
theorem dX1_add_42 : decode cX1_add 42 = .ok (.return_, 1) := by decide +kernel
theorem dX1_wrongWith_0 : decode cX1_wrongWith 0 = .ok (.iconst 0, 1) := by decide +kernel
theorem dX1_wrongWith_1 : decode cX1_wrongWith 1 = .ok (.istore_n 2, 1) := by decide +kernel
theorem dX1_wrongWith_2 : decode cX1_wrongWith 2 = .ok (.iconst 0, 1) := by decide +kernel
theorem dX1_wrongWith_3 : decode cX1_wrongWith 3 = .ok (.istore_n 3, 1) := by decide +kernel
theorem dX1_wrongWith_4 : decode cX1_wrongWith 4 = .ok (.iload_n 3, 1) := by decide +kernel
theorem dX1_wrongWith_5 : decode cX1_wrongWith 5 = .ok (.aload_n 0, 1) := by decide +kernel
theorem dX1_wrongWith_6 : decode cX1_wrongWith 6 = .ok (.getfield 18, 3) := by decide +kernel
theorem dX1_wrongWith_9 : decode cX1_wrongWith 9 = .ok (.if_icmp .ge 54, 3) := by decide +kernel
theorem dX1_wrongWith_12 : decode cX1_wrongWith 12 = .ok (.aload_n 0, 1) := by decide +kernel
theorem dX1_wrongWith_13 : decode cX1_wrongWith 13 = .ok (.getfield 9, 3) := by decide +kernel
theorem dX1_wrongWith_16 : decode cX1_wrongWith 16 = .ok (.iload_n 3, 1) := by decide +kernel
theorem dX1_wrongWith_17 : decode cX1_wrongWith 17 = .ok (.invokestatic 26, 3) := by decide +kernel
theorem dX1_wrongWith_20 : decode cX1_wrongWith 20 = .ok (.iload_n 1, 1) := by decide +kernel
theorem dX1_wrongWith_21 : decode cX1_wrongWith 21 = .ok (.iand, 1) := by decide +kernel
theorem dX1_wrongWith_22 : decode cX1_wrongWith 22 = .ok (.ifCond .ne 7, 3) := by decide +kernel
theorem dX1_wrongWith_25 : decode cX1_wrongWith 25 = .ok (.iconst 1, 1) := by decide +kernel
theorem dX1_wrongWith_26 : decode cX1_wrongWith 26 = .ok (.goto 4, 3) := by decide +kernel
theorem dX1_wrongWith_29 : decode cX1_wrongWith 29 = .ok (.iconst 0, 1) := by decide +kernel
theorem dX1_wrongWith_30 : decode cX1_wrongWith 30 = .ok (.istore 4, 2) := by decide +kernel
theorem dX1_wrongWith_32 : decode cX1_wrongWith 32 = .ok (.iload 4, 2) := by decide +kernel
theorem dX1_wrongWith_34 : decode cX1_wrongWith 34 = .ok (.aload_n 0, 1) := by decide +kernel
theorem dX1_wrongWith_35 : decode cX1_wrongWith 35 = .ok (.getfield 15, 3) := by decide +kernel
theorem dX1_wrongWith_38 : decode cX1_wrongWith 38 = .ok (.iload_n 3, 1) := by decide +kernel
theorem dX1_wrongWith_39 : decode cX1_wrongWith 39 = .ok (.invokestatic 26, 3) := by decide +kernel
theorem dX1_wrongWith_42 : decode cX1_wrongWith 42 = .ok (.iconst 1, 1) := by decide +kernel
theorem dX1_wrongWith_43 : decode cX1_wrongWith 43 = .ok (.if_icmp .ne 7, 3) := by decide +kernel
theorem dX1_wrongWith_46 : decode cX1_wrongWith 46 = .ok (.iconst 1, 1) := by decide +kernel
theorem dX1_wrongWith_47 : decode cX1_wrongWith 47 = .ok (.goto 4, 3) := by decide +kernel
theorem dX1_wrongWith_50 : decode cX1_wrongWith 50 = .ok (.iconst 0, 1) := by decide +kernel
theorem dX1_wrongWith_51 : decode cX1_wrongWith 51 = .ok (.if_icmp .eq 6, 3) := by decide +kernel
theorem dX1_wrongWith_54 : decode cX1_wrongWith 54 = .ok (.iinc 2 1, 3) := by decide +kernel
theorem dX1_wrongWith_57 : decode cX1_wrongWith 57 = .ok (.iinc 3 1, 3) := by decide +kernel
theorem dX1_wrongWith_60 : decode cX1_wrongWith 60 = .ok (.goto (-56), 3) := by decide +kernel
theorem dX1_wrongWith_63 : decode cX1_wrongWith 63 = .ok (.iload_n 2, 1) := by decide +kernel
theorem dX1_wrongWith_64 : decode cX1_wrongWith 64 = .ok (.ireturn, 1) := by decide +kernel
theorem dX2_init_0 : decode cX2_init 0 = .ok (.aload_n 0, 1) := by decide +kernel
theorem dX2_init_1 : decode cX2_init 1 = .ok (.invokespecial 3, 3) := by decide +kernel
theorem dX2_init_4 : decode cX2_init 4 = .ok (.aload_n 0, 1) := by decide +kernel
theorem dX2_init_5 : decode cX2_init 5 = .ok (.sipush 300, 3) := by decide +kernel
theorem dX2_init_8 : decode cX2_init 8 = .ok (.newarray .long, 2) := by decide +kernel
theorem dX2_init_10 : decode cX2_init 10 = .ok (.putfield 9, 3) := by decide +kernel
theorem dX2_init_13 : decode cX2_init 13 = .ok (.aload_n 0, 1) := by decide +kernel
theorem dX2_init_14 : decode cX2_init 14 = .ok (.sipush 300, 3) := by decide +kernel
theorem dX2_init_17 : decode cX2_init 17 = .ok (.newarray .long, 2) := by decide +kernel
theorem dX2_init_19 : decode cX2_init 19 = .ok (.putfield 15, 3) := by decide +kernel
theorem dX2_init_22 : decode cX2_init 22 = .ok (.return_, 1) := by decide +kernel
theorem dX2_start_0 : decode cX2_start 0 = .ok (.iconst 0, 1) := by decide +kernel
theorem dX2_start_1 : decode cX2_start 1 = .ok (.istore_n 3, 1) := by decide +kernel
theorem dX2_start_2 : decode cX2_start 2 = .ok (.iload_n 3, 1) := by decide +kernel
theorem dX2_start_3 : decode cX2_start 3 = .ok (.aload_n 0, 1) := by decide +kernel
theorem dX2_start_4 : decode cX2_start 4 = .ok (.getfield 9, 3) := by decide +kernel
theorem dX2_start_7 : decode cX2_start 7 = .ok (.arraylength, 1) := by decide +kernel
theorem dX2_start_8 : decode cX2_start 8 = .ok (.if_icmp .ge 32, 3) := by decide +kernel
theorem dX2_start_11 : decode cX2_start 11 = .ok (.iload_n 3, 1) := by decide +kernel
theorem dX2_start_12 : decode cX2_start 12 = .ok (.aload_n 0, 1) := by decide +kernel
theorem dX2_start_13 : decode cX2_start 13 = .ok (.getfield 15, 3) := by decide +kernel
theorem dX2_start_16 : decode cX2_start 16 = .ok (.arraylength, 1) := by decide +kernel
theorem dX2_start_17 : decode cX2_start 17 = .ok (.if_icmp .ge 23, 3) := by decide +kernel
theorem dX2_start_20 : decode cX2_start 20 = .ok (.aload_n 0, 1) := by decide +kernel
theorem dX2_start_21 : decode cX2_start 21 = .ok (.getfield 9, 3) := by decide +kernel
theorem dX2_start_24 : decode cX2_start 24 = .ok (.iload_n 3, 1) := by decide +kernel
theorem dX2_start_25 : decode cX2_start 25 = .ok (.lconst 0, 1) := by decide +kernel
theorem dX2_start_26 : decode cX2_start 26 = .ok (.lastore, 1) := by decide +kernel
theorem dX2_start_27 : decode cX2_start 27 = .ok (.aload_n 0, 1) := by decide +kernel
theorem dX2_start_28 : decode cX2_start 28 = .ok (.getfield 15, 3) := by decide +kernel
theorem dX2_start_31 : decode cX2_start 31 = .ok (.iload_n 3, 1) := by decide +kernel
theorem dX2_start_32 : decode cX2_start 32 = .ok (.lconst 0, 1) := by decide +kernel
theorem dX2_start_33 : decode cX2_start 33 = .ok (.lastore, 1) := by decide +kernel
theorem dX2_start_34 : decode cX2_start 34 = .ok (.iinc 3 1, 3) := by decide +kernel
theorem dX2_start_37 : decode cX2_start 37 = .ok (.goto (-35), 3) := by decide +kernel
theorem dX2_start_40 : decode cX2_start 40 = .ok (.aload_n 0, 1) := by decide +kernel
theorem dX2_start_41 : decode cX2_start 41 = .ok (.iload_n 2, 1) := by decide +kernel
theorem dX2_start_42 : decode cX2_start 42 = .ok (.iconst 1, 1) := by decide +kernel
theorem dX2_start_43 : decode cX2_start 43 = .ok (.iadd, 1) := by decide +kernel
theorem dX2_start_44 : decode cX2_start 44 = .ok (.iconst 3, 1) := by decide +kernel
theorem dX2_start_45 : decode cX2_start 45 = .ok (.imul, 1) := by decide +kernel
theorem dX2_start_46 : decode cX2_start 46 = .ok (.putfield 18, 3) := by decide +kernel
theorem dX2_start_49 : decode cX2_start 49 = .ok (.aload_n 0, 1) := by decide +kernel
theorem dX2_start_50 : decode cX2_start 50 = .ok (.getfield 9, 3) := by decide +kernel
theorem dX2_start_53 : decode cX2_start 53 = .ok (.iload_n 1, 1) := by decide +kernel
theorem dX2_start_54 : decode cX2_start 54 = .ok (.iload_n 2, 1) := by decide +kernel
theorem dX2_start_55 : decode cX2_start 55 = .ok (.ldc2_w 22, 3) := by decide +kernel
theorem dX2_start_58 : decode cX2_start 58 = .ok (.invokestatic 24, 3) := by decide +kernel
theorem dX2_start_61 : decode cX2_start 61 = .ok (.return_, 1) := by decide +kernel
theorem dX2_passDay_0 : decode cX2_passDay 0 = .ok (.iconst 0, 1) := by decide +kernel
theorem dX2_passDay_1 : decode cX2_passDay 1 = .ok (.istore 4, 2) := by decide +kernel
theorem dX2_passDay_3 : decode cX2_passDay 3 = .ok (.iload 4, 2) := by decide +kernel
theorem dX2_passDay_5 : decode cX2_passDay 5 = .ok (.aload_n 0, 1) := by decide +kernel
theorem dX2_passDay_6 : decode cX2_passDay 6 = .ok (.getfield 18, 3) := by decide +kernel
theorem dX2_passDay_9 : decode cX2_passDay 9 = .ok (.if_icmp .ge 135, 3) := by decide +kernel
theorem dX2_passDay_12 : decode cX2_passDay 12 = .ok (.iload 4, 2) := by decide +kernel
theorem dX2_passDay_14 : decode cX2_passDay 14 = .ok (.aload_n 0, 1) := by decide +kernel
theorem dX2_passDay_15 : decode cX2_passDay 15 = .ok (.getfield 9, 3) := by decide +kernel
theorem dX2_passDay_18 : decode cX2_passDay 18 = .ok (.arraylength, 1) := by decide +kernel
theorem dX2_passDay_19 : decode cX2_passDay 19 = .ok (.if_icmp .ge 125, 3) := by decide +kernel
theorem dX2_passDay_22 : decode cX2_passDay 22 = .ok (.aload_n 0, 1) := by decide +kernel
theorem dX2_passDay_23 : decode cX2_passDay 23 = .ok (.getfield 9, 3) := by decide +kernel
theorem dX2_passDay_26 : decode cX2_passDay 26 = .ok (.iload 4, 2) := by decide +kernel
theorem dX2_passDay_28 : decode cX2_passDay 28 = .ok (.laload, 1) := by decide +kernel
theorem dX2_passDay_29 : decode cX2_passDay 29 = .ok (.lstore 5, 2) := by decide +kernel
theorem dX2_passDay_31 : decode cX2_passDay 31 = .ok (.lload 5, 2) := by decide +kernel
theorem dX2_passDay_33 : decode cX2_passDay 33 = .ok (.lconst 0, 1) := by decide +kernel
theorem dX2_passDay_34 : decode cX2_passDay 34 = .ok (.lcmp, 1) := by decide +kernel
theorem dX2_passDay_35 : decode cX2_passDay 35 = .ok (.ifCond .le 103, 3) := by decide +kernel
theorem dX2_passDay_38 : decode cX2_passDay 38 = .ok (.iload 4, 2) := by decide +kernel
theorem dX2_passDay_40 : decode cX2_passDay 40 = .ok (.iconst 3, 1) := by decide +kernel
theorem dX2_passDay_41 : decode cX2_passDay 41 = .ok (.irem, 1) := by decide +kernel
theorem dX2_passDay_42 : decode cX2_passDay 42 = .ok (.istore 7, 2) := by decide +kernel
theorem dX2_passDay_44 : decode cX2_passDay 44 = .ok (.iload 4, 2) := by decide +kernel
theorem dX2_passDay_46 : decode cX2_passDay 46 = .ok (.iconst 3, 1) := by decide +kernel
theorem dX2_passDay_47 : decode cX2_passDay 47 = .ok (.idiv, 1) := by decide +kernel
theorem dX2_passDay_48 : decode cX2_passDay 48 = .ok (.istore 8, 2) := by decide +kernel
theorem dX2_passDay_50 : decode cX2_passDay 50 = .ok (.lload 5, 2) := by decide +kernel
theorem dX2_passDay_52 : decode cX2_passDay 52 = .ok (.aload_n 1, 1) := by decide +kernel
theorem dX2_passDay_53 : decode cX2_passDay 53 = .ok (.iload 7, 2) := by decide +kernel
theorem dX2_passDay_55 : decode cX2_passDay 55 = .ok (.iconst 0, 1) := by decide +kernel
theorem dX2_passDay_56 : decode cX2_passDay 56 = .ok (.invokevirtual 28, 3) := by decide +kernel
theorem dX2_passDay_59 : decode cX2_passDay 59 = .ok (.i2l, 1) := by decide +kernel
theorem dX2_passDay_60 : decode cX2_passDay 60 = .ok (.lmul, 1) := by decide +kernel
theorem dX2_passDay_61 : decode cX2_passDay 61 = .ok (.ldc2_w 34, 3) := by decide +kernel
theorem dX2_passDay_64 : decode cX2_passDay 64 = .ok (.ldiv, 1) := by decide +kernel
theorem dX2_passDay_65 : decode cX2_passDay 65 = .ok (.lstore 9, 2) := by decide +kernel
theorem dX2_passDay_67 : decode cX2_passDay 67 = .ok (.lload 5, 2) := by decide +kernel
theorem dX2_passDay_69 : decode cX2_passDay 69 = .ok (.aload_n 1, 1) := by decide +kernel
theorem dX2_passDay_70 : decode cX2_passDay 70 = .ok (.iload 7, 2) := by decide +kernel
theorem dX2_passDay_72 : decode cX2_passDay 72 = .ok (.iconst 1, 1) := by decide +kernel
theorem dX2_passDay_73 : decode cX2_passDay 73 = .ok (.invokevirtual 28, 3) := by decide +kernel
theorem dX2_passDay_76 : decode cX2_passDay 76 = .ok (.i2l, 1) := by decide +kernel
theorem dX2_passDay_77 : decode cX2_passDay 77 = .ok (.lmul, 1) := by decide +kernel
theorem dX2_passDay_78 : decode cX2_passDay 78 = .ok (.ldc2_w 34, 3) := by decide +kernel
theorem dX2_passDay_81 : decode cX2_passDay 81 = .ok (.ldiv, 1) := by decide +kernel
theorem dX2_passDay_82 : decode cX2_passDay 82 = .ok (.lstore 11, 2) := by decide +kernel
theorem dX2_passDay_84 : decode cX2_passDay 84 = .ok (.aload_n 0, 1) := by decide +kernel
theorem dX2_passDay_85 : decode cX2_passDay 85 = .ok (.getfield 15, 3) := by decide +kernel
theorem dX2_passDay_88 : decode cX2_passDay 88 = .ok (.iconst 0, 1) := by decide +kernel
theorem dX2_passDay_89 : decode cX2_passDay 89 = .ok (.iload 8, 2) := by decide +kernel
theorem dX2_passDay_91 : decode cX2_passDay 91 = .ok (.iload_n 2, 1) := by decide +kernel
theorem dX2_passDay_92 : decode cX2_passDay 92 = .ok (.isub, 1) := by decide +kernel
theorem dX2_passDay_93 : decode cX2_passDay 93 = .ok (.lload 9, 2) := by decide +kernel
theorem dX2_passDay_95 : decode cX2_passDay 95 = .ok (.invokestatic 24, 3) := by decide +kernel
theorem dX2_passDay_98 : decode cX2_passDay 98 = .ok (.aload_n 0, 1) := by decide +kernel
theorem dX2_passDay_99 : decode cX2_passDay 99 = .ok (.getfield 15, 3) := by decide +kernel
theorem dX2_passDay_102 : decode cX2_passDay 102 = .ok (.iconst 1, 1) := by decide +kernel
theorem dX2_passDay_103 : decode cX2_passDay 103 = .ok (.iload 8, 2) := by decide +kernel
theorem dX2_passDay_105 : decode cX2_passDay 105 = .ok (.iload_n 3, 1) := by decide +kernel
theorem dX2_passDay_106 : decode cX2_passDay 106 = .ok (.isub, 1) := by decide +kernel
theorem dX2_passDay_107 : decode cX2_passDay 107 = .ok (.lload 11, 2) := by decide +kernel
theorem dX2_passDay_109 : decode cX2_passDay 109 = .ok (.invokestatic 24, 3) := by decide +kernel
theorem dX2_passDay_112 : decode cX2_passDay 112 = .ok (.aload_n 0, 1) := by decide +kernel
theorem dX2_passDay_113 : decode cX2_passDay 113 = .ok (.getfield 15, 3) := by decide +kernel
theorem dX2_passDay_116 : decode cX2_passDay 116 = .ok (.iconst 2, 1) := by decide +kernel
theorem dX2_passDay_117 : decode cX2_passDay 117 = .ok (.iload 8, 2) := by decide +kernel
theorem dX2_passDay_119 : decode cX2_passDay 119 = .ok (.lload 5, 2) := by decide +kernel
theorem dX2_passDay_121 : decode cX2_passDay 121 = .ok (.lload 9, 2) := by decide +kernel
theorem dX2_passDay_123 : decode cX2_passDay 123 = .ok (.lsub, 1) := by decide +kernel
theorem dX2_passDay_124 : decode cX2_passDay 124 = .ok (.lload 11, 2) := by decide +kernel
theorem dX2_passDay_126 : decode cX2_passDay 126 = .ok (.lsub, 1) := by decide +kernel
theorem dX2_passDay_127 : decode cX2_passDay 127 = .ok (.invokestatic 24, 3) := by decide +kernel
theorem dX2_passDay_130 : decode cX2_passDay 130 = .ok (.aload_n 0, 1) := by decide +kernel
theorem dX2_passDay_131 : decode cX2_passDay 131 = .ok (.getfield 9, 3) := by decide +kernel
theorem dX2_passDay_134 : decode cX2_passDay 134 = .ok (.iload 4, 2) := by decide +kernel
theorem dX2_passDay_136 : decode cX2_passDay 136 = .ok (.lconst 0, 1) := by decide +kernel
theorem dX2_passDay_137 : decode cX2_passDay 137 = .ok (.lastore, 1) := by decide +kernel
theorem dX2_passDay_138 : decode cX2_passDay 138 = .ok (.iinc 4 1, 3) := by decide +kernel
theorem dX2_passDay_141 : decode cX2_passDay 141 = .ok (.goto (-138), 3) := by decide +kernel
theorem dX2_passDay_144 : decode cX2_passDay 144 = .ok (.aload_n 0, 1) := by decide +kernel
theorem dX2_passDay_145 : decode cX2_passDay 145 = .ok (.getfield 9, 3) := by decide +kernel
theorem dX2_passDay_148 : decode cX2_passDay 148 = .ok (.astore 4, 2) := by decide +kernel
theorem dX2_passDay_150 : decode cX2_passDay 150 = .ok (.aload_n 0, 1) := by decide +kernel
theorem dX2_passDay_151 : decode cX2_passDay 151 = .ok (.aload_n 0, 1) := by decide +kernel
theorem dX2_passDay_152 : decode cX2_passDay 152 = .ok (.getfield 15, 3) := by decide +kernel
theorem dX2_passDay_155 : decode cX2_passDay 155 = .ok (.putfield 9, 3) := by decide +kernel
theorem dX2_passDay_158 : decode cX2_passDay 158 = .ok (.aload_n 0, 1) := by decide +kernel
theorem dX2_passDay_159 : decode cX2_passDay 159 = .ok (.aload 4, 2) := by decide +kernel
theorem dX2_passDay_161 : decode cX2_passDay 161 = .ok (.putfield 15, 3) := by decide +kernel
theorem dX2_passDay_164 : decode cX2_passDay 164 = .ok (.return_, 1) := by decide +kernel
theorem dX2_partsOf_0 : decode cX2_partsOf 0 = .ok (.lconst 0, 1) := by decide +kernel
theorem dX2_partsOf_1 : decode cX2_partsOf 1 = .ok (.lstore_n 2, 1) := by decide +kernel
theorem dX2_partsOf_2 : decode cX2_partsOf 2 = .ok (.iconst 0, 1) := by decide +kernel
theorem dX2_partsOf_3 : decode cX2_partsOf 3 = .ok (.istore 4, 2) := by decide +kernel
theorem dX2_partsOf_5 : decode cX2_partsOf 5 = .ok (.iload 4, 2) := by decide +kernel
theorem dX2_partsOf_7 : decode cX2_partsOf 7 = .ok (.aload_n 0, 1) := by decide +kernel
theorem dX2_partsOf_8 : decode cX2_partsOf 8 = .ok (.getfield 18, 3) := by decide +kernel
theorem dX2_partsOf_11 : decode cX2_partsOf 11 = .ok (.if_icmp .ge 37, 3) := by decide +kernel
theorem dX2_partsOf_14 : decode cX2_partsOf 14 = .ok (.iload 4, 2) := by decide +kernel
theorem dX2_partsOf_16 : decode cX2_partsOf 16 = .ok (.aload_n 0, 1) := by decide +kernel
theorem dX2_partsOf_17 : decode cX2_partsOf 17 = .ok (.getfield 9, 3) := by decide +kernel
theorem dX2_partsOf_20 : decode cX2_partsOf 20 = .ok (.arraylength, 1) := by decide +kernel
theorem dX2_partsOf_21 : decode cX2_partsOf 21 = .ok (.if_icmp .ge 27, 3) := by decide +kernel
theorem dX2_partsOf_24 : decode cX2_partsOf 24 = .ok (.iload 4, 2) := by decide +kernel
theorem dX2_partsOf_26 : decode cX2_partsOf 26 = .ok (.iconst 3, 1) := by decide +kernel
theorem dX2_partsOf_27 : decode cX2_partsOf 27 = .ok (.irem, 1) := by decide +kernel
theorem dX2_partsOf_28 : decode cX2_partsOf 28 = .ok (.iload_n 1, 1) := by decide +kernel
theorem dX2_partsOf_29 : decode cX2_partsOf 29 = .ok (.if_icmp .ne 13, 3) := by decide +kernel
theorem dX2_partsOf_32 : decode cX2_partsOf 32 = .ok (.lload_n 2, 1) := by decide +kernel
theorem dX2_partsOf_33 : decode cX2_partsOf 33 = .ok (.aload_n 0, 1) := by decide +kernel
theorem dX2_partsOf_34 : decode cX2_partsOf 34 = .ok (.getfield 9, 3) := by decide +kernel
theorem dX2_partsOf_37 : decode cX2_partsOf 37 = .ok (.iload 4, 2) := by decide +kernel
theorem dX2_partsOf_39 : decode cX2_partsOf 39 = .ok (.laload, 1) := by decide +kernel
theorem dX2_partsOf_40 : decode cX2_partsOf 40 = .ok (.ladd, 1) := by decide +kernel
theorem dX2_partsOf_41 : decode cX2_partsOf 41 = .ok (.lstore_n 2, 1) := by decide +kernel
theorem dX2_partsOf_42 : decode cX2_partsOf 42 = .ok (.iinc 4 1, 3) := by decide +kernel
theorem dX2_partsOf_45 : decode cX2_partsOf 45 = .ok (.goto (-40), 3) := by decide +kernel
theorem dX2_partsOf_48 : decode cX2_partsOf 48 = .ok (.lload_n 2, 1) := by decide +kernel
theorem dX2_partsOf_49 : decode cX2_partsOf 49 = .ok (.lreturn, 1) := by decide +kernel
theorem dX2_add_0 : decode cX2_add 0 = .ok (.iload_n 2, 1) := by decide +kernel
theorem dX2_add_1 : decode cX2_add 1 = .ok (.iconst 3, 1) := by decide +kernel
theorem dX2_add_2 : decode cX2_add 2 = .ok (.imul, 1) := by decide +kernel
theorem dX2_add_3 : decode cX2_add 3 = .ok (.iload_n 1, 1) := by decide +kernel
theorem dX2_add_4 : decode cX2_add 4 = .ok (.iadd, 1) := by decide +kernel
theorem dX2_add_5 : decode cX2_add 5 = .ok (.istore 5, 2) := by decide +kernel
theorem dX2_add_7 : decode cX2_add 7 = .ok (.iload_n 2, 1) := by decide +kernel
theorem dX2_add_8 : decode cX2_add 8 = .ok (.ifCond .le 23, 3) := by decide +kernel
theorem dX2_add_11 : decode cX2_add 11 = .ok (.iload 5, 2) := by decide +kernel
theorem dX2_add_13 : decode cX2_add 13 = .ok (.ifCond .lt 18, 3) := by decide +kernel
theorem dX2_add_16 : decode cX2_add 16 = .ok (.iload 5, 2) := by decide +kernel
theorem dX2_add_18 : decode cX2_add 18 = .ok (.aload_n 0, 1) := by decide +kernel
theorem dX2_add_19 : decode cX2_add 19 = .ok (.arraylength, 1) := by decide +kernel
theorem dX2_add_20 : decode cX2_add 20 = .ok (.if_icmp .ge 11, 3) := by decide +kernel
theorem dX2_add_23 : decode cX2_add 23 = .ok (.aload_n 0, 1) := by decide +kernel
theorem dX2_add_24 : decode cX2_add 24 = .ok (.iload 5, 2) := by decide +kernel
theorem dX2_add_26 : decode cX2_add 26 = .ok (.dup2, 1) := by decide +kernel
theorem dX2_add_27 : decode cX2_add 27 = .ok (.laload, 1) := by decide +kernel
theorem dX2_add_28 : decode cX2_add 28 = .ok (.lload_n 3, 1) := by decide +kernel
theorem dX2_add_29 : decode cX2_add 29 = .ok (.ladd, 1) := by decide +kernel
theorem dX2_add_30 : decode cX2_add 30 = .ok (.lastore, 1) := by decide +kernel
theorem dX2_add_31 : decode cX2_add 31 = .ok (.return_, 1) := by decide +kernel
theorem dX3_init_0 : decode cX3_init 0 = .ok (.aload_n 0, 1) := by decide +kernel
theorem dX3_init_1 : decode cX3_init 1 = .ok (.invokespecial 3, 3) := by decide +kernel
theorem dX3_init_4 : decode cX3_init 4 = .ok (.aload_n 0, 1) := by decide +kernel
theorem dX3_init_5 : decode cX3_init 5 = .ok (.bipush 9, 2) := by decide +kernel
theorem dX3_init_7 : decode cX3_init 7 = .ok (.newarray .int, 2) := by decide +kernel
theorem dX3_init_9 : decode cX3_init 9 = .ok (.putfield 9, 3) := by decide +kernel
theorem dX3_init_12 : decode cX3_init 12 = .ok (.aload_n 0, 1) := by decide +kernel
theorem dX3_init_13 : decode cX3_init 13 = .ok (.bipush 9, 2) := by decide +kernel
theorem dX3_init_15 : decode cX3_init 15 = .ok (.newarray .int, 2) := by decide +kernel
theorem dX3_init_17 : decode cX3_init 17 = .ok (.putfield 15, 3) := by decide +kernel
theorem dX3_init_20 : decode cX3_init 20 = .ok (.aload_n 0, 1) := by decide +kernel
theorem dX3_init_21 : decode cX3_init 21 = .ok (.bipush 9, 2) := by decide +kernel
theorem dX3_init_23 : decode cX3_init 23 = .ok (.newarray .int, 2) := by decide +kernel
theorem dX3_init_25 : decode cX3_init 25 = .ok (.putfield 18, 3) := by decide +kernel
theorem dX3_init_28 : decode cX3_init 28 = .ok (.aload_n 0, 1) := by decide +kernel
theorem dX3_init_29 : decode cX3_init 29 = .ok (.bipush 9, 2) := by decide +kernel
theorem dX3_init_31 : decode cX3_init 31 = .ok (.newarray .int, 2) := by decide +kernel
theorem dX3_init_33 : decode cX3_init 33 = .ok (.putfield 21, 3) := by decide +kernel
theorem dX3_init_36 : decode cX3_init 36 = .ok (.aload_n 0, 1) := by decide +kernel
theorem dX3_init_37 : decode cX3_init 37 = .ok (.bipush 9, 2) := by decide +kernel
theorem dX3_init_39 : decode cX3_init 39 = .ok (.newarray .int, 2) := by decide +kernel
theorem dX3_init_41 : decode cX3_init 41 = .ok (.putfield 24, 3) := by decide +kernel
theorem dX3_init_44 : decode cX3_init 44 = .ok (.aload_n 0, 1) := by decide +kernel
theorem dX3_init_45 : decode cX3_init 45 = .ok (.bipush 12, 2) := by decide +kernel
theorem dX3_init_47 : decode cX3_init 47 = .ok (.newarray .int, 2) := by decide +kernel
theorem dX3_init_49 : decode cX3_init 49 = .ok (.putfield 27, 3) := by decide +kernel
theorem dX3_init_52 : decode cX3_init 52 = .ok (.aload_n 0, 1) := by decide +kernel
theorem dX3_init_53 : decode cX3_init 53 = .ok (.bipush 9, 2) := by decide +kernel
theorem dX3_init_55 : decode cX3_init 55 = .ok (.newarray .int, 2) := by decide +kernel
theorem dX3_init_57 : decode cX3_init 57 = .ok (.putfield 30, 3) := by decide +kernel
theorem dX3_init_60 : decode cX3_init 60 = .ok (.aload_n 0, 1) := by decide +kernel
theorem dX3_init_61 : decode cX3_init 61 = .ok (.invokevirtual 33, 3) := by decide +kernel
theorem dX3_init_64 : decode cX3_init 64 = .ok (.return_, 1) := by decide +kernel
theorem dX3_setUntold_0 : decode cX3_setUntold 0 = .ok (.aload_n 0, 1) := by decide +kernel
theorem dX3_setUntold_1 : decode cX3_setUntold 1 = .ok (.iconst 0, 1) := by decide +kernel
theorem dX3_setUntold_2 : decode cX3_setUntold 2 = .ok (.putfield 36, 3) := by decide +kernel
theorem dX3_setUntold_5 : decode cX3_setUntold 5 = .ok (.aload_n 0, 1) := by decide +kernel
theorem dX3_setUntold_6 : decode cX3_setUntold 6 = .ok (.bipush 20, 2) := by decide +kernel
theorem dX3_setUntold_8 : decode cX3_setUntold 8 = .ok (.putfield 40, 3) := by decide +kernel
theorem dX3_setUntold_11 : decode cX3_setUntold 11 = .ok (.aload_n 0, 1) := by decide +kernel
theorem dX3_setUntold_12 : decode cX3_setUntold 12 = .ok (.bipush 50, 2) := by decide +kernel
theorem dX3_setUntold_14 : decode cX3_setUntold 14 = .ok (.putfield 43, 3) := by decide +kernel
theorem dX3_setUntold_17 : decode cX3_setUntold 17 = .ok (.aload_n 0, 1) := by decide +kernel
theorem dX3_setUntold_18 : decode cX3_setUntold 18 = .ok (.sipush 500, 3) := by decide +kernel
theorem dX3_setUntold_21 : decode cX3_setUntold 21 = .ok (.putfield 46, 3) := by decide +kernel
theorem dX3_setUntold_24 : decode cX3_setUntold 24 = .ok (.aload_n 0, 1) := by decide +kernel
theorem dX3_setUntold_25 : decode cX3_setUntold 25 = .ok (.iconst 0, 1) := by decide +kernel
theorem dX3_setUntold_26 : decode cX3_setUntold 26 = .ok (.putfield 49, 3) := by decide +kernel
theorem dX3_setUntold_29 : decode cX3_setUntold 29 = .ok (.aload_n 0, 1) := by decide +kernel
theorem dX3_setUntold_30 : decode cX3_setUntold 30 = .ok (.bipush 10, 2) := by decide +kernel
theorem dX3_setUntold_32 : decode cX3_setUntold 32 = .ok (.putfield 52, 3) := by decide +kernel
theorem dX3_setUntold_35 : decode cX3_setUntold 35 = .ok (.aload_n 0, 1) := by decide +kernel
theorem dX3_setUntold_36 : decode cX3_setUntold 36 = .ok (.iconst 1, 1) := by decide +kernel
theorem dX3_setUntold_37 : decode cX3_setUntold 37 = .ok (.putfield 55, 3) := by decide +kernel
theorem dX3_setUntold_40 : decode cX3_setUntold 40 = .ok (.aload_n 0, 1) := by decide +kernel
theorem dX3_setUntold_41 : decode cX3_setUntold 41 = .ok (.getfield 27, 3) := by decide +kernel
theorem dX3_setUntold_44 : decode cX3_setUntold 44 = .ok (.iconst 0, 1) := by decide +kernel
theorem dX3_setUntold_45 : decode cX3_setUntold 45 = .ok (.bipush 12, 2) := by decide +kernel
theorem dX3_setUntold_47 : decode cX3_setUntold 47 = .ok (.invokestatic 58, 3) := by decide +kernel
theorem dX3_setUntold_50 : decode cX3_setUntold 50 = .ok (.iconst 0, 1) := by decide +kernel
theorem dX3_setUntold_51 : decode cX3_setUntold 51 = .ok (.istore_n 1, 1) := by decide +kernel
theorem dX3_setUntold_52 : decode cX3_setUntold 52 = .ok (.iload_n 1, 1) := by decide +kernel
theorem dX3_setUntold_53 : decode cX3_setUntold 53 = .ok (.aload_n 0, 1) := by decide +kernel
theorem dX3_setUntold_54 : decode cX3_setUntold 54 = .ok (.getfield 30, 3) := by decide +kernel
theorem dX3_setUntold_57 : decode cX3_setUntold 57 = .ok (.arraylength, 1) := by decide +kernel
theorem dX3_setUntold_58 : decode cX3_setUntold 58 = .ok (.if_icmp .ge 30, 3) := by decide +kernel
theorem dX3_setUntold_61 : decode cX3_setUntold 61 = .ok (.aload_n 0, 1) := by decide +kernel
theorem dX3_setUntold_62 : decode cX3_setUntold 62 = .ok (.getfield 30, 3) := by decide +kernel
theorem dX3_setUntold_65 : decode cX3_setUntold 65 = .ok (.iload_n 1, 1) := by decide +kernel
theorem dX3_setUntold_66 : decode cX3_setUntold 66 = .ok (.iload_n 1, 1) := by decide +kernel
theorem dX3_setUntold_67 : decode cX3_setUntold 67 = .ok (.iconst 3, 1) := by decide +kernel
theorem dX3_setUntold_68 : decode cX3_setUntold 68 = .ok (.idiv, 1) := by decide +kernel
theorem dX3_setUntold_69 : decode cX3_setUntold 69 = .ok (.iload_n 1, 1) := by decide +kernel
theorem dX3_setUntold_70 : decode cX3_setUntold 70 = .ok (.iconst 3, 1) := by decide +kernel
theorem dX3_setUntold_71 : decode cX3_setUntold 71 = .ok (.irem, 1) := by decide +kernel
theorem dX3_setUntold_72 : decode cX3_setUntold 72 = .ok (.if_icmp .ne 8, 3) := by decide +kernel
theorem dX3_setUntold_75 : decode cX3_setUntold 75 = .ok (.bipush 100, 2) := by decide +kernel
theorem dX3_setUntold_77 : decode cX3_setUntold 77 = .ok (.goto 4, 3) := by decide +kernel
theorem dX3_setUntold_80 : decode cX3_setUntold 80 = .ok (.iconst 0, 1) := by decide +kernel
theorem dX3_setUntold_81 : decode cX3_setUntold 81 = .ok (.iastore, 1) := by decide +kernel
theorem dX3_setUntold_82 : decode cX3_setUntold 82 = .ok (.iinc 1 1, 3) := by decide +kernel
theorem dX3_setUntold_85 : decode cX3_setUntold 85 = .ok (.goto (-33), 3) := by decide +kernel
theorem dX3_setUntold_88 : decode cX3_setUntold 88 = .ok (.aload_n 0, 1) := by decide +kernel
theorem dX3_setUntold_89 : decode cX3_setUntold 89 = .ok (.iconst 0, 1) := by decide +kernel
theorem dX3_setUntold_90 : decode cX3_setUntold 90 = .ok (.putfield 62, 3) := by decide +kernel
theorem dX3_setUntold_93 : decode cX3_setUntold 93 = .ok (.return_, 1) := by decide +kernel
theorem dX3_readFrom_0 : decode cX3_readFrom 0 = .ok (.aload_n 0, 1) := by decide +kernel
theorem dX3_readFrom_1 : decode cX3_readFrom 1 = .ok (.invokevirtual 33, 3) := by decide +kernel
theorem dX3_readFrom_4 : decode cX3_readFrom 4 = .ok (.aload_n 1, 1) := by decide +kernel
theorem dX3_readFrom_5 : decode cX3_readFrom 5 = .ok (.invokevirtual 65, 3) := by decide +kernel
theorem dX3_readFrom_8 : decode cX3_readFrom 8 = .ok (.iconst 0, 1) := by decide +kernel
theorem dX3_readFrom_9 : decode cX3_readFrom 9 = .ok (.istore_n 2, 1) := by decide +kernel
theorem dX3_readFrom_10 : decode cX3_readFrom 10 = .ok (.iload_n 2, 1) := by decide +kernel
theorem dX3_readFrom_11 : decode cX3_readFrom 11 = .ok (.sipush 500, 3) := by decide +kernel
theorem dX3_readFrom_14 : decode cX3_readFrom 14 = .ok (.if_icmp .gt 37, 3) := by decide +kernel
theorem dX3_readFrom_17 : decode cX3_readFrom 17 = .ok (.aload_n 1, 1) := by decide +kernel
theorem dX3_readFrom_18 : decode cX3_readFrom 18 = .ok (.invokevirtual 70, 3) := by decide +kernel
theorem dX3_readFrom_21 : decode cX3_readFrom 21 = .ok (.ifCond .eq 5, 3) := by decide +kernel
theorem dX3_readFrom_24 : decode cX3_readFrom 24 = .ok (.iconst 1, 1) := by decide +kernel
theorem dX3_readFrom_25 : decode cX3_readFrom 25 = .ok (.ireturn, 1) := by decide +kernel
theorem dX3_readFrom_26 : decode cX3_readFrom 26 = .ok (.aload_n 0, 1) := by decide +kernel
theorem dX3_readFrom_27 : decode cX3_readFrom 27 = .ok (.aload_n 1, 1) := by decide +kernel
theorem dX3_readFrom_28 : decode cX3_readFrom 28 = .ok (.invokevirtual 74, 3) := by decide +kernel
theorem dX3_readFrom_31 : decode cX3_readFrom 31 = .ok (.ifCond .eq 12, 3) := by decide +kernel
theorem dX3_readFrom_34 : decode cX3_readFrom 34 = .ok (.aload_n 1, 1) := by decide +kernel
theorem dX3_readFrom_35 : decode cX3_readFrom 35 = .ok (.bipush 59, 2) := by decide +kernel
theorem dX3_readFrom_37 : decode cX3_readFrom 37 = .ok (.invokevirtual 78, 3) := by decide +kernel
theorem dX3_readFrom_40 : decode cX3_readFrom 40 = .ok (.ifCond .ne 5, 3) := by decide +kernel
theorem dX3_readFrom_43 : decode cX3_readFrom 43 = .ok (.iconst 0, 1) := by decide +kernel
theorem dX3_readFrom_44 : decode cX3_readFrom 44 = .ok (.ireturn, 1) := by decide +kernel
theorem dX3_readFrom_45 : decode cX3_readFrom 45 = .ok (.iinc 2 1, 3) := by decide +kernel
theorem dX3_readFrom_48 : decode cX3_readFrom 48 = .ok (.goto (-38), 3) := by decide +kernel
theorem dX3_readFrom_51 : decode cX3_readFrom 51 = .ok (.iconst 1, 1) := by decide +kernel
theorem dX3_readFrom_52 : decode cX3_readFrom 52 = .ok (.ireturn, 1) := by decide +kernel
theorem dX3_readClause_0 : decode cX3_readClause 0 = .ok (.aload_n 1, 1) := by decide +kernel
theorem dX3_readClause_1 : decode cX3_readClause 1 = .ok (.invokevirtual 82, 3) := by decide +kernel
theorem dX3_readClause_4 : decode cX3_readClause 4 = .ok (.ifCond .ne 5, 3) := by decide +kernel
theorem dX3_readClause_7 : decode cX3_readClause 7 = .ok (.iconst 0, 1) := by decide +kernel
theorem dX3_readClause_8 : decode cX3_readClause 8 = .ok (.ireturn, 1) := by decide +kernel
theorem dX3_readClause_9 : decode cX3_readClause 9 = .ok (.aload_n 1, 1) := by decide +kernel
theorem dX3_readClause_10 : decode cX3_readClause 10 = .ok (.ldc 85, 2) := by decide +kernel
theorem dX3_readClause_12 : decode cX3_readClause 12 = .ok (.invokevirtual 87, 3) := by decide +kernel
theorem dX3_readClause_15 : decode cX3_readClause 15 = .ok (.ifCond .eq 9, 3) := by decide +kernel
theorem dX3_readClause_18 : decode cX3_readClause 18 = .ok (.aload_n 0, 1) := by decide +kernel
theorem dX3_readClause_19 : decode cX3_readClause 19 = .ok (.aload_n 1, 1) := by decide +kernel
theorem dX3_readClause_20 : decode cX3_readClause 20 = .ok (.invokevirtual 91, 3) := by decide +kernel
theorem dX3_readClause_23 : decode cX3_readClause 23 = .ok (.ireturn, 1) := by decide +kernel
theorem dX3_readClause_24 : decode cX3_readClause 24 = .ok (.aload_n 1, 1) := by decide +kernel
theorem dX3_readClause_25 : decode cX3_readClause 25 = .ok (.ldc 94, 2) := by decide +kernel
theorem dX3_readClause_27 : decode cX3_readClause 27 = .ok (.invokevirtual 87, 3) := by decide +kernel
theorem dX3_readClause_30 : decode cX3_readClause 30 = .ok (.ifCond .eq 26, 3) := by decide +kernel
theorem dX3_readClause_33 : decode cX3_readClause 33 = .ok (.aload_n 0, 1) := by decide +kernel
theorem dX3_readClause_34 : decode cX3_readClause 34 = .ok (.aload_n 1, 1) := by decide +kernel
theorem dX3_readClause_35 : decode cX3_readClause 35 = .ok (.iconst 1, 1) := by decide +kernel
theorem dX3_readClause_36 : decode cX3_readClause 36 = .ok (.invokevirtual 96, 3) := by decide +kernel
theorem dX3_readClause_39 : decode cX3_readClause 39 = .ok (.ifCond .eq 15, 3) := by decide +kernel
theorem dX3_readClause_42 : decode cX3_readClause 42 = .ok (.aload_n 0, 1) := by decide +kernel
theorem dX3_readClause_43 : decode cX3_readClause 43 = .ok (.aload_n 1, 1) := by decide +kernel
theorem dX3_readClause_44 : decode cX3_readClause 44 = .ok (.invokevirtual 100, 3) := by decide +kernel
theorem dX3_readClause_47 : decode cX3_readClause 47 = .ok (.ifCond .eq 7, 3) := by decide +kernel
theorem dX3_readClause_50 : decode cX3_readClause 50 = .ok (.iconst 1, 1) := by decide +kernel
theorem dX3_readClause_51 : decode cX3_readClause 51 = .ok (.goto 4, 3) := by decide +kernel
theorem dX3_readClause_54 : decode cX3_readClause 54 = .ok (.iconst 0, 1) := by decide +kernel
theorem dX3_readClause_55 : decode cX3_readClause 55 = .ok (.ireturn, 1) := by decide +kernel
theorem dX3_readClause_56 : decode cX3_readClause 56 = .ok (.aload_n 1, 1) := by decide +kernel
theorem dX3_readClause_57 : decode cX3_readClause 57 = .ok (.ldc 103, 2) := by decide +kernel
theorem dX3_readClause_59 : decode cX3_readClause 59 = .ok (.invokevirtual 87, 3) := by decide +kernel
theorem dX3_readClause_62 : decode cX3_readClause 62 = .ok (.ifCond .eq 26, 3) := by decide +kernel
theorem dX3_readClause_65 : decode cX3_readClause 65 = .ok (.aload_n 0, 1) := by decide +kernel
theorem dX3_readClause_66 : decode cX3_readClause 66 = .ok (.aload_n 1, 1) := by decide +kernel
theorem dX3_readClause_67 : decode cX3_readClause 67 = .ok (.iconst 2, 1) := by decide +kernel
theorem dX3_readClause_68 : decode cX3_readClause 68 = .ok (.invokevirtual 96, 3) := by decide +kernel
theorem dX3_readClause_71 : decode cX3_readClause 71 = .ok (.ifCond .eq 15, 3) := by decide +kernel
theorem dX3_readClause_74 : decode cX3_readClause 74 = .ok (.aload_n 0, 1) := by decide +kernel
theorem dX3_readClause_75 : decode cX3_readClause 75 = .ok (.aload_n 1, 1) := by decide +kernel
theorem dX3_readClause_76 : decode cX3_readClause 76 = .ok (.invokevirtual 105, 3) := by decide +kernel
theorem dX3_readClause_79 : decode cX3_readClause 79 = .ok (.ifCond .eq 7, 3) := by decide +kernel
theorem dX3_readClause_82 : decode cX3_readClause 82 = .ok (.iconst 1, 1) := by decide +kernel
theorem dX3_readClause_83 : decode cX3_readClause 83 = .ok (.goto 4, 3) := by decide +kernel
theorem dX3_readClause_86 : decode cX3_readClause 86 = .ok (.iconst 0, 1) := by decide +kernel
theorem dX3_readClause_87 : decode cX3_readClause 87 = .ok (.ireturn, 1) := by decide +kernel
theorem dX3_readClause_88 : decode cX3_readClause 88 = .ok (.aload_n 1, 1) := by decide +kernel
theorem dX3_readClause_89 : decode cX3_readClause 89 = .ok (.ldc 108, 2) := by decide +kernel
theorem dX3_readClause_91 : decode cX3_readClause 91 = .ok (.invokevirtual 87, 3) := by decide +kernel
theorem dX3_readClause_94 : decode cX3_readClause 94 = .ok (.ifCond .eq 26, 3) := by decide +kernel
theorem dX3_readClause_97 : decode cX3_readClause 97 = .ok (.aload_n 0, 1) := by decide +kernel
theorem dX3_readClause_98 : decode cX3_readClause 98 = .ok (.aload_n 1, 1) := by decide +kernel
theorem dX3_readClause_99 : decode cX3_readClause 99 = .ok (.iconst 4, 1) := by decide +kernel
theorem dX3_readClause_100 : decode cX3_readClause 100 = .ok (.invokevirtual 96, 3) := by decide +kernel
theorem dX3_readClause_103 : decode cX3_readClause 103 = .ok (.ifCond .eq 15, 3) := by decide +kernel
theorem dX3_readClause_106 : decode cX3_readClause 106 = .ok (.aload_n 0, 1) := by decide +kernel
theorem dX3_readClause_107 : decode cX3_readClause 107 = .ok (.aload_n 1, 1) := by decide +kernel
theorem dX3_readClause_108 : decode cX3_readClause 108 = .ok (.invokevirtual 110, 3) := by decide +kernel
theorem dX3_readClause_111 : decode cX3_readClause 111 = .ok (.ifCond .eq 7, 3) := by decide +kernel
theorem dX3_readClause_114 : decode cX3_readClause 114 = .ok (.iconst 1, 1) := by decide +kernel
theorem dX3_readClause_115 : decode cX3_readClause 115 = .ok (.goto 4, 3) := by decide +kernel
theorem dX3_readClause_118 : decode cX3_readClause 118 = .ok (.iconst 0, 1) := by decide +kernel
theorem dX3_readClause_119 : decode cX3_readClause 119 = .ok (.ireturn, 1) := by decide +kernel
theorem dX3_readClause_120 : decode cX3_readClause 120 = .ok (.aload_n 1, 1) := by decide +kernel
theorem dX3_readClause_121 : decode cX3_readClause 121 = .ok (.ldc 113, 2) := by decide +kernel
theorem dX3_readClause_123 : decode cX3_readClause 123 = .ok (.invokevirtual 87, 3) := by decide +kernel
theorem dX3_readClause_126 : decode cX3_readClause 126 = .ok (.ifCond .eq 27, 3) := by decide +kernel
theorem dX3_readClause_129 : decode cX3_readClause 129 = .ok (.aload_n 0, 1) := by decide +kernel
theorem dX3_readClause_130 : decode cX3_readClause 130 = .ok (.aload_n 1, 1) := by decide +kernel
theorem dX3_readClause_131 : decode cX3_readClause 131 = .ok (.bipush 8, 2) := by decide +kernel
theorem dX3_readClause_133 : decode cX3_readClause 133 = .ok (.invokevirtual 96, 3) := by decide +kernel
theorem dX3_readClause_136 : decode cX3_readClause 136 = .ok (.ifCond .eq 15, 3) := by decide +kernel
theorem dX3_readClause_139 : decode cX3_readClause 139 = .ok (.aload_n 0, 1) := by decide +kernel
theorem dX3_readClause_140 : decode cX3_readClause 140 = .ok (.aload_n 1, 1) := by decide +kernel
theorem dX3_readClause_141 : decode cX3_readClause 141 = .ok (.invokevirtual 115, 3) := by decide +kernel
theorem dX3_readClause_144 : decode cX3_readClause 144 = .ok (.ifCond .eq 7, 3) := by decide +kernel
theorem dX3_readClause_147 : decode cX3_readClause 147 = .ok (.iconst 1, 1) := by decide +kernel
theorem dX3_readClause_148 : decode cX3_readClause 148 = .ok (.goto 4, 3) := by decide +kernel
theorem dX3_readClause_151 : decode cX3_readClause 151 = .ok (.iconst 0, 1) := by decide +kernel
theorem dX3_readClause_152 : decode cX3_readClause 152 = .ok (.ireturn, 1) := by decide +kernel
theorem dX3_readClause_153 : decode cX3_readClause 153 = .ok (.aload_n 1, 1) := by decide +kernel
theorem dX3_readClause_154 : decode cX3_readClause 154 = .ok (.ldc 118, 2) := by decide +kernel
theorem dX3_readClause_156 : decode cX3_readClause 156 = .ok (.invokevirtual 87, 3) := by decide +kernel
theorem dX3_readClause_159 : decode cX3_readClause 159 = .ok (.ifCond .eq 27, 3) := by decide +kernel
theorem dX3_readClause_162 : decode cX3_readClause 162 = .ok (.aload_n 0, 1) := by decide +kernel
theorem dX3_readClause_163 : decode cX3_readClause 163 = .ok (.aload_n 1, 1) := by decide +kernel
theorem dX3_readClause_164 : decode cX3_readClause 164 = .ok (.bipush 16, 2) := by decide +kernel
theorem dX3_readClause_166 : decode cX3_readClause 166 = .ok (.invokevirtual 96, 3) := by decide +kernel
theorem dX3_readClause_169 : decode cX3_readClause 169 = .ok (.ifCond .eq 15, 3) := by decide +kernel
theorem dX3_readClause_172 : decode cX3_readClause 172 = .ok (.aload_n 0, 1) := by decide +kernel
theorem dX3_readClause_173 : decode cX3_readClause 173 = .ok (.aload_n 1, 1) := by decide +kernel
theorem dX3_readClause_174 : decode cX3_readClause 174 = .ok (.invokevirtual 120, 3) := by decide +kernel
theorem dX3_readClause_177 : decode cX3_readClause 177 = .ok (.ifCond .eq 7, 3) := by decide +kernel
theorem dX3_readClause_180 : decode cX3_readClause 180 = .ok (.iconst 1, 1) := by decide +kernel
theorem dX3_readClause_181 : decode cX3_readClause 181 = .ok (.goto 4, 3) := by decide +kernel
theorem dX3_readClause_184 : decode cX3_readClause 184 = .ok (.iconst 0, 1) := by decide +kernel
theorem dX3_readClause_185 : decode cX3_readClause 185 = .ok (.ireturn, 1) := by decide +kernel
theorem dX3_readClause_186 : decode cX3_readClause 186 = .ok (.aload_n 1, 1) := by decide +kernel
theorem dX3_readClause_187 : decode cX3_readClause 187 = .ok (.iconst 1, 1) := by decide +kernel
theorem dX3_readClause_188 : decode cX3_readClause 188 = .ok (.aload_n 1, 1) := by decide +kernel
theorem dX3_readClause_189 : decode cX3_readClause 189 = .ok (.getfield 123, 3) := by decide +kernel
theorem dX3_readClause_192 : decode cX3_readClause 192 = .ok (.invokevirtual 126, 3) := by decide +kernel
theorem dX3_readClause_195 : decode cX3_readClause 195 = .ok (.ireturn, 1) := by decide +kernel
theorem dX3_isFirst_0 : decode cX3_isFirst 0 = .ok (.aload_n 0, 1) := by decide +kernel
theorem dX3_isFirst_1 : decode cX3_isFirst 1 = .ok (.getfield 62, 3) := by decide +kernel
theorem dX3_isFirst_4 : decode cX3_isFirst 4 = .ok (.iload_n 2, 1) := by decide +kernel
theorem dX3_isFirst_5 : decode cX3_isFirst 5 = .ok (.iand, 1) := by decide +kernel
theorem dX3_isFirst_6 : decode cX3_isFirst 6 = .ok (.ifCond .eq 13, 3) := by decide +kernel
theorem dX3_isFirst_9 : decode cX3_isFirst 9 = .ok (.aload_n 1, 1) := by decide +kernel
theorem dX3_isFirst_10 : decode cX3_isFirst 10 = .ok (.iconst 3, 1) := by decide +kernel
theorem dX3_isFirst_11 : decode cX3_isFirst 11 = .ok (.aload_n 1, 1) := by decide +kernel
theorem dX3_isFirst_12 : decode cX3_isFirst 12 = .ok (.getfield 123, 3) := by decide +kernel
theorem dX3_isFirst_15 : decode cX3_isFirst 15 = .ok (.invokevirtual 126, 3) := by decide +kernel
theorem dX3_isFirst_18 : decode cX3_isFirst 18 = .ok (.ireturn, 1) := by decide +kernel
theorem dX3_isFirst_19 : decode cX3_isFirst 19 = .ok (.aload_n 0, 1) := by decide +kernel
theorem dX3_isFirst_20 : decode cX3_isFirst 20 = .ok (.dup, 1) := by decide +kernel
theorem dX3_isFirst_21 : decode cX3_isFirst 21 = .ok (.getfield 62, 3) := by decide +kernel
theorem dX3_isFirst_24 : decode cX3_isFirst 24 = .ok (.iload_n 2, 1) := by decide +kernel
theorem dX3_isFirst_25 : decode cX3_isFirst 25 = .ok (.ior, 1) := by decide +kernel
theorem dX3_isFirst_26 : decode cX3_isFirst 26 = .ok (.putfield 62, 3) := by decide +kernel
theorem dX3_isFirst_29 : decode cX3_isFirst 29 = .ok (.iconst 1, 1) := by decide +kernel
theorem dX3_isFirst_30 : decode cX3_isFirst 30 = .ok (.ireturn, 1) := by decide +kernel
theorem dX3_readLight_0 : decode cX3_readLight 0 = .ok (.aload_n 0, 1) := by decide +kernel
theorem dX3_readLight_1 : decode cX3_readLight 1 = .ok (.getfield 36, 3) := by decide +kernel
theorem dX3_readLight_4 : decode cX3_readLight 4 = .ok (.bipush 9, 2) := by decide +kernel
theorem dX3_readLight_6 : decode cX3_readLight 6 = .ok (.if_icmp .lt 13, 3) := by decide +kernel
theorem dX3_readLight_9 : decode cX3_readLight 9 = .ok (.aload_n 1, 1) := by decide +kernel
theorem dX3_readLight_10 : decode cX3_readLight 10 = .ok (.iconst 3, 1) := by decide +kernel
theorem dX3_readLight_11 : decode cX3_readLight 11 = .ok (.aload_n 1, 1) := by decide +kernel
theorem dX3_readLight_12 : decode cX3_readLight 12 = .ok (.getfield 123, 3) := by decide +kernel
theorem dX3_readLight_15 : decode cX3_readLight 15 = .ok (.invokevirtual 126, 3) := by decide +kernel
theorem dX3_readLight_18 : decode cX3_readLight 18 = .ok (.ireturn, 1) := by decide +kernel
theorem dX3_readLight_19 : decode cX3_readLight 19 = .ok (.aload_n 1, 1) := by decide +kernel
theorem dX3_readLight_20 : decode cX3_readLight 20 = .ok (.invokevirtual 82, 3) := by decide +kernel
theorem dX3_readLight_23 : decode cX3_readLight 23 = .ok (.ifCond .ne 5, 3) := by decide +kernel
theorem dX3_readLight_26 : decode cX3_readLight 26 = .ok (.iconst 0, 1) := by decide +kernel
theorem dX3_readLight_27 : decode cX3_readLight 27 = .ok (.ireturn, 1) := by decide +kernel
theorem dX3_readLight_28 : decode cX3_readLight 28 = .ok (.aload_n 1, 1) := by decide +kernel
theorem dX3_readLight_29 : decode cX3_readLight 29 = .ok (.invokestatic 130, 3) := by decide +kernel
theorem dX3_readLight_32 : decode cX3_readLight 32 = .ok (.istore_n 2, 1) := by decide +kernel
theorem dX3_readLight_33 : decode cX3_readLight 33 = .ok (.iload_n 2, 1) := by decide +kernel
theorem dX3_readLight_34 : decode cX3_readLight 34 = .ok (.iconst (-1), 1) := by decide +kernel
theorem dX3_readLight_35 : decode cX3_readLight 35 = .ok (.if_icmp .ne 13, 3) := by decide +kernel
theorem dX3_readLight_38 : decode cX3_readLight 38 = .ok (.aload_n 1, 1) := by decide +kernel
theorem dX3_readLight_39 : decode cX3_readLight 39 = .ok (.iconst 1, 1) := by decide +kernel
theorem dX3_readLight_40 : decode cX3_readLight 40 = .ok (.aload_n 1, 1) := by decide +kernel
theorem dX3_readLight_41 : decode cX3_readLight 41 = .ok (.getfield 123, 3) := by decide +kernel
theorem dX3_readLight_44 : decode cX3_readLight 44 = .ok (.invokevirtual 126, 3) := by decide +kernel
theorem dX3_readLight_47 : decode cX3_readLight 47 = .ok (.ireturn, 1) := by decide +kernel
theorem dX3_readLight_48 : decode cX3_readLight 48 = .ok (.aload_n 0, 1) := by decide +kernel
theorem dX3_readLight_49 : decode cX3_readLight 49 = .ok (.getfield 9, 3) := by decide +kernel
theorem dX3_readLight_52 : decode cX3_readLight 52 = .ok (.aload_n 0, 1) := by decide +kernel
theorem dX3_readLight_53 : decode cX3_readLight 53 = .ok (.getfield 36, 3) := by decide +kernel
theorem dX3_readLight_56 : decode cX3_readLight 56 = .ok (.iload_n 2, 1) := by decide +kernel
theorem dX3_readLight_57 : decode cX3_readLight 57 = .ok (.invokestatic 58, 3) := by decide +kernel
theorem dX3_readLight_60 : decode cX3_readLight 60 = .ok (.aload_n 1, 1) := by decide +kernel
theorem dX3_readLight_61 : decode cX3_readLight 61 = .ok (.iconst 0, 1) := by decide +kernel
theorem dX3_readLight_62 : decode cX3_readLight 62 = .ok (.bipush 99, 2) := by decide +kernel
theorem dX3_readLight_64 : decode cX3_readLight 64 = .ok (.invokevirtual 134, 3) := by decide +kernel
theorem dX3_readLight_67 : decode cX3_readLight 67 = .ok (.ifCond .ne 5, 3) := by decide +kernel
theorem dX3_readLight_70 : decode cX3_readLight 70 = .ok (.iconst 0, 1) := by decide +kernel
theorem dX3_readLight_71 : decode cX3_readLight 71 = .ok (.ireturn, 1) := by decide +kernel
theorem dX3_readLight_72 : decode cX3_readLight 72 = .ok (.aload_n 0, 1) := by decide +kernel
theorem dX3_readLight_73 : decode cX3_readLight 73 = .ok (.getfield 15, 3) := by decide +kernel
theorem dX3_readLight_76 : decode cX3_readLight 76 = .ok (.aload_n 0, 1) := by decide +kernel
theorem dX3_readLight_77 : decode cX3_readLight 77 = .ok (.getfield 36, 3) := by decide +kernel
theorem dX3_readLight_80 : decode cX3_readLight 80 = .ok (.aload_n 1, 1) := by decide +kernel
theorem dX3_readLight_81 : decode cX3_readLight 81 = .ok (.getfield 137, 3) := by decide +kernel
theorem dX3_readLight_84 : decode cX3_readLight 84 = .ok (.invokestatic 58, 3) := by decide +kernel
theorem dX3_readLight_87 : decode cX3_readLight 87 = .ok (.aload_n 1, 1) := by decide +kernel
theorem dX3_readLight_88 : decode cX3_readLight 88 = .ok (.iconst 0, 1) := by decide +kernel
theorem dX3_readLight_89 : decode cX3_readLight 89 = .ok (.bipush 99, 2) := by decide +kernel
theorem dX3_readLight_91 : decode cX3_readLight 91 = .ok (.invokevirtual 134, 3) := by decide +kernel
theorem dX3_readLight_94 : decode cX3_readLight 94 = .ok (.ifCond .ne 5, 3) := by decide +kernel
theorem dX3_readLight_97 : decode cX3_readLight 97 = .ok (.iconst 0, 1) := by decide +kernel
theorem dX3_readLight_98 : decode cX3_readLight 98 = .ok (.ireturn, 1) := by decide +kernel
theorem dX3_readLight_99 : decode cX3_readLight 99 = .ok (.aload_n 0, 1) := by decide +kernel
theorem dX3_readLight_100 : decode cX3_readLight 100 = .ok (.getfield 18, 3) := by decide +kernel
theorem dX3_readLight_103 : decode cX3_readLight 103 = .ok (.aload_n 0, 1) := by decide +kernel
theorem dX3_readLight_104 : decode cX3_readLight 104 = .ok (.getfield 36, 3) := by decide +kernel
theorem dX3_readLight_107 : decode cX3_readLight 107 = .ok (.aload_n 1, 1) := by decide +kernel
theorem dX3_readLight_108 : decode cX3_readLight 108 = .ok (.getfield 137, 3) := by decide +kernel
theorem dX3_readLight_111 : decode cX3_readLight 111 = .ok (.invokestatic 58, 3) := by decide +kernel
theorem dX3_readLight_114 : decode cX3_readLight 114 = .ok (.aload_n 1, 1) := by decide +kernel
theorem dX3_readLight_115 : decode cX3_readLight 115 = .ok (.iconst 0, 1) := by decide +kernel
theorem dX3_readLight_116 : decode cX3_readLight 116 = .ok (.sipush 999, 3) := by decide +kernel
theorem dX3_readLight_119 : decode cX3_readLight 119 = .ok (.invokevirtual 134, 3) := by decide +kernel
theorem dX3_readLight_122 : decode cX3_readLight 122 = .ok (.ifCond .ne 5, 3) := by decide +kernel
theorem dX3_readLight_125 : decode cX3_readLight 125 = .ok (.iconst 0, 1) := by decide +kernel
theorem dX3_readLight_126 : decode cX3_readLight 126 = .ok (.ireturn, 1) := by decide +kernel
theorem dX3_readLight_127 : decode cX3_readLight 127 = .ok (.aload_n 0, 1) := by decide +kernel
theorem dX3_readLight_128 : decode cX3_readLight 128 = .ok (.getfield 21, 3) := by decide +kernel
theorem dX3_readLight_131 : decode cX3_readLight 131 = .ok (.aload_n 0, 1) := by decide +kernel
theorem dX3_readLight_132 : decode cX3_readLight 132 = .ok (.getfield 36, 3) := by decide +kernel
theorem dX3_readLight_135 : decode cX3_readLight 135 = .ok (.aload_n 1, 1) := by decide +kernel
theorem dX3_readLight_136 : decode cX3_readLight 136 = .ok (.getfield 137, 3) := by decide +kernel
theorem dX3_readLight_139 : decode cX3_readLight 139 = .ok (.invokestatic 58, 3) := by decide +kernel
theorem dX3_readLight_142 : decode cX3_readLight 142 = .ok (.aload_n 1, 1) := by decide +kernel
theorem dX3_readLight_143 : decode cX3_readLight 143 = .ok (.iconst 0, 1) := by decide +kernel
theorem dX3_readLight_144 : decode cX3_readLight 144 = .ok (.bipush 99, 2) := by decide +kernel
theorem dX3_readLight_146 : decode cX3_readLight 146 = .ok (.invokevirtual 134, 3) := by decide +kernel
theorem dX3_readLight_149 : decode cX3_readLight 149 = .ok (.ifCond .ne 5, 3) := by decide +kernel
theorem dX3_readLight_152 : decode cX3_readLight 152 = .ok (.iconst 0, 1) := by decide +kernel
theorem dX3_readLight_153 : decode cX3_readLight 153 = .ok (.ireturn, 1) := by decide +kernel
theorem dX3_readLight_154 : decode cX3_readLight 154 = .ok (.aload_n 0, 1) := by decide +kernel
theorem dX3_readLight_155 : decode cX3_readLight 155 = .ok (.getfield 24, 3) := by decide +kernel
theorem dX3_readLight_158 : decode cX3_readLight 158 = .ok (.aload_n 0, 1) := by decide +kernel
theorem dX3_readLight_159 : decode cX3_readLight 159 = .ok (.getfield 36, 3) := by decide +kernel
theorem dX3_readLight_162 : decode cX3_readLight 162 = .ok (.aload_n 1, 1) := by decide +kernel
theorem dX3_readLight_163 : decode cX3_readLight 163 = .ok (.getfield 137, 3) := by decide +kernel
theorem dX3_readLight_166 : decode cX3_readLight 166 = .ok (.invokestatic 58, 3) := by decide +kernel
theorem dX3_readLight_169 : decode cX3_readLight 169 = .ok (.aload_n 0, 1) := by decide +kernel
theorem dX3_readLight_170 : decode cX3_readLight 170 = .ok (.dup, 1) := by decide +kernel
theorem dX3_readLight_171 : decode cX3_readLight 171 = .ok (.getfield 36, 3) := by decide +kernel
theorem dX3_readLight_174 : decode cX3_readLight 174 = .ok (.iconst 1, 1) := by decide +kernel
theorem dX3_readLight_175 : decode cX3_readLight 175 = .ok (.iadd, 1) := by decide +kernel
theorem dX3_readLight_176 : decode cX3_readLight 176 = .ok (.putfield 36, 3) := by decide +kernel
theorem dX3_readLight_179 : decode cX3_readLight 179 = .ok (.iconst 1, 1) := by decide +kernel
theorem dX3_readLight_180 : decode cX3_readLight 180 = .ok (.ireturn, 1) := by decide +kernel
theorem dX3_kindNamed_0 : decode cX3_kindNamed 0 = .ok (.iconst 0, 1) := by decide +kernel
theorem dX3_kindNamed_1 : decode cX3_kindNamed 1 = .ok (.istore_n 1, 1) := by decide +kernel
theorem dX3_kindNamed_2 : decode cX3_kindNamed 2 = .ok (.iload_n 1, 1) := by decide +kernel
theorem dX3_kindNamed_3 : decode cX3_kindNamed 3 = .ok (.iconst 5, 1) := by decide +kernel
theorem dX3_kindNamed_4 : decode cX3_kindNamed 4 = .ok (.if_icmp .ge 22, 3) := by decide +kernel
theorem dX3_kindNamed_7 : decode cX3_kindNamed 7 = .ok (.aload_n 0, 1) := by decide +kernel
theorem dX3_kindNamed_8 : decode cX3_kindNamed 8 = .ok (.iload_n 1, 1) := by decide +kernel
theorem dX3_kindNamed_9 : decode cX3_kindNamed 9 = .ok (.invokestatic 140, 3) := by decide +kernel
theorem dX3_kindNamed_12 : decode cX3_kindNamed 12 = .ok (.invokevirtual 87, 3) := by decide +kernel
theorem dX3_kindNamed_15 : decode cX3_kindNamed 15 = .ok (.ifCond .eq 5, 3) := by decide +kernel
theorem dX3_kindNamed_18 : decode cX3_kindNamed 18 = .ok (.iload_n 1, 1) := by decide +kernel
theorem dX3_kindNamed_19 : decode cX3_kindNamed 19 = .ok (.ireturn, 1) := by decide +kernel
theorem dX3_kindNamed_20 : decode cX3_kindNamed 20 = .ok (.iinc 1 1, 3) := by decide +kernel
theorem dX3_kindNamed_23 : decode cX3_kindNamed 23 = .ok (.goto (-21), 3) := by decide +kernel
theorem dX3_kindNamed_26 : decode cX3_kindNamed 26 = .ok (.iconst (-1), 1) := by decide +kernel
theorem dX3_kindNamed_27 : decode cX3_kindNamed 27 = .ok (.ireturn, 1) := by decide +kernel
theorem dX3_readBoat_0 : decode cX3_readBoat 0 = .ok (.aload_n 1, 1) := by decide +kernel
theorem dX3_readBoat_1 : decode cX3_readBoat 1 = .ok (.iconst 1, 1) := by decide +kernel
theorem dX3_readBoat_2 : decode cX3_readBoat 2 = .ok (.bipush 99, 2) := by decide +kernel
theorem dX3_readBoat_4 : decode cX3_readBoat 4 = .ok (.invokevirtual 134, 3) := by decide +kernel
theorem dX3_readBoat_7 : decode cX3_readBoat 7 = .ok (.ifCond .ne 5, 3) := by decide +kernel
theorem dX3_readBoat_10 : decode cX3_readBoat 10 = .ok (.iconst 0, 1) := by decide +kernel
theorem dX3_readBoat_11 : decode cX3_readBoat 11 = .ok (.ireturn, 1) := by decide +kernel
theorem dX3_readBoat_12 : decode cX3_readBoat 12 = .ok (.aload_n 0, 1) := by decide +kernel
theorem dX3_readBoat_13 : decode cX3_readBoat 13 = .ok (.aload_n 1, 1) := by decide +kernel
theorem dX3_readBoat_14 : decode cX3_readBoat 14 = .ok (.getfield 137, 3) := by decide +kernel
theorem dX3_readBoat_17 : decode cX3_readBoat 17 = .ok (.putfield 40, 3) := by decide +kernel
theorem dX3_readBoat_20 : decode cX3_readBoat 20 = .ok (.aload_n 1, 1) := by decide +kernel
theorem dX3_readBoat_21 : decode cX3_readBoat 21 = .ok (.iconst 1, 1) := by decide +kernel
theorem dX3_readBoat_22 : decode cX3_readBoat 22 = .ok (.sipush 999, 3) := by decide +kernel
theorem dX3_readBoat_25 : decode cX3_readBoat 25 = .ok (.invokevirtual 134, 3) := by decide +kernel
theorem dX3_readBoat_28 : decode cX3_readBoat 28 = .ok (.ifCond .ne 5, 3) := by decide +kernel
theorem dX3_readBoat_31 : decode cX3_readBoat 31 = .ok (.iconst 0, 1) := by decide +kernel
theorem dX3_readBoat_32 : decode cX3_readBoat 32 = .ok (.ireturn, 1) := by decide +kernel
theorem dX3_readBoat_33 : decode cX3_readBoat 33 = .ok (.aload_n 0, 1) := by decide +kernel
theorem dX3_readBoat_34 : decode cX3_readBoat 34 = .ok (.aload_n 1, 1) := by decide +kernel
theorem dX3_readBoat_35 : decode cX3_readBoat 35 = .ok (.getfield 137, 3) := by decide +kernel
theorem dX3_readBoat_38 : decode cX3_readBoat 38 = .ok (.putfield 43, 3) := by decide +kernel
theorem dX3_readBoat_41 : decode cX3_readBoat 41 = .ok (.iconst 1, 1) := by decide +kernel
theorem dX3_readBoat_42 : decode cX3_readBoat 42 = .ok (.ireturn, 1) := by decide +kernel
theorem dX3_readBarrel_0 : decode cX3_readBarrel 0 = .ok (.aload_n 1, 1) := by decide +kernel
theorem dX3_readBarrel_1 : decode cX3_readBarrel 1 = .ok (.iconst 0, 1) := by decide +kernel
theorem dX3_readBarrel_2 : decode cX3_readBarrel 2 = .ok (.sipush 9999, 3) := by decide +kernel
theorem dX3_readBarrel_5 : decode cX3_readBarrel 5 = .ok (.invokevirtual 134, 3) := by decide +kernel
theorem dX3_readBarrel_8 : decode cX3_readBarrel 8 = .ok (.ifCond .ne 5, 3) := by decide +kernel
theorem dX3_readBarrel_11 : decode cX3_readBarrel 11 = .ok (.iconst 0, 1) := by decide +kernel
theorem dX3_readBarrel_12 : decode cX3_readBarrel 12 = .ok (.ireturn, 1) := by decide +kernel
theorem dX3_readBarrel_13 : decode cX3_readBarrel 13 = .ok (.aload_n 0, 1) := by decide +kernel
theorem dX3_readBarrel_14 : decode cX3_readBarrel 14 = .ok (.aload_n 1, 1) := by decide +kernel
theorem dX3_readBarrel_15 : decode cX3_readBarrel 15 = .ok (.getfield 137, 3) := by decide +kernel
theorem dX3_readBarrel_18 : decode cX3_readBarrel 18 = .ok (.putfield 46, 3) := by decide +kernel
theorem dX3_readBarrel_21 : decode cX3_readBarrel 21 = .ok (.iconst 1, 1) := by decide +kernel
theorem dX3_readBarrel_22 : decode cX3_readBarrel 22 = .ok (.ireturn, 1) := by decide +kernel
theorem dX3_readHens_0 : decode cX3_readHens 0 = .ok (.aload_n 1, 1) := by decide +kernel
theorem dX3_readHens_1 : decode cX3_readHens 1 = .ok (.iconst 0, 1) := by decide +kernel
theorem dX3_readHens_2 : decode cX3_readHens 2 = .ok (.bipush 99, 2) := by decide +kernel
theorem dX3_readHens_4 : decode cX3_readHens 4 = .ok (.invokevirtual 134, 3) := by decide +kernel
theorem dX3_readHens_7 : decode cX3_readHens 7 = .ok (.ifCond .ne 5, 3) := by decide +kernel
theorem dX3_readHens_10 : decode cX3_readHens 10 = .ok (.iconst 0, 1) := by decide +kernel
theorem dX3_readHens_11 : decode cX3_readHens 11 = .ok (.ireturn, 1) := by decide +kernel
theorem dX3_readHens_12 : decode cX3_readHens 12 = .ok (.aload_n 0, 1) := by decide +kernel
theorem dX3_readHens_13 : decode cX3_readHens 13 = .ok (.aload_n 1, 1) := by decide +kernel
theorem dX3_readHens_14 : decode cX3_readHens 14 = .ok (.getfield 137, 3) := by decide +kernel
theorem dX3_readHens_17 : decode cX3_readHens 17 = .ok (.putfield 49, 3) := by decide +kernel
theorem dX3_readHens_20 : decode cX3_readHens 20 = .ok (.aload_n 1, 1) := by decide +kernel
theorem dX3_readHens_21 : decode cX3_readHens 21 = .ok (.iconst 1, 1) := by decide +kernel
theorem dX3_readHens_22 : decode cX3_readHens 22 = .ok (.bipush 99, 2) := by decide +kernel
theorem dX3_readHens_24 : decode cX3_readHens 24 = .ok (.invokevirtual 134, 3) := by decide +kernel
theorem dX3_readHens_27 : decode cX3_readHens 27 = .ok (.ifCond .ne 5, 3) := by decide +kernel
theorem dX3_readHens_30 : decode cX3_readHens 30 = .ok (.iconst 0, 1) := by decide +kernel
theorem dX3_readHens_31 : decode cX3_readHens 31 = .ok (.ireturn, 1) := by decide +kernel
theorem dX3_readHens_32 : decode cX3_readHens 32 = .ok (.aload_n 0, 1) := by decide +kernel
theorem dX3_readHens_33 : decode cX3_readHens 33 = .ok (.aload_n 1, 1) := by decide +kernel
theorem dX3_readHens_34 : decode cX3_readHens 34 = .ok (.getfield 137, 3) := by decide +kernel
theorem dX3_readHens_37 : decode cX3_readHens 37 = .ok (.putfield 52, 3) := by decide +kernel
theorem dX3_readHens_40 : decode cX3_readHens 40 = .ok (.iconst 1, 1) := by decide +kernel
theorem dX3_readHens_41 : decode cX3_readHens 41 = .ok (.ireturn, 1) := by decide +kernel
theorem dX3_readNights_0 : decode cX3_readNights 0 = .ok (.aload_n 0, 1) := by decide +kernel
theorem dX3_readNights_1 : decode cX3_readNights 1 = .ok (.iconst 0, 1) := by decide +kernel
theorem dX3_readNights_2 : decode cX3_readNights 2 = .ok (.putfield 55, 3) := by decide +kernel
theorem dX3_readNights_5 : decode cX3_readNights 5 = .ok (.iconst 0, 1) := by decide +kernel
theorem dX3_readNights_6 : decode cX3_readNights 6 = .ok (.istore_n 2, 1) := by decide +kernel
theorem dX3_readNights_7 : decode cX3_readNights 7 = .ok (.iload_n 2, 1) := by decide +kernel
theorem dX3_readNights_8 : decode cX3_readNights 8 = .ok (.bipush 12, 2) := by decide +kernel
theorem dX3_readNights_10 : decode cX3_readNights 10 = .ok (.if_icmp .gt 80, 3) := by decide +kernel
theorem dX3_readNights_13 : decode cX3_readNights 13 = .ok (.iload_n 2, 1) := by decide +kernel
theorem dX3_readNights_14 : decode cX3_readNights 14 = .ok (.ifCond .le 12, 3) := by decide +kernel
theorem dX3_readNights_17 : decode cX3_readNights 17 = .ok (.aload_n 1, 1) := by decide +kernel
theorem dX3_readNights_18 : decode cX3_readNights 18 = .ok (.bipush 44, 2) := by decide +kernel
theorem dX3_readNights_20 : decode cX3_readNights 20 = .ok (.invokevirtual 78, 3) := by decide +kernel
theorem dX3_readNights_23 : decode cX3_readNights 23 = .ok (.ifCond .eq 13, 3) := by decide +kernel
theorem dX3_readNights_26 : decode cX3_readNights 26 = .ok (.aload_n 1, 1) := by decide +kernel
theorem dX3_readNights_27 : decode cX3_readNights 27 = .ok (.iconst 1, 1) := by decide +kernel
theorem dX3_readNights_28 : decode cX3_readNights 28 = .ok (.bipush 24, 2) := by decide +kernel
theorem dX3_readNights_30 : decode cX3_readNights 30 = .ok (.invokevirtual 134, 3) := by decide +kernel
theorem dX3_readNights_33 : decode cX3_readNights 33 = .ok (.ifCond .ne 5, 3) := by decide +kernel
theorem dX3_readNights_36 : decode cX3_readNights 36 = .ok (.iconst 0, 1) := by decide +kernel
theorem dX3_readNights_37 : decode cX3_readNights 37 = .ok (.ireturn, 1) := by decide +kernel
theorem dX3_readNights_38 : decode cX3_readNights 38 = .ok (.iload_n 2, 1) := by decide +kernel
theorem dX3_readNights_39 : decode cX3_readNights 39 = .ok (.bipush 12, 2) := by decide +kernel
theorem dX3_readNights_41 : decode cX3_readNights 41 = .ok (.if_icmp .ne 13, 3) := by decide +kernel
theorem dX3_readNights_44 : decode cX3_readNights 44 = .ok (.aload_n 1, 1) := by decide +kernel
theorem dX3_readNights_45 : decode cX3_readNights 45 = .ok (.iconst 3, 1) := by decide +kernel
theorem dX3_readNights_46 : decode cX3_readNights 46 = .ok (.aload_n 1, 1) := by decide +kernel
theorem dX3_readNights_47 : decode cX3_readNights 47 = .ok (.getfield 144, 3) := by decide +kernel
theorem dX3_readNights_50 : decode cX3_readNights 50 = .ok (.invokevirtual 126, 3) := by decide +kernel
theorem dX3_readNights_53 : decode cX3_readNights 53 = .ok (.ireturn, 1) := by decide +kernel
theorem dX3_readNights_54 : decode cX3_readNights 54 = .ok (.aload_n 0, 1) := by decide +kernel
theorem dX3_readNights_55 : decode cX3_readNights 55 = .ok (.getfield 27, 3) := by decide +kernel
theorem dX3_readNights_58 : decode cX3_readNights 58 = .ok (.iload_n 2, 1) := by decide +kernel
theorem dX3_readNights_59 : decode cX3_readNights 59 = .ok (.aload_n 1, 1) := by decide +kernel
theorem dX3_readNights_60 : decode cX3_readNights 60 = .ok (.getfield 137, 3) := by decide +kernel
theorem dX3_readNights_63 : decode cX3_readNights 63 = .ok (.invokestatic 58, 3) := by decide +kernel
theorem dX3_readNights_66 : decode cX3_readNights 66 = .ok (.aload_n 0, 1) := by decide +kernel
theorem dX3_readNights_67 : decode cX3_readNights 67 = .ok (.iload_n 2, 1) := by decide +kernel
theorem dX3_readNights_68 : decode cX3_readNights 68 = .ok (.iconst 1, 1) := by decide +kernel
theorem dX3_readNights_69 : decode cX3_readNights 69 = .ok (.iadd, 1) := by decide +kernel
theorem dX3_readNights_70 : decode cX3_readNights 70 = .ok (.putfield 55, 3) := by decide +kernel
theorem dX3_readNights_73 : decode cX3_readNights 73 = .ok (.aload_n 1, 1) := by decide +kernel
theorem dX3_readNights_74 : decode cX3_readNights 74 = .ok (.bipush 59, 2) := by decide +kernel
theorem dX3_readNights_76 : decode cX3_readNights 76 = .ok (.invokevirtual 147, 3) := by decide +kernel
theorem dX3_readNights_79 : decode cX3_readNights 79 = .ok (.ifCond .eq 5, 3) := by decide +kernel
theorem dX3_readNights_82 : decode cX3_readNights 82 = .ok (.iconst 1, 1) := by decide +kernel
theorem dX3_readNights_83 : decode cX3_readNights 83 = .ok (.ireturn, 1) := by decide +kernel
theorem dX3_readNights_84 : decode cX3_readNights 84 = .ok (.iinc 2 1, 3) := by decide +kernel
theorem dX3_readNights_87 : decode cX3_readNights 87 = .ok (.goto (-80), 3) := by decide +kernel
theorem dX3_readNights_90 : decode cX3_readNights 90 = .ok (.iconst 1, 1) := by decide +kernel
theorem dX3_readNights_91 : decode cX3_readNights 91 = .ok (.ireturn, 1) := by decide +kernel
theorem dX3_readChances_0 : decode cX3_readChances 0 = .ok (.iconst 0, 1) := by decide +kernel
theorem dX3_readChances_1 : decode cX3_readChances 1 = .ok (.istore_n 2, 1) := by decide +kernel
theorem dX3_readChances_2 : decode cX3_readChances 2 = .ok (.iconst 0, 1) := by decide +kernel
theorem dX3_readChances_3 : decode cX3_readChances 3 = .ok (.istore_n 3, 1) := by decide +kernel
theorem dX3_readChances_4 : decode cX3_readChances 4 = .ok (.iload_n 3, 1) := by decide +kernel
theorem dX3_readChances_5 : decode cX3_readChances 5 = .ok (.aload_n 0, 1) := by decide +kernel
theorem dX3_readChances_6 : decode cX3_readChances 6 = .ok (.getfield 30, 3) := by decide +kernel
theorem dX3_readChances_9 : decode cX3_readChances 9 = .ok (.arraylength, 1) := by decide +kernel
theorem dX3_readChances_10 : decode cX3_readChances 10 = .ok (.if_icmp .ge 65, 3) := by decide +kernel
theorem dX3_readChances_13 : decode cX3_readChances 13 = .ok (.aload_n 1, 1) := by decide +kernel
theorem dX3_readChances_14 : decode cX3_readChances 14 = .ok (.iconst 0, 1) := by decide +kernel
theorem dX3_readChances_15 : decode cX3_readChances 15 = .ok (.bipush 100, 2) := by decide +kernel
theorem dX3_readChances_17 : decode cX3_readChances 17 = .ok (.invokevirtual 134, 3) := by decide +kernel
theorem dX3_readChances_20 : decode cX3_readChances 20 = .ok (.ifCond .ne 5, 3) := by decide +kernel
theorem dX3_readChances_23 : decode cX3_readChances 23 = .ok (.iconst 0, 1) := by decide +kernel
theorem dX3_readChances_24 : decode cX3_readChances 24 = .ok (.ireturn, 1) := by decide +kernel
theorem dX3_readChances_25 : decode cX3_readChances 25 = .ok (.aload_n 0, 1) := by decide +kernel
theorem dX3_readChances_26 : decode cX3_readChances 26 = .ok (.getfield 30, 3) := by decide +kernel
theorem dX3_readChances_29 : decode cX3_readChances 29 = .ok (.iload_n 3, 1) := by decide +kernel
theorem dX3_readChances_30 : decode cX3_readChances 30 = .ok (.aload_n 1, 1) := by decide +kernel
theorem dX3_readChances_31 : decode cX3_readChances 31 = .ok (.getfield 137, 3) := by decide +kernel
theorem dX3_readChances_34 : decode cX3_readChances 34 = .ok (.invokestatic 58, 3) := by decide +kernel
theorem dX3_readChances_37 : decode cX3_readChances 37 = .ok (.iload_n 2, 1) := by decide +kernel
theorem dX3_readChances_38 : decode cX3_readChances 38 = .ok (.aload_n 1, 1) := by decide +kernel
theorem dX3_readChances_39 : decode cX3_readChances 39 = .ok (.getfield 137, 3) := by decide +kernel
theorem dX3_readChances_42 : decode cX3_readChances 42 = .ok (.iadd, 1) := by decide +kernel
theorem dX3_readChances_43 : decode cX3_readChances 43 = .ok (.istore_n 2, 1) := by decide +kernel
theorem dX3_readChances_44 : decode cX3_readChances 44 = .ok (.iload_n 3, 1) := by decide +kernel
theorem dX3_readChances_45 : decode cX3_readChances 45 = .ok (.iconst 3, 1) := by decide +kernel
theorem dX3_readChances_46 : decode cX3_readChances 46 = .ok (.irem, 1) := by decide +kernel
theorem dX3_readChances_47 : decode cX3_readChances 47 = .ok (.iconst 2, 1) := by decide +kernel
theorem dX3_readChances_48 : decode cX3_readChances 48 = .ok (.if_icmp .ne 21, 3) := by decide +kernel
theorem dX3_readChances_51 : decode cX3_readChances 51 = .ok (.iload_n 2, 1) := by decide +kernel
theorem dX3_readChances_52 : decode cX3_readChances 52 = .ok (.bipush 100, 2) := by decide +kernel
theorem dX3_readChances_54 : decode cX3_readChances 54 = .ok (.if_icmp .eq 13, 3) := by decide +kernel
theorem dX3_readChances_57 : decode cX3_readChances 57 = .ok (.aload_n 1, 1) := by decide +kernel
theorem dX3_readChances_58 : decode cX3_readChances 58 = .ok (.iconst 4, 1) := by decide +kernel
theorem dX3_readChances_59 : decode cX3_readChances 59 = .ok (.aload_n 1, 1) := by decide +kernel
theorem dX3_readChances_60 : decode cX3_readChances 60 = .ok (.getfield 144, 3) := by decide +kernel
theorem dX3_readChances_63 : decode cX3_readChances 63 = .ok (.invokevirtual 126, 3) := by decide +kernel
theorem dX3_readChances_66 : decode cX3_readChances 66 = .ok (.ireturn, 1) := by decide +kernel
theorem dX3_readChances_67 : decode cX3_readChances 67 = .ok (.iconst 0, 1) := by decide +kernel
theorem dX3_readChances_68 : decode cX3_readChances 68 = .ok (.istore_n 2, 1) := by decide +kernel
theorem dX3_readChances_69 : decode cX3_readChances 69 = .ok (.iinc 3 1, 3) := by decide +kernel
theorem dX3_readChances_72 : decode cX3_readChances 72 = .ok (.goto (-68), 3) := by decide +kernel
theorem dX3_readChances_75 : decode cX3_readChances 75 = .ok (.iconst 1, 1) := by decide +kernel
theorem dX3_readChances_76 : decode cX3_readChances 76 = .ok (.ireturn, 1) := by decide +kernel
theorem dX3_chanceOf_0 : decode cX3_chanceOf 0 = .ok (.aload_n 0, 1) := by decide +kernel
theorem dX3_chanceOf_1 : decode cX3_chanceOf 1 = .ok (.getfield 30, 3) := by decide +kernel
theorem dX3_chanceOf_4 : decode cX3_chanceOf 4 = .ok (.iload_n 1, 1) := by decide +kernel
theorem dX3_chanceOf_5 : decode cX3_chanceOf 5 = .ok (.iconst 3, 1) := by decide +kernel
theorem dX3_chanceOf_6 : decode cX3_chanceOf 6 = .ok (.imul, 1) := by decide +kernel
theorem dX3_chanceOf_7 : decode cX3_chanceOf 7 = .ok (.iload_n 2, 1) := by decide +kernel
theorem dX3_chanceOf_8 : decode cX3_chanceOf 8 = .ok (.iadd, 1) := by decide +kernel
theorem dX3_chanceOf_9 : decode cX3_chanceOf 9 = .ok (.invokestatic 150, 3) := by decide +kernel
theorem dX3_chanceOf_12 : decode cX3_chanceOf 12 = .ok (.ireturn, 1) := by decide +kernel
theorem dX3_milesBy_0 : decode cX3_milesBy 0 = .ok (.iload_n 1, 1) := by decide +kernel
theorem dX3_milesBy_1 : decode cX3_milesBy 1 = .ok (.ifCond .ne 8, 3) := by decide +kernel
theorem dX3_milesBy_4 : decode cX3_milesBy 4 = .ok (.aload_n 0, 1) := by decide +kernel
theorem dX3_milesBy_5 : decode cX3_milesBy 5 = .ok (.getfield 40, 3) := by decide +kernel
theorem dX3_milesBy_8 : decode cX3_milesBy 8 = .ok (.ireturn, 1) := by decide +kernel
theorem dX3_milesBy_9 : decode cX3_milesBy 9 = .ok (.iload_n 1, 1) := by decide +kernel
theorem dX3_milesBy_10 : decode cX3_milesBy 10 = .ok (.iconst 1, 1) := by decide +kernel
theorem dX3_milesBy_11 : decode cX3_milesBy 11 = .ok (.if_icmp .ne 12, 3) := by decide +kernel
theorem dX3_milesBy_14 : decode cX3_milesBy 14 = .ok (.aload_n 0, 1) := by decide +kernel
theorem dX3_milesBy_15 : decode cX3_milesBy 15 = .ok (.getfield 40, 3) := by decide +kernel
theorem dX3_milesBy_18 : decode cX3_milesBy 18 = .ok (.iconst 2, 1) := by decide +kernel
theorem dX3_milesBy_19 : decode cX3_milesBy 19 = .ok (.idiv, 1) := by decide +kernel
theorem dX3_milesBy_20 : decode cX3_milesBy 20 = .ok (.goto 4, 3) := by decide +kernel
theorem dX3_milesBy_23 : decode cX3_milesBy 23 = .ok (.iconst 0, 1) := by decide +kernel
theorem dX3_milesBy_24 : decode cX3_milesBy 24 = .ok (.ireturn, 1) := by decide +kernel
theorem dX3_milesTo_0 : decode cX3_milesTo 0 = .ok (.iload_n 1, 1) := by decide +kernel
theorem dX3_milesTo_1 : decode cX3_milesTo 1 = .ok (.iconst (-1), 1) := by decide +kernel
theorem dX3_milesTo_2 : decode cX3_milesTo 2 = .ok (.if_icmp .ne 7, 3) := by decide +kernel
theorem dX3_milesTo_5 : decode cX3_milesTo 5 = .ok (.iconst 0, 1) := by decide +kernel
theorem dX3_milesTo_6 : decode cX3_milesTo 6 = .ok (.goto 11, 3) := by decide +kernel
theorem dX3_milesTo_9 : decode cX3_milesTo 9 = .ok (.aload_n 0, 1) := by decide +kernel
theorem dX3_milesTo_10 : decode cX3_milesTo 10 = .ok (.getfield 15, 3) := by decide +kernel
theorem dX3_milesTo_13 : decode cX3_milesTo 13 = .ok (.iload_n 1, 1) := by decide +kernel
theorem dX3_milesTo_14 : decode cX3_milesTo 14 = .ok (.invokestatic 150, 3) := by decide +kernel
theorem dX3_milesTo_17 : decode cX3_milesTo 17 = .ok (.ireturn, 1) := by decide +kernel
theorem dX3_hoursOf_0 : decode cX3_hoursOf 0 = .ok (.aload_n 0, 1) := by decide +kernel
theorem dX3_hoursOf_1 : decode cX3_hoursOf 1 = .ok (.getfield 55, 3) := by decide +kernel
theorem dX3_hoursOf_4 : decode cX3_hoursOf 4 = .ok (.iconst 1, 1) := by decide +kernel
theorem dX3_hoursOf_5 : decode cX3_hoursOf 5 = .ok (.if_icmp .ge 7, 3) := by decide +kernel
theorem dX3_hoursOf_8 : decode cX3_hoursOf 8 = .ok (.iconst 0, 1) := by decide +kernel
theorem dX3_hoursOf_9 : decode cX3_hoursOf 9 = .ok (.goto 21, 3) := by decide +kernel
theorem dX3_hoursOf_12 : decode cX3_hoursOf 12 = .ok (.aload_n 0, 1) := by decide +kernel
theorem dX3_hoursOf_13 : decode cX3_hoursOf 13 = .ok (.getfield 27, 3) := by decide +kernel
theorem dX3_hoursOf_16 : decode cX3_hoursOf 16 = .ok (.iload_n 1, 1) := by decide +kernel
theorem dX3_hoursOf_17 : decode cX3_hoursOf 17 = .ok (.bipush 10, 2) := by decide +kernel
theorem dX3_hoursOf_19 : decode cX3_hoursOf 19 = .ok (.idiv, 1) := by decide +kernel
theorem dX3_hoursOf_20 : decode cX3_hoursOf 20 = .ok (.aload_n 0, 1) := by decide +kernel
theorem dX3_hoursOf_21 : decode cX3_hoursOf 21 = .ok (.getfield 55, 3) := by decide +kernel
theorem dX3_hoursOf_24 : decode cX3_hoursOf 24 = .ok (.invokestatic 154, 3) := by decide +kernel
theorem dX3_hoursOf_27 : decode cX3_hoursOf 27 = .ok (.invokestatic 150, 3) := by decide +kernel
theorem dX3_hoursOf_30 : decode cX3_hoursOf 30 = .ok (.ireturn, 1) := by decide +kernel
theorem dX3_isDarkBySky_0 : decode cX3_isDarkBySky 0 = .ok (.aload_n 0, 1) := by decide +kernel
theorem dX3_isDarkBySky_1 : decode cX3_isDarkBySky 1 = .ok (.getfield 9, 3) := by decide +kernel
theorem dX3_isDarkBySky_4 : decode cX3_isDarkBySky 4 = .ok (.iload_n 1, 1) := by decide +kernel
theorem dX3_isDarkBySky_5 : decode cX3_isDarkBySky 5 = .ok (.invokestatic 150, 3) := by decide +kernel
theorem dX3_isDarkBySky_8 : decode cX3_isDarkBySky 8 = .ok (.istore_n 3, 1) := by decide +kernel
theorem dX3_isDarkBySky_9 : decode cX3_isDarkBySky 9 = .ok (.iload_n 3, 1) := by decide +kernel
theorem dX3_isDarkBySky_10 : decode cX3_isDarkBySky 10 = .ok (.iconst 4, 1) := by decide +kernel
theorem dX3_isDarkBySky_11 : decode cX3_isDarkBySky 11 = .ok (.if_icmp .ne 8, 3) := by decide +kernel
theorem dX3_isDarkBySky_14 : decode cX3_isDarkBySky 14 = .ok (.iload_n 2, 1) := by decide +kernel
theorem dX3_isDarkBySky_15 : decode cX3_isDarkBySky 15 = .ok (.iconst 1, 1) := by decide +kernel
theorem dX3_isDarkBySky_16 : decode cX3_isDarkBySky 16 = .ok (.if_icmp .eq 13, 3) := by decide +kernel
theorem dX3_isDarkBySky_19 : decode cX3_isDarkBySky 19 = .ok (.iload_n 3, 1) := by decide +kernel
theorem dX3_isDarkBySky_20 : decode cX3_isDarkBySky 20 = .ok (.iconst 3, 1) := by decide +kernel
theorem dX3_isDarkBySky_21 : decode cX3_isDarkBySky 21 = .ok (.if_icmp .ne 12, 3) := by decide +kernel
theorem dX3_isDarkBySky_24 : decode cX3_isDarkBySky 24 = .ok (.iload_n 2, 1) := by decide +kernel
theorem dX3_isDarkBySky_25 : decode cX3_isDarkBySky 25 = .ok (.iconst 2, 1) := by decide +kernel
theorem dX3_isDarkBySky_26 : decode cX3_isDarkBySky 26 = .ok (.if_icmp .ne 7, 3) := by decide +kernel
theorem dX3_isDarkBySky_29 : decode cX3_isDarkBySky 29 = .ok (.iconst 1, 1) := by decide +kernel
theorem dX3_isDarkBySky_30 : decode cX3_isDarkBySky 30 = .ok (.goto 4, 3) := by decide +kernel
theorem dX3_isDarkBySky_33 : decode cX3_isDarkBySky 33 = .ok (.iconst 0, 1) := by decide +kernel
theorem dX3_isDarkBySky_34 : decode cX3_isDarkBySky 34 = .ok (.ireturn, 1) := by decide +kernel
theorem dX3_needOf_0 : decode cX3_needOf 0 = .ok (.aload_n 0, 1) := by decide +kernel
theorem dX3_needOf_1 : decode cX3_needOf 1 = .ok (.getfield 9, 3) := by decide +kernel
theorem dX3_needOf_4 : decode cX3_needOf 4 = .ok (.iload_n 1, 1) := by decide +kernel
theorem dX3_needOf_5 : decode cX3_needOf 5 = .ok (.invokestatic 150, 3) := by decide +kernel
theorem dX3_needOf_8 : decode cX3_needOf 8 = .ok (.istore 5, 2) := by decide +kernel
theorem dX3_needOf_10 : decode cX3_needOf 10 = .ok (.iload 5, 2) := by decide +kernel
theorem dX3_needOf_12 : decode cX3_needOf 12 = .ok (.iconst 4, 1) := by decide +kernel
theorem dX3_needOf_13 : decode cX3_needOf 13 = .ok (.if_icmp .eq 14, 3) := by decide +kernel
theorem dX3_needOf_16 : decode cX3_needOf 16 = .ok (.iload 5, 2) := by decide +kernel
theorem dX3_needOf_18 : decode cX3_needOf 18 = .ok (.iconst 3, 1) := by decide +kernel
theorem dX3_needOf_19 : decode cX3_needOf 19 = .ok (.if_icmp .ne 10, 3) := by decide +kernel
theorem dX3_needOf_22 : decode cX3_needOf 22 = .ok (.iload_n 3, 1) := by decide +kernel
theorem dX3_needOf_23 : decode cX3_needOf 23 = .ok (.iconst 2, 1) := by decide +kernel
theorem dX3_needOf_24 : decode cX3_needOf 24 = .ok (.if_icmp .ne 5, 3) := by decide +kernel
theorem dX3_needOf_27 : decode cX3_needOf 27 = .ok (.iconst 0, 1) := by decide +kernel
theorem dX3_needOf_28 : decode cX3_needOf 28 = .ok (.ireturn, 1) := by decide +kernel
theorem dX3_needOf_29 : decode cX3_needOf 29 = .ok (.aload_n 0, 1) := by decide +kernel
theorem dX3_needOf_30 : decode cX3_needOf 30 = .ok (.getfield 18, 3) := by decide +kernel
theorem dX3_needOf_33 : decode cX3_needOf 33 = .ok (.iload_n 1, 1) := by decide +kernel
theorem dX3_needOf_34 : decode cX3_needOf 34 = .ok (.invokestatic 150, 3) := by decide +kernel
theorem dX3_needOf_37 : decode cX3_needOf 37 = .ok (.iload_n 2, 1) := by decide +kernel
theorem dX3_needOf_38 : decode cX3_needOf 38 = .ok (.imul, 1) := by decide +kernel
theorem dX3_needOf_39 : decode cX3_needOf 39 = .ok (.bipush 10, 2) := by decide +kernel
theorem dX3_needOf_41 : decode cX3_needOf 41 = .ok (.idiv, 1) := by decide +kernel
theorem dX3_needOf_42 : decode cX3_needOf 42 = .ok (.istore 6, 2) := by decide +kernel
theorem dX3_needOf_44 : decode cX3_needOf 44 = .ok (.iload 5, 2) := by decide +kernel
theorem dX3_needOf_46 : decode cX3_needOf 46 = .ok (.iconst 1, 1) := by decide +kernel
theorem dX3_needOf_47 : decode cX3_needOf 47 = .ok (.if_icmp .ne 9, 3) := by decide +kernel
theorem dX3_needOf_50 : decode cX3_needOf 50 = .ok (.iload 6, 2) := by decide +kernel
theorem dX3_needOf_52 : decode cX3_needOf 52 = .ok (.iconst 2, 1) := by decide +kernel
theorem dX3_needOf_53 : decode cX3_needOf 53 = .ok (.imul, 1) := by decide +kernel
theorem dX3_needOf_54 : decode cX3_needOf 54 = .ok (.istore 6, 2) := by decide +kernel
theorem dX3_needOf_56 : decode cX3_needOf 56 = .ok (.iload 4, 2) := by decide +kernel
theorem dX3_needOf_58 : decode cX3_needOf 58 = .ok (.ifCond .eq 14, 3) := by decide +kernel
theorem dX3_needOf_61 : decode cX3_needOf 61 = .ok (.iload_n 3, 1) := by decide +kernel
theorem dX3_needOf_62 : decode cX3_needOf 62 = .ok (.ifCond .ne 10, 3) := by decide +kernel
theorem dX3_needOf_65 : decode cX3_needOf 65 = .ok (.iload 6, 2) := by decide +kernel
theorem dX3_needOf_67 : decode cX3_needOf 67 = .ok (.iconst 2, 1) := by decide +kernel
theorem dX3_needOf_68 : decode cX3_needOf 68 = .ok (.idiv, 1) := by decide +kernel
theorem dX3_needOf_69 : decode cX3_needOf 69 = .ok (.goto 5, 3) := by decide +kernel
theorem dX3_needOf_72 : decode cX3_needOf 72 = .ok (.iload 6, 2) := by decide +kernel
theorem dX3_needOf_74 : decode cX3_needOf 74 = .ok (.ireturn, 1) := by decide +kernel
theorem dX3_leakOf_0 : decode cX3_leakOf 0 = .ok (.aload_n 0, 1) := by decide +kernel
theorem dX3_leakOf_1 : decode cX3_leakOf 1 = .ok (.getfield 9, 3) := by decide +kernel
theorem dX3_leakOf_4 : decode cX3_leakOf 4 = .ok (.iload_n 1, 1) := by decide +kernel
theorem dX3_leakOf_5 : decode cX3_leakOf 5 = .ok (.invokestatic 150, 3) := by decide +kernel
theorem dX3_leakOf_8 : decode cX3_leakOf 8 = .ok (.iconst 2, 1) := by decide +kernel
theorem dX3_leakOf_9 : decode cX3_leakOf 9 = .ok (.if_icmp .ne 7, 3) := by decide +kernel
theorem dX3_leakOf_12 : decode cX3_leakOf 12 = .ok (.iload_n 2, 1) := by decide +kernel
theorem dX3_leakOf_13 : decode cX3_leakOf 13 = .ok (.ifCond .gt 5, 3) := by decide +kernel
theorem dX3_leakOf_16 : decode cX3_leakOf 16 = .ok (.iconst 0, 1) := by decide +kernel
theorem dX3_leakOf_17 : decode cX3_leakOf 17 = .ok (.ireturn, 1) := by decide +kernel
theorem dX3_leakOf_18 : decode cX3_leakOf 18 = .ok (.iconst 1, 1) := by decide +kernel
theorem dX3_leakOf_19 : decode cX3_leakOf 19 = .ok (.iload_n 2, 1) := by decide +kernel
theorem dX3_leakOf_20 : decode cX3_leakOf 20 = .ok (.bipush 10, 2) := by decide +kernel
theorem dX3_leakOf_22 : decode cX3_leakOf 22 = .ok (.idiv, 1) := by decide +kernel
theorem dX3_leakOf_23 : decode cX3_leakOf 23 = .ok (.invokestatic 160, 3) := by decide +kernel
theorem dX3_leakOf_26 : decode cX3_leakOf 26 = .ok (.ireturn, 1) := by decide +kernel
theorem dX4_init_0 : decode cX4_init 0 = .ok (.aload_n 0, 1) := by decide +kernel
theorem dX4_init_1 : decode cX4_init 1 = .ok (.invokespecial 3, 3) := by decide +kernel
theorem dX4_init_4 : decode cX4_init 4 = .ok (.aload_n 0, 1) := by decide +kernel
theorem dX4_init_5 : decode cX4_init 5 = .ok (.iconst 5, 1) := by decide +kernel
theorem dX4_init_6 : decode cX4_init 6 = .ok (.anewarray 9, 3) := by decide +kernel
theorem dX4_init_9 : decode cX4_init 9 = .ok (.putfield 11, 3) := by decide +kernel
theorem dX4_init_12 : decode cX4_init 12 = .ok (.iconst 0, 1) := by decide +kernel
theorem dX4_init_13 : decode cX4_init 13 = .ok (.istore_n 1, 1) := by decide +kernel
theorem dX4_init_14 : decode cX4_init 14 = .ok (.iload_n 1, 1) := by decide +kernel
theorem dX4_init_15 : decode cX4_init 15 = .ok (.aload_n 0, 1) := by decide +kernel
theorem dX4_init_16 : decode cX4_init 16 = .ok (.getfield 11, 3) := by decide +kernel
theorem dX4_init_19 : decode cX4_init 19 = .ok (.arraylength, 1) := by decide +kernel
theorem dX4_init_20 : decode cX4_init 20 = .ok (.if_icmp .ge 23, 3) := by decide +kernel
theorem dX4_init_23 : decode cX4_init 23 = .ok (.aload_n 0, 1) := by decide +kernel
theorem dX4_init_24 : decode cX4_init 24 = .ok (.getfield 11, 3) := by decide +kernel
theorem dX4_init_27 : decode cX4_init 27 = .ok (.iload_n 1, 1) := by decide +kernel
theorem dX4_init_28 : decode cX4_init 28 = .ok (.new 9, 3) := by decide +kernel
theorem dX4_init_31 : decode cX4_init 31 = .ok (.dup, 1) := by decide +kernel
theorem dX4_init_32 : decode cX4_init 32 = .ok (.iconst 0, 1) := by decide +kernel
theorem dX4_init_33 : decode cX4_init 33 = .ok (.invokespecial 17, 3) := by decide +kernel
theorem dX4_init_36 : decode cX4_init 36 = .ok (.aastore, 1) := by decide +kernel
theorem dX4_init_37 : decode cX4_init 37 = .ok (.iinc 1 1, 3) := by decide +kernel
theorem dX4_init_40 : decode cX4_init 40 = .ok (.goto (-26), 3) := by decide +kernel
theorem dX4_init_43 : decode cX4_init 43 = .ok (.aload_n 0, 1) := by decide +kernel
theorem dX4_init_44 : decode cX4_init 44 = .ok (.iconst 4, 1) := by decide +kernel
theorem dX4_init_45 : decode cX4_init 45 = .ok (.newarray .int, 2) := by decide +kernel
theorem dX4_init_47 : decode cX4_init 47 = .ok (.putfield 20, 3) := by decide +kernel
theorem dX4_init_50 : decode cX4_init 50 = .ok (.aload_n 0, 1) := by decide +kernel
theorem dX4_init_51 : decode cX4_init 51 = .ok (.iconst 4, 1) := by decide +kernel
theorem dX4_init_52 : decode cX4_init 52 = .ok (.newarray .int, 2) := by decide +kernel
theorem dX4_init_54 : decode cX4_init 54 = .ok (.putfield 24, 3) := by decide +kernel
theorem dX4_init_57 : decode cX4_init 57 = .ok (.return_, 1) := by decide +kernel
theorem dX4_seek_0 : decode cX4_seek 0 = .ok (.aload_n 0, 1) := by decide +kernel
theorem dX4_seek_1 : decode cX4_seek 1 = .ok (.ldc 27, 2) := by decide +kernel
theorem dX4_seek_3 : decode cX4_seek 3 = .ok (.putfield 28, 3) := by decide +kernel
theorem dX4_seek_6 : decode cX4_seek 6 = .ok (.aload_n 0, 1) := by decide +kernel
theorem dX4_seek_7 : decode cX4_seek 7 = .ok (.ldc 27, 2) := by decide +kernel
theorem dX4_seek_9 : decode cX4_seek 9 = .ok (.putfield 32, 3) := by decide +kernel
theorem dX4_seek_12 : decode cX4_seek 12 = .ok (.aload_n 0, 1) := by decide +kernel
theorem dX4_seek_13 : decode cX4_seek 13 = .ok (.getfield 11, 3) := by decide +kernel
theorem dX4_seek_16 : decode cX4_seek 16 = .ok (.iconst 0, 1) := by decide +kernel
theorem dX4_seek_17 : decode cX4_seek 17 = .ok (.aaload, 1) := by decide +kernel
theorem dX4_seek_18 : decode cX4_seek 18 = .ok (.aload_n 3, 1) := by decide +kernel
theorem dX4_seek_19 : decode cX4_seek 19 = .ok (.invokevirtual 35, 3) := by decide +kernel
theorem dX4_seek_22 : decode cX4_seek 22 = .ok (.aload_n 0, 1) := by decide +kernel
theorem dX4_seek_23 : decode cX4_seek 23 = .ok (.getfield 11, 3) := by decide +kernel
theorem dX4_seek_26 : decode cX4_seek 26 = .ok (.iconst 0, 1) := by decide +kernel
theorem dX4_seek_27 : decode cX4_seek 27 = .ok (.aaload, 1) := by decide +kernel
theorem dX4_seek_28 : decode cX4_seek 28 = .ok (.iconst 0, 1) := by decide +kernel
theorem dX4_seek_29 : decode cX4_seek 29 = .ok (.putfield 39, 3) := by decide +kernel
theorem dX4_seek_32 : decode cX4_seek 32 = .ok (.aload_n 0, 1) := by decide +kernel
theorem dX4_seek_33 : decode cX4_seek 33 = .ok (.getfield 11, 3) := by decide +kernel
theorem dX4_seek_36 : decode cX4_seek 36 = .ok (.iconst 0, 1) := by decide +kernel
theorem dX4_seek_37 : decode cX4_seek 37 = .ok (.aaload, 1) := by decide +kernel
theorem dX4_seek_38 : decode cX4_seek 38 = .ok (.iconst 0, 1) := by decide +kernel
theorem dX4_seek_39 : decode cX4_seek 39 = .ok (.putfield 42, 3) := by decide +kernel
theorem dX4_seek_42 : decode cX4_seek 42 = .ok (.aload_n 0, 1) := by decide +kernel
theorem dX4_seek_43 : decode cX4_seek 43 = .ok (.aload_n 1, 1) := by decide +kernel
theorem dX4_seek_44 : decode cX4_seek 44 = .ok (.aload_n 2, 1) := by decide +kernel
theorem dX4_seek_45 : decode cX4_seek 45 = .ok (.iload 4, 2) := by decide +kernel
theorem dX4_seek_47 : decode cX4_seek 47 = .ok (.iconst 0, 1) := by decide +kernel
theorem dX4_seek_48 : decode cX4_seek 48 = .ok (.invokevirtual 45, 3) := by decide +kernel
theorem dX4_seek_51 : decode cX4_seek 51 = .ok (.return_, 1) := by decide +kernel
theorem dX4_tryDay_0 : decode cX4_tryDay 0 = .ok (.iload 4, 2) := by decide +kernel
theorem dX4_tryDay_2 : decode cX4_tryDay 2 = .ok (.ifCond .lt 21, 3) := by decide +kernel
theorem dX4_tryDay_5 : decode cX4_tryDay 5 = .ok (.iload 4, 2) := by decide +kernel
theorem dX4_tryDay_7 : decode cX4_tryDay 7 = .ok (.iload_n 3, 1) := by decide +kernel
theorem dX4_tryDay_8 : decode cX4_tryDay 8 = .ok (.if_icmp .ge 15, 3) := by decide +kernel
theorem dX4_tryDay_11 : decode cX4_tryDay 11 = .ok (.iload 4, 2) := by decide +kernel
theorem dX4_tryDay_13 : decode cX4_tryDay 13 = .ok (.iconst 1, 1) := by decide +kernel
theorem dX4_tryDay_14 : decode cX4_tryDay 14 = .ok (.iadd, 1) := by decide +kernel
theorem dX4_tryDay_15 : decode cX4_tryDay 15 = .ok (.aload_n 0, 1) := by decide +kernel
theorem dX4_tryDay_16 : decode cX4_tryDay 16 = .ok (.getfield 11, 3) := by decide +kernel
theorem dX4_tryDay_19 : decode cX4_tryDay 19 = .ok (.arraylength, 1) := by decide +kernel
theorem dX4_tryDay_20 : decode cX4_tryDay 20 = .ok (.if_icmp .lt 4, 3) := by decide +kernel
theorem dX4_tryDay_23 : decode cX4_tryDay 23 = .ok (.return_, 1) := by decide +kernel
theorem dX4_tryDay_24 : decode cX4_tryDay 24 = .ok (.aload_n 0, 1) := by decide +kernel
theorem dX4_tryDay_25 : decode cX4_tryDay 25 = .ok (.getfield 11, 3) := by decide +kernel
theorem dX4_tryDay_28 : decode cX4_tryDay 28 = .ok (.iload 4, 2) := by decide +kernel
theorem dX4_tryDay_30 : decode cX4_tryDay 30 = .ok (.iconst 1, 1) := by decide +kernel
theorem dX4_tryDay_31 : decode cX4_tryDay 31 = .ok (.iadd, 1) := by decide +kernel
theorem dX4_tryDay_32 : decode cX4_tryDay 32 = .ok (.aaload, 1) := by decide +kernel
theorem dX4_tryDay_33 : decode cX4_tryDay 33 = .ok (.astore 5, 2) := by decide +kernel
theorem dX4_tryDay_35 : decode cX4_tryDay 35 = .ok (.aload_n 2, 1) := by decide +kernel
theorem dX4_tryDay_36 : decode cX4_tryDay 36 = .ok (.aload_n 0, 1) := by decide +kernel
theorem dX4_tryDay_37 : decode cX4_tryDay 37 = .ok (.getfield 11, 3) := by decide +kernel
theorem dX4_tryDay_40 : decode cX4_tryDay 40 = .ok (.iload 4, 2) := by decide +kernel
theorem dX4_tryDay_42 : decode cX4_tryDay 42 = .ok (.aaload, 1) := by decide +kernel
theorem dX4_tryDay_43 : decode cX4_tryDay 43 = .ok (.getfield 49, 3) := by decide +kernel
theorem dX4_tryDay_46 : decode cX4_tryDay 46 = .ok (.invokevirtual 52, 3) := by decide +kernel
theorem dX4_tryDay_49 : decode cX4_tryDay 49 = .ok (.istore 6, 2) := by decide +kernel
theorem dX4_tryDay_51 : decode cX4_tryDay 51 = .ok (.iload 4, 2) := by decide +kernel
theorem dX4_tryDay_53 : decode cX4_tryDay 53 = .ok (.iconst 1, 1) := by decide +kernel
theorem dX4_tryDay_54 : decode cX4_tryDay 54 = .ok (.iadd, 1) := by decide +kernel
theorem dX4_tryDay_55 : decode cX4_tryDay 55 = .ok (.iload_n 3, 1) := by decide +kernel
theorem dX4_tryDay_56 : decode cX4_tryDay 56 = .ok (.if_icmp .ne 7, 3) := by decide +kernel
theorem dX4_tryDay_59 : decode cX4_tryDay 59 = .ok (.iconst 1, 1) := by decide +kernel
theorem dX4_tryDay_60 : decode cX4_tryDay 60 = .ok (.goto 4, 3) := by decide +kernel
theorem dX4_tryDay_63 : decode cX4_tryDay 63 = .ok (.iconst 0, 1) := by decide +kernel
theorem dX4_tryDay_64 : decode cX4_tryDay 64 = .ok (.istore 7, 2) := by decide +kernel
theorem dX4_tryDay_66 : decode cX4_tryDay 66 = .ok (.iconst (-1), 1) := by decide +kernel
theorem dX4_tryDay_67 : decode cX4_tryDay 67 = .ok (.istore 8, 2) := by decide +kernel
theorem dX4_tryDay_69 : decode cX4_tryDay 69 = .ok (.iload 8, 2) := by decide +kernel
theorem dX4_tryDay_71 : decode cX4_tryDay 71 = .ok (.aload_n 1, 1) := by decide +kernel
theorem dX4_tryDay_72 : decode cX4_tryDay 72 = .ok (.getfield 58, 3) := by decide +kernel
theorem dX4_tryDay_75 : decode cX4_tryDay 75 = .ok (.if_icmp .ge 117, 3) := by decide +kernel
theorem dX4_tryDay_78 : decode cX4_tryDay 78 = .ok (.iload 7, 2) := by decide +kernel
theorem dX4_tryDay_80 : decode cX4_tryDay 80 = .ok (.ifCond .eq 30, 3) := by decide +kernel
theorem dX4_tryDay_83 : decode cX4_tryDay 83 = .ok (.iload 8, 2) := by decide +kernel
theorem dX4_tryDay_85 : decode cX4_tryDay 85 = .ok (.iconst (-1), 1) := by decide +kernel
theorem dX4_tryDay_86 : decode cX4_tryDay 86 = .ok (.if_icmp .eq 24, 3) := by decide +kernel
theorem dX4_tryDay_89 : decode cX4_tryDay 89 = .ok (.aload_n 0, 1) := by decide +kernel
theorem dX4_tryDay_90 : decode cX4_tryDay 90 = .ok (.getfield 11, 3) := by decide +kernel
theorem dX4_tryDay_93 : decode cX4_tryDay 93 = .ok (.iload 4, 2) := by decide +kernel
theorem dX4_tryDay_95 : decode cX4_tryDay 95 = .ok (.aaload, 1) := by decide +kernel
theorem dX4_tryDay_96 : decode cX4_tryDay 96 = .ok (.aload_n 1, 1) := by decide +kernel
theorem dX4_tryDay_97 : decode cX4_tryDay 97 = .ok (.iload 6, 2) := by decide +kernel
theorem dX4_tryDay_99 : decode cX4_tryDay 99 = .ok (.iload 8, 2) := by decide +kernel
theorem dX4_tryDay_101 : decode cX4_tryDay 101 = .ok (.invokevirtual 63, 3) := by decide +kernel
theorem dX4_tryDay_104 : decode cX4_tryDay 104 = .ok (.ifCond .ne 6, 3) := by decide +kernel
theorem dX4_tryDay_107 : decode cX4_tryDay 107 = .ok (.goto 79, 3) := by decide +kernel
theorem dX4_tryDay_110 : decode cX4_tryDay 110 = .ok (.aload 5, 2) := by decide +kernel
theorem dX4_tryDay_112 : decode cX4_tryDay 112 = .ok (.aload_n 0, 1) := by decide +kernel
theorem dX4_tryDay_113 : decode cX4_tryDay 113 = .ok (.getfield 11, 3) := by decide +kernel
theorem dX4_tryDay_116 : decode cX4_tryDay 116 = .ok (.iload 4, 2) := by decide +kernel
theorem dX4_tryDay_118 : decode cX4_tryDay 118 = .ok (.aaload, 1) := by decide +kernel
theorem dX4_tryDay_119 : decode cX4_tryDay 119 = .ok (.invokevirtual 35, 3) := by decide +kernel
theorem dX4_tryDay_122 : decode cX4_tryDay 122 = .ok (.aload 5, 2) := by decide +kernel
theorem dX4_tryDay_124 : decode cX4_tryDay 124 = .ok (.iload 8, 2) := by decide +kernel
theorem dX4_tryDay_126 : decode cX4_tryDay 126 = .ok (.putfield 67, 3) := by decide +kernel
theorem dX4_tryDay_129 : decode cX4_tryDay 129 = .ok (.aload 5, 2) := by decide +kernel
theorem dX4_tryDay_131 : decode cX4_tryDay 131 = .ok (.aload_n 1, 1) := by decide +kernel
theorem dX4_tryDay_132 : decode cX4_tryDay 132 = .ok (.iload 6, 2) := by decide +kernel
theorem dX4_tryDay_134 : decode cX4_tryDay 134 = .ok (.invokevirtual 70, 3) := by decide +kernel
theorem dX4_tryDay_137 : decode cX4_tryDay 137 = .ok (.pop, 1) := by decide +kernel
theorem dX4_tryDay_138 : decode cX4_tryDay 138 = .ok (.aload_n 0, 1) := by decide +kernel
theorem dX4_tryDay_139 : decode cX4_tryDay 139 = .ok (.getfield 20, 3) := by decide +kernel
theorem dX4_tryDay_142 : decode cX4_tryDay 142 = .ok (.iload 4, 2) := by decide +kernel
theorem dX4_tryDay_144 : decode cX4_tryDay 144 = .ok (.iload 8, 2) := by decide +kernel
theorem dX4_tryDay_146 : decode cX4_tryDay 146 = .ok (.invokestatic 74, 3) := by decide +kernel
theorem dX4_tryDay_149 : decode cX4_tryDay 149 = .ok (.aload_n 0, 1) := by decide +kernel
theorem dX4_tryDay_150 : decode cX4_tryDay 150 = .ok (.aload 5, 2) := by decide +kernel
theorem dX4_tryDay_152 : decode cX4_tryDay 152 = .ok (.invokevirtual 78, 3) := by decide +kernel
theorem dX4_tryDay_155 : decode cX4_tryDay 155 = .ok (.ifCond .ne 6, 3) := by decide +kernel
theorem dX4_tryDay_158 : decode cX4_tryDay 158 = .ok (.goto 28, 3) := by decide +kernel
theorem dX4_tryDay_161 : decode cX4_tryDay 161 = .ok (.iload 7, 2) := by decide +kernel
theorem dX4_tryDay_163 : decode cX4_tryDay 163 = .ok (.ifCond .eq 12, 3) := by decide +kernel
theorem dX4_tryDay_166 : decode cX4_tryDay 166 = .ok (.aload_n 0, 1) := by decide +kernel
theorem dX4_tryDay_167 : decode cX4_tryDay 167 = .ok (.aload 5, 2) := by decide +kernel
theorem dX4_tryDay_169 : decode cX4_tryDay 169 = .ok (.invokevirtual 82, 3) := by decide +kernel
theorem dX4_tryDay_172 : decode cX4_tryDay 172 = .ok (.goto 14, 3) := by decide +kernel
theorem dX4_tryDay_175 : decode cX4_tryDay 175 = .ok (.aload_n 0, 1) := by decide +kernel
theorem dX4_tryDay_176 : decode cX4_tryDay 176 = .ok (.aload_n 1, 1) := by decide +kernel
theorem dX4_tryDay_177 : decode cX4_tryDay 177 = .ok (.aload_n 2, 1) := by decide +kernel
theorem dX4_tryDay_178 : decode cX4_tryDay 178 = .ok (.iload_n 3, 1) := by decide +kernel
theorem dX4_tryDay_179 : decode cX4_tryDay 179 = .ok (.iload 4, 2) := by decide +kernel
theorem dX4_tryDay_181 : decode cX4_tryDay 181 = .ok (.iconst 1, 1) := by decide +kernel
theorem dX4_tryDay_182 : decode cX4_tryDay 182 = .ok (.iadd, 1) := by decide +kernel
theorem dX4_tryDay_183 : decode cX4_tryDay 183 = .ok (.invokevirtual 45, 3) := by decide +kernel
theorem dX4_tryDay_186 : decode cX4_tryDay 186 = .ok (.iinc 8 1, 3) := by decide +kernel
theorem dX4_tryDay_189 : decode cX4_tryDay 189 = .ok (.goto (-120), 3) := by decide +kernel
theorem dX4_tryDay_192 : decode cX4_tryDay 192 = .ok (.return_, 1) := by decide +kernel
theorem dX4_isBetter_0 : decode cX4_isBetter 0 = .ok (.aload_n 1, 1) := by decide +kernel
theorem dX4_isBetter_1 : decode cX4_isBetter 1 = .ok (.getfield 39, 3) := by decide +kernel
theorem dX4_isBetter_4 : decode cX4_isBetter 4 = .ok (.aload_n 0, 1) := by decide +kernel
theorem dX4_isBetter_5 : decode cX4_isBetter 5 = .ok (.getfield 28, 3) := by decide +kernel
theorem dX4_isBetter_8 : decode cX4_isBetter 8 = .ok (.if_icmp .lt 25, 3) := by decide +kernel
theorem dX4_isBetter_11 : decode cX4_isBetter 11 = .ok (.aload_n 1, 1) := by decide +kernel
theorem dX4_isBetter_12 : decode cX4_isBetter 12 = .ok (.getfield 39, 3) := by decide +kernel
theorem dX4_isBetter_15 : decode cX4_isBetter 15 = .ok (.aload_n 0, 1) := by decide +kernel
theorem dX4_isBetter_16 : decode cX4_isBetter 16 = .ok (.getfield 28, 3) := by decide +kernel
theorem dX4_isBetter_19 : decode cX4_isBetter 19 = .ok (.if_icmp .ne 18, 3) := by decide +kernel
theorem dX4_isBetter_22 : decode cX4_isBetter 22 = .ok (.aload_n 1, 1) := by decide +kernel
theorem dX4_isBetter_23 : decode cX4_isBetter 23 = .ok (.getfield 42, 3) := by decide +kernel
theorem dX4_isBetter_26 : decode cX4_isBetter 26 = .ok (.aload_n 0, 1) := by decide +kernel
theorem dX4_isBetter_27 : decode cX4_isBetter 27 = .ok (.getfield 32, 3) := by decide +kernel
theorem dX4_isBetter_30 : decode cX4_isBetter 30 = .ok (.if_icmp .ge 7, 3) := by decide +kernel
theorem dX4_isBetter_33 : decode cX4_isBetter 33 = .ok (.iconst 1, 1) := by decide +kernel
theorem dX4_isBetter_34 : decode cX4_isBetter 34 = .ok (.goto 4, 3) := by decide +kernel
theorem dX4_isBetter_37 : decode cX4_isBetter 37 = .ok (.iconst 0, 1) := by decide +kernel
theorem dX4_isBetter_38 : decode cX4_isBetter 38 = .ok (.ireturn, 1) := by decide +kernel
theorem dX4_takeRow_0 : decode cX4_takeRow 0 = .ok (.aload_n 0, 1) := by decide +kernel
theorem dX4_takeRow_1 : decode cX4_takeRow 1 = .ok (.aload_n 1, 1) := by decide +kernel
theorem dX4_takeRow_2 : decode cX4_takeRow 2 = .ok (.getfield 39, 3) := by decide +kernel
theorem dX4_takeRow_5 : decode cX4_takeRow 5 = .ok (.putfield 28, 3) := by decide +kernel
theorem dX4_takeRow_8 : decode cX4_takeRow 8 = .ok (.aload_n 0, 1) := by decide +kernel
theorem dX4_takeRow_9 : decode cX4_takeRow 9 = .ok (.aload_n 1, 1) := by decide +kernel
theorem dX4_takeRow_10 : decode cX4_takeRow 10 = .ok (.getfield 42, 3) := by decide +kernel
theorem dX4_takeRow_13 : decode cX4_takeRow 13 = .ok (.putfield 32, 3) := by decide +kernel
theorem dX4_takeRow_16 : decode cX4_takeRow 16 = .ok (.aload_n 0, 1) := by decide +kernel
theorem dX4_takeRow_17 : decode cX4_takeRow 17 = .ok (.getfield 20, 3) := by decide +kernel
theorem dX4_takeRow_20 : decode cX4_takeRow 20 = .ok (.aload_n 0, 1) := by decide +kernel
theorem dX4_takeRow_21 : decode cX4_takeRow 21 = .ok (.getfield 24, 3) := by decide +kernel
theorem dX4_takeRow_24 : decode cX4_takeRow 24 = .ok (.invokestatic 85, 3) := by decide +kernel
theorem dX4_takeRow_27 : decode cX4_takeRow 27 = .ok (.return_, 1) := by decide +kernel
theorem dX5_init_0 : decode cX5_init 0 = .ok (.aload_n 0, 1) := by decide +kernel
theorem dX5_init_1 : decode cX5_init 1 = .ok (.invokespecial 3, 3) := by decide +kernel
theorem dX5_init_4 : decode cX5_init 4 = .ok (.aload_n 0, 1) := by decide +kernel
theorem dX5_init_5 : decode cX5_init 5 = .ok (.bipush 30, 2) := by decide +kernel
theorem dX5_init_7 : decode cX5_init 7 = .ok (.newarray .int, 2) := by decide +kernel
theorem dX5_init_9 : decode cX5_init 9 = .ok (.putfield 9, 3) := by decide +kernel
theorem dX5_init_12 : decode cX5_init 12 = .ok (.aload_n 0, 1) := by decide +kernel
theorem dX5_init_13 : decode cX5_init 13 = .ok (.bipush 30, 2) := by decide +kernel
theorem dX5_init_15 : decode cX5_init 15 = .ok (.newarray .int, 2) := by decide +kernel
theorem dX5_init_17 : decode cX5_init 17 = .ok (.putfield 15, 3) := by decide +kernel
theorem dX5_init_20 : decode cX5_init 20 = .ok (.return_, 1) := by decide +kernel
theorem dX5_readFrom_0 : decode cX5_readFrom 0 = .ok (.aload_n 0, 1) := by decide +kernel
theorem dX5_readFrom_1 : decode cX5_readFrom 1 = .ok (.iconst 0, 1) := by decide +kernel
theorem dX5_readFrom_2 : decode cX5_readFrom 2 = .ok (.putfield 18, 3) := by decide +kernel
theorem dX5_readFrom_5 : decode cX5_readFrom 5 = .ok (.aload_n 0, 1) := by decide +kernel
theorem dX5_readFrom_6 : decode cX5_readFrom 6 = .ok (.iconst 0, 1) := by decide +kernel
theorem dX5_readFrom_7 : decode cX5_readFrom 7 = .ok (.putfield 22, 3) := by decide +kernel
theorem dX5_readFrom_10 : decode cX5_readFrom 10 = .ok (.aload_n 1, 1) := by decide +kernel
theorem dX5_readFrom_11 : decode cX5_readFrom 11 = .ok (.invokevirtual 25, 3) := by decide +kernel
theorem dX5_readFrom_14 : decode cX5_readFrom 14 = .ok (.iconst 0, 1) := by decide +kernel
theorem dX5_readFrom_15 : decode cX5_readFrom 15 = .ok (.istore_n 2, 1) := by decide +kernel
theorem dX5_readFrom_16 : decode cX5_readFrom 16 = .ok (.iload_n 2, 1) := by decide +kernel
theorem dX5_readFrom_17 : decode cX5_readFrom 17 = .ok (.sipush 500, 3) := by decide +kernel
theorem dX5_readFrom_20 : decode cX5_readFrom 20 = .ok (.if_icmp .gt 28, 3) := by decide +kernel
theorem dX5_readFrom_23 : decode cX5_readFrom 23 = .ok (.aload_n 1, 1) := by decide +kernel
theorem dX5_readFrom_24 : decode cX5_readFrom 24 = .ok (.invokevirtual 30, 3) := by decide +kernel
theorem dX5_readFrom_27 : decode cX5_readFrom 27 = .ok (.ifCond .eq 5, 3) := by decide +kernel
theorem dX5_readFrom_30 : decode cX5_readFrom 30 = .ok (.iconst 1, 1) := by decide +kernel
theorem dX5_readFrom_31 : decode cX5_readFrom 31 = .ok (.ireturn, 1) := by decide +kernel
theorem dX5_readFrom_32 : decode cX5_readFrom 32 = .ok (.aload_n 0, 1) := by decide +kernel
theorem dX5_readFrom_33 : decode cX5_readFrom 33 = .ok (.aload_n 1, 1) := by decide +kernel
theorem dX5_readFrom_34 : decode cX5_readFrom 34 = .ok (.invokevirtual 34, 3) := by decide +kernel
theorem dX5_readFrom_37 : decode cX5_readFrom 37 = .ok (.ifCond .ne 5, 3) := by decide +kernel
theorem dX5_readFrom_40 : decode cX5_readFrom 40 = .ok (.iconst 0, 1) := by decide +kernel
theorem dX5_readFrom_41 : decode cX5_readFrom 41 = .ok (.ireturn, 1) := by decide +kernel
theorem dX5_readFrom_42 : decode cX5_readFrom 42 = .ok (.iinc 2 1, 3) := by decide +kernel
theorem dX5_readFrom_45 : decode cX5_readFrom 45 = .ok (.goto (-29), 3) := by decide +kernel
theorem dX5_readFrom_48 : decode cX5_readFrom 48 = .ok (.iconst 1, 1) := by decide +kernel
theorem dX5_readFrom_49 : decode cX5_readFrom 49 = .ok (.ireturn, 1) := by decide +kernel
theorem dX5_readClause_0 : decode cX5_readClause 0 = .ok (.aload_n 1, 1) := by decide +kernel
theorem dX5_readClause_1 : decode cX5_readClause 1 = .ok (.invokevirtual 38, 3) := by decide +kernel
theorem dX5_readClause_4 : decode cX5_readClause 4 = .ok (.ifCond .ne 5, 3) := by decide +kernel
theorem dX5_readClause_7 : decode cX5_readClause 7 = .ok (.iconst 0, 1) := by decide +kernel
theorem dX5_readClause_8 : decode cX5_readClause 8 = .ok (.ireturn, 1) := by decide +kernel
theorem dX5_readClause_9 : decode cX5_readClause 9 = .ok (.aload_n 1, 1) := by decide +kernel
theorem dX5_readClause_10 : decode cX5_readClause 10 = .ok (.invokestatic 41, 3) := by decide +kernel
theorem dX5_readClause_13 : decode cX5_readClause 13 = .ok (.istore_n 2, 1) := by decide +kernel
theorem dX5_readClause_14 : decode cX5_readClause 14 = .ok (.iload_n 2, 1) := by decide +kernel
theorem dX5_readClause_15 : decode cX5_readClause 15 = .ok (.iconst (-1), 1) := by decide +kernel
theorem dX5_readClause_16 : decode cX5_readClause 16 = .ok (.if_icmp .ne 13, 3) := by decide +kernel
theorem dX5_readClause_19 : decode cX5_readClause 19 = .ok (.aload_n 1, 1) := by decide +kernel
theorem dX5_readClause_20 : decode cX5_readClause 20 = .ok (.iconst 1, 1) := by decide +kernel
theorem dX5_readClause_21 : decode cX5_readClause 21 = .ok (.aload_n 1, 1) := by decide +kernel
theorem dX5_readClause_22 : decode cX5_readClause 22 = .ok (.getfield 45, 3) := by decide +kernel
theorem dX5_readClause_25 : decode cX5_readClause 25 = .ok (.invokevirtual 48, 3) := by decide +kernel
theorem dX5_readClause_28 : decode cX5_readClause 28 = .ok (.ireturn, 1) := by decide +kernel
theorem dX5_readClause_29 : decode cX5_readClause 29 = .ok (.aload_n 0, 1) := by decide +kernel
theorem dX5_readClause_30 : decode cX5_readClause 30 = .ok (.getfield 18, 3) := by decide +kernel
theorem dX5_readClause_33 : decode cX5_readClause 33 = .ok (.bipush 30, 2) := by decide +kernel
theorem dX5_readClause_35 : decode cX5_readClause 35 = .ok (.if_icmp .lt 13, 3) := by decide +kernel
theorem dX5_readClause_38 : decode cX5_readClause 38 = .ok (.aload_n 1, 1) := by decide +kernel
theorem dX5_readClause_39 : decode cX5_readClause 39 = .ok (.iconst 3, 1) := by decide +kernel
theorem dX5_readClause_40 : decode cX5_readClause 40 = .ok (.aload_n 1, 1) := by decide +kernel
theorem dX5_readClause_41 : decode cX5_readClause 41 = .ok (.getfield 45, 3) := by decide +kernel
theorem dX5_readClause_44 : decode cX5_readClause 44 = .ok (.invokevirtual 48, 3) := by decide +kernel
theorem dX5_readClause_47 : decode cX5_readClause 47 = .ok (.ireturn, 1) := by decide +kernel
theorem dX5_readClause_48 : decode cX5_readClause 48 = .ok (.aload_n 1, 1) := by decide +kernel
theorem dX5_readClause_49 : decode cX5_readClause 49 = .ok (.iconst 1, 1) := by decide +kernel
theorem dX5_readClause_50 : decode cX5_readClause 50 = .ok (.bipush 99, 2) := by decide +kernel
theorem dX5_readClause_52 : decode cX5_readClause 52 = .ok (.invokevirtual 52, 3) := by decide +kernel
theorem dX5_readClause_55 : decode cX5_readClause 55 = .ok (.ifCond .eq 12, 3) := by decide +kernel
theorem dX5_readClause_58 : decode cX5_readClause 58 = .ok (.aload_n 1, 1) := by decide +kernel
theorem dX5_readClause_59 : decode cX5_readClause 59 = .ok (.bipush 59, 2) := by decide +kernel
theorem dX5_readClause_61 : decode cX5_readClause 61 = .ok (.invokevirtual 55, 3) := by decide +kernel
theorem dX5_readClause_64 : decode cX5_readClause 64 = .ok (.ifCond .ne 5, 3) := by decide +kernel
theorem dX5_readClause_67 : decode cX5_readClause 67 = .ok (.iconst 0, 1) := by decide +kernel
theorem dX5_readClause_68 : decode cX5_readClause 68 = .ok (.ireturn, 1) := by decide +kernel
theorem dX5_readClause_69 : decode cX5_readClause 69 = .ok (.aload_n 0, 1) := by decide +kernel
theorem dX5_readClause_70 : decode cX5_readClause 70 = .ok (.getfield 9, 3) := by decide +kernel
theorem dX5_readClause_73 : decode cX5_readClause 73 = .ok (.aload_n 0, 1) := by decide +kernel
theorem dX5_readClause_74 : decode cX5_readClause 74 = .ok (.getfield 18, 3) := by decide +kernel
theorem dX5_readClause_77 : decode cX5_readClause 77 = .ok (.iload_n 2, 1) := by decide +kernel
theorem dX5_readClause_78 : decode cX5_readClause 78 = .ok (.invokestatic 59, 3) := by decide +kernel
theorem dX5_readClause_81 : decode cX5_readClause 81 = .ok (.aload_n 0, 1) := by decide +kernel
theorem dX5_readClause_82 : decode cX5_readClause 82 = .ok (.getfield 15, 3) := by decide +kernel
theorem dX5_readClause_85 : decode cX5_readClause 85 = .ok (.aload_n 0, 1) := by decide +kernel
theorem dX5_readClause_86 : decode cX5_readClause 86 = .ok (.getfield 18, 3) := by decide +kernel
theorem dX5_readClause_89 : decode cX5_readClause 89 = .ok (.aload_n 1, 1) := by decide +kernel
theorem dX5_readClause_90 : decode cX5_readClause 90 = .ok (.getfield 63, 3) := by decide +kernel
theorem dX5_readClause_93 : decode cX5_readClause 93 = .ok (.invokestatic 59, 3) := by decide +kernel
theorem dX5_readClause_96 : decode cX5_readClause 96 = .ok (.aload_n 0, 1) := by decide +kernel
theorem dX5_readClause_97 : decode cX5_readClause 97 = .ok (.dup, 1) := by decide +kernel
theorem dX5_readClause_98 : decode cX5_readClause 98 = .ok (.getfield 18, 3) := by decide +kernel
theorem dX5_readClause_101 : decode cX5_readClause 101 = .ok (.iconst 1, 1) := by decide +kernel
theorem dX5_readClause_102 : decode cX5_readClause 102 = .ok (.iadd, 1) := by decide +kernel
theorem dX5_readClause_103 : decode cX5_readClause 103 = .ok (.putfield 18, 3) := by decide +kernel
theorem dX5_readClause_106 : decode cX5_readClause 106 = .ok (.aload_n 0, 1) := by decide +kernel
theorem dX5_readClause_107 : decode cX5_readClause 107 = .ok (.dup, 1) := by decide +kernel
theorem dX5_readClause_108 : decode cX5_readClause 108 = .ok (.getfield 22, 3) := by decide +kernel
theorem dX5_readClause_111 : decode cX5_readClause 111 = .ok (.aload_n 1, 1) := by decide +kernel
theorem dX5_readClause_112 : decode cX5_readClause 112 = .ok (.getfield 63, 3) := by decide +kernel
theorem dX5_readClause_115 : decode cX5_readClause 115 = .ok (.iadd, 1) := by decide +kernel
theorem dX5_readClause_116 : decode cX5_readClause 116 = .ok (.putfield 22, 3) := by decide +kernel
theorem dX5_readClause_119 : decode cX5_readClause 119 = .ok (.iconst 1, 1) := by decide +kernel
theorem dX5_readClause_120 : decode cX5_readClause 120 = .ok (.ireturn, 1) := by decide +kernel
theorem dX5_skyNamed_0 : decode cX5_skyNamed 0 = .ok (.iconst 0, 1) := by decide +kernel
theorem dX5_skyNamed_1 : decode cX5_skyNamed 1 = .ok (.istore_n 1, 1) := by decide +kernel
theorem dX5_skyNamed_2 : decode cX5_skyNamed 2 = .ok (.iload_n 1, 1) := by decide +kernel
theorem dX5_skyNamed_3 : decode cX5_skyNamed 3 = .ok (.iconst 3, 1) := by decide +kernel
theorem dX5_skyNamed_4 : decode cX5_skyNamed 4 = .ok (.if_icmp .ge 22, 3) := by decide +kernel
theorem dX5_skyNamed_7 : decode cX5_skyNamed 7 = .ok (.aload_n 0, 1) := by decide +kernel
theorem dX5_skyNamed_8 : decode cX5_skyNamed 8 = .ok (.iload_n 1, 1) := by decide +kernel
theorem dX5_skyNamed_9 : decode cX5_skyNamed 9 = .ok (.invokestatic 66, 3) := by decide +kernel
theorem dX5_skyNamed_12 : decode cX5_skyNamed 12 = .ok (.invokevirtual 70, 3) := by decide +kernel
theorem dX5_skyNamed_15 : decode cX5_skyNamed 15 = .ok (.ifCond .eq 5, 3) := by decide +kernel
theorem dX5_skyNamed_18 : decode cX5_skyNamed 18 = .ok (.iload_n 1, 1) := by decide +kernel
theorem dX5_skyNamed_19 : decode cX5_skyNamed 19 = .ok (.ireturn, 1) := by decide +kernel
theorem dX5_skyNamed_20 : decode cX5_skyNamed 20 = .ok (.iinc 1 1, 3) := by decide +kernel
theorem dX5_skyNamed_23 : decode cX5_skyNamed 23 = .ok (.goto (-21), 3) := by decide +kernel
theorem dX5_skyNamed_26 : decode cX5_skyNamed 26 = .ok (.iconst (-1), 1) := by decide +kernel
theorem dX5_skyNamed_27 : decode cX5_skyNamed 27 = .ok (.ireturn, 1) := by decide +kernel
theorem dX5_skyOf_0 : decode cX5_skyOf 0 = .ok (.iload_n 1, 1) := by decide +kernel
theorem dX5_skyOf_1 : decode cX5_skyOf 1 = .ok (.aload_n 0, 1) := by decide +kernel
theorem dX5_skyOf_2 : decode cX5_skyOf 2 = .ok (.getfield 22, 3) := by decide +kernel
theorem dX5_skyOf_5 : decode cX5_skyOf 5 = .ok (.if_icmp .lt 5, 3) := by decide +kernel
theorem dX5_skyOf_8 : decode cX5_skyOf 8 = .ok (.iconst 0, 1) := by decide +kernel
theorem dX5_skyOf_9 : decode cX5_skyOf 9 = .ok (.ireturn, 1) := by decide +kernel
theorem dX5_skyOf_10 : decode cX5_skyOf 10 = .ok (.iload_n 1, 1) := by decide +kernel
theorem dX5_skyOf_11 : decode cX5_skyOf 11 = .ok (.istore_n 2, 1) := by decide +kernel
theorem dX5_skyOf_12 : decode cX5_skyOf 12 = .ok (.iconst 0, 1) := by decide +kernel
theorem dX5_skyOf_13 : decode cX5_skyOf 13 = .ok (.istore_n 3, 1) := by decide +kernel
theorem dX5_skyOf_14 : decode cX5_skyOf 14 = .ok (.iload_n 3, 1) := by decide +kernel
theorem dX5_skyOf_15 : decode cX5_skyOf 15 = .ok (.aload_n 0, 1) := by decide +kernel
theorem dX5_skyOf_16 : decode cX5_skyOf 16 = .ok (.getfield 18, 3) := by decide +kernel
theorem dX5_skyOf_19 : decode cX5_skyOf 19 = .ok (.if_icmp .ge 33, 3) := by decide +kernel
theorem dX5_skyOf_22 : decode cX5_skyOf 22 = .ok (.iload_n 2, 1) := by decide +kernel
theorem dX5_skyOf_23 : decode cX5_skyOf 23 = .ok (.aload_n 0, 1) := by decide +kernel
theorem dX5_skyOf_24 : decode cX5_skyOf 24 = .ok (.getfield 15, 3) := by decide +kernel
theorem dX5_skyOf_27 : decode cX5_skyOf 27 = .ok (.iload_n 3, 1) := by decide +kernel
theorem dX5_skyOf_28 : decode cX5_skyOf 28 = .ok (.invokestatic 74, 3) := by decide +kernel
theorem dX5_skyOf_31 : decode cX5_skyOf 31 = .ok (.isub, 1) := by decide +kernel
theorem dX5_skyOf_32 : decode cX5_skyOf 32 = .ok (.istore_n 2, 1) := by decide +kernel
theorem dX5_skyOf_33 : decode cX5_skyOf 33 = .ok (.iload_n 2, 1) := by decide +kernel
theorem dX5_skyOf_34 : decode cX5_skyOf 34 = .ok (.ifCond .ge 12, 3) := by decide +kernel
theorem dX5_skyOf_37 : decode cX5_skyOf 37 = .ok (.aload_n 0, 1) := by decide +kernel
theorem dX5_skyOf_38 : decode cX5_skyOf 38 = .ok (.getfield 9, 3) := by decide +kernel
theorem dX5_skyOf_41 : decode cX5_skyOf 41 = .ok (.iload_n 3, 1) := by decide +kernel
theorem dX5_skyOf_42 : decode cX5_skyOf 42 = .ok (.invokestatic 74, 3) := by decide +kernel
theorem dX5_skyOf_45 : decode cX5_skyOf 45 = .ok (.ireturn, 1) := by decide +kernel
theorem dX5_skyOf_46 : decode cX5_skyOf 46 = .ok (.iinc 3 1, 3) := by decide +kernel
theorem dX5_skyOf_49 : decode cX5_skyOf 49 = .ok (.goto (-35), 3) := by decide +kernel
theorem dX5_skyOf_52 : decode cX5_skyOf 52 = .ok (.iconst 0, 1) := by decide +kernel
theorem dX5_skyOf_53 : decode cX5_skyOf 53 = .ok (.ireturn, 1) := by decide +kernel
theorem dX6_init_0 : decode cX6_init 0 = .ok (.aload_n 0, 1) := by decide +kernel
theorem dX6_init_1 : decode cX6_init 1 = .ok (.invokespecial 3, 3) := by decide +kernel
theorem dX6_init_4 : decode cX6_init 4 = .ok (.aload_n 0, 1) := by decide +kernel
theorem dX6_init_5 : decode cX6_init 5 = .ok (.bipush 9, 2) := by decide +kernel
theorem dX6_init_7 : decode cX6_init 7 = .ok (.newarray .int, 2) := by decide +kernel
theorem dX6_init_9 : decode cX6_init 9 = .ok (.putfield 9, 3) := by decide +kernel
theorem dX6_init_12 : decode cX6_init 12 = .ok (.aload_n 0, 1) := by decide +kernel
theorem dX6_init_13 : decode cX6_init 13 = .ok (.bipush 9, 2) := by decide +kernel
theorem dX6_init_15 : decode cX6_init 15 = .ok (.newarray .int, 2) := by decide +kernel
theorem dX6_init_17 : decode cX6_init 17 = .ok (.putfield 15, 3) := by decide +kernel
theorem dX6_init_20 : decode cX6_init 20 = .ok (.aload_n 0, 1) := by decide +kernel
theorem dX6_init_21 : decode cX6_init 21 = .ok (.bipush 9, 2) := by decide +kernel
theorem dX6_init_23 : decode cX6_init 23 = .ok (.newarray .int, 2) := by decide +kernel
theorem dX6_init_25 : decode cX6_init 25 = .ok (.putfield 18, 3) := by decide +kernel
theorem dX6_init_28 : decode cX6_init 28 = .ok (.aload_n 0, 1) := by decide +kernel
theorem dX6_init_29 : decode cX6_init 29 = .ok (.bipush 9, 2) := by decide +kernel
theorem dX6_init_31 : decode cX6_init 31 = .ok (.newarray .int, 2) := by decide +kernel
theorem dX6_init_33 : decode cX6_init 33 = .ok (.putfield 21, 3) := by decide +kernel
theorem dX6_init_36 : decode cX6_init 36 = .ok (.aload_n 0, 1) := by decide +kernel
theorem dX6_init_37 : decode cX6_init 37 = .ok (.iconst 0, 1) := by decide +kernel
theorem dX6_init_38 : decode cX6_init 38 = .ok (.iload_n 1, 1) := by decide +kernel
theorem dX6_init_39 : decode cX6_init 39 = .ok (.invokestatic 24, 3) := by decide +kernel
theorem dX6_init_42 : decode cX6_init 42 = .ok (.bipush 9, 2) := by decide +kernel
theorem dX6_init_44 : decode cX6_init 44 = .ok (.imul, 1) := by decide +kernel
theorem dX6_init_45 : decode cX6_init 45 = .ok (.newarray .int, 2) := by decide +kernel
theorem dX6_init_47 : decode cX6_init 47 = .ok (.putfield 30, 3) := by decide +kernel
theorem dX6_init_50 : decode cX6_init 50 = .ok (.aload_n 0, 1) := by decide +kernel
theorem dX6_init_51 : decode cX6_init 51 = .ok (.iconst (-1), 1) := by decide +kernel
theorem dX6_init_52 : decode cX6_init 52 = .ok (.putfield 33, 3) := by decide +kernel
theorem dX6_init_55 : decode cX6_init 55 = .ok (.return_, 1) := by decide +kernel
theorem dX6_startOver_0 : decode cX6_startOver 0 = .ok (.iconst 0, 1) := by decide +kernel
theorem dX6_startOver_1 : decode cX6_startOver 1 = .ok (.istore_n 2, 1) := by decide +kernel
theorem dX6_startOver_2 : decode cX6_startOver 2 = .ok (.iload_n 2, 1) := by decide +kernel
theorem dX6_startOver_3 : decode cX6_startOver 3 = .ok (.bipush 9, 2) := by decide +kernel
theorem dX6_startOver_5 : decode cX6_startOver 5 = .ok (.if_icmp .ge 52, 3) := by decide +kernel
theorem dX6_startOver_8 : decode cX6_startOver 8 = .ok (.aload_n 0, 1) := by decide +kernel
theorem dX6_startOver_9 : decode cX6_startOver 9 = .ok (.getfield 9, 3) := by decide +kernel
theorem dX6_startOver_12 : decode cX6_startOver 12 = .ok (.iload_n 2, 1) := by decide +kernel
theorem dX6_startOver_13 : decode cX6_startOver 13 = .ok (.aload_n 1, 1) := by decide +kernel
theorem dX6_startOver_14 : decode cX6_startOver 14 = .ok (.getfield 37, 3) := by decide +kernel
theorem dX6_startOver_17 : decode cX6_startOver 17 = .ok (.iload_n 2, 1) := by decide +kernel
theorem dX6_startOver_18 : decode cX6_startOver 18 = .ok (.invokestatic 42, 3) := by decide +kernel
theorem dX6_startOver_21 : decode cX6_startOver 21 = .ok (.invokestatic 46, 3) := by decide +kernel
theorem dX6_startOver_24 : decode cX6_startOver 24 = .ok (.aload_n 0, 1) := by decide +kernel
theorem dX6_startOver_25 : decode cX6_startOver 25 = .ok (.getfield 15, 3) := by decide +kernel
theorem dX6_startOver_28 : decode cX6_startOver 28 = .ok (.iload_n 2, 1) := by decide +kernel
theorem dX6_startOver_29 : decode cX6_startOver 29 = .ok (.iconst 0, 1) := by decide +kernel
theorem dX6_startOver_30 : decode cX6_startOver 30 = .ok (.invokestatic 46, 3) := by decide +kernel
theorem dX6_startOver_33 : decode cX6_startOver 33 = .ok (.aload_n 0, 1) := by decide +kernel
theorem dX6_startOver_34 : decode cX6_startOver 34 = .ok (.getfield 18, 3) := by decide +kernel
theorem dX6_startOver_37 : decode cX6_startOver 37 = .ok (.iload_n 2, 1) := by decide +kernel
theorem dX6_startOver_38 : decode cX6_startOver 38 = .ok (.iconst 0, 1) := by decide +kernel
theorem dX6_startOver_39 : decode cX6_startOver 39 = .ok (.invokestatic 46, 3) := by decide +kernel
theorem dX6_startOver_42 : decode cX6_startOver 42 = .ok (.aload_n 0, 1) := by decide +kernel
theorem dX6_startOver_43 : decode cX6_startOver 43 = .ok (.getfield 21, 3) := by decide +kernel
theorem dX6_startOver_46 : decode cX6_startOver 46 = .ok (.iload_n 2, 1) := by decide +kernel
theorem dX6_startOver_47 : decode cX6_startOver 47 = .ok (.iconst 0, 1) := by decide +kernel
theorem dX6_startOver_48 : decode cX6_startOver 48 = .ok (.invokestatic 46, 3) := by decide +kernel
theorem dX6_startOver_51 : decode cX6_startOver 51 = .ok (.iinc 2 1, 3) := by decide +kernel
theorem dX6_startOver_54 : decode cX6_startOver 54 = .ok (.goto (-52), 3) := by decide +kernel
theorem dX6_startOver_57 : decode cX6_startOver 57 = .ok (.aload_n 0, 1) := by decide +kernel
theorem dX6_startOver_58 : decode cX6_startOver 58 = .ok (.aload_n 1, 1) := by decide +kernel
theorem dX6_startOver_59 : decode cX6_startOver 59 = .ok (.getfield 50, 3) := by decide +kernel
theorem dX6_startOver_62 : decode cX6_startOver 62 = .ok (.putfield 53, 3) := by decide +kernel
theorem dX6_startOver_65 : decode cX6_startOver 65 = .ok (.aload_n 0, 1) := by decide +kernel
theorem dX6_startOver_66 : decode cX6_startOver 66 = .ok (.iconst 0, 1) := by decide +kernel
theorem dX6_startOver_67 : decode cX6_startOver 67 = .ok (.putfield 56, 3) := by decide +kernel
theorem dX6_startOver_70 : decode cX6_startOver 70 = .ok (.aload_n 0, 1) := by decide +kernel
theorem dX6_startOver_71 : decode cX6_startOver 71 = .ok (.iconst 0, 1) := by decide +kernel
theorem dX6_startOver_72 : decode cX6_startOver 72 = .ok (.putfield 59, 3) := by decide +kernel
theorem dX6_startOver_75 : decode cX6_startOver 75 = .ok (.aload_n 0, 1) := by decide +kernel
theorem dX6_startOver_76 : decode cX6_startOver 76 = .ok (.iconst 0, 1) := by decide +kernel
theorem dX6_startOver_77 : decode cX6_startOver 77 = .ok (.putfield 62, 3) := by decide +kernel
theorem dX6_startOver_80 : decode cX6_startOver 80 = .ok (.aload_n 0, 1) := by decide +kernel
theorem dX6_startOver_81 : decode cX6_startOver 81 = .ok (.iconst (-1), 1) := by decide +kernel
theorem dX6_startOver_82 : decode cX6_startOver 82 = .ok (.putfield 33, 3) := by decide +kernel
theorem dX6_startOver_85 : decode cX6_startOver 85 = .ok (.aload_n 0, 1) := by decide +kernel
theorem dX6_startOver_86 : decode cX6_startOver 86 = .ok (.iconst 0, 1) := by decide +kernel
theorem dX6_startOver_87 : decode cX6_startOver 87 = .ok (.putfield 65, 3) := by decide +kernel
theorem dX6_startOver_90 : decode cX6_startOver 90 = .ok (.aload_n 0, 1) := by decide +kernel
theorem dX6_startOver_91 : decode cX6_startOver 91 = .ok (.iconst 0, 1) := by decide +kernel
theorem dX6_startOver_92 : decode cX6_startOver 92 = .ok (.putfield 68, 3) := by decide +kernel
theorem dX6_startOver_95 : decode cX6_startOver 95 = .ok (.aload_n 0, 1) := by decide +kernel
theorem dX6_startOver_96 : decode cX6_startOver 96 = .ok (.iconst 0, 1) := by decide +kernel
theorem dX6_startOver_97 : decode cX6_startOver 97 = .ok (.putfield 71, 3) := by decide +kernel
theorem dX6_startOver_100 : decode cX6_startOver 100 = .ok (.aload_n 0, 1) := by decide +kernel
theorem dX6_startOver_101 : decode cX6_startOver 101 = .ok (.iconst 0, 1) := by decide +kernel
theorem dX6_startOver_102 : decode cX6_startOver 102 = .ok (.putfield 74, 3) := by decide +kernel
theorem dX6_startOver_105 : decode cX6_startOver 105 = .ok (.aload_n 0, 1) := by decide +kernel
theorem dX6_startOver_106 : decode cX6_startOver 106 = .ok (.iconst 0, 1) := by decide +kernel
theorem dX6_startOver_107 : decode cX6_startOver 107 = .ok (.putfield 77, 3) := by decide +kernel
theorem dX6_startOver_110 : decode cX6_startOver 110 = .ok (.aload_n 0, 1) := by decide +kernel
theorem dX6_startOver_111 : decode cX6_startOver 111 = .ok (.iconst 0, 1) := by decide +kernel
theorem dX6_startOver_112 : decode cX6_startOver 112 = .ok (.putfield 80, 3) := by decide +kernel
theorem dX6_startOver_115 : decode cX6_startOver 115 = .ok (.return_, 1) := by decide +kernel
theorem dX6_copyFrom_0 : decode cX6_copyFrom 0 = .ok (.aload_n 1, 1) := by decide +kernel
theorem dX6_copyFrom_1 : decode cX6_copyFrom 1 = .ok (.getfield 9, 3) := by decide +kernel
theorem dX6_copyFrom_4 : decode cX6_copyFrom 4 = .ok (.aload_n 0, 1) := by decide +kernel
theorem dX6_copyFrom_5 : decode cX6_copyFrom 5 = .ok (.getfield 9, 3) := by decide +kernel
theorem dX6_copyFrom_8 : decode cX6_copyFrom 8 = .ok (.invokestatic 83, 3) := by decide +kernel
theorem dX6_copyFrom_11 : decode cX6_copyFrom 11 = .ok (.aload_n 1, 1) := by decide +kernel
theorem dX6_copyFrom_12 : decode cX6_copyFrom 12 = .ok (.getfield 15, 3) := by decide +kernel
theorem dX6_copyFrom_15 : decode cX6_copyFrom 15 = .ok (.aload_n 0, 1) := by decide +kernel
theorem dX6_copyFrom_16 : decode cX6_copyFrom 16 = .ok (.getfield 15, 3) := by decide +kernel
theorem dX6_copyFrom_19 : decode cX6_copyFrom 19 = .ok (.invokestatic 83, 3) := by decide +kernel
theorem dX6_copyFrom_22 : decode cX6_copyFrom 22 = .ok (.aload_n 1, 1) := by decide +kernel
theorem dX6_copyFrom_23 : decode cX6_copyFrom 23 = .ok (.getfield 18, 3) := by decide +kernel
theorem dX6_copyFrom_26 : decode cX6_copyFrom 26 = .ok (.aload_n 0, 1) := by decide +kernel
theorem dX6_copyFrom_27 : decode cX6_copyFrom 27 = .ok (.getfield 18, 3) := by decide +kernel
theorem dX6_copyFrom_30 : decode cX6_copyFrom 30 = .ok (.invokestatic 83, 3) := by decide +kernel
theorem dX6_copyFrom_33 : decode cX6_copyFrom 33 = .ok (.aload_n 1, 1) := by decide +kernel
theorem dX6_copyFrom_34 : decode cX6_copyFrom 34 = .ok (.getfield 21, 3) := by decide +kernel
theorem dX6_copyFrom_37 : decode cX6_copyFrom 37 = .ok (.aload_n 0, 1) := by decide +kernel
theorem dX6_copyFrom_38 : decode cX6_copyFrom 38 = .ok (.getfield 21, 3) := by decide +kernel
theorem dX6_copyFrom_41 : decode cX6_copyFrom 41 = .ok (.invokestatic 83, 3) := by decide +kernel
theorem dX6_copyFrom_44 : decode cX6_copyFrom 44 = .ok (.aload_n 1, 1) := by decide +kernel
theorem dX6_copyFrom_45 : decode cX6_copyFrom 45 = .ok (.getfield 30, 3) := by decide +kernel
theorem dX6_copyFrom_48 : decode cX6_copyFrom 48 = .ok (.aload_n 0, 1) := by decide +kernel
theorem dX6_copyFrom_49 : decode cX6_copyFrom 49 = .ok (.getfield 30, 3) := by decide +kernel
theorem dX6_copyFrom_52 : decode cX6_copyFrom 52 = .ok (.invokestatic 83, 3) := by decide +kernel
theorem dX6_copyFrom_55 : decode cX6_copyFrom 55 = .ok (.aload_n 0, 1) := by decide +kernel
theorem dX6_copyFrom_56 : decode cX6_copyFrom 56 = .ok (.aload_n 1, 1) := by decide +kernel
theorem dX6_copyFrom_57 : decode cX6_copyFrom 57 = .ok (.getfield 53, 3) := by decide +kernel
theorem dX6_copyFrom_60 : decode cX6_copyFrom 60 = .ok (.putfield 53, 3) := by decide +kernel
theorem dX6_copyFrom_63 : decode cX6_copyFrom 63 = .ok (.aload_n 0, 1) := by decide +kernel
theorem dX6_copyFrom_64 : decode cX6_copyFrom 64 = .ok (.aload_n 1, 1) := by decide +kernel
theorem dX6_copyFrom_65 : decode cX6_copyFrom 65 = .ok (.getfield 56, 3) := by decide +kernel
theorem dX6_copyFrom_68 : decode cX6_copyFrom 68 = .ok (.putfield 56, 3) := by decide +kernel
theorem dX6_copyFrom_71 : decode cX6_copyFrom 71 = .ok (.aload_n 0, 1) := by decide +kernel
theorem dX6_copyFrom_72 : decode cX6_copyFrom 72 = .ok (.aload_n 1, 1) := by decide +kernel
theorem dX6_copyFrom_73 : decode cX6_copyFrom 73 = .ok (.getfield 59, 3) := by decide +kernel
theorem dX6_copyFrom_76 : decode cX6_copyFrom 76 = .ok (.putfield 59, 3) := by decide +kernel
theorem dX6_copyFrom_79 : decode cX6_copyFrom 79 = .ok (.aload_n 0, 1) := by decide +kernel
theorem dX6_copyFrom_80 : decode cX6_copyFrom 80 = .ok (.aload_n 1, 1) := by decide +kernel
theorem dX6_copyFrom_81 : decode cX6_copyFrom 81 = .ok (.getfield 62, 3) := by decide +kernel
theorem dX6_copyFrom_84 : decode cX6_copyFrom 84 = .ok (.putfield 62, 3) := by decide +kernel
theorem dX6_copyFrom_87 : decode cX6_copyFrom 87 = .ok (.aload_n 0, 1) := by decide +kernel
theorem dX6_copyFrom_88 : decode cX6_copyFrom 88 = .ok (.aload_n 1, 1) := by decide +kernel
theorem dX6_copyFrom_89 : decode cX6_copyFrom 89 = .ok (.getfield 33, 3) := by decide +kernel
theorem dX6_copyFrom_92 : decode cX6_copyFrom 92 = .ok (.putfield 33, 3) := by decide +kernel
theorem dX6_copyFrom_95 : decode cX6_copyFrom 95 = .ok (.aload_n 0, 1) := by decide +kernel
theorem dX6_copyFrom_96 : decode cX6_copyFrom 96 = .ok (.aload_n 1, 1) := by decide +kernel
theorem dX6_copyFrom_97 : decode cX6_copyFrom 97 = .ok (.getfield 65, 3) := by decide +kernel
theorem dX6_copyFrom_100 : decode cX6_copyFrom 100 = .ok (.putfield 65, 3) := by decide +kernel
theorem dX6_copyFrom_103 : decode cX6_copyFrom 103 = .ok (.aload_n 0, 1) := by decide +kernel
theorem dX6_copyFrom_104 : decode cX6_copyFrom 104 = .ok (.aload_n 1, 1) := by decide +kernel
theorem dX6_copyFrom_105 : decode cX6_copyFrom 105 = .ok (.getfield 68, 3) := by decide +kernel
theorem dX6_copyFrom_108 : decode cX6_copyFrom 108 = .ok (.putfield 68, 3) := by decide +kernel
theorem dX6_copyFrom_111 : decode cX6_copyFrom 111 = .ok (.aload_n 0, 1) := by decide +kernel
theorem dX6_copyFrom_112 : decode cX6_copyFrom 112 = .ok (.aload_n 1, 1) := by decide +kernel
theorem dX6_copyFrom_113 : decode cX6_copyFrom 113 = .ok (.getfield 71, 3) := by decide +kernel
theorem dX6_copyFrom_116 : decode cX6_copyFrom 116 = .ok (.putfield 71, 3) := by decide +kernel
theorem dX6_copyFrom_119 : decode cX6_copyFrom 119 = .ok (.aload_n 0, 1) := by decide +kernel
theorem dX6_copyFrom_120 : decode cX6_copyFrom 120 = .ok (.aload_n 1, 1) := by decide +kernel
theorem dX6_copyFrom_121 : decode cX6_copyFrom 121 = .ok (.getfield 74, 3) := by decide +kernel
theorem dX6_copyFrom_124 : decode cX6_copyFrom 124 = .ok (.putfield 74, 3) := by decide +kernel
theorem dX6_copyFrom_127 : decode cX6_copyFrom 127 = .ok (.aload_n 0, 1) := by decide +kernel
theorem dX6_copyFrom_128 : decode cX6_copyFrom 128 = .ok (.aload_n 1, 1) := by decide +kernel
theorem dX6_copyFrom_129 : decode cX6_copyFrom 129 = .ok (.getfield 77, 3) := by decide +kernel
theorem dX6_copyFrom_132 : decode cX6_copyFrom 132 = .ok (.putfield 77, 3) := by decide +kernel
theorem dX6_copyFrom_135 : decode cX6_copyFrom 135 = .ok (.aload_n 0, 1) := by decide +kernel
theorem dX6_copyFrom_136 : decode cX6_copyFrom 136 = .ok (.aload_n 1, 1) := by decide +kernel
theorem dX6_copyFrom_137 : decode cX6_copyFrom 137 = .ok (.getfield 80, 3) := by decide +kernel
theorem dX6_copyFrom_140 : decode cX6_copyFrom 140 = .ok (.putfield 80, 3) := by decide +kernel
theorem dX6_copyFrom_143 : decode cX6_copyFrom 143 = .ok (.aload_n 0, 1) := by decide +kernel
theorem dX6_copyFrom_144 : decode cX6_copyFrom 144 = .ok (.aload_n 1, 1) := by decide +kernel
theorem dX6_copyFrom_145 : decode cX6_copyFrom 145 = .ok (.getfield 87, 3) := by decide +kernel
theorem dX6_copyFrom_148 : decode cX6_copyFrom 148 = .ok (.putfield 87, 3) := by decide +kernel
theorem dX6_copyFrom_151 : decode cX6_copyFrom 151 = .ok (.return_, 1) := by decide +kernel
theorem dX6_live_0 : decode cX6_live 0 = .ok (.aload_n 0, 1) := by decide +kernel
theorem dX6_live_1 : decode cX6_live 1 = .ok (.aload_n 1, 1) := by decide +kernel
theorem dX6_live_2 : decode cX6_live 2 = .ok (.invokevirtual 91, 3) := by decide +kernel
theorem dX6_live_5 : decode cX6_live 5 = .ok (.aload_n 0, 1) := by decide +kernel
theorem dX6_live_6 : decode cX6_live 6 = .ok (.aload_n 1, 1) := by decide +kernel
theorem dX6_live_7 : decode cX6_live 7 = .ok (.iload_n 2, 1) := by decide +kernel
theorem dX6_live_8 : decode cX6_live 8 = .ok (.invokevirtual 95, 3) := by decide +kernel
theorem dX6_live_11 : decode cX6_live 11 = .ok (.aload_n 1, 1) := by decide +kernel
theorem dX6_live_12 : decode cX6_live 12 = .ok (.aload_n 0, 1) := by decide +kernel
theorem dX6_live_13 : decode cX6_live 13 = .ok (.getfield 71, 3) := by decide +kernel
theorem dX6_live_16 : decode cX6_live 16 = .ok (.invokevirtual 99, 3) := by decide +kernel
theorem dX6_live_19 : decode cX6_live 19 = .ok (.istore_n 3, 1) := by decide +kernel
theorem dX6_live_20 : decode cX6_live 20 = .ok (.iconst 0, 1) := by decide +kernel
theorem dX6_live_21 : decode cX6_live 21 = .ok (.istore 4, 2) := by decide +kernel
theorem dX6_live_23 : decode cX6_live 23 = .ok (.iconst 0, 1) := by decide +kernel
theorem dX6_live_24 : decode cX6_live 24 = .ok (.istore 5, 2) := by decide +kernel
theorem dX6_live_26 : decode cX6_live 26 = .ok (.iload 5, 2) := by decide +kernel
