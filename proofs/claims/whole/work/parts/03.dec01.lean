theorem dX6_live_28 : decode cX6_live 28 = .ok (.aload_n 1, 1) := by decide +kernel
theorem dX6_live_29 : decode cX6_live 29 = .ok (.getfield 103, 3) := by decide +kernel
theorem dX6_live_32 : decode cX6_live 32 = .ok (.if_icmp .ge 114, 3) := by decide +kernel
theorem dX6_live_35 : decode cX6_live 35 = .ok (.aload_n 1, 1) := by decide +kernel
theorem dX6_live_36 : decode cX6_live 36 = .ok (.iload 5, 2) := by decide +kernel
theorem dX6_live_38 : decode cX6_live 38 = .ok (.iload_n 3, 1) := by decide +kernel
theorem dX6_live_39 : decode cX6_live 39 = .ok (.iload_n 2, 1) := by decide +kernel
theorem dX6_live_40 : decode cX6_live 40 = .ok (.aload_n 0, 1) := by decide +kernel
theorem dX6_live_41 : decode cX6_live 41 = .ok (.getfield 15, 3) := by decide +kernel
theorem dX6_live_44 : decode cX6_live 44 = .ok (.iload 5, 2) := by decide +kernel
theorem dX6_live_46 : decode cX6_live 46 = .ok (.invokestatic 42, 3) := by decide +kernel
theorem dX6_live_49 : decode cX6_live 49 = .ok (.iconst 1, 1) := by decide +kernel
theorem dX6_live_50 : decode cX6_live 50 = .ok (.if_icmp .ne 7, 3) := by decide +kernel
theorem dX6_live_53 : decode cX6_live 53 = .ok (.iconst 1, 1) := by decide +kernel
theorem dX6_live_54 : decode cX6_live 54 = .ok (.goto 4, 3) := by decide +kernel
theorem dX6_live_57 : decode cX6_live 57 = .ok (.iconst 0, 1) := by decide +kernel
theorem dX6_live_58 : decode cX6_live 58 = .ok (.invokevirtual 106, 3) := by decide +kernel
theorem dX6_live_61 : decode cX6_live 61 = .ok (.istore 6, 2) := by decide +kernel
theorem dX6_live_63 : decode cX6_live 63 = .ok (.aload_n 0, 1) := by decide +kernel
theorem dX6_live_64 : decode cX6_live 64 = .ok (.aload_n 1, 1) := by decide +kernel
theorem dX6_live_65 : decode cX6_live 65 = .ok (.iload 5, 2) := by decide +kernel
theorem dX6_live_67 : decode cX6_live 67 = .ok (.iload 6, 2) := by decide +kernel
theorem dX6_live_69 : decode cX6_live 69 = .ok (.invokevirtual 110, 3) := by decide +kernel
theorem dX6_live_72 : decode cX6_live 72 = .ok (.ifCond .ne 13, 3) := by decide +kernel
theorem dX6_live_75 : decode cX6_live 75 = .ok (.aload_n 1, 1) := by decide +kernel
theorem dX6_live_76 : decode cX6_live 76 = .ok (.iload 5, 2) := by decide +kernel
theorem dX6_live_78 : decode cX6_live 78 = .ok (.iload_n 2, 1) := by decide +kernel
theorem dX6_live_79 : decode cX6_live 79 = .ok (.invokevirtual 114, 3) := by decide +kernel
theorem dX6_live_82 : decode cX6_live 82 = .ok (.ifCond .eq 23, 3) := by decide +kernel
theorem dX6_live_85 : decode cX6_live 85 = .ok (.iload 4, 2) := by decide +kernel
theorem dX6_live_87 : decode cX6_live 87 = .ok (.iconst 1, 1) := by decide +kernel
theorem dX6_live_88 : decode cX6_live 88 = .ok (.iload 5, 2) := by decide +kernel
theorem dX6_live_90 : decode cX6_live 90 = .ok (.ishl, 1) := by decide +kernel
theorem dX6_live_91 : decode cX6_live 91 = .ok (.ior, 1) := by decide +kernel
theorem dX6_live_92 : decode cX6_live 92 = .ok (.istore 4, 2) := by decide +kernel
theorem dX6_live_94 : decode cX6_live 94 = .ok (.aload_n 0, 1) := by decide +kernel
theorem dX6_live_95 : decode cX6_live 95 = .ok (.aload_n 1, 1) := by decide +kernel
theorem dX6_live_96 : decode cX6_live 96 = .ok (.iload 5, 2) := by decide +kernel
theorem dX6_live_98 : decode cX6_live 98 = .ok (.iload_n 2, 1) := by decide +kernel
theorem dX6_live_99 : decode cX6_live 99 = .ok (.invokevirtual 118, 3) := by decide +kernel
theorem dX6_live_102 : decode cX6_live 102 = .ok (.goto 13, 3) := by decide +kernel
theorem dX6_live_105 : decode cX6_live 105 = .ok (.aload_n 0, 1) := by decide +kernel
theorem dX6_live_106 : decode cX6_live 106 = .ok (.getfield 18, 3) := by decide +kernel
theorem dX6_live_109 : decode cX6_live 109 = .ok (.iload 5, 2) := by decide +kernel
theorem dX6_live_111 : decode cX6_live 111 = .ok (.iconst 0, 1) := by decide +kernel
theorem dX6_live_112 : decode cX6_live 112 = .ok (.invokestatic 46, 3) := by decide +kernel
theorem dX6_live_115 : decode cX6_live 115 = .ok (.aload_n 0, 1) := by decide +kernel
theorem dX6_live_116 : decode cX6_live 116 = .ok (.getfield 30, 3) := by decide +kernel
theorem dX6_live_119 : decode cX6_live 119 = .ok (.iload 5, 2) := by decide +kernel
theorem dX6_live_121 : decode cX6_live 121 = .ok (.aload_n 0, 1) := by decide +kernel
theorem dX6_live_122 : decode cX6_live 122 = .ok (.getfield 71, 3) := by decide +kernel
theorem dX6_live_125 : decode cX6_live 125 = .ok (.invokestatic 122, 3) := by decide +kernel
theorem dX6_live_128 : decode cX6_live 128 = .ok (.aload_n 0, 1) := by decide +kernel
theorem dX6_live_129 : decode cX6_live 129 = .ok (.getfield 9, 3) := by decide +kernel
theorem dX6_live_132 : decode cX6_live 132 = .ok (.iload 5, 2) := by decide +kernel
theorem dX6_live_134 : decode cX6_live 134 = .ok (.invokestatic 42, 3) := by decide +kernel
theorem dX6_live_137 : decode cX6_live 137 = .ok (.invokestatic 46, 3) := by decide +kernel
theorem dX6_live_140 : decode cX6_live 140 = .ok (.iinc 5 1, 3) := by decide +kernel
theorem dX6_live_143 : decode cX6_live 143 = .ok (.goto (-117), 3) := by decide +kernel
theorem dX6_live_146 : decode cX6_live 146 = .ok (.aload_n 0, 1) := by decide +kernel
theorem dX6_live_147 : decode cX6_live 147 = .ok (.iload_n 2, 1) := by decide +kernel
theorem dX6_live_148 : decode cX6_live 148 = .ok (.putfield 74, 3) := by decide +kernel
theorem dX6_live_151 : decode cX6_live 151 = .ok (.aload_n 0, 1) := by decide +kernel
theorem dX6_live_152 : decode cX6_live 152 = .ok (.dup, 1) := by decide +kernel
theorem dX6_live_153 : decode cX6_live 153 = .ok (.getfield 71, 3) := by decide +kernel
theorem dX6_live_156 : decode cX6_live 156 = .ok (.iconst 1, 1) := by decide +kernel
theorem dX6_live_157 : decode cX6_live 157 = .ok (.iadd, 1) := by decide +kernel
theorem dX6_live_158 : decode cX6_live 158 = .ok (.putfield 71, 3) := by decide +kernel
theorem dX6_live_161 : decode cX6_live 161 = .ok (.iload 4, 2) := by decide +kernel
theorem dX6_live_163 : decode cX6_live 163 = .ok (.ireturn, 1) := by decide +kernel
theorem dX6_layEggs_0 : decode cX6_layEggs 0 = .ok (.aload_n 0, 1) := by decide +kernel
theorem dX6_layEggs_1 : decode cX6_layEggs 1 = .ok (.dup, 1) := by decide +kernel
theorem dX6_layEggs_2 : decode cX6_layEggs 2 = .ok (.getfield 56, 3) := by decide +kernel
theorem dX6_layEggs_5 : decode cX6_layEggs 5 = .ok (.aload_n 1, 1) := by decide +kernel
theorem dX6_layEggs_6 : decode cX6_layEggs 6 = .ok (.getfield 125, 3) := by decide +kernel
theorem dX6_layEggs_9 : decode cX6_layEggs 9 = .ok (.iadd, 1) := by decide +kernel
theorem dX6_layEggs_10 : decode cX6_layEggs 10 = .ok (.putfield 56, 3) := by decide +kernel
theorem dX6_layEggs_13 : decode cX6_layEggs 13 = .ok (.aload_n 1, 1) := by decide +kernel
theorem dX6_layEggs_14 : decode cX6_layEggs 14 = .ok (.getfield 128, 3) := by decide +kernel
theorem dX6_layEggs_17 : decode cX6_layEggs 17 = .ok (.ifCond .le 46, 3) := by decide +kernel
theorem dX6_layEggs_20 : decode cX6_layEggs 20 = .ok (.aload_n 0, 1) := by decide +kernel
theorem dX6_layEggs_21 : decode cX6_layEggs 21 = .ok (.getfield 56, 3) := by decide +kernel
theorem dX6_layEggs_24 : decode cX6_layEggs 24 = .ok (.aload_n 1, 1) := by decide +kernel
theorem dX6_layEggs_25 : decode cX6_layEggs 25 = .ok (.getfield 128, 3) := by decide +kernel
theorem dX6_layEggs_28 : decode cX6_layEggs 28 = .ok (.idiv, 1) := by decide +kernel
theorem dX6_layEggs_29 : decode cX6_layEggs 29 = .ok (.istore_n 2, 1) := by decide +kernel
theorem dX6_layEggs_30 : decode cX6_layEggs 30 = .ok (.aload_n 0, 1) := by decide +kernel
theorem dX6_layEggs_31 : decode cX6_layEggs 31 = .ok (.dup, 1) := by decide +kernel
theorem dX6_layEggs_32 : decode cX6_layEggs 32 = .ok (.getfield 56, 3) := by decide +kernel
theorem dX6_layEggs_35 : decode cX6_layEggs 35 = .ok (.aload_n 1, 1) := by decide +kernel
theorem dX6_layEggs_36 : decode cX6_layEggs 36 = .ok (.getfield 128, 3) := by decide +kernel
theorem dX6_layEggs_39 : decode cX6_layEggs 39 = .ok (.irem, 1) := by decide +kernel
theorem dX6_layEggs_40 : decode cX6_layEggs 40 = .ok (.putfield 56, 3) := by decide +kernel
theorem dX6_layEggs_43 : decode cX6_layEggs 43 = .ok (.aload_n 0, 1) := by decide +kernel
theorem dX6_layEggs_44 : decode cX6_layEggs 44 = .ok (.dup, 1) := by decide +kernel
theorem dX6_layEggs_45 : decode cX6_layEggs 45 = .ok (.getfield 53, 3) := by decide +kernel
theorem dX6_layEggs_48 : decode cX6_layEggs 48 = .ok (.iload_n 2, 1) := by decide +kernel
theorem dX6_layEggs_49 : decode cX6_layEggs 49 = .ok (.iadd, 1) := by decide +kernel
theorem dX6_layEggs_50 : decode cX6_layEggs 50 = .ok (.putfield 53, 3) := by decide +kernel
theorem dX6_layEggs_53 : decode cX6_layEggs 53 = .ok (.aload_n 0, 1) := by decide +kernel
theorem dX6_layEggs_54 : decode cX6_layEggs 54 = .ok (.dup, 1) := by decide +kernel
theorem dX6_layEggs_55 : decode cX6_layEggs 55 = .ok (.getfield 80, 3) := by decide +kernel
theorem dX6_layEggs_58 : decode cX6_layEggs 58 = .ok (.iload_n 2, 1) := by decide +kernel
theorem dX6_layEggs_59 : decode cX6_layEggs 59 = .ok (.iadd, 1) := by decide +kernel
theorem dX6_layEggs_60 : decode cX6_layEggs 60 = .ok (.putfield 80, 3) := by decide +kernel
theorem dX6_layEggs_63 : decode cX6_layEggs 63 = .ok (.return_, 1) := by decide +kernel
theorem dX6_sail_0 : decode cX6_sail 0 = .ok (.aload_n 1, 1) := by decide +kernel
theorem dX6_sail_1 : decode cX6_sail 1 = .ok (.aload_n 0, 1) := by decide +kernel
theorem dX6_sail_2 : decode cX6_sail 2 = .ok (.getfield 33, 3) := by decide +kernel
theorem dX6_sail_5 : decode cX6_sail 5 = .ok (.invokevirtual 131, 3) := by decide +kernel
theorem dX6_sail_8 : decode cX6_sail 8 = .ok (.aload_n 0, 1) := by decide +kernel
theorem dX6_sail_9 : decode cX6_sail 9 = .ok (.getfield 59, 3) := by decide +kernel
theorem dX6_sail_12 : decode cX6_sail 12 = .ok (.isub, 1) := by decide +kernel
theorem dX6_sail_13 : decode cX6_sail 13 = .ok (.istore_n 3, 1) := by decide +kernel
theorem dX6_sail_14 : decode cX6_sail 14 = .ok (.iload_n 3, 1) := by decide +kernel
theorem dX6_sail_15 : decode cX6_sail 15 = .ok (.invokestatic 134, 3) := by decide +kernel
theorem dX6_sail_18 : decode cX6_sail 18 = .ok (.aload_n 1, 1) := by decide +kernel
theorem dX6_sail_19 : decode cX6_sail 19 = .ok (.iload_n 2, 1) := by decide +kernel
theorem dX6_sail_20 : decode cX6_sail 20 = .ok (.invokevirtual 137, 3) := by decide +kernel
theorem dX6_sail_23 : decode cX6_sail 23 = .ok (.invokestatic 140, 3) := by decide +kernel
theorem dX6_sail_26 : decode cX6_sail 26 = .ok (.istore 4, 2) := by decide +kernel
theorem dX6_sail_28 : decode cX6_sail 28 = .ok (.aload_n 0, 1) := by decide +kernel
theorem dX6_sail_29 : decode cX6_sail 29 = .ok (.dup, 1) := by decide +kernel
theorem dX6_sail_30 : decode cX6_sail 30 = .ok (.getfield 59, 3) := by decide +kernel
theorem dX6_sail_33 : decode cX6_sail 33 = .ok (.iload_n 3, 1) := by decide +kernel
theorem dX6_sail_34 : decode cX6_sail 34 = .ok (.ifCond .ge 9, 3) := by decide +kernel
theorem dX6_sail_37 : decode cX6_sail 37 = .ok (.iload 4, 2) := by decide +kernel
theorem dX6_sail_39 : decode cX6_sail 39 = .ok (.ineg, 1) := by decide +kernel
theorem dX6_sail_40 : decode cX6_sail 40 = .ok (.goto 5, 3) := by decide +kernel
theorem dX6_sail_43 : decode cX6_sail 43 = .ok (.iload 4, 2) := by decide +kernel
theorem dX6_sail_45 : decode cX6_sail 45 = .ok (.iadd, 1) := by decide +kernel
theorem dX6_sail_46 : decode cX6_sail 46 = .ok (.putfield 59, 3) := by decide +kernel
theorem dX6_sail_49 : decode cX6_sail 49 = .ok (.aload_n 0, 1) := by decide +kernel
theorem dX6_sail_50 : decode cX6_sail 50 = .ok (.getfield 59, 3) := by decide +kernel
theorem dX6_sail_53 : decode cX6_sail 53 = .ok (.aload_n 1, 1) := by decide +kernel
theorem dX6_sail_54 : decode cX6_sail 54 = .ok (.aload_n 0, 1) := by decide +kernel
theorem dX6_sail_55 : decode cX6_sail 55 = .ok (.getfield 33, 3) := by decide +kernel
theorem dX6_sail_58 : decode cX6_sail 58 = .ok (.invokevirtual 131, 3) := by decide +kernel
theorem dX6_sail_61 : decode cX6_sail 61 = .ok (.if_icmp .eq 4, 3) := by decide +kernel
theorem dX6_sail_64 : decode cX6_sail 64 = .ok (.return_, 1) := by decide +kernel
theorem dX6_sail_65 : decode cX6_sail 65 = .ok (.aload_n 0, 1) := by decide +kernel
theorem dX6_sail_66 : decode cX6_sail 66 = .ok (.getfield 33, 3) := by decide +kernel
theorem dX6_sail_69 : decode cX6_sail 69 = .ok (.iconst (-1), 1) := by decide +kernel
theorem dX6_sail_70 : decode cX6_sail 70 = .ok (.if_icmp .ne 16, 3) := by decide +kernel
theorem dX6_sail_73 : decode cX6_sail 73 = .ok (.aload_n 0, 1) := by decide +kernel
theorem dX6_sail_74 : decode cX6_sail 74 = .ok (.aload_n 1, 1) := by decide +kernel
theorem dX6_sail_75 : decode cX6_sail 75 = .ok (.aload_n 1, 1) := by decide +kernel
theorem dX6_sail_76 : decode cX6_sail 76 = .ok (.getfield 143, 3) := by decide +kernel
theorem dX6_sail_79 : decode cX6_sail 79 = .ok (.invokevirtual 146, 3) := by decide +kernel
theorem dX6_sail_82 : decode cX6_sail 82 = .ok (.pop, 1) := by decide +kernel
theorem dX6_sail_83 : decode cX6_sail 83 = .ok (.goto 12, 3) := by decide +kernel
theorem dX6_sail_86 : decode cX6_sail 86 = .ok (.aload_n 0, 1) := by decide +kernel
theorem dX6_sail_87 : decode cX6_sail 87 = .ok (.aload_n 1, 1) := by decide +kernel
theorem dX6_sail_88 : decode cX6_sail 88 = .ok (.aload_n 0, 1) := by decide +kernel
theorem dX6_sail_89 : decode cX6_sail 89 = .ok (.getfield 33, 3) := by decide +kernel
theorem dX6_sail_92 : decode cX6_sail 92 = .ok (.invokevirtual 150, 3) := by decide +kernel
theorem dX6_sail_95 : decode cX6_sail 95 = .ok (.return_, 1) := by decide +kernel
theorem dX6_takeOil_0 : decode cX6_takeOil 0 = .ok (.iload_n 2, 1) := by decide +kernel
theorem dX6_takeOil_1 : decode cX6_takeOil 1 = .ok (.aload_n 0, 1) := by decide +kernel
theorem dX6_takeOil_2 : decode cX6_takeOil 2 = .ok (.getfield 53, 3) := by decide +kernel
theorem dX6_takeOil_5 : decode cX6_takeOil 5 = .ok (.aload_n 1, 1) := by decide +kernel
theorem dX6_takeOil_6 : decode cX6_takeOil 6 = .ok (.getfield 143, 3) := by decide +kernel
theorem dX6_takeOil_9 : decode cX6_takeOil 9 = .ok (.aload_n 0, 1) := by decide +kernel
theorem dX6_takeOil_10 : decode cX6_takeOil 10 = .ok (.getfield 62, 3) := by decide +kernel
theorem dX6_takeOil_13 : decode cX6_takeOil 13 = .ok (.isub, 1) := by decide +kernel
theorem dX6_takeOil_14 : decode cX6_takeOil 14 = .ok (.invokestatic 140, 3) := by decide +kernel
theorem dX6_takeOil_17 : decode cX6_takeOil 17 = .ok (.invokestatic 140, 3) := by decide +kernel
theorem dX6_takeOil_20 : decode cX6_takeOil 20 = .ok (.istore_n 3, 1) := by decide +kernel
theorem dX6_takeOil_21 : decode cX6_takeOil 21 = .ok (.aload_n 0, 1) := by decide +kernel
theorem dX6_takeOil_22 : decode cX6_takeOil 22 = .ok (.dup, 1) := by decide +kernel
theorem dX6_takeOil_23 : decode cX6_takeOil 23 = .ok (.getfield 53, 3) := by decide +kernel
theorem dX6_takeOil_26 : decode cX6_takeOil 26 = .ok (.iload_n 3, 1) := by decide +kernel
theorem dX6_takeOil_27 : decode cX6_takeOil 27 = .ok (.isub, 1) := by decide +kernel
theorem dX6_takeOil_28 : decode cX6_takeOil 28 = .ok (.putfield 53, 3) := by decide +kernel
theorem dX6_takeOil_31 : decode cX6_takeOil 31 = .ok (.aload_n 0, 1) := by decide +kernel
theorem dX6_takeOil_32 : decode cX6_takeOil 32 = .ok (.dup, 1) := by decide +kernel
theorem dX6_takeOil_33 : decode cX6_takeOil 33 = .ok (.getfield 62, 3) := by decide +kernel
theorem dX6_takeOil_36 : decode cX6_takeOil 36 = .ok (.iload_n 3, 1) := by decide +kernel
theorem dX6_takeOil_37 : decode cX6_takeOil 37 = .ok (.iadd, 1) := by decide +kernel
theorem dX6_takeOil_38 : decode cX6_takeOil 38 = .ok (.putfield 62, 3) := by decide +kernel
theorem dX6_takeOil_41 : decode cX6_takeOil 41 = .ok (.iload_n 3, 1) := by decide +kernel
theorem dX6_takeOil_42 : decode cX6_takeOil 42 = .ok (.ireturn, 1) := by decide +kernel
theorem dX6_isFillingBy_0 : decode cX6_isFillingBy 0 = .ok (.aload_n 0, 1) := by decide +kernel
theorem dX6_isFillingBy_1 : decode cX6_isFillingBy 1 = .ok (.getfield 62, 3) := by decide +kernel
theorem dX6_isFillingBy_4 : decode cX6_isFillingBy 4 = .ok (.ifCond .le 50, 3) := by decide +kernel
theorem dX6_isFillingBy_7 : decode cX6_isFillingBy 7 = .ok (.aload_n 0, 1) := by decide +kernel
theorem dX6_isFillingBy_8 : decode cX6_isFillingBy 8 = .ok (.getfield 9, 3) := by decide +kernel
theorem dX6_isFillingBy_11 : decode cX6_isFillingBy 11 = .ok (.iload_n 3, 1) := by decide +kernel
theorem dX6_isFillingBy_12 : decode cX6_isFillingBy 12 = .ok (.invokestatic 42, 3) := by decide +kernel
theorem dX6_isFillingBy_15 : decode cX6_isFillingBy 15 = .ok (.aload_n 1, 1) := by decide +kernel
theorem dX6_isFillingBy_16 : decode cX6_isFillingBy 16 = .ok (.getfield 37, 3) := by decide +kernel
theorem dX6_isFillingBy_19 : decode cX6_isFillingBy 19 = .ok (.iload_n 3, 1) := by decide +kernel
theorem dX6_isFillingBy_20 : decode cX6_isFillingBy 20 = .ok (.invokestatic 42, 3) := by decide +kernel
theorem dX6_isFillingBy_23 : decode cX6_isFillingBy 23 = .ok (.if_icmp .ge 31, 3) := by decide +kernel
theorem dX6_isFillingBy_26 : decode cX6_isFillingBy 26 = .ok (.aload_n 1, 1) := by decide +kernel
theorem dX6_isFillingBy_27 : decode cX6_isFillingBy 27 = .ok (.getfield 153, 3) := by decide +kernel
theorem dX6_isFillingBy_30 : decode cX6_isFillingBy 30 = .ok (.iload_n 3, 1) := by decide +kernel
theorem dX6_isFillingBy_31 : decode cX6_isFillingBy 31 = .ok (.invokestatic 42, 3) := by decide +kernel
theorem dX6_isFillingBy_34 : decode cX6_isFillingBy 34 = .ok (.aload_n 0, 1) := by decide +kernel
theorem dX6_isFillingBy_35 : decode cX6_isFillingBy 35 = .ok (.getfield 59, 3) := by decide +kernel
theorem dX6_isFillingBy_38 : decode cX6_isFillingBy 38 = .ok (.isub, 1) := by decide +kernel
theorem dX6_isFillingBy_39 : decode cX6_isFillingBy 39 = .ok (.invokestatic 134, 3) := by decide +kernel
theorem dX6_isFillingBy_42 : decode cX6_isFillingBy 42 = .ok (.aload_n 1, 1) := by decide +kernel
theorem dX6_isFillingBy_43 : decode cX6_isFillingBy 43 = .ok (.iload_n 2, 1) := by decide +kernel
theorem dX6_isFillingBy_44 : decode cX6_isFillingBy 44 = .ok (.invokevirtual 137, 3) := by decide +kernel
theorem dX6_isFillingBy_47 : decode cX6_isFillingBy 47 = .ok (.if_icmp .gt 7, 3) := by decide +kernel
theorem dX6_isFillingBy_50 : decode cX6_isFillingBy 50 = .ok (.iconst 1, 1) := by decide +kernel
theorem dX6_isFillingBy_51 : decode cX6_isFillingBy 51 = .ok (.goto 4, 3) := by decide +kernel
theorem dX6_isFillingBy_54 : decode cX6_isFillingBy 54 = .ok (.iconst 0, 1) := by decide +kernel
theorem dX6_isFillingBy_55 : decode cX6_isFillingBy 55 = .ok (.ireturn, 1) := by decide +kernel
theorem dX6_fillLight_0 : decode cX6_fillLight 0 = .ok (.aload_n 0, 1) := by decide +kernel
theorem dX6_fillLight_1 : decode cX6_fillLight 1 = .ok (.getfield 62, 3) := by decide +kernel
theorem dX6_fillLight_4 : decode cX6_fillLight 4 = .ok (.aload_n 1, 1) := by decide +kernel
theorem dX6_fillLight_5 : decode cX6_fillLight 5 = .ok (.getfield 37, 3) := by decide +kernel
theorem dX6_fillLight_8 : decode cX6_fillLight 8 = .ok (.iload_n 2, 1) := by decide +kernel
theorem dX6_fillLight_9 : decode cX6_fillLight 9 = .ok (.invokestatic 42, 3) := by decide +kernel
theorem dX6_fillLight_12 : decode cX6_fillLight 12 = .ok (.aload_n 0, 1) := by decide +kernel
theorem dX6_fillLight_13 : decode cX6_fillLight 13 = .ok (.getfield 9, 3) := by decide +kernel
theorem dX6_fillLight_16 : decode cX6_fillLight 16 = .ok (.iload_n 2, 1) := by decide +kernel
theorem dX6_fillLight_17 : decode cX6_fillLight 17 = .ok (.invokestatic 42, 3) := by decide +kernel
theorem dX6_fillLight_20 : decode cX6_fillLight 20 = .ok (.isub, 1) := by decide +kernel
theorem dX6_fillLight_21 : decode cX6_fillLight 21 = .ok (.invokestatic 140, 3) := by decide +kernel
theorem dX6_fillLight_24 : decode cX6_fillLight 24 = .ok (.istore_n 3, 1) := by decide +kernel
theorem dX6_fillLight_25 : decode cX6_fillLight 25 = .ok (.aload_n 0, 1) := by decide +kernel
theorem dX6_fillLight_26 : decode cX6_fillLight 26 = .ok (.dup, 1) := by decide +kernel
theorem dX6_fillLight_27 : decode cX6_fillLight 27 = .ok (.getfield 62, 3) := by decide +kernel
theorem dX6_fillLight_30 : decode cX6_fillLight 30 = .ok (.iload_n 3, 1) := by decide +kernel
theorem dX6_fillLight_31 : decode cX6_fillLight 31 = .ok (.isub, 1) := by decide +kernel
theorem dX6_fillLight_32 : decode cX6_fillLight 32 = .ok (.putfield 62, 3) := by decide +kernel
theorem dX6_fillLight_35 : decode cX6_fillLight 35 = .ok (.aload_n 0, 1) := by decide +kernel
theorem dX6_fillLight_36 : decode cX6_fillLight 36 = .ok (.getfield 9, 3) := by decide +kernel
theorem dX6_fillLight_39 : decode cX6_fillLight 39 = .ok (.iload_n 2, 1) := by decide +kernel
theorem dX6_fillLight_40 : decode cX6_fillLight 40 = .ok (.aload_n 0, 1) := by decide +kernel
theorem dX6_fillLight_41 : decode cX6_fillLight 41 = .ok (.getfield 9, 3) := by decide +kernel
theorem dX6_fillLight_44 : decode cX6_fillLight 44 = .ok (.iload_n 2, 1) := by decide +kernel
theorem dX6_fillLight_45 : decode cX6_fillLight 45 = .ok (.invokestatic 42, 3) := by decide +kernel
theorem dX6_fillLight_48 : decode cX6_fillLight 48 = .ok (.iload_n 3, 1) := by decide +kernel
theorem dX6_fillLight_49 : decode cX6_fillLight 49 = .ok (.iadd, 1) := by decide +kernel
theorem dX6_fillLight_50 : decode cX6_fillLight 50 = .ok (.invokestatic 46, 3) := by decide +kernel
theorem dX6_fillLight_53 : decode cX6_fillLight 53 = .ok (.return_, 1) := by decide +kernel
theorem dX6_isTooLittle_0 : decode cX6_isTooLittle 0 = .ok (.aload_n 0, 1) := by decide +kernel
theorem dX6_isTooLittle_1 : decode cX6_isTooLittle 1 = .ok (.getfield 9, 3) := by decide +kernel
theorem dX6_isTooLittle_4 : decode cX6_isTooLittle 4 = .ok (.iload_n 2, 1) := by decide +kernel
theorem dX6_isTooLittle_5 : decode cX6_isTooLittle 5 = .ok (.invokestatic 42, 3) := by decide +kernel
theorem dX6_isTooLittle_8 : decode cX6_isTooLittle 8 = .ok (.istore 4, 2) := by decide +kernel
theorem dX6_isTooLittle_10 : decode cX6_isTooLittle 10 = .ok (.iload 4, 2) := by decide +kernel
theorem dX6_isTooLittle_12 : decode cX6_isTooLittle 12 = .ok (.iload 4, 2) := by decide +kernel
theorem dX6_isTooLittle_14 : decode cX6_isTooLittle 14 = .ok (.iload_n 3, 1) := by decide +kernel
theorem dX6_isTooLittle_15 : decode cX6_isTooLittle 15 = .ok (.invokestatic 140, 3) := by decide +kernel
theorem dX6_isTooLittle_18 : decode cX6_isTooLittle 18 = .ok (.isub, 1) := by decide +kernel
theorem dX6_isTooLittle_19 : decode cX6_isTooLittle 19 = .ok (.istore 5, 2) := by decide +kernel
theorem dX6_isTooLittle_21 : decode cX6_isTooLittle 21 = .ok (.iload 5, 2) := by decide +kernel
theorem dX6_isTooLittle_23 : decode cX6_isTooLittle 23 = .ok (.aload_n 1, 1) := by decide +kernel
theorem dX6_isTooLittle_24 : decode cX6_isTooLittle 24 = .ok (.iload_n 2, 1) := by decide +kernel
theorem dX6_isTooLittle_25 : decode cX6_isTooLittle 25 = .ok (.iload 5, 2) := by decide +kernel
theorem dX6_isTooLittle_27 : decode cX6_isTooLittle 27 = .ok (.invokevirtual 156, 3) := by decide +kernel
theorem dX6_isTooLittle_30 : decode cX6_isTooLittle 30 = .ok (.isub, 1) := by decide +kernel
theorem dX6_isTooLittle_31 : decode cX6_isTooLittle 31 = .ok (.istore 5, 2) := by decide +kernel
theorem dX6_isTooLittle_33 : decode cX6_isTooLittle 33 = .ok (.aload_n 0, 1) := by decide +kernel
theorem dX6_isTooLittle_34 : decode cX6_isTooLittle 34 = .ok (.dup, 1) := by decide +kernel
theorem dX6_isTooLittle_35 : decode cX6_isTooLittle 35 = .ok (.getfield 77, 3) := by decide +kernel
theorem dX6_isTooLittle_38 : decode cX6_isTooLittle 38 = .ok (.iload 4, 2) := by decide +kernel
theorem dX6_isTooLittle_40 : decode cX6_isTooLittle 40 = .ok (.iload 5, 2) := by decide +kernel
theorem dX6_isTooLittle_42 : decode cX6_isTooLittle 42 = .ok (.isub, 1) := by decide +kernel
theorem dX6_isTooLittle_43 : decode cX6_isTooLittle 43 = .ok (.iadd, 1) := by decide +kernel
theorem dX6_isTooLittle_44 : decode cX6_isTooLittle 44 = .ok (.putfield 77, 3) := by decide +kernel
theorem dX6_isTooLittle_47 : decode cX6_isTooLittle 47 = .ok (.aload_n 0, 1) := by decide +kernel
theorem dX6_isTooLittle_48 : decode cX6_isTooLittle 48 = .ok (.getfield 9, 3) := by decide +kernel
theorem dX6_isTooLittle_51 : decode cX6_isTooLittle 51 = .ok (.iload_n 2, 1) := by decide +kernel
theorem dX6_isTooLittle_52 : decode cX6_isTooLittle 52 = .ok (.iload 5, 2) := by decide +kernel
theorem dX6_isTooLittle_54 : decode cX6_isTooLittle 54 = .ok (.invokestatic 46, 3) := by decide +kernel
theorem dX6_isTooLittle_57 : decode cX6_isTooLittle 57 = .ok (.iload 4, 2) := by decide +kernel
theorem dX6_isTooLittle_59 : decode cX6_isTooLittle 59 = .ok (.iload_n 3, 1) := by decide +kernel
theorem dX6_isTooLittle_60 : decode cX6_isTooLittle 60 = .ok (.if_icmp .ge 7, 3) := by decide +kernel
theorem dX6_isTooLittle_63 : decode cX6_isTooLittle 63 = .ok (.iconst 1, 1) := by decide +kernel
theorem dX6_isTooLittle_64 : decode cX6_isTooLittle 64 = .ok (.goto 4, 3) := by decide +kernel
theorem dX6_isTooLittle_67 : decode cX6_isTooLittle 67 = .ok (.iconst 0, 1) := by decide +kernel
theorem dX6_isTooLittle_68 : decode cX6_isTooLittle 68 = .ok (.ireturn, 1) := by decide +kernel
theorem dX6_countDark_0 : decode cX6_countDark 0 = .ok (.aload_n 0, 1) := by decide +kernel
theorem dX6_countDark_1 : decode cX6_countDark 1 = .ok (.getfield 18, 3) := by decide +kernel
theorem dX6_countDark_4 : decode cX6_countDark 4 = .ok (.iload_n 2, 1) := by decide +kernel
theorem dX6_countDark_5 : decode cX6_countDark 5 = .ok (.invokestatic 42, 3) := by decide +kernel
theorem dX6_countDark_8 : decode cX6_countDark 8 = .ok (.iconst 1, 1) := by decide +kernel
theorem dX6_countDark_9 : decode cX6_countDark 9 = .ok (.iadd, 1) := by decide +kernel
theorem dX6_countDark_10 : decode cX6_countDark 10 = .ok (.istore 4, 2) := by decide +kernel
theorem dX6_countDark_12 : decode cX6_countDark 12 = .ok (.aload_n 0, 1) := by decide +kernel
theorem dX6_countDark_13 : decode cX6_countDark 13 = .ok (.getfield 18, 3) := by decide +kernel
theorem dX6_countDark_16 : decode cX6_countDark 16 = .ok (.iload_n 2, 1) := by decide +kernel
theorem dX6_countDark_17 : decode cX6_countDark 17 = .ok (.iload 4, 2) := by decide +kernel
theorem dX6_countDark_19 : decode cX6_countDark 19 = .ok (.invokestatic 46, 3) := by decide +kernel
theorem dX6_countDark_22 : decode cX6_countDark 22 = .ok (.aload_n 0, 1) := by decide +kernel
theorem dX6_countDark_23 : decode cX6_countDark 23 = .ok (.getfield 21, 3) := by decide +kernel
theorem dX6_countDark_26 : decode cX6_countDark 26 = .ok (.iload_n 2, 1) := by decide +kernel
theorem dX6_countDark_27 : decode cX6_countDark 27 = .ok (.aload_n 0, 1) := by decide +kernel
theorem dX6_countDark_28 : decode cX6_countDark 28 = .ok (.getfield 21, 3) := by decide +kernel
theorem dX6_countDark_31 : decode cX6_countDark 31 = .ok (.iload_n 2, 1) := by decide +kernel
theorem dX6_countDark_32 : decode cX6_countDark 32 = .ok (.invokestatic 42, 3) := by decide +kernel
theorem dX6_countDark_35 : decode cX6_countDark 35 = .ok (.iconst 1, 1) := by decide +kernel
theorem dX6_countDark_36 : decode cX6_countDark 36 = .ok (.iadd, 1) := by decide +kernel
theorem dX6_countDark_37 : decode cX6_countDark 37 = .ok (.invokestatic 46, 3) := by decide +kernel
theorem dX6_countDark_40 : decode cX6_countDark 40 = .ok (.iload 4, 2) := by decide +kernel
theorem dX6_countDark_42 : decode cX6_countDark 42 = .ok (.iconst 2, 1) := by decide +kernel
theorem dX6_countDark_43 : decode cX6_countDark 43 = .ok (.if_icmp .lt 13, 3) := by decide +kernel
theorem dX6_countDark_46 : decode cX6_countDark 46 = .ok (.aload_n 0, 1) := by decide +kernel
theorem dX6_countDark_47 : decode cX6_countDark 47 = .ok (.dup, 1) := by decide +kernel
theorem dX6_countDark_48 : decode cX6_countDark 48 = .ok (.getfield 68, 3) := by decide +kernel
theorem dX6_countDark_51 : decode cX6_countDark 51 = .ok (.iconst 1, 1) := by decide +kernel
theorem dX6_countDark_52 : decode cX6_countDark 52 = .ok (.iadd, 1) := by decide +kernel
theorem dX6_countDark_53 : decode cX6_countDark 53 = .ok (.putfield 68, 3) := by decide +kernel
theorem dX6_countDark_56 : decode cX6_countDark 56 = .ok (.aload_n 0, 1) := by decide +kernel
theorem dX6_countDark_57 : decode cX6_countDark 57 = .ok (.dup, 1) := by decide +kernel
theorem dX6_countDark_58 : decode cX6_countDark 58 = .ok (.getfield 65, 3) := by decide +kernel
theorem dX6_countDark_61 : decode cX6_countDark 61 = .ok (.aload_n 1, 1) := by decide +kernel
theorem dX6_countDark_62 : decode cX6_countDark 62 = .ok (.getfield 159, 3) := by decide +kernel
theorem dX6_countDark_65 : decode cX6_countDark 65 = .ok (.iload_n 2, 1) := by decide +kernel
theorem dX6_countDark_66 : decode cX6_countDark 66 = .ok (.invokestatic 42, 3) := by decide +kernel
theorem dX6_countDark_69 : decode cX6_countDark 69 = .ok (.iload_n 3, 1) := by decide +kernel
theorem dX6_countDark_70 : decode cX6_countDark 70 = .ok (.iconst 1, 1) := by decide +kernel
theorem dX6_countDark_71 : decode cX6_countDark 71 = .ok (.if_icmp .ne 7, 3) := by decide +kernel
theorem dX6_countDark_74 : decode cX6_countDark 74 = .ok (.iconst 2, 1) := by decide +kernel
theorem dX6_countDark_75 : decode cX6_countDark 75 = .ok (.goto 4, 3) := by decide +kernel
theorem dX6_countDark_78 : decode cX6_countDark 78 = .ok (.iconst 1, 1) := by decide +kernel
theorem dX6_countDark_79 : decode cX6_countDark 79 = .ok (.imul, 1) := by decide +kernel
theorem dX6_countDark_80 : decode cX6_countDark 80 = .ok (.iadd, 1) := by decide +kernel
theorem dX6_countDark_81 : decode cX6_countDark 81 = .ok (.putfield 65, 3) := by decide +kernel
theorem dX6_countDark_84 : decode cX6_countDark 84 = .ok (.return_, 1) := by decide +kernel
theorem dX6_pageOf_0 : decode cX6_pageOf 0 = .ok (.iload_n 1, 1) := by decide +kernel
theorem dX6_pageOf_1 : decode cX6_pageOf 1 = .ok (.ifCond .lt 18, 3) := by decide +kernel
theorem dX6_pageOf_4 : decode cX6_pageOf 4 = .ok (.iload_n 1, 1) := by decide +kernel
theorem dX6_pageOf_5 : decode cX6_pageOf 5 = .ok (.bipush 40, 2) := by decide +kernel
theorem dX6_pageOf_7 : decode cX6_pageOf 7 = .ok (.if_icmp .ge 12, 3) := by decide +kernel
theorem dX6_pageOf_10 : decode cX6_pageOf 10 = .ok (.iload_n 1, 1) := by decide +kernel
theorem dX6_pageOf_11 : decode cX6_pageOf 11 = .ok (.bipush 9, 2) := by decide +kernel
theorem dX6_pageOf_13 : decode cX6_pageOf 13 = .ok (.imul, 1) := by decide +kernel
theorem dX6_pageOf_14 : decode cX6_pageOf 14 = .ok (.iload_n 0, 1) := by decide +kernel
theorem dX6_pageOf_15 : decode cX6_pageOf 15 = .ok (.iadd, 1) := by decide +kernel
theorem dX6_pageOf_16 : decode cX6_pageOf 16 = .ok (.goto 4, 3) := by decide +kernel
theorem dX6_pageOf_19 : decode cX6_pageOf 19 = .ok (.iconst (-1), 1) := by decide +kernel
theorem dX6_pageOf_20 : decode cX6_pageOf 20 = .ok (.ireturn, 1) := by decide +kernel
theorem dX6_oilOn_0 : decode cX6_oilOn 0 = .ok (.aload_n 0, 1) := by decide +kernel
theorem dX6_oilOn_1 : decode cX6_oilOn 1 = .ok (.getfield 30, 3) := by decide +kernel
theorem dX6_oilOn_4 : decode cX6_oilOn 4 = .ok (.iload_n 1, 1) := by decide +kernel
theorem dX6_oilOn_5 : decode cX6_oilOn 5 = .ok (.iload_n 2, 1) := by decide +kernel
theorem dX6_oilOn_6 : decode cX6_oilOn 6 = .ok (.invokestatic 122, 3) := by decide +kernel
theorem dX6_oilOn_9 : decode cX6_oilOn 9 = .ok (.invokestatic 42, 3) := by decide +kernel
theorem dX6_oilOn_12 : decode cX6_oilOn 12 = .ok (.ireturn, 1) := by decide +kernel
theorem dX6_drawSky_0 : decode cX6_drawSky 0 = .ok (.aload_n 0, 1) := by decide +kernel
theorem dX6_drawSky_1 : decode cX6_drawSky 1 = .ok (.bipush 100, 2) := by decide +kernel
theorem dX6_drawSky_3 : decode cX6_drawSky 3 = .ok (.invokevirtual 162, 3) := by decide +kernel
theorem dX6_drawSky_6 : decode cX6_drawSky 6 = .ok (.istore_n 2, 1) := by decide +kernel
theorem dX6_drawSky_7 : decode cX6_drawSky 7 = .ok (.aload_n 1, 1) := by decide +kernel
theorem dX6_drawSky_8 : decode cX6_drawSky 8 = .ok (.aload_n 0, 1) := by decide +kernel
theorem dX6_drawSky_9 : decode cX6_drawSky 9 = .ok (.getfield 74, 3) := by decide +kernel
theorem dX6_drawSky_12 : decode cX6_drawSky 12 = .ok (.iconst 0, 1) := by decide +kernel
theorem dX6_drawSky_13 : decode cX6_drawSky 13 = .ok (.invokevirtual 165, 3) := by decide +kernel
theorem dX6_drawSky_16 : decode cX6_drawSky 16 = .ok (.istore_n 3, 1) := by decide +kernel
theorem dX6_drawSky_17 : decode cX6_drawSky 17 = .ok (.iload_n 2, 1) := by decide +kernel
theorem dX6_drawSky_18 : decode cX6_drawSky 18 = .ok (.iload_n 3, 1) := by decide +kernel
theorem dX6_drawSky_19 : decode cX6_drawSky 19 = .ok (.if_icmp .ge 5, 3) := by decide +kernel
theorem dX6_drawSky_22 : decode cX6_drawSky 22 = .ok (.iconst 0, 1) := by decide +kernel
theorem dX6_drawSky_23 : decode cX6_drawSky 23 = .ok (.ireturn, 1) := by decide +kernel
theorem dX6_drawSky_24 : decode cX6_drawSky 24 = .ok (.iload_n 2, 1) := by decide +kernel
theorem dX6_drawSky_25 : decode cX6_drawSky 25 = .ok (.iload_n 3, 1) := by decide +kernel
theorem dX6_drawSky_26 : decode cX6_drawSky 26 = .ok (.aload_n 1, 1) := by decide +kernel
theorem dX6_drawSky_27 : decode cX6_drawSky 27 = .ok (.aload_n 0, 1) := by decide +kernel
theorem dX6_drawSky_28 : decode cX6_drawSky 28 = .ok (.getfield 74, 3) := by decide +kernel
theorem dX6_drawSky_31 : decode cX6_drawSky 31 = .ok (.iconst 1, 1) := by decide +kernel
theorem dX6_drawSky_32 : decode cX6_drawSky 32 = .ok (.invokevirtual 165, 3) := by decide +kernel
theorem dX6_drawSky_35 : decode cX6_drawSky 35 = .ok (.iadd, 1) := by decide +kernel
theorem dX6_drawSky_36 : decode cX6_drawSky 36 = .ok (.if_icmp .ge 7, 3) := by decide +kernel
theorem dX6_drawSky_39 : decode cX6_drawSky 39 = .ok (.iconst 1, 1) := by decide +kernel
theorem dX6_drawSky_40 : decode cX6_drawSky 40 = .ok (.goto 4, 3) := by decide +kernel
theorem dX6_drawSky_43 : decode cX6_drawSky 43 = .ok (.iconst 2, 1) := by decide +kernel
theorem dX6_drawSky_44 : decode cX6_drawSky 44 = .ok (.ireturn, 1) := by decide +kernel
theorem dX6_draw_0 : decode cX6_draw 0 = .ok (.aload_n 0, 1) := by decide +kernel
theorem dX6_draw_1 : decode cX6_draw 1 = .ok (.aload_n 0, 1) := by decide +kernel
theorem dX6_draw_2 : decode cX6_draw 2 = .ok (.getfield 87, 3) := by decide +kernel
theorem dX6_draw_5 : decode cX6_draw 5 = .ok (.ldc2_w 168, 3) := by decide +kernel
theorem dX6_draw_8 : decode cX6_draw 8 = .ok (.lmul, 1) := by decide +kernel
theorem dX6_draw_9 : decode cX6_draw 9 = .ok (.ldc2_w 170, 3) := by decide +kernel
theorem dX6_draw_12 : decode cX6_draw 12 = .ok (.ladd, 1) := by decide +kernel
theorem dX6_draw_13 : decode cX6_draw 13 = .ok (.ldc2_w 172, 3) := by decide +kernel
theorem dX6_draw_16 : decode cX6_draw 16 = .ok (.land, 1) := by decide +kernel
theorem dX6_draw_17 : decode cX6_draw 17 = .ok (.putfield 87, 3) := by decide +kernel
theorem dX6_draw_20 : decode cX6_draw 20 = .ok (.iload_n 1, 1) := by decide +kernel
theorem dX6_draw_21 : decode cX6_draw 21 = .ok (.iconst 1, 1) := by decide +kernel
theorem dX6_draw_22 : decode cX6_draw 22 = .ok (.if_icmp .ge 7, 3) := by decide +kernel
theorem dX6_draw_25 : decode cX6_draw 25 = .ok (.iconst 0, 1) := by decide +kernel
theorem dX6_draw_26 : decode cX6_draw 26 = .ok (.goto 15, 3) := by decide +kernel
theorem dX6_draw_29 : decode cX6_draw 29 = .ok (.aload_n 0, 1) := by decide +kernel
theorem dX6_draw_30 : decode cX6_draw 30 = .ok (.getfield 87, 3) := by decide +kernel
theorem dX6_draw_33 : decode cX6_draw 33 = .ok (.ldc2_w 174, 3) := by decide +kernel
theorem dX6_draw_36 : decode cX6_draw 36 = .ok (.ldiv, 1) := by decide +kernel
theorem dX6_draw_37 : decode cX6_draw 37 = .ok (.iload_n 1, 1) := by decide +kernel
theorem dX6_draw_38 : decode cX6_draw 38 = .ok (.i2l, 1) := by decide +kernel
theorem dX6_draw_39 : decode cX6_draw 39 = .ok (.lrem, 1) := by decide +kernel
theorem dX6_draw_40 : decode cX6_draw 40 = .ok (.l2i, 1) := by decide +kernel
theorem dX6_draw_41 : decode cX6_draw 41 = .ok (.ireturn, 1) := by decide +kernel
theorem dX7_init_0 : decode cX7_init 0 = .ok (.aload_n 0, 1) := by decide +kernel
theorem dX7_init_1 : decode cX7_init 1 = .ok (.invokespecial 3, 3) := by decide +kernel
theorem dX7_init_4 : decode cX7_init 4 = .ok (.aload_n 0, 1) := by decide +kernel
theorem dX7_init_5 : decode cX7_init 5 = .ok (.sipush 500, 3) := by decide +kernel
theorem dX7_init_8 : decode cX7_init 8 = .ok (.newarray .int, 2) := by decide +kernel
theorem dX7_init_10 : decode cX7_init 10 = .ok (.putfield 9, 3) := by decide +kernel
theorem dX7_init_13 : decode cX7_init 13 = .ok (.aload_n 0, 1) := by decide +kernel
theorem dX7_init_14 : decode cX7_init 14 = .ok (.iconst (-1), 1) := by decide +kernel
theorem dX7_init_15 : decode cX7_init 15 = .ok (.putfield 15, 3) := by decide +kernel
theorem dX7_init_18 : decode cX7_init 18 = .ok (.return_, 1) := by decide +kernel
theorem dX7_append_0 : decode cX7_append 0 = .ok (.aload_n 0, 1) := by decide +kernel
theorem dX7_append_1 : decode cX7_append 1 = .ok (.getfield 19, 3) := by decide +kernel
theorem dX7_append_4 : decode cX7_append 4 = .ok (.aload_n 0, 1) := by decide +kernel
theorem dX7_append_5 : decode cX7_append 5 = .ok (.getfield 9, 3) := by decide +kernel
theorem dX7_append_8 : decode cX7_append 8 = .ok (.arraylength, 1) := by decide +kernel
theorem dX7_append_9 : decode cX7_append 9 = .ok (.if_icmp .ge 25, 3) := by decide +kernel
theorem dX7_append_12 : decode cX7_append 12 = .ok (.aload_n 0, 1) := by decide +kernel
theorem dX7_append_13 : decode cX7_append 13 = .ok (.getfield 9, 3) := by decide +kernel
theorem dX7_append_16 : decode cX7_append 16 = .ok (.aload_n 0, 1) := by decide +kernel
theorem dX7_append_17 : decode cX7_append 17 = .ok (.getfield 19, 3) := by decide +kernel
theorem dX7_append_20 : decode cX7_append 20 = .ok (.iload_n 1, 1) := by decide +kernel
theorem dX7_append_21 : decode cX7_append 21 = .ok (.invokestatic 22, 3) := by decide +kernel
theorem dX7_append_24 : decode cX7_append 24 = .ok (.aload_n 0, 1) := by decide +kernel
theorem dX7_append_25 : decode cX7_append 25 = .ok (.dup, 1) := by decide +kernel
theorem dX7_append_26 : decode cX7_append 26 = .ok (.getfield 19, 3) := by decide +kernel
theorem dX7_append_29 : decode cX7_append 29 = .ok (.iconst 1, 1) := by decide +kernel
theorem dX7_append_30 : decode cX7_append 30 = .ok (.iadd, 1) := by decide +kernel
theorem dX7_append_31 : decode cX7_append 31 = .ok (.putfield 19, 3) := by decide +kernel
theorem dX7_append_34 : decode cX7_append 34 = .ok (.return_, 1) := by decide +kernel
theorem dX7_clear_0 : decode cX7_clear 0 = .ok (.aload_n 0, 1) := by decide +kernel
theorem dX7_clear_1 : decode cX7_clear 1 = .ok (.iconst 0, 1) := by decide +kernel
theorem dX7_clear_2 : decode cX7_clear 2 = .ok (.putfield 19, 3) := by decide +kernel
theorem dX7_clear_5 : decode cX7_clear 5 = .ok (.return_, 1) := by decide +kernel
theorem dX7_startReading_0 : decode cX7_startReading 0 = .ok (.aload_n 0, 1) := by decide +kernel
theorem dX7_startReading_1 : decode cX7_startReading 1 = .ok (.iconst 0, 1) := by decide +kernel
theorem dX7_startReading_2 : decode cX7_startReading 2 = .ok (.putfield 26, 3) := by decide +kernel
theorem dX7_startReading_5 : decode cX7_startReading 5 = .ok (.aload_n 0, 1) := by decide +kernel
theorem dX7_startReading_6 : decode cX7_startReading 6 = .ok (.iconst 0, 1) := by decide +kernel
theorem dX7_startReading_7 : decode cX7_startReading 7 = .ok (.putfield 29, 3) := by decide +kernel
theorem dX7_startReading_10 : decode cX7_startReading 10 = .ok (.aload_n 0, 1) := by decide +kernel
theorem dX7_startReading_11 : decode cX7_startReading 11 = .ok (.iconst (-1), 1) := by decide +kernel
theorem dX7_startReading_12 : decode cX7_startReading 12 = .ok (.putfield 15, 3) := by decide +kernel
theorem dX7_startReading_15 : decode cX7_startReading 15 = .ok (.return_, 1) := by decide +kernel
theorem dX7_fail_0 : decode cX7_fail 0 = .ok (.aload_n 0, 1) := by decide +kernel
theorem dX7_fail_1 : decode cX7_fail 1 = .ok (.iload_n 1, 1) := by decide +kernel
theorem dX7_fail_2 : decode cX7_fail 2 = .ok (.putfield 29, 3) := by decide +kernel
theorem dX7_fail_5 : decode cX7_fail 5 = .ok (.aload_n 0, 1) := by decide +kernel
theorem dX7_fail_6 : decode cX7_fail 6 = .ok (.iload_n 2, 1) := by decide +kernel
theorem dX7_fail_7 : decode cX7_fail 7 = .ok (.putfield 15, 3) := by decide +kernel
theorem dX7_fail_10 : decode cX7_fail 10 = .ok (.iconst 0, 1) := by decide +kernel
theorem dX7_fail_11 : decode cX7_fail 11 = .ok (.ireturn, 1) := by decide +kernel
theorem dX7_isAtEnd_0 : decode cX7_isAtEnd 0 = .ok (.aload_n 0, 1) := by decide +kernel
theorem dX7_isAtEnd_1 : decode cX7_isAtEnd 1 = .ok (.invokevirtual 32, 3) := by decide +kernel
theorem dX7_isAtEnd_4 : decode cX7_isAtEnd 4 = .ok (.aload_n 0, 1) := by decide +kernel
theorem dX7_isAtEnd_5 : decode cX7_isAtEnd 5 = .ok (.getfield 26, 3) := by decide +kernel
theorem dX7_isAtEnd_8 : decode cX7_isAtEnd 8 = .ok (.aload_n 0, 1) := by decide +kernel
theorem dX7_isAtEnd_9 : decode cX7_isAtEnd 9 = .ok (.getfield 19, 3) := by decide +kernel
theorem dX7_isAtEnd_12 : decode cX7_isAtEnd 12 = .ok (.if_icmp .lt 7, 3) := by decide +kernel
theorem dX7_isAtEnd_15 : decode cX7_isAtEnd 15 = .ok (.iconst 1, 1) := by decide +kernel
theorem dX7_isAtEnd_16 : decode cX7_isAtEnd 16 = .ok (.goto 4, 3) := by decide +kernel
theorem dX7_isAtEnd_19 : decode cX7_isAtEnd 19 = .ok (.iconst 0, 1) := by decide +kernel
theorem dX7_isAtEnd_20 : decode cX7_isAtEnd 20 = .ok (.ireturn, 1) := by decide +kernel
theorem dX7_readWord_0 : decode cX7_readWord 0 = .ok (.aload_n 0, 1) := by decide +kernel
theorem dX7_readWord_1 : decode cX7_readWord 1 = .ok (.invokevirtual 32, 3) := by decide +kernel
theorem dX7_readWord_4 : decode cX7_readWord 4 = .ok (.aload_n 0, 1) := by decide +kernel
theorem dX7_readWord_5 : decode cX7_readWord 5 = .ok (.aload_n 0, 1) := by decide +kernel
theorem dX7_readWord_6 : decode cX7_readWord 6 = .ok (.getfield 26, 3) := by decide +kernel
theorem dX7_readWord_9 : decode cX7_readWord 9 = .ok (.putfield 35, 3) := by decide +kernel
theorem dX7_readWord_12 : decode cX7_readWord 12 = .ok (.aload_n 0, 1) := by decide +kernel
theorem dX7_readWord_13 : decode cX7_readWord 13 = .ok (.aload_n 0, 1) := by decide +kernel
theorem dX7_readWord_14 : decode cX7_readWord 14 = .ok (.getfield 26, 3) := by decide +kernel
theorem dX7_readWord_17 : decode cX7_readWord 17 = .ok (.invokevirtual 38, 3) := by decide +kernel
theorem dX7_readWord_20 : decode cX7_readWord 20 = .ok (.invokestatic 42, 3) := by decide +kernel
theorem dX7_readWord_23 : decode cX7_readWord 23 = .ok (.ifCond .ne 13, 3) := by decide +kernel
theorem dX7_readWord_26 : decode cX7_readWord 26 = .ok (.aload_n 0, 1) := by decide +kernel
theorem dX7_readWord_27 : decode cX7_readWord 27 = .ok (.iconst 1, 1) := by decide +kernel
theorem dX7_readWord_28 : decode cX7_readWord 28 = .ok (.aload_n 0, 1) := by decide +kernel
theorem dX7_readWord_29 : decode cX7_readWord 29 = .ok (.getfield 26, 3) := by decide +kernel
theorem dX7_readWord_32 : decode cX7_readWord 32 = .ok (.invokevirtual 46, 3) := by decide +kernel
theorem dX7_readWord_35 : decode cX7_readWord 35 = .ok (.ireturn, 1) := by decide +kernel
theorem dX7_readWord_36 : decode cX7_readWord 36 = .ok (.aload_n 0, 1) := by decide +kernel
theorem dX7_readWord_37 : decode cX7_readWord 37 = .ok (.getfield 26, 3) := by decide +kernel
theorem dX7_readWord_40 : decode cX7_readWord 40 = .ok (.istore_n 1, 1) := by decide +kernel
theorem dX7_readWord_41 : decode cX7_readWord 41 = .ok (.iload_n 1, 1) := by decide +kernel
theorem dX7_readWord_42 : decode cX7_readWord 42 = .ok (.aload_n 0, 1) := by decide +kernel
theorem dX7_readWord_43 : decode cX7_readWord 43 = .ok (.getfield 19, 3) := by decide +kernel
theorem dX7_readWord_46 : decode cX7_readWord 46 = .ok (.if_icmp .ge 27, 3) := by decide +kernel
theorem dX7_readWord_49 : decode cX7_readWord 49 = .ok (.aload_n 0, 1) := by decide +kernel
theorem dX7_readWord_50 : decode cX7_readWord 50 = .ok (.iload_n 1, 1) := by decide +kernel
theorem dX7_readWord_51 : decode cX7_readWord 51 = .ok (.invokevirtual 38, 3) := by decide +kernel
theorem dX7_readWord_54 : decode cX7_readWord 54 = .ok (.invokestatic 42, 3) := by decide +kernel
theorem dX7_readWord_57 : decode cX7_readWord 57 = .ok (.ifCond .eq 16, 3) := by decide +kernel
theorem dX7_readWord_60 : decode cX7_readWord 60 = .ok (.aload_n 0, 1) := by decide +kernel
theorem dX7_readWord_61 : decode cX7_readWord 61 = .ok (.iload_n 1, 1) := by decide +kernel
theorem dX7_readWord_62 : decode cX7_readWord 62 = .ok (.iconst 1, 1) := by decide +kernel
theorem dX7_readWord_63 : decode cX7_readWord 63 = .ok (.iadd, 1) := by decide +kernel
theorem dX7_readWord_64 : decode cX7_readWord 64 = .ok (.putfield 26, 3) := by decide +kernel
theorem dX7_readWord_67 : decode cX7_readWord 67 = .ok (.iinc 1 1, 3) := by decide +kernel
theorem dX7_readWord_70 : decode cX7_readWord 70 = .ok (.goto (-29), 3) := by decide +kernel
theorem dX7_readWord_73 : decode cX7_readWord 73 = .ok (.iconst 1, 1) := by decide +kernel
theorem dX7_readWord_74 : decode cX7_readWord 74 = .ok (.ireturn, 1) := by decide +kernel
theorem dX7_isWord_0 : decode cX7_isWord 0 = .ok (.aload_n 0, 1) := by decide +kernel
theorem dX7_isWord_1 : decode cX7_isWord 1 = .ok (.getfield 26, 3) := by decide +kernel
theorem dX7_isWord_4 : decode cX7_isWord 4 = .ok (.aload_n 0, 1) := by decide +kernel
theorem dX7_isWord_5 : decode cX7_isWord 5 = .ok (.getfield 35, 3) := by decide +kernel
theorem dX7_isWord_8 : decode cX7_isWord 8 = .ok (.isub, 1) := by decide +kernel
theorem dX7_isWord_9 : decode cX7_isWord 9 = .ok (.aload_n 1, 1) := by decide +kernel
theorem dX7_isWord_10 : decode cX7_isWord 10 = .ok (.invokevirtual 50, 3) := by decide +kernel
theorem dX7_isWord_13 : decode cX7_isWord 13 = .ok (.if_icmp .eq 5, 3) := by decide +kernel
theorem dX7_isWord_16 : decode cX7_isWord 16 = .ok (.iconst 0, 1) := by decide +kernel
theorem dX7_isWord_17 : decode cX7_isWord 17 = .ok (.ireturn, 1) := by decide +kernel
theorem dX7_isWord_18 : decode cX7_isWord 18 = .ok (.iconst 0, 1) := by decide +kernel
theorem dX7_isWord_19 : decode cX7_isWord 19 = .ok (.istore_n 2, 1) := by decide +kernel
theorem dX7_isWord_20 : decode cX7_isWord 20 = .ok (.iload_n 2, 1) := by decide +kernel
theorem dX7_isWord_21 : decode cX7_isWord 21 = .ok (.aload_n 1, 1) := by decide +kernel
theorem dX7_isWord_22 : decode cX7_isWord 22 = .ok (.invokevirtual 50, 3) := by decide +kernel
theorem dX7_isWord_25 : decode cX7_isWord 25 = .ok (.if_icmp .ge 29, 3) := by decide +kernel
theorem dX7_isWord_28 : decode cX7_isWord 28 = .ok (.aload_n 0, 1) := by decide +kernel
theorem dX7_isWord_29 : decode cX7_isWord 29 = .ok (.aload_n 0, 1) := by decide +kernel
theorem dX7_isWord_30 : decode cX7_isWord 30 = .ok (.getfield 35, 3) := by decide +kernel
theorem dX7_isWord_33 : decode cX7_isWord 33 = .ok (.iload_n 2, 1) := by decide +kernel
theorem dX7_isWord_34 : decode cX7_isWord 34 = .ok (.iadd, 1) := by decide +kernel
theorem dX7_isWord_35 : decode cX7_isWord 35 = .ok (.invokevirtual 38, 3) := by decide +kernel
theorem dX7_isWord_38 : decode cX7_isWord 38 = .ok (.aload_n 1, 1) := by decide +kernel
theorem dX7_isWord_39 : decode cX7_isWord 39 = .ok (.iload_n 2, 1) := by decide +kernel
theorem dX7_isWord_40 : decode cX7_isWord 40 = .ok (.invokevirtual 55, 3) := by decide +kernel
theorem dX7_isWord_43 : decode cX7_isWord 43 = .ok (.if_icmp .eq 5, 3) := by decide +kernel
theorem dX7_isWord_46 : decode cX7_isWord 46 = .ok (.iconst 0, 1) := by decide +kernel
theorem dX7_isWord_47 : decode cX7_isWord 47 = .ok (.ireturn, 1) := by decide +kernel
theorem dX7_isWord_48 : decode cX7_isWord 48 = .ok (.iinc 2 1, 3) := by decide +kernel
theorem dX7_isWord_51 : decode cX7_isWord 51 = .ok (.goto (-31), 3) := by decide +kernel
theorem dX7_isWord_54 : decode cX7_isWord 54 = .ok (.iconst 1, 1) := by decide +kernel
theorem dX7_isWord_55 : decode cX7_isWord 55 = .ok (.ireturn, 1) := by decide +kernel
theorem dX7_readNumber_0 : decode cX7_readNumber 0 = .ok (.aload_n 0, 1) := by decide +kernel
theorem dX7_readNumber_1 : decode cX7_readNumber 1 = .ok (.invokevirtual 32, 3) := by decide +kernel
theorem dX7_readNumber_4 : decode cX7_readNumber 4 = .ok (.aload_n 0, 1) := by decide +kernel
theorem dX7_readNumber_5 : decode cX7_readNumber 5 = .ok (.aload_n 0, 1) := by decide +kernel
theorem dX7_readNumber_6 : decode cX7_readNumber 6 = .ok (.getfield 26, 3) := by decide +kernel
theorem dX7_readNumber_9 : decode cX7_readNumber 9 = .ok (.putfield 59, 3) := by decide +kernel
theorem dX7_readNumber_12 : decode cX7_readNumber 12 = .ok (.aload_n 0, 1) := by decide +kernel
theorem dX7_readNumber_13 : decode cX7_readNumber 13 = .ok (.aload_n 0, 1) := by decide +kernel
theorem dX7_readNumber_14 : decode cX7_readNumber 14 = .ok (.getfield 26, 3) := by decide +kernel
theorem dX7_readNumber_17 : decode cX7_readNumber 17 = .ok (.invokevirtual 38, 3) := by decide +kernel
theorem dX7_readNumber_20 : decode cX7_readNumber 20 = .ok (.invokestatic 62, 3) := by decide +kernel
theorem dX7_readNumber_23 : decode cX7_readNumber 23 = .ok (.ifCond .ne 13, 3) := by decide +kernel
theorem dX7_readNumber_26 : decode cX7_readNumber 26 = .ok (.aload_n 0, 1) := by decide +kernel
theorem dX7_readNumber_27 : decode cX7_readNumber 27 = .ok (.iconst 1, 1) := by decide +kernel
theorem dX7_readNumber_28 : decode cX7_readNumber 28 = .ok (.aload_n 0, 1) := by decide +kernel
theorem dX7_readNumber_29 : decode cX7_readNumber 29 = .ok (.getfield 26, 3) := by decide +kernel
theorem dX7_readNumber_32 : decode cX7_readNumber 32 = .ok (.invokevirtual 46, 3) := by decide +kernel
theorem dX7_readNumber_35 : decode cX7_readNumber 35 = .ok (.ireturn, 1) := by decide +kernel
theorem dX7_readNumber_36 : decode cX7_readNumber 36 = .ok (.aload_n 0, 1) := by decide +kernel
theorem dX7_readNumber_37 : decode cX7_readNumber 37 = .ok (.iconst 0, 1) := by decide +kernel
theorem dX7_readNumber_38 : decode cX7_readNumber 38 = .ok (.putfield 65, 3) := by decide +kernel
theorem dX7_readNumber_41 : decode cX7_readNumber 41 = .ok (.aload_n 0, 1) := by decide +kernel
theorem dX7_readNumber_42 : decode cX7_readNumber 42 = .ok (.getfield 26, 3) := by decide +kernel
theorem dX7_readNumber_45 : decode cX7_readNumber 45 = .ok (.istore_n 3, 1) := by decide +kernel
theorem dX7_readNumber_46 : decode cX7_readNumber 46 = .ok (.iload_n 3, 1) := by decide +kernel
theorem dX7_readNumber_47 : decode cX7_readNumber 47 = .ok (.aload_n 0, 1) := by decide +kernel
theorem dX7_readNumber_48 : decode cX7_readNumber 48 = .ok (.getfield 19, 3) := by decide +kernel
theorem dX7_readNumber_51 : decode cX7_readNumber 51 = .ok (.if_icmp .ge 67, 3) := by decide +kernel
theorem dX7_readNumber_54 : decode cX7_readNumber 54 = .ok (.aload_n 0, 1) := by decide +kernel
theorem dX7_readNumber_55 : decode cX7_readNumber 55 = .ok (.iload_n 3, 1) := by decide +kernel
theorem dX7_readNumber_56 : decode cX7_readNumber 56 = .ok (.invokevirtual 38, 3) := by decide +kernel
theorem dX7_readNumber_59 : decode cX7_readNumber 59 = .ok (.invokestatic 62, 3) := by decide +kernel
theorem dX7_readNumber_62 : decode cX7_readNumber 62 = .ok (.ifCond .eq 56, 3) := by decide +kernel
theorem dX7_readNumber_65 : decode cX7_readNumber 65 = .ok (.iload_n 3, 1) := by decide +kernel
theorem dX7_readNumber_66 : decode cX7_readNumber 66 = .ok (.aload_n 0, 1) := by decide +kernel
theorem dX7_readNumber_67 : decode cX7_readNumber 67 = .ok (.getfield 59, 3) := by decide +kernel
theorem dX7_readNumber_70 : decode cX7_readNumber 70 = .ok (.isub, 1) := by decide +kernel
theorem dX7_readNumber_71 : decode cX7_readNumber 71 = .ok (.iconst 4, 1) := by decide +kernel
theorem dX7_readNumber_72 : decode cX7_readNumber 72 = .ok (.if_icmp .lt 13, 3) := by decide +kernel
theorem dX7_readNumber_75 : decode cX7_readNumber 75 = .ok (.aload_n 0, 1) := by decide +kernel
theorem dX7_readNumber_76 : decode cX7_readNumber 76 = .ok (.iconst 2, 1) := by decide +kernel
theorem dX7_readNumber_77 : decode cX7_readNumber 77 = .ok (.aload_n 0, 1) := by decide +kernel
theorem dX7_readNumber_78 : decode cX7_readNumber 78 = .ok (.getfield 59, 3) := by decide +kernel
theorem dX7_readNumber_81 : decode cX7_readNumber 81 = .ok (.invokevirtual 46, 3) := by decide +kernel
theorem dX7_readNumber_84 : decode cX7_readNumber 84 = .ok (.ireturn, 1) := by decide +kernel
theorem dX7_readNumber_85 : decode cX7_readNumber 85 = .ok (.aload_n 0, 1) := by decide +kernel
theorem dX7_readNumber_86 : decode cX7_readNumber 86 = .ok (.aload_n 0, 1) := by decide +kernel
theorem dX7_readNumber_87 : decode cX7_readNumber 87 = .ok (.getfield 65, 3) := by decide +kernel
theorem dX7_readNumber_90 : decode cX7_readNumber 90 = .ok (.bipush 10, 2) := by decide +kernel
theorem dX7_readNumber_92 : decode cX7_readNumber 92 = .ok (.imul, 1) := by decide +kernel
theorem dX7_readNumber_93 : decode cX7_readNumber 93 = .ok (.aload_n 0, 1) := by decide +kernel
theorem dX7_readNumber_94 : decode cX7_readNumber 94 = .ok (.iload_n 3, 1) := by decide +kernel
theorem dX7_readNumber_95 : decode cX7_readNumber 95 = .ok (.invokevirtual 38, 3) := by decide +kernel
theorem dX7_readNumber_98 : decode cX7_readNumber 98 = .ok (.iadd, 1) := by decide +kernel
theorem dX7_readNumber_99 : decode cX7_readNumber 99 = .ok (.bipush 48, 2) := by decide +kernel
theorem dX7_readNumber_101 : decode cX7_readNumber 101 = .ok (.isub, 1) := by decide +kernel
theorem dX7_readNumber_102 : decode cX7_readNumber 102 = .ok (.putfield 65, 3) := by decide +kernel
theorem dX7_readNumber_105 : decode cX7_readNumber 105 = .ok (.aload_n 0, 1) := by decide +kernel
theorem dX7_readNumber_106 : decode cX7_readNumber 106 = .ok (.iload_n 3, 1) := by decide +kernel
theorem dX7_readNumber_107 : decode cX7_readNumber 107 = .ok (.iconst 1, 1) := by decide +kernel
theorem dX7_readNumber_108 : decode cX7_readNumber 108 = .ok (.iadd, 1) := by decide +kernel
theorem dX7_readNumber_109 : decode cX7_readNumber 109 = .ok (.putfield 26, 3) := by decide +kernel
theorem dX7_readNumber_112 : decode cX7_readNumber 112 = .ok (.iinc 3 1, 3) := by decide +kernel
theorem dX7_readNumber_115 : decode cX7_readNumber 115 = .ok (.goto (-69), 3) := by decide +kernel
theorem dX7_readNumber_118 : decode cX7_readNumber 118 = .ok (.aload_n 0, 1) := by decide +kernel
theorem dX7_readNumber_119 : decode cX7_readNumber 119 = .ok (.getfield 65, 3) := by decide +kernel
theorem dX7_readNumber_122 : decode cX7_readNumber 122 = .ok (.iload_n 1, 1) := by decide +kernel
theorem dX7_readNumber_123 : decode cX7_readNumber 123 = .ok (.if_icmp .lt 11, 3) := by decide +kernel
theorem dX7_readNumber_126 : decode cX7_readNumber 126 = .ok (.aload_n 0, 1) := by decide +kernel
theorem dX7_readNumber_127 : decode cX7_readNumber 127 = .ok (.getfield 65, 3) := by decide +kernel
theorem dX7_readNumber_130 : decode cX7_readNumber 130 = .ok (.iload_n 2, 1) := by decide +kernel
theorem dX7_readNumber_131 : decode cX7_readNumber 131 = .ok (.if_icmp .le 15, 3) := by decide +kernel
theorem dX7_readNumber_134 : decode cX7_readNumber 134 = .ok (.aload_n 0, 1) := by decide +kernel
theorem dX7_readNumber_135 : decode cX7_readNumber 135 = .ok (.iconst 2, 1) := by decide +kernel
theorem dX7_readNumber_136 : decode cX7_readNumber 136 = .ok (.aload_n 0, 1) := by decide +kernel
theorem dX7_readNumber_137 : decode cX7_readNumber 137 = .ok (.getfield 59, 3) := by decide +kernel
theorem dX7_readNumber_140 : decode cX7_readNumber 140 = .ok (.invokevirtual 46, 3) := by decide +kernel
theorem dX7_readNumber_143 : decode cX7_readNumber 143 = .ok (.ifCond .eq 7, 3) := by decide +kernel
theorem dX7_readNumber_146 : decode cX7_readNumber 146 = .ok (.iconst 1, 1) := by decide +kernel
theorem dX7_readNumber_147 : decode cX7_readNumber 147 = .ok (.goto 4, 3) := by decide +kernel
theorem dX7_readNumber_150 : decode cX7_readNumber 150 = .ok (.iconst 0, 1) := by decide +kernel
theorem dX7_readNumber_151 : decode cX7_readNumber 151 = .ok (.ireturn, 1) := by decide +kernel
theorem dX7_isNext_0 : decode cX7_isNext 0 = .ok (.aload_n 0, 1) := by decide +kernel
theorem dX7_isNext_1 : decode cX7_isNext 1 = .ok (.invokevirtual 32, 3) := by decide +kernel
theorem dX7_isNext_4 : decode cX7_isNext 4 = .ok (.aload_n 0, 1) := by decide +kernel
theorem dX7_isNext_5 : decode cX7_isNext 5 = .ok (.aload_n 0, 1) := by decide +kernel
theorem dX7_isNext_6 : decode cX7_isNext 6 = .ok (.getfield 26, 3) := by decide +kernel
theorem dX7_isNext_9 : decode cX7_isNext 9 = .ok (.invokevirtual 38, 3) := by decide +kernel
theorem dX7_isNext_12 : decode cX7_isNext 12 = .ok (.iload_n 1, 1) := by decide +kernel
theorem dX7_isNext_13 : decode cX7_isNext 13 = .ok (.if_icmp .ne 7, 3) := by decide +kernel
theorem dX7_isNext_16 : decode cX7_isNext 16 = .ok (.iconst 1, 1) := by decide +kernel
theorem dX7_isNext_17 : decode cX7_isNext 17 = .ok (.goto 4, 3) := by decide +kernel
theorem dX7_isNext_20 : decode cX7_isNext 20 = .ok (.iconst 0, 1) := by decide +kernel
theorem dX7_isNext_21 : decode cX7_isNext 21 = .ok (.ireturn, 1) := by decide +kernel
theorem dX7_readSign_0 : decode cX7_readSign 0 = .ok (.aload_n 0, 1) := by decide +kernel
theorem dX7_readSign_1 : decode cX7_readSign 1 = .ok (.iload_n 1, 1) := by decide +kernel
theorem dX7_readSign_2 : decode cX7_readSign 2 = .ok (.invokevirtual 68, 3) := by decide +kernel
theorem dX7_readSign_5 : decode cX7_readSign 5 = .ok (.ifCond .ne 13, 3) := by decide +kernel
theorem dX7_readSign_8 : decode cX7_readSign 8 = .ok (.aload_n 0, 1) := by decide +kernel
theorem dX7_readSign_9 : decode cX7_readSign 9 = .ok (.iconst 1, 1) := by decide +kernel
theorem dX7_readSign_10 : decode cX7_readSign 10 = .ok (.aload_n 0, 1) := by decide +kernel
theorem dX7_readSign_11 : decode cX7_readSign 11 = .ok (.getfield 26, 3) := by decide +kernel
theorem dX7_readSign_14 : decode cX7_readSign 14 = .ok (.invokevirtual 46, 3) := by decide +kernel
theorem dX7_readSign_17 : decode cX7_readSign 17 = .ok (.ireturn, 1) := by decide +kernel
theorem dX7_readSign_18 : decode cX7_readSign 18 = .ok (.aload_n 0, 1) := by decide +kernel
theorem dX7_readSign_19 : decode cX7_readSign 19 = .ok (.dup, 1) := by decide +kernel
theorem dX7_readSign_20 : decode cX7_readSign 20 = .ok (.getfield 26, 3) := by decide +kernel
theorem dX7_readSign_23 : decode cX7_readSign 23 = .ok (.iconst 1, 1) := by decide +kernel
theorem dX7_readSign_24 : decode cX7_readSign 24 = .ok (.iadd, 1) := by decide +kernel
theorem dX7_readSign_25 : decode cX7_readSign 25 = .ok (.putfield 26, 3) := by decide +kernel
theorem dX7_readSign_28 : decode cX7_readSign 28 = .ok (.iconst 1, 1) := by decide +kernel
theorem dX7_readSign_29 : decode cX7_readSign 29 = .ok (.ireturn, 1) := by decide +kernel
theorem dX7_skipBlanks_0 : decode cX7_skipBlanks 0 = .ok (.aload_n 0, 1) := by decide +kernel
theorem dX7_skipBlanks_1 : decode cX7_skipBlanks 1 = .ok (.getfield 26, 3) := by decide +kernel
theorem dX7_skipBlanks_4 : decode cX7_skipBlanks 4 = .ok (.istore_n 1, 1) := by decide +kernel
theorem dX7_skipBlanks_5 : decode cX7_skipBlanks 5 = .ok (.iload_n 1, 1) := by decide +kernel
theorem dX7_skipBlanks_6 : decode cX7_skipBlanks 6 = .ok (.aload_n 0, 1) := by decide +kernel
theorem dX7_skipBlanks_7 : decode cX7_skipBlanks 7 = .ok (.getfield 19, 3) := by decide +kernel
theorem dX7_skipBlanks_10 : decode cX7_skipBlanks 10 = .ok (.if_icmp .ge 26, 3) := by decide +kernel
theorem dX7_skipBlanks_13 : decode cX7_skipBlanks 13 = .ok (.aload_n 0, 1) := by decide +kernel
theorem dX7_skipBlanks_14 : decode cX7_skipBlanks 14 = .ok (.iload_n 1, 1) := by decide +kernel
theorem dX7_skipBlanks_15 : decode cX7_skipBlanks 15 = .ok (.invokevirtual 38, 3) := by decide +kernel
theorem dX7_skipBlanks_18 : decode cX7_skipBlanks 18 = .ok (.bipush 32, 2) := by decide +kernel
theorem dX7_skipBlanks_20 : decode cX7_skipBlanks 20 = .ok (.if_icmp .ne 16, 3) := by decide +kernel
theorem dX7_skipBlanks_23 : decode cX7_skipBlanks 23 = .ok (.aload_n 0, 1) := by decide +kernel
theorem dX7_skipBlanks_24 : decode cX7_skipBlanks 24 = .ok (.iload_n 1, 1) := by decide +kernel
theorem dX7_skipBlanks_25 : decode cX7_skipBlanks 25 = .ok (.iconst 1, 1) := by decide +kernel
theorem dX7_skipBlanks_26 : decode cX7_skipBlanks 26 = .ok (.iadd, 1) := by decide +kernel
theorem dX7_skipBlanks_27 : decode cX7_skipBlanks 27 = .ok (.putfield 26, 3) := by decide +kernel
theorem dX7_skipBlanks_30 : decode cX7_skipBlanks 30 = .ok (.iinc 1 1, 3) := by decide +kernel
theorem dX7_skipBlanks_33 : decode cX7_skipBlanks 33 = .ok (.goto (-28), 3) := by decide +kernel
theorem dX7_skipBlanks_36 : decode cX7_skipBlanks 36 = .ok (.return_, 1) := by decide +kernel
theorem dX7_byteAt_0 : decode cX7_byteAt 0 = .ok (.iload_n 1, 1) := by decide +kernel
theorem dX7_byteAt_1 : decode cX7_byteAt 1 = .ok (.ifCond .lt 29, 3) := by decide +kernel
theorem dX7_byteAt_4 : decode cX7_byteAt 4 = .ok (.iload_n 1, 1) := by decide +kernel
theorem dX7_byteAt_5 : decode cX7_byteAt 5 = .ok (.aload_n 0, 1) := by decide +kernel
theorem dX7_byteAt_6 : decode cX7_byteAt 6 = .ok (.getfield 19, 3) := by decide +kernel
theorem dX7_byteAt_9 : decode cX7_byteAt 9 = .ok (.if_icmp .ge 21, 3) := by decide +kernel
theorem dX7_byteAt_12 : decode cX7_byteAt 12 = .ok (.iload_n 1, 1) := by decide +kernel
theorem dX7_byteAt_13 : decode cX7_byteAt 13 = .ok (.aload_n 0, 1) := by decide +kernel
theorem dX7_byteAt_14 : decode cX7_byteAt 14 = .ok (.getfield 9, 3) := by decide +kernel
theorem dX7_byteAt_17 : decode cX7_byteAt 17 = .ok (.arraylength, 1) := by decide +kernel
theorem dX7_byteAt_18 : decode cX7_byteAt 18 = .ok (.if_icmp .ge 12, 3) := by decide +kernel
theorem dX7_byteAt_21 : decode cX7_byteAt 21 = .ok (.aload_n 0, 1) := by decide +kernel
theorem dX7_byteAt_22 : decode cX7_byteAt 22 = .ok (.getfield 9, 3) := by decide +kernel
theorem dX7_byteAt_25 : decode cX7_byteAt 25 = .ok (.iload_n 1, 1) := by decide +kernel
theorem dX7_byteAt_26 : decode cX7_byteAt 26 = .ok (.iaload, 1) := by decide +kernel
theorem dX7_byteAt_27 : decode cX7_byteAt 27 = .ok (.goto 4, 3) := by decide +kernel
theorem dX7_byteAt_30 : decode cX7_byteAt 30 = .ok (.iconst (-1), 1) := by decide +kernel
theorem dX7_byteAt_31 : decode cX7_byteAt 31 = .ok (.ireturn, 1) := by decide +kernel
theorem dX7_isLetter_0 : decode cX7_isLetter 0 = .ok (.iload_n 0, 1) := by decide +kernel
theorem dX7_isLetter_1 : decode cX7_isLetter 1 = .ok (.bipush 97, 2) := by decide +kernel
theorem dX7_isLetter_3 : decode cX7_isLetter 3 = .ok (.if_icmp .lt 13, 3) := by decide +kernel
theorem dX7_isLetter_6 : decode cX7_isLetter 6 = .ok (.iload_n 0, 1) := by decide +kernel
theorem dX7_isLetter_7 : decode cX7_isLetter 7 = .ok (.bipush 122, 2) := by decide +kernel
theorem dX7_isLetter_9 : decode cX7_isLetter 9 = .ok (.if_icmp .gt 7, 3) := by decide +kernel
theorem dX7_isLetter_12 : decode cX7_isLetter 12 = .ok (.iconst 1, 1) := by decide +kernel
theorem dX7_isLetter_13 : decode cX7_isLetter 13 = .ok (.goto 4, 3) := by decide +kernel
theorem dX7_isLetter_16 : decode cX7_isLetter 16 = .ok (.iconst 0, 1) := by decide +kernel
theorem dX7_isLetter_17 : decode cX7_isLetter 17 = .ok (.ireturn, 1) := by decide +kernel
theorem dX7_isFigure_0 : decode cX7_isFigure 0 = .ok (.iload_n 0, 1) := by decide +kernel
theorem dX7_isFigure_1 : decode cX7_isFigure 1 = .ok (.bipush 48, 2) := by decide +kernel
theorem dX7_isFigure_3 : decode cX7_isFigure 3 = .ok (.if_icmp .lt 13, 3) := by decide +kernel
theorem dX7_isFigure_6 : decode cX7_isFigure 6 = .ok (.iload_n 0, 1) := by decide +kernel
theorem dX7_isFigure_7 : decode cX7_isFigure 7 = .ok (.bipush 57, 2) := by decide +kernel
theorem dX7_isFigure_9 : decode cX7_isFigure 9 = .ok (.if_icmp .gt 7, 3) := by decide +kernel
theorem dX7_isFigure_12 : decode cX7_isFigure 12 = .ok (.iconst 1, 1) := by decide +kernel
theorem dX7_isFigure_13 : decode cX7_isFigure 13 = .ok (.goto 4, 3) := by decide +kernel
theorem dX7_isFigure_16 : decode cX7_isFigure 16 = .ok (.iconst 0, 1) := by decide +kernel
theorem dX7_isFigure_17 : decode cX7_isFigure 17 = .ok (.ireturn, 1) := by decide +kernel
theorem dX8_init_0 : decode cX8_init 0 = .ok (.aload_n 0, 1) := by decide +kernel
theorem dX8_init_1 : decode cX8_init 1 = .ok (.invokespecial 1, 3) := by decide +kernel
theorem dX8_init_4 : decode cX8_init 4 = .ok (.aload_n 0, 1) := by decide +kernel
theorem dX8_init_5 : decode cX8_init 5 = .ok (.new 7, 3) := by decide +kernel
theorem dX8_init_8 : decode cX8_init 8 = .ok (.dup, 1) := by decide +kernel
theorem dX8_init_9 : decode cX8_init 9 = .ok (.invokespecial 9, 3) := by decide +kernel
theorem dX8_init_12 : decode cX8_init 12 = .ok (.putfield 10, 3) := by decide +kernel
theorem dX8_init_15 : decode cX8_init 15 = .ok (.aload_n 0, 1) := by decide +kernel
theorem dX8_init_16 : decode cX8_init 16 = .ok (.new 16, 3) := by decide +kernel
theorem dX8_init_19 : decode cX8_init 19 = .ok (.dup, 1) := by decide +kernel
theorem dX8_init_20 : decode cX8_init 20 = .ok (.invokespecial 18, 3) := by decide +kernel
theorem dX8_init_23 : decode cX8_init 23 = .ok (.putfield 19, 3) := by decide +kernel
theorem dX8_init_26 : decode cX8_init 26 = .ok (.aload_n 0, 1) := by decide +kernel
theorem dX8_init_27 : decode cX8_init 27 = .ok (.new 16, 3) := by decide +kernel
theorem dX8_init_30 : decode cX8_init 30 = .ok (.dup, 1) := by decide +kernel
theorem dX8_init_31 : decode cX8_init 31 = .ok (.invokespecial 18, 3) := by decide +kernel
theorem dX8_init_34 : decode cX8_init 34 = .ok (.putfield 23, 3) := by decide +kernel
theorem dX8_init_37 : decode cX8_init 37 = .ok (.aload_n 0, 1) := by decide +kernel
theorem dX8_init_38 : decode cX8_init 38 = .ok (.new 26, 3) := by decide +kernel
theorem dX8_init_41 : decode cX8_init 41 = .ok (.dup, 1) := by decide +kernel
theorem dX8_init_42 : decode cX8_init 42 = .ok (.invokespecial 28, 3) := by decide +kernel
theorem dX8_init_45 : decode cX8_init 45 = .ok (.putfield 29, 3) := by decide +kernel
theorem dX8_init_48 : decode cX8_init 48 = .ok (.aload_n 0, 1) := by decide +kernel
theorem dX8_init_49 : decode cX8_init 49 = .ok (.new 26, 3) := by decide +kernel
theorem dX8_init_52 : decode cX8_init 52 = .ok (.dup, 1) := by decide +kernel
theorem dX8_init_53 : decode cX8_init 53 = .ok (.invokespecial 28, 3) := by decide +kernel
theorem dX8_init_56 : decode cX8_init 56 = .ok (.putfield 33, 3) := by decide +kernel
theorem dX8_init_59 : decode cX8_init 59 = .ok (.aload_n 0, 1) := by decide +kernel
theorem dX8_init_60 : decode cX8_init 60 = .ok (.new 36, 3) := by decide +kernel
theorem dX8_init_63 : decode cX8_init 63 = .ok (.dup, 1) := by decide +kernel
theorem dX8_init_64 : decode cX8_init 64 = .ok (.bipush 40, 2) := by decide +kernel
theorem dX8_init_66 : decode cX8_init 66 = .ok (.invokespecial 38, 3) := by decide +kernel
theorem dX8_init_69 : decode cX8_init 69 = .ok (.putfield 41, 3) := by decide +kernel
theorem dX8_init_72 : decode cX8_init 72 = .ok (.aload_n 0, 1) := by decide +kernel
theorem dX8_init_73 : decode cX8_init 73 = .ok (.iconst 2, 1) := by decide +kernel
theorem dX8_init_74 : decode cX8_init 74 = .ok (.anewarray 36, 3) := by decide +kernel
theorem dX8_init_77 : decode cX8_init 77 = .ok (.putfield 45, 3) := by decide +kernel
theorem dX8_init_80 : decode cX8_init 80 = .ok (.iconst 0, 1) := by decide +kernel
theorem dX8_init_81 : decode cX8_init 81 = .ok (.istore_n 1, 1) := by decide +kernel
theorem dX8_init_82 : decode cX8_init 82 = .ok (.iload_n 1, 1) := by decide +kernel
theorem dX8_init_83 : decode cX8_init 83 = .ok (.aload_n 0, 1) := by decide +kernel
theorem dX8_init_84 : decode cX8_init 84 = .ok (.getfield 45, 3) := by decide +kernel
theorem dX8_init_87 : decode cX8_init 87 = .ok (.arraylength, 1) := by decide +kernel
theorem dX8_init_88 : decode cX8_init 88 = .ok (.if_icmp .ge 24, 3) := by decide +kernel
theorem dX8_init_91 : decode cX8_init 91 = .ok (.aload_n 0, 1) := by decide +kernel
theorem dX8_init_92 : decode cX8_init 92 = .ok (.getfield 45, 3) := by decide +kernel
theorem dX8_init_95 : decode cX8_init 95 = .ok (.iload_n 1, 1) := by decide +kernel
theorem dX8_init_96 : decode cX8_init 96 = .ok (.new 36, 3) := by decide +kernel
theorem dX8_init_99 : decode cX8_init 99 = .ok (.dup, 1) := by decide +kernel
theorem dX8_init_100 : decode cX8_init 100 = .ok (.bipush 40, 2) := by decide +kernel
theorem dX8_init_102 : decode cX8_init 102 = .ok (.invokespecial 38, 3) := by decide +kernel
theorem dX8_init_105 : decode cX8_init 105 = .ok (.aastore, 1) := by decide +kernel
theorem dX8_init_106 : decode cX8_init 106 = .ok (.iinc 1 1, 3) := by decide +kernel
theorem dX8_init_109 : decode cX8_init 109 = .ok (.goto (-27), 3) := by decide +kernel
theorem dX8_init_112 : decode cX8_init 112 = .ok (.aload_n 0, 1) := by decide +kernel
theorem dX8_init_113 : decode cX8_init 113 = .ok (.iconst 2, 1) := by decide +kernel
theorem dX8_init_114 : decode cX8_init 114 = .ok (.newarray .boolean, 2) := by decide +kernel
theorem dX8_init_116 : decode cX8_init 116 = .ok (.putfield 49, 3) := by decide +kernel
theorem dX8_init_119 : decode cX8_init 119 = .ok (.aload_n 0, 1) := by decide +kernel
theorem dX8_init_120 : decode cX8_init 120 = .ok (.new 53, 3) := by decide +kernel
theorem dX8_init_123 : decode cX8_init 123 = .ok (.dup, 1) := by decide +kernel
theorem dX8_init_124 : decode cX8_init 124 = .ok (.invokespecial 55, 3) := by decide +kernel
theorem dX8_init_127 : decode cX8_init 127 = .ok (.putfield 56, 3) := by decide +kernel
theorem dX8_init_130 : decode cX8_init 130 = .ok (.aload_n 0, 1) := by decide +kernel
theorem dX8_init_131 : decode cX8_init 131 = .ok (.new 60, 3) := by decide +kernel
theorem dX8_init_134 : decode cX8_init 134 = .ok (.dup, 1) := by decide +kernel
theorem dX8_init_135 : decode cX8_init 135 = .ok (.invokespecial 62, 3) := by decide +kernel
theorem dX8_init_138 : decode cX8_init 138 = .ok (.putfield 63, 3) := by decide +kernel
theorem dX8_init_141 : decode cX8_init 141 = .ok (.aload_n 0, 1) := by decide +kernel
theorem dX8_init_142 : decode cX8_init 142 = .ok (.new 67, 3) := by decide +kernel
theorem dX8_init_145 : decode cX8_init 145 = .ok (.dup, 1) := by decide +kernel
theorem dX8_init_146 : decode cX8_init 146 = .ok (.invokespecial 69, 3) := by decide +kernel
theorem dX8_init_149 : decode cX8_init 149 = .ok (.putfield 70, 3) := by decide +kernel
theorem dX8_init_152 : decode cX8_init 152 = .ok (.aload_n 0, 1) := by decide +kernel
theorem dX8_init_153 : decode cX8_init 153 = .ok (.new 74, 3) := by decide +kernel
theorem dX8_init_156 : decode cX8_init 156 = .ok (.dup, 1) := by decide +kernel
theorem dX8_init_157 : decode cX8_init 157 = .ok (.invokespecial 76, 3) := by decide +kernel
theorem dX8_init_160 : decode cX8_init 160 = .ok (.putfield 77, 3) := by decide +kernel
theorem dX8_init_163 : decode cX8_init 163 = .ok (.aload_n 0, 1) := by decide +kernel
theorem dX8_init_164 : decode cX8_init 164 = .ok (.bipush 9, 2) := by decide +kernel
theorem dX8_init_166 : decode cX8_init 166 = .ok (.newarray .int, 2) := by decide +kernel
theorem dX8_init_168 : decode cX8_init 168 = .ok (.putfield 81, 3) := by decide +kernel
theorem dX8_init_171 : decode cX8_init 171 = .ok (.aload_n 0, 1) := by decide +kernel
theorem dX8_init_172 : decode cX8_init 172 = .ok (.iconst (-1), 1) := by decide +kernel
theorem dX8_init_173 : decode cX8_init 173 = .ok (.putfield 85, 3) := by decide +kernel
theorem dX8_init_176 : decode cX8_init 176 = .ok (.aload_n 0, 1) := by decide +kernel
theorem dX8_init_177 : decode cX8_init 177 = .ok (.getfield 41, 3) := by decide +kernel
theorem dX8_init_180 : decode cX8_init 180 = .ok (.aload_n 0, 1) := by decide +kernel
theorem dX8_init_181 : decode cX8_init 181 = .ok (.getfield 19, 3) := by decide +kernel
theorem dX8_init_184 : decode cX8_init 184 = .ok (.invokevirtual 89, 3) := by decide +kernel
theorem dX8_init_187 : decode cX8_init 187 = .ok (.return_, 1) := by decide +kernel
theorem dX8_feed_0 : decode cX8_feed 0 = .ok (.iload_n 1, 1) := by decide +kernel
theorem dX8_feed_1 : decode cX8_feed 1 = .ok (.iconst 1, 1) := by decide +kernel
theorem dX8_feed_2 : decode cX8_feed 2 = .ok (.if_icmp .lt 9, 3) := by decide +kernel
theorem dX8_feed_5 : decode cX8_feed 5 = .ok (.iload_n 1, 1) := by decide +kernel
theorem dX8_feed_6 : decode cX8_feed 6 = .ok (.bipush 8, 2) := by decide +kernel
theorem dX8_feed_8 : decode cX8_feed 8 = .ok (.if_icmp .le 6, 3) := by decide +kernel
theorem dX8_feed_11 : decode cX8_feed 11 = .ok (.ldc 93, 2) := by decide +kernel
theorem dX8_feed_13 : decode cX8_feed 13 = .ok (.ireturn, 1) := by decide +kernel
theorem dX8_feed_14 : decode cX8_feed 14 = .ok (.aload_n 0, 1) := by decide +kernel
theorem dX8_feed_15 : decode cX8_feed 15 = .ok (.getfield 10, 3) := by decide +kernel
theorem dX8_feed_18 : decode cX8_feed 18 = .ok (.getfield 94, 3) := by decide +kernel
theorem dX8_feed_21 : decode cX8_feed 21 = .ok (.iload_n 1, 1) := by decide +kernel
theorem dX8_feed_22 : decode cX8_feed 22 = .ok (.iadd, 1) := by decide +kernel
theorem dX8_feed_23 : decode cX8_feed 23 = .ok (.sipush 500, 3) := by decide +kernel
theorem dX8_feed_26 : decode cX8_feed 26 = .ok (.if_icmp .le 6, 3) := by decide +kernel
theorem dX8_feed_29 : decode cX8_feed 29 = .ok (.ldc 97, 2) := by decide +kernel
theorem dX8_feed_31 : decode cX8_feed 31 = .ok (.ireturn, 1) := by decide +kernel
theorem dX8_feed_32 : decode cX8_feed 32 = .ok (.iload_n 1, 1) := by decide +kernel
theorem dX8_feed_33 : decode cX8_feed 33 = .ok (.iconst 1, 1) := by decide +kernel
theorem dX8_feed_34 : decode cX8_feed 34 = .ok (.isub, 1) := by decide +kernel
theorem dX8_feed_35 : decode cX8_feed 35 = .ok (.istore 4, 2) := by decide +kernel
theorem dX8_feed_37 : decode cX8_feed 37 = .ok (.iload 4, 2) := by decide +kernel
theorem dX8_feed_39 : decode cX8_feed 39 = .ok (.ifCond .lt 28, 3) := by decide +kernel
theorem dX8_feed_42 : decode cX8_feed 42 = .ok (.aload_n 0, 1) := by decide +kernel
theorem dX8_feed_43 : decode cX8_feed 43 = .ok (.getfield 10, 3) := by decide +kernel
theorem dX8_feed_46 : decode cX8_feed 46 = .ok (.lload_n 2, 1) := by decide +kernel
theorem dX8_feed_47 : decode cX8_feed 47 = .ok (.bipush 8, 2) := by decide +kernel
theorem dX8_feed_49 : decode cX8_feed 49 = .ok (.iload 4, 2) := by decide +kernel
theorem dX8_feed_51 : decode cX8_feed 51 = .ok (.imul, 1) := by decide +kernel
theorem dX8_feed_52 : decode cX8_feed 52 = .ok (.lushr, 1) := by decide +kernel
theorem dX8_feed_53 : decode cX8_feed 53 = .ok (.l2i, 1) := by decide +kernel
theorem dX8_feed_54 : decode cX8_feed 54 = .ok (.sipush 255, 3) := by decide +kernel
theorem dX8_feed_57 : decode cX8_feed 57 = .ok (.iand, 1) := by decide +kernel
theorem dX8_feed_58 : decode cX8_feed 58 = .ok (.invokevirtual 98, 3) := by decide +kernel
theorem dX8_feed_61 : decode cX8_feed 61 = .ok (.iinc 4 (-1), 3) := by decide +kernel
theorem dX8_feed_64 : decode cX8_feed 64 = .ok (.goto (-27), 3) := by decide +kernel
theorem dX8_feed_67 : decode cX8_feed 67 = .ok (.aload_n 0, 1) := by decide +kernel
theorem dX8_feed_68 : decode cX8_feed 68 = .ok (.getfield 10, 3) := by decide +kernel
theorem dX8_feed_71 : decode cX8_feed 71 = .ok (.getfield 94, 3) := by decide +kernel
theorem dX8_feed_74 : decode cX8_feed 74 = .ok (.ireturn, 1) := by decide +kernel
theorem dX8_reef_0 : decode cX8_reef 0 = .ok (.aload_n 0, 1) := by decide +kernel
theorem dX8_reef_1 : decode cX8_reef 1 = .ok (.getfield 23, 3) := by decide +kernel
theorem dX8_reef_4 : decode cX8_reef 4 = .ok (.aload_n 0, 1) := by decide +kernel
theorem dX8_reef_5 : decode cX8_reef 5 = .ok (.getfield 10, 3) := by decide +kernel
theorem dX8_reef_8 : decode cX8_reef 8 = .ok (.invokevirtual 101, 3) := by decide +kernel
theorem dX8_reef_11 : decode cX8_reef 11 = .ok (.istore_n 1, 1) := by decide +kernel
theorem dX8_reef_12 : decode cX8_reef 12 = .ok (.aload_n 0, 1) := by decide +kernel
theorem dX8_reef_13 : decode cX8_reef 13 = .ok (.getfield 10, 3) := by decide +kernel
theorem dX8_reef_16 : decode cX8_reef 16 = .ok (.invokevirtual 105, 3) := by decide +kernel
theorem dX8_reef_19 : decode cX8_reef 19 = .ok (.iload_n 1, 1) := by decide +kernel
theorem dX8_reef_20 : decode cX8_reef 20 = .ok (.ifCond .ne 8, 3) := by decide +kernel
theorem dX8_reef_23 : decode cX8_reef 23 = .ok (.aload_n 0, 1) := by decide +kernel
theorem dX8_reef_24 : decode cX8_reef 24 = .ok (.invokevirtual 108, 3) := by decide +kernel
theorem dX8_reef_27 : decode cX8_reef 27 = .ok (.ireturn, 1) := by decide +kernel
theorem dX8_reef_28 : decode cX8_reef 28 = .ok (.aload_n 0, 1) := by decide +kernel
theorem dX8_reef_29 : decode cX8_reef 29 = .ok (.iconst (-1), 1) := by decide +kernel
theorem dX8_reef_30 : decode cX8_reef 30 = .ok (.putfield 85, 3) := by decide +kernel
theorem dX8_reef_33 : decode cX8_reef 33 = .ok (.aload_n 0, 1) := by decide +kernel
theorem dX8_reef_34 : decode cX8_reef 34 = .ok (.getfield 19, 3) := by decide +kernel
theorem dX8_reef_37 : decode cX8_reef 37 = .ok (.astore_n 2, 1) := by decide +kernel
theorem dX8_reef_38 : decode cX8_reef 38 = .ok (.aload_n 0, 1) := by decide +kernel
theorem dX8_reef_39 : decode cX8_reef 39 = .ok (.aload_n 0, 1) := by decide +kernel
theorem dX8_reef_40 : decode cX8_reef 40 = .ok (.getfield 23, 3) := by decide +kernel
theorem dX8_reef_43 : decode cX8_reef 43 = .ok (.putfield 19, 3) := by decide +kernel
theorem dX8_reef_46 : decode cX8_reef 46 = .ok (.aload_n 0, 1) := by decide +kernel
theorem dX8_reef_47 : decode cX8_reef 47 = .ok (.aload_n 2, 1) := by decide +kernel
theorem dX8_reef_48 : decode cX8_reef 48 = .ok (.putfield 23, 3) := by decide +kernel
theorem dX8_reef_51 : decode cX8_reef 51 = .ok (.aload_n 0, 1) := by decide +kernel
theorem dX8_reef_52 : decode cX8_reef 52 = .ok (.getfield 70, 3) := by decide +kernel
theorem dX8_reef_55 : decode cX8_reef 55 = .ok (.invokevirtual 112, 3) := by decide +kernel
theorem dX8_reef_58 : decode cX8_reef 58 = .ok (.aload_n 0, 1) := by decide +kernel
theorem dX8_reef_59 : decode cX8_reef 59 = .ok (.getfield 77, 3) := by decide +kernel
theorem dX8_reef_62 : decode cX8_reef 62 = .ok (.invokevirtual 113, 3) := by decide +kernel
theorem dX8_reef_65 : decode cX8_reef 65 = .ok (.aload_n 0, 1) := by decide +kernel
theorem dX8_reef_66 : decode cX8_reef 66 = .ok (.invokevirtual 114, 3) := by decide +kernel
theorem dX8_reef_69 : decode cX8_reef 69 = .ok (.aload_n 0, 1) := by decide +kernel
theorem dX8_reef_70 : decode cX8_reef 70 = .ok (.getfield 41, 3) := by decide +kernel
theorem dX8_reef_73 : decode cX8_reef 73 = .ok (.aload_n 0, 1) := by decide +kernel
theorem dX8_reef_74 : decode cX8_reef 74 = .ok (.getfield 19, 3) := by decide +kernel
theorem dX8_reef_77 : decode cX8_reef 77 = .ok (.invokevirtual 89, 3) := by decide +kernel
theorem dX8_reef_80 : decode cX8_reef 80 = .ok (.aload_n 0, 1) := by decide +kernel
theorem dX8_reef_81 : decode cX8_reef 81 = .ok (.getfield 19, 3) := by decide +kernel
theorem dX8_reef_84 : decode cX8_reef 84 = .ok (.getfield 117, 3) := by decide +kernel
theorem dX8_reef_87 : decode cX8_reef 87 = .ok (.ireturn, 1) := by decide +kernel
theorem dX8_skies_0 : decode cX8_skies 0 = .ok (.aload_n 0, 1) := by decide +kernel
theorem dX8_skies_1 : decode cX8_skies 1 = .ok (.getfield 10, 3) := by decide +kernel
theorem dX8_skies_4 : decode cX8_skies 4 = .ok (.getfield 94, 3) := by decide +kernel
theorem dX8_skies_7 : decode cX8_skies 7 = .ok (.sipush 200, 3) := by decide +kernel
theorem dX8_skies_10 : decode cX8_skies 10 = .ok (.if_icmp .le 6, 3) := by decide +kernel
theorem dX8_skies_13 : decode cX8_skies 13 = .ok (.ldc 120, 2) := by decide +kernel
theorem dX8_skies_15 : decode cX8_skies 15 = .ok (.ireturn, 1) := by decide +kernel
theorem dX8_skies_16 : decode cX8_skies 16 = .ok (.aload_n 0, 1) := by decide +kernel
theorem dX8_skies_17 : decode cX8_skies 17 = .ok (.getfield 33, 3) := by decide +kernel
theorem dX8_skies_20 : decode cX8_skies 20 = .ok (.aload_n 0, 1) := by decide +kernel
theorem dX8_skies_21 : decode cX8_skies 21 = .ok (.getfield 10, 3) := by decide +kernel
theorem dX8_skies_24 : decode cX8_skies 24 = .ok (.invokevirtual 121, 3) := by decide +kernel
theorem dX8_skies_27 : decode cX8_skies 27 = .ok (.istore_n 1, 1) := by decide +kernel
theorem dX8_skies_28 : decode cX8_skies 28 = .ok (.aload_n 0, 1) := by decide +kernel
theorem dX8_skies_29 : decode cX8_skies 29 = .ok (.getfield 10, 3) := by decide +kernel
theorem dX8_skies_32 : decode cX8_skies 32 = .ok (.invokevirtual 105, 3) := by decide +kernel
theorem dX8_skies_35 : decode cX8_skies 35 = .ok (.iload_n 1, 1) := by decide +kernel
theorem dX8_skies_36 : decode cX8_skies 36 = .ok (.ifCond .ne 8, 3) := by decide +kernel
theorem dX8_skies_39 : decode cX8_skies 39 = .ok (.aload_n 0, 1) := by decide +kernel
theorem dX8_skies_40 : decode cX8_skies 40 = .ok (.invokevirtual 108, 3) := by decide +kernel
theorem dX8_skies_43 : decode cX8_skies 43 = .ok (.ireturn, 1) := by decide +kernel
theorem dX8_skies_44 : decode cX8_skies 44 = .ok (.aload_n 0, 1) := by decide +kernel
theorem dX8_skies_45 : decode cX8_skies 45 = .ok (.iconst (-1), 1) := by decide +kernel
theorem dX8_skies_46 : decode cX8_skies 46 = .ok (.putfield 85, 3) := by decide +kernel
theorem dX8_skies_49 : decode cX8_skies 49 = .ok (.aload_n 0, 1) := by decide +kernel
theorem dX8_skies_50 : decode cX8_skies 50 = .ok (.getfield 29, 3) := by decide +kernel
theorem dX8_skies_53 : decode cX8_skies 53 = .ok (.astore_n 2, 1) := by decide +kernel
theorem dX8_skies_54 : decode cX8_skies 54 = .ok (.aload_n 0, 1) := by decide +kernel
theorem dX8_skies_55 : decode cX8_skies 55 = .ok (.aload_n 0, 1) := by decide +kernel
theorem dX8_skies_56 : decode cX8_skies 56 = .ok (.getfield 33, 3) := by decide +kernel
theorem dX8_skies_59 : decode cX8_skies 59 = .ok (.putfield 29, 3) := by decide +kernel
theorem dX8_skies_62 : decode cX8_skies 62 = .ok (.aload_n 0, 1) := by decide +kernel
theorem dX8_skies_63 : decode cX8_skies 63 = .ok (.aload_n 2, 1) := by decide +kernel
theorem dX8_skies_64 : decode cX8_skies 64 = .ok (.putfield 33, 3) := by decide +kernel
theorem dX8_skies_67 : decode cX8_skies 67 = .ok (.aload_n 0, 1) := by decide +kernel
theorem dX8_skies_68 : decode cX8_skies 68 = .ok (.getfield 29, 3) := by decide +kernel
theorem dX8_skies_71 : decode cX8_skies 71 = .ok (.getfield 122, 3) := by decide +kernel
theorem dX8_skies_74 : decode cX8_skies 74 = .ok (.ireturn, 1) := by decide +kernel
theorem dX8_fault_0 : decode cX8_fault 0 = .ok (.aload_n 0, 1) := by decide +kernel
theorem dX8_fault_1 : decode cX8_fault 1 = .ok (.getfield 85, 3) := by decide +kernel
theorem dX8_fault_4 : decode cX8_fault 4 = .ok (.ireturn, 1) := by decide +kernel
theorem dX8_told_0 : decode cX8_told 0 = .ok (.iload_n 1, 1) := by decide +kernel
theorem dX8_told_1 : decode cX8_told 1 = .ok (.tableswitch 223 0 15 #[79, 88, 97, 106, 115, 124, 133, 142, 151, 160, 169, 178, 187, 196, 205, 214], 79) := by decide +kernel
theorem dX8_told_80 : decode cX8_told 80 = .ok (.aload_n 0, 1) := by decide +kernel
theorem dX8_told_81 : decode cX8_told 81 = .ok (.getfield 19, 3) := by decide +kernel
theorem dX8_told_84 : decode cX8_told 84 = .ok (.getfield 117, 3) := by decide +kernel
theorem dX8_told_87 : decode cX8_told 87 = .ok (.i2l, 1) := by decide +kernel
theorem dX8_told_88 : decode cX8_told 88 = .ok (.lreturn, 1) := by decide +kernel
theorem dX8_told_89 : decode cX8_told 89 = .ok (.aload_n 0, 1) := by decide +kernel
theorem dX8_told_90 : decode cX8_told 90 = .ok (.getfield 19, 3) := by decide +kernel
theorem dX8_told_93 : decode cX8_told 93 = .ok (.getfield 125, 3) := by decide +kernel
theorem dX8_told_96 : decode cX8_told 96 = .ok (.i2l, 1) := by decide +kernel
theorem dX8_told_97 : decode cX8_told 97 = .ok (.lreturn, 1) := by decide +kernel
theorem dX8_told_98 : decode cX8_told 98 = .ok (.aload_n 0, 1) := by decide +kernel
theorem dX8_told_99 : decode cX8_told 99 = .ok (.getfield 19, 3) := by decide +kernel
theorem dX8_told_102 : decode cX8_told 102 = .ok (.getfield 128, 3) := by decide +kernel
theorem dX8_told_105 : decode cX8_told 105 = .ok (.i2l, 1) := by decide +kernel
theorem dX8_told_106 : decode cX8_told 106 = .ok (.lreturn, 1) := by decide +kernel
theorem dX8_told_107 : decode cX8_told 107 = .ok (.aload_n 0, 1) := by decide +kernel
theorem dX8_told_108 : decode cX8_told 108 = .ok (.getfield 41, 3) := by decide +kernel
theorem dX8_told_111 : decode cX8_told 111 = .ok (.getfield 131, 3) := by decide +kernel
theorem dX8_told_114 : decode cX8_told 114 = .ok (.i2l, 1) := by decide +kernel
theorem dX8_told_115 : decode cX8_told 115 = .ok (.lreturn, 1) := by decide +kernel
theorem dX8_told_116 : decode cX8_told 116 = .ok (.aload_n 0, 1) := by decide +kernel
theorem dX8_told_117 : decode cX8_told 117 = .ok (.getfield 41, 3) := by decide +kernel
theorem dX8_told_120 : decode cX8_told 120 = .ok (.getfield 134, 3) := by decide +kernel
theorem dX8_told_123 : decode cX8_told 123 = .ok (.i2l, 1) := by decide +kernel
theorem dX8_told_124 : decode cX8_told 124 = .ok (.lreturn, 1) := by decide +kernel
theorem dX8_told_125 : decode cX8_told 125 = .ok (.aload_n 0, 1) := by decide +kernel
theorem dX8_told_126 : decode cX8_told 126 = .ok (.getfield 41, 3) := by decide +kernel
theorem dX8_told_129 : decode cX8_told 129 = .ok (.getfield 137, 3) := by decide +kernel
theorem dX8_told_132 : decode cX8_told 132 = .ok (.i2l, 1) := by decide +kernel
theorem dX8_told_133 : decode cX8_told 133 = .ok (.lreturn, 1) := by decide +kernel
theorem dX8_told_134 : decode cX8_told 134 = .ok (.aload_n 0, 1) := by decide +kernel
theorem dX8_told_135 : decode cX8_told 135 = .ok (.getfield 41, 3) := by decide +kernel
theorem dX8_told_138 : decode cX8_told 138 = .ok (.getfield 140, 3) := by decide +kernel
theorem dX8_told_141 : decode cX8_told 141 = .ok (.i2l, 1) := by decide +kernel
theorem dX8_told_142 : decode cX8_told 142 = .ok (.lreturn, 1) := by decide +kernel
theorem dX8_told_143 : decode cX8_told 143 = .ok (.aload_n 0, 1) := by decide +kernel
theorem dX8_told_144 : decode cX8_told 144 = .ok (.getfield 41, 3) := by decide +kernel
theorem dX8_told_147 : decode cX8_told 147 = .ok (.getfield 143, 3) := by decide +kernel
theorem dX8_told_150 : decode cX8_told 150 = .ok (.i2l, 1) := by decide +kernel
theorem dX8_told_151 : decode cX8_told 151 = .ok (.lreturn, 1) := by decide +kernel
theorem dX8_told_152 : decode cX8_told 152 = .ok (.aload_n 0, 1) := by decide +kernel
theorem dX8_told_153 : decode cX8_told 153 = .ok (.getfield 10, 3) := by decide +kernel
theorem dX8_told_156 : decode cX8_told 156 = .ok (.getfield 94, 3) := by decide +kernel
theorem dX8_told_159 : decode cX8_told 159 = .ok (.i2l, 1) := by decide +kernel
theorem dX8_told_160 : decode cX8_told 160 = .ok (.lreturn, 1) := by decide +kernel
theorem dX8_told_161 : decode cX8_told 161 = .ok (.aload_n 0, 1) := by decide +kernel
theorem dX8_told_162 : decode cX8_told 162 = .ok (.getfield 70, 3) := by decide +kernel
theorem dX8_told_165 : decode cX8_told 165 = .ok (.getfield 146, 3) := by decide +kernel
theorem dX8_told_168 : decode cX8_told 168 = .ok (.i2l, 1) := by decide +kernel
theorem dX8_told_169 : decode cX8_told 169 = .ok (.lreturn, 1) := by decide +kernel
theorem dX8_told_170 : decode cX8_told 170 = .ok (.aload_n 0, 1) := by decide +kernel
theorem dX8_told_171 : decode cX8_told 171 = .ok (.getfield 29, 3) := by decide +kernel
theorem dX8_told_174 : decode cX8_told 174 = .ok (.getfield 122, 3) := by decide +kernel
theorem dX8_told_177 : decode cX8_told 177 = .ok (.i2l, 1) := by decide +kernel
theorem dX8_told_178 : decode cX8_told 178 = .ok (.lreturn, 1) := by decide +kernel
theorem dX8_told_179 : decode cX8_told 179 = .ok (.aload_n 0, 1) := by decide +kernel
theorem dX8_told_180 : decode cX8_told 180 = .ok (.getfield 41, 3) := by decide +kernel
theorem dX8_told_183 : decode cX8_told 183 = .ok (.getfield 149, 3) := by decide +kernel
theorem dX8_told_186 : decode cX8_told 186 = .ok (.i2l, 1) := by decide +kernel
theorem dX8_told_187 : decode cX8_told 187 = .ok (.lreturn, 1) := by decide +kernel
theorem dX8_told_188 : decode cX8_told 188 = .ok (.aload_n 0, 1) := by decide +kernel
theorem dX8_told_189 : decode cX8_told 189 = .ok (.getfield 41, 3) := by decide +kernel
theorem dX8_told_192 : decode cX8_told 192 = .ok (.getfield 152, 3) := by decide +kernel
theorem dX8_told_195 : decode cX8_told 195 = .ok (.i2l, 1) := by decide +kernel
theorem dX8_told_196 : decode cX8_told 196 = .ok (.lreturn, 1) := by decide +kernel
theorem dX8_told_197 : decode cX8_told 197 = .ok (.aload_n 0, 1) := by decide +kernel
theorem dX8_told_198 : decode cX8_told 198 = .ok (.getfield 41, 3) := by decide +kernel
theorem dX8_told_201 : decode cX8_told 201 = .ok (.getfield 155, 3) := by decide +kernel
theorem dX8_told_204 : decode cX8_told 204 = .ok (.i2l, 1) := by decide +kernel
theorem dX8_told_205 : decode cX8_told 205 = .ok (.lreturn, 1) := by decide +kernel
theorem dX8_told_206 : decode cX8_told 206 = .ok (.aload_n 0, 1) := by decide +kernel
theorem dX8_told_207 : decode cX8_told 207 = .ok (.getfield 41, 3) := by decide +kernel
theorem dX8_told_210 : decode cX8_told 210 = .ok (.getfield 158, 3) := by decide +kernel
theorem dX8_told_213 : decode cX8_told 213 = .ok (.i2l, 1) := by decide +kernel
theorem dX8_told_214 : decode cX8_told 214 = .ok (.lreturn, 1) := by decide +kernel
theorem dX8_told_215 : decode cX8_told 215 = .ok (.aload_n 0, 1) := by decide +kernel
theorem dX8_told_216 : decode cX8_told 216 = .ok (.getfield 41, 3) := by decide +kernel
theorem dX8_told_219 : decode cX8_told 219 = .ok (.getfield 161, 3) := by decide +kernel
theorem dX8_told_222 : decode cX8_told 222 = .ok (.i2l, 1) := by decide +kernel
theorem dX8_told_223 : decode cX8_told 223 = .ok (.lreturn, 1) := by decide +kernel
theorem dX8_told_224 : decode cX8_told 224 = .ok (.ldc2_w 164, 3) := by decide +kernel
theorem dX8_told_227 : decode cX8_told 227 = .ok (.lreturn, 1) := by decide +kernel
theorem dX8_light_0 : decode cX8_light 0 = .ok (.aload_n 0, 1) := by decide +kernel
theorem dX8_light_1 : decode cX8_light 1 = .ok (.iload_n 1, 1) := by decide +kernel
theorem dX8_light_2 : decode cX8_light 2 = .ok (.invokevirtual 166, 3) := by decide +kernel
theorem dX8_light_5 : decode cX8_light 5 = .ok (.ifCond .eq 6, 3) := by decide +kernel
theorem dX8_light_8 : decode cX8_light 8 = .ok (.ldc 170, 2) := by decide +kernel
theorem dX8_light_10 : decode cX8_light 10 = .ok (.ireturn, 1) := by decide +kernel
theorem dX8_light_11 : decode cX8_light 11 = .ok (.iload_n 2, 1) := by decide +kernel
theorem dX8_light_12 : decode cX8_light 12 = .ok (.tableswitch 160 0 8 #[52, 64, 76, 88, 100, 112, 124, 136, 148], 52) := by decide +kernel
theorem dX8_light_64 : decode cX8_light 64 = .ok (.aload_n 0, 1) := by decide +kernel
theorem dX8_light_65 : decode cX8_light 65 = .ok (.getfield 19, 3) := by decide +kernel
theorem dX8_light_68 : decode cX8_light 68 = .ok (.getfield 171, 3) := by decide +kernel
theorem dX8_light_71 : decode cX8_light 71 = .ok (.iload_n 1, 1) := by decide +kernel
theorem dX8_light_72 : decode cX8_light 72 = .ok (.invokestatic 174, 3) := by decide +kernel
theorem dX8_light_75 : decode cX8_light 75 = .ok (.ireturn, 1) := by decide +kernel
theorem dX8_light_76 : decode cX8_light 76 = .ok (.aload_n 0, 1) := by decide +kernel
theorem dX8_light_77 : decode cX8_light 77 = .ok (.getfield 19, 3) := by decide +kernel
theorem dX8_light_80 : decode cX8_light 80 = .ok (.getfield 178, 3) := by decide +kernel
theorem dX8_light_83 : decode cX8_light 83 = .ok (.iload_n 1, 1) := by decide +kernel
theorem dX8_light_84 : decode cX8_light 84 = .ok (.invokestatic 174, 3) := by decide +kernel
theorem dX8_light_87 : decode cX8_light 87 = .ok (.ireturn, 1) := by decide +kernel
theorem dX8_light_88 : decode cX8_light 88 = .ok (.aload_n 0, 1) := by decide +kernel
theorem dX8_light_89 : decode cX8_light 89 = .ok (.getfield 19, 3) := by decide +kernel
theorem dX8_light_92 : decode cX8_light 92 = .ok (.getfield 181, 3) := by decide +kernel
theorem dX8_light_95 : decode cX8_light 95 = .ok (.iload_n 1, 1) := by decide +kernel
theorem dX8_light_96 : decode cX8_light 96 = .ok (.invokestatic 174, 3) := by decide +kernel
theorem dX8_light_99 : decode cX8_light 99 = .ok (.ireturn, 1) := by decide +kernel
theorem dX8_light_100 : decode cX8_light 100 = .ok (.aload_n 0, 1) := by decide +kernel
theorem dX8_light_101 : decode cX8_light 101 = .ok (.getfield 19, 3) := by decide +kernel
theorem dX8_light_104 : decode cX8_light 104 = .ok (.getfield 184, 3) := by decide +kernel
theorem dX8_light_107 : decode cX8_light 107 = .ok (.iload_n 1, 1) := by decide +kernel
theorem dX8_light_108 : decode cX8_light 108 = .ok (.invokestatic 174, 3) := by decide +kernel
theorem dX8_light_111 : decode cX8_light 111 = .ok (.ireturn, 1) := by decide +kernel
theorem dX8_light_112 : decode cX8_light 112 = .ok (.aload_n 0, 1) := by decide +kernel
theorem dX8_light_113 : decode cX8_light 113 = .ok (.getfield 19, 3) := by decide +kernel
theorem dX8_light_116 : decode cX8_light 116 = .ok (.getfield 187, 3) := by decide +kernel
theorem dX8_light_119 : decode cX8_light 119 = .ok (.iload_n 1, 1) := by decide +kernel
theorem dX8_light_120 : decode cX8_light 120 = .ok (.invokestatic 174, 3) := by decide +kernel
theorem dX8_light_123 : decode cX8_light 123 = .ok (.ireturn, 1) := by decide +kernel
theorem dX8_light_124 : decode cX8_light 124 = .ok (.aload_n 0, 1) := by decide +kernel
theorem dX8_light_125 : decode cX8_light 125 = .ok (.getfield 41, 3) := by decide +kernel
theorem dX8_light_128 : decode cX8_light 128 = .ok (.getfield 190, 3) := by decide +kernel
theorem dX8_light_131 : decode cX8_light 131 = .ok (.iload_n 1, 1) := by decide +kernel
theorem dX8_light_132 : decode cX8_light 132 = .ok (.invokestatic 174, 3) := by decide +kernel
theorem dX8_light_135 : decode cX8_light 135 = .ok (.ireturn, 1) := by decide +kernel
theorem dX8_light_136 : decode cX8_light 136 = .ok (.aload_n 0, 1) := by decide +kernel
theorem dX8_light_137 : decode cX8_light 137 = .ok (.getfield 41, 3) := by decide +kernel
theorem dX8_light_140 : decode cX8_light 140 = .ok (.getfield 193, 3) := by decide +kernel
theorem dX8_light_143 : decode cX8_light 143 = .ok (.iload_n 1, 1) := by decide +kernel
theorem dX8_light_144 : decode cX8_light 144 = .ok (.invokestatic 174, 3) := by decide +kernel
theorem dX8_light_147 : decode cX8_light 147 = .ok (.ireturn, 1) := by decide +kernel
theorem dX8_light_148 : decode cX8_light 148 = .ok (.aload_n 0, 1) := by decide +kernel
theorem dX8_light_149 : decode cX8_light 149 = .ok (.getfield 41, 3) := by decide +kernel
theorem dX8_light_152 : decode cX8_light 152 = .ok (.getfield 196, 3) := by decide +kernel
theorem dX8_light_155 : decode cX8_light 155 = .ok (.iload_n 1, 1) := by decide +kernel
theorem dX8_light_156 : decode cX8_light 156 = .ok (.invokestatic 174, 3) := by decide +kernel
theorem dX8_light_159 : decode cX8_light 159 = .ok (.ireturn, 1) := by decide +kernel
theorem dX8_light_160 : decode cX8_light 160 = .ok (.aload_n 0, 1) := by decide +kernel
theorem dX8_light_161 : decode cX8_light 161 = .ok (.getfield 41, 3) := by decide +kernel
theorem dX8_light_164 : decode cX8_light 164 = .ok (.getfield 199, 3) := by decide +kernel
theorem dX8_light_167 : decode cX8_light 167 = .ok (.iload_n 1, 1) := by decide +kernel
theorem dX8_light_168 : decode cX8_light 168 = .ok (.invokestatic 174, 3) := by decide +kernel
theorem dX8_light_171 : decode cX8_light 171 = .ok (.ireturn, 1) := by decide +kernel
theorem dX8_light_172 : decode cX8_light 172 = .ok (.ldc 93, 2) := by decide +kernel
theorem dX8_light_174 : decode cX8_light 174 = .ok (.ireturn, 1) := by decide +kernel
theorem dX8_sky_0 : decode cX8_sky 0 = .ok (.iload_n 1, 1) := by decide +kernel
theorem dX8_sky_1 : decode cX8_sky 1 = .ok (.ifCond .lt 10, 3) := by decide +kernel
theorem dX8_sky_4 : decode cX8_sky 4 = .ok (.iload_n 1, 1) := by decide +kernel
theorem dX8_sky_5 : decode cX8_sky 5 = .ok (.sipush 9999, 3) := by decide +kernel
theorem dX8_sky_8 : decode cX8_sky 8 = .ok (.if_icmp .le 6, 3) := by decide +kernel
theorem dX8_sky_11 : decode cX8_sky 11 = .ok (.ldc 93, 2) := by decide +kernel
theorem dX8_sky_13 : decode cX8_sky 13 = .ok (.ireturn, 1) := by decide +kernel
theorem dX8_sky_14 : decode cX8_sky 14 = .ok (.aload_n 0, 1) := by decide +kernel
theorem dX8_sky_15 : decode cX8_sky 15 = .ok (.getfield 29, 3) := by decide +kernel
theorem dX8_sky_18 : decode cX8_sky 18 = .ok (.iload_n 1, 1) := by decide +kernel
theorem dX8_sky_19 : decode cX8_sky 19 = .ok (.invokevirtual 202, 3) := by decide +kernel
theorem dX8_sky_22 : decode cX8_sky 22 = .ok (.ireturn, 1) := by decide +kernel
theorem dX8_odds_0 : decode cX8_odds 0 = .ok (.iload_n 1, 1) := by decide +kernel
theorem dX8_odds_1 : decode cX8_odds 1 = .ok (.invokestatic 206, 3) := by decide +kernel
theorem dX8_odds_4 : decode cX8_odds 4 = .ok (.ifCond .ne 10, 3) := by decide +kernel
theorem dX8_odds_7 : decode cX8_odds 7 = .ok (.iload_n 2, 1) := by decide +kernel
theorem dX8_odds_8 : decode cX8_odds 8 = .ok (.invokestatic 206, 3) := by decide +kernel
theorem dX8_odds_11 : decode cX8_odds 11 = .ok (.ifCond .eq 6, 3) := by decide +kernel
theorem dX8_odds_14 : decode cX8_odds 14 = .ok (.ldc 170, 2) := by decide +kernel
theorem dX8_odds_16 : decode cX8_odds 16 = .ok (.ireturn, 1) := by decide +kernel
theorem dX8_odds_17 : decode cX8_odds 17 = .ok (.aload_n 0, 1) := by decide +kernel
theorem dX8_odds_18 : decode cX8_odds 18 = .ok (.getfield 19, 3) := by decide +kernel
theorem dX8_odds_21 : decode cX8_odds 21 = .ok (.iload_n 1, 1) := by decide +kernel
theorem dX8_odds_22 : decode cX8_odds 22 = .ok (.iload_n 2, 1) := by decide +kernel
theorem dX8_odds_23 : decode cX8_odds 23 = .ok (.invokevirtual 209, 3) := by decide +kernel
theorem dX8_odds_26 : decode cX8_odds 26 = .ok (.ireturn, 1) := by decide +kernel
theorem dX8_goal_0 : decode cX8_goal 0 = .ok (.iload_n 1, 1) := by decide +kernel
theorem dX8_goal_1 : decode cX8_goal 1 = .ok (.iconst (-1), 1) := by decide +kernel
theorem dX8_goal_2 : decode cX8_goal 2 = .ok (.if_icmp .eq 14, 3) := by decide +kernel
theorem dX8_goal_5 : decode cX8_goal 5 = .ok (.aload_n 0, 1) := by decide +kernel
theorem dX8_goal_6 : decode cX8_goal 6 = .ok (.iload_n 1, 1) := by decide +kernel
theorem dX8_goal_7 : decode cX8_goal 7 = .ok (.invokevirtual 166, 3) := by decide +kernel
theorem dX8_goal_10 : decode cX8_goal 10 = .ok (.ifCond .eq 6, 3) := by decide +kernel
theorem dX8_goal_13 : decode cX8_goal 13 = .ok (.ldc 170, 2) := by decide +kernel
theorem dX8_goal_15 : decode cX8_goal 15 = .ok (.ireturn, 1) := by decide +kernel
theorem dX8_goal_16 : decode cX8_goal 16 = .ok (.aload_n 0, 1) := by decide +kernel
theorem dX8_goal_17 : decode cX8_goal 17 = .ok (.getfield 41, 3) := by decide +kernel
theorem dX8_goal_20 : decode cX8_goal 20 = .ok (.getfield 158, 3) := by decide +kernel
theorem dX8_goal_23 : decode cX8_goal 23 = .ok (.istore_n 2, 1) := by decide +kernel
theorem dX8_goal_24 : decode cX8_goal 24 = .ok (.aload_n 0, 1) := by decide +kernel
theorem dX8_goal_25 : decode cX8_goal 25 = .ok (.getfield 41, 3) := by decide +kernel
theorem dX8_goal_28 : decode cX8_goal 28 = .ok (.iload_n 1, 1) := by decide +kernel
theorem dX8_goal_29 : decode cX8_goal 29 = .ok (.putfield 158, 3) := by decide +kernel
theorem dX8_goal_32 : decode cX8_goal 32 = .ok (.iload_n 2, 1) := by decide +kernel
theorem dX8_goal_33 : decode cX8_goal 33 = .ok (.ireturn, 1) := by decide +kernel
theorem dX8_wick_0 : decode cX8_wick 0 = .ok (.aload_n 0, 1) := by decide +kernel
theorem dX8_wick_1 : decode cX8_wick 1 = .ok (.iload_n 1, 1) := by decide +kernel
theorem dX8_wick_2 : decode cX8_wick 2 = .ok (.invokevirtual 166, 3) := by decide +kernel
theorem dX8_wick_5 : decode cX8_wick 5 = .ok (.ifCond .eq 6, 3) := by decide +kernel
theorem dX8_wick_8 : decode cX8_wick 8 = .ok (.ldc 170, 2) := by decide +kernel
theorem dX8_wick_10 : decode cX8_wick 10 = .ok (.ireturn, 1) := by decide +kernel
theorem dX8_wick_11 : decode cX8_wick 11 = .ok (.aload_n 0, 1) := by decide +kernel
theorem dX8_wick_12 : decode cX8_wick 12 = .ok (.getfield 41, 3) := by decide +kernel
theorem dX8_wick_15 : decode cX8_wick 15 = .ok (.getfield 193, 3) := by decide +kernel
theorem dX8_wick_18 : decode cX8_wick 18 = .ok (.iload_n 1, 1) := by decide +kernel
theorem dX8_wick_19 : decode cX8_wick 19 = .ok (.invokestatic 174, 3) := by decide +kernel
theorem dX8_wick_22 : decode cX8_wick 22 = .ok (.istore_n 3, 1) := by decide +kernel
theorem dX8_wick_23 : decode cX8_wick 23 = .ok (.aload_n 0, 1) := by decide +kernel
theorem dX8_wick_24 : decode cX8_wick 24 = .ok (.getfield 41, 3) := by decide +kernel
theorem dX8_wick_27 : decode cX8_wick 27 = .ok (.getfield 193, 3) := by decide +kernel
theorem dX8_wick_30 : decode cX8_wick 30 = .ok (.iload_n 1, 1) := by decide +kernel
theorem dX8_wick_31 : decode cX8_wick 31 = .ok (.iload_n 2, 1) := by decide +kernel
theorem dX8_wick_32 : decode cX8_wick 32 = .ok (.ifCond .eq 7, 3) := by decide +kernel
theorem dX8_wick_35 : decode cX8_wick 35 = .ok (.iconst 1, 1) := by decide +kernel
theorem dX8_wick_36 : decode cX8_wick 36 = .ok (.goto 4, 3) := by decide +kernel
theorem dX8_wick_39 : decode cX8_wick 39 = .ok (.iconst 0, 1) := by decide +kernel
theorem dX8_wick_40 : decode cX8_wick 40 = .ok (.invokestatic 213, 3) := by decide +kernel
theorem dX8_wick_43 : decode cX8_wick 43 = .ok (.iload_n 3, 1) := by decide +kernel
theorem dX8_wick_44 : decode cX8_wick 44 = .ok (.ireturn, 1) := by decide +kernel
theorem dX8_go_0 : decode cX8_go 0 = .ok (.iload_n 1, 1) := by decide +kernel
theorem dX8_go_1 : decode cX8_go 1 = .ok (.iconst 1, 1) := by decide +kernel
theorem dX8_go_2 : decode cX8_go 2 = .ok (.if_icmp .lt 10, 3) := by decide +kernel
theorem dX8_go_5 : decode cX8_go 5 = .ok (.iload_n 1, 1) := by decide +kernel
theorem dX8_go_6 : decode cX8_go 6 = .ok (.sipush 200, 3) := by decide +kernel
theorem dX8_go_9 : decode cX8_go 9 = .ok (.if_icmp .le 6, 3) := by decide +kernel
theorem dX8_go_12 : decode cX8_go 12 = .ok (.ldc 93, 2) := by decide +kernel
theorem dX8_go_14 : decode cX8_go 14 = .ok (.ireturn, 1) := by decide +kernel
theorem dX8_go_15 : decode cX8_go 15 = .ok (.iconst 0, 1) := by decide +kernel
theorem dX8_go_16 : decode cX8_go 16 = .ok (.istore_n 2, 1) := by decide +kernel
theorem dX8_go_17 : decode cX8_go 17 = .ok (.iconst 0, 1) := by decide +kernel
theorem dX8_go_18 : decode cX8_go 18 = .ok (.istore_n 3, 1) := by decide +kernel
theorem dX8_go_19 : decode cX8_go 19 = .ok (.iload_n 3, 1) := by decide +kernel
theorem dX8_go_20 : decode cX8_go 20 = .ok (.iload_n 1, 1) := by decide +kernel
theorem dX8_go_21 : decode cX8_go 21 = .ok (.if_icmp .ge 35, 3) := by decide +kernel
theorem dX8_go_24 : decode cX8_go 24 = .ok (.aload_n 0, 1) := by decide +kernel
theorem dX8_go_25 : decode cX8_go 25 = .ok (.getfield 41, 3) := by decide +kernel
theorem dX8_go_28 : decode cX8_go 28 = .ok (.aload_n 0, 1) := by decide +kernel
theorem dX8_go_29 : decode cX8_go 29 = .ok (.getfield 19, 3) := by decide +kernel
theorem dX8_go_32 : decode cX8_go 32 = .ok (.aload_n 0, 1) := by decide +kernel
theorem dX8_go_33 : decode cX8_go 33 = .ok (.getfield 29, 3) := by decide +kernel
theorem dX8_go_36 : decode cX8_go 36 = .ok (.aload_n 0, 1) := by decide +kernel
theorem dX8_go_37 : decode cX8_go 37 = .ok (.getfield 41, 3) := by decide +kernel
theorem dX8_go_40 : decode cX8_go 40 = .ok (.getfield 137, 3) := by decide +kernel
theorem dX8_go_43 : decode cX8_go 43 = .ok (.invokevirtual 202, 3) := by decide +kernel
theorem dX8_go_46 : decode cX8_go 46 = .ok (.invokevirtual 217, 3) := by decide +kernel
theorem dX8_go_49 : decode cX8_go 49 = .ok (.istore_n 2, 1) := by decide +kernel
theorem dX8_go_50 : decode cX8_go 50 = .ok (.iinc 3 1, 3) := by decide +kernel
theorem dX8_go_53 : decode cX8_go 53 = .ok (.goto (-34), 3) := by decide +kernel
theorem dX8_go_56 : decode cX8_go 56 = .ok (.iload_n 2, 1) := by decide +kernel
theorem dX8_go_57 : decode cX8_go 57 = .ok (.ireturn, 1) := by decide +kernel
theorem dX8_drift_0 : decode cX8_drift 0 = .ok (.iload_n 1, 1) := by decide +kernel
theorem dX8_drift_1 : decode cX8_drift 1 = .ok (.iconst 1, 1) := by decide +kernel
theorem dX8_drift_2 : decode cX8_drift 2 = .ok (.if_icmp .lt 10, 3) := by decide +kernel
theorem dX8_drift_5 : decode cX8_drift 5 = .ok (.iload_n 1, 1) := by decide +kernel
theorem dX8_drift_6 : decode cX8_drift 6 = .ok (.sipush 200, 3) := by decide +kernel
theorem dX8_drift_9 : decode cX8_drift 9 = .ok (.if_icmp .le 6, 3) := by decide +kernel
theorem dX8_drift_12 : decode cX8_drift 12 = .ok (.ldc 93, 2) := by decide +kernel
theorem dX8_drift_14 : decode cX8_drift 14 = .ok (.ireturn, 1) := by decide +kernel
theorem dX8_drift_15 : decode cX8_drift 15 = .ok (.iconst 0, 1) := by decide +kernel
theorem dX8_drift_16 : decode cX8_drift 16 = .ok (.istore_n 2, 1) := by decide +kernel
theorem dX8_drift_17 : decode cX8_drift 17 = .ok (.iconst 0, 1) := by decide +kernel
theorem dX8_drift_18 : decode cX8_drift 18 = .ok (.istore_n 3, 1) := by decide +kernel
theorem dX8_drift_19 : decode cX8_drift 19 = .ok (.iload_n 3, 1) := by decide +kernel
theorem dX8_drift_20 : decode cX8_drift 20 = .ok (.iload_n 1, 1) := by decide +kernel
theorem dX8_drift_21 : decode cX8_drift 21 = .ok (.if_icmp .ge 32, 3) := by decide +kernel
theorem dX8_drift_24 : decode cX8_drift 24 = .ok (.aload_n 0, 1) := by decide +kernel
theorem dX8_drift_25 : decode cX8_drift 25 = .ok (.getfield 41, 3) := by decide +kernel
theorem dX8_drift_28 : decode cX8_drift 28 = .ok (.aload_n 0, 1) := by decide +kernel
theorem dX8_drift_29 : decode cX8_drift 29 = .ok (.getfield 19, 3) := by decide +kernel
theorem dX8_drift_32 : decode cX8_drift 32 = .ok (.aload_n 0, 1) := by decide +kernel
theorem dX8_drift_33 : decode cX8_drift 33 = .ok (.getfield 41, 3) := by decide +kernel
theorem dX8_drift_36 : decode cX8_drift 36 = .ok (.aload_n 0, 1) := by decide +kernel
theorem dX8_drift_37 : decode cX8_drift 37 = .ok (.getfield 19, 3) := by decide +kernel
theorem dX8_drift_40 : decode cX8_drift 40 = .ok (.invokevirtual 221, 3) := by decide +kernel
theorem dX8_drift_43 : decode cX8_drift 43 = .ok (.invokevirtual 217, 3) := by decide +kernel
theorem dX8_drift_46 : decode cX8_drift 46 = .ok (.istore_n 2, 1) := by decide +kernel
theorem dX8_drift_47 : decode cX8_drift 47 = .ok (.iinc 3 1, 3) := by decide +kernel
theorem dX8_drift_50 : decode cX8_drift 50 = .ok (.goto (-31), 3) := by decide +kernel
theorem dX8_drift_53 : decode cX8_drift 53 = .ok (.iload_n 2, 1) := by decide +kernel
theorem dX8_drift_54 : decode cX8_drift 54 = .ok (.ireturn, 1) := by decide +kernel
theorem dX8_pour_0 : decode cX8_pour 0 = .ok (.iload_n 1, 1) := by decide +kernel
theorem dX8_pour_1 : decode cX8_pour 1 = .ok (.ifCond .lt 10, 3) := by decide +kernel
theorem dX8_pour_4 : decode cX8_pour 4 = .ok (.iload_n 1, 1) := by decide +kernel
theorem dX8_pour_5 : decode cX8_pour 5 = .ok (.sipush 999, 3) := by decide +kernel
theorem dX8_pour_8 : decode cX8_pour 8 = .ok (.if_icmp .le 6, 3) := by decide +kernel
theorem dX8_pour_11 : decode cX8_pour 11 = .ok (.ldc 93, 2) := by decide +kernel
theorem dX8_pour_13 : decode cX8_pour 13 = .ok (.ireturn, 1) := by decide +kernel
theorem dX8_pour_14 : decode cX8_pour 14 = .ok (.aload_n 0, 1) := by decide +kernel
theorem dX8_pour_15 : decode cX8_pour 15 = .ok (.getfield 41, 3) := by decide +kernel
theorem dX8_pour_18 : decode cX8_pour 18 = .ok (.getfield 152, 3) := by decide +kernel
theorem dX8_pour_21 : decode cX8_pour 21 = .ok (.ifCond .eq 6, 3) := by decide +kernel
theorem dX8_pour_24 : decode cX8_pour 24 = .ok (.ldc 120, 2) := by decide +kernel
theorem dX8_pour_26 : decode cX8_pour 26 = .ok (.ireturn, 1) := by decide +kernel
theorem dX8_pour_27 : decode cX8_pour 27 = .ok (.aload_n 0, 1) := by decide +kernel
theorem dX8_pour_28 : decode cX8_pour 28 = .ok (.getfield 41, 3) := by decide +kernel
theorem dX8_pour_31 : decode cX8_pour 31 = .ok (.aload_n 0, 1) := by decide +kernel
theorem dX8_pour_32 : decode cX8_pour 32 = .ok (.getfield 19, 3) := by decide +kernel
theorem dX8_pour_35 : decode cX8_pour 35 = .ok (.iload_n 1, 1) := by decide +kernel
theorem dX8_pour_36 : decode cX8_pour 36 = .ok (.invokevirtual 225, 3) := by decide +kernel
theorem dX8_pour_39 : decode cX8_pour 39 = .ok (.ireturn, 1) := by decide +kernel
theorem dX8_begin_0 : decode cX8_begin 0 = .ok (.aload_n 0, 1) := by decide +kernel
theorem dX8_begin_1 : decode cX8_begin 1 = .ok (.getfield 41, 3) := by decide +kernel
theorem dX8_begin_4 : decode cX8_begin 4 = .ok (.getfield 137, 3) := by decide +kernel
theorem dX8_begin_7 : decode cX8_begin 7 = .ok (.istore_n 1, 1) := by decide +kernel
theorem dX8_begin_8 : decode cX8_begin 8 = .ok (.aload_n 0, 1) := by decide +kernel
theorem dX8_begin_9 : decode cX8_begin 9 = .ok (.getfield 41, 3) := by decide +kernel
theorem dX8_begin_12 : decode cX8_begin 12 = .ok (.aload_n 0, 1) := by decide +kernel
theorem dX8_begin_13 : decode cX8_begin 13 = .ok (.getfield 19, 3) := by decide +kernel
theorem dX8_begin_16 : decode cX8_begin 16 = .ok (.invokevirtual 89, 3) := by decide +kernel
theorem dX8_begin_19 : decode cX8_begin 19 = .ok (.iload_n 1, 1) := by decide +kernel
theorem dX8_begin_20 : decode cX8_begin 20 = .ok (.ireturn, 1) := by decide +kernel
theorem dX8_round_0 : decode cX8_round 0 = .ok (.iload_n 1, 1) := by decide +kernel
theorem dX8_round_1 : decode cX8_round 1 = .ok (.iconst 1, 1) := by decide +kernel
theorem dX8_round_2 : decode cX8_round 2 = .ok (.if_icmp .lt 19, 3) := by decide +kernel
theorem dX8_round_5 : decode cX8_round 5 = .ok (.iload_n 1, 1) := by decide +kernel
theorem dX8_round_6 : decode cX8_round 6 = .ok (.iconst 4, 1) := by decide +kernel
theorem dX8_round_7 : decode cX8_round 7 = .ok (.if_icmp .gt 14, 3) := by decide +kernel
theorem dX8_round_10 : decode cX8_round 10 = .ok (.iload_n 2, 1) := by decide +kernel
theorem dX8_round_11 : decode cX8_round 11 = .ok (.ifCond .lt 10, 3) := by decide +kernel
theorem dX8_round_14 : decode cX8_round 14 = .ok (.iload_n 2, 1) := by decide +kernel
theorem dX8_round_15 : decode cX8_round 15 = .ok (.iload_n 1, 1) := by decide +kernel
theorem dX8_round_16 : decode cX8_round 16 = .ok (.iconst 1, 1) := by decide +kernel
theorem dX8_round_17 : decode cX8_round 17 = .ok (.iadd, 1) := by decide +kernel
theorem dX8_round_18 : decode cX8_round 18 = .ok (.if_icmp .le 6, 3) := by decide +kernel
theorem dX8_round_21 : decode cX8_round 21 = .ok (.ldc 93, 2) := by decide +kernel
theorem dX8_round_23 : decode cX8_round 23 = .ok (.ireturn, 1) := by decide +kernel
theorem dX8_round_24 : decode cX8_round 24 = .ok (.aload_n 0, 1) := by decide +kernel
theorem dX8_round_25 : decode cX8_round 25 = .ok (.getfield 56, 3) := by decide +kernel
theorem dX8_round_28 : decode cX8_round 28 = .ok (.aload_n 0, 1) := by decide +kernel
theorem dX8_round_29 : decode cX8_round 29 = .ok (.getfield 19, 3) := by decide +kernel
theorem dX8_round_32 : decode cX8_round 32 = .ok (.aload_n 0, 1) := by decide +kernel
theorem dX8_round_33 : decode cX8_round 33 = .ok (.getfield 29, 3) := by decide +kernel
theorem dX8_round_36 : decode cX8_round 36 = .ok (.aload_n 0, 1) := by decide +kernel
theorem dX8_round_37 : decode cX8_round 37 = .ok (.getfield 41, 3) := by decide +kernel
theorem dX8_round_40 : decode cX8_round 40 = .ok (.iload_n 1, 1) := by decide +kernel
theorem dX8_round_41 : decode cX8_round 41 = .ok (.invokevirtual 228, 3) := by decide +kernel
theorem dX8_round_44 : decode cX8_round 44 = .ok (.iload_n 2, 1) := by decide +kernel
theorem dX8_round_45 : decode cX8_round 45 = .ok (.lookupswitch 43 #[(0, 27), (1, 35)], 27) := by decide +kernel
theorem dX8_round_72 : decode cX8_round 72 = .ok (.aload_n 0, 1) := by decide +kernel
theorem dX8_round_73 : decode cX8_round 73 = .ok (.getfield 56, 3) := by decide +kernel
theorem dX8_round_76 : decode cX8_round 76 = .ok (.getfield 232, 3) := by decide +kernel
theorem dX8_round_79 : decode cX8_round 79 = .ok (.ireturn, 1) := by decide +kernel
theorem dX8_round_80 : decode cX8_round 80 = .ok (.aload_n 0, 1) := by decide +kernel
theorem dX8_round_81 : decode cX8_round 81 = .ok (.getfield 56, 3) := by decide +kernel
theorem dX8_round_84 : decode cX8_round 84 = .ok (.getfield 235, 3) := by decide +kernel
theorem dX8_round_87 : decode cX8_round 87 = .ok (.ireturn, 1) := by decide +kernel
theorem dX8_round_88 : decode cX8_round 88 = .ok (.aload_n 0, 1) := by decide +kernel
theorem dX8_round_89 : decode cX8_round 89 = .ok (.getfield 56, 3) := by decide +kernel
theorem dX8_round_92 : decode cX8_round 92 = .ok (.getfield 238, 3) := by decide +kernel
theorem dX8_round_95 : decode cX8_round 95 = .ok (.iload_n 2, 1) := by decide +kernel
theorem dX8_round_96 : decode cX8_round 96 = .ok (.iconst 2, 1) := by decide +kernel
theorem dX8_round_97 : decode cX8_round 97 = .ok (.isub, 1) := by decide +kernel
theorem dX8_round_98 : decode cX8_round 98 = .ok (.invokestatic 174, 3) := by decide +kernel
theorem dX8_round_101 : decode cX8_round 101 = .ok (.ireturn, 1) := by decide +kernel
theorem dX8_darken_0 : decode cX8_darken 0 = .ok (.iload_n 1, 1) := by decide +kernel
theorem dX8_darken_1 : decode cX8_darken 1 = .ok (.ifCond .lt 20, 3) := by decide +kernel
theorem dX8_darken_4 : decode cX8_darken 4 = .ok (.iload_n 1, 1) := by decide +kernel
theorem dX8_darken_5 : decode cX8_darken 5 = .ok (.ldc 241, 2) := by decide +kernel
theorem dX8_darken_7 : decode cX8_darken 7 = .ok (.if_icmp .gt 14, 3) := by decide +kernel
theorem dX8_darken_10 : decode cX8_darken 10 = .ok (.iload_n 2, 1) := by decide +kernel
theorem dX8_darken_11 : decode cX8_darken 11 = .ok (.iconst 1, 1) := by decide +kernel
theorem dX8_darken_12 : decode cX8_darken 12 = .ok (.if_icmp .lt 9, 3) := by decide +kernel
theorem dX8_darken_15 : decode cX8_darken 15 = .ok (.iload_n 2, 1) := by decide +kernel
theorem dX8_darken_16 : decode cX8_darken 16 = .ok (.bipush 99, 2) := by decide +kernel
theorem dX8_darken_18 : decode cX8_darken 18 = .ok (.if_icmp .le 6, 3) := by decide +kernel
theorem dX8_darken_21 : decode cX8_darken 21 = .ok (.ldc 93, 2) := by decide +kernel
theorem dX8_darken_23 : decode cX8_darken 23 = .ok (.ireturn, 1) := by decide +kernel
theorem dX8_darken_24 : decode cX8_darken 24 = .ok (.iconst 0, 1) := by decide +kernel
theorem dX8_darken_25 : decode cX8_darken 25 = .ok (.istore_n 3, 1) := by decide +kernel
theorem dX8_darken_26 : decode cX8_darken 26 = .ok (.iload_n 3, 1) := by decide +kernel
theorem dX8_darken_27 : decode cX8_darken 27 = .ok (.aload_n 0, 1) := by decide +kernel
theorem dX8_darken_28 : decode cX8_darken 28 = .ok (.getfield 19, 3) := by decide +kernel
theorem dX8_darken_31 : decode cX8_darken 31 = .ok (.getfield 117, 3) := by decide +kernel
theorem dX8_darken_34 : decode cX8_darken 34 = .ok (.if_icmp .ge 23, 3) := by decide +kernel
theorem dX8_darken_37 : decode cX8_darken 37 = .ok (.aload_n 0, 1) := by decide +kernel
theorem dX8_darken_38 : decode cX8_darken 38 = .ok (.getfield 81, 3) := by decide +kernel
theorem dX8_darken_41 : decode cX8_darken 41 = .ok (.iload_n 3, 1) := by decide +kernel
theorem dX8_darken_42 : decode cX8_darken 42 = .ok (.aload_n 0, 1) := by decide +kernel
theorem dX8_darken_43 : decode cX8_darken 43 = .ok (.iload_n 3, 1) := by decide +kernel
theorem dX8_darken_44 : decode cX8_darken 44 = .ok (.iload_n 2, 1) := by decide +kernel
theorem dX8_darken_45 : decode cX8_darken 45 = .ok (.invokevirtual 242, 3) := by decide +kernel
theorem dX8_darken_48 : decode cX8_darken 48 = .ok (.invokestatic 213, 3) := by decide +kernel
theorem dX8_darken_51 : decode cX8_darken 51 = .ok (.iinc 3 1, 3) := by decide +kernel
theorem dX8_darken_54 : decode cX8_darken 54 = .ok (.goto (-28), 3) := by decide +kernel
theorem dX8_darken_57 : decode cX8_darken 57 = .ok (.iconst 0, 1) := by decide +kernel
theorem dX8_darken_58 : decode cX8_darken 58 = .ok (.istore_n 3, 1) := by decide +kernel
theorem dX8_darken_59 : decode cX8_darken 59 = .ok (.ldc 245, 2) := by decide +kernel
theorem dX8_darken_61 : decode cX8_darken 61 = .ok (.istore 4, 2) := by decide +kernel
theorem dX8_darken_63 : decode cX8_darken 63 = .ok (.iconst 0, 1) := by decide +kernel
theorem dX8_darken_64 : decode cX8_darken 64 = .ok (.istore 5, 2) := by decide +kernel
theorem dX8_darken_66 : decode cX8_darken 66 = .ok (.iload 5, 2) := by decide +kernel
theorem dX8_darken_68 : decode cX8_darken 68 = .ok (.iconst 1, 1) := by decide +kernel
theorem dX8_darken_69 : decode cX8_darken 69 = .ok (.aload_n 0, 1) := by decide +kernel
theorem dX8_darken_70 : decode cX8_darken 70 = .ok (.getfield 19, 3) := by decide +kernel
theorem dX8_darken_73 : decode cX8_darken 73 = .ok (.getfield 117, 3) := by decide +kernel
theorem dX8_darken_76 : decode cX8_darken 76 = .ok (.ishl, 1) := by decide +kernel
theorem dX8_darken_77 : decode cX8_darken 77 = .ok (.if_icmp .ge 54, 3) := by decide +kernel
theorem dX8_darken_80 : decode cX8_darken 80 = .ok (.aload_n 0, 1) := by decide +kernel
theorem dX8_darken_81 : decode cX8_darken 81 = .ok (.iload 5, 2) := by decide +kernel
theorem dX8_darken_83 : decode cX8_darken 83 = .ok (.aload_n 0, 1) := by decide +kernel
theorem dX8_darken_84 : decode cX8_darken 84 = .ok (.getfield 19, 3) := by decide +kernel
theorem dX8_darken_87 : decode cX8_darken 87 = .ok (.getfield 187, 3) := by decide +kernel
theorem dX8_darken_90 : decode cX8_darken 90 = .ok (.invokevirtual 246, 3) := by decide +kernel
theorem dX8_darken_93 : decode cX8_darken 93 = .ok (.istore 6, 2) := by decide +kernel
theorem dX8_darken_95 : decode cX8_darken 95 = .ok (.iload 6, 2) := by decide +kernel
theorem dX8_darken_97 : decode cX8_darken 97 = .ok (.iload 4, 2) := by decide +kernel
theorem dX8_darken_99 : decode cX8_darken 99 = .ok (.if_icmp .ge 26, 3) := by decide +kernel
theorem dX8_darken_102 : decode cX8_darken 102 = .ok (.aload_n 0, 1) := by decide +kernel
theorem dX8_darken_103 : decode cX8_darken 103 = .ok (.iload 5, 2) := by decide +kernel
theorem dX8_darken_105 : decode cX8_darken 105 = .ok (.iconst (-1), 1) := by decide +kernel
theorem dX8_darken_106 : decode cX8_darken 106 = .ok (.ixor, 1) := by decide +kernel
theorem dX8_darken_107 : decode cX8_darken 107 = .ok (.aload_n 0, 1) := by decide +kernel
theorem dX8_darken_108 : decode cX8_darken 108 = .ok (.getfield 81, 3) := by decide +kernel
theorem dX8_darken_111 : decode cX8_darken 111 = .ok (.invokevirtual 246, 3) := by decide +kernel
theorem dX8_darken_114 : decode cX8_darken 114 = .ok (.iload_n 1, 1) := by decide +kernel
theorem dX8_darken_115 : decode cX8_darken 115 = .ok (.if_icmp .gt 10, 3) := by decide +kernel
theorem dX8_darken_118 : decode cX8_darken 118 = .ok (.iload 6, 2) := by decide +kernel
theorem dX8_darken_120 : decode cX8_darken 120 = .ok (.istore 4, 2) := by decide +kernel
theorem dX8_darken_122 : decode cX8_darken 122 = .ok (.iload 5, 2) := by decide +kernel
theorem dX8_darken_124 : decode cX8_darken 124 = .ok (.istore_n 3, 1) := by decide +kernel
theorem dX8_darken_125 : decode cX8_darken 125 = .ok (.iinc 5 1, 3) := by decide +kernel
theorem dX8_darken_128 : decode cX8_darken 128 = .ok (.goto (-62), 3) := by decide +kernel
theorem dX8_darken_131 : decode cX8_darken 131 = .ok (.iload_n 3, 1) := by decide +kernel
theorem dX8_darken_132 : decode cX8_darken 132 = .ok (.ireturn, 1) := by decide +kernel
theorem dX8_lasts_0 : decode cX8_lasts 0 = .ok (.aload_n 0, 1) := by decide +kernel
theorem dX8_lasts_1 : decode cX8_lasts 1 = .ok (.iload_n 1, 1) := by decide +kernel
theorem dX8_lasts_2 : decode cX8_lasts 2 = .ok (.invokevirtual 166, 3) := by decide +kernel
theorem dX8_lasts_5 : decode cX8_lasts 5 = .ok (.ifCond .eq 8, 3) := by decide +kernel
theorem dX8_lasts_8 : decode cX8_lasts 8 = .ok (.ldc 170, 2) := by decide +kernel
theorem dX8_lasts_10 : decode cX8_lasts 10 = .ok (.goto 9, 3) := by decide +kernel
theorem dX8_lasts_13 : decode cX8_lasts 13 = .ok (.aload_n 0, 1) := by decide +kernel
theorem dX8_lasts_14 : decode cX8_lasts 14 = .ok (.iload_n 1, 1) := by decide +kernel
theorem dX8_lasts_15 : decode cX8_lasts 15 = .ok (.iconst 0, 1) := by decide +kernel
theorem dX8_lasts_16 : decode cX8_lasts 16 = .ok (.invokevirtual 250, 3) := by decide +kernel
theorem dX8_lasts_19 : decode cX8_lasts 19 = .ok (.ireturn, 1) := by decide +kernel
theorem dX8_late_0 : decode cX8_late 0 = .ok (.aload_n 0, 1) := by decide +kernel
theorem dX8_late_1 : decode cX8_late 1 = .ok (.iload_n 1, 1) := by decide +kernel
theorem dX8_late_2 : decode cX8_late 2 = .ok (.invokevirtual 166, 3) := by decide +kernel
theorem dX8_late_5 : decode cX8_late 5 = .ok (.ifCond .eq 8, 3) := by decide +kernel
theorem dX8_late_8 : decode cX8_late 8 = .ok (.ldc 170, 2) := by decide +kernel
theorem dX8_late_10 : decode cX8_late 10 = .ok (.goto 9, 3) := by decide +kernel
theorem dX8_late_13 : decode cX8_late 13 = .ok (.aload_n 0, 1) := by decide +kernel
theorem dX8_late_14 : decode cX8_late 14 = .ok (.iload_n 1, 1) := by decide +kernel
theorem dX8_late_15 : decode cX8_late 15 = .ok (.iconst 0, 1) := by decide +kernel
theorem dX8_late_16 : decode cX8_late 16 = .ok (.invokevirtual 253, 3) := by decide +kernel
theorem dX8_late_19 : decode cX8_late 19 = .ok (.ireturn, 1) := by decide +kernel
theorem dX8_store_0 : decode cX8_store 0 = .ok (.aload_n 0, 1) := by decide +kernel
theorem dX8_store_1 : decode cX8_store 1 = .ok (.iload_n 1, 1) := by decide +kernel
theorem dX8_store_2 : decode cX8_store 2 = .ok (.invokevirtual 166, 3) := by decide +kernel
theorem dX8_store_5 : decode cX8_store 5 = .ok (.ifCond .eq 6, 3) := by decide +kernel
theorem dX8_store_8 : decode cX8_store 8 = .ok (.ldc 170, 2) := by decide +kernel
theorem dX8_store_10 : decode cX8_store 10 = .ok (.ireturn, 1) := by decide +kernel
theorem dX8_store_11 : decode cX8_store 11 = .ok (.iload_n 2, 1) := by decide +kernel
theorem dX8_store_12 : decode cX8_store 12 = .ok (.ifCond .lt 10, 3) := by decide +kernel
theorem dX8_store_15 : decode cX8_store 15 = .ok (.iload_n 2, 1) := by decide +kernel
theorem dX8_store_16 : decode cX8_store 16 = .ok (.sipush 999, 3) := by decide +kernel
theorem dX8_store_19 : decode cX8_store 19 = .ok (.if_icmp .le 6, 3) := by decide +kernel
theorem dX8_store_22 : decode cX8_store 22 = .ok (.ldc 93, 2) := by decide +kernel
theorem dX8_store_24 : decode cX8_store 24 = .ok (.ireturn, 1) := by decide +kernel
theorem dX8_store_25 : decode cX8_store 25 = .ok (.aload_n 0, 1) := by decide +kernel
theorem dX8_store_26 : decode cX8_store 26 = .ok (.iload_n 1, 1) := by decide +kernel
theorem dX8_store_27 : decode cX8_store 27 = .ok (.iconst 0, 1) := by decide +kernel
theorem dX8_store_28 : decode cX8_store 28 = .ok (.invokevirtual 253, 3) := by decide +kernel
theorem dX8_store_31 : decode cX8_store 31 = .ok (.aload_n 0, 1) := by decide +kernel
theorem dX8_store_32 : decode cX8_store 32 = .ok (.iload_n 1, 1) := by decide +kernel
theorem dX8_store_33 : decode cX8_store 33 = .ok (.iload_n 2, 1) := by decide +kernel
theorem dX8_store_34 : decode cX8_store 34 = .ok (.invokevirtual 253, 3) := by decide +kernel
theorem dX8_store_37 : decode cX8_store 37 = .ok (.isub, 1) := by decide +kernel
theorem dX8_store_38 : decode cX8_store 38 = .ok (.ireturn, 1) := by decide +kernel
theorem dX8_comes_0 : decode cX8_comes 0 = .ok (.iload_n 1, 1) := by decide +kernel
theorem dX8_comes_1 : decode cX8_comes 1 = .ok (.invokestatic 206, 3) := by decide +kernel
theorem dX8_comes_4 : decode cX8_comes 4 = .ok (.ifCond .ne 10, 3) := by decide +kernel
theorem dX8_comes_7 : decode cX8_comes 7 = .ok (.iload_n 2, 1) := by decide +kernel
theorem dX8_comes_8 : decode cX8_comes 8 = .ok (.invokestatic 206, 3) := by decide +kernel
theorem dX8_comes_11 : decode cX8_comes 11 = .ok (.ifCond .eq 6, 3) := by decide +kernel
theorem dX8_comes_14 : decode cX8_comes 14 = .ok (.ldc 170, 2) := by decide +kernel
theorem dX8_comes_16 : decode cX8_comes 16 = .ok (.ireturn, 1) := by decide +kernel
theorem dX8_comes_17 : decode cX8_comes 17 = .ok (.iload_n 3, 1) := by decide +kernel
theorem dX8_comes_18 : decode cX8_comes 18 = .ok (.ifCond .lt 9, 3) := by decide +kernel
theorem dX8_comes_21 : decode cX8_comes 21 = .ok (.iload_n 3, 1) := by decide +kernel
theorem dX8_comes_22 : decode cX8_comes 22 = .ok (.bipush 60, 2) := by decide +kernel
theorem dX8_comes_24 : decode cX8_comes 24 = .ok (.if_icmp .le 6, 3) := by decide +kernel
theorem dX8_comes_27 : decode cX8_comes 27 = .ok (.ldc 93, 2) := by decide +kernel
theorem dX8_comes_29 : decode cX8_comes 29 = .ok (.ireturn, 1) := by decide +kernel
theorem dX8_comes_30 : decode cX8_comes 30 = .ok (.aload_n 0, 1) := by decide +kernel
theorem dX8_comes_31 : decode cX8_comes 31 = .ok (.getfield 63, 3) := by decide +kernel
theorem dX8_comes_34 : decode cX8_comes 34 = .ok (.iload_n 1, 1) := by decide +kernel
theorem dX8_comes_35 : decode cX8_comes 35 = .ok (.iconst 1, 1) := by decide +kernel
theorem dX8_comes_36 : decode cX8_comes 36 = .ok (.invokevirtual 256, 3) := by decide +kernel
theorem dX8_comes_39 : decode cX8_comes 39 = .ok (.iconst 0, 1) := by decide +kernel
theorem dX8_comes_40 : decode cX8_comes 40 = .ok (.istore 4, 2) := by decide +kernel
theorem dX8_comes_42 : decode cX8_comes 42 = .ok (.iload 4, 2) := by decide +kernel
theorem dX8_comes_44 : decode cX8_comes 44 = .ok (.iload_n 3, 1) := by decide +kernel
theorem dX8_comes_45 : decode cX8_comes 45 = .ok (.if_icmp .ge 22, 3) := by decide +kernel
theorem dX8_comes_48 : decode cX8_comes 48 = .ok (.aload_n 0, 1) := by decide +kernel
theorem dX8_comes_49 : decode cX8_comes 49 = .ok (.getfield 63, 3) := by decide +kernel
theorem dX8_comes_52 : decode cX8_comes 52 = .ok (.aload_n 0, 1) := by decide +kernel
theorem dX8_comes_53 : decode cX8_comes 53 = .ok (.getfield 19, 3) := by decide +kernel
theorem dX8_comes_56 : decode cX8_comes 56 = .ok (.iconst 0, 1) := by decide +kernel
theorem dX8_comes_57 : decode cX8_comes 57 = .ok (.iconst 0, 1) := by decide +kernel
theorem dX8_comes_58 : decode cX8_comes 58 = .ok (.invokevirtual 260, 3) := by decide +kernel
theorem dX8_comes_61 : decode cX8_comes 61 = .ok (.iinc 4 1, 3) := by decide +kernel
theorem dX8_comes_64 : decode cX8_comes 64 = .ok (.goto (-22), 3) := by decide +kernel
theorem dX8_comes_67 : decode cX8_comes 67 = .ok (.aload_n 0, 1) := by decide +kernel
theorem dX8_comes_68 : decode cX8_comes 68 = .ok (.getfield 63, 3) := by decide +kernel
theorem dX8_comes_71 : decode cX8_comes 71 = .ok (.iload_n 2, 1) := by decide +kernel
theorem dX8_comes_72 : decode cX8_comes 72 = .ok (.invokevirtual 264, 3) := by decide +kernel
theorem dX8_comes_75 : decode cX8_comes 75 = .ok (.ldc2_w 268, 3) := by decide +kernel
theorem dX8_comes_78 : decode cX8_comes 78 = .ok (.ldiv, 1) := by decide +kernel
theorem dX8_comes_79 : decode cX8_comes 79 = .ok (.l2i, 1) := by decide +kernel
theorem dX8_comes_80 : decode cX8_comes 80 = .ok (.ireturn, 1) := by decide +kernel
theorem dX8_say_0 : decode cX8_say 0 = .ok (.iload_n 1, 1) := by decide +kernel
theorem dX8_say_1 : decode cX8_say 1 = .ok (.ifCond .lt 15, 3) := by decide +kernel
theorem dX8_say_4 : decode cX8_say 4 = .ok (.iload_n 1, 1) := by decide +kernel
theorem dX8_say_5 : decode cX8_say 5 = .ok (.aload_n 0, 1) := by decide +kernel
theorem dX8_say_6 : decode cX8_say 6 = .ok (.getfield 19, 3) := by decide +kernel
theorem dX8_say_9 : decode cX8_say 9 = .ok (.getfield 117, 3) := by decide +kernel
theorem dX8_say_12 : decode cX8_say 12 = .ok (.ishr, 1) := by decide +kernel
theorem dX8_say_13 : decode cX8_say 13 = .ok (.ifCond .eq 6, 3) := by decide +kernel
theorem dX8_say_16 : decode cX8_say 16 = .ok (.ldc 170, 2) := by decide +kernel
theorem dX8_say_18 : decode cX8_say 18 = .ok (.ireturn, 1) := by decide +kernel
theorem dX8_say_19 : decode cX8_say 19 = .ok (.aload_n 0, 1) := by decide +kernel
theorem dX8_say_20 : decode cX8_say 20 = .ok (.getfield 70, 3) := by decide +kernel
theorem dX8_say_23 : decode cX8_say 23 = .ok (.getfield 146, 3) := by decide +kernel
theorem dX8_say_26 : decode cX8_say 26 = .ok (.bipush 12, 2) := by decide +kernel
theorem dX8_say_28 : decode cX8_say 28 = .ok (.if_icmp .lt 6, 3) := by decide +kernel
theorem dX8_say_31 : decode cX8_say 31 = .ok (.ldc 97, 2) := by decide +kernel
theorem dX8_say_33 : decode cX8_say 33 = .ok (.ireturn, 1) := by decide +kernel
theorem dX8_say_34 : decode cX8_say 34 = .ok (.aload_n 0, 1) := by decide +kernel
theorem dX8_say_35 : decode cX8_say 35 = .ok (.getfield 70, 3) := by decide +kernel
theorem dX8_say_38 : decode cX8_say 38 = .ok (.iload_n 1, 1) := by decide +kernel
theorem dX8_say_39 : decode cX8_say 39 = .ok (.iload_n 2, 1) := by decide +kernel
theorem dX8_say_40 : decode cX8_say 40 = .ok (.invokevirtual 270, 3) := by decide +kernel
theorem dX8_say_43 : decode cX8_say 43 = .ok (.aload_n 0, 1) := by decide +kernel
theorem dX8_say_44 : decode cX8_say 44 = .ok (.getfield 70, 3) := by decide +kernel
theorem dX8_say_47 : decode cX8_say 47 = .ok (.getfield 146, 3) := by decide +kernel
theorem dX8_say_50 : decode cX8_say 50 = .ok (.ireturn, 1) := by decide +kernel
theorem dX8_forget_0 : decode cX8_forget 0 = .ok (.aload_n 0, 1) := by decide +kernel
theorem dX8_forget_1 : decode cX8_forget 1 = .ok (.getfield 70, 3) := by decide +kernel
theorem dX8_forget_4 : decode cX8_forget 4 = .ok (.getfield 146, 3) := by decide +kernel
theorem dX8_forget_7 : decode cX8_forget 7 = .ok (.istore_n 1, 1) := by decide +kernel
theorem dX8_forget_8 : decode cX8_forget 8 = .ok (.aload_n 0, 1) := by decide +kernel
theorem dX8_forget_9 : decode cX8_forget 9 = .ok (.getfield 70, 3) := by decide +kernel
theorem dX8_forget_12 : decode cX8_forget 12 = .ok (.invokevirtual 112, 3) := by decide +kernel
theorem dX8_forget_15 : decode cX8_forget 15 = .ok (.iload_n 1, 1) := by decide +kernel
theorem dX8_forget_16 : decode cX8_forget 16 = .ok (.ireturn, 1) := by decide +kernel
theorem dX8_out_0 : decode cX8_out 0 = .ok (.iload_n 1, 1) := by decide +kernel
theorem dX8_out_1 : decode cX8_out 1 = .ok (.ifCond .lt 28, 3) := by decide +kernel
theorem dX8_out_4 : decode cX8_out 4 = .ok (.iload_n 1, 1) := by decide +kernel
theorem dX8_out_5 : decode cX8_out 5 = .ok (.bipush 9, 2) := by decide +kernel
theorem dX8_out_7 : decode cX8_out 7 = .ok (.if_icmp .gt 22, 3) := by decide +kernel
theorem dX8_out_10 : decode cX8_out 10 = .ok (.iload_n 2, 1) := by decide +kernel
theorem dX8_out_11 : decode cX8_out 11 = .ok (.ifCond .lt 18, 3) := by decide +kernel
theorem dX8_out_14 : decode cX8_out 14 = .ok (.iload_n 2, 1) := by decide +kernel
theorem dX8_out_15 : decode cX8_out 15 = .ok (.bipush 12, 2) := by decide +kernel
theorem dX8_out_17 : decode cX8_out 17 = .ok (.if_icmp .gt 12, 3) := by decide +kernel
theorem dX8_out_20 : decode cX8_out 20 = .ok (.iload_n 3, 1) := by decide +kernel
theorem dX8_out_21 : decode cX8_out 21 = .ok (.ifCond .lt 8, 3) := by decide +kernel
theorem dX8_out_24 : decode cX8_out 24 = .ok (.iload_n 3, 1) := by decide +kernel
theorem dX8_out_25 : decode cX8_out 25 = .ok (.iconst 2, 1) := by decide +kernel
theorem dX8_out_26 : decode cX8_out 26 = .ok (.if_icmp .le 6, 3) := by decide +kernel
theorem dX8_out_29 : decode cX8_out 29 = .ok (.ldc 93, 2) := by decide +kernel
theorem dX8_out_31 : decode cX8_out 31 = .ok (.ireturn, 1) := by decide +kernel
theorem dX8_out_32 : decode cX8_out 32 = .ok (.iconst 0, 1) := by decide +kernel
theorem dX8_out_33 : decode cX8_out 33 = .ok (.istore 4, 2) := by decide +kernel
theorem dX8_out_35 : decode cX8_out 35 = .ok (.iconst 1, 1) := by decide +kernel
theorem dX8_out_36 : decode cX8_out 36 = .ok (.aload_n 0, 1) := by decide +kernel
theorem dX8_out_37 : decode cX8_out 37 = .ok (.getfield 19, 3) := by decide +kernel
theorem dX8_out_40 : decode cX8_out 40 = .ok (.getfield 117, 3) := by decide +kernel
theorem dX8_out_43 : decode cX8_out 43 = .ok (.ishl, 1) := by decide +kernel
theorem dX8_out_44 : decode cX8_out 44 = .ok (.iconst 1, 1) := by decide +kernel
theorem dX8_out_45 : decode cX8_out 45 = .ok (.isub, 1) := by decide +kernel
theorem dX8_out_46 : decode cX8_out 46 = .ok (.istore 5, 2) := by decide +kernel
theorem dX8_out_48 : decode cX8_out 48 = .ok (.iconst 0, 1) := by decide +kernel
theorem dX8_out_49 : decode cX8_out 49 = .ok (.istore 6, 2) := by decide +kernel
theorem dX8_out_51 : decode cX8_out 51 = .ok (.iconst 0, 1) := by decide +kernel
theorem dX8_out_52 : decode cX8_out 52 = .ok (.istore 7, 2) := by decide +kernel
theorem dX8_out_54 : decode cX8_out 54 = .ok (.iload 7, 2) := by decide +kernel
theorem dX8_out_56 : decode cX8_out 56 = .ok (.iconst 1, 1) := by decide +kernel
theorem dX8_out_57 : decode cX8_out 57 = .ok (.aload_n 0, 1) := by decide +kernel
theorem dX8_out_58 : decode cX8_out 58 = .ok (.getfield 19, 3) := by decide +kernel
theorem dX8_out_61 : decode cX8_out 61 = .ok (.getfield 117, 3) := by decide +kernel
theorem dX8_out_64 : decode cX8_out 64 = .ok (.ishl, 1) := by decide +kernel
theorem dX8_out_65 : decode cX8_out 65 = .ok (.if_icmp .ge 48, 3) := by decide +kernel
theorem dX8_out_68 : decode cX8_out 68 = .ok (.iload 7, 2) := by decide +kernel
