theorem dX8_init_0 : decode cX8_init 0 = .ok (.aload_n 0, 1) := by decide +kernel
theorem dX8_init_1 : decode cX8_init 1 = .ok (.invokespecial 3, 3) := by decide +kernel
theorem dX8_init_4 : decode cX8_init 4 = .ok (.aload_n 0, 1) := by decide +kernel
theorem dX8_init_5 : decode cX8_init 5 = .ok (.new 9, 3) := by decide +kernel
theorem dX8_init_8 : decode cX8_init 8 = .ok (.dup, 1) := by decide +kernel
theorem dX8_init_9 : decode cX8_init 9 = .ok (.invokespecial 11, 3) := by decide +kernel
theorem dX8_init_12 : decode cX8_init 12 = .ok (.putfield 12, 3) := by decide +kernel
theorem dX8_init_15 : decode cX8_init 15 = .ok (.aload_n 0, 1) := by decide +kernel
theorem dX8_init_16 : decode cX8_init 16 = .ok (.new 9, 3) := by decide +kernel
theorem dX8_init_19 : decode cX8_init 19 = .ok (.dup, 1) := by decide +kernel
theorem dX8_init_20 : decode cX8_init 20 = .ok (.invokespecial 11, 3) := by decide +kernel
theorem dX8_init_23 : decode cX8_init 23 = .ok (.putfield 16, 3) := by decide +kernel
theorem dX8_init_26 : decode cX8_init 26 = .ok (.aload_n 0, 1) := by decide +kernel
theorem dX8_init_27 : decode cX8_init 27 = .ok (.iconst 0, 1) := by decide +kernel
theorem dX8_init_28 : decode cX8_init 28 = .ok (.putfield 19, 3) := by decide +kernel
theorem dX8_init_31 : decode cX8_init 31 = .ok (.aload_n 0, 1) := by decide +kernel
theorem dX8_init_32 : decode cX8_init 32 = .ok (.new 23, 3) := by decide +kernel
theorem dX8_init_35 : decode cX8_init 35 = .ok (.dup, 1) := by decide +kernel
theorem dX8_init_36 : decode cX8_init 36 = .ok (.invokespecial 25, 3) := by decide +kernel
theorem dX8_init_39 : decode cX8_init 39 = .ok (.putfield 26, 3) := by decide +kernel
theorem dX8_init_42 : decode cX8_init 42 = .ok (.aload_n 0, 1) := by decide +kernel
theorem dX8_init_43 : decode cX8_init 43 = .ok (.new 30, 3) := by decide +kernel
theorem dX8_init_46 : decode cX8_init 46 = .ok (.dup, 1) := by decide +kernel
theorem dX8_init_47 : decode cX8_init 47 = .ok (.invokespecial 32, 3) := by decide +kernel
theorem dX8_init_50 : decode cX8_init 50 = .ok (.putfield 33, 3) := by decide +kernel
theorem dX8_init_53 : decode cX8_init 53 = .ok (.aload_n 0, 1) := by decide +kernel
theorem dX8_init_54 : decode cX8_init 54 = .ok (.new 37, 3) := by decide +kernel
theorem dX8_init_57 : decode cX8_init 57 = .ok (.dup, 1) := by decide +kernel
theorem dX8_init_58 : decode cX8_init 58 = .ok (.invokespecial 39, 3) := by decide +kernel
theorem dX8_init_61 : decode cX8_init 61 = .ok (.putfield 40, 3) := by decide +kernel
theorem dX8_init_64 : decode cX8_init 64 = .ok (.aload_n 0, 1) := by decide +kernel
theorem dX8_init_65 : decode cX8_init 65 = .ok (.new 44, 3) := by decide +kernel
theorem dX8_init_68 : decode cX8_init 68 = .ok (.dup, 1) := by decide +kernel
theorem dX8_init_69 : decode cX8_init 69 = .ok (.invokespecial 46, 3) := by decide +kernel
theorem dX8_init_72 : decode cX8_init 72 = .ok (.putfield 47, 3) := by decide +kernel
theorem dX8_init_75 : decode cX8_init 75 = .ok (.aload_n 0, 1) := by decide +kernel
theorem dX8_init_76 : decode cX8_init 76 = .ok (.bipush 6, 2) := by decide +kernel
theorem dX8_init_78 : decode cX8_init 78 = .ok (.newarray .int, 2) := by decide +kernel
theorem dX8_init_80 : decode cX8_init 80 = .ok (.putfield 51, 3) := by decide +kernel
theorem dX8_init_83 : decode cX8_init 83 = .ok (.aload_n 0, 1) := by decide +kernel
theorem dX8_init_84 : decode cX8_init 84 = .ok (.bipush 6, 2) := by decide +kernel
theorem dX8_init_86 : decode cX8_init 86 = .ok (.iconst 3, 1) := by decide +kernel
theorem dX8_init_87 : decode cX8_init 87 = .ok (.multianewarray 55 2, 4) := by decide +kernel
theorem dX8_init_91 : decode cX8_init 91 = .ok (.putfield 57, 3) := by decide +kernel
theorem dX8_init_94 : decode cX8_init 94 = .ok (.aload_n 0, 1) := by decide +kernel
theorem dX8_init_95 : decode cX8_init 95 = .ok (.iconst 0, 1) := by decide +kernel
theorem dX8_init_96 : decode cX8_init 96 = .ok (.putfield 60, 3) := by decide +kernel
theorem dX8_init_99 : decode cX8_init 99 = .ok (.aload_n 0, 1) := by decide +kernel
theorem dX8_init_100 : decode cX8_init 100 = .ok (.iconst 4, 1) := by decide +kernel
theorem dX8_init_101 : decode cX8_init 101 = .ok (.anewarray 64, 3) := by decide +kernel
theorem dX8_init_104 : decode cX8_init 104 = .ok (.putfield 66, 3) := by decide +kernel
theorem dX8_init_107 : decode cX8_init 107 = .ok (.aload_n 0, 1) := by decide +kernel
theorem dX8_init_108 : decode cX8_init 108 = .ok (.iconst 4, 1) := by decide +kernel
theorem dX8_init_109 : decode cX8_init 109 = .ok (.newarray .int, 2) := by decide +kernel
theorem dX8_init_111 : decode cX8_init 111 = .ok (.putfield 70, 3) := by decide +kernel
theorem dX8_init_114 : decode cX8_init 114 = .ok (.aload_n 0, 1) := by decide +kernel
theorem dX8_init_115 : decode cX8_init 115 = .ok (.iconst 4, 1) := by decide +kernel
theorem dX8_init_116 : decode cX8_init 116 = .ok (.newarray .int, 2) := by decide +kernel
theorem dX8_init_118 : decode cX8_init 118 = .ok (.putfield 73, 3) := by decide +kernel
theorem dX8_init_121 : decode cX8_init 121 = .ok (.aload_n 0, 1) := by decide +kernel
theorem dX8_init_122 : decode cX8_init 122 = .ok (.new 76, 3) := by decide +kernel
theorem dX8_init_125 : decode cX8_init 125 = .ok (.dup, 1) := by decide +kernel
theorem dX8_init_126 : decode cX8_init 126 = .ok (.invokespecial 78, 3) := by decide +kernel
theorem dX8_init_129 : decode cX8_init 129 = .ok (.putfield 79, 3) := by decide +kernel
theorem dX8_init_132 : decode cX8_init 132 = .ok (.iconst 0, 1) := by decide +kernel
theorem dX8_init_133 : decode cX8_init 133 = .ok (.istore_n 1, 1) := by decide +kernel
theorem dX8_init_134 : decode cX8_init 134 = .ok (.iload_n 1, 1) := by decide +kernel
theorem dX8_init_135 : decode cX8_init 135 = .ok (.iconst 4, 1) := by decide +kernel
theorem dX8_init_136 : decode cX8_init 136 = .ok (.if_icmp .ge 22, 3) := by decide +kernel
theorem dX8_init_139 : decode cX8_init 139 = .ok (.aload_n 0, 1) := by decide +kernel
theorem dX8_init_140 : decode cX8_init 140 = .ok (.getfield 66, 3) := by decide +kernel
theorem dX8_init_143 : decode cX8_init 143 = .ok (.iload_n 1, 1) := by decide +kernel
theorem dX8_init_144 : decode cX8_init 144 = .ok (.new 64, 3) := by decide +kernel
theorem dX8_init_147 : decode cX8_init 147 = .ok (.dup, 1) := by decide +kernel
theorem dX8_init_148 : decode cX8_init 148 = .ok (.invokespecial 83, 3) := by decide +kernel
theorem dX8_init_151 : decode cX8_init 151 = .ok (.aastore, 1) := by decide +kernel
theorem dX8_init_152 : decode cX8_init 152 = .ok (.iinc 1 1, 3) := by decide +kernel
theorem dX8_init_155 : decode cX8_init 155 = .ok (.goto (-21), 3) := by decide +kernel
theorem dX8_init_158 : decode cX8_init 158 = .ok (.aload_n 0, 1) := by decide +kernel
theorem dX8_init_159 : decode cX8_init 159 = .ok (.getfield 70, 3) := by decide +kernel
theorem dX8_init_162 : decode cX8_init 162 = .ok (.iconst (-1), 1) := by decide +kernel
theorem dX8_init_163 : decode cX8_init 163 = .ok (.invokestatic 84, 3) := by decide +kernel
theorem dX8_init_166 : decode cX8_init 166 = .ok (.return_, 1) := by decide +kernel
theorem dX8_village_0 : decode cX8_village 0 = .ok (.iconst 0, 1) := by decide +kernel
theorem dX8_village_1 : decode cX8_village 1 = .ok (.iload_n 1, 1) := by decide +kernel
theorem dX8_village_2 : decode cX8_village 2 = .ok (.invokestatic 90, 3) := by decide +kernel
theorem dX8_village_5 : decode cX8_village 5 = .ok (.ifCond .ne 5, 3) := by decide +kernel
theorem dX8_village_8 : decode cX8_village 8 = .ok (.iconst (-1), 1) := by decide +kernel
theorem dX8_village_9 : decode cX8_village 9 = .ok (.ireturn, 1) := by decide +kernel
theorem dX8_village_10 : decode cX8_village 10 = .ok (.aload_n 0, 1) := by decide +kernel
theorem dX8_village_11 : decode cX8_village 11 = .ok (.getfield 12, 3) := by decide +kernel
theorem dX8_village_14 : decode cX8_village 14 = .ok (.getfield 94, 3) := by decide +kernel
theorem dX8_village_17 : decode cX8_village 17 = .ok (.bipush 6, 2) := by decide +kernel
theorem dX8_village_19 : decode cX8_village 19 = .ok (.if_icmp .ne 6, 3) := by decide +kernel
theorem dX8_village_22 : decode cX8_village 22 = .ok (.bipush (-2), 2) := by decide +kernel
theorem dX8_village_24 : decode cX8_village 24 = .ok (.ireturn, 1) := by decide +kernel
theorem dX8_village_25 : decode cX8_village 25 = .ok (.aload_n 0, 1) := by decide +kernel
theorem dX8_village_26 : decode cX8_village 26 = .ok (.getfield 12, 3) := by decide +kernel
theorem dX8_village_29 : decode cX8_village 29 = .ok (.iload_n 1, 1) := by decide +kernel
theorem dX8_village_30 : decode cX8_village 30 = .ok (.invokevirtual 97, 3) := by decide +kernel
theorem dX8_village_33 : decode cX8_village 33 = .ok (.ireturn, 1) := by decide +kernel
theorem dX8_villageOf_0 : decode cX8_villageOf 0 = .ok (.aload_n 0, 1) := by decide +kernel
theorem dX8_villageOf_1 : decode cX8_villageOf 1 = .ok (.iload_n 1, 1) := by decide +kernel
theorem dX8_villageOf_2 : decode cX8_villageOf 2 = .ok (.invokevirtual 101, 3) := by decide +kernel
theorem dX8_villageOf_5 : decode cX8_villageOf 5 = .ok (.ifCond .eq 26, 3) := by decide +kernel
theorem dX8_villageOf_8 : decode cX8_villageOf 8 = .ok (.iload_n 2, 1) := by decide +kernel
theorem dX8_villageOf_9 : decode cX8_villageOf 9 = .ok (.iconst 0, 1) := by decide +kernel
theorem dX8_villageOf_10 : decode cX8_villageOf 10 = .ok (.iconst 5, 1) := by decide +kernel
theorem dX8_villageOf_11 : decode cX8_villageOf 11 = .ok (.invokestatic 105, 3) := by decide +kernel
theorem dX8_villageOf_14 : decode cX8_villageOf 14 = .ok (.ifCond .eq 17, 3) := by decide +kernel
theorem dX8_villageOf_17 : decode cX8_villageOf 17 = .ok (.aload_n 0, 1) := by decide +kernel
theorem dX8_villageOf_18 : decode cX8_villageOf 18 = .ok (.getfield 12, 3) := by decide +kernel
theorem dX8_villageOf_21 : decode cX8_villageOf 21 = .ok (.getfield 109, 3) := by decide +kernel
theorem dX8_villageOf_24 : decode cX8_villageOf 24 = .ok (.iload_n 1, 1) := by decide +kernel
theorem dX8_villageOf_25 : decode cX8_villageOf 25 = .ok (.aaload, 1) := by decide +kernel
theorem dX8_villageOf_26 : decode cX8_villageOf 26 = .ok (.iload_n 2, 1) := by decide +kernel
theorem dX8_villageOf_27 : decode cX8_villageOf 27 = .ok (.iaload, 1) := by decide +kernel
theorem dX8_villageOf_28 : decode cX8_villageOf 28 = .ok (.goto 4, 3) := by decide +kernel
theorem dX8_villageOf_31 : decode cX8_villageOf 31 = .ok (.iconst (-1), 1) := by decide +kernel
theorem dX8_villageOf_32 : decode cX8_villageOf 32 = .ok (.ireturn, 1) := by decide +kernel
theorem dX8_set_0 : decode cX8_set 0 = .ok (.aload_n 0, 1) := by decide +kernel
theorem dX8_set_1 : decode cX8_set 1 = .ok (.iload_n 1, 1) := by decide +kernel
theorem dX8_set_2 : decode cX8_set 2 = .ok (.invokevirtual 101, 3) := by decide +kernel
theorem dX8_set_5 : decode cX8_set 5 = .ok (.ifCond .eq 20, 3) := by decide +kernel
theorem dX8_set_8 : decode cX8_set 8 = .ok (.iload_n 2, 1) := by decide +kernel
theorem dX8_set_9 : decode cX8_set 9 = .ok (.iconst 0, 1) := by decide +kernel
theorem dX8_set_10 : decode cX8_set 10 = .ok (.iconst 5, 1) := by decide +kernel
theorem dX8_set_11 : decode cX8_set 11 = .ok (.invokestatic 105, 3) := by decide +kernel
theorem dX8_set_14 : decode cX8_set 14 = .ok (.ifCond .eq 11, 3) := by decide +kernel
theorem dX8_set_17 : decode cX8_set 17 = .ok (.iload_n 2, 1) := by decide +kernel
theorem dX8_set_18 : decode cX8_set 18 = .ok (.iload_n 3, 1) := by decide +kernel
theorem dX8_set_19 : decode cX8_set 19 = .ok (.invokestatic 90, 3) := by decide +kernel
theorem dX8_set_22 : decode cX8_set 22 = .ok (.ifCond .ne 5, 3) := by decide +kernel
theorem dX8_set_25 : decode cX8_set 25 = .ok (.iconst (-1), 1) := by decide +kernel
theorem dX8_set_26 : decode cX8_set 26 = .ok (.ireturn, 1) := by decide +kernel
theorem dX8_set_27 : decode cX8_set 27 = .ok (.aload_n 0, 1) := by decide +kernel
theorem dX8_set_28 : decode cX8_set 28 = .ok (.getfield 12, 3) := by decide +kernel
theorem dX8_set_31 : decode cX8_set 31 = .ok (.getfield 109, 3) := by decide +kernel
theorem dX8_set_34 : decode cX8_set 34 = .ok (.iload_n 1, 1) := by decide +kernel
theorem dX8_set_35 : decode cX8_set 35 = .ok (.aaload, 1) := by decide +kernel
theorem dX8_set_36 : decode cX8_set 36 = .ok (.iload_n 2, 1) := by decide +kernel
theorem dX8_set_37 : decode cX8_set 37 = .ok (.iaload, 1) := by decide +kernel
theorem dX8_set_38 : decode cX8_set 38 = .ok (.istore 4, 2) := by decide +kernel
theorem dX8_set_40 : decode cX8_set 40 = .ok (.aload_n 0, 1) := by decide +kernel
theorem dX8_set_41 : decode cX8_set 41 = .ok (.getfield 12, 3) := by decide +kernel
theorem dX8_set_44 : decode cX8_set 44 = .ok (.getfield 109, 3) := by decide +kernel
theorem dX8_set_47 : decode cX8_set 47 = .ok (.iload_n 1, 1) := by decide +kernel
theorem dX8_set_48 : decode cX8_set 48 = .ok (.aaload, 1) := by decide +kernel
theorem dX8_set_49 : decode cX8_set 49 = .ok (.iload_n 2, 1) := by decide +kernel
theorem dX8_set_50 : decode cX8_set 50 = .ok (.iload_n 3, 1) := by decide +kernel
theorem dX8_set_51 : decode cX8_set 51 = .ok (.iastore, 1) := by decide +kernel
theorem dX8_set_52 : decode cX8_set 52 = .ok (.iload 4, 2) := by decide +kernel
theorem dX8_set_54 : decode cX8_set 54 = .ok (.ireturn, 1) := by decide +kernel
theorem dX8_worths_0 : decode cX8_worths 0 = .ok (.aload_n 0, 1) := by decide +kernel
theorem dX8_worths_1 : decode cX8_worths 1 = .ok (.iload_n 1, 1) := by decide +kernel
theorem dX8_worths_2 : decode cX8_worths 2 = .ok (.invokevirtual 101, 3) := by decide +kernel
theorem dX8_worths_5 : decode cX8_worths 5 = .ok (.ifCond .eq 10, 3) := by decide +kernel
theorem dX8_worths_8 : decode cX8_worths 8 = .ok (.iload_n 2, 1) := by decide +kernel
theorem dX8_worths_9 : decode cX8_worths 9 = .ok (.invokestatic 112, 3) := by decide +kernel
theorem dX8_worths_12 : decode cX8_worths 12 = .ok (.ifCond .ne 5, 3) := by decide +kernel
theorem dX8_worths_15 : decode cX8_worths 15 = .ok (.iconst (-1), 1) := by decide +kernel
theorem dX8_worths_16 : decode cX8_worths 16 = .ok (.ireturn, 1) := by decide +kernel
theorem dX8_worths_17 : decode cX8_worths 17 = .ok (.aload_n 0, 1) := by decide +kernel
theorem dX8_worths_18 : decode cX8_worths 18 = .ok (.getfield 66, 3) := by decide +kernel
theorem dX8_worths_21 : decode cX8_worths 21 = .ok (.iload_n 2, 1) := by decide +kernel
theorem dX8_worths_22 : decode cX8_worths 22 = .ok (.aaload, 1) := by decide +kernel
theorem dX8_worths_23 : decode cX8_worths 23 = .ok (.iconst 0, 1) := by decide +kernel
theorem dX8_worths_24 : decode cX8_worths 24 = .ok (.invokevirtual 115, 3) := by decide +kernel
theorem dX8_worths_27 : decode cX8_worths 27 = .ok (.istore_n 3, 1) := by decide +kernel
theorem dX8_worths_28 : decode cX8_worths 28 = .ok (.iload_n 3, 1) := by decide +kernel
theorem dX8_worths_29 : decode cX8_worths 29 = .ok (.ifCond .eq 5, 3) := by decide +kernel
theorem dX8_worths_32 : decode cX8_worths 32 = .ok (.iload_n 3, 1) := by decide +kernel
theorem dX8_worths_33 : decode cX8_worths 33 = .ok (.ireturn, 1) := by decide +kernel
theorem dX8_worths_34 : decode cX8_worths 34 = .ok (.aload_n 0, 1) := by decide +kernel
theorem dX8_worths_35 : decode cX8_worths 35 = .ok (.getfield 66, 3) := by decide +kernel
theorem dX8_worths_38 : decode cX8_worths 38 = .ok (.iload_n 2, 1) := by decide +kernel
theorem dX8_worths_39 : decode cX8_worths 39 = .ok (.aaload, 1) := by decide +kernel
theorem dX8_worths_40 : decode cX8_worths 40 = .ok (.invokestatic 118, 3) := by decide +kernel
theorem dX8_worths_43 : decode cX8_worths 43 = .ok (.ifCond .ne 6, 3) := by decide +kernel
theorem dX8_worths_46 : decode cX8_worths 46 = .ok (.bipush (-4), 2) := by decide +kernel
theorem dX8_worths_48 : decode cX8_worths 48 = .ok (.ireturn, 1) := by decide +kernel
theorem dX8_worths_49 : decode cX8_worths 49 = .ok (.aload_n 0, 1) := by decide +kernel
theorem dX8_worths_50 : decode cX8_worths 50 = .ok (.getfield 12, 3) := by decide +kernel
theorem dX8_worths_53 : decode cX8_worths 53 = .ok (.iload_n 1, 1) := by decide +kernel
theorem dX8_worths_54 : decode cX8_worths 54 = .ok (.aload_n 0, 1) := by decide +kernel
theorem dX8_worths_55 : decode cX8_worths 55 = .ok (.getfield 66, 3) := by decide +kernel
theorem dX8_worths_58 : decode cX8_worths 58 = .ok (.iload_n 2, 1) := by decide +kernel
theorem dX8_worths_59 : decode cX8_worths 59 = .ok (.aaload, 1) := by decide +kernel
theorem dX8_worths_60 : decode cX8_worths 60 = .ok (.getfield 122, 3) := by decide +kernel
theorem dX8_worths_63 : decode cX8_worths 63 = .ok (.invokevirtual 125, 3) := by decide +kernel
theorem dX8_worths_66 : decode cX8_worths 66 = .ok (.iconst 1, 1) := by decide +kernel
theorem dX8_worths_67 : decode cX8_worths 67 = .ok (.ireturn, 1) := by decide +kernel
theorem dX8_worth_0 : decode cX8_worth 0 = .ok (.aload_n 0, 1) := by decide +kernel
theorem dX8_worth_1 : decode cX8_worth 1 = .ok (.iload_n 1, 1) := by decide +kernel
theorem dX8_worth_2 : decode cX8_worth 2 = .ok (.invokevirtual 101, 3) := by decide +kernel
theorem dX8_worth_5 : decode cX8_worth 5 = .ok (.ifCond .eq 27, 3) := by decide +kernel
theorem dX8_worth_8 : decode cX8_worth 8 = .ok (.iload_n 2, 1) := by decide +kernel
theorem dX8_worth_9 : decode cX8_worth 9 = .ok (.iconst 0, 1) := by decide +kernel
theorem dX8_worth_10 : decode cX8_worth 10 = .ok (.bipush 12, 2) := by decide +kernel
theorem dX8_worth_12 : decode cX8_worth 12 = .ok (.invokestatic 105, 3) := by decide +kernel
theorem dX8_worth_15 : decode cX8_worth 15 = .ok (.ifCond .eq 17, 3) := by decide +kernel
theorem dX8_worth_18 : decode cX8_worth 18 = .ok (.aload_n 0, 1) := by decide +kernel
theorem dX8_worth_19 : decode cX8_worth 19 = .ok (.getfield 12, 3) := by decide +kernel
theorem dX8_worth_22 : decode cX8_worth 22 = .ok (.getfield 129, 3) := by decide +kernel
theorem dX8_worth_25 : decode cX8_worth 25 = .ok (.iload_n 1, 1) := by decide +kernel
theorem dX8_worth_26 : decode cX8_worth 26 = .ok (.aaload, 1) := by decide +kernel
theorem dX8_worth_27 : decode cX8_worth 27 = .ok (.iload_n 2, 1) := by decide +kernel
theorem dX8_worth_28 : decode cX8_worth 28 = .ok (.iaload, 1) := by decide +kernel
theorem dX8_worth_29 : decode cX8_worth 29 = .ok (.goto 4, 3) := by decide +kernel
theorem dX8_worth_32 : decode cX8_worth 32 = .ok (.iconst (-1), 1) := by decide +kernel
theorem dX8_worth_33 : decode cX8_worth 33 = .ok (.ireturn, 1) := by decide +kernel
theorem dX8_best_0 : decode cX8_best 0 = .ok (.iload_n 1, 1) := by decide +kernel
theorem dX8_best_1 : decode cX8_best 1 = .ok (.invokestatic 132, 3) := by decide +kernel
theorem dX8_best_4 : decode cX8_best 4 = .ok (.ifCond .eq 11, 3) := by decide +kernel
theorem dX8_best_7 : decode cX8_best 7 = .ok (.aload_n 0, 1) := by decide +kernel
theorem dX8_best_8 : decode cX8_best 8 = .ok (.iload_n 1, 1) := by decide +kernel
theorem dX8_best_9 : decode cX8_best 9 = .ok (.invokevirtual 135, 3) := by decide +kernel
theorem dX8_best_12 : decode cX8_best 12 = .ok (.goto 5, 3) := by decide +kernel
theorem dX8_best_15 : decode cX8_best 15 = .ok (.ldc 138, 2) := by decide +kernel
theorem dX8_best_17 : decode cX8_best 17 = .ok (.ireturn, 1) := by decide +kernel
theorem dX8_use_0 : decode cX8_use 0 = .ok (.aload_n 0, 1) := by decide +kernel
theorem dX8_use_1 : decode cX8_use 1 = .ok (.iload_n 1, 1) := by decide +kernel
theorem dX8_use_2 : decode cX8_use 2 = .ok (.invokevirtual 101, 3) := by decide +kernel
theorem dX8_use_5 : decode cX8_use 5 = .ok (.ifCond .eq 12, 3) := by decide +kernel
theorem dX8_use_8 : decode cX8_use 8 = .ok (.iload_n 2, 1) := by decide +kernel
theorem dX8_use_9 : decode cX8_use 9 = .ok (.iconst 0, 1) := by decide +kernel
theorem dX8_use_10 : decode cX8_use 10 = .ok (.iconst 2, 1) := by decide +kernel
theorem dX8_use_11 : decode cX8_use 11 = .ok (.invokestatic 105, 3) := by decide +kernel
theorem dX8_use_14 : decode cX8_use 14 = .ok (.ifCond .ne 6, 3) := by decide +kernel
theorem dX8_use_17 : decode cX8_use 17 = .ok (.ldc 138, 2) := by decide +kernel
theorem dX8_use_19 : decode cX8_use 19 = .ok (.ireturn, 1) := by decide +kernel
theorem dX8_use_20 : decode cX8_use 20 = .ok (.aload_n 0, 1) := by decide +kernel
theorem dX8_use_21 : decode cX8_use 21 = .ok (.getfield 26, 3) := by decide +kernel
theorem dX8_use_24 : decode cX8_use 24 = .ok (.aload_n 0, 1) := by decide +kernel
theorem dX8_use_25 : decode cX8_use 25 = .ok (.getfield 12, 3) := by decide +kernel
theorem dX8_use_28 : decode cX8_use 28 = .ok (.bipush 10, 2) := by decide +kernel
theorem dX8_use_30 : decode cX8_use 30 = .ok (.invokevirtual 139, 3) := by decide +kernel
theorem dX8_use_33 : decode cX8_use 33 = .ok (.iload_n 2, 1) := by decide +kernel
theorem dX8_use_34 : decode cX8_use 34 = .ok (.ifCond .ne 13, 3) := by decide +kernel
theorem dX8_use_37 : decode cX8_use 37 = .ok (.aload_n 0, 1) := by decide +kernel
theorem dX8_use_38 : decode cX8_use 38 = .ok (.getfield 26, 3) := by decide +kernel
theorem dX8_use_41 : decode cX8_use 41 = .ok (.getfield 143, 3) := by decide +kernel
theorem dX8_use_44 : decode cX8_use 44 = .ok (.iload_n 1, 1) := by decide +kernel
theorem dX8_use_45 : decode cX8_use 45 = .ok (.iaload, 1) := by decide +kernel
theorem dX8_use_46 : decode cX8_use 46 = .ok (.ireturn, 1) := by decide +kernel
theorem dX8_use_47 : decode cX8_use 47 = .ok (.iload_n 2, 1) := by decide +kernel
theorem dX8_use_48 : decode cX8_use 48 = .ok (.iconst 1, 1) := by decide +kernel
theorem dX8_use_49 : decode cX8_use 49 = .ok (.if_icmp .ne 15, 3) := by decide +kernel
theorem dX8_use_52 : decode cX8_use 52 = .ok (.aload_n 0, 1) := by decide +kernel
theorem dX8_use_53 : decode cX8_use 53 = .ok (.getfield 26, 3) := by decide +kernel
theorem dX8_use_56 : decode cX8_use 56 = .ok (.getfield 146, 3) := by decide +kernel
theorem dX8_use_59 : decode cX8_use 59 = .ok (.iload_n 1, 1) := by decide +kernel
theorem dX8_use_60 : decode cX8_use 60 = .ok (.iaload, 1) := by decide +kernel
theorem dX8_use_61 : decode cX8_use 61 = .ok (.goto 12, 3) := by decide +kernel
theorem dX8_use_64 : decode cX8_use 64 = .ok (.aload_n 0, 1) := by decide +kernel
theorem dX8_use_65 : decode cX8_use 65 = .ok (.getfield 26, 3) := by decide +kernel
theorem dX8_use_68 : decode cX8_use 68 = .ok (.getfield 149, 3) := by decide +kernel
theorem dX8_use_71 : decode cX8_use 71 = .ok (.iload_n 1, 1) := by decide +kernel
theorem dX8_use_72 : decode cX8_use 72 = .ok (.iaload, 1) := by decide +kernel
theorem dX8_use_73 : decode cX8_use 73 = .ok (.ireturn, 1) := by decide +kernel
theorem dX8_price_0 : decode cX8_price 0 = .ok (.aload_n 0, 1) := by decide +kernel
theorem dX8_price_1 : decode cX8_price 1 = .ok (.iload_n 1, 1) := by decide +kernel
theorem dX8_price_2 : decode cX8_price 2 = .ok (.invokevirtual 101, 3) := by decide +kernel
theorem dX8_price_5 : decode cX8_price 5 = .ok (.ifCond .ne 6, 3) := by decide +kernel
theorem dX8_price_8 : decode cX8_price 8 = .ok (.ldc 138, 2) := by decide +kernel
theorem dX8_price_10 : decode cX8_price 10 = .ok (.ireturn, 1) := by decide +kernel
theorem dX8_price_11 : decode cX8_price 11 = .ok (.aload_n 0, 1) := by decide +kernel
theorem dX8_price_12 : decode cX8_price 12 = .ok (.bipush 10, 2) := by decide +kernel
theorem dX8_price_14 : decode cX8_price 14 = .ok (.invokevirtual 135, 3) := by decide +kernel
theorem dX8_price_17 : decode cX8_price 17 = .ok (.istore_n 2, 1) := by decide +kernel
theorem dX8_price_18 : decode cX8_price 18 = .ok (.aload_n 0, 1) := by decide +kernel
theorem dX8_price_19 : decode cX8_price 19 = .ok (.getfield 26, 3) := by decide +kernel
theorem dX8_price_22 : decode cX8_price 22 = .ok (.getfield 152, 3) := by decide +kernel
theorem dX8_price_25 : decode cX8_price 25 = .ok (.iload_n 1, 1) := by decide +kernel
theorem dX8_price_26 : decode cX8_price 26 = .ok (.dup2, 1) := by decide +kernel
theorem dX8_price_27 : decode cX8_price 27 = .ok (.iaload, 1) := by decide +kernel
theorem dX8_price_28 : decode cX8_price 28 = .ok (.iconst 1, 1) := by decide +kernel
theorem dX8_price_29 : decode cX8_price 29 = .ok (.iadd, 1) := by decide +kernel
theorem dX8_price_30 : decode cX8_price 30 = .ok (.iastore, 1) := by decide +kernel
theorem dX8_price_31 : decode cX8_price 31 = .ok (.aload_n 0, 1) := by decide +kernel
theorem dX8_price_32 : decode cX8_price 32 = .ok (.getfield 26, 3) := by decide +kernel
theorem dX8_price_35 : decode cX8_price 35 = .ok (.aload_n 0, 1) := by decide +kernel
theorem dX8_price_36 : decode cX8_price 36 = .ok (.getfield 12, 3) := by decide +kernel
theorem dX8_price_39 : decode cX8_price 39 = .ok (.iconst 0, 1) := by decide +kernel
theorem dX8_price_40 : decode cX8_price 40 = .ok (.aload_n 0, 1) := by decide +kernel
theorem dX8_price_41 : decode cX8_price 41 = .ok (.getfield 12, 3) := by decide +kernel
theorem dX8_price_44 : decode cX8_price 44 = .ok (.getfield 94, 3) := by decide +kernel
theorem dX8_price_47 : decode cX8_price 47 = .ok (.iconst 1, 1) := by decide +kernel
theorem dX8_price_48 : decode cX8_price 48 = .ok (.isub, 1) := by decide +kernel
theorem dX8_price_49 : decode cX8_price 49 = .ok (.invokevirtual 155, 3) := by decide +kernel
theorem dX8_price_52 : decode cX8_price 52 = .ok (.iload_n 2, 1) := by decide +kernel
theorem dX8_price_53 : decode cX8_price 53 = .ok (.isub, 1) := by decide +kernel
theorem dX8_price_54 : decode cX8_price 54 = .ok (.ireturn, 1) := by decide +kernel
theorem dX8_run_0 : decode cX8_run 0 = .ok (.aload_n 0, 1) := by decide +kernel
theorem dX8_run_1 : decode cX8_run 1 = .ok (.iload_n 1, 1) := by decide +kernel
theorem dX8_run_2 : decode cX8_run 2 = .ok (.invokevirtual 101, 3) := by decide +kernel
theorem dX8_run_5 : decode cX8_run 5 = .ok (.ifCond .eq 16, 3) := by decide +kernel
theorem dX8_run_8 : decode cX8_run 8 = .ok (.aload_n 0, 1) := by decide +kernel
theorem dX8_run_9 : decode cX8_run 9 = .ok (.iload_n 2, 1) := by decide +kernel
theorem dX8_run_10 : decode cX8_run 10 = .ok (.invokevirtual 101, 3) := by decide +kernel
theorem dX8_run_13 : decode cX8_run 13 = .ok (.ifCond .eq 8, 3) := by decide +kernel
theorem dX8_run_16 : decode cX8_run 16 = .ok (.iload_n 1, 1) := by decide +kernel
theorem dX8_run_17 : decode cX8_run 17 = .ok (.iload_n 2, 1) := by decide +kernel
theorem dX8_run_18 : decode cX8_run 18 = .ok (.if_icmp .le 6, 3) := by decide +kernel
theorem dX8_run_21 : decode cX8_run 21 = .ok (.ldc 138, 2) := by decide +kernel
theorem dX8_run_23 : decode cX8_run 23 = .ok (.ireturn, 1) := by decide +kernel
theorem dX8_run_24 : decode cX8_run 24 = .ok (.aload_n 0, 1) := by decide +kernel
theorem dX8_run_25 : decode cX8_run 25 = .ok (.getfield 26, 3) := by decide +kernel
theorem dX8_run_28 : decode cX8_run 28 = .ok (.aload_n 0, 1) := by decide +kernel
theorem dX8_run_29 : decode cX8_run 29 = .ok (.getfield 12, 3) := by decide +kernel
theorem dX8_run_32 : decode cX8_run 32 = .ok (.bipush 10, 2) := by decide +kernel
theorem dX8_run_34 : decode cX8_run 34 = .ok (.invokevirtual 159, 3) := by decide +kernel
theorem dX8_run_37 : decode cX8_run 37 = .ok (.aload_n 0, 1) := by decide +kernel
theorem dX8_run_38 : decode cX8_run 38 = .ok (.getfield 26, 3) := by decide +kernel
theorem dX8_run_41 : decode cX8_run 41 = .ok (.aload_n 0, 1) := by decide +kernel
theorem dX8_run_42 : decode cX8_run 42 = .ok (.getfield 12, 3) := by decide +kernel
theorem dX8_run_45 : decode cX8_run 45 = .ok (.iload_n 1, 1) := by decide +kernel
theorem dX8_run_46 : decode cX8_run 46 = .ok (.iload_n 2, 1) := by decide +kernel
theorem dX8_run_47 : decode cX8_run 47 = .ok (.invokevirtual 155, 3) := by decide +kernel
theorem dX8_run_50 : decode cX8_run 50 = .ok (.ireturn, 1) := by decide +kernel
theorem dX8_most_0 : decode cX8_most 0 = .ok (.aload_n 0, 1) := by decide +kernel
theorem dX8_most_1 : decode cX8_most 1 = .ok (.iload_n 1, 1) := by decide +kernel
theorem dX8_most_2 : decode cX8_most 2 = .ok (.invokevirtual 101, 3) := by decide +kernel
theorem dX8_most_5 : decode cX8_most 5 = .ok (.ifCond .ne 5, 3) := by decide +kernel
theorem dX8_most_8 : decode cX8_most 8 = .ok (.iconst (-1), 1) := by decide +kernel
theorem dX8_most_9 : decode cX8_most 9 = .ok (.ireturn, 1) := by decide +kernel
theorem dX8_most_10 : decode cX8_most 10 = .ok (.aload_n 0, 1) := by decide +kernel
theorem dX8_most_11 : decode cX8_most 11 = .ok (.getfield 26, 3) := by decide +kernel
theorem dX8_most_14 : decode cX8_most 14 = .ok (.aload_n 0, 1) := by decide +kernel
theorem dX8_most_15 : decode cX8_most 15 = .ok (.getfield 12, 3) := by decide +kernel
theorem dX8_most_18 : decode cX8_most 18 = .ok (.bipush 10, 2) := by decide +kernel
theorem dX8_most_20 : decode cX8_most 20 = .ok (.invokevirtual 159, 3) := by decide +kernel
theorem dX8_most_23 : decode cX8_most 23 = .ok (.aload_n 0, 1) := by decide +kernel
theorem dX8_most_24 : decode cX8_most 24 = .ok (.iload_n 1, 1) := by decide +kernel
theorem dX8_most_25 : decode cX8_most 25 = .ok (.invokevirtual 161, 3) := by decide +kernel
theorem dX8_most_28 : decode cX8_most 28 = .ok (.ireturn, 1) := by decide +kernel
theorem dX8_share_0 : decode cX8_share 0 = .ok (.iload_n 1, 1) := by decide +kernel
theorem dX8_share_1 : decode cX8_share 1 = .ok (.iconst 0, 1) := by decide +kernel
theorem dX8_share_2 : decode cX8_share 2 = .ok (.iconst 3, 1) := by decide +kernel
theorem dX8_share_3 : decode cX8_share 3 = .ok (.invokestatic 105, 3) := by decide +kernel
theorem dX8_share_6 : decode cX8_share 6 = .ok (.ifCond .eq 20, 3) := by decide +kernel
theorem dX8_share_9 : decode cX8_share 9 = .ok (.aload_n 0, 1) := by decide +kernel
theorem dX8_share_10 : decode cX8_share 10 = .ok (.iload_n 2, 1) := by decide +kernel
theorem dX8_share_11 : decode cX8_share 11 = .ok (.invokevirtual 101, 3) := by decide +kernel
theorem dX8_share_14 : decode cX8_share 14 = .ok (.ifCond .eq 12, 3) := by decide +kernel
theorem dX8_share_17 : decode cX8_share 17 = .ok (.iload_n 3, 1) := by decide +kernel
theorem dX8_share_18 : decode cX8_share 18 = .ok (.iconst 0, 1) := by decide +kernel
theorem dX8_share_19 : decode cX8_share 19 = .ok (.iconst 1, 1) := by decide +kernel
theorem dX8_share_20 : decode cX8_share 20 = .ok (.invokestatic 105, 3) := by decide +kernel
theorem dX8_share_23 : decode cX8_share 23 = .ok (.ifCond .ne 6, 3) := by decide +kernel
theorem dX8_share_26 : decode cX8_share 26 = .ok (.ldc 138, 2) := by decide +kernel
theorem dX8_share_28 : decode cX8_share 28 = .ok (.ireturn, 1) := by decide +kernel
theorem dX8_share_29 : decode cX8_share 29 = .ok (.iload_n 3, 1) := by decide +kernel
theorem dX8_share_30 : decode cX8_share 30 = .ok (.iconst 1, 1) := by decide +kernel
theorem dX8_share_31 : decode cX8_share 31 = .ok (.if_icmp .ne 9, 3) := by decide +kernel
theorem dX8_share_34 : decode cX8_share 34 = .ok (.iload_n 1, 1) := by decide +kernel
theorem dX8_share_35 : decode cX8_share 35 = .ok (.ifCond .ne 5, 3) := by decide +kernel
theorem dX8_share_38 : decode cX8_share 38 = .ok (.iconst 0, 1) := by decide +kernel
theorem dX8_share_39 : decode cX8_share 39 = .ok (.ireturn, 1) := by decide +kernel
theorem dX8_share_40 : decode cX8_share 40 = .ok (.aload_n 0, 1) := by decide +kernel
theorem dX8_share_41 : decode cX8_share 41 = .ok (.iload_n 1, 1) := by decide +kernel
theorem dX8_share_42 : decode cX8_share 42 = .ok (.invokevirtual 164, 3) := by decide +kernel
theorem dX8_share_45 : decode cX8_share 45 = .ok (.iload_n 3, 1) := by decide +kernel
theorem dX8_share_46 : decode cX8_share 46 = .ok (.ifCond .ne 12, 3) := by decide +kernel
theorem dX8_share_49 : decode cX8_share 49 = .ok (.aload_n 0, 1) := by decide +kernel
theorem dX8_share_50 : decode cX8_share 50 = .ok (.getfield 51, 3) := by decide +kernel
theorem dX8_share_53 : decode cX8_share 53 = .ok (.iload_n 2, 1) := by decide +kernel
theorem dX8_share_54 : decode cX8_share 54 = .ok (.iaload, 1) := by decide +kernel
theorem dX8_share_55 : decode cX8_share 55 = .ok (.goto 15, 3) := by decide +kernel
theorem dX8_share_58 : decode cX8_share 58 = .ok (.aload_n 0, 1) := by decide +kernel
theorem dX8_share_59 : decode cX8_share 59 = .ok (.getfield 51, 3) := by decide +kernel
theorem dX8_share_62 : decode cX8_share 62 = .ok (.iload_n 2, 1) := by decide +kernel
theorem dX8_share_63 : decode cX8_share 63 = .ok (.iaload, 1) := by decide +kernel
theorem dX8_share_64 : decode cX8_share 64 = .ok (.aload_n 0, 1) := by decide +kernel
theorem dX8_share_65 : decode cX8_share 65 = .ok (.iload_n 2, 1) := by decide +kernel
theorem dX8_share_66 : decode cX8_share 66 = .ok (.invokevirtual 168, 3) := by decide +kernel
theorem dX8_share_69 : decode cX8_share 69 = .ok (.isub, 1) := by decide +kernel
theorem dX8_share_70 : decode cX8_share 70 = .ok (.ireturn, 1) := by decide +kernel
theorem dX8_broken_0 : decode cX8_broken 0 = .ok (.iload_n 1, 1) := by decide +kernel
theorem dX8_broken_1 : decode cX8_broken 1 = .ok (.iconst 0, 1) := by decide +kernel
theorem dX8_broken_2 : decode cX8_broken 2 = .ok (.iconst 3, 1) := by decide +kernel
theorem dX8_broken_3 : decode cX8_broken 3 = .ok (.invokestatic 105, 3) := by decide +kernel
theorem dX8_broken_6 : decode cX8_broken 6 = .ok (.ifCond .ne 5, 3) := by decide +kernel
theorem dX8_broken_9 : decode cX8_broken 9 = .ok (.iconst (-1), 1) := by decide +kernel
theorem dX8_broken_10 : decode cX8_broken 10 = .ok (.ireturn, 1) := by decide +kernel
theorem dX8_broken_11 : decode cX8_broken 11 = .ok (.aload_n 0, 1) := by decide +kernel
theorem dX8_broken_12 : decode cX8_broken 12 = .ok (.iload_n 1, 1) := by decide +kernel
theorem dX8_broken_13 : decode cX8_broken 13 = .ok (.invokevirtual 164, 3) := by decide +kernel
theorem dX8_broken_16 : decode cX8_broken 16 = .ok (.aload_n 0, 1) := by decide +kernel
theorem dX8_broken_17 : decode cX8_broken 17 = .ok (.invokevirtual 171, 3) := by decide +kernel
theorem dX8_broken_20 : decode cX8_broken 20 = .ok (.ireturn, 1) := by decide +kernel
theorem dX8_lawful_0 : decode cX8_lawful 0 = .ok (.iload_n 1, 1) := by decide +kernel
theorem dX8_lawful_1 : decode cX8_lawful 1 = .ok (.invokestatic 112, 3) := by decide +kernel
theorem dX8_lawful_4 : decode cX8_lawful 4 = .ok (.ifCond .ne 5, 3) := by decide +kernel
theorem dX8_lawful_7 : decode cX8_lawful 7 = .ok (.iconst (-1), 1) := by decide +kernel
theorem dX8_lawful_8 : decode cX8_lawful 8 = .ok (.ireturn, 1) := by decide +kernel
theorem dX8_lawful_9 : decode cX8_lawful 9 = .ok (.aload_n 0, 1) := by decide +kernel
theorem dX8_lawful_10 : decode cX8_lawful 10 = .ok (.getfield 66, 3) := by decide +kernel
theorem dX8_lawful_13 : decode cX8_lawful 13 = .ok (.iload_n 1, 1) := by decide +kernel
theorem dX8_lawful_14 : decode cX8_lawful 14 = .ok (.aaload, 1) := by decide +kernel
theorem dX8_lawful_15 : decode cX8_lawful 15 = .ok (.astore_n 2, 1) := by decide +kernel
theorem dX8_lawful_16 : decode cX8_lawful 16 = .ok (.aload_n 2, 1) := by decide +kernel
theorem dX8_lawful_17 : decode cX8_lawful 17 = .ok (.iconst 2, 1) := by decide +kernel
theorem dX8_lawful_18 : decode cX8_lawful 18 = .ok (.invokevirtual 115, 3) := by decide +kernel
theorem dX8_lawful_21 : decode cX8_lawful 21 = .ok (.istore_n 3, 1) := by decide +kernel
theorem dX8_lawful_22 : decode cX8_lawful 22 = .ok (.iload_n 3, 1) := by decide +kernel
theorem dX8_lawful_23 : decode cX8_lawful 23 = .ok (.ifCond .eq 5, 3) := by decide +kernel
theorem dX8_lawful_26 : decode cX8_lawful 26 = .ok (.iload_n 3, 1) := by decide +kernel
theorem dX8_lawful_27 : decode cX8_lawful 27 = .ok (.ireturn, 1) := by decide +kernel
theorem dX8_lawful_28 : decode cX8_lawful 28 = .ok (.aload_n 0, 1) := by decide +kernel
theorem dX8_lawful_29 : decode cX8_lawful 29 = .ok (.aload_n 2, 1) := by decide +kernel
theorem dX8_lawful_30 : decode cX8_lawful 30 = .ok (.invokevirtual 175, 3) := by decide +kernel
theorem dX8_lawful_33 : decode cX8_lawful 33 = .ok (.ifCond .ne 6, 3) := by decide +kernel
theorem dX8_lawful_36 : decode cX8_lawful 36 = .ok (.bipush (-4), 2) := by decide +kernel
theorem dX8_lawful_38 : decode cX8_lawful 38 = .ok (.ireturn, 1) := by decide +kernel
theorem dX8_lawful_39 : decode cX8_lawful 39 = .ok (.aload_n 0, 1) := by decide +kernel
theorem dX8_lawful_40 : decode cX8_lawful 40 = .ok (.getfield 26, 3) := by decide +kernel
theorem dX8_lawful_43 : decode cX8_lawful 43 = .ok (.aload_n 0, 1) := by decide +kernel
theorem dX8_lawful_44 : decode cX8_lawful 44 = .ok (.getfield 12, 3) := by decide +kernel
theorem dX8_lawful_47 : decode cX8_lawful 47 = .ok (.bipush 10, 2) := by decide +kernel
theorem dX8_lawful_49 : decode cX8_lawful 49 = .ok (.invokevirtual 139, 3) := by decide +kernel
theorem dX8_lawful_52 : decode cX8_lawful 52 = .ok (.iconst 0, 1) := by decide +kernel
theorem dX8_lawful_53 : decode cX8_lawful 53 = .ok (.istore 4, 2) := by decide +kernel
theorem dX8_lawful_55 : decode cX8_lawful 55 = .ok (.iconst 0, 1) := by decide +kernel
theorem dX8_lawful_56 : decode cX8_lawful 56 = .ok (.istore 5, 2) := by decide +kernel
theorem dX8_lawful_58 : decode cX8_lawful 58 = .ok (.iload 5, 2) := by decide +kernel
theorem dX8_lawful_60 : decode cX8_lawful 60 = .ok (.aload_n 0, 1) := by decide +kernel
theorem dX8_lawful_61 : decode cX8_lawful 61 = .ok (.getfield 12, 3) := by decide +kernel
theorem dX8_lawful_64 : decode cX8_lawful 64 = .ok (.getfield 94, 3) := by decide +kernel
theorem dX8_lawful_67 : decode cX8_lawful 67 = .ok (.if_icmp .ge 46, 3) := by decide +kernel
theorem dX8_lawful_70 : decode cX8_lawful 70 = .ok (.iload 4, 2) := by decide +kernel
theorem dX8_lawful_72 : decode cX8_lawful 72 = .ok (.aload_n 2, 1) := by decide +kernel
theorem dX8_lawful_73 : decode cX8_lawful 73 = .ok (.getfield 122, 3) := by decide +kernel
theorem dX8_lawful_76 : decode cX8_lawful 76 = .ok (.iload 5, 2) := by decide +kernel
theorem dX8_lawful_78 : decode cX8_lawful 78 = .ok (.iaload, 1) := by decide +kernel
theorem dX8_lawful_79 : decode cX8_lawful 79 = .ok (.iadd, 1) := by decide +kernel
theorem dX8_lawful_80 : decode cX8_lawful 80 = .ok (.istore 4, 2) := by decide +kernel
theorem dX8_lawful_82 : decode cX8_lawful 82 = .ok (.aload_n 0, 1) := by decide +kernel
theorem dX8_lawful_83 : decode cX8_lawful 83 = .ok (.getfield 51, 3) := by decide +kernel
theorem dX8_lawful_86 : decode cX8_lawful 86 = .ok (.iload 5, 2) := by decide +kernel
theorem dX8_lawful_88 : decode cX8_lawful 88 = .ok (.aload_n 0, 1) := by decide +kernel
theorem dX8_lawful_89 : decode cX8_lawful 89 = .ok (.getfield 26, 3) := by decide +kernel
theorem dX8_lawful_92 : decode cX8_lawful 92 = .ok (.getfield 149, 3) := by decide +kernel
theorem dX8_lawful_95 : decode cX8_lawful 95 = .ok (.iload 5, 2) := by decide +kernel
theorem dX8_lawful_97 : decode cX8_lawful 97 = .ok (.iaload, 1) := by decide +kernel
theorem dX8_lawful_98 : decode cX8_lawful 98 = .ok (.aload_n 2, 1) := by decide +kernel
theorem dX8_lawful_99 : decode cX8_lawful 99 = .ok (.getfield 122, 3) := by decide +kernel
theorem dX8_lawful_102 : decode cX8_lawful 102 = .ok (.iload 5, 2) := by decide +kernel
theorem dX8_lawful_104 : decode cX8_lawful 104 = .ok (.iaload, 1) := by decide +kernel
theorem dX8_lawful_105 : decode cX8_lawful 105 = .ok (.iadd, 1) := by decide +kernel
theorem dX8_lawful_106 : decode cX8_lawful 106 = .ok (.iastore, 1) := by decide +kernel
theorem dX8_lawful_107 : decode cX8_lawful 107 = .ok (.iinc 5 1, 3) := by decide +kernel
theorem dX8_lawful_110 : decode cX8_lawful 110 = .ok (.goto (-52), 3) := by decide +kernel
theorem dX8_lawful_113 : decode cX8_lawful 113 = .ok (.iload 4, 2) := by decide +kernel
theorem dX8_lawful_115 : decode cX8_lawful 115 = .ok (.ifCond .eq 9, 3) := by decide +kernel
theorem dX8_lawful_118 : decode cX8_lawful 118 = .ok (.sipush 300, 3) := by decide +kernel
theorem dX8_lawful_121 : decode cX8_lawful 121 = .ok (.goto 7, 3) := by decide +kernel
theorem dX8_lawful_124 : decode cX8_lawful 124 = .ok (.aload_n 0, 1) := by decide +kernel
theorem dX8_lawful_125 : decode cX8_lawful 125 = .ok (.invokevirtual 171, 3) := by decide +kernel
theorem dX8_lawful_128 : decode cX8_lawful 128 = .ok (.ireturn, 1) := by decide +kernel
theorem dX8_cleaning_0 : decode cX8_cleaning 0 = .ok (.iload_n 1, 1) := by decide +kernel
theorem dX8_cleaning_1 : decode cX8_cleaning 1 = .ok (.iconst (-1), 1) := by decide +kernel
theorem dX8_cleaning_2 : decode cX8_cleaning 2 = .ok (.if_icmp .eq 13, 3) := by decide +kernel
theorem dX8_cleaning_5 : decode cX8_cleaning 5 = .ok (.aload_n 0, 1) := by decide +kernel
theorem dX8_cleaning_6 : decode cX8_cleaning 6 = .ok (.iload_n 1, 1) := by decide +kernel
theorem dX8_cleaning_7 : decode cX8_cleaning 7 = .ok (.invokevirtual 101, 3) := by decide +kernel
theorem dX8_cleaning_10 : decode cX8_cleaning 10 = .ok (.ifCond .ne 5, 3) := by decide +kernel
theorem dX8_cleaning_13 : decode cX8_cleaning 13 = .ok (.iconst (-1), 1) := by decide +kernel
theorem dX8_cleaning_14 : decode cX8_cleaning 14 = .ok (.ireturn, 1) := by decide +kernel
theorem dX8_cleaning_15 : decode cX8_cleaning 15 = .ok (.aload_n 0, 1) := by decide +kernel
theorem dX8_cleaning_16 : decode cX8_cleaning 16 = .ok (.getfield 40, 3) := by decide +kernel
theorem dX8_cleaning_19 : decode cX8_cleaning 19 = .ok (.aload_n 0, 1) := by decide +kernel
theorem dX8_cleaning_20 : decode cX8_cleaning 20 = .ok (.getfield 12, 3) := by decide +kernel
theorem dX8_cleaning_23 : decode cX8_cleaning 23 = .ok (.invokevirtual 178, 3) := by decide +kernel
theorem dX8_cleaning_26 : decode cX8_cleaning 26 = .ok (.istore_n 2, 1) := by decide +kernel
theorem dX8_cleaning_27 : decode cX8_cleaning 27 = .ok (.iload_n 1, 1) := by decide +kernel
theorem dX8_cleaning_28 : decode cX8_cleaning 28 = .ok (.iconst (-1), 1) := by decide +kernel
theorem dX8_cleaning_29 : decode cX8_cleaning 29 = .ok (.if_icmp .ne 7, 3) := by decide +kernel
theorem dX8_cleaning_32 : decode cX8_cleaning 32 = .ok (.iload_n 2, 1) := by decide +kernel
theorem dX8_cleaning_33 : decode cX8_cleaning 33 = .ok (.goto 12, 3) := by decide +kernel
theorem dX8_cleaning_36 : decode cX8_cleaning 36 = .ok (.aload_n 0, 1) := by decide +kernel
theorem dX8_cleaning_37 : decode cX8_cleaning 37 = .ok (.getfield 40, 3) := by decide +kernel
theorem dX8_cleaning_40 : decode cX8_cleaning 40 = .ok (.getfield 182, 3) := by decide +kernel
theorem dX8_cleaning_43 : decode cX8_cleaning 43 = .ok (.iload_n 1, 1) := by decide +kernel
theorem dX8_cleaning_44 : decode cX8_cleaning 44 = .ok (.iaload, 1) := by decide +kernel
theorem dX8_cleaning_45 : decode cX8_cleaning 45 = .ok (.ireturn, 1) := by decide +kernel
theorem dX8_year_0 : decode cX8_year 0 = .ok (.iload_n 1, 1) := by decide +kernel
theorem dX8_year_1 : decode cX8_year 1 = .ok (.invokestatic 132, 3) := by decide +kernel
theorem dX8_year_4 : decode cX8_year 4 = .ok (.ifCond .ne 5, 3) := by decide +kernel
theorem dX8_year_7 : decode cX8_year 7 = .ok (.iconst (-1), 1) := by decide +kernel
theorem dX8_year_8 : decode cX8_year 8 = .ok (.ireturn, 1) := by decide +kernel
theorem dX8_year_9 : decode cX8_year 9 = .ok (.aload_n 0, 1) := by decide +kernel
theorem dX8_year_10 : decode cX8_year 10 = .ok (.getfield 12, 3) := by decide +kernel
theorem dX8_year_13 : decode cX8_year 13 = .ok (.getfield 185, 3) := by decide +kernel
theorem dX8_year_16 : decode cX8_year 16 = .ok (.bipush 6, 2) := by decide +kernel
theorem dX8_year_18 : decode cX8_year 18 = .ok (.if_icmp .ne 6, 3) := by decide +kernel
theorem dX8_year_21 : decode cX8_year 21 = .ok (.bipush (-2), 2) := by decide +kernel
theorem dX8_year_23 : decode cX8_year 23 = .ok (.ireturn, 1) := by decide +kernel
theorem dX8_year_24 : decode cX8_year 24 = .ok (.aload_n 0, 1) := by decide +kernel
theorem dX8_year_25 : decode cX8_year 25 = .ok (.getfield 12, 3) := by decide +kernel
theorem dX8_year_28 : decode cX8_year 28 = .ok (.getfield 188, 3) := by decide +kernel
theorem dX8_year_31 : decode cX8_year 31 = .ok (.aload_n 0, 1) := by decide +kernel
theorem dX8_year_32 : decode cX8_year 32 = .ok (.getfield 12, 3) := by decide +kernel
theorem dX8_year_35 : decode cX8_year 35 = .ok (.getfield 185, 3) := by decide +kernel
theorem dX8_year_38 : decode cX8_year 38 = .ok (.iload_n 1, 1) := by decide +kernel
theorem dX8_year_39 : decode cX8_year 39 = .ok (.iastore, 1) := by decide +kernel
theorem dX8_year_40 : decode cX8_year 40 = .ok (.aload_n 0, 1) := by decide +kernel
theorem dX8_year_41 : decode cX8_year 41 = .ok (.getfield 12, 3) := by decide +kernel
theorem dX8_year_44 : decode cX8_year 44 = .ok (.dup, 1) := by decide +kernel
theorem dX8_year_45 : decode cX8_year 45 = .ok (.getfield 185, 3) := by decide +kernel
theorem dX8_year_48 : decode cX8_year 48 = .ok (.iconst 1, 1) := by decide +kernel
theorem dX8_year_49 : decode cX8_year 49 = .ok (.iadd, 1) := by decide +kernel
theorem dX8_year_50 : decode cX8_year 50 = .ok (.putfield 185, 3) := by decide +kernel
theorem dX8_year_53 : decode cX8_year 53 = .ok (.aload_n 0, 1) := by decide +kernel
theorem dX8_year_54 : decode cX8_year 54 = .ok (.getfield 12, 3) := by decide +kernel
theorem dX8_year_57 : decode cX8_year 57 = .ok (.getfield 185, 3) := by decide +kernel
theorem dX8_year_60 : decode cX8_year 60 = .ok (.iconst 1, 1) := by decide +kernel
theorem dX8_year_61 : decode cX8_year 61 = .ok (.isub, 1) := by decide +kernel
theorem dX8_year_62 : decode cX8_year 62 = .ok (.ireturn, 1) := by decide +kernel
theorem dX8_yearOf_0 : decode cX8_yearOf 0 = .ok (.aload_n 0, 1) := by decide +kernel
theorem dX8_yearOf_1 : decode cX8_yearOf 1 = .ok (.iload_n 1, 1) := by decide +kernel
theorem dX8_yearOf_2 : decode cX8_yearOf 2 = .ok (.invokevirtual 191, 3) := by decide +kernel
theorem dX8_yearOf_5 : decode cX8_yearOf 5 = .ok (.ifCond .eq 10, 3) := by decide +kernel
theorem dX8_yearOf_8 : decode cX8_yearOf 8 = .ok (.iload_n 2, 1) := by decide +kernel
theorem dX8_yearOf_9 : decode cX8_yearOf 9 = .ok (.invokestatic 132, 3) := by decide +kernel
theorem dX8_yearOf_12 : decode cX8_yearOf 12 = .ok (.ifCond .ne 5, 3) := by decide +kernel
theorem dX8_yearOf_15 : decode cX8_yearOf 15 = .ok (.iconst (-1), 1) := by decide +kernel
theorem dX8_yearOf_16 : decode cX8_yearOf 16 = .ok (.ireturn, 1) := by decide +kernel
theorem dX8_yearOf_17 : decode cX8_yearOf 17 = .ok (.aload_n 0, 1) := by decide +kernel
theorem dX8_yearOf_18 : decode cX8_yearOf 18 = .ok (.getfield 12, 3) := by decide +kernel
theorem dX8_yearOf_21 : decode cX8_yearOf 21 = .ok (.getfield 188, 3) := by decide +kernel
theorem dX8_yearOf_24 : decode cX8_yearOf 24 = .ok (.iload_n 1, 1) := by decide +kernel
theorem dX8_yearOf_25 : decode cX8_yearOf 25 = .ok (.iaload, 1) := by decide +kernel
theorem dX8_yearOf_26 : decode cX8_yearOf 26 = .ok (.istore_n 3, 1) := by decide +kernel
theorem dX8_yearOf_27 : decode cX8_yearOf 27 = .ok (.aload_n 0, 1) := by decide +kernel
theorem dX8_yearOf_28 : decode cX8_yearOf 28 = .ok (.getfield 12, 3) := by decide +kernel
theorem dX8_yearOf_31 : decode cX8_yearOf 31 = .ok (.getfield 188, 3) := by decide +kernel
theorem dX8_yearOf_34 : decode cX8_yearOf 34 = .ok (.iload_n 1, 1) := by decide +kernel
theorem dX8_yearOf_35 : decode cX8_yearOf 35 = .ok (.iload_n 2, 1) := by decide +kernel
theorem dX8_yearOf_36 : decode cX8_yearOf 36 = .ok (.iastore, 1) := by decide +kernel
theorem dX8_yearOf_37 : decode cX8_yearOf 37 = .ok (.iload_n 3, 1) := by decide +kernel
theorem dX8_yearOf_38 : decode cX8_yearOf 38 = .ok (.ireturn, 1) := by decide +kernel
theorem dX8_dam_0 : decode cX8_dam 0 = .ok (.iload_n 1, 1) := by decide +kernel
theorem dX8_dam_1 : decode cX8_dam 1 = .ok (.iconst (-1), 1) := by decide +kernel
theorem dX8_dam_2 : decode cX8_dam 2 = .ok (.if_icmp .eq 11, 3) := by decide +kernel
theorem dX8_dam_5 : decode cX8_dam 5 = .ok (.aload_n 0, 1) := by decide +kernel
theorem dX8_dam_6 : decode cX8_dam 6 = .ok (.iload_n 1, 1) := by decide +kernel
theorem dX8_dam_7 : decode cX8_dam 7 = .ok (.invokevirtual 101, 3) := by decide +kernel
theorem dX8_dam_10 : decode cX8_dam 10 = .ok (.ifCond .eq 12, 3) := by decide +kernel
theorem dX8_dam_13 : decode cX8_dam 13 = .ok (.iload_n 2, 1) := by decide +kernel
theorem dX8_dam_14 : decode cX8_dam 14 = .ok (.iconst 0, 1) := by decide +kernel
theorem dX8_dam_15 : decode cX8_dam 15 = .ok (.iconst 4, 1) := by decide +kernel
theorem dX8_dam_16 : decode cX8_dam 16 = .ok (.invokestatic 105, 3) := by decide +kernel
theorem dX8_dam_19 : decode cX8_dam 19 = .ok (.ifCond .ne 5, 3) := by decide +kernel
theorem dX8_dam_22 : decode cX8_dam 22 = .ok (.iconst (-1), 1) := by decide +kernel
theorem dX8_dam_23 : decode cX8_dam 23 = .ok (.ireturn, 1) := by decide +kernel
theorem dX8_dam_24 : decode cX8_dam 24 = .ok (.aload_n 0, 1) := by decide +kernel
theorem dX8_dam_25 : decode cX8_dam 25 = .ok (.getfield 12, 3) := by decide +kernel
theorem dX8_dam_28 : decode cX8_dam 28 = .ok (.iload_n 1, 1) := by decide +kernel
theorem dX8_dam_29 : decode cX8_dam 29 = .ok (.putfield 194, 3) := by decide +kernel
theorem dX8_dam_32 : decode cX8_dam 32 = .ok (.aload_n 0, 1) := by decide +kernel
theorem dX8_dam_33 : decode cX8_dam 33 = .ok (.getfield 12, 3) := by decide +kernel
theorem dX8_dam_36 : decode cX8_dam 36 = .ok (.iload_n 2, 1) := by decide +kernel
theorem dX8_dam_37 : decode cX8_dam 37 = .ok (.putfield 197, 3) := by decide +kernel
theorem dX8_dam_40 : decode cX8_dam 40 = .ok (.iconst 1, 1) := by decide +kernel
theorem dX8_dam_41 : decode cX8_dam 41 = .ok (.ireturn, 1) := by decide +kernel
theorem dX8_kept_0 : decode cX8_kept 0 = .ok (.iload_n 1, 1) := by decide +kernel
theorem dX8_kept_1 : decode cX8_kept 1 = .ok (.iconst (-1), 1) := by decide +kernel
theorem dX8_kept_2 : decode cX8_kept 2 = .ok (.if_icmp .eq 14, 3) := by decide +kernel
theorem dX8_kept_5 : decode cX8_kept 5 = .ok (.aload_n 0, 1) := by decide +kernel
theorem dX8_kept_6 : decode cX8_kept 6 = .ok (.iload_n 1, 1) := by decide +kernel
theorem dX8_kept_7 : decode cX8_kept 7 = .ok (.invokevirtual 191, 3) := by decide +kernel
theorem dX8_kept_10 : decode cX8_kept 10 = .ok (.ifCond .ne 6, 3) := by decide +kernel
theorem dX8_kept_13 : decode cX8_kept 13 = .ok (.ldc 138, 2) := by decide +kernel
theorem dX8_kept_15 : decode cX8_kept 15 = .ok (.ireturn, 1) := by decide +kernel
theorem dX8_kept_16 : decode cX8_kept 16 = .ok (.aload_n 0, 1) := by decide +kernel
theorem dX8_kept_17 : decode cX8_kept 17 = .ok (.getfield 33, 3) := by decide +kernel
theorem dX8_kept_20 : decode cX8_kept 20 = .ok (.aload_n 0, 1) := by decide +kernel
theorem dX8_kept_21 : decode cX8_kept 21 = .ok (.getfield 12, 3) := by decide +kernel
theorem dX8_kept_24 : decode cX8_kept 24 = .ok (.aload_n 0, 1) := by decide +kernel
theorem dX8_kept_25 : decode cX8_kept 25 = .ok (.getfield 26, 3) := by decide +kernel
theorem dX8_kept_28 : decode cX8_kept 28 = .ok (.invokevirtual 200, 3) := by decide +kernel
theorem dX8_kept_31 : decode cX8_kept 31 = .ok (.istore_n 2, 1) := by decide +kernel
theorem dX8_kept_32 : decode cX8_kept 32 = .ok (.iload_n 1, 1) := by decide +kernel
theorem dX8_kept_33 : decode cX8_kept 33 = .ok (.iconst (-1), 1) := by decide +kernel
theorem dX8_kept_34 : decode cX8_kept 34 = .ok (.if_icmp .ne 7, 3) := by decide +kernel
theorem dX8_kept_37 : decode cX8_kept 37 = .ok (.iload_n 2, 1) := by decide +kernel
theorem dX8_kept_38 : decode cX8_kept 38 = .ok (.goto 12, 3) := by decide +kernel
theorem dX8_kept_41 : decode cX8_kept 41 = .ok (.aload_n 0, 1) := by decide +kernel
theorem dX8_kept_42 : decode cX8_kept 42 = .ok (.getfield 33, 3) := by decide +kernel
theorem dX8_kept_45 : decode cX8_kept 45 = .ok (.getfield 204, 3) := by decide +kernel
theorem dX8_kept_48 : decode cX8_kept 48 = .ok (.iload_n 1, 1) := by decide +kernel
theorem dX8_kept_49 : decode cX8_kept 49 = .ok (.iaload, 1) := by decide +kernel
theorem dX8_kept_50 : decode cX8_kept 50 = .ok (.ireturn, 1) := by decide +kernel
theorem dX8_feed_0 : decode cX8_feed 0 = .ok (.iload_n 3, 1) := by decide +kernel
theorem dX8_feed_1 : decode cX8_feed 1 = .ok (.iconst 1, 1) := by decide +kernel
theorem dX8_feed_2 : decode cX8_feed 2 = .ok (.bipush 8, 2) := by decide +kernel
theorem dX8_feed_4 : decode cX8_feed 4 = .ok (.invokestatic 105, 3) := by decide +kernel
theorem dX8_feed_7 : decode cX8_feed 7 = .ok (.ifCond .ne 5, 3) := by decide +kernel
theorem dX8_feed_10 : decode cX8_feed 10 = .ok (.iconst (-1), 1) := by decide +kernel
theorem dX8_feed_11 : decode cX8_feed 11 = .ok (.ireturn, 1) := by decide +kernel
theorem dX8_feed_12 : decode cX8_feed 12 = .ok (.aload_n 0, 1) := by decide +kernel
theorem dX8_feed_13 : decode cX8_feed 13 = .ok (.getfield 47, 3) := by decide +kernel
theorem dX8_feed_16 : decode cX8_feed 16 = .ok (.lload_n 1, 1) := by decide +kernel
theorem dX8_feed_17 : decode cX8_feed 17 = .ok (.iload_n 3, 1) := by decide +kernel
theorem dX8_feed_18 : decode cX8_feed 18 = .ok (.invokevirtual 207, 3) := by decide +kernel
theorem dX8_feed_21 : decode cX8_feed 21 = .ok (.ifCond .eq 13, 3) := by decide +kernel
theorem dX8_feed_24 : decode cX8_feed 24 = .ok (.aload_n 0, 1) := by decide +kernel
theorem dX8_feed_25 : decode cX8_feed 25 = .ok (.getfield 47, 3) := by decide +kernel
theorem dX8_feed_28 : decode cX8_feed 28 = .ok (.getfield 211, 3) := by decide +kernel
theorem dX8_feed_31 : decode cX8_feed 31 = .ok (.goto 5, 3) := by decide +kernel
theorem dX8_feed_34 : decode cX8_feed 34 = .ok (.bipush (-2), 2) := by decide +kernel
theorem dX8_feed_36 : decode cX8_feed 36 = .ok (.ireturn, 1) := by decide +kernel
theorem dX8_read_0 : decode cX8_read 0 = .ok (.aload_n 0, 1) := by decide +kernel
theorem dX8_read_1 : decode cX8_read 1 = .ok (.getfield 47, 3) := by decide +kernel
theorem dX8_read_4 : decode cX8_read 4 = .ok (.invokevirtual 214, 3) := by decide +kernel
theorem dX8_read_7 : decode cX8_read 7 = .ok (.istore_n 1, 1) := by decide +kernel
theorem dX8_read_8 : decode cX8_read 8 = .ok (.iload_n 1, 1) := by decide +kernel
theorem dX8_read_9 : decode cX8_read 9 = .ok (.ifCond .lt 8, 3) := by decide +kernel
theorem dX8_read_12 : decode cX8_read 12 = .ok (.bipush (-100), 2) := by decide +kernel
theorem dX8_read_14 : decode cX8_read 14 = .ok (.iload_n 1, 1) := by decide +kernel
theorem dX8_read_15 : decode cX8_read 15 = .ok (.isub, 1) := by decide +kernel
theorem dX8_read_16 : decode cX8_read 16 = .ok (.ireturn, 1) := by decide +kernel
theorem dX8_read_17 : decode cX8_read 17 = .ok (.aload_n 0, 1) := by decide +kernel
theorem dX8_read_18 : decode cX8_read 18 = .ok (.getfield 12, 3) := by decide +kernel
theorem dX8_read_21 : decode cX8_read 21 = .ok (.getfield 217, 3) := by decide +kernel
theorem dX8_read_24 : decode cX8_read 24 = .ok (.aload_n 0, 1) := by decide +kernel
theorem dX8_read_25 : decode cX8_read 25 = .ok (.getfield 47, 3) := by decide +kernel
theorem dX8_read_28 : decode cX8_read 28 = .ok (.getfield 221, 3) := by decide +kernel
theorem dX8_read_31 : decode cX8_read 31 = .ok (.invokevirtual 224, 3) := by decide +kernel
theorem dX8_read_34 : decode cX8_read 34 = .ok (.aload_n 0, 1) := by decide +kernel
theorem dX8_read_35 : decode cX8_read 35 = .ok (.getfield 12, 3) := by decide +kernel
theorem dX8_read_38 : decode cX8_read 38 = .ok (.getfield 217, 3) := by decide +kernel
theorem dX8_read_41 : decode cX8_read 41 = .ok (.getfield 230, 3) := by decide +kernel
theorem dX8_read_44 : decode cX8_read 44 = .ok (.ireturn, 1) := by decide +kernel
theorem dX8_treaty_0 : decode cX8_treaty 0 = .ok (.iload_n 1, 1) := by decide +kernel
theorem dX8_treaty_1 : decode cX8_treaty 1 = .ok (.invokestatic 132, 3) := by decide +kernel
theorem dX8_treaty_4 : decode cX8_treaty 4 = .ok (.ifCond .eq 20, 3) := by decide +kernel
theorem dX8_treaty_7 : decode cX8_treaty 7 = .ok (.aload_n 0, 1) := by decide +kernel
theorem dX8_treaty_8 : decode cX8_treaty 8 = .ok (.iload_n 2, 1) := by decide +kernel
theorem dX8_treaty_9 : decode cX8_treaty 9 = .ok (.invokevirtual 101, 3) := by decide +kernel
theorem dX8_treaty_12 : decode cX8_treaty 12 = .ok (.ifCond .eq 12, 3) := by decide +kernel
theorem dX8_treaty_15 : decode cX8_treaty 15 = .ok (.iload_n 3, 1) := by decide +kernel
theorem dX8_treaty_16 : decode cX8_treaty 16 = .ok (.iconst 0, 1) := by decide +kernel
theorem dX8_treaty_17 : decode cX8_treaty 17 = .ok (.iconst 3, 1) := by decide +kernel
theorem dX8_treaty_18 : decode cX8_treaty 18 = .ok (.invokestatic 105, 3) := by decide +kernel
theorem dX8_treaty_21 : decode cX8_treaty 21 = .ok (.ifCond .ne 6, 3) := by decide +kernel
theorem dX8_treaty_24 : decode cX8_treaty 24 = .ok (.ldc 138, 2) := by decide +kernel
theorem dX8_treaty_26 : decode cX8_treaty 26 = .ok (.ireturn, 1) := by decide +kernel
theorem dX8_treaty_27 : decode cX8_treaty 27 = .ok (.aload_n 0, 1) := by decide +kernel
theorem dX8_treaty_28 : decode cX8_treaty 28 = .ok (.getfield 26, 3) := by decide +kernel
theorem dX8_treaty_31 : decode cX8_treaty 31 = .ok (.aload_n 0, 1) := by decide +kernel
theorem dX8_treaty_32 : decode cX8_treaty 32 = .ok (.getfield 12, 3) := by decide +kernel
theorem dX8_treaty_35 : decode cX8_treaty 35 = .ok (.iload_n 1, 1) := by decide +kernel
theorem dX8_treaty_36 : decode cX8_treaty 36 = .ok (.iconst (-1), 1) := by decide +kernel
theorem dX8_treaty_37 : decode cX8_treaty 37 = .ok (.invokevirtual 233, 3) := by decide +kernel
theorem dX8_treaty_40 : decode cX8_treaty 40 = .ok (.pop, 1) := by decide +kernel
theorem dX8_treaty_41 : decode cX8_treaty 41 = .ok (.iload_n 3, 1) := by decide +kernel
theorem dX8_treaty_42 : decode cX8_treaty 42 = .ok (.tableswitch 56 0 2 #[26, 36, 46], 26) := by decide +kernel
theorem dX8_treaty_68 : decode cX8_treaty 68 = .ok (.aload_n 0, 1) := by decide +kernel
theorem dX8_treaty_69 : decode cX8_treaty 69 = .ok (.getfield 26, 3) := by decide +kernel
theorem dX8_treaty_72 : decode cX8_treaty 72 = .ok (.getfield 236, 3) := by decide +kernel
theorem dX8_treaty_75 : decode cX8_treaty 75 = .ok (.iload_n 2, 1) := by decide +kernel
theorem dX8_treaty_76 : decode cX8_treaty 76 = .ok (.iaload, 1) := by decide +kernel
theorem dX8_treaty_77 : decode cX8_treaty 77 = .ok (.ireturn, 1) := by decide +kernel
theorem dX8_treaty_78 : decode cX8_treaty 78 = .ok (.aload_n 0, 1) := by decide +kernel
theorem dX8_treaty_79 : decode cX8_treaty 79 = .ok (.getfield 26, 3) := by decide +kernel
theorem dX8_treaty_82 : decode cX8_treaty 82 = .ok (.getfield 239, 3) := by decide +kernel
theorem dX8_treaty_85 : decode cX8_treaty 85 = .ok (.iload_n 2, 1) := by decide +kernel
theorem dX8_treaty_86 : decode cX8_treaty 86 = .ok (.iaload, 1) := by decide +kernel
theorem dX8_treaty_87 : decode cX8_treaty 87 = .ok (.ireturn, 1) := by decide +kernel
theorem dX8_treaty_88 : decode cX8_treaty 88 = .ok (.aload_n 0, 1) := by decide +kernel
theorem dX8_treaty_89 : decode cX8_treaty 89 = .ok (.getfield 26, 3) := by decide +kernel
theorem dX8_treaty_92 : decode cX8_treaty 92 = .ok (.getfield 143, 3) := by decide +kernel
theorem dX8_treaty_95 : decode cX8_treaty 95 = .ok (.iload_n 2, 1) := by decide +kernel
theorem dX8_treaty_96 : decode cX8_treaty 96 = .ok (.iaload, 1) := by decide +kernel
theorem dX8_treaty_97 : decode cX8_treaty 97 = .ok (.ireturn, 1) := by decide +kernel
theorem dX8_treaty_98 : decode cX8_treaty 98 = .ok (.aload_n 0, 1) := by decide +kernel
theorem dX8_treaty_99 : decode cX8_treaty 99 = .ok (.getfield 26, 3) := by decide +kernel
theorem dX8_treaty_102 : decode cX8_treaty 102 = .ok (.getfield 149, 3) := by decide +kernel
theorem dX8_treaty_105 : decode cX8_treaty 105 = .ok (.iload_n 2, 1) := by decide +kernel
theorem dX8_treaty_106 : decode cX8_treaty 106 = .ok (.iaload, 1) := by decide +kernel
theorem dX8_treaty_107 : decode cX8_treaty 107 = .ok (.ireturn, 1) := by decide +kernel
theorem dX8_lost_0 : decode cX8_lost 0 = .ok (.aload_n 0, 1) := by decide +kernel
theorem dX8_lost_1 : decode cX8_lost 1 = .ok (.invokevirtual 242, 3) := by decide +kernel
theorem dX8_lost_4 : decode cX8_lost 4 = .ok (.aload_n 0, 1) := by decide +kernel
theorem dX8_lost_5 : decode cX8_lost 5 = .ok (.iconst (-1), 1) := by decide +kernel
theorem dX8_lost_6 : decode cX8_lost 6 = .ok (.invokevirtual 245, 3) := by decide +kernel
theorem dX8_lost_9 : decode cX8_lost 9 = .ok (.isub, 1) := by decide +kernel
theorem dX8_lost_10 : decode cX8_lost 10 = .ok (.ireturn, 1) := by decide +kernel
theorem dX8_plain_0 : decode cX8_plain 0 = .ok (.iload_n 1, 1) := by decide +kernel
theorem dX8_plain_1 : decode cX8_plain 1 = .ok (.iconst 0, 1) := by decide +kernel
theorem dX8_plain_2 : decode cX8_plain 2 = .ok (.iconst 1, 1) := by decide +kernel
theorem dX8_plain_3 : decode cX8_plain 3 = .ok (.invokestatic 105, 3) := by decide +kernel
theorem dX8_plain_6 : decode cX8_plain 6 = .ok (.ifCond .ne 5, 3) := by decide +kernel
theorem dX8_plain_9 : decode cX8_plain 9 = .ok (.iconst (-1), 1) := by decide +kernel
theorem dX8_plain_10 : decode cX8_plain 10 = .ok (.ireturn, 1) := by decide +kernel
theorem dX8_plain_11 : decode cX8_plain 11 = .ok (.aload_n 0, 1) := by decide +kernel
theorem dX8_plain_12 : decode cX8_plain 12 = .ok (.invokevirtual 242, 3) := by decide +kernel
theorem dX8_plain_15 : decode cX8_plain 15 = .ok (.istore_n 2, 1) := by decide +kernel
theorem dX8_plain_16 : decode cX8_plain 16 = .ok (.iload_n 2, 1) := by decide +kernel
theorem dX8_plain_17 : decode cX8_plain 17 = .ok (.aload_n 0, 1) := by decide +kernel
theorem dX8_plain_18 : decode cX8_plain 18 = .ok (.iconst 0, 1) := by decide +kernel
theorem dX8_plain_19 : decode cX8_plain 19 = .ok (.invokevirtual 245, 3) := by decide +kernel
theorem dX8_plain_22 : decode cX8_plain 22 = .ok (.isub, 1) := by decide +kernel
theorem dX8_plain_23 : decode cX8_plain 23 = .ok (.istore_n 3, 1) := by decide +kernel
theorem dX8_plain_24 : decode cX8_plain 24 = .ok (.iconst 0, 1) := by decide +kernel
theorem dX8_plain_25 : decode cX8_plain 25 = .ok (.istore 4, 2) := by decide +kernel
theorem dX8_plain_27 : decode cX8_plain 27 = .ok (.iconst 1, 1) := by decide +kernel
theorem dX8_plain_28 : decode cX8_plain 28 = .ok (.istore 5, 2) := by decide +kernel
theorem dX8_plain_30 : decode cX8_plain 30 = .ok (.iload 5, 2) := by decide +kernel
theorem dX8_plain_32 : decode cX8_plain 32 = .ok (.bipush 24, 2) := by decide +kernel
theorem dX8_plain_34 : decode cX8_plain 34 = .ok (.if_icmp .gt 32, 3) := by decide +kernel
theorem dX8_plain_37 : decode cX8_plain 37 = .ok (.iload_n 2, 1) := by decide +kernel
theorem dX8_plain_38 : decode cX8_plain 38 = .ok (.aload_n 0, 1) := by decide +kernel
theorem dX8_plain_39 : decode cX8_plain 39 = .ok (.iload 5, 2) := by decide +kernel
theorem dX8_plain_41 : decode cX8_plain 41 = .ok (.invokevirtual 245, 3) := by decide +kernel
theorem dX8_plain_44 : decode cX8_plain 44 = .ok (.isub, 1) := by decide +kernel
theorem dX8_plain_45 : decode cX8_plain 45 = .ok (.istore 6, 2) := by decide +kernel
theorem dX8_plain_47 : decode cX8_plain 47 = .ok (.iload 6, 2) := by decide +kernel
theorem dX8_plain_49 : decode cX8_plain 49 = .ok (.iload_n 3, 1) := by decide +kernel
theorem dX8_plain_50 : decode cX8_plain 50 = .ok (.if_icmp .ge 10, 3) := by decide +kernel
theorem dX8_plain_53 : decode cX8_plain 53 = .ok (.iload 6, 2) := by decide +kernel
theorem dX8_plain_55 : decode cX8_plain 55 = .ok (.istore_n 3, 1) := by decide +kernel
theorem dX8_plain_56 : decode cX8_plain 56 = .ok (.iload 5, 2) := by decide +kernel
theorem dX8_plain_58 : decode cX8_plain 58 = .ok (.istore 4, 2) := by decide +kernel
theorem dX8_plain_60 : decode cX8_plain 60 = .ok (.iinc 5 1, 3) := by decide +kernel
theorem dX8_plain_63 : decode cX8_plain 63 = .ok (.goto (-33), 3) := by decide +kernel
theorem dX8_plain_66 : decode cX8_plain 66 = .ok (.iload_n 1, 1) := by decide +kernel
theorem dX8_plain_67 : decode cX8_plain 67 = .ok (.ifCond .ne 7, 3) := by decide +kernel
theorem dX8_plain_70 : decode cX8_plain 70 = .ok (.iload_n 3, 1) := by decide +kernel
theorem dX8_plain_71 : decode cX8_plain 71 = .ok (.goto 5, 3) := by decide +kernel
theorem dX8_plain_74 : decode cX8_plain 74 = .ok (.iload 4, 2) := by decide +kernel
theorem dX8_plain_76 : decode cX8_plain 76 = .ok (.ireturn, 1) := by decide +kernel
theorem dX8_breaks_0 : decode cX8_breaks 0 = .ok (.iload_n 1, 1) := by decide +kernel
theorem dX8_breaks_1 : decode cX8_breaks 1 = .ok (.invokestatic 132, 3) := by decide +kernel
theorem dX8_breaks_4 : decode cX8_breaks 4 = .ok (.ifCond .ne 5, 3) := by decide +kernel
theorem dX8_breaks_7 : decode cX8_breaks 7 = .ok (.iconst (-1), 1) := by decide +kernel
theorem dX8_breaks_8 : decode cX8_breaks 8 = .ok (.ireturn, 1) := by decide +kernel
theorem dX8_breaks_9 : decode cX8_breaks 9 = .ok (.aload_n 0, 1) := by decide +kernel
theorem dX8_breaks_10 : decode cX8_breaks 10 = .ok (.getfield 26, 3) := by decide +kernel
theorem dX8_breaks_13 : decode cX8_breaks 13 = .ok (.aload_n 0, 1) := by decide +kernel
theorem dX8_breaks_14 : decode cX8_breaks 14 = .ok (.getfield 12, 3) := by decide +kernel
theorem dX8_breaks_17 : decode cX8_breaks 17 = .ok (.iload_n 1, 1) := by decide +kernel
theorem dX8_breaks_18 : decode cX8_breaks 18 = .ok (.iconst (-1), 1) := by decide +kernel
theorem dX8_breaks_19 : decode cX8_breaks 19 = .ok (.invokevirtual 233, 3) := by decide +kernel
theorem dX8_breaks_22 : decode cX8_breaks 22 = .ok (.pop, 1) := by decide +kernel
theorem dX8_breaks_23 : decode cX8_breaks 23 = .ok (.iconst 0, 1) := by decide +kernel
theorem dX8_breaks_24 : decode cX8_breaks 24 = .ok (.istore_n 2, 1) := by decide +kernel
theorem dX8_breaks_25 : decode cX8_breaks 25 = .ok (.iload_n 2, 1) := by decide +kernel
theorem dX8_breaks_26 : decode cX8_breaks 26 = .ok (.aload_n 0, 1) := by decide +kernel
theorem dX8_breaks_27 : decode cX8_breaks 27 = .ok (.getfield 12, 3) := by decide +kernel
theorem dX8_breaks_30 : decode cX8_breaks 30 = .ok (.getfield 94, 3) := by decide +kernel
theorem dX8_breaks_33 : decode cX8_breaks 33 = .ok (.if_icmp .ge 61, 3) := by decide +kernel
theorem dX8_breaks_36 : decode cX8_breaks 36 = .ok (.aload_n 0, 1) := by decide +kernel
theorem dX8_breaks_37 : decode cX8_breaks 37 = .ok (.getfield 12, 3) := by decide +kernel
theorem dX8_breaks_40 : decode cX8_breaks 40 = .ok (.iload_n 2, 1) := by decide +kernel
theorem dX8_breaks_41 : decode cX8_breaks 41 = .ok (.aload_n 0, 1) := by decide +kernel
theorem dX8_breaks_42 : decode cX8_breaks 42 = .ok (.getfield 26, 3) := by decide +kernel
theorem dX8_breaks_45 : decode cX8_breaks 45 = .ok (.getfield 236, 3) := by decide +kernel
theorem dX8_breaks_48 : decode cX8_breaks 48 = .ok (.iload_n 2, 1) := by decide +kernel
theorem dX8_breaks_49 : decode cX8_breaks 49 = .ok (.iaload, 1) := by decide +kernel
theorem dX8_breaks_50 : decode cX8_breaks 50 = .ok (.invokevirtual 248, 3) := by decide +kernel
theorem dX8_breaks_53 : decode cX8_breaks 53 = .ok (.istore_n 3, 1) := by decide +kernel
theorem dX8_breaks_54 : decode cX8_breaks 54 = .ok (.aload_n 0, 1) := by decide +kernel
theorem dX8_breaks_55 : decode cX8_breaks 55 = .ok (.getfield 12, 3) := by decide +kernel
theorem dX8_breaks_58 : decode cX8_breaks 58 = .ok (.iload_n 2, 1) := by decide +kernel
theorem dX8_breaks_59 : decode cX8_breaks 59 = .ok (.iload_n 3, 1) := by decide +kernel
theorem dX8_breaks_60 : decode cX8_breaks 60 = .ok (.aload_n 0, 1) := by decide +kernel
theorem dX8_breaks_61 : decode cX8_breaks 61 = .ok (.getfield 26, 3) := by decide +kernel
theorem dX8_breaks_64 : decode cX8_breaks 64 = .ok (.getfield 236, 3) := by decide +kernel
theorem dX8_breaks_67 : decode cX8_breaks 67 = .ok (.iload_n 2, 1) := by decide +kernel
theorem dX8_breaks_68 : decode cX8_breaks 68 = .ok (.iaload, 1) := by decide +kernel
theorem dX8_breaks_69 : decode cX8_breaks 69 = .ok (.iload_n 3, 1) := by decide +kernel
theorem dX8_breaks_70 : decode cX8_breaks 70 = .ok (.isub, 1) := by decide +kernel
theorem dX8_breaks_71 : decode cX8_breaks 71 = .ok (.invokevirtual 252, 3) := by decide +kernel
theorem dX8_breaks_74 : decode cX8_breaks 74 = .ok (.aload_n 0, 1) := by decide +kernel
theorem dX8_breaks_75 : decode cX8_breaks 75 = .ok (.getfield 26, 3) := by decide +kernel
theorem dX8_breaks_78 : decode cX8_breaks 78 = .ok (.getfield 149, 3) := by decide +kernel
theorem dX8_breaks_81 : decode cX8_breaks 81 = .ok (.iload_n 2, 1) := by decide +kernel
theorem dX8_breaks_82 : decode cX8_breaks 82 = .ok (.iaload, 1) := by decide +kernel
theorem dX8_breaks_83 : decode cX8_breaks 83 = .ok (.if_icmp .le 5, 3) := by decide +kernel
theorem dX8_breaks_86 : decode cX8_breaks 86 = .ok (.iload_n 2, 1) := by decide +kernel
theorem dX8_breaks_87 : decode cX8_breaks 87 = .ok (.ireturn, 1) := by decide +kernel
theorem dX8_breaks_88 : decode cX8_breaks 88 = .ok (.iinc 2 1, 3) := by decide +kernel
theorem dX8_breaks_91 : decode cX8_breaks 91 = .ok (.goto (-66), 3) := by decide +kernel
theorem dX8_breaks_94 : decode cX8_breaks 94 = .ok (.bipush (-9), 2) := by decide +kernel
theorem dX8_breaks_96 : decode cX8_breaks 96 = .ok (.ireturn, 1) := by decide +kernel
theorem dX8_prove_0 : decode cX8_prove 0 = .ok (.aload_n 0, 1) := by decide +kernel
theorem dX8_prove_1 : decode cX8_prove 1 = .ok (.getfield 26, 3) := by decide +kernel
theorem dX8_prove_4 : decode cX8_prove 4 = .ok (.aload_n 0, 1) := by decide +kernel
theorem dX8_prove_5 : decode cX8_prove 5 = .ok (.getfield 12, 3) := by decide +kernel
theorem dX8_prove_8 : decode cX8_prove 8 = .ok (.bipush 10, 2) := by decide +kernel
theorem dX8_prove_10 : decode cX8_prove 10 = .ok (.invokevirtual 139, 3) := by decide +kernel
theorem dX8_prove_13 : decode cX8_prove 13 = .ok (.iconst 0, 1) := by decide +kernel
theorem dX8_prove_14 : decode cX8_prove 14 = .ok (.istore_n 1, 1) := by decide +kernel
theorem dX8_prove_15 : decode cX8_prove 15 = .ok (.iload_n 1, 1) := by decide +kernel
theorem dX8_prove_16 : decode cX8_prove 16 = .ok (.aload_n 0, 1) := by decide +kernel
theorem dX8_prove_17 : decode cX8_prove 17 = .ok (.getfield 12, 3) := by decide +kernel
theorem dX8_prove_20 : decode cX8_prove 20 = .ok (.getfield 94, 3) := by decide +kernel
theorem dX8_prove_23 : decode cX8_prove 23 = .ok (.if_icmp .ge 52, 3) := by decide +kernel
theorem dX8_prove_26 : decode cX8_prove 26 = .ok (.aload_n 0, 1) := by decide +kernel
theorem dX8_prove_27 : decode cX8_prove 27 = .ok (.getfield 57, 3) := by decide +kernel
theorem dX8_prove_30 : decode cX8_prove 30 = .ok (.iload_n 1, 1) := by decide +kernel
theorem dX8_prove_31 : decode cX8_prove 31 = .ok (.aaload, 1) := by decide +kernel
theorem dX8_prove_32 : decode cX8_prove 32 = .ok (.iconst 0, 1) := by decide +kernel
theorem dX8_prove_33 : decode cX8_prove 33 = .ok (.iload_n 1, 1) := by decide +kernel
theorem dX8_prove_34 : decode cX8_prove 34 = .ok (.iastore, 1) := by decide +kernel
theorem dX8_prove_35 : decode cX8_prove 35 = .ok (.aload_n 0, 1) := by decide +kernel
theorem dX8_prove_36 : decode cX8_prove 36 = .ok (.getfield 57, 3) := by decide +kernel
theorem dX8_prove_39 : decode cX8_prove 39 = .ok (.iload_n 1, 1) := by decide +kernel
theorem dX8_prove_40 : decode cX8_prove 40 = .ok (.aaload, 1) := by decide +kernel
theorem dX8_prove_41 : decode cX8_prove 41 = .ok (.iconst 1, 1) := by decide +kernel
theorem dX8_prove_42 : decode cX8_prove 42 = .ok (.aload_n 0, 1) := by decide +kernel
theorem dX8_prove_43 : decode cX8_prove 43 = .ok (.getfield 26, 3) := by decide +kernel
theorem dX8_prove_46 : decode cX8_prove 46 = .ok (.getfield 143, 3) := by decide +kernel
theorem dX8_prove_49 : decode cX8_prove 49 = .ok (.iload_n 1, 1) := by decide +kernel
theorem dX8_prove_50 : decode cX8_prove 50 = .ok (.iaload, 1) := by decide +kernel
theorem dX8_prove_51 : decode cX8_prove 51 = .ok (.iastore, 1) := by decide +kernel
theorem dX8_prove_52 : decode cX8_prove 52 = .ok (.aload_n 0, 1) := by decide +kernel
theorem dX8_prove_53 : decode cX8_prove 53 = .ok (.getfield 57, 3) := by decide +kernel
theorem dX8_prove_56 : decode cX8_prove 56 = .ok (.iload_n 1, 1) := by decide +kernel
theorem dX8_prove_57 : decode cX8_prove 57 = .ok (.aaload, 1) := by decide +kernel
theorem dX8_prove_58 : decode cX8_prove 58 = .ok (.iconst 2, 1) := by decide +kernel
theorem dX8_prove_59 : decode cX8_prove 59 = .ok (.aload_n 0, 1) := by decide +kernel
theorem dX8_prove_60 : decode cX8_prove 60 = .ok (.getfield 26, 3) := by decide +kernel
theorem dX8_prove_63 : decode cX8_prove 63 = .ok (.getfield 146, 3) := by decide +kernel
theorem dX8_prove_66 : decode cX8_prove 66 = .ok (.iload_n 1, 1) := by decide +kernel
theorem dX8_prove_67 : decode cX8_prove 67 = .ok (.iaload, 1) := by decide +kernel
theorem dX8_prove_68 : decode cX8_prove 68 = .ok (.iastore, 1) := by decide +kernel
theorem dX8_prove_69 : decode cX8_prove 69 = .ok (.iinc 1 1, 3) := by decide +kernel
theorem dX8_prove_72 : decode cX8_prove 72 = .ok (.goto (-57), 3) := by decide +kernel
theorem dX8_prove_75 : decode cX8_prove 75 = .ok (.aload_n 0, 1) := by decide +kernel
theorem dX8_prove_76 : decode cX8_prove 76 = .ok (.aload_n 0, 1) := by decide +kernel
theorem dX8_prove_77 : decode cX8_prove 77 = .ok (.getfield 12, 3) := by decide +kernel
theorem dX8_prove_80 : decode cX8_prove 80 = .ok (.getfield 94, 3) := by decide +kernel
theorem dX8_prove_83 : decode cX8_prove 83 = .ok (.putfield 60, 3) := by decide +kernel
theorem dX8_prove_86 : decode cX8_prove 86 = .ok (.aload_n 0, 1) := by decide +kernel
theorem dX8_prove_87 : decode cX8_prove 87 = .ok (.getfield 60, 3) := by decide +kernel
theorem dX8_prove_90 : decode cX8_prove 90 = .ok (.ireturn, 1) := by decide +kernel
theorem dX8_row_0 : decode cX8_row 0 = .ok (.aload_n 0, 1) := by decide +kernel
theorem dX8_row_1 : decode cX8_row 1 = .ok (.iload_n 1, 1) := by decide +kernel
theorem dX8_row_2 : decode cX8_row 2 = .ok (.iload_n 2, 1) := by decide +kernel
theorem dX8_row_3 : decode cX8_row 3 = .ok (.invokevirtual 256, 3) := by decide +kernel
theorem dX8_row_6 : decode cX8_row 6 = .ok (.ifCond .eq 14, 3) := by decide +kernel
theorem dX8_row_9 : decode cX8_row 9 = .ok (.aload_n 0, 1) := by decide +kernel
theorem dX8_row_10 : decode cX8_row 10 = .ok (.getfield 57, 3) := by decide +kernel
theorem dX8_row_13 : decode cX8_row 13 = .ok (.iload_n 1, 1) := by decide +kernel
theorem dX8_row_14 : decode cX8_row 14 = .ok (.aaload, 1) := by decide +kernel
theorem dX8_row_15 : decode cX8_row 15 = .ok (.iload_n 2, 1) := by decide +kernel
theorem dX8_row_16 : decode cX8_row 16 = .ok (.iaload, 1) := by decide +kernel
theorem dX8_row_17 : decode cX8_row 17 = .ok (.goto 5, 3) := by decide +kernel
theorem dX8_row_20 : decode cX8_row 20 = .ok (.bipush (-9), 2) := by decide +kernel
theorem dX8_row_22 : decode cX8_row 22 = .ok (.ireturn, 1) := by decide +kernel
theorem dX8_alterRow_0 : decode cX8_alterRow 0 = .ok (.aload_n 0, 1) := by decide +kernel
theorem dX8_alterRow_1 : decode cX8_alterRow 1 = .ok (.iload_n 1, 1) := by decide +kernel
theorem dX8_alterRow_2 : decode cX8_alterRow 2 = .ok (.iload_n 2, 1) := by decide +kernel
theorem dX8_alterRow_3 : decode cX8_alterRow 3 = .ok (.invokevirtual 256, 3) := by decide +kernel
theorem dX8_alterRow_6 : decode cX8_alterRow 6 = .ok (.ifCond .ne 6, 3) := by decide +kernel
theorem dX8_alterRow_9 : decode cX8_alterRow 9 = .ok (.bipush (-9), 2) := by decide +kernel
theorem dX8_alterRow_11 : decode cX8_alterRow 11 = .ok (.ireturn, 1) := by decide +kernel
theorem dX8_alterRow_12 : decode cX8_alterRow 12 = .ok (.aload_n 0, 1) := by decide +kernel
theorem dX8_alterRow_13 : decode cX8_alterRow 13 = .ok (.getfield 57, 3) := by decide +kernel
theorem dX8_alterRow_16 : decode cX8_alterRow 16 = .ok (.iload_n 1, 1) := by decide +kernel
theorem dX8_alterRow_17 : decode cX8_alterRow 17 = .ok (.aaload, 1) := by decide +kernel
theorem dX8_alterRow_18 : decode cX8_alterRow 18 = .ok (.iload_n 2, 1) := by decide +kernel
theorem dX8_alterRow_19 : decode cX8_alterRow 19 = .ok (.iaload, 1) := by decide +kernel
theorem dX8_alterRow_20 : decode cX8_alterRow 20 = .ok (.istore 4, 2) := by decide +kernel
theorem dX8_alterRow_22 : decode cX8_alterRow 22 = .ok (.aload_n 0, 1) := by decide +kernel
theorem dX8_alterRow_23 : decode cX8_alterRow 23 = .ok (.getfield 57, 3) := by decide +kernel
theorem dX8_alterRow_26 : decode cX8_alterRow 26 = .ok (.iload_n 1, 1) := by decide +kernel
theorem dX8_alterRow_27 : decode cX8_alterRow 27 = .ok (.aaload, 1) := by decide +kernel
theorem dX8_alterRow_28 : decode cX8_alterRow 28 = .ok (.iload_n 2, 1) := by decide +kernel
theorem dX8_alterRow_29 : decode cX8_alterRow 29 = .ok (.iload_n 3, 1) := by decide +kernel
theorem dX8_alterRow_30 : decode cX8_alterRow 30 = .ok (.iastore, 1) := by decide +kernel
theorem dX8_alterRow_31 : decode cX8_alterRow 31 = .ok (.iload 4, 2) := by decide +kernel
theorem dX8_alterRow_33 : decode cX8_alterRow 33 = .ok (.ireturn, 1) := by decide +kernel
theorem dX8_judge_0 : decode cX8_judge 0 = .ok (.aload_n 0, 1) := by decide +kernel
theorem dX8_judge_1 : decode cX8_judge 1 = .ok (.bipush 10, 2) := by decide +kernel
theorem dX8_judge_3 : decode cX8_judge 3 = .ok (.invokevirtual 135, 3) := by decide +kernel
theorem dX8_judge_6 : decode cX8_judge 6 = .ok (.istore_n 1, 1) := by decide +kernel
theorem dX8_judge_7 : decode cX8_judge 7 = .ok (.iconst 0, 1) := by decide +kernel
theorem dX8_judge_8 : decode cX8_judge 8 = .ok (.istore_n 2, 1) := by decide +kernel
theorem dX8_judge_9 : decode cX8_judge 9 = .ok (.iconst 0, 1) := by decide +kernel
theorem dX8_judge_10 : decode cX8_judge 10 = .ok (.istore_n 3, 1) := by decide +kernel
theorem dX8_judge_11 : decode cX8_judge 11 = .ok (.iconst 0, 1) := by decide +kernel
theorem dX8_judge_12 : decode cX8_judge 12 = .ok (.istore 4, 2) := by decide +kernel
theorem dX8_judge_14 : decode cX8_judge 14 = .ok (.iload 4, 2) := by decide +kernel
theorem dX8_judge_16 : decode cX8_judge 16 = .ok (.aload_n 0, 1) := by decide +kernel
theorem dX8_judge_17 : decode cX8_judge 17 = .ok (.getfield 60, 3) := by decide +kernel
theorem dX8_judge_20 : decode cX8_judge 20 = .ok (.if_icmp .ge 56, 3) := by decide +kernel
theorem dX8_judge_23 : decode cX8_judge 23 = .ok (.aload_n 0, 1) := by decide +kernel
theorem dX8_judge_24 : decode cX8_judge 24 = .ok (.iload 4, 2) := by decide +kernel
theorem dX8_judge_26 : decode cX8_judge 26 = .ok (.iload_n 2, 1) := by decide +kernel
theorem dX8_judge_27 : decode cX8_judge 27 = .ok (.invokevirtual 259, 3) := by decide +kernel
theorem dX8_judge_30 : decode cX8_judge 30 = .ok (.ifCond .ne 8, 3) := by decide +kernel
theorem dX8_judge_33 : decode cX8_judge 33 = .ok (.iload 4, 2) := by decide +kernel
theorem dX8_judge_35 : decode cX8_judge 35 = .ok (.iconst 1, 1) := by decide +kernel
theorem dX8_judge_36 : decode cX8_judge 36 = .ok (.iadd, 1) := by decide +kernel
theorem dX8_judge_37 : decode cX8_judge 37 = .ok (.ireturn, 1) := by decide +kernel
theorem dX8_judge_38 : decode cX8_judge 38 = .ok (.aload_n 0, 1) := by decide +kernel
theorem dX8_judge_39 : decode cX8_judge 39 = .ok (.getfield 57, 3) := by decide +kernel
theorem dX8_judge_42 : decode cX8_judge 42 = .ok (.iload 4, 2) := by decide +kernel
theorem dX8_judge_44 : decode cX8_judge 44 = .ok (.aaload, 1) := by decide +kernel
theorem dX8_judge_45 : decode cX8_judge 45 = .ok (.iconst 2, 1) := by decide +kernel
theorem dX8_judge_46 : decode cX8_judge 46 = .ok (.iaload, 1) := by decide +kernel
theorem dX8_judge_47 : decode cX8_judge 47 = .ok (.istore_n 2, 1) := by decide +kernel
theorem dX8_judge_48 : decode cX8_judge 48 = .ok (.iload_n 3, 1) := by decide +kernel
theorem dX8_judge_49 : decode cX8_judge 49 = .ok (.aload_n 0, 1) := by decide +kernel
theorem dX8_judge_50 : decode cX8_judge 50 = .ok (.getfield 12, 3) := by decide +kernel
theorem dX8_judge_53 : decode cX8_judge 53 = .ok (.iload 4, 2) := by decide +kernel
theorem dX8_judge_55 : decode cX8_judge 55 = .ok (.aload_n 0, 1) := by decide +kernel
theorem dX8_judge_56 : decode cX8_judge 56 = .ok (.getfield 57, 3) := by decide +kernel
theorem dX8_judge_59 : decode cX8_judge 59 = .ok (.iload 4, 2) := by decide +kernel
theorem dX8_judge_61 : decode cX8_judge 61 = .ok (.aaload, 1) := by decide +kernel
theorem dX8_judge_62 : decode cX8_judge 62 = .ok (.iconst 1, 1) := by decide +kernel
theorem dX8_judge_63 : decode cX8_judge 63 = .ok (.iaload, 1) := by decide +kernel
theorem dX8_judge_64 : decode cX8_judge 64 = .ok (.iload_n 2, 1) := by decide +kernel
theorem dX8_judge_65 : decode cX8_judge 65 = .ok (.invokevirtual 252, 3) := by decide +kernel
theorem dX8_judge_68 : decode cX8_judge 68 = .ok (.iadd, 1) := by decide +kernel
theorem dX8_judge_69 : decode cX8_judge 69 = .ok (.istore_n 3, 1) := by decide +kernel
theorem dX8_judge_70 : decode cX8_judge 70 = .ok (.iinc 4 1, 3) := by decide +kernel
theorem dX8_judge_73 : decode cX8_judge 73 = .ok (.goto (-59), 3) := by decide +kernel
theorem dX8_judge_76 : decode cX8_judge 76 = .ok (.aload_n 0, 1) := by decide +kernel
theorem dX8_judge_77 : decode cX8_judge 77 = .ok (.getfield 60, 3) := by decide +kernel
theorem dX8_judge_80 : decode cX8_judge 80 = .ok (.aload_n 0, 1) := by decide +kernel
theorem dX8_judge_81 : decode cX8_judge 81 = .ok (.getfield 12, 3) := by decide +kernel
theorem dX8_judge_84 : decode cX8_judge 84 = .ok (.getfield 94, 3) := by decide +kernel
theorem dX8_judge_87 : decode cX8_judge 87 = .ok (.if_icmp .eq 6, 3) := by decide +kernel
theorem dX8_judge_90 : decode cX8_judge 90 = .ok (.bipush 21, 2) := by decide +kernel
theorem dX8_judge_92 : decode cX8_judge 92 = .ok (.ireturn, 1) := by decide +kernel
theorem dX8_judge_93 : decode cX8_judge 93 = .ok (.iload_n 3, 1) := by decide +kernel
theorem dX8_judge_94 : decode cX8_judge 94 = .ok (.iload_n 1, 1) := by decide +kernel
theorem dX8_judge_95 : decode cX8_judge 95 = .ok (.if_icmp .ge 8, 3) := by decide +kernel
theorem dX8_judge_98 : decode cX8_judge 98 = .ok (.bipush 22, 2) := by decide +kernel
theorem dX8_judge_100 : decode cX8_judge 100 = .ok (.goto 4, 3) := by decide +kernel
theorem dX8_judge_103 : decode cX8_judge 103 = .ok (.iconst 0, 1) := by decide +kernel
theorem dX8_judge_104 : decode cX8_judge 104 = .ok (.ireturn, 1) := by decide +kernel
theorem dX8_sheet_0 : decode cX8_sheet 0 = .ok (.iload_n 1, 1) := by decide +kernel
theorem dX8_sheet_1 : decode cX8_sheet 1 = .ok (.invokestatic 112, 3) := by decide +kernel
theorem dX8_sheet_4 : decode cX8_sheet 4 = .ok (.ifCond .eq 12, 3) := by decide +kernel
theorem dX8_sheet_7 : decode cX8_sheet 7 = .ok (.iload_n 2, 1) := by decide +kernel
theorem dX8_sheet_8 : decode cX8_sheet 8 = .ok (.iconst (-1), 1) := by decide +kernel
theorem dX8_sheet_9 : decode cX8_sheet 9 = .ok (.iconst 3, 1) := by decide +kernel
theorem dX8_sheet_10 : decode cX8_sheet 10 = .ok (.invokestatic 105, 3) := by decide +kernel
theorem dX8_sheet_13 : decode cX8_sheet 13 = .ok (.ifCond .ne 5, 3) := by decide +kernel
theorem dX8_sheet_16 : decode cX8_sheet 16 = .ok (.iconst (-1), 1) := by decide +kernel
theorem dX8_sheet_17 : decode cX8_sheet 17 = .ok (.ireturn, 1) := by decide +kernel
theorem dX8_sheet_18 : decode cX8_sheet 18 = .ok (.iload_n 2, 1) := by decide +kernel
theorem dX8_sheet_19 : decode cX8_sheet 19 = .ok (.iconst (-1), 1) := by decide +kernel
theorem dX8_sheet_20 : decode cX8_sheet 20 = .ok (.if_icmp .ne 16, 3) := by decide +kernel
theorem dX8_sheet_23 : decode cX8_sheet 23 = .ok (.aload_n 0, 1) := by decide +kernel
theorem dX8_sheet_24 : decode cX8_sheet 24 = .ok (.getfield 66, 3) := by decide +kernel
theorem dX8_sheet_27 : decode cX8_sheet 27 = .ok (.iload_n 1, 1) := by decide +kernel
theorem dX8_sheet_28 : decode cX8_sheet 28 = .ok (.aaload, 1) := by decide +kernel
theorem dX8_sheet_29 : decode cX8_sheet 29 = .ok (.iconst (-1), 1) := by decide +kernel
theorem dX8_sheet_30 : decode cX8_sheet 30 = .ok (.iconst 0, 1) := by decide +kernel
theorem dX8_sheet_31 : decode cX8_sheet 31 = .ok (.invokevirtual 262, 3) := by decide +kernel
theorem dX8_sheet_34 : decode cX8_sheet 34 = .ok (.iconst 1, 1) := by decide +kernel
theorem dX8_sheet_35 : decode cX8_sheet 35 = .ok (.ireturn, 1) := by decide +kernel
theorem dX8_sheet_36 : decode cX8_sheet 36 = .ok (.iload_n 3, 1) := by decide +kernel
theorem dX8_sheet_37 : decode cX8_sheet 37 = .ok (.bipush 40, 2) := by decide +kernel
theorem dX8_sheet_39 : decode cX8_sheet 39 = .ok (.if_icmp .le 5, 3) := by decide +kernel
theorem dX8_sheet_42 : decode cX8_sheet 42 = .ok (.iconst (-1), 1) := by decide +kernel
theorem dX8_sheet_43 : decode cX8_sheet 43 = .ok (.ireturn, 1) := by decide +kernel
theorem dX8_sheet_44 : decode cX8_sheet 44 = .ok (.iload_n 3, 1) := by decide +kernel
theorem dX8_sheet_45 : decode cX8_sheet 45 = .ok (.ifCond .ge 6, 3) := by decide +kernel
theorem dX8_sheet_48 : decode cX8_sheet 48 = .ok (.bipush (-14), 2) := by decide +kernel
theorem dX8_sheet_50 : decode cX8_sheet 50 = .ok (.ireturn, 1) := by decide +kernel
theorem dX8_sheet_51 : decode cX8_sheet 51 = .ok (.aload_n 0, 1) := by decide +kernel
theorem dX8_sheet_52 : decode cX8_sheet 52 = .ok (.getfield 66, 3) := by decide +kernel
theorem dX8_sheet_55 : decode cX8_sheet 55 = .ok (.iload_n 1, 1) := by decide +kernel
theorem dX8_sheet_56 : decode cX8_sheet 56 = .ok (.aaload, 1) := by decide +kernel
theorem dX8_sheet_57 : decode cX8_sheet 57 = .ok (.iload_n 2, 1) := by decide +kernel
theorem dX8_sheet_58 : decode cX8_sheet 58 = .ok (.iload_n 3, 1) := by decide +kernel
theorem dX8_sheet_59 : decode cX8_sheet 59 = .ok (.invokevirtual 262, 3) := by decide +kernel
theorem dX8_sheet_62 : decode cX8_sheet 62 = .ok (.iconst 1, 1) := by decide +kernel
theorem dX8_sheet_63 : decode cX8_sheet 63 = .ok (.ireturn, 1) := by decide +kernel
theorem dX8_put_0 : decode cX8_put 0 = .ok (.iload_n 1, 1) := by decide +kernel
theorem dX8_put_1 : decode cX8_put 1 = .ok (.invokestatic 112, 3) := by decide +kernel
theorem dX8_put_4 : decode cX8_put 4 = .ok (.ifCond .ne 5, 3) := by decide +kernel
theorem dX8_put_7 : decode cX8_put 7 = .ok (.iconst (-1), 1) := by decide +kernel
theorem dX8_put_8 : decode cX8_put 8 = .ok (.ireturn, 1) := by decide +kernel
theorem dX8_put_9 : decode cX8_put 9 = .ok (.aload_n 0, 1) := by decide +kernel
theorem dX8_put_10 : decode cX8_put 10 = .ok (.getfield 66, 3) := by decide +kernel
theorem dX8_put_13 : decode cX8_put 13 = .ok (.iload_n 1, 1) := by decide +kernel
theorem dX8_put_14 : decode cX8_put 14 = .ok (.aaload, 1) := by decide +kernel
theorem dX8_put_15 : decode cX8_put 15 = .ok (.astore 4, 2) := by decide +kernel
theorem dX8_put_17 : decode cX8_put 17 = .ok (.aload 4, 2) := by decide +kernel
theorem dX8_put_19 : decode cX8_put 19 = .ok (.getfield 266, 3) := by decide +kernel
theorem dX8_put_22 : decode cX8_put 22 = .ok (.iconst (-1), 1) := by decide +kernel
theorem dX8_put_23 : decode cX8_put 23 = .ok (.if_icmp .ne 6, 3) := by decide +kernel
theorem dX8_put_26 : decode cX8_put 26 = .ok (.bipush (-11), 2) := by decide +kernel
theorem dX8_put_28 : decode cX8_put 28 = .ok (.ireturn, 1) := by decide +kernel
theorem dX8_put_29 : decode cX8_put 29 = .ok (.aload 4, 2) := by decide +kernel
theorem dX8_put_31 : decode cX8_put 31 = .ok (.iload_n 2, 1) := by decide +kernel
theorem dX8_put_32 : decode cX8_put 32 = .ok (.invokevirtual 269, 3) := by decide +kernel
theorem dX8_put_35 : decode cX8_put 35 = .ok (.ifCond .ne 6, 3) := by decide +kernel
theorem dX8_put_38 : decode cX8_put 38 = .ok (.bipush (-12), 2) := by decide +kernel
theorem dX8_put_40 : decode cX8_put 40 = .ok (.ireturn, 1) := by decide +kernel
theorem dX8_put_41 : decode cX8_put 41 = .ok (.aload 4, 2) := by decide +kernel
theorem dX8_put_43 : decode cX8_put 43 = .ok (.getfield 122, 3) := by decide +kernel
theorem dX8_put_46 : decode cX8_put 46 = .ok (.iload_n 2, 1) := by decide +kernel
theorem dX8_put_47 : decode cX8_put 47 = .ok (.aload 4, 2) := by decide +kernel
theorem dX8_put_49 : decode cX8_put 49 = .ok (.iload_n 3, 1) := by decide +kernel
theorem dX8_put_50 : decode cX8_put 50 = .ok (.invokevirtual 272, 3) := by decide +kernel
theorem dX8_put_53 : decode cX8_put 53 = .ok (.iastore, 1) := by decide +kernel
theorem dX8_put_54 : decode cX8_put 54 = .ok (.iconst 1, 1) := by decide +kernel
theorem dX8_put_55 : decode cX8_put 55 = .ok (.ireturn, 1) := by decide +kernel
theorem dX8_item_0 : decode cX8_item 0 = .ok (.iload_n 1, 1) := by decide +kernel
theorem dX8_item_1 : decode cX8_item 1 = .ok (.invokestatic 112, 3) := by decide +kernel
theorem dX8_item_4 : decode cX8_item 4 = .ok (.ifCond .eq 12, 3) := by decide +kernel
theorem dX8_item_7 : decode cX8_item 7 = .ok (.iload_n 2, 1) := by decide +kernel
theorem dX8_item_8 : decode cX8_item 8 = .ok (.iconst 0, 1) := by decide +kernel
theorem dX8_item_9 : decode cX8_item 9 = .ok (.iconst 3, 1) := by decide +kernel
theorem dX8_item_10 : decode cX8_item 10 = .ok (.invokestatic 105, 3) := by decide +kernel
theorem dX8_item_13 : decode cX8_item 13 = .ok (.ifCond .ne 5, 3) := by decide +kernel
theorem dX8_item_16 : decode cX8_item 16 = .ok (.iconst (-1), 1) := by decide +kernel
theorem dX8_item_17 : decode cX8_item 17 = .ok (.ireturn, 1) := by decide +kernel
theorem dX8_item_18 : decode cX8_item 18 = .ok (.aload_n 0, 1) := by decide +kernel
theorem dX8_item_19 : decode cX8_item 19 = .ok (.getfield 66, 3) := by decide +kernel
theorem dX8_item_22 : decode cX8_item 22 = .ok (.iload_n 1, 1) := by decide +kernel
theorem dX8_item_23 : decode cX8_item 23 = .ok (.aaload, 1) := by decide +kernel
theorem dX8_item_24 : decode cX8_item 24 = .ok (.astore 4, 2) := by decide +kernel
theorem dX8_item_26 : decode cX8_item 26 = .ok (.aload 4, 2) := by decide +kernel
theorem dX8_item_28 : decode cX8_item 28 = .ok (.iload_n 2, 1) := by decide +kernel
theorem dX8_item_29 : decode cX8_item 29 = .ok (.invokevirtual 115, 3) := by decide +kernel
theorem dX8_item_32 : decode cX8_item 32 = .ok (.istore 5, 2) := by decide +kernel
theorem dX8_item_34 : decode cX8_item 34 = .ok (.iload 5, 2) := by decide +kernel
theorem dX8_item_36 : decode cX8_item 36 = .ok (.ifCond .eq 6, 3) := by decide +kernel
theorem dX8_item_39 : decode cX8_item 39 = .ok (.iload 5, 2) := by decide +kernel
theorem dX8_item_41 : decode cX8_item 41 = .ok (.ireturn, 1) := by decide +kernel
theorem dX8_item_42 : decode cX8_item 42 = .ok (.aload 4, 2) := by decide +kernel
theorem dX8_item_44 : decode cX8_item 44 = .ok (.iload_n 3, 1) := by decide +kernel
theorem dX8_item_45 : decode cX8_item 45 = .ok (.invokevirtual 269, 3) := by decide +kernel
theorem dX8_item_48 : decode cX8_item 48 = .ok (.ifCond .eq 13, 3) := by decide +kernel
theorem dX8_item_51 : decode cX8_item 51 = .ok (.aload 4, 2) := by decide +kernel
theorem dX8_item_53 : decode cX8_item 53 = .ok (.getfield 122, 3) := by decide +kernel
theorem dX8_item_56 : decode cX8_item 56 = .ok (.iload_n 3, 1) := by decide +kernel
theorem dX8_item_57 : decode cX8_item 57 = .ok (.iaload, 1) := by decide +kernel
theorem dX8_item_58 : decode cX8_item 58 = .ok (.goto 5, 3) := by decide +kernel
theorem dX8_item_61 : decode cX8_item 61 = .ok (.bipush (-12), 2) := by decide +kernel
theorem dX8_item_63 : decode cX8_item 63 = .ok (.ireturn, 1) := by decide +kernel
theorem dX8_flows_0 : decode cX8_flows 0 = .ok (.aload_n 0, 1) := by decide +kernel
theorem dX8_flows_1 : decode cX8_flows 1 = .ok (.iload_n 1, 1) := by decide +kernel
theorem dX8_flows_2 : decode cX8_flows 2 = .ok (.invokevirtual 101, 3) := by decide +kernel
theorem dX8_flows_5 : decode cX8_flows 5 = .ok (.ifCond .eq 21, 3) := by decide +kernel
theorem dX8_flows_8 : decode cX8_flows 8 = .ok (.iload_n 2, 1) := by decide +kernel
theorem dX8_flows_9 : decode cX8_flows 9 = .ok (.invokestatic 112, 3) := by decide +kernel
theorem dX8_flows_12 : decode cX8_flows 12 = .ok (.ifCond .eq 14, 3) := by decide +kernel
theorem dX8_flows_15 : decode cX8_flows 15 = .ok (.iload 4, 2) := by decide +kernel
theorem dX8_flows_17 : decode cX8_flows 17 = .ok (.iconst 0, 1) := by decide +kernel
theorem dX8_flows_18 : decode cX8_flows 18 = .ok (.bipush 6, 2) := by decide +kernel
theorem dX8_flows_20 : decode cX8_flows 20 = .ok (.invokestatic 105, 3) := by decide +kernel
theorem dX8_flows_23 : decode cX8_flows 23 = .ok (.ifCond .ne 5, 3) := by decide +kernel
theorem dX8_flows_26 : decode cX8_flows 26 = .ok (.iconst (-1), 1) := by decide +kernel
theorem dX8_flows_27 : decode cX8_flows 27 = .ok (.ireturn, 1) := by decide +kernel
theorem dX8_flows_28 : decode cX8_flows 28 = .ok (.aload_n 0, 1) := by decide +kernel
theorem dX8_flows_29 : decode cX8_flows 29 = .ok (.getfield 66, 3) := by decide +kernel
theorem dX8_flows_32 : decode cX8_flows 32 = .ok (.iload_n 2, 1) := by decide +kernel
theorem dX8_flows_33 : decode cX8_flows 33 = .ok (.aaload, 1) := by decide +kernel
theorem dX8_flows_34 : decode cX8_flows 34 = .ok (.astore 5, 2) := by decide +kernel
theorem dX8_flows_36 : decode cX8_flows 36 = .ok (.aload 5, 2) := by decide +kernel
theorem dX8_flows_38 : decode cX8_flows 38 = .ok (.iconst 1, 1) := by decide +kernel
theorem dX8_flows_39 : decode cX8_flows 39 = .ok (.invokevirtual 115, 3) := by decide +kernel
theorem dX8_flows_42 : decode cX8_flows 42 = .ok (.istore 6, 2) := by decide +kernel
theorem dX8_flows_44 : decode cX8_flows 44 = .ok (.iload 6, 2) := by decide +kernel
theorem dX8_flows_46 : decode cX8_flows 46 = .ok (.ifCond .eq 6, 3) := by decide +kernel
theorem dX8_flows_49 : decode cX8_flows 49 = .ok (.iload 6, 2) := by decide +kernel
theorem dX8_flows_51 : decode cX8_flows 51 = .ok (.ireturn, 1) := by decide +kernel
theorem dX8_flows_52 : decode cX8_flows 52 = .ok (.iconst 0, 1) := by decide +kernel
theorem dX8_flows_53 : decode cX8_flows 53 = .ok (.istore 7, 2) := by decide +kernel
theorem dX8_flows_55 : decode cX8_flows 55 = .ok (.iconst 0, 1) := by decide +kernel
theorem dX8_flows_56 : decode cX8_flows 56 = .ok (.istore 8, 2) := by decide +kernel
theorem dX8_flows_58 : decode cX8_flows 58 = .ok (.iload 8, 2) := by decide +kernel
theorem dX8_flows_60 : decode cX8_flows 60 = .ok (.iload 4, 2) := by decide +kernel
theorem dX8_flows_62 : decode cX8_flows 62 = .ok (.if_icmp .ge 79, 3) := by decide +kernel
theorem dX8_flows_65 : decode cX8_flows 65 = .ok (.aload 5, 2) := by decide +kernel
theorem dX8_flows_67 : decode cX8_flows 67 = .ok (.iload_n 3, 1) := by decide +kernel
theorem dX8_flows_68 : decode cX8_flows 68 = .ok (.iload 8, 2) := by decide +kernel
theorem dX8_flows_70 : decode cX8_flows 70 = .ok (.iadd, 1) := by decide +kernel
theorem dX8_flows_71 : decode cX8_flows 71 = .ok (.invokevirtual 269, 3) := by decide +kernel
theorem dX8_flows_74 : decode cX8_flows 74 = .ok (.ifCond .ne 6, 3) := by decide +kernel
theorem dX8_flows_77 : decode cX8_flows 77 = .ok (.bipush (-12), 2) := by decide +kernel
theorem dX8_flows_79 : decode cX8_flows 79 = .ok (.ireturn, 1) := by decide +kernel
theorem dX8_flows_80 : decode cX8_flows 80 = .ok (.aload_n 0, 1) := by decide +kernel
theorem dX8_flows_81 : decode cX8_flows 81 = .ok (.iload_n 1, 1) := by decide +kernel
theorem dX8_flows_82 : decode cX8_flows 82 = .ok (.iload 8, 2) := by decide +kernel
theorem dX8_flows_84 : decode cX8_flows 84 = .ok (.iadd, 1) := by decide +kernel
theorem dX8_flows_85 : decode cX8_flows 85 = .ok (.invokevirtual 101, 3) := by decide +kernel
theorem dX8_flows_88 : decode cX8_flows 88 = .ok (.ifCond .eq 47, 3) := by decide +kernel
theorem dX8_flows_91 : decode cX8_flows 91 = .ok (.iconst 0, 1) := by decide +kernel
theorem dX8_flows_92 : decode cX8_flows 92 = .ok (.aload 5, 2) := by decide +kernel
theorem dX8_flows_94 : decode cX8_flows 94 = .ok (.getfield 122, 3) := by decide +kernel
theorem dX8_flows_97 : decode cX8_flows 97 = .ok (.iload_n 3, 1) := by decide +kernel
theorem dX8_flows_98 : decode cX8_flows 98 = .ok (.iload 8, 2) := by decide +kernel
theorem dX8_flows_100 : decode cX8_flows 100 = .ok (.iadd, 1) := by decide +kernel
theorem dX8_flows_101 : decode cX8_flows 101 = .ok (.iaload, 1) := by decide +kernel
theorem dX8_flows_102 : decode cX8_flows 102 = .ok (.invokestatic 90, 3) := by decide +kernel
theorem dX8_flows_105 : decode cX8_flows 105 = .ok (.ifCond .eq 30, 3) := by decide +kernel
theorem dX8_flows_108 : decode cX8_flows 108 = .ok (.aload_n 0, 1) := by decide +kernel
theorem dX8_flows_109 : decode cX8_flows 109 = .ok (.getfield 12, 3) := by decide +kernel
theorem dX8_flows_112 : decode cX8_flows 112 = .ok (.getfield 109, 3) := by decide +kernel
theorem dX8_flows_115 : decode cX8_flows 115 = .ok (.iload_n 1, 1) := by decide +kernel
theorem dX8_flows_116 : decode cX8_flows 116 = .ok (.iload 8, 2) := by decide +kernel
theorem dX8_flows_118 : decode cX8_flows 118 = .ok (.iadd, 1) := by decide +kernel
theorem dX8_flows_119 : decode cX8_flows 119 = .ok (.aaload, 1) := by decide +kernel
theorem dX8_flows_120 : decode cX8_flows 120 = .ok (.iconst 0, 1) := by decide +kernel
theorem dX8_flows_121 : decode cX8_flows 121 = .ok (.aload 5, 2) := by decide +kernel
theorem dX8_flows_123 : decode cX8_flows 123 = .ok (.getfield 122, 3) := by decide +kernel
theorem dX8_flows_126 : decode cX8_flows 126 = .ok (.iload_n 3, 1) := by decide +kernel
theorem dX8_flows_127 : decode cX8_flows 127 = .ok (.iload 8, 2) := by decide +kernel
theorem dX8_flows_129 : decode cX8_flows 129 = .ok (.iadd, 1) := by decide +kernel
theorem dX8_flows_130 : decode cX8_flows 130 = .ok (.iaload, 1) := by decide +kernel
theorem dX8_flows_131 : decode cX8_flows 131 = .ok (.iastore, 1) := by decide +kernel
theorem dX8_flows_132 : decode cX8_flows 132 = .ok (.iinc 7 1, 3) := by decide +kernel
theorem dX8_flows_135 : decode cX8_flows 135 = .ok (.iinc 8 1, 3) := by decide +kernel
theorem dX8_flows_138 : decode cX8_flows 138 = .ok (.goto (-80), 3) := by decide +kernel
theorem dX8_flows_141 : decode cX8_flows 141 = .ok (.iload 7, 2) := by decide +kernel
theorem dX8_flows_143 : decode cX8_flows 143 = .ok (.ireturn, 1) := by decide +kernel
theorem dX8_shelf_0 : decode cX8_shelf 0 = .ok (.iload_n 1, 1) := by decide +kernel
theorem dX8_shelf_1 : decode cX8_shelf 1 = .ok (.invokestatic 275, 3) := by decide +kernel
theorem dX8_shelf_4 : decode cX8_shelf 4 = .ok (.ifCond .eq 13, 3) := by decide +kernel
theorem dX8_shelf_7 : decode cX8_shelf 7 = .ok (.iload_n 2, 1) := by decide +kernel
theorem dX8_shelf_8 : decode cX8_shelf 8 = .ok (.iconst 0, 1) := by decide +kernel
theorem dX8_shelf_9 : decode cX8_shelf 9 = .ok (.bipush 8, 2) := by decide +kernel
theorem dX8_shelf_11 : decode cX8_shelf 11 = .ok (.invokestatic 105, 3) := by decide +kernel
theorem dX8_shelf_14 : decode cX8_shelf 14 = .ok (.ifCond .ne 5, 3) := by decide +kernel
theorem dX8_shelf_17 : decode cX8_shelf 17 = .ok (.iconst (-1), 1) := by decide +kernel
theorem dX8_shelf_18 : decode cX8_shelf 18 = .ok (.ireturn, 1) := by decide +kernel
theorem dX8_shelf_19 : decode cX8_shelf 19 = .ok (.iload_n 2, 1) := by decide +kernel
theorem dX8_shelf_20 : decode cX8_shelf 20 = .ok (.bipush 6, 2) := by decide +kernel
theorem dX8_shelf_22 : decode cX8_shelf 22 = .ok (.if_icmp .gt 11, 3) := by decide +kernel
theorem dX8_shelf_25 : decode cX8_shelf 25 = .ok (.aload_n 0, 1) := by decide +kernel
theorem dX8_shelf_26 : decode cX8_shelf 26 = .ok (.iload_n 3, 1) := by decide +kernel
theorem dX8_shelf_27 : decode cX8_shelf 27 = .ok (.invokevirtual 101, 3) := by decide +kernel
theorem dX8_shelf_30 : decode cX8_shelf 30 = .ok (.ifCond .eq 16, 3) := by decide +kernel
theorem dX8_shelf_33 : decode cX8_shelf 33 = .ok (.iload_n 2, 1) := by decide +kernel
theorem dX8_shelf_34 : decode cX8_shelf 34 = .ok (.bipush 7, 2) := by decide +kernel
theorem dX8_shelf_36 : decode cX8_shelf 36 = .ok (.if_icmp .ne 12, 3) := by decide +kernel
theorem dX8_shelf_39 : decode cX8_shelf 39 = .ok (.iload_n 3, 1) := by decide +kernel
theorem dX8_shelf_40 : decode cX8_shelf 40 = .ok (.invokestatic 112, 3) := by decide +kernel
theorem dX8_shelf_43 : decode cX8_shelf 43 = .ok (.ifCond .ne 5, 3) := by decide +kernel
theorem dX8_shelf_46 : decode cX8_shelf 46 = .ok (.iconst (-1), 1) := by decide +kernel
theorem dX8_shelf_47 : decode cX8_shelf 47 = .ok (.ireturn, 1) := by decide +kernel
theorem dX8_shelf_48 : decode cX8_shelf 48 = .ok (.aload_n 0, 1) := by decide +kernel
theorem dX8_shelf_49 : decode cX8_shelf 49 = .ok (.getfield 70, 3) := by decide +kernel
theorem dX8_shelf_52 : decode cX8_shelf 52 = .ok (.iload_n 1, 1) := by decide +kernel
theorem dX8_shelf_53 : decode cX8_shelf 53 = .ok (.iconst (-1), 1) := by decide +kernel
theorem dX8_shelf_54 : decode cX8_shelf 54 = .ok (.iastore, 1) := by decide +kernel
theorem dX8_shelf_55 : decode cX8_shelf 55 = .ok (.iload_n 2, 1) := by decide +kernel
theorem dX8_shelf_56 : decode cX8_shelf 56 = .ok (.bipush 6, 2) := by decide +kernel
theorem dX8_shelf_58 : decode cX8_shelf 58 = .ok (.if_icmp .gt 20, 3) := by decide +kernel
theorem dX8_shelf_61 : decode cX8_shelf 61 = .ok (.aload_n 0, 1) := by decide +kernel
theorem dX8_shelf_62 : decode cX8_shelf 62 = .ok (.getfield 70, 3) := by decide +kernel
theorem dX8_shelf_65 : decode cX8_shelf 65 = .ok (.iload_n 1, 1) := by decide +kernel
theorem dX8_shelf_66 : decode cX8_shelf 66 = .ok (.iload_n 2, 1) := by decide +kernel
theorem dX8_shelf_67 : decode cX8_shelf 67 = .ok (.iastore, 1) := by decide +kernel
theorem dX8_shelf_68 : decode cX8_shelf 68 = .ok (.aload_n 0, 1) := by decide +kernel
theorem dX8_shelf_69 : decode cX8_shelf 69 = .ok (.getfield 73, 3) := by decide +kernel
theorem dX8_shelf_72 : decode cX8_shelf 72 = .ok (.iload_n 1, 1) := by decide +kernel
theorem dX8_shelf_73 : decode cX8_shelf 73 = .ok (.iload_n 3, 1) := by decide +kernel
theorem dX8_shelf_74 : decode cX8_shelf 74 = .ok (.iastore, 1) := by decide +kernel
theorem dX8_shelf_75 : decode cX8_shelf 75 = .ok (.goto 55, 3) := by decide +kernel
theorem dX8_shelf_78 : decode cX8_shelf 78 = .ok (.iload_n 2, 1) := by decide +kernel
theorem dX8_shelf_79 : decode cX8_shelf 79 = .ok (.bipush 7, 2) := by decide +kernel
theorem dX8_shelf_81 : decode cX8_shelf 81 = .ok (.if_icmp .ne 49, 3) := by decide +kernel
theorem dX8_shelf_84 : decode cX8_shelf 84 = .ok (.aload_n 0, 1) := by decide +kernel
theorem dX8_shelf_85 : decode cX8_shelf 85 = .ok (.getfield 66, 3) := by decide +kernel
theorem dX8_shelf_88 : decode cX8_shelf 88 = .ok (.iload_n 3, 1) := by decide +kernel
theorem dX8_shelf_89 : decode cX8_shelf 89 = .ok (.aaload, 1) := by decide +kernel
theorem dX8_shelf_90 : decode cX8_shelf 90 = .ok (.getfield 266, 3) := by decide +kernel
theorem dX8_shelf_93 : decode cX8_shelf 93 = .ok (.iconst (-1), 1) := by decide +kernel
theorem dX8_shelf_94 : decode cX8_shelf 94 = .ok (.if_icmp .eq 36, 3) := by decide +kernel
theorem dX8_shelf_97 : decode cX8_shelf 97 = .ok (.aload_n 0, 1) := by decide +kernel
theorem dX8_shelf_98 : decode cX8_shelf 98 = .ok (.getfield 70, 3) := by decide +kernel
theorem dX8_shelf_101 : decode cX8_shelf 101 = .ok (.iload_n 1, 1) := by decide +kernel
theorem dX8_shelf_102 : decode cX8_shelf 102 = .ok (.bipush 10, 2) := by decide +kernel
theorem dX8_shelf_104 : decode cX8_shelf 104 = .ok (.aload_n 0, 1) := by decide +kernel
theorem dX8_shelf_105 : decode cX8_shelf 105 = .ok (.getfield 66, 3) := by decide +kernel
theorem dX8_shelf_108 : decode cX8_shelf 108 = .ok (.iload_n 3, 1) := by decide +kernel
theorem dX8_shelf_109 : decode cX8_shelf 109 = .ok (.aaload, 1) := by decide +kernel
theorem dX8_shelf_110 : decode cX8_shelf 110 = .ok (.getfield 266, 3) := by decide +kernel
theorem dX8_shelf_113 : decode cX8_shelf 113 = .ok (.iadd, 1) := by decide +kernel
theorem dX8_shelf_114 : decode cX8_shelf 114 = .ok (.iastore, 1) := by decide +kernel
theorem dX8_shelf_115 : decode cX8_shelf 115 = .ok (.aload_n 0, 1) := by decide +kernel
theorem dX8_shelf_116 : decode cX8_shelf 116 = .ok (.getfield 73, 3) := by decide +kernel
theorem dX8_shelf_119 : decode cX8_shelf 119 = .ok (.iload_n 1, 1) := by decide +kernel
theorem dX8_shelf_120 : decode cX8_shelf 120 = .ok (.aload_n 0, 1) := by decide +kernel
theorem dX8_shelf_121 : decode cX8_shelf 121 = .ok (.getfield 66, 3) := by decide +kernel
theorem dX8_shelf_124 : decode cX8_shelf 124 = .ok (.iload_n 3, 1) := by decide +kernel
theorem dX8_shelf_125 : decode cX8_shelf 125 = .ok (.aaload, 1) := by decide +kernel
theorem dX8_shelf_126 : decode cX8_shelf 126 = .ok (.getfield 278, 3) := by decide +kernel
theorem dX8_shelf_129 : decode cX8_shelf 129 = .ok (.iastore, 1) := by decide +kernel
theorem dX8_shelf_130 : decode cX8_shelf 130 = .ok (.iconst 1, 1) := by decide +kernel
theorem dX8_shelf_131 : decode cX8_shelf 131 = .ok (.ireturn, 1) := by decide +kernel
theorem dX8_taken_0 : decode cX8_taken 0 = .ok (.iload_n 2, 1) := by decide +kernel
theorem dX8_taken_1 : decode cX8_taken 1 = .ok (.iconst 0, 1) := by decide +kernel
theorem dX8_taken_2 : decode cX8_taken 2 = .ok (.bipush 6, 2) := by decide +kernel
theorem dX8_taken_4 : decode cX8_taken 4 = .ok (.invokestatic 105, 3) := by decide +kernel
theorem dX8_taken_7 : decode cX8_taken 7 = .ok (.istore_n 3, 1) := by decide +kernel
theorem dX8_taken_8 : decode cX8_taken 8 = .ok (.iload_n 1, 1) := by decide +kernel
theorem dX8_taken_9 : decode cX8_taken 9 = .ok (.invokestatic 275, 3) := by decide +kernel
theorem dX8_taken_12 : decode cX8_taken 12 = .ok (.ifCond .eq 18, 3) := by decide +kernel
theorem dX8_taken_15 : decode cX8_taken 15 = .ok (.iload_n 3, 1) := by decide +kernel
theorem dX8_taken_16 : decode cX8_taken 16 = .ok (.ifCond .ne 16, 3) := by decide +kernel
theorem dX8_taken_19 : decode cX8_taken 19 = .ok (.iload_n 2, 1) := by decide +kernel
theorem dX8_taken_20 : decode cX8_taken 20 = .ok (.bipush 10, 2) := by decide +kernel
theorem dX8_taken_22 : decode cX8_taken 22 = .ok (.bipush 13, 2) := by decide +kernel
theorem dX8_taken_24 : decode cX8_taken 24 = .ok (.invokestatic 105, 3) := by decide +kernel
theorem dX8_taken_27 : decode cX8_taken 27 = .ok (.ifCond .ne 5, 3) := by decide +kernel
theorem dX8_taken_30 : decode cX8_taken 30 = .ok (.iconst (-1), 1) := by decide +kernel
theorem dX8_taken_31 : decode cX8_taken 31 = .ok (.ireturn, 1) := by decide +kernel
theorem dX8_taken_32 : decode cX8_taken 32 = .ok (.aload_n 0, 1) := by decide +kernel
theorem dX8_taken_33 : decode cX8_taken 33 = .ok (.iload_n 1, 1) := by decide +kernel
theorem dX8_taken_34 : decode cX8_taken 34 = .ok (.invokevirtual 281, 3) := by decide +kernel
theorem dX8_taken_37 : decode cX8_taken 37 = .ok (.istore 4, 2) := by decide +kernel
theorem dX8_taken_39 : decode cX8_taken 39 = .ok (.iload 4, 2) := by decide +kernel
theorem dX8_taken_41 : decode cX8_taken 41 = .ok (.iconst (-1), 1) := by decide +kernel
theorem dX8_taken_42 : decode cX8_taken 42 = .ok (.if_icmp .ne 6, 3) := by decide +kernel
theorem dX8_taken_45 : decode cX8_taken 45 = .ok (.bipush (-11), 2) := by decide +kernel
theorem dX8_taken_47 : decode cX8_taken 47 = .ok (.ireturn, 1) := by decide +kernel
theorem dX8_taken_48 : decode cX8_taken 48 = .ok (.iload_n 3, 1) := by decide +kernel
theorem dX8_taken_49 : decode cX8_taken 49 = .ok (.ifCond .eq 12, 3) := by decide +kernel
theorem dX8_taken_52 : decode cX8_taken 52 = .ok (.iload 4, 2) := by decide +kernel
theorem dX8_taken_54 : decode cX8_taken 54 = .ok (.iload_n 2, 1) := by decide +kernel
theorem dX8_taken_55 : decode cX8_taken 55 = .ok (.invokestatic 284, 3) := by decide +kernel
theorem dX8_taken_58 : decode cX8_taken 58 = .ok (.goto 14, 3) := by decide +kernel
theorem dX8_taken_61 : decode cX8_taken 61 = .ok (.iload 4, 2) := by decide +kernel
theorem dX8_taken_63 : decode cX8_taken 63 = .ok (.iload_n 2, 1) := by decide +kernel
theorem dX8_taken_64 : decode cX8_taken 64 = .ok (.if_icmp .ne 7, 3) := by decide +kernel
theorem dX8_taken_67 : decode cX8_taken 67 = .ok (.iconst 1, 1) := by decide +kernel
theorem dX8_taken_68 : decode cX8_taken 68 = .ok (.goto 4, 3) := by decide +kernel
theorem dX8_taken_71 : decode cX8_taken 71 = .ok (.iconst 0, 1) := by decide +kernel
theorem dX8_taken_72 : decode cX8_taken 72 = .ok (.istore 5, 2) := by decide +kernel
theorem dX8_taken_74 : decode cX8_taken 74 = .ok (.iload 5, 2) := by decide +kernel
theorem dX8_taken_76 : decode cX8_taken 76 = .ok (.ifCond .eq 12, 3) := by decide +kernel
theorem dX8_taken_79 : decode cX8_taken 79 = .ok (.aload_n 0, 1) := by decide +kernel
theorem dX8_taken_80 : decode cX8_taken 80 = .ok (.getfield 73, 3) := by decide +kernel
theorem dX8_taken_83 : decode cX8_taken 83 = .ok (.iload_n 1, 1) := by decide +kernel
theorem dX8_taken_84 : decode cX8_taken 84 = .ok (.iaload, 1) := by decide +kernel
theorem dX8_taken_85 : decode cX8_taken 85 = .ok (.goto 5, 3) := by decide +kernel
theorem dX8_taken_88 : decode cX8_taken 88 = .ok (.bipush (-13), 2) := by decide +kernel
theorem dX8_taken_90 : decode cX8_taken 90 = .ok (.ireturn, 1) := by decide +kernel
theorem dX8_act_0 : decode cX8_act 0 = .ok (.aload_n 0, 1) := by decide +kernel
theorem dX8_act_1 : decode cX8_act 1 = .ok (.getfield 79, 3) := by decide +kernel
theorem dX8_act_4 : decode cX8_act 4 = .ok (.invokevirtual 287, 3) := by decide +kernel
theorem dX8_act_7 : decode cX8_act 7 = .ok (.iload_n 1, 1) := by decide +kernel
theorem dX8_act_8 : decode cX8_act 8 = .ok (.invokestatic 275, 3) := by decide +kernel
theorem dX8_act_11 : decode cX8_act 11 = .ok (.ifCond .eq 11, 3) := by decide +kernel
theorem dX8_act_14 : decode cX8_act 14 = .ok (.aload_n 0, 1) := by decide +kernel
theorem dX8_act_15 : decode cX8_act 15 = .ok (.iload_n 1, 1) := by decide +kernel
theorem dX8_act_16 : decode cX8_act 16 = .ok (.invokevirtual 281, 3) := by decide +kernel
theorem dX8_act_19 : decode cX8_act 19 = .ok (.goto 4, 3) := by decide +kernel
theorem dX8_act_22 : decode cX8_act 22 = .ok (.iconst (-1), 1) := by decide +kernel
theorem dX8_act_23 : decode cX8_act 23 = .ok (.istore 4, 2) := by decide +kernel
theorem dX8_act_25 : decode cX8_act 25 = .ok (.iload 4, 2) := by decide +kernel
theorem dX8_act_27 : decode cX8_act 27 = .ok (.iconst 0, 1) := by decide +kernel
theorem dX8_act_28 : decode cX8_act 28 = .ok (.bipush 6, 2) := by decide +kernel
theorem dX8_act_30 : decode cX8_act 30 = .ok (.invokestatic 105, 3) := by decide +kernel
theorem dX8_act_33 : decode cX8_act 33 = .ok (.ifCond .eq 12, 3) := by decide +kernel
theorem dX8_act_36 : decode cX8_act 36 = .ok (.iload_n 2, 1) := by decide +kernel
theorem dX8_act_37 : decode cX8_act 37 = .ok (.iconst 0, 1) := by decide +kernel
theorem dX8_act_38 : decode cX8_act 38 = .ok (.iconst 3, 1) := by decide +kernel
theorem dX8_act_39 : decode cX8_act 39 = .ok (.invokestatic 105, 3) := by decide +kernel
theorem dX8_act_42 : decode cX8_act 42 = .ok (.ifCond .ne 5, 3) := by decide +kernel
theorem dX8_act_45 : decode cX8_act 45 = .ok (.iconst 0, 1) := by decide +kernel
theorem dX8_act_46 : decode cX8_act 46 = .ok (.ireturn, 1) := by decide +kernel
theorem dX8_act_47 : decode cX8_act 47 = .ok (.aload_n 0, 1) := by decide +kernel
theorem dX8_act_48 : decode cX8_act 48 = .ok (.getfield 73, 3) := by decide +kernel
theorem dX8_act_51 : decode cX8_act 51 = .ok (.iload_n 1, 1) := by decide +kernel
theorem dX8_act_52 : decode cX8_act 52 = .ok (.iaload, 1) := by decide +kernel
theorem dX8_act_53 : decode cX8_act 53 = .ok (.istore 5, 2) := by decide +kernel
theorem dX8_act_55 : decode cX8_act 55 = .ok (.aload_n 0, 1) := by decide +kernel
theorem dX8_act_56 : decode cX8_act 56 = .ok (.getfield 79, 3) := by decide +kernel
theorem dX8_act_59 : decode cX8_act 59 = .ok (.iload 4, 2) := by decide +kernel
theorem dX8_act_61 : decode cX8_act 61 = .ok (.iload 5, 2) := by decide +kernel
theorem dX8_act_63 : decode cX8_act 63 = .ok (.aload_n 0, 1) := by decide +kernel
theorem dX8_act_64 : decode cX8_act 64 = .ok (.iload 4, 2) := by decide +kernel
theorem dX8_act_66 : decode cX8_act 66 = .ok (.iload 5, 2) := by decide +kernel
theorem dX8_act_68 : decode cX8_act 68 = .ok (.invokevirtual 290, 3) := by decide +kernel
theorem dX8_act_71 : decode cX8_act 71 = .ok (.iload_n 2, 1) := by decide +kernel
theorem dX8_act_72 : decode cX8_act 72 = .ok (.iload_n 3, 1) := by decide +kernel
theorem dX8_act_73 : decode cX8_act 73 = .ok (.invokevirtual 293, 3) := by decide +kernel
theorem dX8_act_76 : decode cX8_act 76 = .ok (.ireturn, 1) := by decide +kernel
theorem dX8_trace_0 : decode cX8_trace 0 = .ok (.iload_n 1, 1) := by decide +kernel
theorem dX8_trace_1 : decode cX8_trace 1 = .ok (.iconst 0, 1) := by decide +kernel
theorem dX8_trace_2 : decode cX8_trace 2 = .ok (.aload_n 0, 1) := by decide +kernel
theorem dX8_trace_3 : decode cX8_trace 3 = .ok (.getfield 79, 3) := by decide +kernel
theorem dX8_trace_6 : decode cX8_trace 6 = .ok (.getfield 297, 3) := by decide +kernel
theorem dX8_trace_9 : decode cX8_trace 9 = .ok (.iconst 1, 1) := by decide +kernel
theorem dX8_trace_10 : decode cX8_trace 10 = .ok (.isub, 1) := by decide +kernel
theorem dX8_trace_11 : decode cX8_trace 11 = .ok (.invokestatic 105, 3) := by decide +kernel
theorem dX8_trace_14 : decode cX8_trace 14 = .ok (.ifCond .eq 15, 3) := by decide +kernel
theorem dX8_trace_17 : decode cX8_trace 17 = .ok (.aload_n 0, 1) := by decide +kernel
theorem dX8_trace_18 : decode cX8_trace 18 = .ok (.getfield 79, 3) := by decide +kernel
theorem dX8_trace_21 : decode cX8_trace 21 = .ok (.getfield 300, 3) := by decide +kernel
theorem dX8_trace_24 : decode cX8_trace 24 = .ok (.iload_n 1, 1) := by decide +kernel
theorem dX8_trace_25 : decode cX8_trace 25 = .ok (.iaload, 1) := by decide +kernel
theorem dX8_trace_26 : decode cX8_trace 26 = .ok (.goto 5, 3) := by decide +kernel
theorem dX8_trace_29 : decode cX8_trace 29 = .ok (.bipush (-3), 2) := by decide +kernel
theorem dX8_trace_31 : decode cX8_trace 31 = .ok (.ireturn, 1) := by decide +kernel
theorem dX8_many_0 : decode cX8_many 0 = .ok (.iload_n 1, 1) := by decide +kernel
theorem dX8_many_1 : decode cX8_many 1 = .ok (.tableswitch 111 0 7 #[47, 55, 63, 74, 79, 87, 95, 103], 47) := by decide +kernel
theorem dX8_many_48 : decode cX8_many 48 = .ok (.aload_n 0, 1) := by decide +kernel
theorem dX8_many_49 : decode cX8_many 49 = .ok (.getfield 12, 3) := by decide +kernel
theorem dX8_many_52 : decode cX8_many 52 = .ok (.getfield 94, 3) := by decide +kernel
theorem dX8_many_55 : decode cX8_many 55 = .ok (.ireturn, 1) := by decide +kernel
theorem dX8_many_56 : decode cX8_many 56 = .ok (.aload_n 0, 1) := by decide +kernel
theorem dX8_many_57 : decode cX8_many 57 = .ok (.getfield 12, 3) := by decide +kernel
theorem dX8_many_60 : decode cX8_many 60 = .ok (.getfield 185, 3) := by decide +kernel
theorem dX8_many_63 : decode cX8_many 63 = .ok (.ireturn, 1) := by decide +kernel
theorem dX8_many_64 : decode cX8_many 64 = .ok (.aload_n 0, 1) := by decide +kernel
theorem dX8_many_65 : decode cX8_many 65 = .ok (.getfield 12, 3) := by decide +kernel
theorem dX8_many_68 : decode cX8_many 68 = .ok (.getfield 217, 3) := by decide +kernel
theorem dX8_many_71 : decode cX8_many 71 = .ok (.getfield 230, 3) := by decide +kernel
theorem dX8_many_74 : decode cX8_many 74 = .ok (.ireturn, 1) := by decide +kernel
theorem dX8_many_75 : decode cX8_many 75 = .ok (.aload_n 0, 1) := by decide +kernel
theorem dX8_many_76 : decode cX8_many 76 = .ok (.getfield 60, 3) := by decide +kernel
theorem dX8_many_79 : decode cX8_many 79 = .ok (.ireturn, 1) := by decide +kernel
theorem dX8_many_80 : decode cX8_many 80 = .ok (.aload_n 0, 1) := by decide +kernel
theorem dX8_many_81 : decode cX8_many 81 = .ok (.getfield 47, 3) := by decide +kernel
theorem dX8_many_84 : decode cX8_many 84 = .ok (.getfield 211, 3) := by decide +kernel
theorem dX8_many_87 : decode cX8_many 87 = .ok (.ireturn, 1) := by decide +kernel
theorem dX8_many_88 : decode cX8_many 88 = .ok (.aload_n 0, 1) := by decide +kernel
theorem dX8_many_89 : decode cX8_many 89 = .ok (.getfield 79, 3) := by decide +kernel
theorem dX8_many_92 : decode cX8_many 92 = .ok (.getfield 297, 3) := by decide +kernel
theorem dX8_many_95 : decode cX8_many 95 = .ok (.ireturn, 1) := by decide +kernel
theorem dX8_many_96 : decode cX8_many 96 = .ok (.aload_n 0, 1) := by decide +kernel
theorem dX8_many_97 : decode cX8_many 97 = .ok (.getfield 12, 3) := by decide +kernel
theorem dX8_many_100 : decode cX8_many 100 = .ok (.getfield 197, 3) := by decide +kernel
theorem dX8_many_103 : decode cX8_many 103 = .ok (.ireturn, 1) := by decide +kernel
theorem dX8_many_104 : decode cX8_many 104 = .ok (.aload_n 0, 1) := by decide +kernel
theorem dX8_many_105 : decode cX8_many 105 = .ok (.getfield 12, 3) := by decide +kernel
theorem dX8_many_108 : decode cX8_many 108 = .ok (.getfield 194, 3) := by decide +kernel
theorem dX8_many_111 : decode cX8_many 111 = .ok (.ireturn, 1) := by decide +kernel
theorem dX8_many_112 : decode cX8_many 112 = .ok (.iconst (-1), 1) := by decide +kernel
theorem dX8_many_113 : decode cX8_many 113 = .ok (.ireturn, 1) := by decide +kernel
theorem dX8_keep_0 : decode cX8_keep 0 = .ok (.aload_n 0, 1) := by decide +kernel
theorem dX8_keep_1 : decode cX8_keep 1 = .ok (.getfield 16, 3) := by decide +kernel
theorem dX8_keep_4 : decode cX8_keep 4 = .ok (.aload_n 0, 1) := by decide +kernel
theorem dX8_keep_5 : decode cX8_keep 5 = .ok (.getfield 12, 3) := by decide +kernel
theorem dX8_keep_8 : decode cX8_keep 8 = .ok (.invokevirtual 303, 3) := by decide +kernel
theorem dX8_keep_11 : decode cX8_keep 11 = .ok (.aload_n 0, 1) := by decide +kernel
theorem dX8_keep_12 : decode cX8_keep 12 = .ok (.iconst 1, 1) := by decide +kernel
theorem dX8_keep_13 : decode cX8_keep 13 = .ok (.putfield 19, 3) := by decide +kernel
theorem dX8_keep_16 : decode cX8_keep 16 = .ok (.iconst 1, 1) := by decide +kernel
theorem dX8_keep_17 : decode cX8_keep 17 = .ok (.ireturn, 1) := by decide +kernel
theorem dX8_again_0 : decode cX8_again 0 = .ok (.aload_n 0, 1) := by decide +kernel
theorem dX8_again_1 : decode cX8_again 1 = .ok (.getfield 19, 3) := by decide +kernel
theorem dX8_again_4 : decode cX8_again 4 = .ok (.ifCond .ne 6, 3) := by decide +kernel
theorem dX8_again_7 : decode cX8_again 7 = .ok (.bipush (-3), 2) := by decide +kernel
theorem dX8_again_9 : decode cX8_again 9 = .ok (.ireturn, 1) := by decide +kernel
theorem dX8_again_10 : decode cX8_again 10 = .ok (.aload_n 0, 1) := by decide +kernel
theorem dX8_again_11 : decode cX8_again 11 = .ok (.getfield 12, 3) := by decide +kernel
theorem dX8_again_14 : decode cX8_again 14 = .ok (.aload_n 0, 1) := by decide +kernel
theorem dX8_again_15 : decode cX8_again 15 = .ok (.getfield 16, 3) := by decide +kernel
theorem dX8_again_18 : decode cX8_again 18 = .ok (.invokevirtual 303, 3) := by decide +kernel
theorem dX8_again_21 : decode cX8_again 21 = .ok (.iconst 1, 1) := by decide +kernel
theorem dX8_again_22 : decode cX8_again 22 = .ok (.ireturn, 1) := by decide +kernel
theorem dX8_within_0 : decode cX8_within 0 = .ok (.iload_n 1, 1) := by decide +kernel
theorem dX8_within_1 : decode cX8_within 1 = .ok (.iload_n 0, 1) := by decide +kernel
theorem dX8_within_2 : decode cX8_within 2 = .ok (.if_icmp .gt 12, 3) := by decide +kernel
theorem dX8_within_5 : decode cX8_within 5 = .ok (.iload_n 0, 1) := by decide +kernel
theorem dX8_within_6 : decode cX8_within 6 = .ok (.iload_n 2, 1) := by decide +kernel
theorem dX8_within_7 : decode cX8_within 7 = .ok (.if_icmp .gt 7, 3) := by decide +kernel
theorem dX8_within_10 : decode cX8_within 10 = .ok (.iconst 1, 1) := by decide +kernel
theorem dX8_within_11 : decode cX8_within 11 = .ok (.goto 4, 3) := by decide +kernel
theorem dX8_within_14 : decode cX8_within 14 = .ok (.iconst 0, 1) := by decide +kernel
theorem dX8_within_15 : decode cX8_within 15 = .ok (.ireturn, 1) := by decide +kernel
theorem dX8_isWet_0 : decode cX8_isWet 0 = .ok (.iload_n 0, 1) := by decide +kernel
theorem dX8_isWet_1 : decode cX8_isWet 1 = .ok (.iconst 0, 1) := by decide +kernel
theorem dX8_isWet_2 : decode cX8_isWet 2 = .ok (.bipush 20, 2) := by decide +kernel
theorem dX8_isWet_4 : decode cX8_isWet 4 = .ok (.invokestatic 105, 3) := by decide +kernel
theorem dX8_isWet_7 : decode cX8_isWet 7 = .ok (.ireturn, 1) := by decide +kernel
theorem dX8_isSheet_0 : decode cX8_isSheet 0 = .ok (.iload_n 0, 1) := by decide +kernel
theorem dX8_isSheet_1 : decode cX8_isSheet 1 = .ok (.iconst 0, 1) := by decide +kernel
theorem dX8_isSheet_2 : decode cX8_isSheet 2 = .ok (.iconst 3, 1) := by decide +kernel
theorem dX8_isSheet_3 : decode cX8_isSheet 3 = .ok (.invokestatic 105, 3) := by decide +kernel
theorem dX8_isSheet_6 : decode cX8_isSheet 6 = .ok (.ireturn, 1) := by decide +kernel
theorem dX8_isShelf_0 : decode cX8_isShelf 0 = .ok (.iload_n 0, 1) := by decide +kernel
theorem dX8_isShelf_1 : decode cX8_isShelf 1 = .ok (.iconst 0, 1) := by decide +kernel
theorem dX8_isShelf_2 : decode cX8_isShelf 2 = .ok (.iconst 3, 1) := by decide +kernel
theorem dX8_isShelf_3 : decode cX8_isShelf 3 = .ok (.invokestatic 105, 3) := by decide +kernel
theorem dX8_isShelf_6 : decode cX8_isShelf 6 = .ok (.ireturn, 1) := by decide +kernel
theorem dX8_isFact_0 : decode cX8_isFact 0 = .ok (.iload_n 1, 1) := by decide +kernel
theorem dX8_isFact_1 : decode cX8_isFact 1 = .ok (.getstatic 306, 3) := by decide +kernel
theorem dX8_isFact_4 : decode cX8_isFact 4 = .ok (.iload_n 0, 1) := by decide +kernel
theorem dX8_isFact_5 : decode cX8_isFact 5 = .ok (.iaload, 1) := by decide +kernel
theorem dX8_isFact_6 : decode cX8_isFact 6 = .ok (.getstatic 309, 3) := by decide +kernel
theorem dX8_isFact_9 : decode cX8_isFact 9 = .ok (.iload_n 0, 1) := by decide +kernel
theorem dX8_isFact_10 : decode cX8_isFact 10 = .ok (.iaload, 1) := by decide +kernel
theorem dX8_isFact_11 : decode cX8_isFact 11 = .ok (.invokestatic 105, 3) := by decide +kernel
theorem dX8_isFact_14 : decode cX8_isFact 14 = .ok (.ireturn, 1) := by decide +kernel
theorem dX8_isVillage_0 : decode cX8_isVillage 0 = .ok (.iload_n 1, 1) := by decide +kernel
theorem dX8_isVillage_1 : decode cX8_isVillage 1 = .ok (.iconst 0, 1) := by decide +kernel
theorem dX8_isVillage_2 : decode cX8_isVillage 2 = .ok (.aload_n 0, 1) := by decide +kernel
theorem dX8_isVillage_3 : decode cX8_isVillage 3 = .ok (.getfield 12, 3) := by decide +kernel
theorem dX8_isVillage_6 : decode cX8_isVillage 6 = .ok (.getfield 94, 3) := by decide +kernel
theorem dX8_isVillage_9 : decode cX8_isVillage 9 = .ok (.iconst 1, 1) := by decide +kernel
theorem dX8_isVillage_10 : decode cX8_isVillage 10 = .ok (.isub, 1) := by decide +kernel
theorem dX8_isVillage_11 : decode cX8_isVillage 11 = .ok (.invokestatic 105, 3) := by decide +kernel
theorem dX8_isVillage_14 : decode cX8_isVillage 14 = .ok (.ireturn, 1) := by decide +kernel
theorem dX8_isYear_0 : decode cX8_isYear 0 = .ok (.iload_n 1, 1) := by decide +kernel
theorem dX8_isYear_1 : decode cX8_isYear 1 = .ok (.iconst 0, 1) := by decide +kernel
theorem dX8_isYear_2 : decode cX8_isYear 2 = .ok (.aload_n 0, 1) := by decide +kernel
theorem dX8_isYear_3 : decode cX8_isYear 3 = .ok (.getfield 12, 3) := by decide +kernel
theorem dX8_isYear_6 : decode cX8_isYear 6 = .ok (.getfield 185, 3) := by decide +kernel
theorem dX8_isYear_9 : decode cX8_isYear 9 = .ok (.iconst 1, 1) := by decide +kernel
theorem dX8_isYear_10 : decode cX8_isYear 10 = .ok (.isub, 1) := by decide +kernel
theorem dX8_isYear_11 : decode cX8_isYear 11 = .ok (.invokestatic 105, 3) := by decide +kernel
theorem dX8_isYear_14 : decode cX8_isYear 14 = .ok (.ireturn, 1) := by decide +kernel
theorem dX8_isRowPart_0 : decode cX8_isRowPart 0 = .ok (.iload_n 1, 1) := by decide +kernel
theorem dX8_isRowPart_1 : decode cX8_isRowPart 1 = .ok (.iconst 0, 1) := by decide +kernel
theorem dX8_isRowPart_2 : decode cX8_isRowPart 2 = .ok (.aload_n 0, 1) := by decide +kernel
theorem dX8_isRowPart_3 : decode cX8_isRowPart 3 = .ok (.getfield 60, 3) := by decide +kernel
theorem dX8_isRowPart_6 : decode cX8_isRowPart 6 = .ok (.iconst 1, 1) := by decide +kernel
theorem dX8_isRowPart_7 : decode cX8_isRowPart 7 = .ok (.isub, 1) := by decide +kernel
theorem dX8_isRowPart_8 : decode cX8_isRowPart 8 = .ok (.invokestatic 105, 3) := by decide +kernel
theorem dX8_isRowPart_11 : decode cX8_isRowPart 11 = .ok (.ifCond .eq 16, 3) := by decide +kernel
theorem dX8_isRowPart_14 : decode cX8_isRowPart 14 = .ok (.iload_n 2, 1) := by decide +kernel
theorem dX8_isRowPart_15 : decode cX8_isRowPart 15 = .ok (.iconst 0, 1) := by decide +kernel
theorem dX8_isRowPart_16 : decode cX8_isRowPart 16 = .ok (.iconst 2, 1) := by decide +kernel
theorem dX8_isRowPart_17 : decode cX8_isRowPart 17 = .ok (.invokestatic 105, 3) := by decide +kernel
theorem dX8_isRowPart_20 : decode cX8_isRowPart 20 = .ok (.ifCond .eq 7, 3) := by decide +kernel
theorem dX8_isRowPart_23 : decode cX8_isRowPart 23 = .ok (.iconst 1, 1) := by decide +kernel
theorem dX8_isRowPart_24 : decode cX8_isRowPart 24 = .ok (.goto 4, 3) := by decide +kernel
theorem dX8_isRowPart_27 : decode cX8_isRowPart 27 = .ok (.iconst 0, 1) := by decide +kernel
theorem dX8_isRowPart_28 : decode cX8_isRowPart 28 = .ok (.ireturn, 1) := by decide +kernel
theorem dX8_tellsWorths_0 : decode cX8_tellsWorths 0 = .ok (.aload_n 0, 1) := by decide +kernel
theorem dX8_tellsWorths_1 : decode cX8_tellsWorths 1 = .ok (.getfield 278, 3) := by decide +kernel
theorem dX8_tellsWorths_4 : decode cX8_tellsWorths 4 = .ok (.bipush 12, 2) := by decide +kernel
theorem dX8_tellsWorths_6 : decode cX8_tellsWorths 6 = .ok (.if_icmp .eq 5, 3) := by decide +kernel
theorem dX8_tellsWorths_9 : decode cX8_tellsWorths 9 = .ok (.iconst 0, 1) := by decide +kernel
theorem dX8_tellsWorths_10 : decode cX8_tellsWorths 10 = .ok (.ireturn, 1) := by decide +kernel
theorem dX8_tellsWorths_11 : decode cX8_tellsWorths 11 = .ok (.bipush 99, 2) := by decide +kernel
theorem dX8_tellsWorths_13 : decode cX8_tellsWorths 13 = .ok (.istore_n 1, 1) := by decide +kernel
theorem dX8_tellsWorths_14 : decode cX8_tellsWorths 14 = .ok (.iconst 0, 1) := by decide +kernel
theorem dX8_tellsWorths_15 : decode cX8_tellsWorths 15 = .ok (.istore_n 2, 1) := by decide +kernel
theorem dX8_tellsWorths_16 : decode cX8_tellsWorths 16 = .ok (.iload_n 2, 1) := by decide +kernel
theorem dX8_tellsWorths_17 : decode cX8_tellsWorths 17 = .ok (.bipush 12, 2) := by decide +kernel
theorem dX8_tellsWorths_19 : decode cX8_tellsWorths 19 = .ok (.if_icmp .ge 32, 3) := by decide +kernel
theorem dX8_tellsWorths_22 : decode cX8_tellsWorths 22 = .ok (.aload_n 0, 1) := by decide +kernel
theorem dX8_tellsWorths_23 : decode cX8_tellsWorths 23 = .ok (.getfield 122, 3) := by decide +kernel
theorem dX8_tellsWorths_26 : decode cX8_tellsWorths 26 = .ok (.iload_n 2, 1) := by decide +kernel
theorem dX8_tellsWorths_27 : decode cX8_tellsWorths 27 = .ok (.iaload, 1) := by decide +kernel
theorem dX8_tellsWorths_28 : decode cX8_tellsWorths 28 = .ok (.iconst 0, 1) := by decide +kernel
theorem dX8_tellsWorths_29 : decode cX8_tellsWorths 29 = .ok (.iload_n 1, 1) := by decide +kernel
theorem dX8_tellsWorths_30 : decode cX8_tellsWorths 30 = .ok (.invokestatic 105, 3) := by decide +kernel
theorem dX8_tellsWorths_33 : decode cX8_tellsWorths 33 = .ok (.ifCond .ne 5, 3) := by decide +kernel
theorem dX8_tellsWorths_36 : decode cX8_tellsWorths 36 = .ok (.iconst 0, 1) := by decide +kernel
theorem dX8_tellsWorths_37 : decode cX8_tellsWorths 37 = .ok (.ireturn, 1) := by decide +kernel
theorem dX8_tellsWorths_38 : decode cX8_tellsWorths 38 = .ok (.aload_n 0, 1) := by decide +kernel
theorem dX8_tellsWorths_39 : decode cX8_tellsWorths 39 = .ok (.getfield 122, 3) := by decide +kernel
theorem dX8_tellsWorths_42 : decode cX8_tellsWorths 42 = .ok (.iload_n 2, 1) := by decide +kernel
theorem dX8_tellsWorths_43 : decode cX8_tellsWorths 43 = .ok (.iaload, 1) := by decide +kernel
theorem dX8_tellsWorths_44 : decode cX8_tellsWorths 44 = .ok (.istore_n 1, 1) := by decide +kernel
theorem dX8_tellsWorths_45 : decode cX8_tellsWorths 45 = .ok (.iinc 2 1, 3) := by decide +kernel
theorem dX8_tellsWorths_48 : decode cX8_tellsWorths 48 = .ok (.goto (-32), 3) := by decide +kernel
theorem dX8_tellsWorths_51 : decode cX8_tellsWorths 51 = .ok (.iconst 1, 1) := by decide +kernel
theorem dX8_tellsWorths_52 : decode cX8_tellsWorths 52 = .ok (.ireturn, 1) := by decide +kernel
theorem dX8_tellsThanks_0 : decode cX8_tellsThanks 0 = .ok (.aload_n 1, 1) := by decide +kernel
theorem dX8_tellsThanks_1 : decode cX8_tellsThanks 1 = .ok (.getfield 278, 3) := by decide +kernel
theorem dX8_tellsThanks_4 : decode cX8_tellsThanks 4 = .ok (.aload_n 0, 1) := by decide +kernel
theorem dX8_tellsThanks_5 : decode cX8_tellsThanks 5 = .ok (.getfield 12, 3) := by decide +kernel
theorem dX8_tellsThanks_8 : decode cX8_tellsThanks 8 = .ok (.getfield 94, 3) := by decide +kernel
theorem dX8_tellsThanks_11 : decode cX8_tellsThanks 11 = .ok (.if_icmp .eq 5, 3) := by decide +kernel
theorem dX8_tellsThanks_14 : decode cX8_tellsThanks 14 = .ok (.iconst 0, 1) := by decide +kernel
theorem dX8_tellsThanks_15 : decode cX8_tellsThanks 15 = .ok (.ireturn, 1) := by decide +kernel
theorem dX8_tellsThanks_16 : decode cX8_tellsThanks 16 = .ok (.iconst 0, 1) := by decide +kernel
theorem dX8_tellsThanks_17 : decode cX8_tellsThanks 17 = .ok (.istore_n 2, 1) := by decide +kernel
theorem dX8_tellsThanks_18 : decode cX8_tellsThanks 18 = .ok (.iload_n 2, 1) := by decide +kernel
theorem dX8_tellsThanks_19 : decode cX8_tellsThanks 19 = .ok (.aload_n 0, 1) := by decide +kernel
theorem dX8_tellsThanks_20 : decode cX8_tellsThanks 20 = .ok (.getfield 12, 3) := by decide +kernel
theorem dX8_tellsThanks_23 : decode cX8_tellsThanks 23 = .ok (.getfield 94, 3) := by decide +kernel
theorem dX8_tellsThanks_26 : decode cX8_tellsThanks 26 = .ok (.if_icmp .ge 29, 3) := by decide +kernel
theorem dX8_tellsThanks_29 : decode cX8_tellsThanks 29 = .ok (.aload_n 1, 1) := by decide +kernel
theorem dX8_tellsThanks_30 : decode cX8_tellsThanks 30 = .ok (.getfield 122, 3) := by decide +kernel
theorem dX8_tellsThanks_33 : decode cX8_tellsThanks 33 = .ok (.iload_n 2, 1) := by decide +kernel
theorem dX8_tellsThanks_34 : decode cX8_tellsThanks 34 = .ok (.iaload, 1) := by decide +kernel
theorem dX8_tellsThanks_35 : decode cX8_tellsThanks 35 = .ok (.sipush (-9999), 3) := by decide +kernel
theorem dX8_tellsThanks_38 : decode cX8_tellsThanks 38 = .ok (.sipush 9999, 3) := by decide +kernel
theorem dX8_tellsThanks_41 : decode cX8_tellsThanks 41 = .ok (.invokestatic 105, 3) := by decide +kernel
theorem dX8_tellsThanks_44 : decode cX8_tellsThanks 44 = .ok (.ifCond .ne 5, 3) := by decide +kernel
theorem dX8_tellsThanks_47 : decode cX8_tellsThanks 47 = .ok (.iconst 0, 1) := by decide +kernel
theorem dX8_tellsThanks_48 : decode cX8_tellsThanks 48 = .ok (.ireturn, 1) := by decide +kernel
theorem dX8_tellsThanks_49 : decode cX8_tellsThanks 49 = .ok (.iinc 2 1, 3) := by decide +kernel
theorem dX8_tellsThanks_52 : decode cX8_tellsThanks 52 = .ok (.goto (-34), 3) := by decide +kernel
theorem dX8_tellsThanks_55 : decode cX8_tellsThanks 55 = .ok (.iconst 1, 1) := by decide +kernel
theorem dX8_tellsThanks_56 : decode cX8_tellsThanks 56 = .ok (.ireturn, 1) := by decide +kernel
theorem dX8_bestOf_0 : decode cX8_bestOf 0 = .ok (.aload_n 0, 1) := by decide +kernel
theorem dX8_bestOf_1 : decode cX8_bestOf 1 = .ok (.getfield 26, 3) := by decide +kernel
theorem dX8_bestOf_4 : decode cX8_bestOf 4 = .ok (.aload_n 0, 1) := by decide +kernel
theorem dX8_bestOf_5 : decode cX8_bestOf 5 = .ok (.getfield 12, 3) := by decide +kernel
theorem dX8_bestOf_8 : decode cX8_bestOf 8 = .ok (.iload_n 1, 1) := by decide +kernel
theorem dX8_bestOf_9 : decode cX8_bestOf 9 = .ok (.invokevirtual 159, 3) := by decide +kernel
theorem dX8_bestOf_12 : decode cX8_bestOf 12 = .ok (.aload_n 0, 1) := by decide +kernel
theorem dX8_bestOf_13 : decode cX8_bestOf 13 = .ok (.getfield 26, 3) := by decide +kernel
theorem dX8_bestOf_16 : decode cX8_bestOf 16 = .ok (.aload_n 0, 1) := by decide +kernel
theorem dX8_bestOf_17 : decode cX8_bestOf 17 = .ok (.getfield 12, 3) := by decide +kernel
theorem dX8_bestOf_20 : decode cX8_bestOf 20 = .ok (.iconst 0, 1) := by decide +kernel
theorem dX8_bestOf_21 : decode cX8_bestOf 21 = .ok (.aload_n 0, 1) := by decide +kernel
theorem dX8_bestOf_22 : decode cX8_bestOf 22 = .ok (.getfield 12, 3) := by decide +kernel
theorem dX8_bestOf_25 : decode cX8_bestOf 25 = .ok (.getfield 94, 3) := by decide +kernel
theorem dX8_bestOf_28 : decode cX8_bestOf 28 = .ok (.iconst 1, 1) := by decide +kernel
theorem dX8_bestOf_29 : decode cX8_bestOf 29 = .ok (.isub, 1) := by decide +kernel
theorem dX8_bestOf_30 : decode cX8_bestOf 30 = .ok (.invokevirtual 155, 3) := by decide +kernel
theorem dX8_bestOf_33 : decode cX8_bestOf 33 = .ok (.ireturn, 1) := by decide +kernel
theorem dX8_madeInBest_0 : decode cX8_madeInBest 0 = .ok (.aload_n 0, 1) := by decide +kernel
theorem dX8_madeInBest_1 : decode cX8_madeInBest 1 = .ok (.getfield 26, 3) := by decide +kernel
theorem dX8_madeInBest_4 : decode cX8_madeInBest 4 = .ok (.aload_n 0, 1) := by decide +kernel
theorem dX8_madeInBest_5 : decode cX8_madeInBest 5 = .ok (.getfield 12, 3) := by decide +kernel
theorem dX8_madeInBest_8 : decode cX8_madeInBest 8 = .ok (.bipush 10, 2) := by decide +kernel
theorem dX8_madeInBest_10 : decode cX8_madeInBest 10 = .ok (.invokevirtual 139, 3) := by decide +kernel
theorem dX8_madeInBest_13 : decode cX8_madeInBest 13 = .ok (.aload_n 0, 1) := by decide +kernel
theorem dX8_madeInBest_14 : decode cX8_madeInBest 14 = .ok (.getfield 26, 3) := by decide +kernel
theorem dX8_madeInBest_17 : decode cX8_madeInBest 17 = .ok (.getfield 149, 3) := by decide +kernel
theorem dX8_madeInBest_20 : decode cX8_madeInBest 20 = .ok (.iload_n 1, 1) := by decide +kernel
theorem dX8_madeInBest_21 : decode cX8_madeInBest 21 = .ok (.iaload, 1) := by decide +kernel
theorem dX8_madeInBest_22 : decode cX8_madeInBest 22 = .ok (.ireturn, 1) := by decide +kernel
theorem dX8_bestOfYears_0 : decode cX8_bestOfYears 0 = .ok (.iconst 0, 1) := by decide +kernel
theorem dX8_bestOfYears_1 : decode cX8_bestOfYears 1 = .ok (.istore_n 1, 1) := by decide +kernel
theorem dX8_bestOfYears_2 : decode cX8_bestOfYears 2 = .ok (.iconst 0, 1) := by decide +kernel
theorem dX8_bestOfYears_3 : decode cX8_bestOfYears 3 = .ok (.istore_n 2, 1) := by decide +kernel
theorem dX8_bestOfYears_4 : decode cX8_bestOfYears 4 = .ok (.iload_n 2, 1) := by decide +kernel
theorem dX8_bestOfYears_5 : decode cX8_bestOfYears 5 = .ok (.aload_n 0, 1) := by decide +kernel
theorem dX8_bestOfYears_6 : decode cX8_bestOfYears 6 = .ok (.getfield 12, 3) := by decide +kernel
theorem dX8_bestOfYears_9 : decode cX8_bestOfYears 9 = .ok (.getfield 185, 3) := by decide +kernel
theorem dX8_bestOfYears_12 : decode cX8_bestOfYears 12 = .ok (.if_icmp .ge 25, 3) := by decide +kernel
theorem dX8_bestOfYears_15 : decode cX8_bestOfYears 15 = .ok (.iload_n 1, 1) := by decide +kernel
theorem dX8_bestOfYears_16 : decode cX8_bestOfYears 16 = .ok (.aload_n 0, 1) := by decide +kernel
theorem dX8_bestOfYears_17 : decode cX8_bestOfYears 17 = .ok (.aload_n 0, 1) := by decide +kernel
theorem dX8_bestOfYears_18 : decode cX8_bestOfYears 18 = .ok (.getfield 12, 3) := by decide +kernel
theorem dX8_bestOfYears_21 : decode cX8_bestOfYears 21 = .ok (.getfield 188, 3) := by decide +kernel
theorem dX8_bestOfYears_24 : decode cX8_bestOfYears 24 = .ok (.iload_n 2, 1) := by decide +kernel
theorem dX8_bestOfYears_25 : decode cX8_bestOfYears 25 = .ok (.iaload, 1) := by decide +kernel
theorem dX8_bestOfYears_26 : decode cX8_bestOfYears 26 = .ok (.invokevirtual 135, 3) := by decide +kernel
theorem dX8_bestOfYears_29 : decode cX8_bestOfYears 29 = .ok (.iadd, 1) := by decide +kernel
theorem dX8_bestOfYears_30 : decode cX8_bestOfYears 30 = .ok (.istore_n 1, 1) := by decide +kernel
theorem dX8_bestOfYears_31 : decode cX8_bestOfYears 31 = .ok (.iinc 2 1, 3) := by decide +kernel
theorem dX8_bestOfYears_34 : decode cX8_bestOfYears 34 = .ok (.goto (-30), 3) := by decide +kernel
theorem dX8_bestOfYears_37 : decode cX8_bestOfYears 37 = .ok (.iload_n 1, 1) := by decide +kernel
theorem dX8_bestOfYears_38 : decode cX8_bestOfYears 38 = .ok (.ireturn, 1) := by decide +kernel
theorem dX8_madeInYears_0 : decode cX8_madeInYears 0 = .ok (.iconst 0, 1) := by decide +kernel
theorem dX8_madeInYears_1 : decode cX8_madeInYears 1 = .ok (.istore_n 2, 1) := by decide +kernel
theorem dX8_madeInYears_2 : decode cX8_madeInYears 2 = .ok (.iconst 0, 1) := by decide +kernel
theorem dX8_madeInYears_3 : decode cX8_madeInYears 3 = .ok (.istore_n 3, 1) := by decide +kernel
theorem dX8_madeInYears_4 : decode cX8_madeInYears 4 = .ok (.iload_n 3, 1) := by decide +kernel
theorem dX8_madeInYears_5 : decode cX8_madeInYears 5 = .ok (.aload_n 0, 1) := by decide +kernel
theorem dX8_madeInYears_6 : decode cX8_madeInYears 6 = .ok (.getfield 12, 3) := by decide +kernel
theorem dX8_madeInYears_9 : decode cX8_madeInYears 9 = .ok (.getfield 185, 3) := by decide +kernel
theorem dX8_madeInYears_12 : decode cX8_madeInYears 12 = .ok (.if_icmp .ge 33, 3) := by decide +kernel
theorem dX8_madeInYears_15 : decode cX8_madeInYears 15 = .ok (.iload_n 2, 1) := by decide +kernel
theorem dX8_madeInYears_16 : decode cX8_madeInYears 16 = .ok (.aload_n 0, 1) := by decide +kernel
theorem dX8_madeInYears_17 : decode cX8_madeInYears 17 = .ok (.getfield 26, 3) := by decide +kernel
theorem dX8_madeInYears_20 : decode cX8_madeInYears 20 = .ok (.aload_n 0, 1) := by decide +kernel
theorem dX8_madeInYears_21 : decode cX8_madeInYears 21 = .ok (.getfield 12, 3) := by decide +kernel
theorem dX8_madeInYears_24 : decode cX8_madeInYears 24 = .ok (.aload_n 0, 1) := by decide +kernel
theorem dX8_madeInYears_25 : decode cX8_madeInYears 25 = .ok (.getfield 12, 3) := by decide +kernel
theorem dX8_madeInYears_28 : decode cX8_madeInYears 28 = .ok (.getfield 188, 3) := by decide +kernel
theorem dX8_madeInYears_31 : decode cX8_madeInYears 31 = .ok (.iload_n 3, 1) := by decide +kernel
theorem dX8_madeInYears_32 : decode cX8_madeInYears 32 = .ok (.iaload, 1) := by decide +kernel
theorem dX8_madeInYears_33 : decode cX8_madeInYears 33 = .ok (.iload_n 1, 1) := by decide +kernel
theorem dX8_madeInYears_34 : decode cX8_madeInYears 34 = .ok (.invokevirtual 233, 3) := by decide +kernel
theorem dX8_madeInYears_37 : decode cX8_madeInYears 37 = .ok (.iadd, 1) := by decide +kernel
theorem dX8_madeInYears_38 : decode cX8_madeInYears 38 = .ok (.istore_n 2, 1) := by decide +kernel
theorem dX8_madeInYears_39 : decode cX8_madeInYears 39 = .ok (.iinc 3 1, 3) := by decide +kernel
theorem dX8_madeInYears_42 : decode cX8_madeInYears 42 = .ok (.goto (-38), 3) := by decide +kernel
theorem dX8_madeInYears_45 : decode cX8_madeInYears 45 = .ok (.iload_n 2, 1) := by decide +kernel
theorem dX8_madeInYears_46 : decode cX8_madeInYears 46 = .ok (.ireturn, 1) := by decide +kernel
theorem dX8_mostOf_0 : decode cX8_mostOf 0 = .ok (.iconst 0, 1) := by decide +kernel
theorem dX8_mostOf_1 : decode cX8_mostOf 1 = .ok (.istore_n 2, 1) := by decide +kernel
theorem dX8_mostOf_2 : decode cX8_mostOf 2 = .ok (.iconst 0, 1) := by decide +kernel
theorem dX8_mostOf_3 : decode cX8_mostOf 3 = .ok (.istore_n 3, 1) := by decide +kernel
theorem dX8_mostOf_4 : decode cX8_mostOf 4 = .ok (.iload_n 3, 1) := by decide +kernel
theorem dX8_mostOf_5 : decode cX8_mostOf 5 = .ok (.iload_n 1, 1) := by decide +kernel
theorem dX8_mostOf_6 : decode cX8_mostOf 6 = .ok (.if_icmp .gt 21, 3) := by decide +kernel
theorem dX8_mostOf_9 : decode cX8_mostOf 9 = .ok (.iload_n 2, 1) := by decide +kernel
theorem dX8_mostOf_10 : decode cX8_mostOf 10 = .ok (.aload_n 0, 1) := by decide +kernel
theorem dX8_mostOf_11 : decode cX8_mostOf 11 = .ok (.getfield 26, 3) := by decide +kernel
theorem dX8_mostOf_14 : decode cX8_mostOf 14 = .ok (.getfield 152, 3) := by decide +kernel
theorem dX8_mostOf_17 : decode cX8_mostOf 17 = .ok (.iload_n 3, 1) := by decide +kernel
theorem dX8_mostOf_18 : decode cX8_mostOf 18 = .ok (.iaload, 1) := by decide +kernel
theorem dX8_mostOf_19 : decode cX8_mostOf 19 = .ok (.iadd, 1) := by decide +kernel
theorem dX8_mostOf_20 : decode cX8_mostOf 20 = .ok (.istore_n 2, 1) := by decide +kernel
theorem dX8_mostOf_21 : decode cX8_mostOf 21 = .ok (.iinc 3 1, 3) := by decide +kernel
theorem dX8_mostOf_24 : decode cX8_mostOf 24 = .ok (.goto (-20), 3) := by decide +kernel
theorem dX8_mostOf_27 : decode cX8_mostOf 27 = .ok (.aload_n 0, 1) := by decide +kernel
theorem dX8_mostOf_28 : decode cX8_mostOf 28 = .ok (.getfield 12, 3) := by decide +kernel
theorem dX8_mostOf_31 : decode cX8_mostOf 31 = .ok (.getfield 129, 3) := by decide +kernel
theorem dX8_mostOf_34 : decode cX8_mostOf 34 = .ok (.iload_n 1, 1) := by decide +kernel
theorem dX8_mostOf_35 : decode cX8_mostOf 35 = .ok (.aaload, 1) := by decide +kernel
theorem dX8_mostOf_36 : decode cX8_mostOf 36 = .ok (.iload_n 2, 1) := by decide +kernel
theorem dX8_mostOf_37 : decode cX8_mostOf 37 = .ok (.bipush 12, 2) := by decide +kernel
theorem dX8_mostOf_39 : decode cX8_mostOf 39 = .ok (.invokestatic 312, 3) := by decide +kernel
theorem dX8_mostOf_42 : decode cX8_mostOf 42 = .ok (.iaload, 1) := by decide +kernel
theorem dX8_mostOf_43 : decode cX8_mostOf 43 = .ok (.ireturn, 1) := by decide +kernel
theorem dX8_fillShares_0 : decode cX8_fillShares 0 = .ok (.iload_n 1, 1) := by decide +kernel
theorem dX8_fillShares_1 : decode cX8_fillShares 1 = .ok (.ifCond .ne 42, 3) := by decide +kernel
theorem dX8_fillShares_4 : decode cX8_fillShares 4 = .ok (.aload_n 0, 1) := by decide +kernel
theorem dX8_fillShares_5 : decode cX8_fillShares 5 = .ok (.getfield 26, 3) := by decide +kernel
theorem dX8_fillShares_8 : decode cX8_fillShares 8 = .ok (.aload_n 0, 1) := by decide +kernel
theorem dX8_fillShares_9 : decode cX8_fillShares 9 = .ok (.getfield 12, 3) := by decide +kernel
theorem dX8_fillShares_12 : decode cX8_fillShares 12 = .ok (.bipush 10, 2) := by decide +kernel
theorem dX8_fillShares_14 : decode cX8_fillShares 14 = .ok (.iconst 0, 1) := by decide +kernel
theorem dX8_fillShares_15 : decode cX8_fillShares 15 = .ok (.invokevirtual 233, 3) := by decide +kernel
theorem dX8_fillShares_18 : decode cX8_fillShares 18 = .ok (.pop, 1) := by decide +kernel
theorem dX8_fillShares_19 : decode cX8_fillShares 19 = .ok (.aload_n 0, 1) := by decide +kernel
theorem dX8_fillShares_20 : decode cX8_fillShares 20 = .ok (.getfield 26, 3) := by decide +kernel
theorem dX8_fillShares_23 : decode cX8_fillShares 23 = .ok (.getfield 149, 3) := by decide +kernel
theorem dX8_fillShares_26 : decode cX8_fillShares 26 = .ok (.iconst 0, 1) := by decide +kernel
theorem dX8_fillShares_27 : decode cX8_fillShares 27 = .ok (.aload_n 0, 1) := by decide +kernel
theorem dX8_fillShares_28 : decode cX8_fillShares 28 = .ok (.getfield 51, 3) := by decide +kernel
theorem dX8_fillShares_31 : decode cX8_fillShares 31 = .ok (.iconst 0, 1) := by decide +kernel
theorem dX8_fillShares_32 : decode cX8_fillShares 32 = .ok (.aload_n 0, 1) := by decide +kernel
theorem dX8_fillShares_33 : decode cX8_fillShares 33 = .ok (.getfield 12, 3) := by decide +kernel
theorem dX8_fillShares_36 : decode cX8_fillShares 36 = .ok (.getfield 94, 3) := by decide +kernel
theorem dX8_fillShares_39 : decode cX8_fillShares 39 = .ok (.invokestatic 317, 3) := by decide +kernel
theorem dX8_fillShares_42 : decode cX8_fillShares 42 = .ok (.return_, 1) := by decide +kernel
theorem dX8_fillShares_43 : decode cX8_fillShares 43 = .ok (.aload_n 0, 1) := by decide +kernel
theorem dX8_fillShares_44 : decode cX8_fillShares 44 = .ok (.getfield 26, 3) := by decide +kernel
theorem dX8_fillShares_47 : decode cX8_fillShares 47 = .ok (.aload_n 0, 1) := by decide +kernel
theorem dX8_fillShares_48 : decode cX8_fillShares 48 = .ok (.getfield 12, 3) := by decide +kernel
theorem dX8_fillShares_51 : decode cX8_fillShares 51 = .ok (.bipush 10, 2) := by decide +kernel
theorem dX8_fillShares_53 : decode cX8_fillShares 53 = .ok (.invokevirtual 159, 3) := by decide +kernel
theorem dX8_fillShares_56 : decode cX8_fillShares 56 = .ok (.iload_n 1, 1) := by decide +kernel
theorem dX8_fillShares_57 : decode cX8_fillShares 57 = .ok (.iconst 1, 1) := by decide +kernel
theorem dX8_fillShares_58 : decode cX8_fillShares 58 = .ok (.if_icmp .ne 10, 3) := by decide +kernel
theorem dX8_fillShares_61 : decode cX8_fillShares 61 = .ok (.aload_n 0, 1) := by decide +kernel
theorem dX8_fillShares_62 : decode cX8_fillShares 62 = .ok (.invokevirtual 323, 3) := by decide +kernel
theorem dX8_fillShares_65 : decode cX8_fillShares 65 = .ok (.goto 19, 3) := by decide +kernel
theorem dX8_fillShares_68 : decode cX8_fillShares 68 = .ok (.iload_n 1, 1) := by decide +kernel
theorem dX8_fillShares_69 : decode cX8_fillShares 69 = .ok (.iconst 2, 1) := by decide +kernel
theorem dX8_fillShares_70 : decode cX8_fillShares 70 = .ok (.if_icmp .ne 10, 3) := by decide +kernel
theorem dX8_fillShares_73 : decode cX8_fillShares 73 = .ok (.aload_n 0, 1) := by decide +kernel
theorem dX8_fillShares_74 : decode cX8_fillShares 74 = .ok (.invokevirtual 326, 3) := by decide +kernel
theorem dX8_fillShares_77 : decode cX8_fillShares 77 = .ok (.goto 7, 3) := by decide +kernel
theorem dX8_fillShares_80 : decode cX8_fillShares 80 = .ok (.aload_n 0, 1) := by decide +kernel
theorem dX8_fillShares_81 : decode cX8_fillShares 81 = .ok (.invokevirtual 329, 3) := by decide +kernel
theorem dX8_fillShares_84 : decode cX8_fillShares 84 = .ok (.return_, 1) := by decide +kernel
theorem dX8_fillSharesDown_0 : decode cX8_fillSharesDown 0 = .ok (.iconst 0, 1) := by decide +kernel
theorem dX8_fillSharesDown_1 : decode cX8_fillSharesDown 1 = .ok (.istore_n 1, 1) := by decide +kernel
theorem dX8_fillSharesDown_2 : decode cX8_fillSharesDown 2 = .ok (.iconst 0, 1) := by decide +kernel
theorem dX8_fillSharesDown_3 : decode cX8_fillSharesDown 3 = .ok (.istore_n 2, 1) := by decide +kernel
theorem dX8_fillSharesDown_4 : decode cX8_fillSharesDown 4 = .ok (.iload_n 2, 1) := by decide +kernel
theorem dX8_fillSharesDown_5 : decode cX8_fillSharesDown 5 = .ok (.aload_n 0, 1) := by decide +kernel
theorem dX8_fillSharesDown_6 : decode cX8_fillSharesDown 6 = .ok (.getfield 12, 3) := by decide +kernel
theorem dX8_fillSharesDown_9 : decode cX8_fillSharesDown 9 = .ok (.getfield 94, 3) := by decide +kernel
theorem dX8_fillSharesDown_12 : decode cX8_fillSharesDown 12 = .ok (.if_icmp .ge 34, 3) := by decide +kernel
theorem dX8_fillSharesDown_15 : decode cX8_fillSharesDown 15 = .ok (.aload_n 0, 1) := by decide +kernel
theorem dX8_fillSharesDown_16 : decode cX8_fillSharesDown 16 = .ok (.getfield 26, 3) := by decide +kernel
theorem dX8_fillSharesDown_19 : decode cX8_fillSharesDown 19 = .ok (.aload_n 0, 1) := by decide +kernel
theorem dX8_fillSharesDown_20 : decode cX8_fillSharesDown 20 = .ok (.getfield 12, 3) := by decide +kernel
theorem dX8_fillSharesDown_23 : decode cX8_fillSharesDown 23 = .ok (.iconst 0, 1) := by decide +kernel
theorem dX8_fillSharesDown_24 : decode cX8_fillSharesDown 24 = .ok (.iload_n 2, 1) := by decide +kernel
theorem dX8_fillSharesDown_25 : decode cX8_fillSharesDown 25 = .ok (.invokevirtual 155, 3) := by decide +kernel
theorem dX8_fillSharesDown_28 : decode cX8_fillSharesDown 28 = .ok (.istore_n 3, 1) := by decide +kernel
theorem dX8_fillSharesDown_29 : decode cX8_fillSharesDown 29 = .ok (.aload_n 0, 1) := by decide +kernel
theorem dX8_fillSharesDown_30 : decode cX8_fillSharesDown 30 = .ok (.getfield 51, 3) := by decide +kernel
theorem dX8_fillSharesDown_33 : decode cX8_fillSharesDown 33 = .ok (.iload_n 2, 1) := by decide +kernel
theorem dX8_fillSharesDown_34 : decode cX8_fillSharesDown 34 = .ok (.iload_n 3, 1) := by decide +kernel
theorem dX8_fillSharesDown_35 : decode cX8_fillSharesDown 35 = .ok (.iload_n 1, 1) := by decide +kernel
theorem dX8_fillSharesDown_36 : decode cX8_fillSharesDown 36 = .ok (.isub, 1) := by decide +kernel
theorem dX8_fillSharesDown_37 : decode cX8_fillSharesDown 37 = .ok (.iastore, 1) := by decide +kernel
theorem dX8_fillSharesDown_38 : decode cX8_fillSharesDown 38 = .ok (.iload_n 3, 1) := by decide +kernel
theorem dX8_fillSharesDown_39 : decode cX8_fillSharesDown 39 = .ok (.istore_n 1, 1) := by decide +kernel
theorem dX8_fillSharesDown_40 : decode cX8_fillSharesDown 40 = .ok (.iinc 2 1, 3) := by decide +kernel
theorem dX8_fillSharesDown_43 : decode cX8_fillSharesDown 43 = .ok (.goto (-39), 3) := by decide +kernel
theorem dX8_fillSharesDown_46 : decode cX8_fillSharesDown 46 = .ok (.return_, 1) := by decide +kernel
theorem dX8_fillSharesUp_0 : decode cX8_fillSharesUp 0 = .ok (.aload_n 0, 1) := by decide +kernel
theorem dX8_fillSharesUp_1 : decode cX8_fillSharesUp 1 = .ok (.getfield 12, 3) := by decide +kernel
theorem dX8_fillSharesUp_4 : decode cX8_fillSharesUp 4 = .ok (.getfield 94, 3) := by decide +kernel
theorem dX8_fillSharesUp_7 : decode cX8_fillSharesUp 7 = .ok (.iconst 1, 1) := by decide +kernel
theorem dX8_fillSharesUp_8 : decode cX8_fillSharesUp 8 = .ok (.isub, 1) := by decide +kernel
theorem dX8_fillSharesUp_9 : decode cX8_fillSharesUp 9 = .ok (.istore_n 1, 1) := by decide +kernel
theorem dX8_fillSharesUp_10 : decode cX8_fillSharesUp 10 = .ok (.iconst 0, 1) := by decide +kernel
theorem dX8_fillSharesUp_11 : decode cX8_fillSharesUp 11 = .ok (.istore_n 2, 1) := by decide +kernel
theorem dX8_fillSharesUp_12 : decode cX8_fillSharesUp 12 = .ok (.iload_n 1, 1) := by decide +kernel
theorem dX8_fillSharesUp_13 : decode cX8_fillSharesUp 13 = .ok (.istore_n 3, 1) := by decide +kernel
theorem dX8_fillSharesUp_14 : decode cX8_fillSharesUp 14 = .ok (.iload_n 3, 1) := by decide +kernel
theorem dX8_fillSharesUp_15 : decode cX8_fillSharesUp 15 = .ok (.ifCond .lt 37, 3) := by decide +kernel
theorem dX8_fillSharesUp_18 : decode cX8_fillSharesUp 18 = .ok (.aload_n 0, 1) := by decide +kernel
theorem dX8_fillSharesUp_19 : decode cX8_fillSharesUp 19 = .ok (.getfield 26, 3) := by decide +kernel
theorem dX8_fillSharesUp_22 : decode cX8_fillSharesUp 22 = .ok (.aload_n 0, 1) := by decide +kernel
theorem dX8_fillSharesUp_23 : decode cX8_fillSharesUp 23 = .ok (.getfield 12, 3) := by decide +kernel
theorem dX8_fillSharesUp_26 : decode cX8_fillSharesUp 26 = .ok (.iload_n 3, 1) := by decide +kernel
theorem dX8_fillSharesUp_27 : decode cX8_fillSharesUp 27 = .ok (.iload_n 1, 1) := by decide +kernel
theorem dX8_fillSharesUp_28 : decode cX8_fillSharesUp 28 = .ok (.invokevirtual 155, 3) := by decide +kernel
theorem dX8_fillSharesUp_31 : decode cX8_fillSharesUp 31 = .ok (.istore 4, 2) := by decide +kernel
theorem dX8_fillSharesUp_33 : decode cX8_fillSharesUp 33 = .ok (.aload_n 0, 1) := by decide +kernel
theorem dX8_fillSharesUp_34 : decode cX8_fillSharesUp 34 = .ok (.getfield 51, 3) := by decide +kernel
theorem dX8_fillSharesUp_37 : decode cX8_fillSharesUp 37 = .ok (.iload_n 3, 1) := by decide +kernel
theorem dX8_fillSharesUp_38 : decode cX8_fillSharesUp 38 = .ok (.iload 4, 2) := by decide +kernel
theorem dX8_fillSharesUp_40 : decode cX8_fillSharesUp 40 = .ok (.iload_n 2, 1) := by decide +kernel
theorem dX8_fillSharesUp_41 : decode cX8_fillSharesUp 41 = .ok (.isub, 1) := by decide +kernel
theorem dX8_fillSharesUp_42 : decode cX8_fillSharesUp 42 = .ok (.iastore, 1) := by decide +kernel
theorem dX8_fillSharesUp_43 : decode cX8_fillSharesUp 43 = .ok (.iload 4, 2) := by decide +kernel
theorem dX8_fillSharesUp_45 : decode cX8_fillSharesUp 45 = .ok (.istore_n 2, 1) := by decide +kernel
theorem dX8_fillSharesUp_46 : decode cX8_fillSharesUp 46 = .ok (.iinc 3 (-1), 3) := by decide +kernel
theorem dX8_fillSharesUp_49 : decode cX8_fillSharesUp 49 = .ok (.goto (-35), 3) := by decide +kernel
theorem dX8_fillSharesUp_52 : decode cX8_fillSharesUp 52 = .ok (.return_, 1) := by decide +kernel
theorem dX8_fillSharesEqual_0 : decode cX8_fillSharesEqual 0 = .ok (.aload_n 0, 1) := by decide +kernel
theorem dX8_fillSharesEqual_1 : decode cX8_fillSharesEqual 1 = .ok (.getfield 12, 3) := by decide +kernel
theorem dX8_fillSharesEqual_4 : decode cX8_fillSharesEqual 4 = .ok (.getfield 94, 3) := by decide +kernel
theorem dX8_fillSharesEqual_7 : decode cX8_fillSharesEqual 7 = .ok (.istore_n 1, 1) := by decide +kernel
theorem dX8_fillSharesEqual_8 : decode cX8_fillSharesEqual 8 = .ok (.iload_n 1, 1) := by decide +kernel
theorem dX8_fillSharesEqual_9 : decode cX8_fillSharesEqual 9 = .ok (.ifCond .ne 4, 3) := by decide +kernel
theorem dX8_fillSharesEqual_12 : decode cX8_fillSharesEqual 12 = .ok (.return_, 1) := by decide +kernel
theorem dX8_fillSharesEqual_13 : decode cX8_fillSharesEqual 13 = .ok (.aload_n 0, 1) := by decide +kernel
theorem dX8_fillSharesEqual_14 : decode cX8_fillSharesEqual 14 = .ok (.getfield 26, 3) := by decide +kernel
theorem dX8_fillSharesEqual_17 : decode cX8_fillSharesEqual 17 = .ok (.aload_n 0, 1) := by decide +kernel
theorem dX8_fillSharesEqual_18 : decode cX8_fillSharesEqual 18 = .ok (.getfield 12, 3) := by decide +kernel
theorem dX8_fillSharesEqual_21 : decode cX8_fillSharesEqual 21 = .ok (.iconst 0, 1) := by decide +kernel
theorem dX8_fillSharesEqual_22 : decode cX8_fillSharesEqual 22 = .ok (.iload_n 1, 1) := by decide +kernel
theorem dX8_fillSharesEqual_23 : decode cX8_fillSharesEqual 23 = .ok (.iconst 1, 1) := by decide +kernel
theorem dX8_fillSharesEqual_24 : decode cX8_fillSharesEqual 24 = .ok (.isub, 1) := by decide +kernel
theorem dX8_fillSharesEqual_25 : decode cX8_fillSharesEqual 25 = .ok (.invokevirtual 155, 3) := by decide +kernel
theorem dX8_fillSharesEqual_28 : decode cX8_fillSharesEqual 28 = .ok (.istore_n 2, 1) := by decide +kernel
theorem dX8_fillSharesEqual_29 : decode cX8_fillSharesEqual 29 = .ok (.iload_n 2, 1) := by decide +kernel
theorem dX8_fillSharesEqual_30 : decode cX8_fillSharesEqual 30 = .ok (.iload_n 1, 1) := by decide +kernel
theorem dX8_fillSharesEqual_31 : decode cX8_fillSharesEqual 31 = .ok (.invokestatic 332, 3) := by decide +kernel
theorem dX8_fillSharesEqual_34 : decode cX8_fillSharesEqual 34 = .ok (.istore_n 3, 1) := by decide +kernel
theorem dX8_fillSharesEqual_35 : decode cX8_fillSharesEqual 35 = .ok (.iconst 0, 1) := by decide +kernel
theorem dX8_fillSharesEqual_36 : decode cX8_fillSharesEqual 36 = .ok (.istore 4, 2) := by decide +kernel
theorem dX8_fillSharesEqual_38 : decode cX8_fillSharesEqual 38 = .ok (.iload 4, 2) := by decide +kernel
theorem dX8_fillSharesEqual_40 : decode cX8_fillSharesEqual 40 = .ok (.iload_n 1, 1) := by decide +kernel
theorem dX8_fillSharesEqual_41 : decode cX8_fillSharesEqual 41 = .ok (.if_icmp .ge 33, 3) := by decide +kernel
theorem dX8_fillSharesEqual_44 : decode cX8_fillSharesEqual 44 = .ok (.aload_n 0, 1) := by decide +kernel
theorem dX8_fillSharesEqual_45 : decode cX8_fillSharesEqual 45 = .ok (.getfield 51, 3) := by decide +kernel
theorem dX8_fillSharesEqual_48 : decode cX8_fillSharesEqual 48 = .ok (.iload 4, 2) := by decide +kernel
theorem dX8_fillSharesEqual_50 : decode cX8_fillSharesEqual 50 = .ok (.iload_n 2, 1) := by decide +kernel
theorem dX8_fillSharesEqual_51 : decode cX8_fillSharesEqual 51 = .ok (.iload_n 1, 1) := by decide +kernel
theorem dX8_fillSharesEqual_52 : decode cX8_fillSharesEqual 52 = .ok (.invokestatic 335, 3) := by decide +kernel
theorem dX8_fillSharesEqual_55 : decode cX8_fillSharesEqual 55 = .ok (.iload 4, 2) := by decide +kernel
theorem dX8_fillSharesEqual_57 : decode cX8_fillSharesEqual 57 = .ok (.iload_n 3, 1) := by decide +kernel
theorem dX8_fillSharesEqual_58 : decode cX8_fillSharesEqual 58 = .ok (.if_icmp .ge 7, 3) := by decide +kernel
theorem dX8_fillSharesEqual_61 : decode cX8_fillSharesEqual 61 = .ok (.iconst 1, 1) := by decide +kernel
theorem dX8_fillSharesEqual_62 : decode cX8_fillSharesEqual 62 = .ok (.goto 4, 3) := by decide +kernel
theorem dX8_fillSharesEqual_65 : decode cX8_fillSharesEqual 65 = .ok (.iconst 0, 1) := by decide +kernel
theorem dX8_fillSharesEqual_66 : decode cX8_fillSharesEqual 66 = .ok (.iadd, 1) := by decide +kernel
theorem dX8_fillSharesEqual_67 : decode cX8_fillSharesEqual 67 = .ok (.iastore, 1) := by decide +kernel
theorem dX8_fillSharesEqual_68 : decode cX8_fillSharesEqual 68 = .ok (.iinc 4 1, 3) := by decide +kernel
theorem dX8_fillSharesEqual_71 : decode cX8_fillSharesEqual 71 = .ok (.goto (-33), 3) := by decide +kernel
theorem dX8_fillSharesEqual_74 : decode cX8_fillSharesEqual 74 = .ok (.return_, 1) := by decide +kernel
theorem dX8_breakOfShares_0 : decode cX8_breakOfShares 0 = .ok (.aload_n 0, 1) := by decide +kernel
theorem dX8_breakOfShares_1 : decode cX8_breakOfShares 1 = .ok (.getfield 26, 3) := by decide +kernel
theorem dX8_breakOfShares_4 : decode cX8_breakOfShares 4 = .ok (.aload_n 0, 1) := by decide +kernel
theorem dX8_breakOfShares_5 : decode cX8_breakOfShares 5 = .ok (.getfield 12, 3) := by decide +kernel
theorem dX8_breakOfShares_8 : decode cX8_breakOfShares 8 = .ok (.bipush 10, 2) := by decide +kernel
theorem dX8_breakOfShares_10 : decode cX8_breakOfShares 10 = .ok (.invokevirtual 159, 3) := by decide +kernel
theorem dX8_breakOfShares_13 : decode cX8_breakOfShares 13 = .ok (.iconst 0, 1) := by decide +kernel
theorem dX8_breakOfShares_14 : decode cX8_breakOfShares 14 = .ok (.istore_n 1, 1) := by decide +kernel
theorem dX8_breakOfShares_15 : decode cX8_breakOfShares 15 = .ok (.iload_n 1, 1) := by decide +kernel
theorem dX8_breakOfShares_16 : decode cX8_breakOfShares 16 = .ok (.aload_n 0, 1) := by decide +kernel
theorem dX8_breakOfShares_17 : decode cX8_breakOfShares 17 = .ok (.getfield 12, 3) := by decide +kernel
theorem dX8_breakOfShares_20 : decode cX8_breakOfShares 20 = .ok (.getfield 94, 3) := by decide +kernel
theorem dX8_breakOfShares_23 : decode cX8_breakOfShares 23 = .ok (.if_icmp .ge 66, 3) := by decide +kernel
theorem dX8_breakOfShares_26 : decode cX8_breakOfShares 26 = .ok (.iconst 0, 1) := by decide +kernel
theorem dX8_breakOfShares_27 : decode cX8_breakOfShares 27 = .ok (.istore_n 2, 1) := by decide +kernel
theorem dX8_breakOfShares_28 : decode cX8_breakOfShares 28 = .ok (.iload_n 1, 1) := by decide +kernel
theorem dX8_breakOfShares_29 : decode cX8_breakOfShares 29 = .ok (.istore_n 3, 1) := by decide +kernel
theorem dX8_breakOfShares_30 : decode cX8_breakOfShares 30 = .ok (.iload_n 3, 1) := by decide +kernel
theorem dX8_breakOfShares_31 : decode cX8_breakOfShares 31 = .ok (.aload_n 0, 1) := by decide +kernel
theorem dX8_breakOfShares_32 : decode cX8_breakOfShares 32 = .ok (.getfield 12, 3) := by decide +kernel
theorem dX8_breakOfShares_35 : decode cX8_breakOfShares 35 = .ok (.getfield 94, 3) := by decide +kernel
theorem dX8_breakOfShares_38 : decode cX8_breakOfShares 38 = .ok (.if_icmp .ge 45, 3) := by decide +kernel
theorem dX8_breakOfShares_41 : decode cX8_breakOfShares 41 = .ok (.iload_n 2, 1) := by decide +kernel
theorem dX8_breakOfShares_42 : decode cX8_breakOfShares 42 = .ok (.aload_n 0, 1) := by decide +kernel
theorem dX8_breakOfShares_43 : decode cX8_breakOfShares 43 = .ok (.getfield 51, 3) := by decide +kernel
theorem dX8_breakOfShares_46 : decode cX8_breakOfShares 46 = .ok (.iload_n 3, 1) := by decide +kernel
theorem dX8_breakOfShares_47 : decode cX8_breakOfShares 47 = .ok (.iaload, 1) := by decide +kernel
theorem dX8_breakOfShares_48 : decode cX8_breakOfShares 48 = .ok (.iadd, 1) := by decide +kernel
theorem dX8_breakOfShares_49 : decode cX8_breakOfShares 49 = .ok (.istore_n 2, 1) := by decide +kernel
theorem dX8_breakOfShares_50 : decode cX8_breakOfShares 50 = .ok (.iload_n 2, 1) := by decide +kernel
theorem dX8_breakOfShares_51 : decode cX8_breakOfShares 51 = .ok (.aload_n 0, 1) := by decide +kernel
theorem dX8_breakOfShares_52 : decode cX8_breakOfShares 52 = .ok (.getfield 26, 3) := by decide +kernel
theorem dX8_breakOfShares_55 : decode cX8_breakOfShares 55 = .ok (.aload_n 0, 1) := by decide +kernel
theorem dX8_breakOfShares_56 : decode cX8_breakOfShares 56 = .ok (.getfield 12, 3) := by decide +kernel
theorem dX8_breakOfShares_59 : decode cX8_breakOfShares 59 = .ok (.iload_n 1, 1) := by decide +kernel
theorem dX8_breakOfShares_60 : decode cX8_breakOfShares 60 = .ok (.iload_n 3, 1) := by decide +kernel
theorem dX8_breakOfShares_61 : decode cX8_breakOfShares 61 = .ok (.invokevirtual 155, 3) := by decide +kernel
theorem dX8_breakOfShares_64 : decode cX8_breakOfShares 64 = .ok (.if_icmp .ge 13, 3) := by decide +kernel
theorem dX8_breakOfShares_67 : decode cX8_breakOfShares 67 = .ok (.bipush 100, 2) := by decide +kernel
theorem dX8_breakOfShares_69 : decode cX8_breakOfShares 69 = .ok (.bipush 10, 2) := by decide +kernel
theorem dX8_breakOfShares_71 : decode cX8_breakOfShares 71 = .ok (.iload_n 1, 1) := by decide +kernel
theorem dX8_breakOfShares_72 : decode cX8_breakOfShares 72 = .ok (.imul, 1) := by decide +kernel
theorem dX8_breakOfShares_73 : decode cX8_breakOfShares 73 = .ok (.iadd, 1) := by decide +kernel
theorem dX8_breakOfShares_74 : decode cX8_breakOfShares 74 = .ok (.iload_n 3, 1) := by decide +kernel
theorem dX8_breakOfShares_75 : decode cX8_breakOfShares 75 = .ok (.iadd, 1) := by decide +kernel
theorem dX8_breakOfShares_76 : decode cX8_breakOfShares 76 = .ok (.ireturn, 1) := by decide +kernel
theorem dX8_breakOfShares_77 : decode cX8_breakOfShares 77 = .ok (.iinc 3 1, 3) := by decide +kernel
theorem dX8_breakOfShares_80 : decode cX8_breakOfShares 80 = .ok (.goto (-50), 3) := by decide +kernel
theorem dX8_breakOfShares_83 : decode cX8_breakOfShares 83 = .ok (.iinc 1 1, 3) := by decide +kernel
theorem dX8_breakOfShares_86 : decode cX8_breakOfShares 86 = .ok (.goto (-71), 3) := by decide +kernel
theorem dX8_breakOfShares_89 : decode cX8_breakOfShares 89 = .ok (.iconst 0, 1) := by decide +kernel
theorem dX8_breakOfShares_90 : decode cX8_breakOfShares 90 = .ok (.istore_n 1, 1) := by decide +kernel
theorem dX8_breakOfShares_91 : decode cX8_breakOfShares 91 = .ok (.iload_n 1, 1) := by decide +kernel
theorem dX8_breakOfShares_92 : decode cX8_breakOfShares 92 = .ok (.aload_n 0, 1) := by decide +kernel
theorem dX8_breakOfShares_93 : decode cX8_breakOfShares 93 = .ok (.getfield 12, 3) := by decide +kernel
theorem dX8_breakOfShares_96 : decode cX8_breakOfShares 96 = .ok (.getfield 94, 3) := by decide +kernel
theorem dX8_breakOfShares_99 : decode cX8_breakOfShares 99 = .ok (.if_icmp .ge 29, 3) := by decide +kernel
theorem dX8_breakOfShares_102 : decode cX8_breakOfShares 102 = .ok (.aload_n 0, 1) := by decide +kernel
theorem dX8_breakOfShares_103 : decode cX8_breakOfShares 103 = .ok (.getfield 51, 3) := by decide +kernel
theorem dX8_breakOfShares_106 : decode cX8_breakOfShares 106 = .ok (.iload_n 1, 1) := by decide +kernel
theorem dX8_breakOfShares_107 : decode cX8_breakOfShares 107 = .ok (.iaload, 1) := by decide +kernel
theorem dX8_breakOfShares_108 : decode cX8_breakOfShares 108 = .ok (.aload_n 0, 1) := by decide +kernel
theorem dX8_breakOfShares_109 : decode cX8_breakOfShares 109 = .ok (.iload_n 1, 1) := by decide +kernel
theorem dX8_breakOfShares_110 : decode cX8_breakOfShares 110 = .ok (.invokevirtual 161, 3) := by decide +kernel
theorem dX8_breakOfShares_113 : decode cX8_breakOfShares 113 = .ok (.if_icmp .le 9, 3) := by decide +kernel
theorem dX8_breakOfShares_116 : decode cX8_breakOfShares 116 = .ok (.sipush 200, 3) := by decide +kernel
theorem dX8_breakOfShares_119 : decode cX8_breakOfShares 119 = .ok (.iload_n 1, 1) := by decide +kernel
theorem dX8_breakOfShares_120 : decode cX8_breakOfShares 120 = .ok (.iadd, 1) := by decide +kernel
theorem dX8_breakOfShares_121 : decode cX8_breakOfShares 121 = .ok (.ireturn, 1) := by decide +kernel
theorem dX8_breakOfShares_122 : decode cX8_breakOfShares 122 = .ok (.iinc 1 1, 3) := by decide +kernel
theorem dX8_breakOfShares_125 : decode cX8_breakOfShares 125 = .ok (.goto (-34), 3) := by decide +kernel
theorem dX8_breakOfShares_128 : decode cX8_breakOfShares 128 = .ok (.iconst 0, 1) := by decide +kernel
theorem dX8_breakOfShares_129 : decode cX8_breakOfShares 129 = .ok (.ireturn, 1) := by decide +kernel
theorem dX8_isRight_0 : decode cX8_isRight 0 = .ok (.aload_n 0, 1) := by decide +kernel
theorem dX8_isRight_1 : decode cX8_isRight 1 = .ok (.iload_n 1, 1) := by decide +kernel
theorem dX8_isRight_2 : decode cX8_isRight 2 = .ok (.invokevirtual 101, 3) := by decide +kernel
theorem dX8_isRight_5 : decode cX8_isRight 5 = .ok (.ifCond .eq 15, 3) := by decide +kernel
theorem dX8_isRight_8 : decode cX8_isRight 8 = .ok (.aload_n 0, 1) := by decide +kernel
theorem dX8_isRight_9 : decode cX8_isRight 9 = .ok (.getfield 57, 3) := by decide +kernel
theorem dX8_isRight_12 : decode cX8_isRight 12 = .ok (.iload_n 1, 1) := by decide +kernel
theorem dX8_isRight_13 : decode cX8_isRight 13 = .ok (.aaload, 1) := by decide +kernel
theorem dX8_isRight_14 : decode cX8_isRight 14 = .ok (.iconst 0, 1) := by decide +kernel
theorem dX8_isRight_15 : decode cX8_isRight 15 = .ok (.iaload, 1) := by decide +kernel
theorem dX8_isRight_16 : decode cX8_isRight 16 = .ok (.iload_n 1, 1) := by decide +kernel
theorem dX8_isRight_17 : decode cX8_isRight 17 = .ok (.if_icmp .eq 5, 3) := by decide +kernel
theorem dX8_isRight_20 : decode cX8_isRight 20 = .ok (.iconst 0, 1) := by decide +kernel
theorem dX8_isRight_21 : decode cX8_isRight 21 = .ok (.ireturn, 1) := by decide +kernel
theorem dX8_isRight_22 : decode cX8_isRight 22 = .ok (.iload_n 2, 1) := by decide +kernel
theorem dX8_isRight_23 : decode cX8_isRight 23 = .ok (.aload_n 0, 1) := by decide +kernel
theorem dX8_isRight_24 : decode cX8_isRight 24 = .ok (.getfield 26, 3) := by decide +kernel
theorem dX8_isRight_27 : decode cX8_isRight 27 = .ok (.getfield 152, 3) := by decide +kernel
theorem dX8_isRight_30 : decode cX8_isRight 30 = .ok (.iload_n 1, 1) := by decide +kernel
theorem dX8_isRight_31 : decode cX8_isRight 31 = .ok (.iaload, 1) := by decide +kernel
theorem dX8_isRight_32 : decode cX8_isRight 32 = .ok (.iadd, 1) := by decide +kernel
theorem dX8_isRight_33 : decode cX8_isRight 33 = .ok (.istore_n 3, 1) := by decide +kernel
theorem dX8_isRight_34 : decode cX8_isRight 34 = .ok (.aload_n 0, 1) := by decide +kernel
theorem dX8_isRight_35 : decode cX8_isRight 35 = .ok (.getfield 57, 3) := by decide +kernel
theorem dX8_isRight_38 : decode cX8_isRight 38 = .ok (.iload_n 1, 1) := by decide +kernel
theorem dX8_isRight_39 : decode cX8_isRight 39 = .ok (.aaload, 1) := by decide +kernel
theorem dX8_isRight_40 : decode cX8_isRight 40 = .ok (.iconst 1, 1) := by decide +kernel
theorem dX8_isRight_41 : decode cX8_isRight 41 = .ok (.iaload, 1) := by decide +kernel
theorem dX8_isRight_42 : decode cX8_isRight 42 = .ok (.istore 4, 2) := by decide +kernel
theorem dX8_isRight_44 : decode cX8_isRight 44 = .ok (.iload 4, 2) := by decide +kernel
theorem dX8_isRight_46 : decode cX8_isRight 46 = .ok (.iconst 0, 1) := by decide +kernel
theorem dX8_isRight_47 : decode cX8_isRight 47 = .ok (.iload_n 3, 1) := by decide +kernel
theorem dX8_isRight_48 : decode cX8_isRight 48 = .ok (.bipush 12, 2) := by decide +kernel
theorem dX8_isRight_50 : decode cX8_isRight 50 = .ok (.invokestatic 312, 3) := by decide +kernel
theorem dX8_isRight_53 : decode cX8_isRight 53 = .ok (.invokestatic 105, 3) := by decide +kernel
theorem dX8_isRight_56 : decode cX8_isRight 56 = .ok (.ifCond .eq 22, 3) := by decide +kernel
theorem dX8_isRight_59 : decode cX8_isRight 59 = .ok (.aload_n 0, 1) := by decide +kernel
theorem dX8_isRight_60 : decode cX8_isRight 60 = .ok (.getfield 57, 3) := by decide +kernel
theorem dX8_isRight_63 : decode cX8_isRight 63 = .ok (.iload_n 1, 1) := by decide +kernel
theorem dX8_isRight_64 : decode cX8_isRight 64 = .ok (.aaload, 1) := by decide +kernel
theorem dX8_isRight_65 : decode cX8_isRight 65 = .ok (.iconst 2, 1) := by decide +kernel
theorem dX8_isRight_66 : decode cX8_isRight 66 = .ok (.iaload, 1) := by decide +kernel
theorem dX8_isRight_67 : decode cX8_isRight 67 = .ok (.iload_n 3, 1) := by decide +kernel
theorem dX8_isRight_68 : decode cX8_isRight 68 = .ok (.iload 4, 2) := by decide +kernel
theorem dX8_isRight_70 : decode cX8_isRight 70 = .ok (.isub, 1) := by decide +kernel
theorem dX8_isRight_71 : decode cX8_isRight 71 = .ok (.if_icmp .ne 7, 3) := by decide +kernel
theorem dX8_isRight_74 : decode cX8_isRight 74 = .ok (.iconst 1, 1) := by decide +kernel
theorem dX8_isRight_75 : decode cX8_isRight 75 = .ok (.goto 4, 3) := by decide +kernel
theorem dX8_isRight_78 : decode cX8_isRight 78 = .ok (.iconst 0, 1) := by decide +kernel
theorem dX8_isRight_79 : decode cX8_isRight 79 = .ok (.ireturn, 1) := by decide +kernel
theorem dX8_heldOn_0 : decode cX8_heldOn 0 = .ok (.aload_n 0, 1) := by decide +kernel
theorem dX8_heldOn_1 : decode cX8_heldOn 1 = .ok (.getfield 70, 3) := by decide +kernel
theorem dX8_heldOn_4 : decode cX8_heldOn 4 = .ok (.iload_n 1, 1) := by decide +kernel
theorem dX8_heldOn_5 : decode cX8_heldOn 5 = .ok (.iaload, 1) := by decide +kernel
theorem dX8_heldOn_6 : decode cX8_heldOn 6 = .ok (.istore_n 2, 1) := by decide +kernel
theorem dX8_heldOn_7 : decode cX8_heldOn 7 = .ok (.iload_n 2, 1) := by decide +kernel
theorem dX8_heldOn_8 : decode cX8_heldOn 8 = .ok (.iconst 0, 1) := by decide +kernel
theorem dX8_heldOn_9 : decode cX8_heldOn 9 = .ok (.bipush 6, 2) := by decide +kernel
theorem dX8_heldOn_11 : decode cX8_heldOn 11 = .ok (.invokestatic 105, 3) := by decide +kernel
theorem dX8_heldOn_14 : decode cX8_heldOn 14 = .ok (.ifCond .eq 20, 3) := by decide +kernel
theorem dX8_heldOn_17 : decode cX8_heldOn 17 = .ok (.aload_n 0, 1) := by decide +kernel
theorem dX8_heldOn_18 : decode cX8_heldOn 18 = .ok (.aload_n 0, 1) := by decide +kernel
theorem dX8_heldOn_19 : decode cX8_heldOn 19 = .ok (.getfield 73, 3) := by decide +kernel
theorem dX8_heldOn_22 : decode cX8_heldOn 22 = .ok (.iload_n 1, 1) := by decide +kernel
theorem dX8_heldOn_23 : decode cX8_heldOn 23 = .ok (.iaload, 1) := by decide +kernel
theorem dX8_heldOn_24 : decode cX8_heldOn 24 = .ok (.invokevirtual 101, 3) := by decide +kernel
theorem dX8_heldOn_27 : decode cX8_heldOn 27 = .ok (.ifCond .ne 7, 3) := by decide +kernel
theorem dX8_heldOn_30 : decode cX8_heldOn 30 = .ok (.iconst 1, 1) := by decide +kernel
theorem dX8_heldOn_31 : decode cX8_heldOn 31 = .ok (.goto 4, 3) := by decide +kernel
theorem dX8_heldOn_34 : decode cX8_heldOn 34 = .ok (.iconst 0, 1) := by decide +kernel
theorem dX8_heldOn_35 : decode cX8_heldOn 35 = .ok (.istore_n 3, 1) := by decide +kernel
theorem dX8_heldOn_36 : decode cX8_heldOn 36 = .ok (.iload_n 3, 1) := by decide +kernel
theorem dX8_heldOn_37 : decode cX8_heldOn 37 = .ok (.ifCond .eq 7, 3) := by decide +kernel
theorem dX8_heldOn_40 : decode cX8_heldOn 40 = .ok (.iconst (-1), 1) := by decide +kernel
theorem dX8_heldOn_41 : decode cX8_heldOn 41 = .ok (.goto 4, 3) := by decide +kernel
theorem dX8_heldOn_44 : decode cX8_heldOn 44 = .ok (.iload_n 2, 1) := by decide +kernel
theorem dX8_heldOn_45 : decode cX8_heldOn 45 = .ok (.ireturn, 1) := by decide +kernel
theorem dX8_isUnder_0 : decode cX8_isUnder 0 = .ok (.iload_n 0, 1) := by decide +kernel
theorem dX8_isUnder_1 : decode cX8_isUnder 1 = .ok (.istore_n 2, 1) := by decide +kernel
theorem dX8_isUnder_2 : decode cX8_isUnder 2 = .ok (.iconst 0, 1) := by decide +kernel
theorem dX8_isUnder_3 : decode cX8_isUnder 3 = .ok (.istore_n 3, 1) := by decide +kernel
theorem dX8_isUnder_4 : decode cX8_isUnder 4 = .ok (.iload_n 3, 1) := by decide +kernel
theorem dX8_isUnder_5 : decode cX8_isUnder 5 = .ok (.getstatic 338, 3) := by decide +kernel
theorem dX8_isUnder_8 : decode cX8_isUnder 8 = .ok (.arraylength, 1) := by decide +kernel
theorem dX8_isUnder_9 : decode cX8_isUnder 9 = .ok (.if_icmp .ge 38, 3) := by decide +kernel
theorem dX8_isUnder_12 : decode cX8_isUnder 12 = .ok (.iload_n 2, 1) := by decide +kernel
theorem dX8_isUnder_13 : decode cX8_isUnder 13 = .ok (.iload_n 1, 1) := by decide +kernel
theorem dX8_isUnder_14 : decode cX8_isUnder 14 = .ok (.if_icmp .ne 5, 3) := by decide +kernel
theorem dX8_isUnder_17 : decode cX8_isUnder 17 = .ok (.iconst 1, 1) := by decide +kernel
theorem dX8_isUnder_18 : decode cX8_isUnder 18 = .ok (.ireturn, 1) := by decide +kernel
theorem dX8_isUnder_19 : decode cX8_isUnder 19 = .ok (.iload_n 2, 1) := by decide +kernel
theorem dX8_isUnder_20 : decode cX8_isUnder 20 = .ok (.iconst 0, 1) := by decide +kernel
theorem dX8_isUnder_21 : decode cX8_isUnder 21 = .ok (.getstatic 338, 3) := by decide +kernel
theorem dX8_isUnder_24 : decode cX8_isUnder 24 = .ok (.arraylength, 1) := by decide +kernel
theorem dX8_isUnder_25 : decode cX8_isUnder 25 = .ok (.iconst 1, 1) := by decide +kernel
theorem dX8_isUnder_26 : decode cX8_isUnder 26 = .ok (.isub, 1) := by decide +kernel
theorem dX8_isUnder_27 : decode cX8_isUnder 27 = .ok (.invokestatic 105, 3) := by decide +kernel
theorem dX8_isUnder_30 : decode cX8_isUnder 30 = .ok (.ifCond .ne 5, 3) := by decide +kernel
theorem dX8_isUnder_33 : decode cX8_isUnder 33 = .ok (.iconst 0, 1) := by decide +kernel
theorem dX8_isUnder_34 : decode cX8_isUnder 34 = .ok (.ireturn, 1) := by decide +kernel
theorem dX8_isUnder_35 : decode cX8_isUnder 35 = .ok (.getstatic 338, 3) := by decide +kernel
theorem dX8_isUnder_38 : decode cX8_isUnder 38 = .ok (.iload_n 2, 1) := by decide +kernel
theorem dX8_isUnder_39 : decode cX8_isUnder 39 = .ok (.iaload, 1) := by decide +kernel
theorem dX8_isUnder_40 : decode cX8_isUnder 40 = .ok (.istore_n 2, 1) := by decide +kernel
theorem dX8_isUnder_41 : decode cX8_isUnder 41 = .ok (.iinc 3 1, 3) := by decide +kernel
theorem dX8_isUnder_44 : decode cX8_isUnder 44 = .ok (.goto (-40), 3) := by decide +kernel
theorem dX8_isUnder_47 : decode cX8_isUnder 47 = .ok (.iconst 0, 1) := by decide +kernel
theorem dX8_isUnder_48 : decode cX8_isUnder 48 = .ok (.ireturn, 1) := by decide +kernel
theorem dX8_amountOf_0 : decode cX8_amountOf 0 = .ok (.iload_n 1, 1) := by decide +kernel
theorem dX8_amountOf_1 : decode cX8_amountOf 1 = .ok (.tableswitch 85 0 6 #[43, 85, 43, 61, 69, 77, 49], 43) := by decide +kernel
theorem dX8_amountOf_44 : decode cX8_amountOf 44 = .ok (.aload_n 0, 1) := by decide +kernel
theorem dX8_amountOf_45 : decode cX8_amountOf 45 = .ok (.iload_n 2, 1) := by decide +kernel
theorem dX8_amountOf_46 : decode cX8_amountOf 46 = .ok (.invokevirtual 168, 3) := by decide +kernel
theorem dX8_amountOf_49 : decode cX8_amountOf 49 = .ok (.ireturn, 1) := by decide +kernel
theorem dX8_amountOf_50 : decode cX8_amountOf 50 = .ok (.aload_n 0, 1) := by decide +kernel
theorem dX8_amountOf_51 : decode cX8_amountOf 51 = .ok (.getfield 12, 3) := by decide +kernel
theorem dX8_amountOf_54 : decode cX8_amountOf 54 = .ok (.getfield 109, 3) := by decide +kernel
theorem dX8_amountOf_57 : decode cX8_amountOf 57 = .ok (.iload_n 2, 1) := by decide +kernel
theorem dX8_amountOf_58 : decode cX8_amountOf 58 = .ok (.aaload, 1) := by decide +kernel
theorem dX8_amountOf_59 : decode cX8_amountOf 59 = .ok (.iconst 0, 1) := by decide +kernel
theorem dX8_amountOf_60 : decode cX8_amountOf 60 = .ok (.iaload, 1) := by decide +kernel
theorem dX8_amountOf_61 : decode cX8_amountOf 61 = .ok (.ireturn, 1) := by decide +kernel
theorem dX8_amountOf_62 : decode cX8_amountOf 62 = .ok (.aload_n 0, 1) := by decide +kernel
theorem dX8_amountOf_63 : decode cX8_amountOf 63 = .ok (.iconst 1, 1) := by decide +kernel
theorem dX8_amountOf_64 : decode cX8_amountOf 64 = .ok (.invokevirtual 164, 3) := by decide +kernel
theorem dX8_amountOf_67 : decode cX8_amountOf 67 = .ok (.goto 24, 3) := by decide +kernel
theorem dX8_amountOf_70 : decode cX8_amountOf 70 = .ok (.aload_n 0, 1) := by decide +kernel
theorem dX8_amountOf_71 : decode cX8_amountOf 71 = .ok (.iconst 2, 1) := by decide +kernel
theorem dX8_amountOf_72 : decode cX8_amountOf 72 = .ok (.invokevirtual 164, 3) := by decide +kernel
theorem dX8_amountOf_75 : decode cX8_amountOf 75 = .ok (.goto 16, 3) := by decide +kernel
theorem dX8_amountOf_78 : decode cX8_amountOf 78 = .ok (.aload_n 0, 1) := by decide +kernel
theorem dX8_amountOf_79 : decode cX8_amountOf 79 = .ok (.iconst 3, 1) := by decide +kernel
theorem dX8_amountOf_80 : decode cX8_amountOf 80 = .ok (.invokevirtual 164, 3) := by decide +kernel
theorem dX8_amountOf_83 : decode cX8_amountOf 83 = .ok (.goto 8, 3) := by decide +kernel
theorem dX8_amountOf_86 : decode cX8_amountOf 86 = .ok (.aload_n 0, 1) := by decide +kernel
theorem dX8_amountOf_87 : decode cX8_amountOf 87 = .ok (.iconst 0, 1) := by decide +kernel
theorem dX8_amountOf_88 : decode cX8_amountOf 88 = .ok (.invokevirtual 164, 3) := by decide +kernel
theorem dX8_amountOf_91 : decode cX8_amountOf 91 = .ok (.aload_n 0, 1) := by decide +kernel
theorem dX8_amountOf_92 : decode cX8_amountOf 92 = .ok (.getfield 51, 3) := by decide +kernel
theorem dX8_amountOf_95 : decode cX8_amountOf 95 = .ok (.iload_n 2, 1) := by decide +kernel
theorem dX8_amountOf_96 : decode cX8_amountOf 96 = .ok (.iaload, 1) := by decide +kernel
theorem dX8_amountOf_97 : decode cX8_amountOf 97 = .ok (.ireturn, 1) := by decide +kernel
