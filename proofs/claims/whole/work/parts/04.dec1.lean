theorem dX6_init_45 : decode cX6_init 45 = .ok (.invokespecial 20, 3) := by decide +kernel
theorem dX6_init_48 : decode cX6_init 48 = .ok (.putfield 28, 3) := by decide +kernel
theorem dX6_init_51 : decode cX6_init 51 = .ok (.aload_n 0, 1) := by decide +kernel
theorem dX6_init_52 : decode cX6_init 52 = .ok (.new 31, 3) := by decide +kernel
theorem dX6_init_55 : decode cX6_init 55 = .ok (.dup, 1) := by decide +kernel
theorem dX6_init_56 : decode cX6_init 56 = .ok (.invokespecial 33, 3) := by decide +kernel
theorem dX6_init_59 : decode cX6_init 59 = .ok (.putfield 34, 3) := by decide +kernel
theorem dX6_init_62 : decode cX6_init 62 = .ok (.aload_n 0, 1) := by decide +kernel
theorem dX6_init_63 : decode cX6_init 63 = .ok (.new 31, 3) := by decide +kernel
theorem dX6_init_66 : decode cX6_init 66 = .ok (.dup, 1) := by decide +kernel
theorem dX6_init_67 : decode cX6_init 67 = .ok (.invokespecial 33, 3) := by decide +kernel
theorem dX6_init_70 : decode cX6_init 70 = .ok (.putfield 38, 3) := by decide +kernel
theorem dX6_init_73 : decode cX6_init 73 = .ok (.aload_n 0, 1) := by decide +kernel
theorem dX6_init_74 : decode cX6_init 74 = .ok (.getfield 21, 3) := by decide +kernel
theorem dX6_init_77 : decode cX6_init 77 = .ok (.aload_n 0, 1) := by decide +kernel
theorem dX6_init_78 : decode cX6_init 78 = .ok (.getfield 12, 3) := by decide +kernel
theorem dX6_init_81 : decode cX6_init 81 = .ok (.invokevirtual 41, 3) := by decide +kernel
theorem dX6_init_84 : decode cX6_init 84 = .ok (.pop, 1) := by decide +kernel
theorem dX6_init_85 : decode cX6_init 85 = .ok (.return_, 1) := by decide +kernel
theorem dX6_beginWind_0 : decode cX6_beginWind 0 = .ok (.iload_n 1, 1) := by decide +kernel
theorem dX6_beginWind_1 : decode cX6_beginWind 1 = .ok (.invokestatic 45, 3) := by decide +kernel
theorem dX6_beginWind_4 : decode cX6_beginWind 4 = .ok (.ifCond .eq 13, 3) := by decide +kernel
theorem dX6_beginWind_7 : decode cX6_beginWind 7 = .ok (.iload_n 2, 1) := by decide +kernel
theorem dX6_beginWind_8 : decode cX6_beginWind 8 = .ok (.iconst 0, 1) := by decide +kernel
theorem dX6_beginWind_9 : decode cX6_beginWind 9 = .ok (.bipush 9, 2) := by decide +kernel
theorem dX6_beginWind_11 : decode cX6_beginWind 11 = .ok (.invokestatic 49, 3) := by decide +kernel
theorem dX6_beginWind_14 : decode cX6_beginWind 14 = .ok (.ifCond .ne 13, 3) := by decide +kernel
theorem dX6_beginWind_17 : decode cX6_beginWind 17 = .ok (.new 53, 3) := by decide +kernel
theorem dX6_beginWind_20 : decode cX6_beginWind 20 = .ok (.dup, 1) := by decide +kernel
theorem dX6_beginWind_21 : decode cX6_beginWind 21 = .ok (.ldc 55, 2) := by decide +kernel
theorem dX6_beginWind_23 : decode cX6_beginWind 23 = .ok (.invokespecial 57, 3) := by decide +kernel
theorem dX6_beginWind_26 : decode cX6_beginWind 26 = .ok (.athrow, 1) := by decide +kernel
theorem dX6_beginWind_27 : decode cX6_beginWind 27 = .ok (.aload_n 0, 1) := by decide +kernel
theorem dX6_beginWind_28 : decode cX6_beginWind 28 = .ok (.getfield 21, 3) := by decide +kernel
theorem dX6_beginWind_31 : decode cX6_beginWind 31 = .ok (.invokevirtual 60, 3) := by decide +kernel
theorem dX6_beginWind_34 : decode cX6_beginWind 34 = .ok (.istore 4, 2) := by decide +kernel
theorem dX6_beginWind_36 : decode cX6_beginWind 36 = .ok (.aload_n 0, 1) := by decide +kernel
theorem dX6_beginWind_37 : decode cX6_beginWind 37 = .ok (.getfield 21, 3) := by decide +kernel
theorem dX6_beginWind_40 : decode cX6_beginWind 40 = .ok (.invokevirtual 64, 3) := by decide +kernel
theorem dX6_beginWind_43 : decode cX6_beginWind 43 = .ok (.aload_n 0, 1) := by decide +kernel
theorem dX6_beginWind_44 : decode cX6_beginWind 44 = .ok (.getfield 21, 3) := by decide +kernel
theorem dX6_beginWind_47 : decode cX6_beginWind 47 = .ok (.new 7, 3) := by decide +kernel
theorem dX6_beginWind_50 : decode cX6_beginWind 50 = .ok (.dup, 1) := by decide +kernel
theorem dX6_beginWind_51 : decode cX6_beginWind 51 = .ok (.iload_n 1, 1) := by decide +kernel
theorem dX6_beginWind_52 : decode cX6_beginWind 52 = .ok (.iload_n 2, 1) := by decide +kernel
theorem dX6_beginWind_53 : decode cX6_beginWind 53 = .ok (.iload_n 3, 1) := by decide +kernel
theorem dX6_beginWind_54 : decode cX6_beginWind 54 = .ok (.invokespecial 9, 3) := by decide +kernel
theorem dX6_beginWind_57 : decode cX6_beginWind 57 = .ok (.invokevirtual 41, 3) := by decide +kernel
theorem dX6_beginWind_60 : decode cX6_beginWind 60 = .ok (.pop, 1) := by decide +kernel
theorem dX6_beginWind_61 : decode cX6_beginWind 61 = .ok (.iload 4, 2) := by decide +kernel
theorem dX6_beginWind_63 : decode cX6_beginWind 63 = .ok (.ireturn, 1) := by decide +kernel
theorem dX6_addWind_0 : decode cX6_addWind 0 = .ok (.iload_n 1, 1) := by decide +kernel
theorem dX6_addWind_1 : decode cX6_addWind 1 = .ok (.invokestatic 45, 3) := by decide +kernel
theorem dX6_addWind_4 : decode cX6_addWind 4 = .ok (.ifCond .eq 13, 3) := by decide +kernel
theorem dX6_addWind_7 : decode cX6_addWind 7 = .ok (.iload_n 2, 1) := by decide +kernel
theorem dX6_addWind_8 : decode cX6_addWind 8 = .ok (.iconst 0, 1) := by decide +kernel
theorem dX6_addWind_9 : decode cX6_addWind 9 = .ok (.bipush 9, 2) := by decide +kernel
theorem dX6_addWind_11 : decode cX6_addWind 11 = .ok (.invokestatic 49, 3) := by decide +kernel
theorem dX6_addWind_14 : decode cX6_addWind 14 = .ok (.ifCond .ne 13, 3) := by decide +kernel
theorem dX6_addWind_17 : decode cX6_addWind 17 = .ok (.new 53, 3) := by decide +kernel
theorem dX6_addWind_20 : decode cX6_addWind 20 = .ok (.dup, 1) := by decide +kernel
theorem dX6_addWind_21 : decode cX6_addWind 21 = .ok (.ldc 55, 2) := by decide +kernel
theorem dX6_addWind_23 : decode cX6_addWind 23 = .ok (.invokespecial 57, 3) := by decide +kernel
theorem dX6_addWind_26 : decode cX6_addWind 26 = .ok (.athrow, 1) := by decide +kernel
theorem dX6_addWind_27 : decode cX6_addWind 27 = .ok (.aload_n 0, 1) := by decide +kernel
theorem dX6_addWind_28 : decode cX6_addWind 28 = .ok (.getfield 21, 3) := by decide +kernel
theorem dX6_addWind_31 : decode cX6_addWind 31 = .ok (.invokevirtual 60, 3) := by decide +kernel
theorem dX6_addWind_34 : decode cX6_addWind 34 = .ok (.bipush 24, 2) := by decide +kernel
theorem dX6_addWind_36 : decode cX6_addWind 36 = .ok (.if_icmp .lt 13, 3) := by decide +kernel
theorem dX6_addWind_39 : decode cX6_addWind 39 = .ok (.new 67, 3) := by decide +kernel
theorem dX6_addWind_42 : decode cX6_addWind 42 = .ok (.dup, 1) := by decide +kernel
theorem dX6_addWind_43 : decode cX6_addWind 43 = .ok (.ldc 69, 2) := by decide +kernel
theorem dX6_addWind_45 : decode cX6_addWind 45 = .ok (.invokespecial 71, 3) := by decide +kernel
theorem dX6_addWind_48 : decode cX6_addWind 48 = .ok (.athrow, 1) := by decide +kernel
theorem dX6_addWind_49 : decode cX6_addWind 49 = .ok (.aload_n 0, 1) := by decide +kernel
theorem dX6_addWind_50 : decode cX6_addWind 50 = .ok (.getfield 21, 3) := by decide +kernel
theorem dX6_addWind_53 : decode cX6_addWind 53 = .ok (.new 7, 3) := by decide +kernel
theorem dX6_addWind_56 : decode cX6_addWind 56 = .ok (.dup, 1) := by decide +kernel
theorem dX6_addWind_57 : decode cX6_addWind 57 = .ok (.iload_n 1, 1) := by decide +kernel
theorem dX6_addWind_58 : decode cX6_addWind 58 = .ok (.iload_n 2, 1) := by decide +kernel
theorem dX6_addWind_59 : decode cX6_addWind 59 = .ok (.iload_n 3, 1) := by decide +kernel
theorem dX6_addWind_60 : decode cX6_addWind 60 = .ok (.invokespecial 9, 3) := by decide +kernel
theorem dX6_addWind_63 : decode cX6_addWind 63 = .ok (.invokevirtual 41, 3) := by decide +kernel
theorem dX6_addWind_66 : decode cX6_addWind 66 = .ok (.pop, 1) := by decide +kernel
theorem dX6_addWind_67 : decode cX6_addWind 67 = .ok (.aload_n 0, 1) := by decide +kernel
theorem dX6_addWind_68 : decode cX6_addWind 68 = .ok (.getfield 21, 3) := by decide +kernel
theorem dX6_addWind_71 : decode cX6_addWind 71 = .ok (.invokevirtual 60, 3) := by decide +kernel
theorem dX6_addWind_74 : decode cX6_addWind 74 = .ok (.ireturn, 1) := by decide +kernel
theorem dX6_wind_0 : decode cX6_wind 0 = .ok (.iload_n 1, 1) := by decide +kernel
theorem dX6_wind_1 : decode cX6_wind 1 = .ok (.ifCond .ge 13, 3) := by decide +kernel
theorem dX6_wind_4 : decode cX6_wind 4 = .ok (.new 53, 3) := by decide +kernel
theorem dX6_wind_7 : decode cX6_wind 7 = .ok (.dup, 1) := by decide +kernel
theorem dX6_wind_8 : decode cX6_wind 8 = .ok (.ldc 72, 2) := by decide +kernel
theorem dX6_wind_10 : decode cX6_wind 10 = .ok (.invokespecial 57, 3) := by decide +kernel
theorem dX6_wind_13 : decode cX6_wind 13 = .ok (.athrow, 1) := by decide +kernel
theorem dX6_wind_14 : decode cX6_wind 14 = .ok (.iload_n 2, 1) := by decide +kernel
theorem dX6_wind_15 : decode cX6_wind 15 = .ok (.iconst 0, 1) := by decide +kernel
theorem dX6_wind_16 : decode cX6_wind 16 = .ok (.iconst 2, 1) := by decide +kernel
theorem dX6_wind_17 : decode cX6_wind 17 = .ok (.invokestatic 49, 3) := by decide +kernel
theorem dX6_wind_20 : decode cX6_wind 20 = .ok (.ifCond .ne 13, 3) := by decide +kernel
theorem dX6_wind_23 : decode cX6_wind 23 = .ok (.new 74, 3) := by decide +kernel
theorem dX6_wind_26 : decode cX6_wind 26 = .ok (.dup, 1) := by decide +kernel
theorem dX6_wind_27 : decode cX6_wind 27 = .ok (.ldc 76, 2) := by decide +kernel
theorem dX6_wind_29 : decode cX6_wind 29 = .ok (.invokespecial 78, 3) := by decide +kernel
theorem dX6_wind_32 : decode cX6_wind 32 = .ok (.athrow, 1) := by decide +kernel
theorem dX6_wind_33 : decode cX6_wind 33 = .ok (.aload_n 0, 1) := by decide +kernel
theorem dX6_wind_34 : decode cX6_wind 34 = .ok (.iload_n 1, 1) := by decide +kernel
theorem dX6_wind_35 : decode cX6_wind 35 = .ok (.invokevirtual 79, 3) := by decide +kernel
theorem dX6_wind_38 : decode cX6_wind 38 = .ok (.iload_n 2, 1) := by decide +kernel
theorem dX6_wind_39 : decode cX6_wind 39 = .ok (.invokevirtual 83, 3) := by decide +kernel
theorem dX6_wind_42 : decode cX6_wind 42 = .ok (.ireturn, 1) := by decide +kernel
theorem dX6_setUp_0 : decode cX6_setUp 0 = .ok (.iload_n 1, 1) := by decide +kernel
theorem dX6_setUp_1 : decode cX6_setUp 1 = .ok (.iconst 0, 1) := by decide +kernel
theorem dX6_setUp_2 : decode cX6_setUp 2 = .ok (.bipush 11, 2) := by decide +kernel
theorem dX6_setUp_4 : decode cX6_setUp 4 = .ok (.invokestatic 49, 3) := by decide +kernel
theorem dX6_setUp_7 : decode cX6_setUp 7 = .ok (.ifCond .eq 13, 3) := by decide +kernel
theorem dX6_setUp_10 : decode cX6_setUp 10 = .ok (.iload_n 2, 1) := by decide +kernel
theorem dX6_setUp_11 : decode cX6_setUp 11 = .ok (.iconst 0, 1) := by decide +kernel
theorem dX6_setUp_12 : decode cX6_setUp 12 = .ok (.bipush 11, 2) := by decide +kernel
theorem dX6_setUp_14 : decode cX6_setUp 14 = .ok (.invokestatic 49, 3) := by decide +kernel
theorem dX6_setUp_17 : decode cX6_setUp 17 = .ok (.ifCond .ne 13, 3) := by decide +kernel
theorem dX6_setUp_20 : decode cX6_setUp 20 = .ok (.new 53, 3) := by decide +kernel
theorem dX6_setUp_23 : decode cX6_setUp 23 = .ok (.dup, 1) := by decide +kernel
theorem dX6_setUp_24 : decode cX6_setUp 24 = .ok (.ldc 87, 2) := by decide +kernel
theorem dX6_setUp_26 : decode cX6_setUp 26 = .ok (.invokespecial 57, 3) := by decide +kernel
theorem dX6_setUp_29 : decode cX6_setUp 29 = .ok (.athrow, 1) := by decide +kernel
theorem dX6_setUp_30 : decode cX6_setUp 30 = .ok (.iload_n 3, 1) := by decide +kernel
theorem dX6_setUp_31 : decode cX6_setUp 31 = .ok (.iconst 1, 1) := by decide +kernel
theorem dX6_setUp_32 : decode cX6_setUp 32 = .ok (.bipush 9, 2) := by decide +kernel
theorem dX6_setUp_34 : decode cX6_setUp 34 = .ok (.invokestatic 49, 3) := by decide +kernel
theorem dX6_setUp_37 : decode cX6_setUp 37 = .ok (.ifCond .eq 33, 3) := by decide +kernel
theorem dX6_setUp_40 : decode cX6_setUp 40 = .ok (.iload 4, 2) := by decide +kernel
theorem dX6_setUp_42 : decode cX6_setUp 42 = .ok (.iconst 1, 1) := by decide +kernel
theorem dX6_setUp_43 : decode cX6_setUp 43 = .ok (.bipush 9, 2) := by decide +kernel
theorem dX6_setUp_45 : decode cX6_setUp 45 = .ok (.invokestatic 49, 3) := by decide +kernel
theorem dX6_setUp_48 : decode cX6_setUp 48 = .ok (.ifCond .eq 22, 3) := by decide +kernel
theorem dX6_setUp_51 : decode cX6_setUp 51 = .ok (.iload 5, 2) := by decide +kernel
theorem dX6_setUp_53 : decode cX6_setUp 53 = .ok (.iconst 0, 1) := by decide +kernel
theorem dX6_setUp_54 : decode cX6_setUp 54 = .ok (.bipush 9, 2) := by decide +kernel
theorem dX6_setUp_56 : decode cX6_setUp 56 = .ok (.invokestatic 49, 3) := by decide +kernel
theorem dX6_setUp_59 : decode cX6_setUp 59 = .ok (.ifCond .eq 11, 3) := by decide +kernel
theorem dX6_setUp_62 : decode cX6_setUp 62 = .ok (.iload 6, 2) := by decide +kernel
theorem dX6_setUp_64 : decode cX6_setUp 64 = .ok (.invokestatic 45, 3) := by decide +kernel
theorem dX6_setUp_67 : decode cX6_setUp 67 = .ok (.ifCond .ne 13, 3) := by decide +kernel
theorem dX6_setUp_70 : decode cX6_setUp 70 = .ok (.new 53, 3) := by decide +kernel
theorem dX6_setUp_73 : decode cX6_setUp 73 = .ok (.dup, 1) := by decide +kernel
theorem dX6_setUp_74 : decode cX6_setUp 74 = .ok (.ldc 89, 2) := by decide +kernel
theorem dX6_setUp_76 : decode cX6_setUp 76 = .ok (.invokespecial 57, 3) := by decide +kernel
theorem dX6_setUp_79 : decode cX6_setUp 79 = .ok (.athrow, 1) := by decide +kernel
theorem dX6_setUp_80 : decode cX6_setUp 80 = .ok (.aload_n 0, 1) := by decide +kernel
theorem dX6_setUp_81 : decode cX6_setUp 81 = .ok (.getfield 34, 3) := by decide +kernel
theorem dX6_setUp_84 : decode cX6_setUp 84 = .ok (.iload_n 1, 1) := by decide +kernel
theorem dX6_setUp_85 : decode cX6_setUp 85 = .ok (.iload_n 2, 1) := by decide +kernel
theorem dX6_setUp_86 : decode cX6_setUp 86 = .ok (.invokevirtual 91, 3) := by decide +kernel
theorem dX6_setUp_89 : decode cX6_setUp 89 = .ok (.ifCond .ne 18, 3) := by decide +kernel
theorem dX6_setUp_92 : decode cX6_setUp 92 = .ok (.aload_n 0, 1) := by decide +kernel
theorem dX6_setUp_93 : decode cX6_setUp 93 = .ok (.getfield 34, 3) := by decide +kernel
theorem dX6_setUp_96 : decode cX6_setUp 96 = .ok (.getfield 95, 3) := by decide +kernel
theorem dX6_setUp_99 : decode cX6_setUp 99 = .ok (.invokevirtual 60, 3) := by decide +kernel
theorem dX6_setUp_102 : decode cX6_setUp 102 = .ok (.bipush 16, 2) := by decide +kernel
theorem dX6_setUp_104 : decode cX6_setUp 104 = .ok (.if_icmp .lt 13, 3) := by decide +kernel
theorem dX6_setUp_107 : decode cX6_setUp 107 = .ok (.new 67, 3) := by decide +kernel
theorem dX6_setUp_110 : decode cX6_setUp 110 = .ok (.dup, 1) := by decide +kernel
theorem dX6_setUp_111 : decode cX6_setUp 111 = .ok (.ldc 98, 2) := by decide +kernel
theorem dX6_setUp_113 : decode cX6_setUp 113 = .ok (.invokespecial 71, 3) := by decide +kernel
theorem dX6_setUp_116 : decode cX6_setUp 116 = .ok (.athrow, 1) := by decide +kernel
theorem dX6_setUp_117 : decode cX6_setUp 117 = .ok (.new 100, 3) := by decide +kernel
theorem dX6_setUp_120 : decode cX6_setUp 120 = .ok (.dup, 1) := by decide +kernel
theorem dX6_setUp_121 : decode cX6_setUp 121 = .ok (.iload_n 1, 1) := by decide +kernel
theorem dX6_setUp_122 : decode cX6_setUp 122 = .ok (.iload_n 2, 1) := by decide +kernel
theorem dX6_setUp_123 : decode cX6_setUp 123 = .ok (.iload_n 3, 1) := by decide +kernel
theorem dX6_setUp_124 : decode cX6_setUp 124 = .ok (.iload 4, 2) := by decide +kernel
theorem dX6_setUp_126 : decode cX6_setUp 126 = .ok (.invokespecial 102, 3) := by decide +kernel
theorem dX6_setUp_129 : decode cX6_setUp 129 = .ok (.astore 7, 2) := by decide +kernel
theorem dX6_setUp_131 : decode cX6_setUp 131 = .ok (.aload_n 0, 1) := by decide +kernel
theorem dX6_setUp_132 : decode cX6_setUp 132 = .ok (.getfield 34, 3) := by decide +kernel
theorem dX6_setUp_135 : decode cX6_setUp 135 = .ok (.aload 7, 2) := by decide +kernel
theorem dX6_setUp_137 : decode cX6_setUp 137 = .ok (.invokevirtual 105, 3) := by decide +kernel
theorem dX6_setUp_140 : decode cX6_setUp 140 = .ok (.aload_n 0, 1) := by decide +kernel
theorem dX6_setUp_141 : decode cX6_setUp 141 = .ok (.getfield 34, 3) := by decide +kernel
theorem dX6_setUp_144 : decode cX6_setUp 144 = .ok (.getfield 95, 3) := by decide +kernel
theorem dX6_setUp_147 : decode cX6_setUp 147 = .ok (.new 109, 3) := by decide +kernel
theorem dX6_setUp_150 : decode cX6_setUp 150 = .ok (.dup, 1) := by decide +kernel
theorem dX6_setUp_151 : decode cX6_setUp 151 = .ok (.aload 7, 2) := by decide +kernel
theorem dX6_setUp_153 : decode cX6_setUp 153 = .ok (.iload 5, 2) := by decide +kernel
theorem dX6_setUp_155 : decode cX6_setUp 155 = .ok (.iload 6, 2) := by decide +kernel
theorem dX6_setUp_157 : decode cX6_setUp 157 = .ok (.invokespecial 111, 3) := by decide +kernel
theorem dX6_setUp_160 : decode cX6_setUp 160 = .ok (.invokevirtual 41, 3) := by decide +kernel
theorem dX6_setUp_163 : decode cX6_setUp 163 = .ok (.pop, 1) := by decide +kernel
theorem dX6_setUp_164 : decode cX6_setUp 164 = .ok (.aload_n 0, 1) := by decide +kernel
theorem dX6_setUp_165 : decode cX6_setUp 165 = .ok (.getfield 38, 3) := by decide +kernel
theorem dX6_setUp_168 : decode cX6_setUp 168 = .ok (.getfield 95, 3) := by decide +kernel
theorem dX6_setUp_171 : decode cX6_setUp 171 = .ok (.new 109, 3) := by decide +kernel
theorem dX6_setUp_174 : decode cX6_setUp 174 = .ok (.dup, 1) := by decide +kernel
theorem dX6_setUp_175 : decode cX6_setUp 175 = .ok (.aload 7, 2) := by decide +kernel
theorem dX6_setUp_177 : decode cX6_setUp 177 = .ok (.iload 5, 2) := by decide +kernel
theorem dX6_setUp_179 : decode cX6_setUp 179 = .ok (.iload 6, 2) := by decide +kernel
theorem dX6_setUp_181 : decode cX6_setUp 181 = .ok (.invokespecial 111, 3) := by decide +kernel
theorem dX6_setUp_184 : decode cX6_setUp 184 = .ok (.invokevirtual 41, 3) := by decide +kernel
theorem dX6_setUp_187 : decode cX6_setUp 187 = .ok (.pop, 1) := by decide +kernel
theorem dX6_setUp_188 : decode cX6_setUp 188 = .ok (.aload_n 0, 1) := by decide +kernel
theorem dX6_setUp_189 : decode cX6_setUp 189 = .ok (.getfield 34, 3) := by decide +kernel
theorem dX6_setUp_192 : decode cX6_setUp 192 = .ok (.getfield 95, 3) := by decide +kernel
theorem dX6_setUp_195 : decode cX6_setUp 195 = .ok (.invokevirtual 60, 3) := by decide +kernel
theorem dX6_setUp_198 : decode cX6_setUp 198 = .ok (.iconst 1, 1) := by decide +kernel
theorem dX6_setUp_199 : decode cX6_setUp 199 = .ok (.isub, 1) := by decide +kernel
theorem dX6_setUp_200 : decode cX6_setUp 200 = .ok (.ireturn, 1) := by decide +kernel
theorem dX6_oil_0 : decode cX6_oil 0 = .ok (.aload_n 0, 1) := by decide +kernel
theorem dX6_oil_1 : decode cX6_oil 1 = .ok (.iload_n 1, 1) := by decide +kernel
theorem dX6_oil_2 : decode cX6_oil 2 = .ok (.invokevirtual 114, 3) := by decide +kernel
theorem dX6_oil_5 : decode cX6_oil 5 = .ok (.ifCond .ne 13, 3) := by decide +kernel
theorem dX6_oil_8 : decode cX6_oil 8 = .ok (.new 74, 3) := by decide +kernel
theorem dX6_oil_11 : decode cX6_oil 11 = .ok (.dup, 1) := by decide +kernel
theorem dX6_oil_12 : decode cX6_oil 12 = .ok (.ldc 117, 2) := by decide +kernel
theorem dX6_oil_14 : decode cX6_oil 14 = .ok (.invokespecial 78, 3) := by decide +kernel
theorem dX6_oil_17 : decode cX6_oil 17 = .ok (.athrow, 1) := by decide +kernel
theorem dX6_oil_18 : decode cX6_oil 18 = .ok (.aload_n 0, 1) := by decide +kernel
theorem dX6_oil_19 : decode cX6_oil 19 = .ok (.getfield 34, 3) := by decide +kernel
theorem dX6_oil_22 : decode cX6_oil 22 = .ok (.getfield 95, 3) := by decide +kernel
theorem dX6_oil_25 : decode cX6_oil 25 = .ok (.iload_n 1, 1) := by decide +kernel
theorem dX6_oil_26 : decode cX6_oil 26 = .ok (.invokevirtual 119, 3) := by decide +kernel
theorem dX6_oil_29 : decode cX6_oil 29 = .ok (.checkcast 109, 3) := by decide +kernel
theorem dX6_oil_32 : decode cX6_oil 32 = .ok (.astore_n 2, 1) := by decide +kernel
theorem dX6_oil_33 : decode cX6_oil 33 = .ok (.aload_n 2, 1) := by decide +kernel
theorem dX6_oil_34 : decode cX6_oil 34 = .ok (.getfield 123, 3) := by decide +kernel
theorem dX6_oil_37 : decode cX6_oil 37 = .ok (.istore_n 3, 1) := by decide +kernel
theorem dX6_oil_38 : decode cX6_oil 38 = .ok (.aload_n 2, 1) := by decide +kernel
theorem dX6_oil_39 : decode cX6_oil 39 = .ok (.invokevirtual 127, 3) := by decide +kernel
theorem dX6_oil_42 : decode cX6_oil 42 = .ok (.iload_n 3, 1) := by decide +kernel
theorem dX6_oil_43 : decode cX6_oil 43 = .ok (.ireturn, 1) := by decide +kernel
theorem dX6_turn_0 : decode cX6_turn 0 = .ok (.aload_n 0, 1) := by decide +kernel
theorem dX6_turn_1 : decode cX6_turn 1 = .ok (.iload_n 1, 1) := by decide +kernel
theorem dX6_turn_2 : decode cX6_turn 2 = .ok (.invokevirtual 114, 3) := by decide +kernel
theorem dX6_turn_5 : decode cX6_turn 5 = .ok (.ifCond .ne 13, 3) := by decide +kernel
theorem dX6_turn_8 : decode cX6_turn 8 = .ok (.new 74, 3) := by decide +kernel
theorem dX6_turn_11 : decode cX6_turn 11 = .ok (.dup, 1) := by decide +kernel
theorem dX6_turn_12 : decode cX6_turn 12 = .ok (.ldc 117, 2) := by decide +kernel
theorem dX6_turn_14 : decode cX6_turn 14 = .ok (.invokespecial 78, 3) := by decide +kernel
theorem dX6_turn_17 : decode cX6_turn 17 = .ok (.athrow, 1) := by decide +kernel
theorem dX6_turn_18 : decode cX6_turn 18 = .ok (.iload_n 2, 1) := by decide +kernel
theorem dX6_turn_19 : decode cX6_turn 19 = .ok (.invokestatic 45, 3) := by decide +kernel
theorem dX6_turn_22 : decode cX6_turn 22 = .ok (.ifCond .ne 13, 3) := by decide +kernel
theorem dX6_turn_25 : decode cX6_turn 25 = .ok (.new 53, 3) := by decide +kernel
theorem dX6_turn_28 : decode cX6_turn 28 = .ok (.dup, 1) := by decide +kernel
theorem dX6_turn_29 : decode cX6_turn 29 = .ok (.ldc 130, 2) := by decide +kernel
theorem dX6_turn_31 : decode cX6_turn 31 = .ok (.invokespecial 57, 3) := by decide +kernel
theorem dX6_turn_34 : decode cX6_turn 34 = .ok (.athrow, 1) := by decide +kernel
theorem dX6_turn_35 : decode cX6_turn 35 = .ok (.aload_n 0, 1) := by decide +kernel
theorem dX6_turn_36 : decode cX6_turn 36 = .ok (.getfield 34, 3) := by decide +kernel
theorem dX6_turn_39 : decode cX6_turn 39 = .ok (.getfield 95, 3) := by decide +kernel
theorem dX6_turn_42 : decode cX6_turn 42 = .ok (.iload_n 1, 1) := by decide +kernel
theorem dX6_turn_43 : decode cX6_turn 43 = .ok (.invokevirtual 119, 3) := by decide +kernel
theorem dX6_turn_46 : decode cX6_turn 46 = .ok (.checkcast 109, 3) := by decide +kernel
theorem dX6_turn_49 : decode cX6_turn 49 = .ok (.astore_n 3, 1) := by decide +kernel
theorem dX6_turn_50 : decode cX6_turn 50 = .ok (.aload_n 3, 1) := by decide +kernel
theorem dX6_turn_51 : decode cX6_turn 51 = .ok (.getfield 132, 3) := by decide +kernel
theorem dX6_turn_54 : decode cX6_turn 54 = .ok (.ifCond .le 13, 3) := by decide +kernel
theorem dX6_turn_57 : decode cX6_turn 57 = .ok (.new 67, 3) := by decide +kernel
theorem dX6_turn_60 : decode cX6_turn 60 = .ok (.dup, 1) := by decide +kernel
theorem dX6_turn_61 : decode cX6_turn 61 = .ok (.ldc 135, 2) := by decide +kernel
theorem dX6_turn_63 : decode cX6_turn 63 = .ok (.invokespecial 71, 3) := by decide +kernel
theorem dX6_turn_66 : decode cX6_turn 66 = .ok (.athrow, 1) := by decide +kernel
theorem dX6_turn_67 : decode cX6_turn 67 = .ok (.aload_n 3, 1) := by decide +kernel
theorem dX6_turn_68 : decode cX6_turn 68 = .ok (.getfield 137, 3) := by decide +kernel
theorem dX6_turn_71 : decode cX6_turn 71 = .ok (.istore 4, 2) := by decide +kernel
theorem dX6_turn_73 : decode cX6_turn 73 = .ok (.aload_n 3, 1) := by decide +kernel
theorem dX6_turn_74 : decode cX6_turn 74 = .ok (.iload_n 2, 1) := by decide +kernel
theorem dX6_turn_75 : decode cX6_turn 75 = .ok (.putfield 137, 3) := by decide +kernel
theorem dX6_turn_78 : decode cX6_turn 78 = .ok (.aload_n 3, 1) := by decide +kernel
theorem dX6_turn_79 : decode cX6_turn 79 = .ok (.iconst 0, 1) := by decide +kernel
theorem dX6_turn_80 : decode cX6_turn 80 = .ok (.putfield 140, 3) := by decide +kernel
theorem dX6_turn_83 : decode cX6_turn 83 = .ok (.iload 4, 2) := by decide +kernel
theorem dX6_turn_85 : decode cX6_turn 85 = .ok (.ireturn, 1) := by decide +kernel
theorem dX6_vane_0 : decode cX6_vane 0 = .ok (.aload_n 0, 1) := by decide +kernel
theorem dX6_vane_1 : decode cX6_vane 1 = .ok (.iload_n 1, 1) := by decide +kernel
theorem dX6_vane_2 : decode cX6_vane 2 = .ok (.invokevirtual 114, 3) := by decide +kernel
theorem dX6_vane_5 : decode cX6_vane 5 = .ok (.ifCond .ne 13, 3) := by decide +kernel
theorem dX6_vane_8 : decode cX6_vane 8 = .ok (.new 74, 3) := by decide +kernel
theorem dX6_vane_11 : decode cX6_vane 11 = .ok (.dup, 1) := by decide +kernel
theorem dX6_vane_12 : decode cX6_vane 12 = .ok (.ldc 117, 2) := by decide +kernel
theorem dX6_vane_14 : decode cX6_vane 14 = .ok (.invokespecial 78, 3) := by decide +kernel
theorem dX6_vane_17 : decode cX6_vane 17 = .ok (.athrow, 1) := by decide +kernel
theorem dX6_vane_18 : decode cX6_vane 18 = .ok (.iload_n 2, 1) := by decide +kernel
theorem dX6_vane_19 : decode cX6_vane 19 = .ok (.iconst 0, 1) := by decide +kernel
theorem dX6_vane_20 : decode cX6_vane 20 = .ok (.bipush 11, 2) := by decide +kernel
theorem dX6_vane_22 : decode cX6_vane 22 = .ok (.invokestatic 49, 3) := by decide +kernel
theorem dX6_vane_25 : decode cX6_vane 25 = .ok (.ifCond .ne 13, 3) := by decide +kernel
theorem dX6_vane_28 : decode cX6_vane 28 = .ok (.new 74, 3) := by decide +kernel
theorem dX6_vane_31 : decode cX6_vane 31 = .ok (.dup, 1) := by decide +kernel
theorem dX6_vane_32 : decode cX6_vane 32 = .ok (.ldc 143, 2) := by decide +kernel
theorem dX6_vane_34 : decode cX6_vane 34 = .ok (.invokespecial 78, 3) := by decide +kernel
theorem dX6_vane_37 : decode cX6_vane 37 = .ok (.athrow, 1) := by decide +kernel
theorem dX6_vane_38 : decode cX6_vane 38 = .ok (.aload_n 0, 1) := by decide +kernel
theorem dX6_vane_39 : decode cX6_vane 39 = .ok (.getfield 34, 3) := by decide +kernel
theorem dX6_vane_42 : decode cX6_vane 42 = .ok (.getfield 95, 3) := by decide +kernel
theorem dX6_vane_45 : decode cX6_vane 45 = .ok (.iload_n 1, 1) := by decide +kernel
theorem dX6_vane_46 : decode cX6_vane 46 = .ok (.invokevirtual 119, 3) := by decide +kernel
theorem dX6_vane_49 : decode cX6_vane 49 = .ok (.checkcast 109, 3) := by decide +kernel
theorem dX6_vane_52 : decode cX6_vane 52 = .ok (.iload_n 2, 1) := by decide +kernel
theorem dX6_vane_53 : decode cX6_vane 53 = .ok (.aload_n 0, 1) := by decide +kernel
theorem dX6_vane_54 : decode cX6_vane 54 = .ok (.aload_n 0, 1) := by decide +kernel
theorem dX6_vane_55 : decode cX6_vane 55 = .ok (.getfield 145, 3) := by decide +kernel
theorem dX6_vane_58 : decode cX6_vane 58 = .ok (.invokevirtual 79, 3) := by decide +kernel
theorem dX6_vane_61 : decode cX6_vane 61 = .ok (.invokevirtual 148, 3) := by decide +kernel
theorem dX6_vane_64 : decode cX6_vane 64 = .ok (.ireturn, 1) := by decide +kernel
theorem dX6_difference_0 : decode cX6_difference 0 = .ok (.iload_n 1, 1) := by decide +kernel
theorem dX6_difference_1 : decode cX6_difference 1 = .ok (.invokestatic 45, 3) := by decide +kernel
theorem dX6_difference_4 : decode cX6_difference 4 = .ok (.ifCond .eq 10, 3) := by decide +kernel
theorem dX6_difference_7 : decode cX6_difference 7 = .ok (.iload_n 2, 1) := by decide +kernel
theorem dX6_difference_8 : decode cX6_difference 8 = .ok (.invokestatic 45, 3) := by decide +kernel
theorem dX6_difference_11 : decode cX6_difference 11 = .ok (.ifCond .ne 13, 3) := by decide +kernel
theorem dX6_difference_14 : decode cX6_difference 14 = .ok (.new 53, 3) := by decide +kernel
theorem dX6_difference_17 : decode cX6_difference 17 = .ok (.dup, 1) := by decide +kernel
theorem dX6_difference_18 : decode cX6_difference 18 = .ok (.ldc 130, 2) := by decide +kernel
theorem dX6_difference_20 : decode cX6_difference 20 = .ok (.invokespecial 57, 3) := by decide +kernel
theorem dX6_difference_23 : decode cX6_difference 23 = .ok (.athrow, 1) := by decide +kernel
theorem dX6_difference_24 : decode cX6_difference 24 = .ok (.iload_n 1, 1) := by decide +kernel
theorem dX6_difference_25 : decode cX6_difference 25 = .ok (.iload_n 2, 1) := by decide +kernel
theorem dX6_difference_26 : decode cX6_difference 26 = .ok (.invokestatic 151, 3) := by decide +kernel
theorem dX6_difference_29 : decode cX6_difference 29 = .ok (.ireturn, 1) := by decide +kernel
theorem dX6_move_0 : decode cX6_move 0 = .ok (.iload_n 1, 1) := by decide +kernel
theorem dX6_move_1 : decode cX6_move 1 = .ok (.invokestatic 45, 3) := by decide +kernel
theorem dX6_move_4 : decode cX6_move 4 = .ok (.ifCond .eq 33, 3) := by decide +kernel
theorem dX6_move_7 : decode cX6_move 7 = .ok (.iload_n 2, 1) := by decide +kernel
theorem dX6_move_8 : decode cX6_move 8 = .ok (.iconst 0, 1) := by decide +kernel
theorem dX6_move_9 : decode cX6_move 9 = .ok (.bipush 7, 2) := by decide +kernel
theorem dX6_move_11 : decode cX6_move 11 = .ok (.invokestatic 49, 3) := by decide +kernel
theorem dX6_move_14 : decode cX6_move 14 = .ok (.ifCond .eq 23, 3) := by decide +kernel
theorem dX6_move_17 : decode cX6_move 17 = .ok (.iload_n 3, 1) := by decide +kernel
theorem dX6_move_18 : decode cX6_move 18 = .ok (.iconst 0, 1) := by decide +kernel
theorem dX6_move_19 : decode cX6_move 19 = .ok (.bipush 99, 2) := by decide +kernel
theorem dX6_move_21 : decode cX6_move 21 = .ok (.invokestatic 49, 3) := by decide +kernel
theorem dX6_move_24 : decode cX6_move 24 = .ok (.ifCond .eq 13, 3) := by decide +kernel
theorem dX6_move_27 : decode cX6_move 27 = .ok (.iload 4, 2) := by decide +kernel
theorem dX6_move_29 : decode cX6_move 29 = .ok (.iconst 0, 1) := by decide +kernel
theorem dX6_move_30 : decode cX6_move 30 = .ok (.iconst 3, 1) := by decide +kernel
theorem dX6_move_31 : decode cX6_move 31 = .ok (.invokestatic 49, 3) := by decide +kernel
theorem dX6_move_34 : decode cX6_move 34 = .ok (.ifCond .ne 13, 3) := by decide +kernel
theorem dX6_move_37 : decode cX6_move 37 = .ok (.new 53, 3) := by decide +kernel
theorem dX6_move_40 : decode cX6_move 40 = .ok (.dup, 1) := by decide +kernel
theorem dX6_move_41 : decode cX6_move 41 = .ok (.ldc 155, 2) := by decide +kernel
theorem dX6_move_43 : decode cX6_move 43 = .ok (.invokespecial 57, 3) := by decide +kernel
theorem dX6_move_46 : decode cX6_move 46 = .ok (.athrow, 1) := by decide +kernel
theorem dX6_move_47 : decode cX6_move 47 = .ok (.aload_n 0, 1) := by decide +kernel
theorem dX6_move_48 : decode cX6_move 48 = .ok (.getfield 25, 3) := by decide +kernel
theorem dX6_move_51 : decode cX6_move 51 = .ok (.invokevirtual 60, 3) := by decide +kernel
theorem dX6_move_54 : decode cX6_move 54 = .ok (.bipush 12, 2) := by decide +kernel
theorem dX6_move_56 : decode cX6_move 56 = .ok (.if_icmp .lt 13, 3) := by decide +kernel
theorem dX6_move_59 : decode cX6_move 59 = .ok (.new 67, 3) := by decide +kernel
theorem dX6_move_62 : decode cX6_move 62 = .ok (.dup, 1) := by decide +kernel
theorem dX6_move_63 : decode cX6_move 63 = .ok (.ldc 157, 2) := by decide +kernel
theorem dX6_move_65 : decode cX6_move 65 = .ok (.invokespecial 71, 3) := by decide +kernel
theorem dX6_move_68 : decode cX6_move 68 = .ok (.athrow, 1) := by decide +kernel
theorem dX6_move_69 : decode cX6_move 69 = .ok (.aload_n 0, 1) := by decide +kernel
theorem dX6_move_70 : decode cX6_move 70 = .ok (.getfield 25, 3) := by decide +kernel
theorem dX6_move_73 : decode cX6_move 73 = .ok (.invokevirtual 60, 3) := by decide +kernel
theorem dX6_move_76 : decode cX6_move 76 = .ok (.istore 5, 2) := by decide +kernel
theorem dX6_move_78 : decode cX6_move 78 = .ok (.aload_n 0, 1) := by decide +kernel
theorem dX6_move_79 : decode cX6_move 79 = .ok (.getfield 25, 3) := by decide +kernel
theorem dX6_move_82 : decode cX6_move 82 = .ok (.new 159, 3) := by decide +kernel
theorem dX6_move_85 : decode cX6_move 85 = .ok (.dup, 1) := by decide +kernel
theorem dX6_move_86 : decode cX6_move 86 = .ok (.iload 5, 2) := by decide +kernel
theorem dX6_move_88 : decode cX6_move 88 = .ok (.iload_n 1, 1) := by decide +kernel
theorem dX6_move_89 : decode cX6_move 89 = .ok (.iload_n 2, 1) := by decide +kernel
theorem dX6_move_90 : decode cX6_move 90 = .ok (.iload_n 3, 1) := by decide +kernel
theorem dX6_move_91 : decode cX6_move 91 = .ok (.iload 4, 2) := by decide +kernel
theorem dX6_move_93 : decode cX6_move 93 = .ok (.invokespecial 161, 3) := by decide +kernel
theorem dX6_move_96 : decode cX6_move 96 = .ok (.invokevirtual 41, 3) := by decide +kernel
theorem dX6_move_99 : decode cX6_move 99 = .ok (.pop, 1) := by decide +kernel
theorem dX6_move_100 : decode cX6_move 100 = .ok (.iload 5, 2) := by decide +kernel
theorem dX6_move_102 : decode cX6_move 102 = .ok (.ireturn, 1) := by decide +kernel
theorem dX6_put_0 : decode cX6_put 0 = .ok (.aload_n 0, 1) := by decide +kernel
theorem dX6_put_1 : decode cX6_put 1 = .ok (.iload_n 1, 1) := by decide +kernel
theorem dX6_put_2 : decode cX6_put 2 = .ok (.invokevirtual 164, 3) := by decide +kernel
theorem dX6_put_5 : decode cX6_put 5 = .ok (.ifCond .ne 13, 3) := by decide +kernel
theorem dX6_put_8 : decode cX6_put 8 = .ok (.new 74, 3) := by decide +kernel
theorem dX6_put_11 : decode cX6_put 11 = .ok (.dup, 1) := by decide +kernel
theorem dX6_put_12 : decode cX6_put 12 = .ok (.ldc 167, 2) := by decide +kernel
theorem dX6_put_14 : decode cX6_put 14 = .ok (.invokespecial 78, 3) := by decide +kernel
theorem dX6_put_17 : decode cX6_put 17 = .ok (.athrow, 1) := by decide +kernel
theorem dX6_put_18 : decode cX6_put 18 = .ok (.iload_n 2, 1) := by decide +kernel
theorem dX6_put_19 : decode cX6_put 19 = .ok (.aload_n 0, 1) := by decide +kernel
theorem dX6_put_20 : decode cX6_put 20 = .ok (.getfield 145, 3) := by decide +kernel
theorem dX6_put_23 : decode cX6_put 23 = .ok (.sipush 2000, 3) := by decide +kernel
theorem dX6_put_26 : decode cX6_put 26 = .ok (.invokestatic 49, 3) := by decide +kernel
theorem dX6_put_29 : decode cX6_put 29 = .ok (.ifCond .ne 13, 3) := by decide +kernel
theorem dX6_put_32 : decode cX6_put 32 = .ok (.new 53, 3) := by decide +kernel
theorem dX6_put_35 : decode cX6_put 35 = .ok (.dup, 1) := by decide +kernel
theorem dX6_put_36 : decode cX6_put 36 = .ok (.ldc 169, 2) := by decide +kernel
theorem dX6_put_38 : decode cX6_put 38 = .ok (.invokespecial 57, 3) := by decide +kernel
theorem dX6_put_41 : decode cX6_put 41 = .ok (.athrow, 1) := by decide +kernel
theorem dX6_put_42 : decode cX6_put 42 = .ok (.aload_n 0, 1) := by decide +kernel
theorem dX6_put_43 : decode cX6_put 43 = .ok (.getfield 28, 3) := by decide +kernel
theorem dX6_put_46 : decode cX6_put 46 = .ok (.invokevirtual 60, 3) := by decide +kernel
theorem dX6_put_49 : decode cX6_put 49 = .ok (.bipush 20, 2) := by decide +kernel
theorem dX6_put_51 : decode cX6_put 51 = .ok (.if_icmp .lt 13, 3) := by decide +kernel
theorem dX6_put_54 : decode cX6_put 54 = .ok (.new 67, 3) := by decide +kernel
theorem dX6_put_57 : decode cX6_put 57 = .ok (.dup, 1) := by decide +kernel
theorem dX6_put_58 : decode cX6_put 58 = .ok (.ldc 171, 2) := by decide +kernel
theorem dX6_put_60 : decode cX6_put 60 = .ok (.invokespecial 71, 3) := by decide +kernel
theorem dX6_put_63 : decode cX6_put 63 = .ok (.athrow, 1) := by decide +kernel
theorem dX6_put_64 : decode cX6_put 64 = .ok (.aload_n 0, 1) := by decide +kernel
theorem dX6_put_65 : decode cX6_put 65 = .ok (.getfield 28, 3) := by decide +kernel
theorem dX6_put_68 : decode cX6_put 68 = .ok (.new 173, 3) := by decide +kernel
theorem dX6_put_71 : decode cX6_put 71 = .ok (.dup, 1) := by decide +kernel
theorem dX6_put_72 : decode cX6_put 72 = .ok (.aload_n 0, 1) := by decide +kernel
theorem dX6_put_73 : decode cX6_put 73 = .ok (.getfield 25, 3) := by decide +kernel
theorem dX6_put_76 : decode cX6_put 76 = .ok (.iload_n 1, 1) := by decide +kernel
theorem dX6_put_77 : decode cX6_put 77 = .ok (.invokevirtual 119, 3) := by decide +kernel
theorem dX6_put_80 : decode cX6_put 80 = .ok (.checkcast 159, 3) := by decide +kernel
theorem dX6_put_83 : decode cX6_put 83 = .ok (.iload_n 2, 1) := by decide +kernel
theorem dX6_put_84 : decode cX6_put 84 = .ok (.invokespecial 175, 3) := by decide +kernel
theorem dX6_put_87 : decode cX6_put 87 = .ok (.invokevirtual 41, 3) := by decide +kernel
theorem dX6_put_90 : decode cX6_put 90 = .ok (.pop, 1) := by decide +kernel
theorem dX6_put_91 : decode cX6_put 91 = .ok (.aload_n 0, 1) := by decide +kernel
theorem dX6_put_92 : decode cX6_put 92 = .ok (.getfield 28, 3) := by decide +kernel
theorem dX6_put_95 : decode cX6_put 95 = .ok (.invokevirtual 60, 3) := by decide +kernel
theorem dX6_put_98 : decode cX6_put 98 = .ok (.ireturn, 1) := by decide +kernel
theorem dX6_motion_0 : decode cX6_motion 0 = .ok (.aload_n 0, 1) := by decide +kernel
theorem dX6_motion_1 : decode cX6_motion 1 = .ok (.iload_n 1, 1) := by decide +kernel
theorem dX6_motion_2 : decode cX6_motion 2 = .ok (.invokevirtual 164, 3) := by decide +kernel
theorem dX6_motion_5 : decode cX6_motion 5 = .ok (.ifCond .ne 13, 3) := by decide +kernel
theorem dX6_motion_8 : decode cX6_motion 8 = .ok (.new 74, 3) := by decide +kernel
theorem dX6_motion_11 : decode cX6_motion 11 = .ok (.dup, 1) := by decide +kernel
theorem dX6_motion_12 : decode cX6_motion 12 = .ok (.ldc 167, 2) := by decide +kernel
theorem dX6_motion_14 : decode cX6_motion 14 = .ok (.invokespecial 78, 3) := by decide +kernel
theorem dX6_motion_17 : decode cX6_motion 17 = .ok (.athrow, 1) := by decide +kernel
theorem dX6_motion_18 : decode cX6_motion 18 = .ok (.iload_n 2, 1) := by decide +kernel
theorem dX6_motion_19 : decode cX6_motion 19 = .ok (.iconst 0, 1) := by decide +kernel
theorem dX6_motion_20 : decode cX6_motion 20 = .ok (.bipush 8, 2) := by decide +kernel
theorem dX6_motion_22 : decode cX6_motion 22 = .ok (.invokestatic 49, 3) := by decide +kernel
theorem dX6_motion_25 : decode cX6_motion 25 = .ok (.ifCond .ne 13, 3) := by decide +kernel
theorem dX6_motion_28 : decode cX6_motion 28 = .ok (.new 74, 3) := by decide +kernel
theorem dX6_motion_31 : decode cX6_motion 31 = .ok (.dup, 1) := by decide +kernel
theorem dX6_motion_32 : decode cX6_motion 32 = .ok (.ldc 178, 2) := by decide +kernel
theorem dX6_motion_34 : decode cX6_motion 34 = .ok (.invokespecial 78, 3) := by decide +kernel
theorem dX6_motion_37 : decode cX6_motion 37 = .ok (.athrow, 1) := by decide +kernel
theorem dX6_motion_38 : decode cX6_motion 38 = .ok (.aload_n 0, 1) := by decide +kernel
theorem dX6_motion_39 : decode cX6_motion 39 = .ok (.getfield 25, 3) := by decide +kernel
theorem dX6_motion_42 : decode cX6_motion 42 = .ok (.iload_n 1, 1) := by decide +kernel
theorem dX6_motion_43 : decode cX6_motion 43 = .ok (.invokevirtual 119, 3) := by decide +kernel
theorem dX6_motion_46 : decode cX6_motion 46 = .ok (.checkcast 159, 3) := by decide +kernel
theorem dX6_motion_49 : decode cX6_motion 49 = .ok (.iload_n 2, 1) := by decide +kernel
theorem dX6_motion_50 : decode cX6_motion 50 = .ok (.aload_n 0, 1) := by decide +kernel
theorem dX6_motion_51 : decode cX6_motion 51 = .ok (.getfield 34, 3) := by decide +kernel
theorem dX6_motion_54 : decode cX6_motion 54 = .ok (.invokevirtual 180, 3) := by decide +kernel
theorem dX6_motion_57 : decode cX6_motion 57 = .ok (.ireturn, 1) := by decide +kernel
theorem dX6_stand_0 : decode cX6_stand 0 = .ok (.aload_n 0, 1) := by decide +kernel
theorem dX6_stand_1 : decode cX6_stand 1 = .ok (.iload_n 1, 1) := by decide +kernel
theorem dX6_stand_2 : decode cX6_stand 2 = .ok (.invokevirtual 164, 3) := by decide +kernel
theorem dX6_stand_5 : decode cX6_stand 5 = .ok (.ifCond .ne 13, 3) := by decide +kernel
theorem dX6_stand_8 : decode cX6_stand 8 = .ok (.new 74, 3) := by decide +kernel
theorem dX6_stand_11 : decode cX6_stand 11 = .ok (.dup, 1) := by decide +kernel
theorem dX6_stand_12 : decode cX6_stand 12 = .ok (.ldc 167, 2) := by decide +kernel
theorem dX6_stand_14 : decode cX6_stand 14 = .ok (.invokespecial 78, 3) := by decide +kernel
theorem dX6_stand_17 : decode cX6_stand 17 = .ok (.athrow, 1) := by decide +kernel
theorem dX6_stand_18 : decode cX6_stand 18 = .ok (.aload_n 0, 1) := by decide +kernel
theorem dX6_stand_19 : decode cX6_stand 19 = .ok (.iload_n 2, 1) := by decide +kernel
theorem dX6_stand_20 : decode cX6_stand 20 = .ok (.invokevirtual 114, 3) := by decide +kernel
theorem dX6_stand_23 : decode cX6_stand 23 = .ok (.ifCond .ne 13, 3) := by decide +kernel
theorem dX6_stand_26 : decode cX6_stand 26 = .ok (.new 74, 3) := by decide +kernel
theorem dX6_stand_29 : decode cX6_stand 29 = .ok (.dup, 1) := by decide +kernel
theorem dX6_stand_30 : decode cX6_stand 30 = .ok (.ldc 117, 2) := by decide +kernel
theorem dX6_stand_32 : decode cX6_stand 32 = .ok (.invokespecial 78, 3) := by decide +kernel
theorem dX6_stand_35 : decode cX6_stand 35 = .ok (.athrow, 1) := by decide +kernel
theorem dX6_stand_36 : decode cX6_stand 36 = .ok (.aload_n 0, 1) := by decide +kernel
theorem dX6_stand_37 : decode cX6_stand 37 = .ok (.getfield 25, 3) := by decide +kernel
theorem dX6_stand_40 : decode cX6_stand 40 = .ok (.iload_n 1, 1) := by decide +kernel
theorem dX6_stand_41 : decode cX6_stand 41 = .ok (.invokevirtual 119, 3) := by decide +kernel
theorem dX6_stand_44 : decode cX6_stand 44 = .ok (.checkcast 159, 3) := by decide +kernel
theorem dX6_stand_47 : decode cX6_stand 47 = .ok (.aload_n 0, 1) := by decide +kernel
theorem dX6_stand_48 : decode cX6_stand 48 = .ok (.getfield 34, 3) := by decide +kernel
theorem dX6_stand_51 : decode cX6_stand 51 = .ok (.getfield 95, 3) := by decide +kernel
theorem dX6_stand_54 : decode cX6_stand 54 = .ok (.iload_n 2, 1) := by decide +kernel
theorem dX6_stand_55 : decode cX6_stand 55 = .ok (.invokevirtual 119, 3) := by decide +kernel
theorem dX6_stand_58 : decode cX6_stand 58 = .ok (.checkcast 109, 3) := by decide +kernel
theorem dX6_stand_61 : decode cX6_stand 61 = .ok (.invokevirtual 183, 3) := by decide +kernel
theorem dX6_stand_64 : decode cX6_stand 64 = .ok (.ireturn, 1) := by decide +kernel
theorem dX6_pass_0 : decode cX6_pass 0 = .ok (.iload_n 1, 1) := by decide +kernel
theorem dX6_pass_1 : decode cX6_pass 1 = .ok (.iconst 1, 1) := by decide +kernel
theorem dX6_pass_2 : decode cX6_pass 2 = .ok (.bipush 100, 2) := by decide +kernel
theorem dX6_pass_4 : decode cX6_pass 4 = .ok (.invokestatic 49, 3) := by decide +kernel
theorem dX6_pass_7 : decode cX6_pass 7 = .ok (.ifCond .ne 13, 3) := by decide +kernel
theorem dX6_pass_10 : decode cX6_pass 10 = .ok (.new 53, 3) := by decide +kernel
theorem dX6_pass_13 : decode cX6_pass 13 = .ok (.dup, 1) := by decide +kernel
theorem dX6_pass_14 : decode cX6_pass 14 = .ok (.ldc 187, 2) := by decide +kernel
theorem dX6_pass_16 : decode cX6_pass 16 = .ok (.invokespecial 57, 3) := by decide +kernel
theorem dX6_pass_19 : decode cX6_pass 19 = .ok (.athrow, 1) := by decide +kernel
theorem dX6_pass_20 : decode cX6_pass 20 = .ok (.aload_n 0, 1) := by decide +kernel
theorem dX6_pass_21 : decode cX6_pass 21 = .ok (.getfield 145, 3) := by decide +kernel
theorem dX6_pass_24 : decode cX6_pass 24 = .ok (.iload_n 1, 1) := by decide +kernel
theorem dX6_pass_25 : decode cX6_pass 25 = .ok (.iadd, 1) := by decide +kernel
theorem dX6_pass_26 : decode cX6_pass 26 = .ok (.sipush 2000, 3) := by decide +kernel
theorem dX6_pass_29 : decode cX6_pass 29 = .ok (.if_icmp .le 13, 3) := by decide +kernel
theorem dX6_pass_32 : decode cX6_pass 32 = .ok (.new 67, 3) := by decide +kernel
theorem dX6_pass_35 : decode cX6_pass 35 = .ok (.dup, 1) := by decide +kernel
theorem dX6_pass_36 : decode cX6_pass 36 = .ok (.ldc 189, 2) := by decide +kernel
theorem dX6_pass_38 : decode cX6_pass 38 = .ok (.invokespecial 71, 3) := by decide +kernel
theorem dX6_pass_41 : decode cX6_pass 41 = .ok (.athrow, 1) := by decide +kernel
theorem dX6_pass_42 : decode cX6_pass 42 = .ok (.iconst 0, 1) := by decide +kernel
theorem dX6_pass_43 : decode cX6_pass 43 = .ok (.istore_n 2, 1) := by decide +kernel
theorem dX6_pass_44 : decode cX6_pass 44 = .ok (.iconst 0, 1) := by decide +kernel
theorem dX6_pass_45 : decode cX6_pass 45 = .ok (.istore_n 3, 1) := by decide +kernel
theorem dX6_pass_46 : decode cX6_pass 46 = .ok (.iload_n 3, 1) := by decide +kernel
theorem dX6_pass_47 : decode cX6_pass 47 = .ok (.iload_n 1, 1) := by decide +kernel
theorem dX6_pass_48 : decode cX6_pass 48 = .ok (.if_icmp .ge 50, 3) := by decide +kernel
theorem dX6_pass_51 : decode cX6_pass 51 = .ok (.aload_n 0, 1) := by decide +kernel
theorem dX6_pass_52 : decode cX6_pass 52 = .ok (.getfield 34, 3) := by decide +kernel
theorem dX6_pass_55 : decode cX6_pass 55 = .ok (.aload_n 0, 1) := by decide +kernel
theorem dX6_pass_56 : decode cX6_pass 56 = .ok (.aload_n 0, 1) := by decide +kernel
theorem dX6_pass_57 : decode cX6_pass 57 = .ok (.getfield 145, 3) := by decide +kernel
theorem dX6_pass_60 : decode cX6_pass 60 = .ok (.invokevirtual 79, 3) := by decide +kernel
theorem dX6_pass_63 : decode cX6_pass 63 = .ok (.invokevirtual 191, 3) := by decide +kernel
theorem dX6_pass_66 : decode cX6_pass 66 = .ok (.iload_n 2, 1) := by decide +kernel
theorem dX6_pass_67 : decode cX6_pass 67 = .ok (.aload_n 0, 1) := by decide +kernel
theorem dX6_pass_68 : decode cX6_pass 68 = .ok (.aload_n 0, 1) := by decide +kernel
theorem dX6_pass_69 : decode cX6_pass 69 = .ok (.getfield 34, 3) := by decide +kernel
theorem dX6_pass_72 : decode cX6_pass 72 = .ok (.aload_n 0, 1) := by decide +kernel
theorem dX6_pass_73 : decode cX6_pass 73 = .ok (.getfield 145, 3) := by decide +kernel
theorem dX6_pass_76 : decode cX6_pass 76 = .ok (.iconst 1, 1) := by decide +kernel
theorem dX6_pass_77 : decode cX6_pass 77 = .ok (.invokevirtual 195, 3) := by decide +kernel
theorem dX6_pass_80 : decode cX6_pass 80 = .ok (.iadd, 1) := by decide +kernel
theorem dX6_pass_81 : decode cX6_pass 81 = .ok (.istore_n 2, 1) := by decide +kernel
theorem dX6_pass_82 : decode cX6_pass 82 = .ok (.aload_n 0, 1) := by decide +kernel
theorem dX6_pass_83 : decode cX6_pass 83 = .ok (.dup, 1) := by decide +kernel
theorem dX6_pass_84 : decode cX6_pass 84 = .ok (.getfield 145, 3) := by decide +kernel
theorem dX6_pass_87 : decode cX6_pass 87 = .ok (.iconst 1, 1) := by decide +kernel
theorem dX6_pass_88 : decode cX6_pass 88 = .ok (.iadd, 1) := by decide +kernel
theorem dX6_pass_89 : decode cX6_pass 89 = .ok (.putfield 145, 3) := by decide +kernel
theorem dX6_pass_92 : decode cX6_pass 92 = .ok (.iinc 3 1, 3) := by decide +kernel
theorem dX6_pass_95 : decode cX6_pass 95 = .ok (.goto (-49), 3) := by decide +kernel
theorem dX6_pass_98 : decode cX6_pass 98 = .ok (.aload_n 0, 1) := by decide +kernel
theorem dX6_pass_99 : decode cX6_pass 99 = .ok (.dup, 1) := by decide +kernel
theorem dX6_pass_100 : decode cX6_pass 100 = .ok (.getfield 199, 3) := by decide +kernel
theorem dX6_pass_103 : decode cX6_pass 103 = .ok (.iload_n 2, 1) := by decide +kernel
theorem dX6_pass_104 : decode cX6_pass 104 = .ok (.iadd, 1) := by decide +kernel
theorem dX6_pass_105 : decode cX6_pass 105 = .ok (.putfield 199, 3) := by decide +kernel
theorem dX6_pass_108 : decode cX6_pass 108 = .ok (.aload_n 0, 1) := by decide +kernel
theorem dX6_pass_109 : decode cX6_pass 109 = .ok (.invokevirtual 202, 3) := by decide +kernel
theorem dX6_pass_112 : decode cX6_pass 112 = .ok (.iload_n 2, 1) := by decide +kernel
theorem dX6_pass_113 : decode cX6_pass 113 = .ok (.ireturn, 1) := by decide +kernel
theorem dX6_count_0 : decode cX6_count 0 = .ok (.iload_n 1, 1) := by decide +kernel
theorem dX6_count_1 : decode cX6_count 1 = .ok (.iconst 0, 1) := by decide +kernel
theorem dX6_count_2 : decode cX6_count 2 = .ok (.bipush 8, 2) := by decide +kernel
theorem dX6_count_4 : decode cX6_count 4 = .ok (.invokestatic 49, 3) := by decide +kernel
theorem dX6_count_7 : decode cX6_count 7 = .ok (.ifCond .ne 13, 3) := by decide +kernel
theorem dX6_count_10 : decode cX6_count 10 = .ok (.new 74, 3) := by decide +kernel
theorem dX6_count_13 : decode cX6_count 13 = .ok (.dup, 1) := by decide +kernel
theorem dX6_count_14 : decode cX6_count 14 = .ok (.ldc 205, 2) := by decide +kernel
theorem dX6_count_16 : decode cX6_count 16 = .ok (.invokespecial 78, 3) := by decide +kernel
theorem dX6_count_19 : decode cX6_count 19 = .ok (.athrow, 1) := by decide +kernel
theorem dX6_count_20 : decode cX6_count 20 = .ok (.aload_n 0, 1) := by decide +kernel
theorem dX6_count_21 : decode cX6_count 21 = .ok (.iload_n 1, 1) := by decide +kernel
theorem dX6_count_22 : decode cX6_count 22 = .ok (.invokevirtual 207, 3) := by decide +kernel
theorem dX6_count_25 : decode cX6_count 25 = .ok (.ireturn, 1) := by decide +kernel
theorem dX6_party_0 : decode cX6_party 0 = .ok (.iload_n 1, 1) := by decide +kernel
theorem dX6_party_1 : decode cX6_party 1 = .ok (.iconst 0, 1) := by decide +kernel
theorem dX6_party_2 : decode cX6_party 2 = .ok (.iconst 3, 1) := by decide +kernel
theorem dX6_party_3 : decode cX6_party 3 = .ok (.invokestatic 49, 3) := by decide +kernel
theorem dX6_party_6 : decode cX6_party 6 = .ok (.ifCond .ne 13, 3) := by decide +kernel
theorem dX6_party_9 : decode cX6_party 9 = .ok (.new 74, 3) := by decide +kernel
theorem dX6_party_12 : decode cX6_party 12 = .ok (.dup, 1) := by decide +kernel
theorem dX6_party_13 : decode cX6_party 13 = .ok (.ldc 210, 2) := by decide +kernel
theorem dX6_party_15 : decode cX6_party 15 = .ok (.invokespecial 78, 3) := by decide +kernel
theorem dX6_party_18 : decode cX6_party 18 = .ok (.athrow, 1) := by decide +kernel
theorem dX6_party_19 : decode cX6_party 19 = .ok (.iload_n 2, 1) := by decide +kernel
theorem dX6_party_20 : decode cX6_party 20 = .ok (.iconst 0, 1) := by decide +kernel
theorem dX6_party_21 : decode cX6_party 21 = .ok (.iconst 1, 1) := by decide +kernel
theorem dX6_party_22 : decode cX6_party 22 = .ok (.invokestatic 49, 3) := by decide +kernel
theorem dX6_party_25 : decode cX6_party 25 = .ok (.ifCond .ne 13, 3) := by decide +kernel
theorem dX6_party_28 : decode cX6_party 28 = .ok (.new 74, 3) := by decide +kernel
theorem dX6_party_31 : decode cX6_party 31 = .ok (.dup, 1) := by decide +kernel
theorem dX6_party_32 : decode cX6_party 32 = .ok (.ldc 212, 2) := by decide +kernel
theorem dX6_party_34 : decode cX6_party 34 = .ok (.invokespecial 78, 3) := by decide +kernel
theorem dX6_party_37 : decode cX6_party 37 = .ok (.athrow, 1) := by decide +kernel
theorem dX6_party_38 : decode cX6_party 38 = .ok (.iconst 1, 1) := by decide +kernel
theorem dX6_party_39 : decode cX6_party 39 = .ok (.iload_n 1, 1) := by decide +kernel
theorem dX6_party_40 : decode cX6_party 40 = .ok (.ishl, 1) := by decide +kernel
theorem dX6_party_41 : decode cX6_party 41 = .ok (.istore_n 3, 1) := by decide +kernel
theorem dX6_party_42 : decode cX6_party 42 = .ok (.iload_n 2, 1) := by decide +kernel
theorem dX6_party_43 : decode cX6_party 43 = .ok (.ifCond .ne 14, 3) := by decide +kernel
theorem dX6_party_46 : decode cX6_party 46 = .ok (.aload_n 0, 1) := by decide +kernel
theorem dX6_party_47 : decode cX6_party 47 = .ok (.getfield 34, 3) := by decide +kernel
theorem dX6_party_50 : decode cX6_party 50 = .ok (.iload_n 3, 1) := by decide +kernel
theorem dX6_party_51 : decode cX6_party 51 = .ok (.invokevirtual 214, 3) := by decide +kernel
theorem dX6_party_54 : decode cX6_party 54 = .ok (.goto 11, 3) := by decide +kernel
theorem dX6_party_57 : decode cX6_party 57 = .ok (.aload_n 0, 1) := by decide +kernel
theorem dX6_party_58 : decode cX6_party 58 = .ok (.getfield 34, 3) := by decide +kernel
theorem dX6_party_61 : decode cX6_party 61 = .ok (.iload_n 3, 1) := by decide +kernel
theorem dX6_party_62 : decode cX6_party 62 = .ok (.invokevirtual 217, 3) := by decide +kernel
theorem dX6_party_65 : decode cX6_party 65 = .ok (.ireturn, 1) := by decide +kernel
theorem dX6_coalition_0 : decode cX6_coalition 0 = .ok (.aload_n 0, 1) := by decide +kernel
theorem dX6_coalition_1 : decode cX6_coalition 1 = .ok (.getfield 34, 3) := by decide +kernel
theorem dX6_coalition_4 : decode cX6_coalition 4 = .ok (.invokevirtual 220, 3) := by decide +kernel
theorem dX6_coalition_7 : decode cX6_coalition 7 = .ok (.istore_n 1, 1) := by decide +kernel
theorem dX6_coalition_8 : decode cX6_coalition 8 = .ok (.iconst 0, 1) := by decide +kernel
theorem dX6_coalition_9 : decode cX6_coalition 9 = .ok (.istore_n 2, 1) := by decide +kernel
theorem dX6_coalition_10 : decode cX6_coalition 10 = .ok (.iconst 0, 1) := by decide +kernel
theorem dX6_coalition_11 : decode cX6_coalition 11 = .ok (.istore_n 3, 1) := by decide +kernel
theorem dX6_coalition_12 : decode cX6_coalition 12 = .ok (.iconst 1, 1) := by decide +kernel
theorem dX6_coalition_13 : decode cX6_coalition 13 = .ok (.istore 4, 2) := by decide +kernel
theorem dX6_coalition_15 : decode cX6_coalition 15 = .ok (.iload 4, 2) := by decide +kernel
theorem dX6_coalition_17 : decode cX6_coalition 17 = .ok (.bipush 16, 2) := by decide +kernel
theorem dX6_coalition_19 : decode cX6_coalition 19 = .ok (.if_icmp .ge 69, 3) := by decide +kernel
theorem dX6_coalition_22 : decode cX6_coalition 22 = .ok (.aload_n 0, 1) := by decide +kernel
theorem dX6_coalition_23 : decode cX6_coalition 23 = .ok (.getfield 34, 3) := by decide +kernel
theorem dX6_coalition_26 : decode cX6_coalition 26 = .ok (.iload 4, 2) := by decide +kernel
theorem dX6_coalition_28 : decode cX6_coalition 28 = .ok (.invokevirtual 217, 3) := by decide +kernel
theorem dX6_coalition_31 : decode cX6_coalition 31 = .ok (.istore 5, 2) := by decide +kernel
theorem dX6_coalition_33 : decode cX6_coalition 33 = .ok (.iload 5, 2) := by decide +kernel
theorem dX6_coalition_35 : decode cX6_coalition 35 = .ok (.iconst 2, 1) := by decide +kernel
theorem dX6_coalition_36 : decode cX6_coalition 36 = .ok (.imul, 1) := by decide +kernel
theorem dX6_coalition_37 : decode cX6_coalition 37 = .ok (.iload_n 1, 1) := by decide +kernel
theorem dX6_coalition_38 : decode cX6_coalition 38 = .ok (.if_icmp .gt 6, 3) := by decide +kernel
theorem dX6_coalition_41 : decode cX6_coalition 41 = .ok (.goto 41, 3) := by decide +kernel
theorem dX6_coalition_44 : decode cX6_coalition 44 = .ok (.iload 4, 2) := by decide +kernel
theorem dX6_coalition_46 : decode cX6_coalition 46 = .ok (.invokestatic 223, 3) := by decide +kernel
theorem dX6_coalition_49 : decode cX6_coalition 49 = .ok (.iload_n 2, 1) := by decide +kernel
theorem dX6_coalition_50 : decode cX6_coalition 50 = .ok (.invokestatic 223, 3) := by decide +kernel
theorem dX6_coalition_53 : decode cX6_coalition 53 = .ok (.isub, 1) := by decide +kernel
theorem dX6_coalition_54 : decode cX6_coalition 54 = .ok (.istore 6, 2) := by decide +kernel
theorem dX6_coalition_56 : decode cX6_coalition 56 = .ok (.iload_n 2, 1) := by decide +kernel
theorem dX6_coalition_57 : decode cX6_coalition 57 = .ok (.ifCond .eq 19, 3) := by decide +kernel
theorem dX6_coalition_60 : decode cX6_coalition 60 = .ok (.iload 6, 2) := by decide +kernel
theorem dX6_coalition_62 : decode cX6_coalition 62 = .ok (.ifCond .lt 14, 3) := by decide +kernel
theorem dX6_coalition_65 : decode cX6_coalition 65 = .ok (.iload 6, 2) := by decide +kernel
theorem dX6_coalition_67 : decode cX6_coalition 67 = .ok (.ifCond .ne 15, 3) := by decide +kernel
theorem dX6_coalition_70 : decode cX6_coalition 70 = .ok (.iload 5, 2) := by decide +kernel
theorem dX6_coalition_72 : decode cX6_coalition 72 = .ok (.iload_n 3, 1) := by decide +kernel
theorem dX6_coalition_73 : decode cX6_coalition 73 = .ok (.if_icmp .le 9, 3) := by decide +kernel
theorem dX6_coalition_76 : decode cX6_coalition 76 = .ok (.iload 4, 2) := by decide +kernel
theorem dX6_coalition_78 : decode cX6_coalition 78 = .ok (.istore_n 2, 1) := by decide +kernel
theorem dX6_coalition_79 : decode cX6_coalition 79 = .ok (.iload 5, 2) := by decide +kernel
theorem dX6_coalition_81 : decode cX6_coalition 81 = .ok (.istore_n 3, 1) := by decide +kernel
theorem dX6_coalition_82 : decode cX6_coalition 82 = .ok (.iinc 4 1, 3) := by decide +kernel
theorem dX6_coalition_85 : decode cX6_coalition 85 = .ok (.goto (-70), 3) := by decide +kernel
theorem dX6_coalition_88 : decode cX6_coalition 88 = .ok (.iload_n 2, 1) := by decide +kernel
theorem dX6_coalition_89 : decode cX6_coalition 89 = .ok (.ireturn, 1) := by decide +kernel
theorem dX6_foresee_0 : decode cX6_foresee 0 = .ok (.aload_n 0, 1) := by decide +kernel
theorem dX6_foresee_1 : decode cX6_foresee 1 = .ok (.iload_n 1, 1) := by decide +kernel
theorem dX6_foresee_2 : decode cX6_foresee 2 = .ok (.invokevirtual 114, 3) := by decide +kernel
theorem dX6_foresee_5 : decode cX6_foresee 5 = .ok (.ifCond .ne 13, 3) := by decide +kernel
theorem dX6_foresee_8 : decode cX6_foresee 8 = .ok (.new 74, 3) := by decide +kernel
theorem dX6_foresee_11 : decode cX6_foresee 11 = .ok (.dup, 1) := by decide +kernel
theorem dX6_foresee_12 : decode cX6_foresee 12 = .ok (.ldc 117, 2) := by decide +kernel
theorem dX6_foresee_14 : decode cX6_foresee 14 = .ok (.invokespecial 78, 3) := by decide +kernel
theorem dX6_foresee_17 : decode cX6_foresee 17 = .ok (.athrow, 1) := by decide +kernel
theorem dX6_foresee_18 : decode cX6_foresee 18 = .ok (.iload_n 2, 1) := by decide +kernel
theorem dX6_foresee_19 : decode cX6_foresee 19 = .ok (.iconst 0, 1) := by decide +kernel
theorem dX6_foresee_20 : decode cX6_foresee 20 = .ok (.bipush 100, 2) := by decide +kernel
theorem dX6_foresee_22 : decode cX6_foresee 22 = .ok (.invokestatic 49, 3) := by decide +kernel
theorem dX6_foresee_25 : decode cX6_foresee 25 = .ok (.ifCond .ne 13, 3) := by decide +kernel
theorem dX6_foresee_28 : decode cX6_foresee 28 = .ok (.new 53, 3) := by decide +kernel
theorem dX6_foresee_31 : decode cX6_foresee 31 = .ok (.dup, 1) := by decide +kernel
theorem dX6_foresee_32 : decode cX6_foresee 32 = .ok (.ldc 187, 2) := by decide +kernel
theorem dX6_foresee_34 : decode cX6_foresee 34 = .ok (.invokespecial 57, 3) := by decide +kernel
theorem dX6_foresee_37 : decode cX6_foresee 37 = .ok (.athrow, 1) := by decide +kernel
theorem dX6_foresee_38 : decode cX6_foresee 38 = .ok (.aload_n 0, 1) := by decide +kernel
theorem dX6_foresee_39 : decode cX6_foresee 39 = .ok (.getfield 145, 3) := by decide +kernel
theorem dX6_foresee_42 : decode cX6_foresee 42 = .ok (.iload_n 2, 1) := by decide +kernel
theorem dX6_foresee_43 : decode cX6_foresee 43 = .ok (.iadd, 1) := by decide +kernel
theorem dX6_foresee_44 : decode cX6_foresee 44 = .ok (.sipush 2000, 3) := by decide +kernel
theorem dX6_foresee_47 : decode cX6_foresee 47 = .ok (.if_icmp .le 13, 3) := by decide +kernel
theorem dX6_foresee_50 : decode cX6_foresee 50 = .ok (.new 67, 3) := by decide +kernel
theorem dX6_foresee_53 : decode cX6_foresee 53 = .ok (.dup, 1) := by decide +kernel
theorem dX6_foresee_54 : decode cX6_foresee 54 = .ok (.ldc 189, 2) := by decide +kernel
theorem dX6_foresee_56 : decode cX6_foresee 56 = .ok (.invokespecial 71, 3) := by decide +kernel
theorem dX6_foresee_59 : decode cX6_foresee 59 = .ok (.athrow, 1) := by decide +kernel
theorem dX6_foresee_60 : decode cX6_foresee 60 = .ok (.aload_n 0, 1) := by decide +kernel
theorem dX6_foresee_61 : decode cX6_foresee 61 = .ok (.getfield 38, 3) := by decide +kernel
theorem dX6_foresee_64 : decode cX6_foresee 64 = .ok (.aload_n 0, 1) := by decide +kernel
theorem dX6_foresee_65 : decode cX6_foresee 65 = .ok (.getfield 34, 3) := by decide +kernel
theorem dX6_foresee_68 : decode cX6_foresee 68 = .ok (.invokevirtual 228, 3) := by decide +kernel
theorem dX6_foresee_71 : decode cX6_foresee 71 = .ok (.iconst 0, 1) := by decide +kernel
theorem dX6_foresee_72 : decode cX6_foresee 72 = .ok (.istore_n 3, 1) := by decide +kernel
theorem dX6_foresee_73 : decode cX6_foresee 73 = .ok (.iload_n 3, 1) := by decide +kernel
theorem dX6_foresee_74 : decode cX6_foresee 74 = .ok (.iload_n 2, 1) := by decide +kernel
theorem dX6_foresee_75 : decode cX6_foresee 75 = .ok (.if_icmp .ge 42, 3) := by decide +kernel
theorem dX6_foresee_78 : decode cX6_foresee 78 = .ok (.aload_n 0, 1) := by decide +kernel
theorem dX6_foresee_79 : decode cX6_foresee 79 = .ok (.getfield 38, 3) := by decide +kernel
theorem dX6_foresee_82 : decode cX6_foresee 82 = .ok (.aload_n 0, 1) := by decide +kernel
theorem dX6_foresee_83 : decode cX6_foresee 83 = .ok (.aload_n 0, 1) := by decide +kernel
theorem dX6_foresee_84 : decode cX6_foresee 84 = .ok (.getfield 145, 3) := by decide +kernel
theorem dX6_foresee_87 : decode cX6_foresee 87 = .ok (.iload_n 3, 1) := by decide +kernel
theorem dX6_foresee_88 : decode cX6_foresee 88 = .ok (.iadd, 1) := by decide +kernel
theorem dX6_foresee_89 : decode cX6_foresee 89 = .ok (.invokevirtual 79, 3) := by decide +kernel
theorem dX6_foresee_92 : decode cX6_foresee 92 = .ok (.invokevirtual 191, 3) := by decide +kernel
theorem dX6_foresee_95 : decode cX6_foresee 95 = .ok (.aload_n 0, 1) := by decide +kernel
theorem dX6_foresee_96 : decode cX6_foresee 96 = .ok (.aload_n 0, 1) := by decide +kernel
theorem dX6_foresee_97 : decode cX6_foresee 97 = .ok (.getfield 38, 3) := by decide +kernel
theorem dX6_foresee_100 : decode cX6_foresee 100 = .ok (.aload_n 0, 1) := by decide +kernel
theorem dX6_foresee_101 : decode cX6_foresee 101 = .ok (.getfield 145, 3) := by decide +kernel
theorem dX6_foresee_104 : decode cX6_foresee 104 = .ok (.iload_n 3, 1) := by decide +kernel
theorem dX6_foresee_105 : decode cX6_foresee 105 = .ok (.iadd, 1) := by decide +kernel
theorem dX6_foresee_106 : decode cX6_foresee 106 = .ok (.iconst 0, 1) := by decide +kernel
theorem dX6_foresee_107 : decode cX6_foresee 107 = .ok (.invokevirtual 195, 3) := by decide +kernel
theorem dX6_foresee_110 : decode cX6_foresee 110 = .ok (.pop, 1) := by decide +kernel
theorem dX6_foresee_111 : decode cX6_foresee 111 = .ok (.iinc 3 1, 3) := by decide +kernel
theorem dX6_foresee_114 : decode cX6_foresee 114 = .ok (.goto (-41), 3) := by decide +kernel
theorem dX6_foresee_117 : decode cX6_foresee 117 = .ok (.aload_n 0, 1) := by decide +kernel
theorem dX6_foresee_118 : decode cX6_foresee 118 = .ok (.getfield 38, 3) := by decide +kernel
theorem dX6_foresee_121 : decode cX6_foresee 121 = .ok (.iload_n 1, 1) := by decide +kernel
theorem dX6_foresee_122 : decode cX6_foresee 122 = .ok (.invokevirtual 232, 3) := by decide +kernel
theorem dX6_foresee_125 : decode cX6_foresee 125 = .ok (.ireturn, 1) := by decide +kernel
theorem dX6_passes_0 : decode cX6_passes 0 = .ok (.aload_n 0, 1) := by decide +kernel
theorem dX6_passes_1 : decode cX6_passes 1 = .ok (.iload_n 1, 1) := by decide +kernel
theorem dX6_passes_2 : decode cX6_passes 2 = .ok (.invokevirtual 164, 3) := by decide +kernel
theorem dX6_passes_5 : decode cX6_passes 5 = .ok (.ifCond .ne 13, 3) := by decide +kernel
theorem dX6_passes_8 : decode cX6_passes 8 = .ok (.new 74, 3) := by decide +kernel
theorem dX6_passes_11 : decode cX6_passes 11 = .ok (.dup, 1) := by decide +kernel
theorem dX6_passes_12 : decode cX6_passes 12 = .ok (.ldc 167, 2) := by decide +kernel
theorem dX6_passes_14 : decode cX6_passes 14 = .ok (.invokespecial 78, 3) := by decide +kernel
theorem dX6_passes_17 : decode cX6_passes 17 = .ok (.athrow, 1) := by decide +kernel
theorem dX6_passes_18 : decode cX6_passes 18 = .ok (.iload_n 2, 1) := by decide +kernel
theorem dX6_passes_19 : decode cX6_passes 19 = .ok (.iconst 1, 1) := by decide +kernel
theorem dX6_passes_20 : decode cX6_passes 20 = .ok (.bipush 100, 2) := by decide +kernel
theorem dX6_passes_22 : decode cX6_passes 22 = .ok (.invokestatic 49, 3) := by decide +kernel
theorem dX6_passes_25 : decode cX6_passes 25 = .ok (.ifCond .ne 13, 3) := by decide +kernel
theorem dX6_passes_28 : decode cX6_passes 28 = .ok (.new 53, 3) := by decide +kernel
theorem dX6_passes_31 : decode cX6_passes 31 = .ok (.dup, 1) := by decide +kernel
theorem dX6_passes_32 : decode cX6_passes 32 = .ok (.ldc 187, 2) := by decide +kernel
theorem dX6_passes_34 : decode cX6_passes 34 = .ok (.invokespecial 57, 3) := by decide +kernel
theorem dX6_passes_37 : decode cX6_passes 37 = .ok (.athrow, 1) := by decide +kernel
theorem dX6_passes_38 : decode cX6_passes 38 = .ok (.aload_n 0, 1) := by decide +kernel
theorem dX6_passes_39 : decode cX6_passes 39 = .ok (.getfield 145, 3) := by decide +kernel
theorem dX6_passes_42 : decode cX6_passes 42 = .ok (.iload_n 2, 1) := by decide +kernel
theorem dX6_passes_43 : decode cX6_passes 43 = .ok (.iadd, 1) := by decide +kernel
theorem dX6_passes_44 : decode cX6_passes 44 = .ok (.sipush 2000, 3) := by decide +kernel
theorem dX6_passes_47 : decode cX6_passes 47 = .ok (.if_icmp .le 13, 3) := by decide +kernel
theorem dX6_passes_50 : decode cX6_passes 50 = .ok (.new 67, 3) := by decide +kernel
theorem dX6_passes_53 : decode cX6_passes 53 = .ok (.dup, 1) := by decide +kernel
theorem dX6_passes_54 : decode cX6_passes 54 = .ok (.ldc 189, 2) := by decide +kernel
theorem dX6_passes_56 : decode cX6_passes 56 = .ok (.invokespecial 71, 3) := by decide +kernel
theorem dX6_passes_59 : decode cX6_passes 59 = .ok (.athrow, 1) := by decide +kernel
theorem dX6_passes_60 : decode cX6_passes 60 = .ok (.aload_n 0, 1) := by decide +kernel
theorem dX6_passes_61 : decode cX6_passes 61 = .ok (.getfield 38, 3) := by decide +kernel
theorem dX6_passes_64 : decode cX6_passes 64 = .ok (.aload_n 0, 1) := by decide +kernel
theorem dX6_passes_65 : decode cX6_passes 65 = .ok (.getfield 34, 3) := by decide +kernel
theorem dX6_passes_68 : decode cX6_passes 68 = .ok (.invokevirtual 228, 3) := by decide +kernel
theorem dX6_passes_71 : decode cX6_passes 71 = .ok (.aload_n 0, 1) := by decide +kernel
theorem dX6_passes_72 : decode cX6_passes 72 = .ok (.aload_n 0, 1) := by decide +kernel
theorem dX6_passes_73 : decode cX6_passes 73 = .ok (.getfield 25, 3) := by decide +kernel
theorem dX6_passes_76 : decode cX6_passes 76 = .ok (.iload_n 1, 1) := by decide +kernel
theorem dX6_passes_77 : decode cX6_passes 77 = .ok (.invokevirtual 119, 3) := by decide +kernel
theorem dX6_passes_80 : decode cX6_passes 80 = .ok (.checkcast 159, 3) := by decide +kernel
theorem dX6_passes_83 : decode cX6_passes 83 = .ok (.iload_n 2, 1) := by decide +kernel
theorem dX6_passes_84 : decode cX6_passes 84 = .ok (.invokevirtual 235, 3) := by decide +kernel
theorem dX6_passes_87 : decode cX6_passes 87 = .ok (.istore_n 3, 1) := by decide +kernel
theorem dX6_passes_88 : decode cX6_passes 88 = .ok (.iload_n 3, 1) := by decide +kernel
theorem dX6_passes_89 : decode cX6_passes 89 = .ok (.iload_n 2, 1) := by decide +kernel
theorem dX6_passes_90 : decode cX6_passes 90 = .ok (.if_icmp .ge 12, 3) := by decide +kernel
theorem dX6_passes_93 : decode cX6_passes 93 = .ok (.aload_n 0, 1) := by decide +kernel
theorem dX6_passes_94 : decode cX6_passes 94 = .ok (.getfield 145, 3) := by decide +kernel
theorem dX6_passes_97 : decode cX6_passes 97 = .ok (.iload_n 3, 1) := by decide +kernel
theorem dX6_passes_98 : decode cX6_passes 98 = .ok (.iadd, 1) := by decide +kernel
theorem dX6_passes_99 : decode cX6_passes 99 = .ok (.goto 4, 3) := by decide +kernel
theorem dX6_passes_102 : decode cX6_passes 102 = .ok (.iconst (-1), 1) := by decide +kernel
theorem dX6_passes_103 : decode cX6_passes 103 = .ok (.ireturn, 1) := by decide +kernel
theorem dX6_advise_0 : decode cX6_advise 0 = .ok (.aload_n 0, 1) := by decide +kernel
theorem dX6_advise_1 : decode cX6_advise 1 = .ok (.iload_n 1, 1) := by decide +kernel
theorem dX6_advise_2 : decode cX6_advise 2 = .ok (.invokevirtual 164, 3) := by decide +kernel
theorem dX6_advise_5 : decode cX6_advise 5 = .ok (.ifCond .ne 13, 3) := by decide +kernel
theorem dX6_advise_8 : decode cX6_advise 8 = .ok (.new 74, 3) := by decide +kernel
theorem dX6_advise_11 : decode cX6_advise 11 = .ok (.dup, 1) := by decide +kernel
theorem dX6_advise_12 : decode cX6_advise 12 = .ok (.ldc 167, 2) := by decide +kernel
theorem dX6_advise_14 : decode cX6_advise 14 = .ok (.invokespecial 78, 3) := by decide +kernel
theorem dX6_advise_17 : decode cX6_advise 17 = .ok (.athrow, 1) := by decide +kernel
theorem dX6_advise_18 : decode cX6_advise 18 = .ok (.iload_n 2, 1) := by decide +kernel
theorem dX6_advise_19 : decode cX6_advise 19 = .ok (.iconst 1, 1) := by decide +kernel
theorem dX6_advise_20 : decode cX6_advise 20 = .ok (.bipush 50, 2) := by decide +kernel
theorem dX6_advise_22 : decode cX6_advise 22 = .ok (.invokestatic 49, 3) := by decide +kernel
theorem dX6_advise_25 : decode cX6_advise 25 = .ok (.ifCond .ne 13, 3) := by decide +kernel
theorem dX6_advise_28 : decode cX6_advise 28 = .ok (.new 53, 3) := by decide +kernel
theorem dX6_advise_31 : decode cX6_advise 31 = .ok (.dup, 1) := by decide +kernel
theorem dX6_advise_32 : decode cX6_advise 32 = .ok (.ldc 187, 2) := by decide +kernel
theorem dX6_advise_34 : decode cX6_advise 34 = .ok (.invokespecial 57, 3) := by decide +kernel
theorem dX6_advise_37 : decode cX6_advise 37 = .ok (.athrow, 1) := by decide +kernel
theorem dX6_advise_38 : decode cX6_advise 38 = .ok (.aload_n 0, 1) := by decide +kernel
theorem dX6_advise_39 : decode cX6_advise 39 = .ok (.getfield 145, 3) := by decide +kernel
theorem dX6_advise_42 : decode cX6_advise 42 = .ok (.iload_n 2, 1) := by decide +kernel
theorem dX6_advise_43 : decode cX6_advise 43 = .ok (.iadd, 1) := by decide +kernel
theorem dX6_advise_44 : decode cX6_advise 44 = .ok (.sipush 2000, 3) := by decide +kernel
theorem dX6_advise_47 : decode cX6_advise 47 = .ok (.if_icmp .le 13, 3) := by decide +kernel
theorem dX6_advise_50 : decode cX6_advise 50 = .ok (.new 67, 3) := by decide +kernel
theorem dX6_advise_53 : decode cX6_advise 53 = .ok (.dup, 1) := by decide +kernel
theorem dX6_advise_54 : decode cX6_advise 54 = .ok (.ldc 189, 2) := by decide +kernel
theorem dX6_advise_56 : decode cX6_advise 56 = .ok (.invokespecial 71, 3) := by decide +kernel
theorem dX6_advise_59 : decode cX6_advise 59 = .ok (.athrow, 1) := by decide +kernel
theorem dX6_advise_60 : decode cX6_advise 60 = .ok (.aload_n 0, 1) := by decide +kernel
theorem dX6_advise_61 : decode cX6_advise 61 = .ok (.getfield 38, 3) := by decide +kernel
theorem dX6_advise_64 : decode cX6_advise 64 = .ok (.aload_n 0, 1) := by decide +kernel
theorem dX6_advise_65 : decode cX6_advise 65 = .ok (.getfield 34, 3) := by decide +kernel
theorem dX6_advise_68 : decode cX6_advise 68 = .ok (.invokevirtual 228, 3) := by decide +kernel
theorem dX6_advise_71 : decode cX6_advise 71 = .ok (.aload_n 0, 1) := by decide +kernel
theorem dX6_advise_72 : decode cX6_advise 72 = .ok (.aload_n 0, 1) := by decide +kernel
theorem dX6_advise_73 : decode cX6_advise 73 = .ok (.getfield 25, 3) := by decide +kernel
theorem dX6_advise_76 : decode cX6_advise 76 = .ok (.iload_n 1, 1) := by decide +kernel
theorem dX6_advise_77 : decode cX6_advise 77 = .ok (.invokevirtual 119, 3) := by decide +kernel
theorem dX6_advise_80 : decode cX6_advise 80 = .ok (.checkcast 159, 3) := by decide +kernel
theorem dX6_advise_83 : decode cX6_advise 83 = .ok (.iload_n 2, 1) := by decide +kernel
theorem dX6_advise_84 : decode cX6_advise 84 = .ok (.invokevirtual 235, 3) := by decide +kernel
theorem dX6_advise_87 : decode cX6_advise 87 = .ok (.istore_n 3, 1) := by decide +kernel
theorem dX6_advise_88 : decode cX6_advise 88 = .ok (.iconst (-1), 1) := by decide +kernel
theorem dX6_advise_89 : decode cX6_advise 89 = .ok (.istore 4, 2) := by decide +kernel
theorem dX6_advise_91 : decode cX6_advise 91 = .ok (.iconst 0, 1) := by decide +kernel
theorem dX6_advise_92 : decode cX6_advise 92 = .ok (.istore 5, 2) := by decide +kernel
theorem dX6_advise_94 : decode cX6_advise 94 = .ok (.iload 5, 2) := by decide +kernel
theorem dX6_advise_96 : decode cX6_advise 96 = .ok (.aload_n 0, 1) := by decide +kernel
theorem dX6_advise_97 : decode cX6_advise 97 = .ok (.getfield 38, 3) := by decide +kernel
theorem dX6_advise_100 : decode cX6_advise 100 = .ok (.getfield 95, 3) := by decide +kernel
theorem dX6_advise_103 : decode cX6_advise 103 = .ok (.invokevirtual 60, 3) := by decide +kernel
theorem dX6_advise_106 : decode cX6_advise 106 = .ok (.if_icmp .ge 69, 3) := by decide +kernel
theorem dX6_advise_109 : decode cX6_advise 109 = .ok (.aload_n 0, 1) := by decide +kernel
theorem dX6_advise_110 : decode cX6_advise 110 = .ok (.getfield 38, 3) := by decide +kernel
theorem dX6_advise_113 : decode cX6_advise 113 = .ok (.aload_n 0, 1) := by decide +kernel
theorem dX6_advise_114 : decode cX6_advise 114 = .ok (.getfield 34, 3) := by decide +kernel
theorem dX6_advise_117 : decode cX6_advise 117 = .ok (.invokevirtual 228, 3) := by decide +kernel
theorem dX6_advise_120 : decode cX6_advise 120 = .ok (.aload_n 0, 1) := by decide +kernel
theorem dX6_advise_121 : decode cX6_advise 121 = .ok (.getfield 38, 3) := by decide +kernel
theorem dX6_advise_124 : decode cX6_advise 124 = .ok (.getfield 95, 3) := by decide +kernel
theorem dX6_advise_127 : decode cX6_advise 127 = .ok (.iload 5, 2) := by decide +kernel
theorem dX6_advise_129 : decode cX6_advise 129 = .ok (.invokevirtual 119, 3) := by decide +kernel
theorem dX6_advise_132 : decode cX6_advise 132 = .ok (.checkcast 109, 3) := by decide +kernel
theorem dX6_advise_135 : decode cX6_advise 135 = .ok (.invokevirtual 127, 3) := by decide +kernel
theorem dX6_advise_138 : decode cX6_advise 138 = .ok (.aload_n 0, 1) := by decide +kernel
theorem dX6_advise_139 : decode cX6_advise 139 = .ok (.aload_n 0, 1) := by decide +kernel
theorem dX6_advise_140 : decode cX6_advise 140 = .ok (.getfield 25, 3) := by decide +kernel
theorem dX6_advise_143 : decode cX6_advise 143 = .ok (.iload_n 1, 1) := by decide +kernel
theorem dX6_advise_144 : decode cX6_advise 144 = .ok (.invokevirtual 119, 3) := by decide +kernel
theorem dX6_advise_147 : decode cX6_advise 147 = .ok (.checkcast 159, 3) := by decide +kernel
theorem dX6_advise_150 : decode cX6_advise 150 = .ok (.iload_n 3, 1) := by decide +kernel
theorem dX6_advise_151 : decode cX6_advise 151 = .ok (.invokevirtual 235, 3) := by decide +kernel
theorem dX6_advise_154 : decode cX6_advise 154 = .ok (.istore 6, 2) := by decide +kernel
theorem dX6_advise_156 : decode cX6_advise 156 = .ok (.iload 6, 2) := by decide +kernel
theorem dX6_advise_158 : decode cX6_advise 158 = .ok (.iload_n 3, 1) := by decide +kernel
theorem dX6_advise_159 : decode cX6_advise 159 = .ok (.if_icmp .ge 10, 3) := by decide +kernel
theorem dX6_advise_162 : decode cX6_advise 162 = .ok (.iload 6, 2) := by decide +kernel
theorem dX6_advise_164 : decode cX6_advise 164 = .ok (.istore_n 3, 1) := by decide +kernel
theorem dX6_advise_165 : decode cX6_advise 165 = .ok (.iload 5, 2) := by decide +kernel
theorem dX6_advise_167 : decode cX6_advise 167 = .ok (.istore 4, 2) := by decide +kernel
theorem dX6_advise_169 : decode cX6_advise 169 = .ok (.iinc 5 1, 3) := by decide +kernel
theorem dX6_advise_172 : decode cX6_advise 172 = .ok (.goto (-78), 3) := by decide +kernel
theorem dX6_advise_175 : decode cX6_advise 175 = .ok (.iload 4, 2) := by decide +kernel
theorem dX6_advise_177 : decode cX6_advise 177 = .ok (.ireturn, 1) := by decide +kernel
theorem dX6_discord_0 : decode cX6_discord 0 = .ok (.aload_n 0, 1) := by decide +kernel
theorem dX6_discord_1 : decode cX6_discord 1 = .ok (.getfield 34, 3) := by decide +kernel
theorem dX6_discord_4 : decode cX6_discord 4 = .ok (.getfield 95, 3) := by decide +kernel
theorem dX6_discord_7 : decode cX6_discord 7 = .ok (.invokevirtual 60, 3) := by decide +kernel
theorem dX6_discord_10 : decode cX6_discord 10 = .ok (.istore_n 1, 1) := by decide +kernel
theorem dX6_discord_11 : decode cX6_discord 11 = .ok (.iload_n 1, 1) := by decide +kernel
theorem dX6_discord_12 : decode cX6_discord 12 = .ok (.ifCond .ne 5, 3) := by decide +kernel
theorem dX6_discord_15 : decode cX6_discord 15 = .ok (.dconst 0, 1) := by decide +kernel
theorem dX6_discord_16 : decode cX6_discord 16 = .ok (.dreturn, 1) := by decide +kernel
theorem dX6_discord_17 : decode cX6_discord 17 = .ok (.iconst 0, 1) := by decide +kernel
theorem dX6_discord_18 : decode cX6_discord 18 = .ok (.istore_n 2, 1) := by decide +kernel
theorem dX6_discord_19 : decode cX6_discord 19 = .ok (.iconst 0, 1) := by decide +kernel
theorem dX6_discord_20 : decode cX6_discord 20 = .ok (.istore_n 3, 1) := by decide +kernel
theorem dX6_discord_21 : decode cX6_discord 21 = .ok (.iload_n 3, 1) := by decide +kernel
theorem dX6_discord_22 : decode cX6_discord 22 = .ok (.iload_n 1, 1) := by decide +kernel
theorem dX6_discord_23 : decode cX6_discord 23 = .ok (.if_icmp .ge 43, 3) := by decide +kernel
theorem dX6_discord_26 : decode cX6_discord 26 = .ok (.iload_n 2, 1) := by decide +kernel
theorem dX6_discord_27 : decode cX6_discord 27 = .ok (.aload_n 0, 1) := by decide +kernel
theorem dX6_discord_28 : decode cX6_discord 28 = .ok (.getfield 34, 3) := by decide +kernel
theorem dX6_discord_31 : decode cX6_discord 31 = .ok (.getfield 95, 3) := by decide +kernel
theorem dX6_discord_34 : decode cX6_discord 34 = .ok (.iload_n 3, 1) := by decide +kernel
theorem dX6_discord_35 : decode cX6_discord 35 = .ok (.invokevirtual 119, 3) := by decide +kernel
theorem dX6_discord_38 : decode cX6_discord 38 = .ok (.checkcast 109, 3) := by decide +kernel
theorem dX6_discord_41 : decode cX6_discord 41 = .ok (.getfield 137, 3) := by decide +kernel
theorem dX6_discord_44 : decode cX6_discord 44 = .ok (.aload_n 0, 1) := by decide +kernel
theorem dX6_discord_45 : decode cX6_discord 45 = .ok (.aload_n 0, 1) := by decide +kernel
theorem dX6_discord_46 : decode cX6_discord 46 = .ok (.getfield 145, 3) := by decide +kernel
theorem dX6_discord_49 : decode cX6_discord 49 = .ok (.invokevirtual 79, 3) := by decide +kernel
theorem dX6_discord_52 : decode cX6_discord 52 = .ok (.getfield 239, 3) := by decide +kernel
theorem dX6_discord_55 : decode cX6_discord 55 = .ok (.invokestatic 240, 3) := by decide +kernel
theorem dX6_discord_58 : decode cX6_discord 58 = .ok (.iadd, 1) := by decide +kernel
theorem dX6_discord_59 : decode cX6_discord 59 = .ok (.istore_n 2, 1) := by decide +kernel
theorem dX6_discord_60 : decode cX6_discord 60 = .ok (.iinc 3 1, 3) := by decide +kernel
theorem dX6_discord_63 : decode cX6_discord 63 = .ok (.goto (-42), 3) := by decide +kernel
theorem dX6_discord_66 : decode cX6_discord 66 = .ok (.iload_n 2, 1) := by decide +kernel
theorem dX6_discord_67 : decode cX6_discord 67 = .ok (.i2d, 1) := by decide +kernel
theorem dX6_discord_68 : decode cX6_discord 68 = .ok (.iload_n 1, 1) := by decide +kernel
theorem dX6_discord_69 : decode cX6_discord 69 = .ok (.i2d, 1) := by decide +kernel
theorem dX6_discord_70 : decode cX6_discord 70 = .ok (.ddiv, 1) := by decide +kernel
theorem dX6_discord_71 : decode cX6_discord 71 = .ok (.dreturn, 1) := by decide +kernel
theorem dX6_digest_0 : decode cX6_digest 0 = .ok (.ldc2_w 243, 3) := by decide +kernel
theorem dX6_digest_3 : decode cX6_digest 3 = .ok (.lstore_n 1, 1) := by decide +kernel
theorem dX6_digest_4 : decode cX6_digest 4 = .ok (.iconst 0, 1) := by decide +kernel
theorem dX6_digest_5 : decode cX6_digest 5 = .ok (.istore_n 3, 1) := by decide +kernel
theorem dX6_digest_6 : decode cX6_digest 6 = .ok (.iload_n 3, 1) := by decide +kernel
theorem dX6_digest_7 : decode cX6_digest 7 = .ok (.bipush 9, 2) := by decide +kernel
theorem dX6_digest_9 : decode cX6_digest 9 = .ok (.if_icmp .ge 22, 3) := by decide +kernel
theorem dX6_digest_12 : decode cX6_digest 12 = .ok (.lload_n 1, 1) := by decide +kernel
theorem dX6_digest_13 : decode cX6_digest 13 = .ok (.ldc2_w 245, 3) := by decide +kernel
theorem dX6_digest_16 : decode cX6_digest 16 = .ok (.lmul, 1) := by decide +kernel
theorem dX6_digest_17 : decode cX6_digest 17 = .ok (.aload_n 0, 1) := by decide +kernel
theorem dX6_digest_18 : decode cX6_digest 18 = .ok (.iload_n 3, 1) := by decide +kernel
theorem dX6_digest_19 : decode cX6_digest 19 = .ok (.invokevirtual 207, 3) := by decide +kernel
theorem dX6_digest_22 : decode cX6_digest 22 = .ok (.i2l, 1) := by decide +kernel
theorem dX6_digest_23 : decode cX6_digest 23 = .ok (.ladd, 1) := by decide +kernel
theorem dX6_digest_24 : decode cX6_digest 24 = .ok (.lstore_n 1, 1) := by decide +kernel
