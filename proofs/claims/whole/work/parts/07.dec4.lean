theorem dX8_motionTold_66 : decode cX8_motionTold 66 = .ok (.iconst 0, 1) := by decide +kernel
theorem dX8_motionTold_67 : decode cX8_motionTold 67 = .ok (.goto 19, 3) := by decide +kernel
theorem dX8_motionTold_70 : decode cX8_motionTold 70 = .ok (.aload_n 0, 1) := by decide +kernel
theorem dX8_motionTold_71 : decode cX8_motionTold 71 = .ok (.getfield 10, 3) := by decide +kernel
theorem dX8_motionTold_74 : decode cX8_motionTold 74 = .ok (.getfield 98, 3) := by decide +kernel
theorem dX8_motionTold_77 : decode cX8_motionTold 77 = .ok (.bipush 6, 2) := by decide +kernel
theorem dX8_motionTold_79 : decode cX8_motionTold 79 = .ok (.iload_n 1, 1) := by decide +kernel
theorem dX8_motionTold_80 : decode cX8_motionTold 80 = .ok (.imul, 1) := by decide +kernel
theorem dX8_motionTold_81 : decode cX8_motionTold 81 = .ok (.iload_n 2, 1) := by decide +kernel
theorem dX8_motionTold_82 : decode cX8_motionTold 82 = .ok (.iadd, 1) := by decide +kernel
theorem dX8_motionTold_83 : decode cX8_motionTold 83 = .ok (.iconst 3, 1) := by decide +kernel
theorem dX8_motionTold_84 : decode cX8_motionTold 84 = .ok (.isub, 1) := by decide +kernel
theorem dX8_motionTold_85 : decode cX8_motionTold 85 = .ok (.iaload, 1) := by decide +kernel
theorem dX8_motionTold_86 : decode cX8_motionTold 86 = .ok (.ireturn, 1) := by decide +kernel
theorem dX8_motion_0 : decode cX8_motion 0 = .ok (.aload_n 0, 1) := by decide +kernel
theorem dX8_motion_1 : decode cX8_motion 1 = .ok (.iconst 0, 1) := by decide +kernel
theorem dX8_motion_2 : decode cX8_motion 2 = .ok (.putfield 19, 3) := by decide +kernel
theorem dX8_motion_5 : decode cX8_motion 5 = .ok (.aload_n 0, 1) := by decide +kernel
theorem dX8_motion_6 : decode cX8_motion 6 = .ok (.iload_n 1, 1) := by decide +kernel
theorem dX8_motion_7 : decode cX8_motion 7 = .ok (.invokevirtual 101, 3) := by decide +kernel
theorem dX8_motion_10 : decode cX8_motion 10 = .ok (.ifCond .eq 22, 3) := by decide +kernel
theorem dX8_motion_13 : decode cX8_motion 13 = .ok (.iload_n 2, 1) := by decide +kernel
theorem dX8_motion_14 : decode cX8_motion 14 = .ok (.iconst 0, 1) := by decide +kernel
theorem dX8_motion_15 : decode cX8_motion 15 = .ok (.bipush 8, 2) := by decide +kernel
theorem dX8_motion_17 : decode cX8_motion 17 = .ok (.invokestatic 34, 3) := by decide +kernel
theorem dX8_motion_20 : decode cX8_motion 20 = .ok (.ifCond .eq 12, 3) := by decide +kernel
theorem dX8_motion_23 : decode cX8_motion 23 = .ok (.aload_n 0, 1) := by decide +kernel
theorem dX8_motion_24 : decode cX8_motion 24 = .ok (.iload_n 1, 1) := by decide +kernel
theorem dX8_motion_25 : decode cX8_motion 25 = .ok (.iload_n 2, 1) := by decide +kernel
theorem dX8_motion_26 : decode cX8_motion 26 = .ok (.invokevirtual 119, 3) := by decide +kernel
theorem dX8_motion_29 : decode cX8_motion 29 = .ok (.goto 8, 3) := by decide +kernel
theorem dX8_motion_32 : decode cX8_motion 32 = .ok (.aload_n 0, 1) := by decide +kernel
theorem dX8_motion_33 : decode cX8_motion 33 = .ok (.iconst 1, 1) := by decide +kernel
theorem dX8_motion_34 : decode cX8_motion 34 = .ok (.invokevirtual 38, 3) := by decide +kernel
theorem dX8_motion_37 : decode cX8_motion 37 = .ok (.ireturn, 1) := by decide +kernel
theorem dX8_stand_0 : decode cX8_stand 0 = .ok (.aload_n 0, 1) := by decide +kernel
theorem dX8_stand_1 : decode cX8_stand 1 = .ok (.iconst 0, 1) := by decide +kernel
theorem dX8_stand_2 : decode cX8_stand 2 = .ok (.putfield 19, 3) := by decide +kernel
theorem dX8_stand_5 : decode cX8_stand 5 = .ok (.aload_n 0, 1) := by decide +kernel
theorem dX8_stand_6 : decode cX8_stand 6 = .ok (.iload_n 1, 1) := by decide +kernel
theorem dX8_stand_7 : decode cX8_stand 7 = .ok (.invokevirtual 101, 3) := by decide +kernel
theorem dX8_stand_10 : decode cX8_stand 10 = .ok (.ifCond .eq 23, 3) := by decide +kernel
theorem dX8_stand_13 : decode cX8_stand 13 = .ok (.aload_n 0, 1) := by decide +kernel
theorem dX8_stand_14 : decode cX8_stand 14 = .ok (.iload_n 2, 1) := by decide +kernel
theorem dX8_stand_15 : decode cX8_stand 15 = .ok (.invokevirtual 68, 3) := by decide +kernel
theorem dX8_stand_18 : decode cX8_stand 18 = .ok (.ifCond .eq 15, 3) := by decide +kernel
theorem dX8_stand_21 : decode cX8_stand 21 = .ok (.aload_n 0, 1) := by decide +kernel
theorem dX8_stand_22 : decode cX8_stand 22 = .ok (.getfield 10, 3) := by decide +kernel
theorem dX8_stand_25 : decode cX8_stand 25 = .ok (.iload_n 1, 1) := by decide +kernel
theorem dX8_stand_26 : decode cX8_stand 26 = .ok (.iload_n 2, 1) := by decide +kernel
theorem dX8_stand_27 : decode cX8_stand 27 = .ok (.invokevirtual 122, 3) := by decide +kernel
theorem dX8_stand_30 : decode cX8_stand 30 = .ok (.goto 8, 3) := by decide +kernel
theorem dX8_stand_33 : decode cX8_stand 33 = .ok (.aload_n 0, 1) := by decide +kernel
theorem dX8_stand_34 : decode cX8_stand 34 = .ok (.iconst 1, 1) := by decide +kernel
theorem dX8_stand_35 : decode cX8_stand 35 = .ok (.invokevirtual 38, 3) := by decide +kernel
theorem dX8_stand_38 : decode cX8_stand 38 = .ok (.ireturn, 1) := by decide +kernel
theorem dX8_pass_0 : decode cX8_pass 0 = .ok (.aload_n 0, 1) := by decide +kernel
theorem dX8_pass_1 : decode cX8_pass 1 = .ok (.iconst 0, 1) := by decide +kernel
theorem dX8_pass_2 : decode cX8_pass 2 = .ok (.putfield 19, 3) := by decide +kernel
theorem dX8_pass_5 : decode cX8_pass 5 = .ok (.iload_n 1, 1) := by decide +kernel
theorem dX8_pass_6 : decode cX8_pass 6 = .ok (.iconst 1, 1) := by decide +kernel
theorem dX8_pass_7 : decode cX8_pass 7 = .ok (.bipush 100, 2) := by decide +kernel
theorem dX8_pass_9 : decode cX8_pass 9 = .ok (.invokestatic 34, 3) := by decide +kernel
theorem dX8_pass_12 : decode cX8_pass 12 = .ok (.ifCond .ne 9, 3) := by decide +kernel
theorem dX8_pass_15 : decode cX8_pass 15 = .ok (.aload_n 0, 1) := by decide +kernel
theorem dX8_pass_16 : decode cX8_pass 16 = .ok (.iconst 1, 1) := by decide +kernel
theorem dX8_pass_17 : decode cX8_pass 17 = .ok (.invokevirtual 38, 3) := by decide +kernel
theorem dX8_pass_20 : decode cX8_pass 20 = .ok (.ireturn, 1) := by decide +kernel
theorem dX8_pass_21 : decode cX8_pass 21 = .ok (.aload_n 0, 1) := by decide +kernel
theorem dX8_pass_22 : decode cX8_pass 22 = .ok (.getfield 10, 3) := by decide +kernel
theorem dX8_pass_25 : decode cX8_pass 25 = .ok (.getfield 104, 3) := by decide +kernel
theorem dX8_pass_28 : decode cX8_pass 28 = .ok (.iload_n 1, 1) := by decide +kernel
theorem dX8_pass_29 : decode cX8_pass 29 = .ok (.iadd, 1) := by decide +kernel
theorem dX8_pass_30 : decode cX8_pass 30 = .ok (.sipush 2000, 3) := by decide +kernel
theorem dX8_pass_33 : decode cX8_pass 33 = .ok (.if_icmp .le 9, 3) := by decide +kernel
theorem dX8_pass_36 : decode cX8_pass 36 = .ok (.aload_n 0, 1) := by decide +kernel
theorem dX8_pass_37 : decode cX8_pass 37 = .ok (.iconst 2, 1) := by decide +kernel
theorem dX8_pass_38 : decode cX8_pass 38 = .ok (.invokevirtual 38, 3) := by decide +kernel
theorem dX8_pass_41 : decode cX8_pass 41 = .ok (.ireturn, 1) := by decide +kernel
theorem dX8_pass_42 : decode cX8_pass 42 = .ok (.iconst 0, 1) := by decide +kernel
theorem dX8_pass_43 : decode cX8_pass 43 = .ok (.istore_n 2, 1) := by decide +kernel
theorem dX8_pass_44 : decode cX8_pass 44 = .ok (.iconst 0, 1) := by decide +kernel
theorem dX8_pass_45 : decode cX8_pass 45 = .ok (.istore_n 3, 1) := by decide +kernel
theorem dX8_pass_46 : decode cX8_pass 46 = .ok (.iload_n 3, 1) := by decide +kernel
theorem dX8_pass_47 : decode cX8_pass 47 = .ok (.iload_n 1, 1) := by decide +kernel
theorem dX8_pass_48 : decode cX8_pass 48 = .ok (.if_icmp .ge 19, 3) := by decide +kernel
theorem dX8_pass_51 : decode cX8_pass 51 = .ok (.iload_n 2, 1) := by decide +kernel
theorem dX8_pass_52 : decode cX8_pass 52 = .ok (.aload_n 0, 1) := by decide +kernel
theorem dX8_pass_53 : decode cX8_pass 53 = .ok (.getfield 10, 3) := by decide +kernel
theorem dX8_pass_56 : decode cX8_pass 56 = .ok (.invokevirtual 125, 3) := by decide +kernel
theorem dX8_pass_59 : decode cX8_pass 59 = .ok (.iadd, 1) := by decide +kernel
theorem dX8_pass_60 : decode cX8_pass 60 = .ok (.istore_n 2, 1) := by decide +kernel
theorem dX8_pass_61 : decode cX8_pass 61 = .ok (.iinc 3 1, 3) := by decide +kernel
theorem dX8_pass_64 : decode cX8_pass 64 = .ok (.goto (-18), 3) := by decide +kernel
theorem dX8_pass_67 : decode cX8_pass 67 = .ok (.iload_n 2, 1) := by decide +kernel
theorem dX8_pass_68 : decode cX8_pass 68 = .ok (.ireturn, 1) := by decide +kernel
theorem dX8_counted_0 : decode cX8_counted 0 = .ok (.iconst 0, 1) := by decide +kernel
theorem dX8_counted_1 : decode cX8_counted 1 = .ok (.istore_n 2, 1) := by decide +kernel
theorem dX8_counted_2 : decode cX8_counted 2 = .ok (.iconst 0, 1) := by decide +kernel
theorem dX8_counted_3 : decode cX8_counted 3 = .ok (.istore_n 3, 1) := by decide +kernel
theorem dX8_counted_4 : decode cX8_counted 4 = .ok (.iconst 0, 1) := by decide +kernel
theorem dX8_counted_5 : decode cX8_counted 5 = .ok (.istore 4, 2) := by decide +kernel
theorem dX8_counted_7 : decode cX8_counted 7 = .ok (.iconst 0, 1) := by decide +kernel
theorem dX8_counted_8 : decode cX8_counted 8 = .ok (.istore 5, 2) := by decide +kernel
theorem dX8_counted_10 : decode cX8_counted 10 = .ok (.iload 5, 2) := by decide +kernel
theorem dX8_counted_12 : decode cX8_counted 12 = .ok (.aload_n 0, 1) := by decide +kernel
theorem dX8_counted_13 : decode cX8_counted 13 = .ok (.getfield 10, 3) := by decide +kernel
theorem dX8_counted_16 : decode cX8_counted 16 = .ok (.getfield 53, 3) := by decide +kernel
theorem dX8_counted_19 : decode cX8_counted 19 = .ok (.if_icmp .ge 90, 3) := by decide +kernel
theorem dX8_counted_22 : decode cX8_counted 22 = .ok (.iload_n 2, 1) := by decide +kernel
theorem dX8_counted_23 : decode cX8_counted 23 = .ok (.aload_n 0, 1) := by decide +kernel
theorem dX8_counted_24 : decode cX8_counted 24 = .ok (.getfield 10, 3) := by decide +kernel
theorem dX8_counted_27 : decode cX8_counted 27 = .ok (.iload 5, 2) := by decide +kernel
theorem dX8_counted_29 : decode cX8_counted 29 = .ok (.iconst 4, 1) := by decide +kernel
theorem dX8_counted_30 : decode cX8_counted 30 = .ok (.invokevirtual 56, 3) := by decide +kernel
theorem dX8_counted_33 : decode cX8_counted 33 = .ok (.iadd, 1) := by decide +kernel
theorem dX8_counted_34 : decode cX8_counted 34 = .ok (.istore_n 2, 1) := by decide +kernel
theorem dX8_counted_35 : decode cX8_counted 35 = .ok (.iload_n 3, 1) := by decide +kernel
theorem dX8_counted_36 : decode cX8_counted 36 = .ok (.aload_n 0, 1) := by decide +kernel
theorem dX8_counted_37 : decode cX8_counted 37 = .ok (.getfield 10, 3) := by decide +kernel
theorem dX8_counted_40 : decode cX8_counted 40 = .ok (.iload 5, 2) := by decide +kernel
theorem dX8_counted_42 : decode cX8_counted 42 = .ok (.bipush 8, 2) := by decide +kernel
theorem dX8_counted_44 : decode cX8_counted 44 = .ok (.invokevirtual 56, 3) := by decide +kernel
theorem dX8_counted_47 : decode cX8_counted 47 = .ok (.ifCond .le 7, 3) := by decide +kernel
theorem dX8_counted_50 : decode cX8_counted 50 = .ok (.iconst 1, 1) := by decide +kernel
theorem dX8_counted_51 : decode cX8_counted 51 = .ok (.goto 4, 3) := by decide +kernel
theorem dX8_counted_54 : decode cX8_counted 54 = .ok (.iconst 0, 1) := by decide +kernel
theorem dX8_counted_55 : decode cX8_counted 55 = .ok (.iadd, 1) := by decide +kernel
theorem dX8_counted_56 : decode cX8_counted 56 = .ok (.istore_n 3, 1) := by decide +kernel
theorem dX8_counted_57 : decode cX8_counted 57 = .ok (.iload 4, 2) := by decide +kernel
theorem dX8_counted_59 : decode cX8_counted 59 = .ok (.aload_n 0, 1) := by decide +kernel
theorem dX8_counted_60 : decode cX8_counted 60 = .ok (.getfield 10, 3) := by decide +kernel
theorem dX8_counted_63 : decode cX8_counted 63 = .ok (.iload 5, 2) := by decide +kernel
theorem dX8_counted_65 : decode cX8_counted 65 = .ok (.bipush 8, 2) := by decide +kernel
theorem dX8_counted_67 : decode cX8_counted 67 = .ok (.invokevirtual 56, 3) := by decide +kernel
theorem dX8_counted_70 : decode cX8_counted 70 = .ok (.ifCond .ne 29, 3) := by decide +kernel
theorem dX8_counted_73 : decode cX8_counted 73 = .ok (.aload_n 0, 1) := by decide +kernel
theorem dX8_counted_74 : decode cX8_counted 74 = .ok (.getfield 10, 3) := by decide +kernel
theorem dX8_counted_77 : decode cX8_counted 77 = .ok (.iload 5, 2) := by decide +kernel
theorem dX8_counted_79 : decode cX8_counted 79 = .ok (.invokevirtual 83, 3) := by decide +kernel
theorem dX8_counted_82 : decode cX8_counted 82 = .ok (.aload_n 0, 1) := by decide +kernel
theorem dX8_counted_83 : decode cX8_counted 83 = .ok (.getfield 10, 3) := by decide +kernel
theorem dX8_counted_86 : decode cX8_counted 86 = .ok (.iload 5, 2) := by decide +kernel
theorem dX8_counted_88 : decode cX8_counted 88 = .ok (.iconst 5, 1) := by decide +kernel
theorem dX8_counted_89 : decode cX8_counted 89 = .ok (.invokevirtual 56, 3) := by decide +kernel
theorem dX8_counted_92 : decode cX8_counted 92 = .ok (.if_icmp .gt 7, 3) := by decide +kernel
theorem dX8_counted_95 : decode cX8_counted 95 = .ok (.iconst 1, 1) := by decide +kernel
theorem dX8_counted_96 : decode cX8_counted 96 = .ok (.goto 4, 3) := by decide +kernel
theorem dX8_counted_99 : decode cX8_counted 99 = .ok (.iconst 0, 1) := by decide +kernel
theorem dX8_counted_100 : decode cX8_counted 100 = .ok (.iadd, 1) := by decide +kernel
theorem dX8_counted_101 : decode cX8_counted 101 = .ok (.istore 4, 2) := by decide +kernel
theorem dX8_counted_103 : decode cX8_counted 103 = .ok (.iinc 5 1, 3) := by decide +kernel
theorem dX8_counted_106 : decode cX8_counted 106 = .ok (.goto (-96), 3) := by decide +kernel
theorem dX8_counted_109 : decode cX8_counted 109 = .ok (.bipush 9, 2) := by decide +kernel
theorem dX8_counted_111 : decode cX8_counted 111 = .ok (.newarray .int, 2) := by decide +kernel
theorem dX8_counted_113 : decode cX8_counted 113 = .ok (.dup, 1) := by decide +kernel
theorem dX8_counted_114 : decode cX8_counted 114 = .ok (.iconst 0, 1) := by decide +kernel
theorem dX8_counted_115 : decode cX8_counted 115 = .ok (.aload_n 0, 1) := by decide +kernel
theorem dX8_counted_116 : decode cX8_counted 116 = .ok (.getfield 10, 3) := by decide +kernel
theorem dX8_counted_119 : decode cX8_counted 119 = .ok (.getfield 104, 3) := by decide +kernel
theorem dX8_counted_122 : decode cX8_counted 122 = .ok (.iastore, 1) := by decide +kernel
theorem dX8_counted_123 : decode cX8_counted 123 = .ok (.dup, 1) := by decide +kernel
theorem dX8_counted_124 : decode cX8_counted 124 = .ok (.iconst 1, 1) := by decide +kernel
theorem dX8_counted_125 : decode cX8_counted 125 = .ok (.aload_n 0, 1) := by decide +kernel
theorem dX8_counted_126 : decode cX8_counted 126 = .ok (.getfield 10, 3) := by decide +kernel
theorem dX8_counted_129 : decode cX8_counted 129 = .ok (.getfield 53, 3) := by decide +kernel
theorem dX8_counted_132 : decode cX8_counted 132 = .ok (.iastore, 1) := by decide +kernel
theorem dX8_counted_133 : decode cX8_counted 133 = .ok (.dup, 1) := by decide +kernel
theorem dX8_counted_134 : decode cX8_counted 134 = .ok (.iconst 2, 1) := by decide +kernel
theorem dX8_counted_135 : decode cX8_counted 135 = .ok (.aload_n 0, 1) := by decide +kernel
theorem dX8_counted_136 : decode cX8_counted 136 = .ok (.getfield 10, 3) := by decide +kernel
theorem dX8_counted_139 : decode cX8_counted 139 = .ok (.getfield 95, 3) := by decide +kernel
theorem dX8_counted_142 : decode cX8_counted 142 = .ok (.iastore, 1) := by decide +kernel
theorem dX8_counted_143 : decode cX8_counted 143 = .ok (.dup, 1) := by decide +kernel
theorem dX8_counted_144 : decode cX8_counted 144 = .ok (.iconst 3, 1) := by decide +kernel
theorem dX8_counted_145 : decode cX8_counted 145 = .ok (.aload_n 0, 1) := by decide +kernel
theorem dX8_counted_146 : decode cX8_counted 146 = .ok (.getfield 10, 3) := by decide +kernel
theorem dX8_counted_149 : decode cX8_counted 149 = .ok (.getfield 42, 3) := by decide +kernel
theorem dX8_counted_152 : decode cX8_counted 152 = .ok (.iastore, 1) := by decide +kernel
theorem dX8_counted_153 : decode cX8_counted 153 = .ok (.dup, 1) := by decide +kernel
theorem dX8_counted_154 : decode cX8_counted 154 = .ok (.iconst 4, 1) := by decide +kernel
theorem dX8_counted_155 : decode cX8_counted 155 = .ok (.aload_n 0, 1) := by decide +kernel
theorem dX8_counted_156 : decode cX8_counted 156 = .ok (.getfield 10, 3) := by decide +kernel
theorem dX8_counted_159 : decode cX8_counted 159 = .ok (.getfield 107, 3) := by decide +kernel
theorem dX8_counted_162 : decode cX8_counted 162 = .ok (.iastore, 1) := by decide +kernel
theorem dX8_counted_163 : decode cX8_counted 163 = .ok (.dup, 1) := by decide +kernel
theorem dX8_counted_164 : decode cX8_counted 164 = .ok (.iconst 5, 1) := by decide +kernel
theorem dX8_counted_165 : decode cX8_counted 165 = .ok (.iload_n 2, 1) := by decide +kernel
theorem dX8_counted_166 : decode cX8_counted 166 = .ok (.iastore, 1) := by decide +kernel
theorem dX8_counted_167 : decode cX8_counted 167 = .ok (.dup, 1) := by decide +kernel
theorem dX8_counted_168 : decode cX8_counted 168 = .ok (.bipush 6, 2) := by decide +kernel
theorem dX8_counted_170 : decode cX8_counted 170 = .ok (.aload_n 0, 1) := by decide +kernel
theorem dX8_counted_171 : decode cX8_counted 171 = .ok (.getfield 10, 3) := by decide +kernel
theorem dX8_counted_174 : decode cX8_counted 174 = .ok (.getfield 129, 3) := by decide +kernel
theorem dX8_counted_177 : decode cX8_counted 177 = .ok (.iastore, 1) := by decide +kernel
theorem dX8_counted_178 : decode cX8_counted 178 = .ok (.dup, 1) := by decide +kernel
theorem dX8_counted_179 : decode cX8_counted 179 = .ok (.bipush 7, 2) := by decide +kernel
theorem dX8_counted_181 : decode cX8_counted 181 = .ok (.iload_n 3, 1) := by decide +kernel
theorem dX8_counted_182 : decode cX8_counted 182 = .ok (.iastore, 1) := by decide +kernel
theorem dX8_counted_183 : decode cX8_counted 183 = .ok (.dup, 1) := by decide +kernel
theorem dX8_counted_184 : decode cX8_counted 184 = .ok (.bipush 8, 2) := by decide +kernel
theorem dX8_counted_186 : decode cX8_counted 186 = .ok (.iload 4, 2) := by decide +kernel
theorem dX8_counted_188 : decode cX8_counted 188 = .ok (.iastore, 1) := by decide +kernel
theorem dX8_counted_189 : decode cX8_counted 189 = .ok (.astore 5, 2) := by decide +kernel
theorem dX8_counted_191 : decode cX8_counted 191 = .ok (.aload 5, 2) := by decide +kernel
theorem dX8_counted_193 : decode cX8_counted 193 = .ok (.iload_n 1, 1) := by decide +kernel
theorem dX8_counted_194 : decode cX8_counted 194 = .ok (.iaload, 1) := by decide +kernel
theorem dX8_counted_195 : decode cX8_counted 195 = .ok (.ireturn, 1) := by decide +kernel
theorem dX8_count_0 : decode cX8_count 0 = .ok (.aload_n 0, 1) := by decide +kernel
theorem dX8_count_1 : decode cX8_count 1 = .ok (.iconst 0, 1) := by decide +kernel
theorem dX8_count_2 : decode cX8_count 2 = .ok (.putfield 19, 3) := by decide +kernel
theorem dX8_count_5 : decode cX8_count 5 = .ok (.iload_n 1, 1) := by decide +kernel
theorem dX8_count_6 : decode cX8_count 6 = .ok (.iconst 0, 1) := by decide +kernel
theorem dX8_count_7 : decode cX8_count 7 = .ok (.bipush 8, 2) := by decide +kernel
theorem dX8_count_9 : decode cX8_count 9 = .ok (.invokestatic 34, 3) := by decide +kernel
theorem dX8_count_12 : decode cX8_count 12 = .ok (.ifCond .eq 11, 3) := by decide +kernel
theorem dX8_count_15 : decode cX8_count 15 = .ok (.aload_n 0, 1) := by decide +kernel
theorem dX8_count_16 : decode cX8_count 16 = .ok (.iload_n 1, 1) := by decide +kernel
theorem dX8_count_17 : decode cX8_count 17 = .ok (.invokevirtual 132, 3) := by decide +kernel
theorem dX8_count_20 : decode cX8_count 20 = .ok (.goto 8, 3) := by decide +kernel
theorem dX8_count_23 : decode cX8_count 23 = .ok (.aload_n 0, 1) := by decide +kernel
theorem dX8_count_24 : decode cX8_count 24 = .ok (.iconst 1, 1) := by decide +kernel
theorem dX8_count_25 : decode cX8_count 25 = .ok (.invokevirtual 38, 3) := by decide +kernel
theorem dX8_count_28 : decode cX8_count 28 = .ok (.ireturn, 1) := by decide +kernel
theorem dX8_partyTold_0 : decode cX8_partyTold 0 = .ok (.iconst 0, 1) := by decide +kernel
theorem dX8_partyTold_1 : decode cX8_partyTold 1 = .ok (.istore_n 3, 1) := by decide +kernel
theorem dX8_partyTold_2 : decode cX8_partyTold 2 = .ok (.iconst 0, 1) := by decide +kernel
theorem dX8_partyTold_3 : decode cX8_partyTold 3 = .ok (.istore 4, 2) := by decide +kernel
theorem dX8_partyTold_5 : decode cX8_partyTold 5 = .ok (.iload 4, 2) := by decide +kernel
theorem dX8_partyTold_7 : decode cX8_partyTold 7 = .ok (.aload_n 0, 1) := by decide +kernel
theorem dX8_partyTold_8 : decode cX8_partyTold 8 = .ok (.getfield 10, 3) := by decide +kernel
theorem dX8_partyTold_11 : decode cX8_partyTold 11 = .ok (.getfield 53, 3) := by decide +kernel
theorem dX8_partyTold_14 : decode cX8_partyTold 14 = .ok (.if_icmp .ge 44, 3) := by decide +kernel
theorem dX8_partyTold_17 : decode cX8_partyTold 17 = .ok (.iload_n 3, 1) := by decide +kernel
theorem dX8_partyTold_18 : decode cX8_partyTold 18 = .ok (.aload_n 0, 1) := by decide +kernel
theorem dX8_partyTold_19 : decode cX8_partyTold 19 = .ok (.iload 4, 2) := by decide +kernel
theorem dX8_partyTold_21 : decode cX8_partyTold 21 = .ok (.invokevirtual 80, 3) := by decide +kernel
theorem dX8_partyTold_24 : decode cX8_partyTold 24 = .ok (.iload_n 1, 1) := by decide +kernel
theorem dX8_partyTold_25 : decode cX8_partyTold 25 = .ok (.if_icmp .ne 24, 3) := by decide +kernel
theorem dX8_partyTold_28 : decode cX8_partyTold 28 = .ok (.iload_n 2, 1) := by decide +kernel
theorem dX8_partyTold_29 : decode cX8_partyTold 29 = .ok (.ifCond .ne 7, 3) := by decide +kernel
theorem dX8_partyTold_32 : decode cX8_partyTold 32 = .ok (.iconst 1, 1) := by decide +kernel
theorem dX8_partyTold_33 : decode cX8_partyTold 33 = .ok (.goto 17, 3) := by decide +kernel
theorem dX8_partyTold_36 : decode cX8_partyTold 36 = .ok (.aload_n 0, 1) := by decide +kernel
theorem dX8_partyTold_37 : decode cX8_partyTold 37 = .ok (.getfield 10, 3) := by decide +kernel
theorem dX8_partyTold_40 : decode cX8_partyTold 40 = .ok (.iload 4, 2) := by decide +kernel
theorem dX8_partyTold_42 : decode cX8_partyTold 42 = .ok (.iconst 4, 1) := by decide +kernel
theorem dX8_partyTold_43 : decode cX8_partyTold 43 = .ok (.invokevirtual 56, 3) := by decide +kernel
theorem dX8_partyTold_46 : decode cX8_partyTold 46 = .ok (.goto 4, 3) := by decide +kernel
theorem dX8_partyTold_49 : decode cX8_partyTold 49 = .ok (.iconst 0, 1) := by decide +kernel
theorem dX8_partyTold_50 : decode cX8_partyTold 50 = .ok (.iadd, 1) := by decide +kernel
theorem dX8_partyTold_51 : decode cX8_partyTold 51 = .ok (.istore_n 3, 1) := by decide +kernel
theorem dX8_partyTold_52 : decode cX8_partyTold 52 = .ok (.iinc 4 1, 3) := by decide +kernel
theorem dX8_partyTold_55 : decode cX8_partyTold 55 = .ok (.goto (-50), 3) := by decide +kernel
theorem dX8_partyTold_58 : decode cX8_partyTold 58 = .ok (.iload_n 3, 1) := by decide +kernel
theorem dX8_partyTold_59 : decode cX8_partyTold 59 = .ok (.ireturn, 1) := by decide +kernel
theorem dX8_party_0 : decode cX8_party 0 = .ok (.aload_n 0, 1) := by decide +kernel
theorem dX8_party_1 : decode cX8_party 1 = .ok (.iconst 0, 1) := by decide +kernel
theorem dX8_party_2 : decode cX8_party 2 = .ok (.putfield 19, 3) := by decide +kernel
theorem dX8_party_5 : decode cX8_party 5 = .ok (.iload_n 1, 1) := by decide +kernel
theorem dX8_party_6 : decode cX8_party 6 = .ok (.iconst 0, 1) := by decide +kernel
theorem dX8_party_7 : decode cX8_party 7 = .ok (.iconst 3, 1) := by decide +kernel
theorem dX8_party_8 : decode cX8_party 8 = .ok (.invokestatic 34, 3) := by decide +kernel
theorem dX8_party_11 : decode cX8_party 11 = .ok (.ifCond .eq 21, 3) := by decide +kernel
theorem dX8_party_14 : decode cX8_party 14 = .ok (.iload_n 2, 1) := by decide +kernel
theorem dX8_party_15 : decode cX8_party 15 = .ok (.iconst 0, 1) := by decide +kernel
theorem dX8_party_16 : decode cX8_party 16 = .ok (.iconst 1, 1) := by decide +kernel
theorem dX8_party_17 : decode cX8_party 17 = .ok (.invokestatic 34, 3) := by decide +kernel
theorem dX8_party_20 : decode cX8_party 20 = .ok (.ifCond .eq 12, 3) := by decide +kernel
theorem dX8_party_23 : decode cX8_party 23 = .ok (.aload_n 0, 1) := by decide +kernel
theorem dX8_party_24 : decode cX8_party 24 = .ok (.iload_n 1, 1) := by decide +kernel
theorem dX8_party_25 : decode cX8_party 25 = .ok (.iload_n 2, 1) := by decide +kernel
theorem dX8_party_26 : decode cX8_party 26 = .ok (.invokevirtual 135, 3) := by decide +kernel
theorem dX8_party_29 : decode cX8_party 29 = .ok (.goto 8, 3) := by decide +kernel
theorem dX8_party_32 : decode cX8_party 32 = .ok (.aload_n 0, 1) := by decide +kernel
theorem dX8_party_33 : decode cX8_party 33 = .ok (.iconst 1, 1) := by decide +kernel
theorem dX8_party_34 : decode cX8_party 34 = .ok (.invokevirtual 38, 3) := by decide +kernel
theorem dX8_party_37 : decode cX8_party 37 = .ok (.ireturn, 1) := by decide +kernel
theorem dX8_coalition_0 : decode cX8_coalition 0 = .ok (.aload_n 0, 1) := by decide +kernel
theorem dX8_coalition_1 : decode cX8_coalition 1 = .ok (.iconst 0, 1) := by decide +kernel
theorem dX8_coalition_2 : decode cX8_coalition 2 = .ok (.putfield 19, 3) := by decide +kernel
theorem dX8_coalition_5 : decode cX8_coalition 5 = .ok (.aload_n 0, 1) := by decide +kernel
theorem dX8_coalition_6 : decode cX8_coalition 6 = .ok (.iconst 5, 1) := by decide +kernel
theorem dX8_coalition_7 : decode cX8_coalition 7 = .ok (.invokevirtual 132, 3) := by decide +kernel
theorem dX8_coalition_10 : decode cX8_coalition 10 = .ok (.istore_n 1, 1) := by decide +kernel
theorem dX8_coalition_11 : decode cX8_coalition 11 = .ok (.iconst 0, 1) := by decide +kernel
theorem dX8_coalition_12 : decode cX8_coalition 12 = .ok (.istore_n 2, 1) := by decide +kernel
theorem dX8_coalition_13 : decode cX8_coalition 13 = .ok (.iconst 0, 1) := by decide +kernel
theorem dX8_coalition_14 : decode cX8_coalition 14 = .ok (.istore_n 3, 1) := by decide +kernel
theorem dX8_coalition_15 : decode cX8_coalition 15 = .ok (.iconst 1, 1) := by decide +kernel
theorem dX8_coalition_16 : decode cX8_coalition 16 = .ok (.istore 4, 2) := by decide +kernel
theorem dX8_coalition_18 : decode cX8_coalition 18 = .ok (.iload 4, 2) := by decide +kernel
theorem dX8_coalition_20 : decode cX8_coalition 20 = .ok (.bipush 16, 2) := by decide +kernel
theorem dX8_coalition_22 : decode cX8_coalition 22 = .ok (.if_icmp .ge 110, 3) := by decide +kernel
theorem dX8_coalition_25 : decode cX8_coalition 25 = .ok (.iload_n 1, 1) := by decide +kernel
theorem dX8_coalition_26 : decode cX8_coalition 26 = .ok (.ifCond .le 106, 3) := by decide +kernel
theorem dX8_coalition_29 : decode cX8_coalition 29 = .ok (.iconst 0, 1) := by decide +kernel
theorem dX8_coalition_30 : decode cX8_coalition 30 = .ok (.istore 5, 2) := by decide +kernel
theorem dX8_coalition_32 : decode cX8_coalition 32 = .ok (.iconst 0, 1) := by decide +kernel
theorem dX8_coalition_33 : decode cX8_coalition 33 = .ok (.istore 6, 2) := by decide +kernel
theorem dX8_coalition_35 : decode cX8_coalition 35 = .ok (.iload 6, 2) := by decide +kernel
theorem dX8_coalition_37 : decode cX8_coalition 37 = .ok (.iconst 4, 1) := by decide +kernel
theorem dX8_coalition_38 : decode cX8_coalition 38 = .ok (.if_icmp .ge 36, 3) := by decide +kernel
theorem dX8_coalition_41 : decode cX8_coalition 41 = .ok (.iload 5, 2) := by decide +kernel
theorem dX8_coalition_43 : decode cX8_coalition 43 = .ok (.iload 4, 2) := by decide +kernel
theorem dX8_coalition_45 : decode cX8_coalition 45 = .ok (.iload 6, 2) := by decide +kernel
theorem dX8_coalition_47 : decode cX8_coalition 47 = .ok (.ishr, 1) := by decide +kernel
theorem dX8_coalition_48 : decode cX8_coalition 48 = .ok (.iconst 1, 1) := by decide +kernel
theorem dX8_coalition_49 : decode cX8_coalition 49 = .ok (.iand, 1) := by decide +kernel
theorem dX8_coalition_50 : decode cX8_coalition 50 = .ok (.iconst 1, 1) := by decide +kernel
theorem dX8_coalition_51 : decode cX8_coalition 51 = .ok (.if_icmp .ne 13, 3) := by decide +kernel
theorem dX8_coalition_54 : decode cX8_coalition 54 = .ok (.aload_n 0, 1) := by decide +kernel
theorem dX8_coalition_55 : decode cX8_coalition 55 = .ok (.iload 6, 2) := by decide +kernel
theorem dX8_coalition_57 : decode cX8_coalition 57 = .ok (.iconst 1, 1) := by decide +kernel
theorem dX8_coalition_58 : decode cX8_coalition 58 = .ok (.invokevirtual 135, 3) := by decide +kernel
theorem dX8_coalition_61 : decode cX8_coalition 61 = .ok (.goto 4, 3) := by decide +kernel
theorem dX8_coalition_64 : decode cX8_coalition 64 = .ok (.iconst 0, 1) := by decide +kernel
theorem dX8_coalition_65 : decode cX8_coalition 65 = .ok (.iadd, 1) := by decide +kernel
theorem dX8_coalition_66 : decode cX8_coalition 66 = .ok (.istore 5, 2) := by decide +kernel
theorem dX8_coalition_68 : decode cX8_coalition 68 = .ok (.iinc 6 1, 3) := by decide +kernel
theorem dX8_coalition_71 : decode cX8_coalition 71 = .ok (.goto (-36), 3) := by decide +kernel
theorem dX8_coalition_74 : decode cX8_coalition 74 = .ok (.iconst 2, 1) := by decide +kernel
theorem dX8_coalition_75 : decode cX8_coalition 75 = .ok (.iload 5, 2) := by decide +kernel
theorem dX8_coalition_77 : decode cX8_coalition 77 = .ok (.imul, 1) := by decide +kernel
theorem dX8_coalition_78 : decode cX8_coalition 78 = .ok (.iload_n 1, 1) := by decide +kernel
theorem dX8_coalition_79 : decode cX8_coalition 79 = .ok (.if_icmp .gt 6, 3) := by decide +kernel
theorem dX8_coalition_82 : decode cX8_coalition 82 = .ok (.goto 44, 3) := by decide +kernel
theorem dX8_coalition_85 : decode cX8_coalition 85 = .ok (.iload_n 2, 1) := by decide +kernel
theorem dX8_coalition_86 : decode cX8_coalition 86 = .ok (.invokestatic 138, 3) := by decide +kernel
theorem dX8_coalition_89 : decode cX8_coalition 89 = .ok (.iload 4, 2) := by decide +kernel
theorem dX8_coalition_91 : decode cX8_coalition 91 = .ok (.invokestatic 138, 3) := by decide +kernel
theorem dX8_coalition_94 : decode cX8_coalition 94 = .ok (.isub, 1) := by decide +kernel
theorem dX8_coalition_95 : decode cX8_coalition 95 = .ok (.istore 6, 2) := by decide +kernel
theorem dX8_coalition_97 : decode cX8_coalition 97 = .ok (.iload_n 2, 1) := by decide +kernel
theorem dX8_coalition_98 : decode cX8_coalition 98 = .ok (.ifCond .eq 22, 3) := by decide +kernel
theorem dX8_coalition_101 : decode cX8_coalition 101 = .ok (.iload 6, 2) := by decide +kernel
theorem dX8_coalition_103 : decode cX8_coalition 103 = .ok (.ifCond .lt 23, 3) := by decide +kernel
theorem dX8_coalition_106 : decode cX8_coalition 106 = .ok (.iload 6, 2) := by decide +kernel
theorem dX8_coalition_108 : decode cX8_coalition 108 = .ok (.ifCond .ne 12, 3) := by decide +kernel
theorem dX8_coalition_111 : decode cX8_coalition 111 = .ok (.iload 5, 2) := by decide +kernel
theorem dX8_coalition_113 : decode cX8_coalition 113 = .ok (.iload_n 3, 1) := by decide +kernel
theorem dX8_coalition_114 : decode cX8_coalition 114 = .ok (.if_icmp .gt 6, 3) := by decide +kernel
theorem dX8_coalition_117 : decode cX8_coalition 117 = .ok (.goto 9, 3) := by decide +kernel
theorem dX8_coalition_120 : decode cX8_coalition 120 = .ok (.iload 4, 2) := by decide +kernel
theorem dX8_coalition_122 : decode cX8_coalition 122 = .ok (.istore_n 2, 1) := by decide +kernel
theorem dX8_coalition_123 : decode cX8_coalition 123 = .ok (.iload 5, 2) := by decide +kernel
theorem dX8_coalition_125 : decode cX8_coalition 125 = .ok (.istore_n 3, 1) := by decide +kernel
theorem dX8_coalition_126 : decode cX8_coalition 126 = .ok (.iinc 4 1, 3) := by decide +kernel
theorem dX8_coalition_129 : decode cX8_coalition 129 = .ok (.goto (-111), 3) := by decide +kernel
theorem dX8_coalition_132 : decode cX8_coalition 132 = .ok (.iload_n 2, 1) := by decide +kernel
theorem dX8_coalition_133 : decode cX8_coalition 133 = .ok (.ireturn, 1) := by decide +kernel
theorem dX8_foresee_0 : decode cX8_foresee 0 = .ok (.aload_n 0, 1) := by decide +kernel
theorem dX8_foresee_1 : decode cX8_foresee 1 = .ok (.iconst 0, 1) := by decide +kernel
theorem dX8_foresee_2 : decode cX8_foresee 2 = .ok (.putfield 19, 3) := by decide +kernel
theorem dX8_foresee_5 : decode cX8_foresee 5 = .ok (.aload_n 0, 1) := by decide +kernel
theorem dX8_foresee_6 : decode cX8_foresee 6 = .ok (.iload_n 1, 1) := by decide +kernel
theorem dX8_foresee_7 : decode cX8_foresee 7 = .ok (.invokevirtual 68, 3) := by decide +kernel
theorem dX8_foresee_10 : decode cX8_foresee 10 = .ok (.ifCond .ne 9, 3) := by decide +kernel
theorem dX8_foresee_13 : decode cX8_foresee 13 = .ok (.aload_n 0, 1) := by decide +kernel
theorem dX8_foresee_14 : decode cX8_foresee 14 = .ok (.iconst 1, 1) := by decide +kernel
theorem dX8_foresee_15 : decode cX8_foresee 15 = .ok (.invokevirtual 38, 3) := by decide +kernel
theorem dX8_foresee_18 : decode cX8_foresee 18 = .ok (.ireturn, 1) := by decide +kernel
theorem dX8_foresee_19 : decode cX8_foresee 19 = .ok (.iload_n 2, 1) := by decide +kernel
theorem dX8_foresee_20 : decode cX8_foresee 20 = .ok (.iconst 0, 1) := by decide +kernel
theorem dX8_foresee_21 : decode cX8_foresee 21 = .ok (.bipush 100, 2) := by decide +kernel
theorem dX8_foresee_23 : decode cX8_foresee 23 = .ok (.invokestatic 34, 3) := by decide +kernel
theorem dX8_foresee_26 : decode cX8_foresee 26 = .ok (.ifCond .ne 9, 3) := by decide +kernel
theorem dX8_foresee_29 : decode cX8_foresee 29 = .ok (.aload_n 0, 1) := by decide +kernel
theorem dX8_foresee_30 : decode cX8_foresee 30 = .ok (.iconst 2, 1) := by decide +kernel
theorem dX8_foresee_31 : decode cX8_foresee 31 = .ok (.invokevirtual 38, 3) := by decide +kernel
theorem dX8_foresee_34 : decode cX8_foresee 34 = .ok (.ireturn, 1) := by decide +kernel
theorem dX8_foresee_35 : decode cX8_foresee 35 = .ok (.aload_n 0, 1) := by decide +kernel
theorem dX8_foresee_36 : decode cX8_foresee 36 = .ok (.getfield 10, 3) := by decide +kernel
theorem dX8_foresee_39 : decode cX8_foresee 39 = .ok (.getfield 104, 3) := by decide +kernel
theorem dX8_foresee_42 : decode cX8_foresee 42 = .ok (.iload_n 2, 1) := by decide +kernel
theorem dX8_foresee_43 : decode cX8_foresee 43 = .ok (.iadd, 1) := by decide +kernel
theorem dX8_foresee_44 : decode cX8_foresee 44 = .ok (.sipush 2000, 3) := by decide +kernel
theorem dX8_foresee_47 : decode cX8_foresee 47 = .ok (.if_icmp .le 9, 3) := by decide +kernel
theorem dX8_foresee_50 : decode cX8_foresee 50 = .ok (.aload_n 0, 1) := by decide +kernel
theorem dX8_foresee_51 : decode cX8_foresee 51 = .ok (.iconst 3, 1) := by decide +kernel
theorem dX8_foresee_52 : decode cX8_foresee 52 = .ok (.invokevirtual 38, 3) := by decide +kernel
theorem dX8_foresee_55 : decode cX8_foresee 55 = .ok (.ireturn, 1) := by decide +kernel
theorem dX8_foresee_56 : decode cX8_foresee 56 = .ok (.aload_n 0, 1) := by decide +kernel
theorem dX8_foresee_57 : decode cX8_foresee 57 = .ok (.getfield 16, 3) := by decide +kernel
theorem dX8_foresee_60 : decode cX8_foresee 60 = .ok (.aload_n 0, 1) := by decide +kernel
theorem dX8_foresee_61 : decode cX8_foresee 61 = .ok (.getfield 10, 3) := by decide +kernel
theorem dX8_foresee_64 : decode cX8_foresee 64 = .ok (.invokevirtual 143, 3) := by decide +kernel
theorem dX8_foresee_67 : decode cX8_foresee 67 = .ok (.iconst 0, 1) := by decide +kernel
theorem dX8_foresee_68 : decode cX8_foresee 68 = .ok (.istore_n 3, 1) := by decide +kernel
theorem dX8_foresee_69 : decode cX8_foresee 69 = .ok (.iload_n 3, 1) := by decide +kernel
theorem dX8_foresee_70 : decode cX8_foresee 70 = .ok (.iload_n 2, 1) := by decide +kernel
theorem dX8_foresee_71 : decode cX8_foresee 71 = .ok (.if_icmp .ge 17, 3) := by decide +kernel
theorem dX8_foresee_74 : decode cX8_foresee 74 = .ok (.aload_n 0, 1) := by decide +kernel
theorem dX8_foresee_75 : decode cX8_foresee 75 = .ok (.getfield 16, 3) := by decide +kernel
theorem dX8_foresee_78 : decode cX8_foresee 78 = .ok (.invokevirtual 125, 3) := by decide +kernel
theorem dX8_foresee_81 : decode cX8_foresee 81 = .ok (.pop, 1) := by decide +kernel
theorem dX8_foresee_82 : decode cX8_foresee 82 = .ok (.iinc 3 1, 3) := by decide +kernel
theorem dX8_foresee_85 : decode cX8_foresee 85 = .ok (.goto (-16), 3) := by decide +kernel
theorem dX8_foresee_88 : decode cX8_foresee 88 = .ok (.aload_n 0, 1) := by decide +kernel
theorem dX8_foresee_89 : decode cX8_foresee 89 = .ok (.getfield 16, 3) := by decide +kernel
theorem dX8_foresee_92 : decode cX8_foresee 92 = .ok (.iload_n 1, 1) := by decide +kernel
theorem dX8_foresee_93 : decode cX8_foresee 93 = .ok (.bipush 6, 2) := by decide +kernel
theorem dX8_foresee_95 : decode cX8_foresee 95 = .ok (.invokevirtual 56, 3) := by decide +kernel
theorem dX8_foresee_98 : decode cX8_foresee 98 = .ok (.ireturn, 1) := by decide +kernel
theorem dX8_first_0 : decode cX8_first 0 = .ok (.aload_n 0, 1) := by decide +kernel
theorem dX8_first_1 : decode cX8_first 1 = .ok (.getfield 16, 3) := by decide +kernel
theorem dX8_first_4 : decode cX8_first 4 = .ok (.aload_n 0, 1) := by decide +kernel
theorem dX8_first_5 : decode cX8_first 5 = .ok (.getfield 10, 3) := by decide +kernel
theorem dX8_first_8 : decode cX8_first 8 = .ok (.invokevirtual 143, 3) := by decide +kernel
theorem dX8_first_11 : decode cX8_first 11 = .ok (.iload_n 3, 1) := by decide +kernel
theorem dX8_first_12 : decode cX8_first 12 = .ok (.iconst (-1), 1) := by decide +kernel
theorem dX8_first_13 : decode cX8_first 13 = .ok (.if_icmp .eq 11, 3) := by decide +kernel
theorem dX8_first_16 : decode cX8_first 16 = .ok (.aload_n 0, 1) := by decide +kernel
theorem dX8_first_17 : decode cX8_first 17 = .ok (.getfield 16, 3) := by decide +kernel
theorem dX8_first_20 : decode cX8_first 20 = .ok (.iload_n 3, 1) := by decide +kernel
theorem dX8_first_21 : decode cX8_first 21 = .ok (.invokevirtual 72, 3) := by decide +kernel
theorem dX8_first_24 : decode cX8_first 24 = .ok (.iconst 0, 1) := by decide +kernel
theorem dX8_first_25 : decode cX8_first 25 = .ok (.istore 4, 2) := by decide +kernel
theorem dX8_first_27 : decode cX8_first 27 = .ok (.iload 4, 2) := by decide +kernel
theorem dX8_first_29 : decode cX8_first 29 = .ok (.iload_n 2, 1) := by decide +kernel
theorem dX8_first_30 : decode cX8_first 30 = .ok (.if_icmp .ge 43, 3) := by decide +kernel
theorem dX8_first_33 : decode cX8_first 33 = .ok (.aload_n 0, 1) := by decide +kernel
theorem dX8_first_34 : decode cX8_first 34 = .ok (.getfield 16, 3) := by decide +kernel
theorem dX8_first_37 : decode cX8_first 37 = .ok (.invokevirtual 147, 3) := by decide +kernel
theorem dX8_first_40 : decode cX8_first 40 = .ok (.aload_n 0, 1) := by decide +kernel
theorem dX8_first_41 : decode cX8_first 41 = .ok (.getfield 16, 3) := by decide +kernel
theorem dX8_first_44 : decode cX8_first 44 = .ok (.iload_n 1, 1) := by decide +kernel
theorem dX8_first_45 : decode cX8_first 45 = .ok (.invokevirtual 116, 3) := by decide +kernel
theorem dX8_first_48 : decode cX8_first 48 = .ok (.ifCond .eq 11, 3) := by decide +kernel
theorem dX8_first_51 : decode cX8_first 51 = .ok (.aload_n 0, 1) := by decide +kernel
theorem dX8_first_52 : decode cX8_first 52 = .ok (.getfield 16, 3) := by decide +kernel
theorem dX8_first_55 : decode cX8_first 55 = .ok (.getfield 104, 3) := by decide +kernel
theorem dX8_first_58 : decode cX8_first 58 = .ok (.ireturn, 1) := by decide +kernel
theorem dX8_first_59 : decode cX8_first 59 = .ok (.aload_n 0, 1) := by decide +kernel
theorem dX8_first_60 : decode cX8_first 60 = .ok (.getfield 16, 3) := by decide +kernel
theorem dX8_first_63 : decode cX8_first 63 = .ok (.invokevirtual 150, 3) := by decide +kernel
theorem dX8_first_66 : decode cX8_first 66 = .ok (.pop, 1) := by decide +kernel
theorem dX8_first_67 : decode cX8_first 67 = .ok (.iinc 4 1, 3) := by decide +kernel
theorem dX8_first_70 : decode cX8_first 70 = .ok (.goto (-43), 3) := by decide +kernel
theorem dX8_first_73 : decode cX8_first 73 = .ok (.iconst (-1), 1) := by decide +kernel
theorem dX8_first_74 : decode cX8_first 74 = .ok (.ireturn, 1) := by decide +kernel
theorem dX8_passes_0 : decode cX8_passes 0 = .ok (.aload_n 0, 1) := by decide +kernel
theorem dX8_passes_1 : decode cX8_passes 1 = .ok (.iconst 0, 1) := by decide +kernel
theorem dX8_passes_2 : decode cX8_passes 2 = .ok (.putfield 19, 3) := by decide +kernel
theorem dX8_passes_5 : decode cX8_passes 5 = .ok (.aload_n 0, 1) := by decide +kernel
theorem dX8_passes_6 : decode cX8_passes 6 = .ok (.iload_n 1, 1) := by decide +kernel
theorem dX8_passes_7 : decode cX8_passes 7 = .ok (.invokevirtual 101, 3) := by decide +kernel
theorem dX8_passes_10 : decode cX8_passes 10 = .ok (.ifCond .ne 9, 3) := by decide +kernel
theorem dX8_passes_13 : decode cX8_passes 13 = .ok (.aload_n 0, 1) := by decide +kernel
theorem dX8_passes_14 : decode cX8_passes 14 = .ok (.iconst 1, 1) := by decide +kernel
theorem dX8_passes_15 : decode cX8_passes 15 = .ok (.invokevirtual 38, 3) := by decide +kernel
theorem dX8_passes_18 : decode cX8_passes 18 = .ok (.ireturn, 1) := by decide +kernel
theorem dX8_passes_19 : decode cX8_passes 19 = .ok (.iload_n 2, 1) := by decide +kernel
theorem dX8_passes_20 : decode cX8_passes 20 = .ok (.iconst 1, 1) := by decide +kernel
theorem dX8_passes_21 : decode cX8_passes 21 = .ok (.bipush 100, 2) := by decide +kernel
theorem dX8_passes_23 : decode cX8_passes 23 = .ok (.invokestatic 34, 3) := by decide +kernel
theorem dX8_passes_26 : decode cX8_passes 26 = .ok (.ifCond .ne 9, 3) := by decide +kernel
theorem dX8_passes_29 : decode cX8_passes 29 = .ok (.aload_n 0, 1) := by decide +kernel
theorem dX8_passes_30 : decode cX8_passes 30 = .ok (.iconst 2, 1) := by decide +kernel
theorem dX8_passes_31 : decode cX8_passes 31 = .ok (.invokevirtual 38, 3) := by decide +kernel
theorem dX8_passes_34 : decode cX8_passes 34 = .ok (.ireturn, 1) := by decide +kernel
theorem dX8_passes_35 : decode cX8_passes 35 = .ok (.aload_n 0, 1) := by decide +kernel
theorem dX8_passes_36 : decode cX8_passes 36 = .ok (.getfield 10, 3) := by decide +kernel
theorem dX8_passes_39 : decode cX8_passes 39 = .ok (.getfield 104, 3) := by decide +kernel
theorem dX8_passes_42 : decode cX8_passes 42 = .ok (.iload_n 2, 1) := by decide +kernel
theorem dX8_passes_43 : decode cX8_passes 43 = .ok (.iadd, 1) := by decide +kernel
theorem dX8_passes_44 : decode cX8_passes 44 = .ok (.sipush 2000, 3) := by decide +kernel
theorem dX8_passes_47 : decode cX8_passes 47 = .ok (.if_icmp .le 11, 3) := by decide +kernel
theorem dX8_passes_50 : decode cX8_passes 50 = .ok (.aload_n 0, 1) := by decide +kernel
theorem dX8_passes_51 : decode cX8_passes 51 = .ok (.iconst 3, 1) := by decide +kernel
theorem dX8_passes_52 : decode cX8_passes 52 = .ok (.invokevirtual 38, 3) := by decide +kernel
theorem dX8_passes_55 : decode cX8_passes 55 = .ok (.goto 10, 3) := by decide +kernel
theorem dX8_passes_58 : decode cX8_passes 58 = .ok (.aload_n 0, 1) := by decide +kernel
theorem dX8_passes_59 : decode cX8_passes 59 = .ok (.iload_n 1, 1) := by decide +kernel
theorem dX8_passes_60 : decode cX8_passes 60 = .ok (.iload_n 2, 1) := by decide +kernel
theorem dX8_passes_61 : decode cX8_passes 61 = .ok (.iconst (-1), 1) := by decide +kernel
theorem dX8_passes_62 : decode cX8_passes 62 = .ok (.invokevirtual 153, 3) := by decide +kernel
theorem dX8_passes_65 : decode cX8_passes 65 = .ok (.ireturn, 1) := by decide +kernel
theorem dX8_advise_0 : decode cX8_advise 0 = .ok (.aload_n 0, 1) := by decide +kernel
theorem dX8_advise_1 : decode cX8_advise 1 = .ok (.iconst 0, 1) := by decide +kernel
theorem dX8_advise_2 : decode cX8_advise 2 = .ok (.putfield 19, 3) := by decide +kernel
theorem dX8_advise_5 : decode cX8_advise 5 = .ok (.aload_n 0, 1) := by decide +kernel
theorem dX8_advise_6 : decode cX8_advise 6 = .ok (.iload_n 1, 1) := by decide +kernel
theorem dX8_advise_7 : decode cX8_advise 7 = .ok (.invokevirtual 101, 3) := by decide +kernel
theorem dX8_advise_10 : decode cX8_advise 10 = .ok (.ifCond .ne 9, 3) := by decide +kernel
theorem dX8_advise_13 : decode cX8_advise 13 = .ok (.aload_n 0, 1) := by decide +kernel
theorem dX8_advise_14 : decode cX8_advise 14 = .ok (.iconst 1, 1) := by decide +kernel
theorem dX8_advise_15 : decode cX8_advise 15 = .ok (.invokevirtual 38, 3) := by decide +kernel
theorem dX8_advise_18 : decode cX8_advise 18 = .ok (.ireturn, 1) := by decide +kernel
theorem dX8_advise_19 : decode cX8_advise 19 = .ok (.iload_n 2, 1) := by decide +kernel
theorem dX8_advise_20 : decode cX8_advise 20 = .ok (.iconst 1, 1) := by decide +kernel
theorem dX8_advise_21 : decode cX8_advise 21 = .ok (.bipush 50, 2) := by decide +kernel
theorem dX8_advise_23 : decode cX8_advise 23 = .ok (.invokestatic 34, 3) := by decide +kernel
theorem dX8_advise_26 : decode cX8_advise 26 = .ok (.ifCond .ne 9, 3) := by decide +kernel
theorem dX8_advise_29 : decode cX8_advise 29 = .ok (.aload_n 0, 1) := by decide +kernel
theorem dX8_advise_30 : decode cX8_advise 30 = .ok (.iconst 2, 1) := by decide +kernel
theorem dX8_advise_31 : decode cX8_advise 31 = .ok (.invokevirtual 38, 3) := by decide +kernel
theorem dX8_advise_34 : decode cX8_advise 34 = .ok (.ireturn, 1) := by decide +kernel
theorem dX8_advise_35 : decode cX8_advise 35 = .ok (.aload_n 0, 1) := by decide +kernel
theorem dX8_advise_36 : decode cX8_advise 36 = .ok (.getfield 10, 3) := by decide +kernel
theorem dX8_advise_39 : decode cX8_advise 39 = .ok (.getfield 104, 3) := by decide +kernel
theorem dX8_advise_42 : decode cX8_advise 42 = .ok (.iload_n 2, 1) := by decide +kernel
theorem dX8_advise_43 : decode cX8_advise 43 = .ok (.iadd, 1) := by decide +kernel
theorem dX8_advise_44 : decode cX8_advise 44 = .ok (.sipush 2000, 3) := by decide +kernel
theorem dX8_advise_47 : decode cX8_advise 47 = .ok (.if_icmp .le 9, 3) := by decide +kernel
theorem dX8_advise_50 : decode cX8_advise 50 = .ok (.aload_n 0, 1) := by decide +kernel
theorem dX8_advise_51 : decode cX8_advise 51 = .ok (.iconst 3, 1) := by decide +kernel
theorem dX8_advise_52 : decode cX8_advise 52 = .ok (.invokevirtual 38, 3) := by decide +kernel
theorem dX8_advise_55 : decode cX8_advise 55 = .ok (.ireturn, 1) := by decide +kernel
theorem dX8_advise_56 : decode cX8_advise 56 = .ok (.iconst (-1), 1) := by decide +kernel
theorem dX8_advise_57 : decode cX8_advise 57 = .ok (.istore_n 3, 1) := by decide +kernel
theorem dX8_advise_58 : decode cX8_advise 58 = .ok (.aload_n 0, 1) := by decide +kernel
theorem dX8_advise_59 : decode cX8_advise 59 = .ok (.iload_n 1, 1) := by decide +kernel
theorem dX8_advise_60 : decode cX8_advise 60 = .ok (.iload_n 2, 1) := by decide +kernel
theorem dX8_advise_61 : decode cX8_advise 61 = .ok (.iconst (-1), 1) := by decide +kernel
theorem dX8_advise_62 : decode cX8_advise 62 = .ok (.invokevirtual 153, 3) := by decide +kernel
theorem dX8_advise_65 : decode cX8_advise 65 = .ok (.istore 4, 2) := by decide +kernel
theorem dX8_advise_67 : decode cX8_advise 67 = .ok (.iconst 0, 1) := by decide +kernel
theorem dX8_advise_68 : decode cX8_advise 68 = .ok (.istore 5, 2) := by decide +kernel
theorem dX8_advise_70 : decode cX8_advise 70 = .ok (.iload 5, 2) := by decide +kernel
theorem dX8_advise_72 : decode cX8_advise 72 = .ok (.aload_n 0, 1) := by decide +kernel
theorem dX8_advise_73 : decode cX8_advise 73 = .ok (.getfield 10, 3) := by decide +kernel
theorem dX8_advise_76 : decode cX8_advise 76 = .ok (.getfield 53, 3) := by decide +kernel
theorem dX8_advise_79 : decode cX8_advise 79 = .ok (.if_icmp .ge 48, 3) := by decide +kernel
theorem dX8_advise_82 : decode cX8_advise 82 = .ok (.aload_n 0, 1) := by decide +kernel
theorem dX8_advise_83 : decode cX8_advise 83 = .ok (.iload_n 1, 1) := by decide +kernel
theorem dX8_advise_84 : decode cX8_advise 84 = .ok (.iload_n 2, 1) := by decide +kernel
theorem dX8_advise_85 : decode cX8_advise 85 = .ok (.iload 5, 2) := by decide +kernel
theorem dX8_advise_87 : decode cX8_advise 87 = .ok (.invokevirtual 153, 3) := by decide +kernel
theorem dX8_advise_90 : decode cX8_advise 90 = .ok (.istore 6, 2) := by decide +kernel
theorem dX8_advise_92 : decode cX8_advise 92 = .ok (.iload 6, 2) := by decide +kernel
theorem dX8_advise_94 : decode cX8_advise 94 = .ok (.iconst (-1), 1) := by decide +kernel
theorem dX8_advise_95 : decode cX8_advise 95 = .ok (.if_icmp .eq 26, 3) := by decide +kernel
theorem dX8_advise_98 : decode cX8_advise 98 = .ok (.iload 4, 2) := by decide +kernel
theorem dX8_advise_100 : decode cX8_advise 100 = .ok (.iconst (-1), 1) := by decide +kernel
theorem dX8_advise_101 : decode cX8_advise 101 = .ok (.if_icmp .eq 13, 3) := by decide +kernel
theorem dX8_advise_104 : decode cX8_advise 104 = .ok (.iload 6, 2) := by decide +kernel
theorem dX8_advise_106 : decode cX8_advise 106 = .ok (.iload 4, 2) := by decide +kernel
theorem dX8_advise_108 : decode cX8_advise 108 = .ok (.if_icmp .lt 6, 3) := by decide +kernel
theorem dX8_advise_111 : decode cX8_advise 111 = .ok (.goto 10, 3) := by decide +kernel
theorem dX8_advise_114 : decode cX8_advise 114 = .ok (.iload 6, 2) := by decide +kernel
theorem dX8_advise_116 : decode cX8_advise 116 = .ok (.istore 4, 2) := by decide +kernel
theorem dX8_advise_118 : decode cX8_advise 118 = .ok (.iload 5, 2) := by decide +kernel
theorem dX8_advise_120 : decode cX8_advise 120 = .ok (.istore_n 3, 1) := by decide +kernel
theorem dX8_advise_121 : decode cX8_advise 121 = .ok (.iinc 5 1, 3) := by decide +kernel
theorem dX8_advise_124 : decode cX8_advise 124 = .ok (.goto (-54), 3) := by decide +kernel
theorem dX8_advise_127 : decode cX8_advise 127 = .ok (.iload_n 3, 1) := by decide +kernel
theorem dX8_advise_128 : decode cX8_advise 128 = .ok (.ireturn, 1) := by decide +kernel
theorem dX8_discord_0 : decode cX8_discord 0 = .ok (.aload_n 0, 1) := by decide +kernel
theorem dX8_discord_1 : decode cX8_discord 1 = .ok (.iconst 0, 1) := by decide +kernel
theorem dX8_discord_2 : decode cX8_discord 2 = .ok (.putfield 19, 3) := by decide +kernel
theorem dX8_discord_5 : decode cX8_discord 5 = .ok (.iconst 0, 1) := by decide +kernel
theorem dX8_discord_6 : decode cX8_discord 6 = .ok (.istore_n 1, 1) := by decide +kernel
theorem dX8_discord_7 : decode cX8_discord 7 = .ok (.iconst 0, 1) := by decide +kernel
theorem dX8_discord_8 : decode cX8_discord 8 = .ok (.istore_n 2, 1) := by decide +kernel
theorem dX8_discord_9 : decode cX8_discord 9 = .ok (.iload_n 2, 1) := by decide +kernel
theorem dX8_discord_10 : decode cX8_discord 10 = .ok (.aload_n 0, 1) := by decide +kernel
theorem dX8_discord_11 : decode cX8_discord 11 = .ok (.getfield 10, 3) := by decide +kernel
theorem dX8_discord_14 : decode cX8_discord 14 = .ok (.getfield 53, 3) := by decide +kernel
theorem dX8_discord_17 : decode cX8_discord 17 = .ok (.if_icmp .ge 43, 3) := by decide +kernel
theorem dX8_discord_20 : decode cX8_discord 20 = .ok (.iload_n 1, 1) := by decide +kernel
theorem dX8_discord_21 : decode cX8_discord 21 = .ok (.aload_n 0, 1) := by decide +kernel
theorem dX8_discord_22 : decode cX8_discord 22 = .ok (.getfield 10, 3) := by decide +kernel
theorem dX8_discord_25 : decode cX8_discord 25 = .ok (.iload_n 2, 1) := by decide +kernel
theorem dX8_discord_26 : decode cX8_discord 26 = .ok (.bipush 6, 2) := by decide +kernel
theorem dX8_discord_28 : decode cX8_discord 28 = .ok (.invokevirtual 56, 3) := by decide +kernel
theorem dX8_discord_31 : decode cX8_discord 31 = .ok (.aload_n 0, 1) := by decide +kernel
theorem dX8_discord_32 : decode cX8_discord 32 = .ok (.getfield 10, 3) := by decide +kernel
theorem dX8_discord_35 : decode cX8_discord 35 = .ok (.getfield 23, 3) := by decide +kernel
theorem dX8_discord_38 : decode cX8_discord 38 = .ok (.aload_n 0, 1) := by decide +kernel
theorem dX8_discord_39 : decode cX8_discord 39 = .ok (.getfield 10, 3) := by decide +kernel
theorem dX8_discord_42 : decode cX8_discord 42 = .ok (.invokevirtual 157, 3) := by decide +kernel
theorem dX8_discord_45 : decode cX8_discord 45 = .ok (.iaload, 1) := by decide +kernel
theorem dX8_discord_46 : decode cX8_discord 46 = .ok (.invokestatic 92, 3) := by decide +kernel
theorem dX8_discord_49 : decode cX8_discord 49 = .ok (.invokestatic 160, 3) := by decide +kernel
theorem dX8_discord_52 : decode cX8_discord 52 = .ok (.iadd, 1) := by decide +kernel
theorem dX8_discord_53 : decode cX8_discord 53 = .ok (.istore_n 1, 1) := by decide +kernel
theorem dX8_discord_54 : decode cX8_discord 54 = .ok (.iinc 2 1, 3) := by decide +kernel
theorem dX8_discord_57 : decode cX8_discord 57 = .ok (.goto (-48), 3) := by decide +kernel
theorem dX8_discord_60 : decode cX8_discord 60 = .ok (.aload_n 0, 1) := by decide +kernel
theorem dX8_discord_61 : decode cX8_discord 61 = .ok (.getfield 10, 3) := by decide +kernel
theorem dX8_discord_64 : decode cX8_discord 64 = .ok (.getfield 53, 3) := by decide +kernel
theorem dX8_discord_67 : decode cX8_discord 67 = .ok (.ifCond .ne 7, 3) := by decide +kernel
theorem dX8_discord_70 : decode cX8_discord 70 = .ok (.dconst 0, 1) := by decide +kernel
theorem dX8_discord_71 : decode cX8_discord 71 = .ok (.goto 14, 3) := by decide +kernel
theorem dX8_discord_74 : decode cX8_discord 74 = .ok (.iload_n 1, 1) := by decide +kernel
theorem dX8_discord_75 : decode cX8_discord 75 = .ok (.i2d, 1) := by decide +kernel
theorem dX8_discord_76 : decode cX8_discord 76 = .ok (.aload_n 0, 1) := by decide +kernel
theorem dX8_discord_77 : decode cX8_discord 77 = .ok (.getfield 10, 3) := by decide +kernel
theorem dX8_discord_80 : decode cX8_discord 80 = .ok (.getfield 53, 3) := by decide +kernel
theorem dX8_discord_83 : decode cX8_discord 83 = .ok (.i2d, 1) := by decide +kernel
theorem dX8_discord_84 : decode cX8_discord 84 = .ok (.ddiv, 1) := by decide +kernel
theorem dX8_discord_85 : decode cX8_discord 85 = .ok (.dreturn, 1) := by decide +kernel
theorem dX8_digest_0 : decode cX8_digest 0 = .ok (.aload_n 0, 1) := by decide +kernel
theorem dX8_digest_1 : decode cX8_digest 1 = .ok (.iconst 0, 1) := by decide +kernel
theorem dX8_digest_2 : decode cX8_digest 2 = .ok (.putfield 19, 3) := by decide +kernel
theorem dX8_digest_5 : decode cX8_digest 5 = .ok (.ldc2_w 165, 3) := by decide +kernel
theorem dX8_digest_8 : decode cX8_digest 8 = .ok (.lstore_n 1, 1) := by decide +kernel
theorem dX8_digest_9 : decode cX8_digest 9 = .ok (.iconst 0, 1) := by decide +kernel
theorem dX8_digest_10 : decode cX8_digest 10 = .ok (.istore_n 3, 1) := by decide +kernel
theorem dX8_digest_11 : decode cX8_digest 11 = .ok (.iload_n 3, 1) := by decide +kernel
theorem dX8_digest_12 : decode cX8_digest 12 = .ok (.bipush 9, 2) := by decide +kernel
theorem dX8_digest_14 : decode cX8_digest 14 = .ok (.if_icmp .ge 22, 3) := by decide +kernel
theorem dX8_digest_17 : decode cX8_digest 17 = .ok (.lload_n 1, 1) := by decide +kernel
theorem dX8_digest_18 : decode cX8_digest 18 = .ok (.ldc2_w 167, 3) := by decide +kernel
theorem dX8_digest_21 : decode cX8_digest 21 = .ok (.lmul, 1) := by decide +kernel
theorem dX8_digest_22 : decode cX8_digest 22 = .ok (.aload_n 0, 1) := by decide +kernel
theorem dX8_digest_23 : decode cX8_digest 23 = .ok (.iload_n 3, 1) := by decide +kernel
theorem dX8_digest_24 : decode cX8_digest 24 = .ok (.invokevirtual 132, 3) := by decide +kernel
theorem dX8_digest_27 : decode cX8_digest 27 = .ok (.i2l, 1) := by decide +kernel
theorem dX8_digest_28 : decode cX8_digest 28 = .ok (.ladd, 1) := by decide +kernel
theorem dX8_digest_29 : decode cX8_digest 29 = .ok (.lstore_n 1, 1) := by decide +kernel
theorem dX8_digest_30 : decode cX8_digest 30 = .ok (.iinc 3 1, 3) := by decide +kernel
theorem dX8_digest_33 : decode cX8_digest 33 = .ok (.goto (-22), 3) := by decide +kernel
theorem dX8_digest_36 : decode cX8_digest 36 = .ok (.iconst 0, 1) := by decide +kernel
theorem dX8_digest_37 : decode cX8_digest 37 = .ok (.istore_n 3, 1) := by decide +kernel
theorem dX8_digest_38 : decode cX8_digest 38 = .ok (.iload_n 3, 1) := by decide +kernel
theorem dX8_digest_39 : decode cX8_digest 39 = .ok (.aload_n 0, 1) := by decide +kernel
theorem dX8_digest_40 : decode cX8_digest 40 = .ok (.getfield 10, 3) := by decide +kernel
theorem dX8_digest_43 : decode cX8_digest 43 = .ok (.getfield 42, 3) := by decide +kernel
theorem dX8_digest_46 : decode cX8_digest 46 = .ok (.if_icmp .ge 39, 3) := by decide +kernel
theorem dX8_digest_49 : decode cX8_digest 49 = .ok (.iconst 0, 1) := by decide +kernel
theorem dX8_digest_50 : decode cX8_digest 50 = .ok (.istore 4, 2) := by decide +kernel
theorem dX8_digest_52 : decode cX8_digest 52 = .ok (.iload 4, 2) := by decide +kernel
theorem dX8_digest_54 : decode cX8_digest 54 = .ok (.iconst 3, 1) := by decide +kernel
theorem dX8_digest_55 : decode cX8_digest 55 = .ok (.if_icmp .ge 24, 3) := by decide +kernel
theorem dX8_digest_58 : decode cX8_digest 58 = .ok (.lload_n 1, 1) := by decide +kernel
theorem dX8_digest_59 : decode cX8_digest 59 = .ok (.ldc2_w 167, 3) := by decide +kernel
theorem dX8_digest_62 : decode cX8_digest 62 = .ok (.lmul, 1) := by decide +kernel
theorem dX8_digest_63 : decode cX8_digest 63 = .ok (.aload_n 0, 1) := by decide +kernel
theorem dX8_digest_64 : decode cX8_digest 64 = .ok (.iload_n 3, 1) := by decide +kernel
theorem dX8_digest_65 : decode cX8_digest 65 = .ok (.iload 4, 2) := by decide +kernel
theorem dX8_digest_67 : decode cX8_digest 67 = .ok (.invokevirtual 49, 3) := by decide +kernel
theorem dX8_digest_70 : decode cX8_digest 70 = .ok (.i2l, 1) := by decide +kernel
theorem dX8_digest_71 : decode cX8_digest 71 = .ok (.ladd, 1) := by decide +kernel
theorem dX8_digest_72 : decode cX8_digest 72 = .ok (.lstore_n 1, 1) := by decide +kernel
theorem dX8_digest_73 : decode cX8_digest 73 = .ok (.iinc 4 1, 3) := by decide +kernel
theorem dX8_digest_76 : decode cX8_digest 76 = .ok (.goto (-24), 3) := by decide +kernel
theorem dX8_digest_79 : decode cX8_digest 79 = .ok (.iinc 3 1, 3) := by decide +kernel
theorem dX8_digest_82 : decode cX8_digest 82 = .ok (.goto (-44), 3) := by decide +kernel
theorem dX8_digest_85 : decode cX8_digest 85 = .ok (.iconst 0, 1) := by decide +kernel
theorem dX8_digest_86 : decode cX8_digest 86 = .ok (.istore_n 3, 1) := by decide +kernel
theorem dX8_digest_87 : decode cX8_digest 87 = .ok (.iload_n 3, 1) := by decide +kernel
theorem dX8_digest_88 : decode cX8_digest 88 = .ok (.aload_n 0, 1) := by decide +kernel
theorem dX8_digest_89 : decode cX8_digest 89 = .ok (.getfield 10, 3) := by decide +kernel
theorem dX8_digest_92 : decode cX8_digest 92 = .ok (.getfield 53, 3) := by decide +kernel
theorem dX8_digest_95 : decode cX8_digest 95 = .ok (.if_icmp .ge 40, 3) := by decide +kernel
theorem dX8_digest_98 : decode cX8_digest 98 = .ok (.iconst 0, 1) := by decide +kernel
theorem dX8_digest_99 : decode cX8_digest 99 = .ok (.istore 4, 2) := by decide +kernel
theorem dX8_digest_101 : decode cX8_digest 101 = .ok (.iload 4, 2) := by decide +kernel
theorem dX8_digest_103 : decode cX8_digest 103 = .ok (.bipush 12, 2) := by decide +kernel
theorem dX8_digest_105 : decode cX8_digest 105 = .ok (.if_icmp .ge 24, 3) := by decide +kernel
theorem dX8_digest_108 : decode cX8_digest 108 = .ok (.lload_n 1, 1) := by decide +kernel
theorem dX8_digest_109 : decode cX8_digest 109 = .ok (.ldc2_w 167, 3) := by decide +kernel
theorem dX8_digest_112 : decode cX8_digest 112 = .ok (.lmul, 1) := by decide +kernel
theorem dX8_digest_113 : decode cX8_digest 113 = .ok (.aload_n 0, 1) := by decide +kernel
theorem dX8_digest_114 : decode cX8_digest 114 = .ok (.iload_n 3, 1) := by decide +kernel
theorem dX8_digest_115 : decode cX8_digest 115 = .ok (.iload 4, 2) := by decide +kernel
theorem dX8_digest_117 : decode cX8_digest 117 = .ok (.invokevirtual 89, 3) := by decide +kernel
theorem dX8_digest_120 : decode cX8_digest 120 = .ok (.i2l, 1) := by decide +kernel
theorem dX8_digest_121 : decode cX8_digest 121 = .ok (.ladd, 1) := by decide +kernel
theorem dX8_digest_122 : decode cX8_digest 122 = .ok (.lstore_n 1, 1) := by decide +kernel
theorem dX8_digest_123 : decode cX8_digest 123 = .ok (.iinc 4 1, 3) := by decide +kernel
theorem dX8_digest_126 : decode cX8_digest 126 = .ok (.goto (-25), 3) := by decide +kernel
theorem dX8_digest_129 : decode cX8_digest 129 = .ok (.iinc 3 1, 3) := by decide +kernel
theorem dX8_digest_132 : decode cX8_digest 132 = .ok (.goto (-45), 3) := by decide +kernel
theorem dX8_digest_135 : decode cX8_digest 135 = .ok (.iconst 0, 1) := by decide +kernel
theorem dX8_digest_136 : decode cX8_digest 136 = .ok (.istore_n 3, 1) := by decide +kernel
theorem dX8_digest_137 : decode cX8_digest 137 = .ok (.iload_n 3, 1) := by decide +kernel
theorem dX8_digest_138 : decode cX8_digest 138 = .ok (.aload_n 0, 1) := by decide +kernel
theorem dX8_digest_139 : decode cX8_digest 139 = .ok (.getfield 10, 3) := by decide +kernel
theorem dX8_digest_142 : decode cX8_digest 142 = .ok (.getfield 95, 3) := by decide +kernel
theorem dX8_digest_145 : decode cX8_digest 145 = .ok (.if_icmp .ge 40, 3) := by decide +kernel
theorem dX8_digest_148 : decode cX8_digest 148 = .ok (.iconst 0, 1) := by decide +kernel
theorem dX8_digest_149 : decode cX8_digest 149 = .ok (.istore 4, 2) := by decide +kernel
theorem dX8_digest_151 : decode cX8_digest 151 = .ok (.iload 4, 2) := by decide +kernel
theorem dX8_digest_153 : decode cX8_digest 153 = .ok (.bipush 9, 2) := by decide +kernel
theorem dX8_digest_155 : decode cX8_digest 155 = .ok (.if_icmp .ge 24, 3) := by decide +kernel
theorem dX8_digest_158 : decode cX8_digest 158 = .ok (.lload_n 1, 1) := by decide +kernel
theorem dX8_digest_159 : decode cX8_digest 159 = .ok (.ldc2_w 167, 3) := by decide +kernel
theorem dX8_digest_162 : decode cX8_digest 162 = .ok (.lmul, 1) := by decide +kernel
theorem dX8_digest_163 : decode cX8_digest 163 = .ok (.aload_n 0, 1) := by decide +kernel
theorem dX8_digest_164 : decode cX8_digest 164 = .ok (.iload_n 3, 1) := by decide +kernel
theorem dX8_digest_165 : decode cX8_digest 165 = .ok (.iload 4, 2) := by decide +kernel
theorem dX8_digest_167 : decode cX8_digest 167 = .ok (.invokevirtual 119, 3) := by decide +kernel
theorem dX8_digest_170 : decode cX8_digest 170 = .ok (.i2l, 1) := by decide +kernel
theorem dX8_digest_171 : decode cX8_digest 171 = .ok (.ladd, 1) := by decide +kernel
theorem dX8_digest_172 : decode cX8_digest 172 = .ok (.lstore_n 1, 1) := by decide +kernel
theorem dX8_digest_173 : decode cX8_digest 173 = .ok (.iinc 4 1, 3) := by decide +kernel
theorem dX8_digest_176 : decode cX8_digest 176 = .ok (.goto (-25), 3) := by decide +kernel
theorem dX8_digest_179 : decode cX8_digest 179 = .ok (.iinc 3 1, 3) := by decide +kernel
theorem dX8_digest_182 : decode cX8_digest 182 = .ok (.goto (-45), 3) := by decide +kernel
theorem dX8_digest_185 : decode cX8_digest 185 = .ok (.iconst 0, 1) := by decide +kernel
theorem dX8_digest_186 : decode cX8_digest 186 = .ok (.istore_n 3, 1) := by decide +kernel
theorem dX8_digest_187 : decode cX8_digest 187 = .ok (.iload_n 3, 1) := by decide +kernel
theorem dX8_digest_188 : decode cX8_digest 188 = .ok (.iconst 2, 1) := by decide +kernel
theorem dX8_digest_189 : decode cX8_digest 189 = .ok (.aload_n 0, 1) := by decide +kernel
theorem dX8_digest_190 : decode cX8_digest 190 = .ok (.getfield 10, 3) := by decide +kernel
theorem dX8_digest_193 : decode cX8_digest 193 = .ok (.getfield 107, 3) := by decide +kernel
theorem dX8_digest_196 : decode cX8_digest 196 = .ok (.imul, 1) := by decide +kernel
theorem dX8_digest_197 : decode cX8_digest 197 = .ok (.if_icmp .ge 26, 3) := by decide +kernel
theorem dX8_digest_200 : decode cX8_digest 200 = .ok (.lload_n 1, 1) := by decide +kernel
theorem dX8_digest_201 : decode cX8_digest 201 = .ok (.ldc2_w 167, 3) := by decide +kernel
theorem dX8_digest_204 : decode cX8_digest 204 = .ok (.lmul, 1) := by decide +kernel
theorem dX8_digest_205 : decode cX8_digest 205 = .ok (.aload_n 0, 1) := by decide +kernel
theorem dX8_digest_206 : decode cX8_digest 206 = .ok (.getfield 10, 3) := by decide +kernel
theorem dX8_digest_209 : decode cX8_digest 209 = .ok (.getfield 110, 3) := by decide +kernel
theorem dX8_digest_212 : decode cX8_digest 212 = .ok (.iload_n 3, 1) := by decide +kernel
theorem dX8_digest_213 : decode cX8_digest 213 = .ok (.iaload, 1) := by decide +kernel
theorem dX8_digest_214 : decode cX8_digest 214 = .ok (.i2l, 1) := by decide +kernel
theorem dX8_digest_215 : decode cX8_digest 215 = .ok (.ladd, 1) := by decide +kernel
theorem dX8_digest_216 : decode cX8_digest 216 = .ok (.lstore_n 1, 1) := by decide +kernel
theorem dX8_digest_217 : decode cX8_digest 217 = .ok (.iinc 3 1, 3) := by decide +kernel
theorem dX8_digest_220 : decode cX8_digest 220 = .ok (.goto (-33), 3) := by decide +kernel
theorem dX8_digest_223 : decode cX8_digest 223 = .ok (.lload_n 1, 1) := by decide +kernel
theorem dX8_digest_224 : decode cX8_digest 224 = .ok (.lreturn, 1) := by decide +kernel
theorem dJ6_bitCount_0f7a4_0 : decode cJ6_bitCount_0f7a4 0 = .ok (.iload_n 0, 1) := by decide +kernel
theorem dJ6_bitCount_0f7a4_1 : decode cJ6_bitCount_0f7a4 1 = .ok (.iload_n 0, 1) := by decide +kernel
theorem dJ6_bitCount_0f7a4_2 : decode cJ6_bitCount_0f7a4 2 = .ok (.iconst 1, 1) := by decide +kernel
theorem dJ6_bitCount_0f7a4_3 : decode cJ6_bitCount_0f7a4 3 = .ok (.iushr, 1) := by decide +kernel
theorem dJ6_bitCount_0f7a4_4 : decode cJ6_bitCount_0f7a4 4 = .ok (.ldc_w 265, 3) := by decide +kernel
theorem dJ6_bitCount_0f7a4_7 : decode cJ6_bitCount_0f7a4 7 = .ok (.iand, 1) := by decide +kernel
theorem dJ6_bitCount_0f7a4_8 : decode cJ6_bitCount_0f7a4 8 = .ok (.isub, 1) := by decide +kernel
theorem dJ6_bitCount_0f7a4_9 : decode cJ6_bitCount_0f7a4 9 = .ok (.istore_n 0, 1) := by decide +kernel
theorem dJ6_bitCount_0f7a4_10 : decode cJ6_bitCount_0f7a4 10 = .ok (.iload_n 0, 1) := by decide +kernel
theorem dJ6_bitCount_0f7a4_11 : decode cJ6_bitCount_0f7a4 11 = .ok (.ldc_w 266, 3) := by decide +kernel
theorem dJ6_bitCount_0f7a4_14 : decode cJ6_bitCount_0f7a4 14 = .ok (.iand, 1) := by decide +kernel
theorem dJ6_bitCount_0f7a4_15 : decode cJ6_bitCount_0f7a4 15 = .ok (.iload_n 0, 1) := by decide +kernel
theorem dJ6_bitCount_0f7a4_16 : decode cJ6_bitCount_0f7a4 16 = .ok (.iconst 2, 1) := by decide +kernel
theorem dJ6_bitCount_0f7a4_17 : decode cJ6_bitCount_0f7a4 17 = .ok (.iushr, 1) := by decide +kernel
theorem dJ6_bitCount_0f7a4_18 : decode cJ6_bitCount_0f7a4 18 = .ok (.ldc_w 266, 3) := by decide +kernel
theorem dJ6_bitCount_0f7a4_21 : decode cJ6_bitCount_0f7a4 21 = .ok (.iand, 1) := by decide +kernel
theorem dJ6_bitCount_0f7a4_22 : decode cJ6_bitCount_0f7a4 22 = .ok (.iadd, 1) := by decide +kernel
theorem dJ6_bitCount_0f7a4_23 : decode cJ6_bitCount_0f7a4 23 = .ok (.istore_n 0, 1) := by decide +kernel
theorem dJ6_bitCount_0f7a4_24 : decode cJ6_bitCount_0f7a4 24 = .ok (.iload_n 0, 1) := by decide +kernel
theorem dJ6_bitCount_0f7a4_25 : decode cJ6_bitCount_0f7a4 25 = .ok (.iload_n 0, 1) := by decide +kernel
theorem dJ6_bitCount_0f7a4_26 : decode cJ6_bitCount_0f7a4 26 = .ok (.iconst 4, 1) := by decide +kernel
theorem dJ6_bitCount_0f7a4_27 : decode cJ6_bitCount_0f7a4 27 = .ok (.iushr, 1) := by decide +kernel
theorem dJ6_bitCount_0f7a4_28 : decode cJ6_bitCount_0f7a4 28 = .ok (.iadd, 1) := by decide +kernel
theorem dJ6_bitCount_0f7a4_29 : decode cJ6_bitCount_0f7a4 29 = .ok (.ldc_w 267, 3) := by decide +kernel
theorem dJ6_bitCount_0f7a4_32 : decode cJ6_bitCount_0f7a4 32 = .ok (.iand, 1) := by decide +kernel
theorem dJ6_bitCount_0f7a4_33 : decode cJ6_bitCount_0f7a4 33 = .ok (.istore_n 0, 1) := by decide +kernel
theorem dJ6_bitCount_0f7a4_34 : decode cJ6_bitCount_0f7a4 34 = .ok (.iload_n 0, 1) := by decide +kernel
theorem dJ6_bitCount_0f7a4_35 : decode cJ6_bitCount_0f7a4 35 = .ok (.iload_n 0, 1) := by decide +kernel
theorem dJ6_bitCount_0f7a4_36 : decode cJ6_bitCount_0f7a4 36 = .ok (.bipush 8, 2) := by decide +kernel
theorem dJ6_bitCount_0f7a4_38 : decode cJ6_bitCount_0f7a4 38 = .ok (.iushr, 1) := by decide +kernel
theorem dJ6_bitCount_0f7a4_39 : decode cJ6_bitCount_0f7a4 39 = .ok (.iadd, 1) := by decide +kernel
theorem dJ6_bitCount_0f7a4_40 : decode cJ6_bitCount_0f7a4 40 = .ok (.istore_n 0, 1) := by decide +kernel
theorem dJ6_bitCount_0f7a4_41 : decode cJ6_bitCount_0f7a4 41 = .ok (.iload_n 0, 1) := by decide +kernel
theorem dJ6_bitCount_0f7a4_42 : decode cJ6_bitCount_0f7a4 42 = .ok (.iload_n 0, 1) := by decide +kernel
theorem dJ6_bitCount_0f7a4_43 : decode cJ6_bitCount_0f7a4 43 = .ok (.bipush 16, 2) := by decide +kernel
theorem dJ6_bitCount_0f7a4_45 : decode cJ6_bitCount_0f7a4 45 = .ok (.iushr, 1) := by decide +kernel
theorem dJ6_bitCount_0f7a4_46 : decode cJ6_bitCount_0f7a4 46 = .ok (.iadd, 1) := by decide +kernel
theorem dJ6_bitCount_0f7a4_47 : decode cJ6_bitCount_0f7a4 47 = .ok (.istore_n 0, 1) := by decide +kernel
theorem dJ6_bitCount_0f7a4_48 : decode cJ6_bitCount_0f7a4 48 = .ok (.iload_n 0, 1) := by decide +kernel
theorem dJ6_bitCount_0f7a4_49 : decode cJ6_bitCount_0f7a4 49 = .ok (.bipush 63, 2) := by decide +kernel
theorem dJ6_bitCount_0f7a4_51 : decode cJ6_bitCount_0f7a4 51 = .ok (.iand, 1) := by decide +kernel
theorem dJ6_bitCount_0f7a4_52 : decode cJ6_bitCount_0f7a4 52 = .ok (.ireturn, 1) := by decide +kernel
theorem dJ6_signum_0f7a4_0 : decode cJ6_signum_0f7a4 0 = .ok (.iload_n 0, 1) := by decide +kernel
theorem dJ6_signum_0f7a4_1 : decode cJ6_signum_0f7a4 1 = .ok (.bipush 31, 2) := by decide +kernel
theorem dJ6_signum_0f7a4_3 : decode cJ6_signum_0f7a4 3 = .ok (.ishr, 1) := by decide +kernel
theorem dJ6_signum_0f7a4_4 : decode cJ6_signum_0f7a4 4 = .ok (.iload_n 0, 1) := by decide +kernel
theorem dJ6_signum_0f7a4_5 : decode cJ6_signum_0f7a4 5 = .ok (.ineg, 1) := by decide +kernel
theorem dJ6_signum_0f7a4_6 : decode cJ6_signum_0f7a4 6 = .ok (.bipush 31, 2) := by decide +kernel
theorem dJ6_signum_0f7a4_8 : decode cJ6_signum_0f7a4 8 = .ok (.iushr, 1) := by decide +kernel
theorem dJ6_signum_0f7a4_9 : decode cJ6_signum_0f7a4 9 = .ok (.ior, 1) := by decide +kernel
theorem dJ6_signum_0f7a4_10 : decode cJ6_signum_0f7a4 10 = .ok (.ireturn, 1) := by decide +kernel
theorem dJ9_floorMod_7cf53_0 : decode cJ9_floorMod_7cf53 0 = .ok (.iload_n 0, 1) := by decide +kernel
theorem dJ9_floorMod_7cf53_1 : decode cJ9_floorMod_7cf53 1 = .ok (.iload_n 1, 1) := by decide +kernel
theorem dJ9_floorMod_7cf53_2 : decode cJ9_floorMod_7cf53 2 = .ok (.irem, 1) := by decide +kernel
theorem dJ9_floorMod_7cf53_3 : decode cJ9_floorMod_7cf53 3 = .ok (.istore_n 2, 1) := by decide +kernel
theorem dJ9_floorMod_7cf53_4 : decode cJ9_floorMod_7cf53 4 = .ok (.iload_n 0, 1) := by decide +kernel
theorem dJ9_floorMod_7cf53_5 : decode cJ9_floorMod_7cf53 5 = .ok (.iload_n 1, 1) := by decide +kernel
theorem dJ9_floorMod_7cf53_6 : decode cJ9_floorMod_7cf53 6 = .ok (.ixor, 1) := by decide +kernel
theorem dJ9_floorMod_7cf53_7 : decode cJ9_floorMod_7cf53 7 = .ok (.ifCond .ge 11, 3) := by decide +kernel
theorem dJ9_floorMod_7cf53_10 : decode cJ9_floorMod_7cf53 10 = .ok (.iload_n 2, 1) := by decide +kernel
theorem dJ9_floorMod_7cf53_11 : decode cJ9_floorMod_7cf53 11 = .ok (.ifCond .eq 7, 3) := by decide +kernel
theorem dJ9_floorMod_7cf53_14 : decode cJ9_floorMod_7cf53 14 = .ok (.iload_n 2, 1) := by decide +kernel
theorem dJ9_floorMod_7cf53_15 : decode cJ9_floorMod_7cf53 15 = .ok (.iload_n 1, 1) := by decide +kernel
theorem dJ9_floorMod_7cf53_16 : decode cJ9_floorMod_7cf53 16 = .ok (.iadd, 1) := by decide +kernel
theorem dJ9_floorMod_7cf53_17 : decode cJ9_floorMod_7cf53 17 = .ok (.ireturn, 1) := by decide +kernel
theorem dJ9_floorMod_7cf53_18 : decode cJ9_floorMod_7cf53 18 = .ok (.iload_n 2, 1) := by decide +kernel
theorem dJ9_floorMod_7cf53_19 : decode cJ9_floorMod_7cf53 19 = .ok (.ireturn, 1) := by decide +kernel
theorem dJ9_abs_0f7a4_0 : decode cJ9_abs_0f7a4 0 = .ok (.iload_n 0, 1) := by decide +kernel
theorem dJ9_abs_0f7a4_1 : decode cJ9_abs_0f7a4 1 = .ok (.ifCond .ge 8, 3) := by decide +kernel
theorem dJ9_abs_0f7a4_4 : decode cJ9_abs_0f7a4 4 = .ok (.iload_n 0, 1) := by decide +kernel
theorem dJ9_abs_0f7a4_5 : decode cJ9_abs_0f7a4 5 = .ok (.ineg, 1) := by decide +kernel
theorem dJ9_abs_0f7a4_6 : decode cJ9_abs_0f7a4 6 = .ok (.goto 4, 3) := by decide +kernel
theorem dJ9_abs_0f7a4_9 : decode cJ9_abs_0f7a4 9 = .ok (.iload_n 0, 1) := by decide +kernel
theorem dJ9_abs_0f7a4_10 : decode cJ9_abs_0f7a4 10 = .ok (.ireturn, 1) := by decide +kernel
theorem dJ9_max_7cf53_0 : decode cJ9_max_7cf53 0 = .ok (.iload_n 0, 1) := by decide +kernel
theorem dJ9_max_7cf53_1 : decode cJ9_max_7cf53 1 = .ok (.iload_n 1, 1) := by decide +kernel
theorem dJ9_max_7cf53_2 : decode cJ9_max_7cf53 2 = .ok (.if_icmp .lt 7, 3) := by decide +kernel
theorem dJ9_max_7cf53_5 : decode cJ9_max_7cf53 5 = .ok (.iload_n 0, 1) := by decide +kernel
theorem dJ9_max_7cf53_6 : decode cJ9_max_7cf53 6 = .ok (.goto 4, 3) := by decide +kernel
theorem dJ9_max_7cf53_9 : decode cJ9_max_7cf53 9 = .ok (.iload_n 1, 1) := by decide +kernel
theorem dJ9_max_7cf53_10 : decode cJ9_max_7cf53 10 = .ok (.ireturn, 1) := by decide +kernel
theorem dJ9_min_7cf53_0 : decode cJ9_min_7cf53 0 = .ok (.iload_n 0, 1) := by decide +kernel
theorem dJ9_min_7cf53_1 : decode cJ9_min_7cf53 1 = .ok (.iload_n 1, 1) := by decide +kernel
theorem dJ9_min_7cf53_2 : decode cJ9_min_7cf53 2 = .ok (.if_icmp .gt 7, 3) := by decide +kernel
theorem dJ9_min_7cf53_5 : decode cJ9_min_7cf53 5 = .ok (.iload_n 0, 1) := by decide +kernel
theorem dJ9_min_7cf53_6 : decode cJ9_min_7cf53 6 = .ok (.goto 4, 3) := by decide +kernel
theorem dJ9_min_7cf53_9 : decode cJ9_min_7cf53 9 = .ok (.iload_n 1, 1) := by decide +kernel
theorem dJ9_min_7cf53_10 : decode cJ9_min_7cf53 10 = .ok (.ireturn, 1) := by decide +kernel
theorem dJxa1e45_init_da8c8_0 : decode cJxa1e45_init_da8c8 0 = .ok (.aload_n 0, 1) := by decide +kernel
theorem dJxa1e45_init_da8c8_1 : decode cJxa1e45_init_da8c8 1 = .ok (.invokespecial 1, 3) := by decide +kernel
theorem dJxa1e45_init_da8c8_4 : decode cJxa1e45_init_da8c8 4 = .ok (.return_, 1) := by decide +kernel
theorem dJxc12de_init_da8c8_0 : decode cJxc12de_init_da8c8 0 = .ok (.aload_n 0, 1) := by decide +kernel
theorem dJxc12de_init_da8c8_1 : decode cJxc12de_init_da8c8 1 = .ok (.invokespecial 1, 3) := by decide +kernel
theorem dJxc12de_init_da8c8_4 : decode cJxc12de_init_da8c8 4 = .ok (.aload_n 0, 1) := by decide +kernel
theorem dJxc12de_init_da8c8_5 : decode cJxc12de_init_da8c8 5 = .ok (.iconst 0, 1) := by decide +kernel
theorem dJxc12de_init_da8c8_6 : decode cJxc12de_init_da8c8 6 = .ok (.putfield 7, 3) := by decide +kernel
theorem dJxc12de_init_da8c8_9 : decode cJxc12de_init_da8c8 9 = .ok (.return_, 1) := by decide +kernel
theorem dJx4a65c_init_da8c8_0 : decode cJx4a65c_init_da8c8 0 = .ok (.aload_n 0, 1) := by decide +kernel
theorem dJx4a65c_init_da8c8_1 : decode cJx4a65c_init_da8c8 1 = .ok (.invokespecial 1, 3) := by decide +kernel
theorem dJx4a65c_init_da8c8_4 : decode cJx4a65c_init_da8c8 4 = .ok (.aload_n 0, 1) := by decide +kernel
theorem dJx4a65c_init_da8c8_5 : decode cJx4a65c_init_da8c8 5 = .ok (.getstatic 39, 3) := by decide +kernel
theorem dJx4a65c_init_da8c8_8 : decode cJx4a65c_init_da8c8 8 = .ok (.putfield 9, 3) := by decide +kernel
theorem dJx4a65c_init_da8c8_11 : decode cJx4a65c_init_da8c8 11 = .ok (.return_, 1) := by decide +kernel
theorem dJx4a65c_grow_92f84_0 : decode cJx4a65c_grow_92f84 0 = .ok (.aload_n 0, 1) := by decide +kernel
theorem dJx4a65c_grow_92f84_1 : decode cJx4a65c_grow_92f84 1 = .ok (.getfield 9, 3) := by decide +kernel
theorem dJx4a65c_grow_92f84_4 : decode cJx4a65c_grow_92f84 4 = .ok (.arraylength, 1) := by decide +kernel
theorem dJx4a65c_grow_92f84_5 : decode cJx4a65c_grow_92f84 5 = .ok (.istore_n 2, 1) := by decide +kernel
theorem dJx4a65c_grow_92f84_6 : decode cJx4a65c_grow_92f84 6 = .ok (.iload_n 2, 1) := by decide +kernel
theorem dJx4a65c_grow_92f84_7 : decode cJx4a65c_grow_92f84 7 = .ok (.ifCond .gt 13, 3) := by decide +kernel
theorem dJx4a65c_grow_92f84_10 : decode cJx4a65c_grow_92f84 10 = .ok (.aload_n 0, 1) := by decide +kernel
theorem dJx4a65c_grow_92f84_11 : decode cJx4a65c_grow_92f84 11 = .ok (.getfield 9, 3) := by decide +kernel
theorem dJx4a65c_grow_92f84_14 : decode cJx4a65c_grow_92f84 14 = .ok (.getstatic 39, 3) := by decide +kernel
theorem dJx4a65c_grow_92f84_17 : decode cJx4a65c_grow_92f84 17 = .ok (.if_acmp .eq 28, 3) := by decide +kernel
theorem dJx4a65c_grow_92f84_20 : decode cJx4a65c_grow_92f84 20 = .ok (.iload_n 2, 1) := by decide +kernel
theorem dJx4a65c_grow_92f84_21 : decode cJx4a65c_grow_92f84 21 = .ok (.iload_n 1, 1) := by decide +kernel
theorem dJx4a65c_grow_92f84_22 : decode cJx4a65c_grow_92f84 22 = .ok (.iload_n 2, 1) := by decide +kernel
theorem dJx4a65c_grow_92f84_23 : decode cJx4a65c_grow_92f84 23 = .ok (.isub, 1) := by decide +kernel
theorem dJx4a65c_grow_92f84_24 : decode cJx4a65c_grow_92f84 24 = .ok (.iload_n 2, 1) := by decide +kernel
theorem dJx4a65c_grow_92f84_25 : decode cJx4a65c_grow_92f84 25 = .ok (.iconst 1, 1) := by decide +kernel
theorem dJx4a65c_grow_92f84_26 : decode cJx4a65c_grow_92f84 26 = .ok (.ishr, 1) := by decide +kernel
theorem dJx4a65c_grow_92f84_27 : decode cJx4a65c_grow_92f84 27 = .ok (.invokestatic 73, 3) := by decide +kernel
theorem dJx4a65c_grow_92f84_30 : decode cJx4a65c_grow_92f84 30 = .ok (.istore_n 3, 1) := by decide +kernel
theorem dJx4a65c_grow_92f84_31 : decode cJx4a65c_grow_92f84 31 = .ok (.aload_n 0, 1) := by decide +kernel
theorem dJx4a65c_grow_92f84_32 : decode cJx4a65c_grow_92f84 32 = .ok (.aload_n 0, 1) := by decide +kernel
theorem dJx4a65c_grow_92f84_33 : decode cJx4a65c_grow_92f84 33 = .ok (.getfield 9, 3) := by decide +kernel
theorem dJx4a65c_grow_92f84_36 : decode cJx4a65c_grow_92f84 36 = .ok (.iload_n 3, 1) := by decide +kernel
theorem dJx4a65c_grow_92f84_37 : decode cJx4a65c_grow_92f84 37 = .ok (.invokestatic 66, 3) := by decide +kernel
theorem dJx4a65c_grow_92f84_40 : decode cJx4a65c_grow_92f84 40 = .ok (.dup_x1, 1) := by decide +kernel
theorem dJx4a65c_grow_92f84_41 : decode cJx4a65c_grow_92f84 41 = .ok (.putfield 9, 3) := by decide +kernel
theorem dJx4a65c_grow_92f84_44 : decode cJx4a65c_grow_92f84 44 = .ok (.areturn, 1) := by decide +kernel
theorem dJx4a65c_grow_92f84_45 : decode cJx4a65c_grow_92f84 45 = .ok (.aload_n 0, 1) := by decide +kernel
theorem dJx4a65c_grow_92f84_46 : decode cJx4a65c_grow_92f84 46 = .ok (.bipush 10, 2) := by decide +kernel
theorem dJx4a65c_grow_92f84_48 : decode cJx4a65c_grow_92f84 48 = .ok (.iload_n 1, 1) := by decide +kernel
theorem dJx4a65c_grow_92f84_49 : decode cJx4a65c_grow_92f84 49 = .ok (.invokestatic 79, 3) := by decide +kernel
theorem dJx4a65c_grow_92f84_52 : decode cJx4a65c_grow_92f84 52 = .ok (.anewarray 7, 3) := by decide +kernel
theorem dJx4a65c_grow_92f84_55 : decode cJx4a65c_grow_92f84 55 = .ok (.dup_x1, 1) := by decide +kernel
theorem dJx4a65c_grow_92f84_56 : decode cJx4a65c_grow_92f84 56 = .ok (.putfield 9, 3) := by decide +kernel
theorem dJx4a65c_grow_92f84_59 : decode cJx4a65c_grow_92f84 59 = .ok (.areturn, 1) := by decide +kernel
theorem dJx4a65c_grow_d5877_0 : decode cJx4a65c_grow_d5877 0 = .ok (.aload_n 0, 1) := by decide +kernel
theorem dJx4a65c_grow_d5877_1 : decode cJx4a65c_grow_d5877 1 = .ok (.aload_n 0, 1) := by decide +kernel
theorem dJx4a65c_grow_d5877_2 : decode cJx4a65c_grow_d5877 2 = .ok (.getfield 48, 3) := by decide +kernel
theorem dJx4a65c_grow_d5877_5 : decode cJx4a65c_grow_d5877 5 = .ok (.iconst 1, 1) := by decide +kernel
theorem dJx4a65c_grow_d5877_6 : decode cJx4a65c_grow_d5877 6 = .ok (.iadd, 1) := by decide +kernel
theorem dJx4a65c_grow_d5877_7 : decode cJx4a65c_grow_d5877 7 = .ok (.invokevirtual 69, 3) := by decide +kernel
theorem dJx4a65c_grow_d5877_10 : decode cJx4a65c_grow_d5877 10 = .ok (.areturn, 1) := by decide +kernel
theorem dJx4a65c_size_8abf5_0 : decode cJx4a65c_size_8abf5 0 = .ok (.aload_n 0, 1) := by decide +kernel
theorem dJx4a65c_size_8abf5_1 : decode cJx4a65c_size_8abf5 1 = .ok (.getfield 48, 3) := by decide +kernel
theorem dJx4a65c_size_8abf5_4 : decode cJx4a65c_size_8abf5 4 = .ok (.ireturn, 1) := by decide +kernel
theorem dJx4a65c_elementData_915e3_0 : decode cJx4a65c_elementData_915e3 0 = .ok (.aload_n 0, 1) := by decide +kernel
theorem dJx4a65c_elementData_915e3_1 : decode cJx4a65c_elementData_915e3 1 = .ok (.getfield 9, 3) := by decide +kernel
theorem dJx4a65c_elementData_915e3_4 : decode cJx4a65c_elementData_915e3 4 = .ok (.iload_n 1, 1) := by decide +kernel
theorem dJx4a65c_elementData_915e3_5 : decode cJx4a65c_elementData_915e3 5 = .ok (.aaload, 1) := by decide +kernel
theorem dJx4a65c_elementData_915e3_6 : decode cJx4a65c_elementData_915e3 6 = .ok (.areturn, 1) := by decide +kernel
theorem dJx4a65c_get_915e3_0 : decode cJx4a65c_get_915e3 0 = .ok (.iload_n 1, 1) := by decide +kernel
theorem dJx4a65c_get_915e3_1 : decode cJx4a65c_get_915e3 1 = .ok (.aload_n 0, 1) := by decide +kernel
theorem dJx4a65c_get_915e3_2 : decode cJx4a65c_get_915e3 2 = .ok (.getfield 48, 3) := by decide +kernel
theorem dJx4a65c_get_915e3_5 : decode cJx4a65c_get_915e3 5 = .ok (.invokestatic 118, 3) := by decide +kernel
theorem dJx4a65c_get_915e3_8 : decode cJx4a65c_get_915e3 8 = .ok (.pop, 1) := by decide +kernel
theorem dJx4a65c_get_915e3_9 : decode cJx4a65c_get_915e3 9 = .ok (.aload_n 0, 1) := by decide +kernel
theorem dJx4a65c_get_915e3_10 : decode cJx4a65c_get_915e3 10 = .ok (.iload_n 1, 1) := by decide +kernel
theorem dJx4a65c_get_915e3_11 : decode cJx4a65c_get_915e3 11 = .ok (.invokevirtual 123, 3) := by decide +kernel
theorem dJx4a65c_get_915e3_14 : decode cJx4a65c_get_915e3 14 = .ok (.areturn, 1) := by decide +kernel
theorem dJx4a65c_add_72be8_0 : decode cJx4a65c_add_72be8 0 = .ok (.iload_n 3, 1) := by decide +kernel
theorem dJx4a65c_add_72be8_1 : decode cJx4a65c_add_72be8 1 = .ok (.aload_n 2, 1) := by decide +kernel
theorem dJx4a65c_add_72be8_2 : decode cJx4a65c_add_72be8 2 = .ok (.arraylength, 1) := by decide +kernel
theorem dJx4a65c_add_72be8_3 : decode cJx4a65c_add_72be8 3 = .ok (.if_icmp .ne 8, 3) := by decide +kernel
theorem dJx4a65c_add_72be8_6 : decode cJx4a65c_add_72be8 6 = .ok (.aload_n 0, 1) := by decide +kernel
theorem dJx4a65c_add_72be8_7 : decode cJx4a65c_add_72be8 7 = .ok (.invokevirtual 129, 3) := by decide +kernel
theorem dJx4a65c_add_72be8_10 : decode cJx4a65c_add_72be8 10 = .ok (.astore_n 2, 1) := by decide +kernel
theorem dJx4a65c_add_72be8_11 : decode cJx4a65c_add_72be8 11 = .ok (.aload_n 2, 1) := by decide +kernel
theorem dJx4a65c_add_72be8_12 : decode cJx4a65c_add_72be8 12 = .ok (.iload_n 3, 1) := by decide +kernel
theorem dJx4a65c_add_72be8_13 : decode cJx4a65c_add_72be8 13 = .ok (.aload_n 1, 1) := by decide +kernel
theorem dJx4a65c_add_72be8_14 : decode cJx4a65c_add_72be8 14 = .ok (.aastore, 1) := by decide +kernel
theorem dJx4a65c_add_72be8_15 : decode cJx4a65c_add_72be8 15 = .ok (.aload_n 0, 1) := by decide +kernel
theorem dJx4a65c_add_72be8_16 : decode cJx4a65c_add_72be8 16 = .ok (.iload_n 3, 1) := by decide +kernel
theorem dJx4a65c_add_72be8_17 : decode cJx4a65c_add_72be8 17 = .ok (.iconst 1, 1) := by decide +kernel
theorem dJx4a65c_add_72be8_18 : decode cJx4a65c_add_72be8 18 = .ok (.iadd, 1) := by decide +kernel
theorem dJx4a65c_add_72be8_19 : decode cJx4a65c_add_72be8 19 = .ok (.putfield 48, 3) := by decide +kernel
theorem dJx4a65c_add_72be8_22 : decode cJx4a65c_add_72be8 22 = .ok (.return_, 1) := by decide +kernel
theorem dJx4a65c_add_9ea2d_0 : decode cJx4a65c_add_9ea2d 0 = .ok (.aload_n 0, 1) := by decide +kernel
theorem dJx4a65c_add_9ea2d_1 : decode cJx4a65c_add_9ea2d 1 = .ok (.dup, 1) := by decide +kernel
theorem dJx4a65c_add_9ea2d_2 : decode cJx4a65c_add_9ea2d 2 = .ok (.getfield 63, 3) := by decide +kernel
theorem dJx4a65c_add_9ea2d_5 : decode cJx4a65c_add_9ea2d 5 = .ok (.iconst 1, 1) := by decide +kernel
theorem dJx4a65c_add_9ea2d_6 : decode cJx4a65c_add_9ea2d 6 = .ok (.iadd, 1) := by decide +kernel
