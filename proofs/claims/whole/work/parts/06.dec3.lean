theorem dX7_stand_14 : decode cX7_stand 14 = .ok (.imul, 1) := by decide +kernel
theorem dX7_stand_15 : decode cX7_stand 15 = .ok (.iaload, 1) := by decide +kernel
theorem dX7_stand_16 : decode cX7_stand 16 = .ok (.invokestatic 80, 3) := by decide +kernel
theorem dX7_stand_19 : decode cX7_stand 19 = .ok (.invokestatic 94, 3) := by decide +kernel
theorem dX7_stand_22 : decode cX7_stand 22 = .ok (.istore_n 3, 1) := by decide +kernel
theorem dX7_stand_23 : decode cX7_stand 23 = .ok (.aload_n 0, 1) := by decide +kernel
theorem dX7_stand_24 : decode cX7_stand 24 = .ok (.getfield 29, 3) := by decide +kernel
theorem dX7_stand_27 : decode cX7_stand 27 = .ok (.bipush 6, 2) := by decide +kernel
theorem dX7_stand_29 : decode cX7_stand 29 = .ok (.iload_n 1, 1) := by decide +kernel
theorem dX7_stand_30 : decode cX7_stand 30 = .ok (.imul, 1) := by decide +kernel
theorem dX7_stand_31 : decode cX7_stand 31 = .ok (.iconst 1, 1) := by decide +kernel
theorem dX7_stand_32 : decode cX7_stand 32 = .ok (.iadd, 1) := by decide +kernel
theorem dX7_stand_33 : decode cX7_stand 33 = .ok (.iaload, 1) := by decide +kernel
theorem dX7_stand_34 : decode cX7_stand 34 = .ok (.istore 4, 2) := by decide +kernel
theorem dX7_stand_36 : decode cX7_stand 36 = .ok (.iload_n 3, 1) := by decide +kernel
theorem dX7_stand_37 : decode cX7_stand 37 = .ok (.iload 4, 2) := by decide +kernel
theorem dX7_stand_39 : decode cX7_stand 39 = .ok (.if_icmp .gt 7, 3) := by decide +kernel
theorem dX7_stand_42 : decode cX7_stand 42 = .ok (.iconst 1, 1) := by decide +kernel
theorem dX7_stand_43 : decode cX7_stand 43 = .ok (.goto 19, 3) := by decide +kernel
theorem dX7_stand_46 : decode cX7_stand 46 = .ok (.iload_n 3, 1) := by decide +kernel
theorem dX7_stand_47 : decode cX7_stand 47 = .ok (.bipush 8, 2) := by decide +kernel
theorem dX7_stand_49 : decode cX7_stand 49 = .ok (.iload 4, 2) := by decide +kernel
theorem dX7_stand_51 : decode cX7_stand 51 = .ok (.iconst 2, 1) := by decide +kernel
theorem dX7_stand_52 : decode cX7_stand 52 = .ok (.idiv, 1) := by decide +kernel
theorem dX7_stand_53 : decode cX7_stand 53 = .ok (.isub, 1) := by decide +kernel
theorem dX7_stand_54 : decode cX7_stand 54 = .ok (.if_icmp .lt 7, 3) := by decide +kernel
theorem dX7_stand_57 : decode cX7_stand 57 = .ok (.iconst (-1), 1) := by decide +kernel
theorem dX7_stand_58 : decode cX7_stand 58 = .ok (.goto 4, 3) := by decide +kernel
theorem dX7_stand_61 : decode cX7_stand 61 = .ok (.iconst 0, 1) := by decide +kernel
theorem dX7_stand_62 : decode cX7_stand 62 = .ok (.ireturn, 1) := by decide +kernel
theorem dX7_votes_0 : decode cX7_votes 0 = .ok (.iconst 0, 1) := by decide +kernel
theorem dX7_votes_1 : decode cX7_votes 1 = .ok (.istore_n 3, 1) := by decide +kernel
theorem dX7_votes_2 : decode cX7_votes 2 = .ok (.iconst 0, 1) := by decide +kernel
theorem dX7_votes_3 : decode cX7_votes 3 = .ok (.istore 4, 2) := by decide +kernel
theorem dX7_votes_5 : decode cX7_votes 5 = .ok (.iload 4, 2) := by decide +kernel
theorem dX7_votes_7 : decode cX7_votes 7 = .ok (.aload_n 0, 1) := by decide +kernel
theorem dX7_votes_8 : decode cX7_votes 8 = .ok (.getfield 38, 3) := by decide +kernel
theorem dX7_votes_11 : decode cX7_votes 11 = .ok (.if_icmp .ge 34, 3) := by decide +kernel
theorem dX7_votes_14 : decode cX7_votes 14 = .ok (.iload_n 3, 1) := by decide +kernel
theorem dX7_votes_15 : decode cX7_votes 15 = .ok (.aload_n 0, 1) := by decide +kernel
theorem dX7_votes_16 : decode cX7_votes 16 = .ok (.iload_n 1, 1) := by decide +kernel
theorem dX7_votes_17 : decode cX7_votes 17 = .ok (.iload 4, 2) := by decide +kernel
theorem dX7_votes_19 : decode cX7_votes 19 = .ok (.invokevirtual 97, 3) := by decide +kernel
theorem dX7_votes_22 : decode cX7_votes 22 = .ok (.iload_n 2, 1) := by decide +kernel
theorem dX7_votes_23 : decode cX7_votes 23 = .ok (.if_icmp .ne 13, 3) := by decide +kernel
theorem dX7_votes_26 : decode cX7_votes 26 = .ok (.aload_n 0, 1) := by decide +kernel
theorem dX7_votes_27 : decode cX7_votes 27 = .ok (.iload 4, 2) := by decide +kernel
theorem dX7_votes_29 : decode cX7_votes 29 = .ok (.iconst 4, 1) := by decide +kernel
theorem dX7_votes_30 : decode cX7_votes 30 = .ok (.invokevirtual 60, 3) := by decide +kernel
theorem dX7_votes_33 : decode cX7_votes 33 = .ok (.goto 4, 3) := by decide +kernel
theorem dX7_votes_36 : decode cX7_votes 36 = .ok (.iconst 0, 1) := by decide +kernel
theorem dX7_votes_37 : decode cX7_votes 37 = .ok (.iadd, 1) := by decide +kernel
theorem dX7_votes_38 : decode cX7_votes 38 = .ok (.istore_n 3, 1) := by decide +kernel
theorem dX7_votes_39 : decode cX7_votes 39 = .ok (.iinc 4 1, 3) := by decide +kernel
theorem dX7_votes_42 : decode cX7_votes 42 = .ok (.goto (-37), 3) := by decide +kernel
theorem dX7_votes_45 : decode cX7_votes 45 = .ok (.iload_n 3, 1) := by decide +kernel
theorem dX7_votes_46 : decode cX7_votes 46 = .ok (.ireturn, 1) := by decide +kernel
theorem dX7_would_0 : decode cX7_would 0 = .ok (.aload_n 0, 1) := by decide +kernel
theorem dX7_would_1 : decode cX7_would 1 = .ok (.iload_n 1, 1) := by decide +kernel
theorem dX7_would_2 : decode cX7_would 2 = .ok (.iconst 1, 1) := by decide +kernel
theorem dX7_would_3 : decode cX7_would 3 = .ok (.invokevirtual 100, 3) := by decide +kernel
theorem dX7_would_6 : decode cX7_would 6 = .ok (.aload_n 0, 1) := by decide +kernel
theorem dX7_would_7 : decode cX7_would 7 = .ok (.iload_n 1, 1) := by decide +kernel
theorem dX7_would_8 : decode cX7_would 8 = .ok (.iconst (-1), 1) := by decide +kernel
theorem dX7_would_9 : decode cX7_would 9 = .ok (.invokevirtual 100, 3) := by decide +kernel
theorem dX7_would_12 : decode cX7_would 12 = .ok (.iadd, 1) := by decide +kernel
theorem dX7_would_13 : decode cX7_would 13 = .ok (.aload_n 0, 1) := by decide +kernel
theorem dX7_would_14 : decode cX7_would 14 = .ok (.getfield 29, 3) := by decide +kernel
theorem dX7_would_17 : decode cX7_would 17 = .ok (.bipush 6, 2) := by decide +kernel
theorem dX7_would_19 : decode cX7_would 19 = .ok (.iload_n 1, 1) := by decide +kernel
theorem dX7_would_20 : decode cX7_would 20 = .ok (.imul, 1) := by decide +kernel
theorem dX7_would_21 : decode cX7_would 21 = .ok (.iconst 2, 1) := by decide +kernel
theorem dX7_would_22 : decode cX7_would 22 = .ok (.iadd, 1) := by decide +kernel
theorem dX7_would_23 : decode cX7_would 23 = .ok (.iaload, 1) := by decide +kernel
theorem dX7_would_24 : decode cX7_would 24 = .ok (.if_icmp .lt 22, 3) := by decide +kernel
theorem dX7_would_27 : decode cX7_would 27 = .ok (.aload_n 0, 1) := by decide +kernel
theorem dX7_would_28 : decode cX7_would 28 = .ok (.iload_n 1, 1) := by decide +kernel
theorem dX7_would_29 : decode cX7_would 29 = .ok (.iconst 1, 1) := by decide +kernel
theorem dX7_would_30 : decode cX7_would 30 = .ok (.invokevirtual 100, 3) := by decide +kernel
theorem dX7_would_33 : decode cX7_would 33 = .ok (.aload_n 0, 1) := by decide +kernel
theorem dX7_would_34 : decode cX7_would 34 = .ok (.iload_n 1, 1) := by decide +kernel
theorem dX7_would_35 : decode cX7_would 35 = .ok (.iconst (-1), 1) := by decide +kernel
theorem dX7_would_36 : decode cX7_would 36 = .ok (.invokevirtual 100, 3) := by decide +kernel
theorem dX7_would_39 : decode cX7_would 39 = .ok (.if_icmp .le 7, 3) := by decide +kernel
theorem dX7_would_42 : decode cX7_would 42 = .ok (.iconst 1, 1) := by decide +kernel
theorem dX7_would_43 : decode cX7_would 43 = .ok (.goto 4, 3) := by decide +kernel
theorem dX7_would_46 : decode cX7_would 46 = .ok (.iconst 0, 1) := by decide +kernel
theorem dX7_would_47 : decode cX7_would 47 = .ok (.ireturn, 1) := by decide +kernel
theorem dX7_vote_0 : decode cX7_vote 0 = .ok (.aload_n 0, 1) := by decide +kernel
theorem dX7_vote_1 : decode cX7_vote 1 = .ok (.getfield 29, 3) := by decide +kernel
theorem dX7_vote_4 : decode cX7_vote 4 = .ok (.bipush 6, 2) := by decide +kernel
theorem dX7_vote_6 : decode cX7_vote 6 = .ok (.iload_n 1, 1) := by decide +kernel
theorem dX7_vote_7 : decode cX7_vote 7 = .ok (.imul, 1) := by decide +kernel
theorem dX7_vote_8 : decode cX7_vote 8 = .ok (.iconst 4, 1) := by decide +kernel
theorem dX7_vote_9 : decode cX7_vote 9 = .ok (.iadd, 1) := by decide +kernel
theorem dX7_vote_10 : decode cX7_vote 10 = .ok (.dup2, 1) := by decide +kernel
theorem dX7_vote_11 : decode cX7_vote 11 = .ok (.iaload, 1) := by decide +kernel
theorem dX7_vote_12 : decode cX7_vote 12 = .ok (.iconst 1, 1) := by decide +kernel
theorem dX7_vote_13 : decode cX7_vote 13 = .ok (.iadd, 1) := by decide +kernel
theorem dX7_vote_14 : decode cX7_vote 14 = .ok (.iastore, 1) := by decide +kernel
theorem dX7_vote_15 : decode cX7_vote 15 = .ok (.aload_n 0, 1) := by decide +kernel
theorem dX7_vote_16 : decode cX7_vote 16 = .ok (.iload_n 1, 1) := by decide +kernel
theorem dX7_vote_17 : decode cX7_vote 17 = .ok (.invokevirtual 103, 3) := by decide +kernel
theorem dX7_vote_20 : decode cX7_vote 20 = .ok (.ifCond .ne 5, 3) := by decide +kernel
theorem dX7_vote_23 : decode cX7_vote 23 = .ok (.iconst 0, 1) := by decide +kernel
theorem dX7_vote_24 : decode cX7_vote 24 = .ok (.ireturn, 1) := by decide +kernel
theorem dX7_vote_25 : decode cX7_vote 25 = .ok (.aload_n 0, 1) := by decide +kernel
theorem dX7_vote_26 : decode cX7_vote 26 = .ok (.getfield 29, 3) := by decide +kernel
theorem dX7_vote_29 : decode cX7_vote 29 = .ok (.bipush 6, 2) := by decide +kernel
theorem dX7_vote_31 : decode cX7_vote 31 = .ok (.iload_n 1, 1) := by decide +kernel
theorem dX7_vote_32 : decode cX7_vote 32 = .ok (.imul, 1) := by decide +kernel
theorem dX7_vote_33 : decode cX7_vote 33 = .ok (.iconst 5, 1) := by decide +kernel
theorem dX7_vote_34 : decode cX7_vote 34 = .ok (.iadd, 1) := by decide +kernel
theorem dX7_vote_35 : decode cX7_vote 35 = .ok (.dup2, 1) := by decide +kernel
theorem dX7_vote_36 : decode cX7_vote 36 = .ok (.iaload, 1) := by decide +kernel
theorem dX7_vote_37 : decode cX7_vote 37 = .ok (.iconst 1, 1) := by decide +kernel
theorem dX7_vote_38 : decode cX7_vote 38 = .ok (.iadd, 1) := by decide +kernel
theorem dX7_vote_39 : decode cX7_vote 39 = .ok (.iastore, 1) := by decide +kernel
theorem dX7_vote_40 : decode cX7_vote 40 = .ok (.aload_n 0, 1) := by decide +kernel
theorem dX7_vote_41 : decode cX7_vote 41 = .ok (.getfield 29, 3) := by decide +kernel
theorem dX7_vote_44 : decode cX7_vote 44 = .ok (.bipush 6, 2) := by decide +kernel
theorem dX7_vote_46 : decode cX7_vote 46 = .ok (.iload_n 1, 1) := by decide +kernel
theorem dX7_vote_47 : decode cX7_vote 47 = .ok (.imul, 1) := by decide +kernel
theorem dX7_vote_48 : decode cX7_vote 48 = .ok (.iconst 3, 1) := by decide +kernel
theorem dX7_vote_49 : decode cX7_vote 49 = .ok (.iadd, 1) := by decide +kernel
theorem dX7_vote_50 : decode cX7_vote 50 = .ok (.iaload, 1) := by decide +kernel
theorem dX7_vote_51 : decode cX7_vote 51 = .ok (.istore_n 2, 1) := by decide +kernel
theorem dX7_vote_52 : decode cX7_vote 52 = .ok (.iconst 0, 1) := by decide +kernel
theorem dX7_vote_53 : decode cX7_vote 53 = .ok (.istore_n 3, 1) := by decide +kernel
theorem dX7_vote_54 : decode cX7_vote 54 = .ok (.iload_n 3, 1) := by decide +kernel
theorem dX7_vote_55 : decode cX7_vote 55 = .ok (.aload_n 0, 1) := by decide +kernel
theorem dX7_vote_56 : decode cX7_vote 56 = .ok (.getfield 38, 3) := by decide +kernel
theorem dX7_vote_59 : decode cX7_vote 59 = .ok (.if_icmp .ge 91, 3) := by decide +kernel
theorem dX7_vote_62 : decode cX7_vote 62 = .ok (.aload_n 0, 1) := by decide +kernel
theorem dX7_vote_63 : decode cX7_vote 63 = .ok (.iload_n 1, 1) := by decide +kernel
theorem dX7_vote_64 : decode cX7_vote 64 = .ok (.iload_n 3, 1) := by decide +kernel
theorem dX7_vote_65 : decode cX7_vote 65 = .ok (.invokevirtual 97, 3) := by decide +kernel
theorem dX7_vote_68 : decode cX7_vote 68 = .ok (.istore 4, 2) := by decide +kernel
theorem dX7_vote_70 : decode cX7_vote 70 = .ok (.iload_n 2, 1) := by decide +kernel
theorem dX7_vote_71 : decode cX7_vote 71 = .ok (.iconst 1, 1) := by decide +kernel
theorem dX7_vote_72 : decode cX7_vote 72 = .ok (.if_icmp .ne 14, 3) := by decide +kernel
theorem dX7_vote_75 : decode cX7_vote 75 = .ok (.iload 4, 2) := by decide +kernel
theorem dX7_vote_77 : decode cX7_vote 77 = .ok (.iconst 1, 1) := by decide +kernel
theorem dX7_vote_78 : decode cX7_vote 78 = .ok (.if_icmp .ne 8, 3) := by decide +kernel
theorem dX7_vote_81 : decode cX7_vote 81 = .ok (.aload_n 0, 1) := by decide +kernel
theorem dX7_vote_82 : decode cX7_vote 82 = .ok (.iload_n 3, 1) := by decide +kernel
theorem dX7_vote_83 : decode cX7_vote 83 = .ok (.invokevirtual 107, 3) := by decide +kernel
theorem dX7_vote_86 : decode cX7_vote 86 = .ok (.iload_n 2, 1) := by decide +kernel
theorem dX7_vote_87 : decode cX7_vote 87 = .ok (.iconst 2, 1) := by decide +kernel
theorem dX7_vote_88 : decode cX7_vote 88 = .ok (.if_icmp .ne 27, 3) := by decide +kernel
theorem dX7_vote_91 : decode cX7_vote 91 = .ok (.iload 4, 2) := by decide +kernel
theorem dX7_vote_93 : decode cX7_vote 93 = .ok (.iconst (-1), 1) := by decide +kernel
theorem dX7_vote_94 : decode cX7_vote 94 = .ok (.if_icmp .ne 21, 3) := by decide +kernel
theorem dX7_vote_97 : decode cX7_vote 97 = .ok (.aload_n 0, 1) := by decide +kernel
theorem dX7_vote_98 : decode cX7_vote 98 = .ok (.iload_n 3, 1) := by decide +kernel
theorem dX7_vote_99 : decode cX7_vote 99 = .ok (.bipush 8, 2) := by decide +kernel
theorem dX7_vote_101 : decode cX7_vote 101 = .ok (.iconst 4, 1) := by decide +kernel
theorem dX7_vote_102 : decode cX7_vote 102 = .ok (.aload_n 0, 1) := by decide +kernel
theorem dX7_vote_103 : decode cX7_vote 103 = .ok (.iload_n 3, 1) := by decide +kernel
theorem dX7_vote_104 : decode cX7_vote 104 = .ok (.bipush 8, 2) := by decide +kernel
theorem dX7_vote_106 : decode cX7_vote 106 = .ok (.invokevirtual 60, 3) := by decide +kernel
theorem dX7_vote_109 : decode cX7_vote 109 = .ok (.invokestatic 68, 3) := by decide +kernel
theorem dX7_vote_112 : decode cX7_vote 112 = .ok (.invokevirtual 73, 3) := by decide +kernel
theorem dX7_vote_115 : decode cX7_vote 115 = .ok (.iload_n 2, 1) := by decide +kernel
theorem dX7_vote_116 : decode cX7_vote 116 = .ok (.iconst 3, 1) := by decide +kernel
theorem dX7_vote_117 : decode cX7_vote 117 = .ok (.if_icmp .ne 27, 3) := by decide +kernel
theorem dX7_vote_120 : decode cX7_vote 120 = .ok (.aload_n 0, 1) := by decide +kernel
theorem dX7_vote_121 : decode cX7_vote 121 = .ok (.iload_n 3, 1) := by decide +kernel
theorem dX7_vote_122 : decode cX7_vote 122 = .ok (.iconst 4, 1) := by decide +kernel
theorem dX7_vote_123 : decode cX7_vote 123 = .ok (.iconst 0, 1) := by decide +kernel
theorem dX7_vote_124 : decode cX7_vote 124 = .ok (.bipush 9, 2) := by decide +kernel
theorem dX7_vote_126 : decode cX7_vote 126 = .ok (.aload_n 0, 1) := by decide +kernel
theorem dX7_vote_127 : decode cX7_vote 127 = .ok (.iload_n 3, 1) := by decide +kernel
theorem dX7_vote_128 : decode cX7_vote 128 = .ok (.iconst 4, 1) := by decide +kernel
theorem dX7_vote_129 : decode cX7_vote 129 = .ok (.invokevirtual 60, 3) := by decide +kernel
theorem dX7_vote_132 : decode cX7_vote 132 = .ok (.iload 4, 2) := by decide +kernel
theorem dX7_vote_134 : decode cX7_vote 134 = .ok (.iadd, 1) := by decide +kernel
theorem dX7_vote_135 : decode cX7_vote 135 = .ok (.invokestatic 83, 3) := by decide +kernel
theorem dX7_vote_138 : decode cX7_vote 138 = .ok (.invokestatic 68, 3) := by decide +kernel
theorem dX7_vote_141 : decode cX7_vote 141 = .ok (.invokevirtual 73, 3) := by decide +kernel
theorem dX7_vote_144 : decode cX7_vote 144 = .ok (.iinc 3 1, 3) := by decide +kernel
theorem dX7_vote_147 : decode cX7_vote 147 = .ok (.goto (-93), 3) := by decide +kernel
theorem dX7_vote_150 : decode cX7_vote 150 = .ok (.iconst 1, 1) := by decide +kernel
theorem dX7_vote_151 : decode cX7_vote 151 = .ok (.ireturn, 1) := by decide +kernel
theorem dX7_pass_0 : decode cX7_pass 0 = .ok (.aload_n 0, 1) := by decide +kernel
theorem dX7_pass_1 : decode cX7_pass 1 = .ok (.invokevirtual 111, 3) := by decide +kernel
theorem dX7_pass_4 : decode cX7_pass 4 = .ok (.aload_n 0, 1) := by decide +kernel
theorem dX7_pass_5 : decode cX7_pass 5 = .ok (.invokevirtual 114, 3) := by decide +kernel
theorem dX7_pass_8 : decode cX7_pass 8 = .ok (.ireturn, 1) := by decide +kernel
theorem dX8_init_0 : decode cX8_init 0 = .ok (.aload_n 0, 1) := by decide +kernel
theorem dX8_init_1 : decode cX8_init 1 = .ok (.invokespecial 1, 3) := by decide +kernel
theorem dX8_init_4 : decode cX8_init 4 = .ok (.aload_n 0, 1) := by decide +kernel
theorem dX8_init_5 : decode cX8_init 5 = .ok (.new 7, 3) := by decide +kernel
theorem dX8_init_8 : decode cX8_init 8 = .ok (.dup, 1) := by decide +kernel
theorem dX8_init_9 : decode cX8_init 9 = .ok (.invokespecial 9, 3) := by decide +kernel
theorem dX8_init_12 : decode cX8_init 12 = .ok (.putfield 10, 3) := by decide +kernel
theorem dX8_init_15 : decode cX8_init 15 = .ok (.aload_n 0, 1) := by decide +kernel
theorem dX8_init_16 : decode cX8_init 16 = .ok (.new 7, 3) := by decide +kernel
theorem dX8_init_19 : decode cX8_init 19 = .ok (.dup, 1) := by decide +kernel
theorem dX8_init_20 : decode cX8_init 20 = .ok (.invokespecial 9, 3) := by decide +kernel
theorem dX8_init_23 : decode cX8_init 23 = .ok (.putfield 16, 3) := by decide +kernel
theorem dX8_init_26 : decode cX8_init 26 = .ok (.return_, 1) := by decide +kernel
theorem dX8_thrown_0 : decode cX8_thrown 0 = .ok (.aload_n 0, 1) := by decide +kernel
theorem dX8_thrown_1 : decode cX8_thrown 1 = .ok (.getfield 19, 3) := by decide +kernel
theorem dX8_thrown_4 : decode cX8_thrown 4 = .ok (.ireturn, 1) := by decide +kernel
theorem dX8_no_0 : decode cX8_no 0 = .ok (.aload_n 0, 1) := by decide +kernel
theorem dX8_no_1 : decode cX8_no 1 = .ok (.iload_n 1, 1) := by decide +kernel
theorem dX8_no_2 : decode cX8_no 2 = .ok (.putfield 19, 3) := by decide +kernel
theorem dX8_no_5 : decode cX8_no 5 = .ok (.iconst 0, 1) := by decide +kernel
theorem dX8_no_6 : decode cX8_no 6 = .ok (.ireturn, 1) := by decide +kernel
theorem dX8_isIn_0 : decode cX8_isIn 0 = .ok (.iload_n 0, 1) := by decide +kernel
theorem dX8_isIn_1 : decode cX8_isIn 1 = .ok (.iload_n 1, 1) := by decide +kernel
theorem dX8_isIn_2 : decode cX8_isIn 2 = .ok (.if_icmp .lt 12, 3) := by decide +kernel
theorem dX8_isIn_5 : decode cX8_isIn 5 = .ok (.iload_n 0, 1) := by decide +kernel
theorem dX8_isIn_6 : decode cX8_isIn 6 = .ok (.iload_n 2, 1) := by decide +kernel
theorem dX8_isIn_7 : decode cX8_isIn 7 = .ok (.if_icmp .gt 7, 3) := by decide +kernel
theorem dX8_isIn_10 : decode cX8_isIn 10 = .ok (.iconst 1, 1) := by decide +kernel
theorem dX8_isIn_11 : decode cX8_isIn 11 = .ok (.goto 4, 3) := by decide +kernel
theorem dX8_isIn_14 : decode cX8_isIn 14 = .ok (.iconst 0, 1) := by decide +kernel
theorem dX8_isIn_15 : decode cX8_isIn 15 = .ok (.ireturn, 1) := by decide +kernel
theorem dX8_apart_0 : decode cX8_apart 0 = .ok (.iload_n 1, 1) := by decide +kernel
theorem dX8_apart_1 : decode cX8_apart 1 = .ok (.iload_n 0, 1) := by decide +kernel
theorem dX8_apart_2 : decode cX8_apart 2 = .ok (.isub, 1) := by decide +kernel
theorem dX8_apart_3 : decode cX8_apart 3 = .ok (.bipush 16, 2) := by decide +kernel
theorem dX8_apart_5 : decode cX8_apart 5 = .ok (.iadd, 1) := by decide +kernel
theorem dX8_apart_6 : decode cX8_apart 6 = .ok (.bipush 16, 2) := by decide +kernel
theorem dX8_apart_8 : decode cX8_apart 8 = .ok (.irem, 1) := by decide +kernel
theorem dX8_apart_9 : decode cX8_apart 9 = .ok (.istore_n 2, 1) := by decide +kernel
theorem dX8_apart_10 : decode cX8_apart 10 = .ok (.iload_n 2, 1) := by decide +kernel
theorem dX8_apart_11 : decode cX8_apart 11 = .ok (.bipush 8, 2) := by decide +kernel
theorem dX8_apart_13 : decode cX8_apart 13 = .ok (.if_icmp .le 10, 3) := by decide +kernel
theorem dX8_apart_16 : decode cX8_apart 16 = .ok (.iload_n 2, 1) := by decide +kernel
theorem dX8_apart_17 : decode cX8_apart 17 = .ok (.bipush 16, 2) := by decide +kernel
theorem dX8_apart_19 : decode cX8_apart 19 = .ok (.isub, 1) := by decide +kernel
theorem dX8_apart_20 : decode cX8_apart 20 = .ok (.goto 4, 3) := by decide +kernel
theorem dX8_apart_23 : decode cX8_apart 23 = .ok (.iload_n 2, 1) := by decide +kernel
theorem dX8_apart_24 : decode cX8_apart 24 = .ok (.ireturn, 1) := by decide +kernel
theorem dX8_layWind_0 : decode cX8_layWind 0 = .ok (.aload_n 0, 1) := by decide +kernel
theorem dX8_layWind_1 : decode cX8_layWind 1 = .ok (.getfield 10, 3) := by decide +kernel
theorem dX8_layWind_4 : decode cX8_layWind 4 = .ok (.getfield 23, 3) := by decide +kernel
theorem dX8_layWind_7 : decode cX8_layWind 7 = .ok (.iload_n 1, 1) := by decide +kernel
theorem dX8_layWind_8 : decode cX8_layWind 8 = .ok (.iload_n 2, 1) := by decide +kernel
theorem dX8_layWind_9 : decode cX8_layWind 9 = .ok (.iastore, 1) := by decide +kernel
theorem dX8_layWind_10 : decode cX8_layWind 10 = .ok (.aload_n 0, 1) := by decide +kernel
theorem dX8_layWind_11 : decode cX8_layWind 11 = .ok (.getfield 10, 3) := by decide +kernel
theorem dX8_layWind_14 : decode cX8_layWind 14 = .ok (.getfield 27, 3) := by decide +kernel
theorem dX8_layWind_17 : decode cX8_layWind 17 = .ok (.iload_n 1, 1) := by decide +kernel
theorem dX8_layWind_18 : decode cX8_layWind 18 = .ok (.iload_n 3, 1) := by decide +kernel
theorem dX8_layWind_19 : decode cX8_layWind 19 = .ok (.iastore, 1) := by decide +kernel
theorem dX8_layWind_20 : decode cX8_layWind 20 = .ok (.aload_n 0, 1) := by decide +kernel
theorem dX8_layWind_21 : decode cX8_layWind 21 = .ok (.getfield 10, 3) := by decide +kernel
theorem dX8_layWind_24 : decode cX8_layWind 24 = .ok (.getfield 30, 3) := by decide +kernel
theorem dX8_layWind_27 : decode cX8_layWind 27 = .ok (.iload_n 1, 1) := by decide +kernel
theorem dX8_layWind_28 : decode cX8_layWind 28 = .ok (.iload 4, 2) := by decide +kernel
theorem dX8_layWind_30 : decode cX8_layWind 30 = .ok (.bastore, 1) := by decide +kernel
theorem dX8_layWind_31 : decode cX8_layWind 31 = .ok (.return_, 1) := by decide +kernel
theorem dX8_beginWind_0 : decode cX8_beginWind 0 = .ok (.aload_n 0, 1) := by decide +kernel
theorem dX8_beginWind_1 : decode cX8_beginWind 1 = .ok (.iconst 0, 1) := by decide +kernel
theorem dX8_beginWind_2 : decode cX8_beginWind 2 = .ok (.putfield 19, 3) := by decide +kernel
theorem dX8_beginWind_5 : decode cX8_beginWind 5 = .ok (.iload_n 1, 1) := by decide +kernel
theorem dX8_beginWind_6 : decode cX8_beginWind 6 = .ok (.iconst 0, 1) := by decide +kernel
theorem dX8_beginWind_7 : decode cX8_beginWind 7 = .ok (.bipush 15, 2) := by decide +kernel
theorem dX8_beginWind_9 : decode cX8_beginWind 9 = .ok (.invokestatic 34, 3) := by decide +kernel
theorem dX8_beginWind_12 : decode cX8_beginWind 12 = .ok (.ifCond .eq 13, 3) := by decide +kernel
theorem dX8_beginWind_15 : decode cX8_beginWind 15 = .ok (.iload_n 2, 1) := by decide +kernel
theorem dX8_beginWind_16 : decode cX8_beginWind 16 = .ok (.iconst 0, 1) := by decide +kernel
theorem dX8_beginWind_17 : decode cX8_beginWind 17 = .ok (.bipush 9, 2) := by decide +kernel
theorem dX8_beginWind_19 : decode cX8_beginWind 19 = .ok (.invokestatic 34, 3) := by decide +kernel
theorem dX8_beginWind_22 : decode cX8_beginWind 22 = .ok (.ifCond .ne 9, 3) := by decide +kernel
theorem dX8_beginWind_25 : decode cX8_beginWind 25 = .ok (.aload_n 0, 1) := by decide +kernel
theorem dX8_beginWind_26 : decode cX8_beginWind 26 = .ok (.iconst 1, 1) := by decide +kernel
theorem dX8_beginWind_27 : decode cX8_beginWind 27 = .ok (.invokevirtual 38, 3) := by decide +kernel
theorem dX8_beginWind_30 : decode cX8_beginWind 30 = .ok (.ireturn, 1) := by decide +kernel
theorem dX8_beginWind_31 : decode cX8_beginWind 31 = .ok (.aload_n 0, 1) := by decide +kernel
theorem dX8_beginWind_32 : decode cX8_beginWind 32 = .ok (.getfield 10, 3) := by decide +kernel
theorem dX8_beginWind_35 : decode cX8_beginWind 35 = .ok (.getfield 42, 3) := by decide +kernel
theorem dX8_beginWind_38 : decode cX8_beginWind 38 = .ok (.istore 4, 2) := by decide +kernel
theorem dX8_beginWind_40 : decode cX8_beginWind 40 = .ok (.aload_n 0, 1) := by decide +kernel
theorem dX8_beginWind_41 : decode cX8_beginWind 41 = .ok (.iconst 0, 1) := by decide +kernel
theorem dX8_beginWind_42 : decode cX8_beginWind 42 = .ok (.iload_n 1, 1) := by decide +kernel
theorem dX8_beginWind_43 : decode cX8_beginWind 43 = .ok (.iload_n 2, 1) := by decide +kernel
theorem dX8_beginWind_44 : decode cX8_beginWind 44 = .ok (.iload_n 3, 1) := by decide +kernel
theorem dX8_beginWind_45 : decode cX8_beginWind 45 = .ok (.invokevirtual 45, 3) := by decide +kernel
theorem dX8_beginWind_48 : decode cX8_beginWind 48 = .ok (.aload_n 0, 1) := by decide +kernel
theorem dX8_beginWind_49 : decode cX8_beginWind 49 = .ok (.getfield 10, 3) := by decide +kernel
theorem dX8_beginWind_52 : decode cX8_beginWind 52 = .ok (.iconst 1, 1) := by decide +kernel
theorem dX8_beginWind_53 : decode cX8_beginWind 53 = .ok (.putfield 42, 3) := by decide +kernel
theorem dX8_beginWind_56 : decode cX8_beginWind 56 = .ok (.iload 4, 2) := by decide +kernel
theorem dX8_beginWind_58 : decode cX8_beginWind 58 = .ok (.ireturn, 1) := by decide +kernel
theorem dX8_addWind_0 : decode cX8_addWind 0 = .ok (.aload_n 0, 1) := by decide +kernel
theorem dX8_addWind_1 : decode cX8_addWind 1 = .ok (.iconst 0, 1) := by decide +kernel
theorem dX8_addWind_2 : decode cX8_addWind 2 = .ok (.putfield 19, 3) := by decide +kernel
theorem dX8_addWind_5 : decode cX8_addWind 5 = .ok (.iload_n 1, 1) := by decide +kernel
theorem dX8_addWind_6 : decode cX8_addWind 6 = .ok (.iconst 0, 1) := by decide +kernel
theorem dX8_addWind_7 : decode cX8_addWind 7 = .ok (.bipush 15, 2) := by decide +kernel
theorem dX8_addWind_9 : decode cX8_addWind 9 = .ok (.invokestatic 34, 3) := by decide +kernel
theorem dX8_addWind_12 : decode cX8_addWind 12 = .ok (.ifCond .eq 13, 3) := by decide +kernel
theorem dX8_addWind_15 : decode cX8_addWind 15 = .ok (.iload_n 2, 1) := by decide +kernel
theorem dX8_addWind_16 : decode cX8_addWind 16 = .ok (.iconst 0, 1) := by decide +kernel
theorem dX8_addWind_17 : decode cX8_addWind 17 = .ok (.bipush 9, 2) := by decide +kernel
theorem dX8_addWind_19 : decode cX8_addWind 19 = .ok (.invokestatic 34, 3) := by decide +kernel
theorem dX8_addWind_22 : decode cX8_addWind 22 = .ok (.ifCond .ne 9, 3) := by decide +kernel
theorem dX8_addWind_25 : decode cX8_addWind 25 = .ok (.aload_n 0, 1) := by decide +kernel
theorem dX8_addWind_26 : decode cX8_addWind 26 = .ok (.iconst 1, 1) := by decide +kernel
theorem dX8_addWind_27 : decode cX8_addWind 27 = .ok (.invokevirtual 38, 3) := by decide +kernel
theorem dX8_addWind_30 : decode cX8_addWind 30 = .ok (.ireturn, 1) := by decide +kernel
theorem dX8_addWind_31 : decode cX8_addWind 31 = .ok (.aload_n 0, 1) := by decide +kernel
theorem dX8_addWind_32 : decode cX8_addWind 32 = .ok (.getfield 10, 3) := by decide +kernel
theorem dX8_addWind_35 : decode cX8_addWind 35 = .ok (.getfield 42, 3) := by decide +kernel
theorem dX8_addWind_38 : decode cX8_addWind 38 = .ok (.bipush 24, 2) := by decide +kernel
theorem dX8_addWind_40 : decode cX8_addWind 40 = .ok (.if_icmp .ne 9, 3) := by decide +kernel
theorem dX8_addWind_43 : decode cX8_addWind 43 = .ok (.aload_n 0, 1) := by decide +kernel
theorem dX8_addWind_44 : decode cX8_addWind 44 = .ok (.iconst 2, 1) := by decide +kernel
theorem dX8_addWind_45 : decode cX8_addWind 45 = .ok (.invokevirtual 38, 3) := by decide +kernel
theorem dX8_addWind_48 : decode cX8_addWind 48 = .ok (.ireturn, 1) := by decide +kernel
theorem dX8_addWind_49 : decode cX8_addWind 49 = .ok (.aload_n 0, 1) := by decide +kernel
theorem dX8_addWind_50 : decode cX8_addWind 50 = .ok (.aload_n 0, 1) := by decide +kernel
theorem dX8_addWind_51 : decode cX8_addWind 51 = .ok (.getfield 10, 3) := by decide +kernel
theorem dX8_addWind_54 : decode cX8_addWind 54 = .ok (.getfield 42, 3) := by decide +kernel
theorem dX8_addWind_57 : decode cX8_addWind 57 = .ok (.iload_n 1, 1) := by decide +kernel
theorem dX8_addWind_58 : decode cX8_addWind 58 = .ok (.iload_n 2, 1) := by decide +kernel
theorem dX8_addWind_59 : decode cX8_addWind 59 = .ok (.iload_n 3, 1) := by decide +kernel
theorem dX8_addWind_60 : decode cX8_addWind 60 = .ok (.invokevirtual 45, 3) := by decide +kernel
theorem dX8_addWind_63 : decode cX8_addWind 63 = .ok (.aload_n 0, 1) := by decide +kernel
theorem dX8_addWind_64 : decode cX8_addWind 64 = .ok (.getfield 10, 3) := by decide +kernel
theorem dX8_addWind_67 : decode cX8_addWind 67 = .ok (.dup, 1) := by decide +kernel
theorem dX8_addWind_68 : decode cX8_addWind 68 = .ok (.getfield 42, 3) := by decide +kernel
theorem dX8_addWind_71 : decode cX8_addWind 71 = .ok (.iconst 1, 1) := by decide +kernel
theorem dX8_addWind_72 : decode cX8_addWind 72 = .ok (.iadd, 1) := by decide +kernel
theorem dX8_addWind_73 : decode cX8_addWind 73 = .ok (.putfield 42, 3) := by decide +kernel
theorem dX8_addWind_76 : decode cX8_addWind 76 = .ok (.aload_n 0, 1) := by decide +kernel
theorem dX8_addWind_77 : decode cX8_addWind 77 = .ok (.getfield 10, 3) := by decide +kernel
theorem dX8_addWind_80 : decode cX8_addWind 80 = .ok (.getfield 42, 3) := by decide +kernel
theorem dX8_addWind_83 : decode cX8_addWind 83 = .ok (.ireturn, 1) := by decide +kernel
theorem dX8_windTold_0 : decode cX8_windTold 0 = .ok (.iload_n 2, 1) := by decide +kernel
theorem dX8_windTold_1 : decode cX8_windTold 1 = .ok (.ifCond .ne 15, 3) := by decide +kernel
theorem dX8_windTold_4 : decode cX8_windTold 4 = .ok (.aload_n 0, 1) := by decide +kernel
theorem dX8_windTold_5 : decode cX8_windTold 5 = .ok (.getfield 10, 3) := by decide +kernel
theorem dX8_windTold_8 : decode cX8_windTold 8 = .ok (.getfield 23, 3) := by decide +kernel
theorem dX8_windTold_11 : decode cX8_windTold 11 = .ok (.iload_n 1, 1) := by decide +kernel
theorem dX8_windTold_12 : decode cX8_windTold 12 = .ok (.iaload, 1) := by decide +kernel
theorem dX8_windTold_13 : decode cX8_windTold 13 = .ok (.goto 37, 3) := by decide +kernel
theorem dX8_windTold_16 : decode cX8_windTold 16 = .ok (.iload_n 2, 1) := by decide +kernel
theorem dX8_windTold_17 : decode cX8_windTold 17 = .ok (.iconst 1, 1) := by decide +kernel
theorem dX8_windTold_18 : decode cX8_windTold 18 = .ok (.if_icmp .ne 15, 3) := by decide +kernel
theorem dX8_windTold_21 : decode cX8_windTold 21 = .ok (.aload_n 0, 1) := by decide +kernel
theorem dX8_windTold_22 : decode cX8_windTold 22 = .ok (.getfield 10, 3) := by decide +kernel
theorem dX8_windTold_25 : decode cX8_windTold 25 = .ok (.getfield 27, 3) := by decide +kernel
theorem dX8_windTold_28 : decode cX8_windTold 28 = .ok (.iload_n 1, 1) := by decide +kernel
theorem dX8_windTold_29 : decode cX8_windTold 29 = .ok (.iaload, 1) := by decide +kernel
theorem dX8_windTold_30 : decode cX8_windTold 30 = .ok (.goto 20, 3) := by decide +kernel
theorem dX8_windTold_33 : decode cX8_windTold 33 = .ok (.aload_n 0, 1) := by decide +kernel
theorem dX8_windTold_34 : decode cX8_windTold 34 = .ok (.getfield 10, 3) := by decide +kernel
theorem dX8_windTold_37 : decode cX8_windTold 37 = .ok (.getfield 30, 3) := by decide +kernel
theorem dX8_windTold_40 : decode cX8_windTold 40 = .ok (.iload_n 1, 1) := by decide +kernel
theorem dX8_windTold_41 : decode cX8_windTold 41 = .ok (.baload, 1) := by decide +kernel
theorem dX8_windTold_42 : decode cX8_windTold 42 = .ok (.ifCond .eq 7, 3) := by decide +kernel
theorem dX8_windTold_45 : decode cX8_windTold 45 = .ok (.iconst 1, 1) := by decide +kernel
theorem dX8_windTold_46 : decode cX8_windTold 46 = .ok (.goto 4, 3) := by decide +kernel
theorem dX8_windTold_49 : decode cX8_windTold 49 = .ok (.iconst 0, 1) := by decide +kernel
theorem dX8_windTold_50 : decode cX8_windTold 50 = .ok (.ireturn, 1) := by decide +kernel
theorem dX8_wind_0 : decode cX8_wind 0 = .ok (.aload_n 0, 1) := by decide +kernel
theorem dX8_wind_1 : decode cX8_wind 1 = .ok (.iconst 0, 1) := by decide +kernel
theorem dX8_wind_2 : decode cX8_wind 2 = .ok (.putfield 19, 3) := by decide +kernel
theorem dX8_wind_5 : decode cX8_wind 5 = .ok (.iload_n 1, 1) := by decide +kernel
theorem dX8_wind_6 : decode cX8_wind 6 = .ok (.ifCond .ge 9, 3) := by decide +kernel
theorem dX8_wind_9 : decode cX8_wind 9 = .ok (.aload_n 0, 1) := by decide +kernel
theorem dX8_wind_10 : decode cX8_wind 10 = .ok (.iconst 1, 1) := by decide +kernel
theorem dX8_wind_11 : decode cX8_wind 11 = .ok (.invokevirtual 38, 3) := by decide +kernel
theorem dX8_wind_14 : decode cX8_wind 14 = .ok (.ireturn, 1) := by decide +kernel
theorem dX8_wind_15 : decode cX8_wind 15 = .ok (.iload_n 2, 1) := by decide +kernel
theorem dX8_wind_16 : decode cX8_wind 16 = .ok (.iconst 0, 1) := by decide +kernel
theorem dX8_wind_17 : decode cX8_wind 17 = .ok (.iconst 2, 1) := by decide +kernel
theorem dX8_wind_18 : decode cX8_wind 18 = .ok (.invokestatic 34, 3) := by decide +kernel
theorem dX8_wind_21 : decode cX8_wind 21 = .ok (.ifCond .ne 9, 3) := by decide +kernel
theorem dX8_wind_24 : decode cX8_wind 24 = .ok (.aload_n 0, 1) := by decide +kernel
theorem dX8_wind_25 : decode cX8_wind 25 = .ok (.iconst 2, 1) := by decide +kernel
theorem dX8_wind_26 : decode cX8_wind 26 = .ok (.invokevirtual 38, 3) := by decide +kernel
theorem dX8_wind_29 : decode cX8_wind 29 = .ok (.ireturn, 1) := by decide +kernel
theorem dX8_wind_30 : decode cX8_wind 30 = .ok (.aload_n 0, 1) := by decide +kernel
theorem dX8_wind_31 : decode cX8_wind 31 = .ok (.iload_n 1, 1) := by decide +kernel
theorem dX8_wind_32 : decode cX8_wind 32 = .ok (.aload_n 0, 1) := by decide +kernel
theorem dX8_wind_33 : decode cX8_wind 33 = .ok (.getfield 10, 3) := by decide +kernel
theorem dX8_wind_36 : decode cX8_wind 36 = .ok (.getfield 42, 3) := by decide +kernel
theorem dX8_wind_39 : decode cX8_wind 39 = .ok (.irem, 1) := by decide +kernel
theorem dX8_wind_40 : decode cX8_wind 40 = .ok (.iload_n 2, 1) := by decide +kernel
theorem dX8_wind_41 : decode cX8_wind 41 = .ok (.invokevirtual 49, 3) := by decide +kernel
theorem dX8_wind_44 : decode cX8_wind 44 = .ok (.ireturn, 1) := by decide +kernel
theorem dX8_setUp_0 : decode cX8_setUp 0 = .ok (.aload_n 0, 1) := by decide +kernel
theorem dX8_setUp_1 : decode cX8_setUp 1 = .ok (.iconst 0, 1) := by decide +kernel
theorem dX8_setUp_2 : decode cX8_setUp 2 = .ok (.putfield 19, 3) := by decide +kernel
theorem dX8_setUp_5 : decode cX8_setUp 5 = .ok (.iload_n 1, 1) := by decide +kernel
theorem dX8_setUp_6 : decode cX8_setUp 6 = .ok (.iconst 0, 1) := by decide +kernel
theorem dX8_setUp_7 : decode cX8_setUp 7 = .ok (.bipush 11, 2) := by decide +kernel
theorem dX8_setUp_9 : decode cX8_setUp 9 = .ok (.invokestatic 34, 3) := by decide +kernel
theorem dX8_setUp_12 : decode cX8_setUp 12 = .ok (.ifCond .eq 56, 3) := by decide +kernel
theorem dX8_setUp_15 : decode cX8_setUp 15 = .ok (.iload_n 2, 1) := by decide +kernel
theorem dX8_setUp_16 : decode cX8_setUp 16 = .ok (.iconst 0, 1) := by decide +kernel
theorem dX8_setUp_17 : decode cX8_setUp 17 = .ok (.bipush 11, 2) := by decide +kernel
theorem dX8_setUp_19 : decode cX8_setUp 19 = .ok (.invokestatic 34, 3) := by decide +kernel
theorem dX8_setUp_22 : decode cX8_setUp 22 = .ok (.ifCond .eq 46, 3) := by decide +kernel
theorem dX8_setUp_25 : decode cX8_setUp 25 = .ok (.iload_n 3, 1) := by decide +kernel
theorem dX8_setUp_26 : decode cX8_setUp 26 = .ok (.iconst 1, 1) := by decide +kernel
theorem dX8_setUp_27 : decode cX8_setUp 27 = .ok (.bipush 9, 2) := by decide +kernel
theorem dX8_setUp_29 : decode cX8_setUp 29 = .ok (.invokestatic 34, 3) := by decide +kernel
theorem dX8_setUp_32 : decode cX8_setUp 32 = .ok (.ifCond .eq 36, 3) := by decide +kernel
theorem dX8_setUp_35 : decode cX8_setUp 35 = .ok (.iload 4, 2) := by decide +kernel
theorem dX8_setUp_37 : decode cX8_setUp 37 = .ok (.iconst 1, 1) := by decide +kernel
theorem dX8_setUp_38 : decode cX8_setUp 38 = .ok (.bipush 9, 2) := by decide +kernel
theorem dX8_setUp_40 : decode cX8_setUp 40 = .ok (.invokestatic 34, 3) := by decide +kernel
theorem dX8_setUp_43 : decode cX8_setUp 43 = .ok (.ifCond .eq 25, 3) := by decide +kernel
theorem dX8_setUp_46 : decode cX8_setUp 46 = .ok (.iload 5, 2) := by decide +kernel
theorem dX8_setUp_48 : decode cX8_setUp 48 = .ok (.iconst 0, 1) := by decide +kernel
theorem dX8_setUp_49 : decode cX8_setUp 49 = .ok (.bipush 9, 2) := by decide +kernel
theorem dX8_setUp_51 : decode cX8_setUp 51 = .ok (.invokestatic 34, 3) := by decide +kernel
theorem dX8_setUp_54 : decode cX8_setUp 54 = .ok (.ifCond .eq 14, 3) := by decide +kernel
theorem dX8_setUp_57 : decode cX8_setUp 57 = .ok (.iload 6, 2) := by decide +kernel
theorem dX8_setUp_59 : decode cX8_setUp 59 = .ok (.iconst 0, 1) := by decide +kernel
theorem dX8_setUp_60 : decode cX8_setUp 60 = .ok (.bipush 15, 2) := by decide +kernel
theorem dX8_setUp_62 : decode cX8_setUp 62 = .ok (.invokestatic 34, 3) := by decide +kernel
theorem dX8_setUp_65 : decode cX8_setUp 65 = .ok (.ifCond .ne 9, 3) := by decide +kernel
theorem dX8_setUp_68 : decode cX8_setUp 68 = .ok (.aload_n 0, 1) := by decide +kernel
theorem dX8_setUp_69 : decode cX8_setUp 69 = .ok (.iconst 1, 1) := by decide +kernel
theorem dX8_setUp_70 : decode cX8_setUp 70 = .ok (.invokevirtual 38, 3) := by decide +kernel
theorem dX8_setUp_73 : decode cX8_setUp 73 = .ok (.ireturn, 1) := by decide +kernel
theorem dX8_setUp_74 : decode cX8_setUp 74 = .ok (.aload_n 0, 1) := by decide +kernel
theorem dX8_setUp_75 : decode cX8_setUp 75 = .ok (.getfield 10, 3) := by decide +kernel
theorem dX8_setUp_78 : decode cX8_setUp 78 = .ok (.getfield 53, 3) := by decide +kernel
theorem dX8_setUp_81 : decode cX8_setUp 81 = .ok (.bipush 16, 2) := by decide +kernel
theorem dX8_setUp_83 : decode cX8_setUp 83 = .ok (.if_icmp .ge 7, 3) := by decide +kernel
theorem dX8_setUp_86 : decode cX8_setUp 86 = .ok (.iconst 1, 1) := by decide +kernel
theorem dX8_setUp_87 : decode cX8_setUp 87 = .ok (.goto 4, 3) := by decide +kernel
theorem dX8_setUp_90 : decode cX8_setUp 90 = .ok (.iconst 0, 1) := by decide +kernel
theorem dX8_setUp_91 : decode cX8_setUp 91 = .ok (.istore 7, 2) := by decide +kernel
theorem dX8_setUp_93 : decode cX8_setUp 93 = .ok (.iconst 0, 1) := by decide +kernel
theorem dX8_setUp_94 : decode cX8_setUp 94 = .ok (.istore 8, 2) := by decide +kernel
theorem dX8_setUp_96 : decode cX8_setUp 96 = .ok (.iload 8, 2) := by decide +kernel
theorem dX8_setUp_98 : decode cX8_setUp 98 = .ok (.aload_n 0, 1) := by decide +kernel
theorem dX8_setUp_99 : decode cX8_setUp 99 = .ok (.getfield 10, 3) := by decide +kernel
theorem dX8_setUp_102 : decode cX8_setUp 102 = .ok (.getfield 53, 3) := by decide +kernel
theorem dX8_setUp_105 : decode cX8_setUp 105 = .ok (.if_icmp .ge 49, 3) := by decide +kernel
theorem dX8_setUp_108 : decode cX8_setUp 108 = .ok (.iload 7, 2) := by decide +kernel
theorem dX8_setUp_110 : decode cX8_setUp 110 = .ok (.ifCond .eq 35, 3) := by decide +kernel
theorem dX8_setUp_113 : decode cX8_setUp 113 = .ok (.aload_n 0, 1) := by decide +kernel
theorem dX8_setUp_114 : decode cX8_setUp 114 = .ok (.getfield 10, 3) := by decide +kernel
theorem dX8_setUp_117 : decode cX8_setUp 117 = .ok (.iload 8, 2) := by decide +kernel
theorem dX8_setUp_119 : decode cX8_setUp 119 = .ok (.iconst 0, 1) := by decide +kernel
theorem dX8_setUp_120 : decode cX8_setUp 120 = .ok (.invokevirtual 56, 3) := by decide +kernel
theorem dX8_setUp_123 : decode cX8_setUp 123 = .ok (.iload_n 1, 1) := by decide +kernel
theorem dX8_setUp_124 : decode cX8_setUp 124 = .ok (.if_icmp .ne 17, 3) := by decide +kernel
theorem dX8_setUp_127 : decode cX8_setUp 127 = .ok (.aload_n 0, 1) := by decide +kernel
theorem dX8_setUp_128 : decode cX8_setUp 128 = .ok (.getfield 10, 3) := by decide +kernel
theorem dX8_setUp_131 : decode cX8_setUp 131 = .ok (.iload 8, 2) := by decide +kernel
theorem dX8_setUp_133 : decode cX8_setUp 133 = .ok (.iconst 1, 1) := by decide +kernel
theorem dX8_setUp_134 : decode cX8_setUp 134 = .ok (.invokevirtual 56, 3) := by decide +kernel
theorem dX8_setUp_137 : decode cX8_setUp 137 = .ok (.iload_n 2, 1) := by decide +kernel
theorem dX8_setUp_138 : decode cX8_setUp 138 = .ok (.if_icmp .eq 7, 3) := by decide +kernel
theorem dX8_setUp_141 : decode cX8_setUp 141 = .ok (.iconst 1, 1) := by decide +kernel
theorem dX8_setUp_142 : decode cX8_setUp 142 = .ok (.goto 4, 3) := by decide +kernel
theorem dX8_setUp_145 : decode cX8_setUp 145 = .ok (.iconst 0, 1) := by decide +kernel
theorem dX8_setUp_146 : decode cX8_setUp 146 = .ok (.istore 7, 2) := by decide +kernel
theorem dX8_setUp_148 : decode cX8_setUp 148 = .ok (.iinc 8 1, 3) := by decide +kernel
theorem dX8_setUp_151 : decode cX8_setUp 151 = .ok (.goto (-55), 3) := by decide +kernel
theorem dX8_setUp_154 : decode cX8_setUp 154 = .ok (.iload 7, 2) := by decide +kernel
theorem dX8_setUp_156 : decode cX8_setUp 156 = .ok (.ifCond .ne 9, 3) := by decide +kernel
theorem dX8_setUp_159 : decode cX8_setUp 159 = .ok (.aload_n 0, 1) := by decide +kernel
theorem dX8_setUp_160 : decode cX8_setUp 160 = .ok (.iconst 2, 1) := by decide +kernel
theorem dX8_setUp_161 : decode cX8_setUp 161 = .ok (.invokevirtual 38, 3) := by decide +kernel
theorem dX8_setUp_164 : decode cX8_setUp 164 = .ok (.ireturn, 1) := by decide +kernel
theorem dX8_setUp_165 : decode cX8_setUp 165 = .ok (.bipush 10, 2) := by decide +kernel
theorem dX8_setUp_167 : decode cX8_setUp 167 = .ok (.newarray .int, 2) := by decide +kernel
theorem dX8_setUp_169 : decode cX8_setUp 169 = .ok (.dup, 1) := by decide +kernel
theorem dX8_setUp_170 : decode cX8_setUp 170 = .ok (.iconst 0, 1) := by decide +kernel
theorem dX8_setUp_171 : decode cX8_setUp 171 = .ok (.iload_n 1, 1) := by decide +kernel
theorem dX8_setUp_172 : decode cX8_setUp 172 = .ok (.iastore, 1) := by decide +kernel
theorem dX8_setUp_173 : decode cX8_setUp 173 = .ok (.dup, 1) := by decide +kernel
theorem dX8_setUp_174 : decode cX8_setUp 174 = .ok (.iconst 1, 1) := by decide +kernel
theorem dX8_setUp_175 : decode cX8_setUp 175 = .ok (.iload_n 2, 1) := by decide +kernel
theorem dX8_setUp_176 : decode cX8_setUp 176 = .ok (.iastore, 1) := by decide +kernel
theorem dX8_setUp_177 : decode cX8_setUp 177 = .ok (.dup, 1) := by decide +kernel
theorem dX8_setUp_178 : decode cX8_setUp 178 = .ok (.iconst 2, 1) := by decide +kernel
theorem dX8_setUp_179 : decode cX8_setUp 179 = .ok (.iload_n 3, 1) := by decide +kernel
theorem dX8_setUp_180 : decode cX8_setUp 180 = .ok (.iastore, 1) := by decide +kernel
theorem dX8_setUp_181 : decode cX8_setUp 181 = .ok (.dup, 1) := by decide +kernel
theorem dX8_setUp_182 : decode cX8_setUp 182 = .ok (.iconst 3, 1) := by decide +kernel
theorem dX8_setUp_183 : decode cX8_setUp 183 = .ok (.iload 4, 2) := by decide +kernel
theorem dX8_setUp_185 : decode cX8_setUp 185 = .ok (.iastore, 1) := by decide +kernel
theorem dX8_setUp_186 : decode cX8_setUp 186 = .ok (.dup, 1) := by decide +kernel
theorem dX8_setUp_187 : decode cX8_setUp 187 = .ok (.iconst 4, 1) := by decide +kernel
theorem dX8_setUp_188 : decode cX8_setUp 188 = .ok (.iload 5, 2) := by decide +kernel
theorem dX8_setUp_190 : decode cX8_setUp 190 = .ok (.iastore, 1) := by decide +kernel
theorem dX8_setUp_191 : decode cX8_setUp 191 = .ok (.dup, 1) := by decide +kernel
theorem dX8_setUp_192 : decode cX8_setUp 192 = .ok (.iconst 5, 1) := by decide +kernel
theorem dX8_setUp_193 : decode cX8_setUp 193 = .ok (.iconst 0, 1) := by decide +kernel
theorem dX8_setUp_194 : decode cX8_setUp 194 = .ok (.iastore, 1) := by decide +kernel
theorem dX8_setUp_195 : decode cX8_setUp 195 = .ok (.dup, 1) := by decide +kernel
theorem dX8_setUp_196 : decode cX8_setUp 196 = .ok (.bipush 6, 2) := by decide +kernel
theorem dX8_setUp_198 : decode cX8_setUp 198 = .ok (.iload 6, 2) := by decide +kernel
theorem dX8_setUp_200 : decode cX8_setUp 200 = .ok (.iastore, 1) := by decide +kernel
theorem dX8_setUp_201 : decode cX8_setUp 201 = .ok (.dup, 1) := by decide +kernel
theorem dX8_setUp_202 : decode cX8_setUp 202 = .ok (.bipush 7, 2) := by decide +kernel
theorem dX8_setUp_204 : decode cX8_setUp 204 = .ok (.iconst 0, 1) := by decide +kernel
theorem dX8_setUp_205 : decode cX8_setUp 205 = .ok (.iastore, 1) := by decide +kernel
theorem dX8_setUp_206 : decode cX8_setUp 206 = .ok (.dup, 1) := by decide +kernel
theorem dX8_setUp_207 : decode cX8_setUp 207 = .ok (.bipush 8, 2) := by decide +kernel
theorem dX8_setUp_209 : decode cX8_setUp 209 = .ok (.iconst 0, 1) := by decide +kernel
theorem dX8_setUp_210 : decode cX8_setUp 210 = .ok (.iastore, 1) := by decide +kernel
theorem dX8_setUp_211 : decode cX8_setUp 211 = .ok (.dup, 1) := by decide +kernel
theorem dX8_setUp_212 : decode cX8_setUp 212 = .ok (.bipush 9, 2) := by decide +kernel
theorem dX8_setUp_214 : decode cX8_setUp 214 = .ok (.iconst 0, 1) := by decide +kernel
theorem dX8_setUp_215 : decode cX8_setUp 215 = .ok (.iastore, 1) := by decide +kernel
theorem dX8_setUp_216 : decode cX8_setUp 216 = .ok (.astore 8, 2) := by decide +kernel
theorem dX8_setUp_218 : decode cX8_setUp 218 = .ok (.aload 8, 2) := by decide +kernel
theorem dX8_setUp_220 : decode cX8_setUp 220 = .ok (.iconst 0, 1) := by decide +kernel
theorem dX8_setUp_221 : decode cX8_setUp 221 = .ok (.aload_n 0, 1) := by decide +kernel
theorem dX8_setUp_222 : decode cX8_setUp 222 = .ok (.getfield 10, 3) := by decide +kernel
theorem dX8_setUp_225 : decode cX8_setUp 225 = .ok (.getfield 59, 3) := by decide +kernel
theorem dX8_setUp_228 : decode cX8_setUp 228 = .ok (.bipush 10, 2) := by decide +kernel
theorem dX8_setUp_230 : decode cX8_setUp 230 = .ok (.aload_n 0, 1) := by decide +kernel
theorem dX8_setUp_231 : decode cX8_setUp 231 = .ok (.getfield 10, 3) := by decide +kernel
theorem dX8_setUp_234 : decode cX8_setUp 234 = .ok (.getfield 53, 3) := by decide +kernel
theorem dX8_setUp_237 : decode cX8_setUp 237 = .ok (.imul, 1) := by decide +kernel
theorem dX8_setUp_238 : decode cX8_setUp 238 = .ok (.bipush 10, 2) := by decide +kernel
theorem dX8_setUp_240 : decode cX8_setUp 240 = .ok (.invokestatic 62, 3) := by decide +kernel
theorem dX8_setUp_243 : decode cX8_setUp 243 = .ok (.aload_n 0, 1) := by decide +kernel
theorem dX8_setUp_244 : decode cX8_setUp 244 = .ok (.getfield 10, 3) := by decide +kernel
theorem dX8_setUp_247 : decode cX8_setUp 247 = .ok (.dup, 1) := by decide +kernel
theorem dX8_setUp_248 : decode cX8_setUp 248 = .ok (.getfield 53, 3) := by decide +kernel
theorem dX8_setUp_251 : decode cX8_setUp 251 = .ok (.iconst 1, 1) := by decide +kernel
theorem dX8_setUp_252 : decode cX8_setUp 252 = .ok (.iadd, 1) := by decide +kernel
theorem dX8_setUp_253 : decode cX8_setUp 253 = .ok (.putfield 53, 3) := by decide +kernel
theorem dX8_setUp_256 : decode cX8_setUp 256 = .ok (.aload_n 0, 1) := by decide +kernel
theorem dX8_setUp_257 : decode cX8_setUp 257 = .ok (.getfield 10, 3) := by decide +kernel
theorem dX8_setUp_260 : decode cX8_setUp 260 = .ok (.getfield 53, 3) := by decide +kernel
theorem dX8_setUp_263 : decode cX8_setUp 263 = .ok (.iconst 1, 1) := by decide +kernel
theorem dX8_setUp_264 : decode cX8_setUp 264 = .ok (.isub, 1) := by decide +kernel
theorem dX8_setUp_265 : decode cX8_setUp 265 = .ok (.ireturn, 1) := by decide +kernel
theorem dX8_isVane_0 : decode cX8_isVane 0 = .ok (.iload_n 1, 1) := by decide +kernel
theorem dX8_isVane_1 : decode cX8_isVane 1 = .ok (.iconst 0, 1) := by decide +kernel
theorem dX8_isVane_2 : decode cX8_isVane 2 = .ok (.aload_n 0, 1) := by decide +kernel
theorem dX8_isVane_3 : decode cX8_isVane 3 = .ok (.getfield 10, 3) := by decide +kernel
theorem dX8_isVane_6 : decode cX8_isVane 6 = .ok (.getfield 53, 3) := by decide +kernel
theorem dX8_isVane_9 : decode cX8_isVane 9 = .ok (.iconst 1, 1) := by decide +kernel
theorem dX8_isVane_10 : decode cX8_isVane 10 = .ok (.isub, 1) := by decide +kernel
theorem dX8_isVane_11 : decode cX8_isVane 11 = .ok (.invokestatic 34, 3) := by decide +kernel
theorem dX8_isVane_14 : decode cX8_isVane 14 = .ok (.ireturn, 1) := by decide +kernel
theorem dX8_oil_0 : decode cX8_oil 0 = .ok (.aload_n 0, 1) := by decide +kernel
theorem dX8_oil_1 : decode cX8_oil 1 = .ok (.iconst 0, 1) := by decide +kernel
theorem dX8_oil_2 : decode cX8_oil 2 = .ok (.putfield 19, 3) := by decide +kernel
theorem dX8_oil_5 : decode cX8_oil 5 = .ok (.aload_n 0, 1) := by decide +kernel
theorem dX8_oil_6 : decode cX8_oil 6 = .ok (.iload_n 1, 1) := by decide +kernel
theorem dX8_oil_7 : decode cX8_oil 7 = .ok (.invokevirtual 68, 3) := by decide +kernel
theorem dX8_oil_10 : decode cX8_oil 10 = .ok (.ifCond .ne 9, 3) := by decide +kernel
theorem dX8_oil_13 : decode cX8_oil 13 = .ok (.aload_n 0, 1) := by decide +kernel
theorem dX8_oil_14 : decode cX8_oil 14 = .ok (.iconst 1, 1) := by decide +kernel
theorem dX8_oil_15 : decode cX8_oil 15 = .ok (.invokevirtual 38, 3) := by decide +kernel
theorem dX8_oil_18 : decode cX8_oil 18 = .ok (.ireturn, 1) := by decide +kernel
theorem dX8_oil_19 : decode cX8_oil 19 = .ok (.aload_n 0, 1) := by decide +kernel
theorem dX8_oil_20 : decode cX8_oil 20 = .ok (.getfield 10, 3) := by decide +kernel
theorem dX8_oil_23 : decode cX8_oil 23 = .ok (.iload_n 1, 1) := by decide +kernel
theorem dX8_oil_24 : decode cX8_oil 24 = .ok (.iconst 5, 1) := by decide +kernel
theorem dX8_oil_25 : decode cX8_oil 25 = .ok (.invokevirtual 56, 3) := by decide +kernel
theorem dX8_oil_28 : decode cX8_oil 28 = .ok (.istore_n 2, 1) := by decide +kernel
theorem dX8_oil_29 : decode cX8_oil 29 = .ok (.aload_n 0, 1) := by decide +kernel
theorem dX8_oil_30 : decode cX8_oil 30 = .ok (.getfield 10, 3) := by decide +kernel
theorem dX8_oil_33 : decode cX8_oil 33 = .ok (.iload_n 1, 1) := by decide +kernel
theorem dX8_oil_34 : decode cX8_oil 34 = .ok (.invokevirtual 72, 3) := by decide +kernel
theorem dX8_oil_37 : decode cX8_oil 37 = .ok (.iload_n 2, 1) := by decide +kernel
theorem dX8_oil_38 : decode cX8_oil 38 = .ok (.ireturn, 1) := by decide +kernel
theorem dX8_turn_0 : decode cX8_turn 0 = .ok (.aload_n 0, 1) := by decide +kernel
theorem dX8_turn_1 : decode cX8_turn 1 = .ok (.iconst 0, 1) := by decide +kernel
theorem dX8_turn_2 : decode cX8_turn 2 = .ok (.putfield 19, 3) := by decide +kernel
theorem dX8_turn_5 : decode cX8_turn 5 = .ok (.aload_n 0, 1) := by decide +kernel
theorem dX8_turn_6 : decode cX8_turn 6 = .ok (.iload_n 1, 1) := by decide +kernel
theorem dX8_turn_7 : decode cX8_turn 7 = .ok (.invokevirtual 68, 3) := by decide +kernel
theorem dX8_turn_10 : decode cX8_turn 10 = .ok (.ifCond .ne 9, 3) := by decide +kernel
theorem dX8_turn_13 : decode cX8_turn 13 = .ok (.aload_n 0, 1) := by decide +kernel
theorem dX8_turn_14 : decode cX8_turn 14 = .ok (.iconst 1, 1) := by decide +kernel
theorem dX8_turn_15 : decode cX8_turn 15 = .ok (.invokevirtual 38, 3) := by decide +kernel
theorem dX8_turn_18 : decode cX8_turn 18 = .ok (.ireturn, 1) := by decide +kernel
theorem dX8_turn_19 : decode cX8_turn 19 = .ok (.iload_n 2, 1) := by decide +kernel
theorem dX8_turn_20 : decode cX8_turn 20 = .ok (.iconst 0, 1) := by decide +kernel
theorem dX8_turn_21 : decode cX8_turn 21 = .ok (.bipush 15, 2) := by decide +kernel
theorem dX8_turn_23 : decode cX8_turn 23 = .ok (.invokestatic 34, 3) := by decide +kernel
theorem dX8_turn_26 : decode cX8_turn 26 = .ok (.ifCond .ne 9, 3) := by decide +kernel
theorem dX8_turn_29 : decode cX8_turn 29 = .ok (.aload_n 0, 1) := by decide +kernel
theorem dX8_turn_30 : decode cX8_turn 30 = .ok (.iconst 2, 1) := by decide +kernel
theorem dX8_turn_31 : decode cX8_turn 31 = .ok (.invokevirtual 38, 3) := by decide +kernel
theorem dX8_turn_34 : decode cX8_turn 34 = .ok (.ireturn, 1) := by decide +kernel
theorem dX8_turn_35 : decode cX8_turn 35 = .ok (.aload_n 0, 1) := by decide +kernel
theorem dX8_turn_36 : decode cX8_turn 36 = .ok (.getfield 10, 3) := by decide +kernel
theorem dX8_turn_39 : decode cX8_turn 39 = .ok (.iload_n 1, 1) := by decide +kernel
theorem dX8_turn_40 : decode cX8_turn 40 = .ok (.bipush 8, 2) := by decide +kernel
theorem dX8_turn_42 : decode cX8_turn 42 = .ok (.invokevirtual 56, 3) := by decide +kernel
theorem dX8_turn_45 : decode cX8_turn 45 = .ok (.ifCond .le 9, 3) := by decide +kernel
theorem dX8_turn_48 : decode cX8_turn 48 = .ok (.aload_n 0, 1) := by decide +kernel
theorem dX8_turn_49 : decode cX8_turn 49 = .ok (.iconst 3, 1) := by decide +kernel
theorem dX8_turn_50 : decode cX8_turn 50 = .ok (.invokevirtual 38, 3) := by decide +kernel
theorem dX8_turn_53 : decode cX8_turn 53 = .ok (.ireturn, 1) := by decide +kernel
theorem dX8_turn_54 : decode cX8_turn 54 = .ok (.aload_n 0, 1) := by decide +kernel
theorem dX8_turn_55 : decode cX8_turn 55 = .ok (.getfield 10, 3) := by decide +kernel
theorem dX8_turn_58 : decode cX8_turn 58 = .ok (.iload_n 1, 1) := by decide +kernel
theorem dX8_turn_59 : decode cX8_turn 59 = .ok (.bipush 6, 2) := by decide +kernel
theorem dX8_turn_61 : decode cX8_turn 61 = .ok (.invokevirtual 56, 3) := by decide +kernel
theorem dX8_turn_64 : decode cX8_turn 64 = .ok (.istore_n 3, 1) := by decide +kernel
theorem dX8_turn_65 : decode cX8_turn 65 = .ok (.aload_n 0, 1) := by decide +kernel
theorem dX8_turn_66 : decode cX8_turn 66 = .ok (.getfield 10, 3) := by decide +kernel
theorem dX8_turn_69 : decode cX8_turn 69 = .ok (.iload_n 1, 1) := by decide +kernel
theorem dX8_turn_70 : decode cX8_turn 70 = .ok (.bipush 6, 2) := by decide +kernel
theorem dX8_turn_72 : decode cX8_turn 72 = .ok (.iload_n 2, 1) := by decide +kernel
theorem dX8_turn_73 : decode cX8_turn 73 = .ok (.invokevirtual 76, 3) := by decide +kernel
theorem dX8_turn_76 : decode cX8_turn 76 = .ok (.aload_n 0, 1) := by decide +kernel
theorem dX8_turn_77 : decode cX8_turn 77 = .ok (.getfield 10, 3) := by decide +kernel
theorem dX8_turn_80 : decode cX8_turn 80 = .ok (.iload_n 1, 1) := by decide +kernel
theorem dX8_turn_81 : decode cX8_turn 81 = .ok (.bipush 7, 2) := by decide +kernel
theorem dX8_turn_83 : decode cX8_turn 83 = .ok (.iconst 0, 1) := by decide +kernel
theorem dX8_turn_84 : decode cX8_turn 84 = .ok (.invokevirtual 76, 3) := by decide +kernel
theorem dX8_turn_87 : decode cX8_turn 87 = .ok (.iload_n 3, 1) := by decide +kernel
theorem dX8_turn_88 : decode cX8_turn 88 = .ok (.ireturn, 1) := by decide +kernel
theorem dX8_partyOf_0 : decode cX8_partyOf 0 = .ok (.aload_n 0, 1) := by decide +kernel
theorem dX8_partyOf_1 : decode cX8_partyOf 1 = .ok (.getfield 10, 3) := by decide +kernel
theorem dX8_partyOf_4 : decode cX8_partyOf 4 = .ok (.iload_n 1, 1) := by decide +kernel
theorem dX8_partyOf_5 : decode cX8_partyOf 5 = .ok (.bipush 6, 2) := by decide +kernel
theorem dX8_partyOf_7 : decode cX8_partyOf 7 = .ok (.invokevirtual 56, 3) := by decide +kernel
theorem dX8_partyOf_10 : decode cX8_partyOf 10 = .ok (.iconst 2, 1) := by decide +kernel
theorem dX8_partyOf_11 : decode cX8_partyOf 11 = .ok (.iadd, 1) := by decide +kernel
theorem dX8_partyOf_12 : decode cX8_partyOf 12 = .ok (.iconst 4, 1) := by decide +kernel
theorem dX8_partyOf_13 : decode cX8_partyOf 13 = .ok (.idiv, 1) := by decide +kernel
theorem dX8_partyOf_14 : decode cX8_partyOf 14 = .ok (.iconst 4, 1) := by decide +kernel
theorem dX8_partyOf_15 : decode cX8_partyOf 15 = .ok (.irem, 1) := by decide +kernel
theorem dX8_partyOf_16 : decode cX8_partyOf 16 = .ok (.ireturn, 1) := by decide +kernel
theorem dX8_vaneTold_0 : decode cX8_vaneTold 0 = .ok (.iload_n 2, 1) := by decide +kernel
theorem dX8_vaneTold_1 : decode cX8_vaneTold 1 = .ok (.bipush 9, 2) := by decide +kernel
theorem dX8_vaneTold_3 : decode cX8_vaneTold 3 = .ok (.if_icmp .ge 15, 3) := by decide +kernel
theorem dX8_vaneTold_6 : decode cX8_vaneTold 6 = .ok (.aload_n 0, 1) := by decide +kernel
theorem dX8_vaneTold_7 : decode cX8_vaneTold 7 = .ok (.getfield 10, 3) := by decide +kernel
theorem dX8_vaneTold_10 : decode cX8_vaneTold 10 = .ok (.iload_n 1, 1) := by decide +kernel
theorem dX8_vaneTold_11 : decode cX8_vaneTold 11 = .ok (.iload_n 2, 1) := by decide +kernel
theorem dX8_vaneTold_12 : decode cX8_vaneTold 12 = .ok (.invokevirtual 56, 3) := by decide +kernel
theorem dX8_vaneTold_15 : decode cX8_vaneTold 15 = .ok (.goto 42, 3) := by decide +kernel
theorem dX8_vaneTold_18 : decode cX8_vaneTold 18 = .ok (.iload_n 2, 1) := by decide +kernel
theorem dX8_vaneTold_19 : decode cX8_vaneTold 19 = .ok (.bipush 9, 2) := by decide +kernel
theorem dX8_vaneTold_21 : decode cX8_vaneTold 21 = .ok (.if_icmp .ne 11, 3) := by decide +kernel
theorem dX8_vaneTold_24 : decode cX8_vaneTold 24 = .ok (.aload_n 0, 1) := by decide +kernel
theorem dX8_vaneTold_25 : decode cX8_vaneTold 25 = .ok (.iload_n 1, 1) := by decide +kernel
theorem dX8_vaneTold_26 : decode cX8_vaneTold 26 = .ok (.invokevirtual 80, 3) := by decide +kernel
theorem dX8_vaneTold_29 : decode cX8_vaneTold 29 = .ok (.goto 28, 3) := by decide +kernel
theorem dX8_vaneTold_32 : decode cX8_vaneTold 32 = .ok (.iload_n 2, 1) := by decide +kernel
theorem dX8_vaneTold_33 : decode cX8_vaneTold 33 = .ok (.bipush 10, 2) := by decide +kernel
theorem dX8_vaneTold_35 : decode cX8_vaneTold 35 = .ok (.if_icmp .ne 14, 3) := by decide +kernel
theorem dX8_vaneTold_38 : decode cX8_vaneTold 38 = .ok (.aload_n 0, 1) := by decide +kernel
theorem dX8_vaneTold_39 : decode cX8_vaneTold 39 = .ok (.getfield 10, 3) := by decide +kernel
theorem dX8_vaneTold_42 : decode cX8_vaneTold 42 = .ok (.iload_n 1, 1) := by decide +kernel
theorem dX8_vaneTold_43 : decode cX8_vaneTold 43 = .ok (.invokevirtual 83, 3) := by decide +kernel
theorem dX8_vaneTold_46 : decode cX8_vaneTold 46 = .ok (.goto 11, 3) := by decide +kernel
theorem dX8_vaneTold_49 : decode cX8_vaneTold 49 = .ok (.aload_n 0, 1) := by decide +kernel
theorem dX8_vaneTold_50 : decode cX8_vaneTold 50 = .ok (.getfield 10, 3) := by decide +kernel
theorem dX8_vaneTold_53 : decode cX8_vaneTold 53 = .ok (.iload_n 1, 1) := by decide +kernel
theorem dX8_vaneTold_54 : decode cX8_vaneTold 54 = .ok (.invokevirtual 86, 3) := by decide +kernel
theorem dX8_vaneTold_57 : decode cX8_vaneTold 57 = .ok (.ireturn, 1) := by decide +kernel
theorem dX8_vane_0 : decode cX8_vane 0 = .ok (.aload_n 0, 1) := by decide +kernel
theorem dX8_vane_1 : decode cX8_vane 1 = .ok (.iconst 0, 1) := by decide +kernel
theorem dX8_vane_2 : decode cX8_vane 2 = .ok (.putfield 19, 3) := by decide +kernel
theorem dX8_vane_5 : decode cX8_vane 5 = .ok (.aload_n 0, 1) := by decide +kernel
theorem dX8_vane_6 : decode cX8_vane 6 = .ok (.iload_n 1, 1) := by decide +kernel
theorem dX8_vane_7 : decode cX8_vane 7 = .ok (.invokevirtual 68, 3) := by decide +kernel
theorem dX8_vane_10 : decode cX8_vane 10 = .ok (.ifCond .eq 22, 3) := by decide +kernel
theorem dX8_vane_13 : decode cX8_vane 13 = .ok (.iload_n 2, 1) := by decide +kernel
theorem dX8_vane_14 : decode cX8_vane 14 = .ok (.iconst 0, 1) := by decide +kernel
theorem dX8_vane_15 : decode cX8_vane 15 = .ok (.bipush 11, 2) := by decide +kernel
theorem dX8_vane_17 : decode cX8_vane 17 = .ok (.invokestatic 34, 3) := by decide +kernel
theorem dX8_vane_20 : decode cX8_vane 20 = .ok (.ifCond .eq 12, 3) := by decide +kernel
theorem dX8_vane_23 : decode cX8_vane 23 = .ok (.aload_n 0, 1) := by decide +kernel
theorem dX8_vane_24 : decode cX8_vane 24 = .ok (.iload_n 1, 1) := by decide +kernel
theorem dX8_vane_25 : decode cX8_vane 25 = .ok (.iload_n 2, 1) := by decide +kernel
theorem dX8_vane_26 : decode cX8_vane 26 = .ok (.invokevirtual 89, 3) := by decide +kernel
theorem dX8_vane_29 : decode cX8_vane 29 = .ok (.goto 8, 3) := by decide +kernel
theorem dX8_vane_32 : decode cX8_vane 32 = .ok (.aload_n 0, 1) := by decide +kernel
theorem dX8_vane_33 : decode cX8_vane 33 = .ok (.iconst 1, 1) := by decide +kernel
theorem dX8_vane_34 : decode cX8_vane 34 = .ok (.invokevirtual 38, 3) := by decide +kernel
theorem dX8_vane_37 : decode cX8_vane 37 = .ok (.ireturn, 1) := by decide +kernel
theorem dX8_difference_0 : decode cX8_difference 0 = .ok (.aload_n 0, 1) := by decide +kernel
theorem dX8_difference_1 : decode cX8_difference 1 = .ok (.iconst 0, 1) := by decide +kernel
theorem dX8_difference_2 : decode cX8_difference 2 = .ok (.putfield 19, 3) := by decide +kernel
theorem dX8_difference_5 : decode cX8_difference 5 = .ok (.iload_n 1, 1) := by decide +kernel
theorem dX8_difference_6 : decode cX8_difference 6 = .ok (.iconst 0, 1) := by decide +kernel
theorem dX8_difference_7 : decode cX8_difference 7 = .ok (.bipush 15, 2) := by decide +kernel
theorem dX8_difference_9 : decode cX8_difference 9 = .ok (.invokestatic 34, 3) := by decide +kernel
theorem dX8_difference_12 : decode cX8_difference 12 = .ok (.ifCond .eq 21, 3) := by decide +kernel
theorem dX8_difference_15 : decode cX8_difference 15 = .ok (.iload_n 2, 1) := by decide +kernel
theorem dX8_difference_16 : decode cX8_difference 16 = .ok (.iconst 0, 1) := by decide +kernel
theorem dX8_difference_17 : decode cX8_difference 17 = .ok (.bipush 15, 2) := by decide +kernel
theorem dX8_difference_19 : decode cX8_difference 19 = .ok (.invokestatic 34, 3) := by decide +kernel
theorem dX8_difference_22 : decode cX8_difference 22 = .ok (.ifCond .eq 11, 3) := by decide +kernel
theorem dX8_difference_25 : decode cX8_difference 25 = .ok (.iload_n 1, 1) := by decide +kernel
theorem dX8_difference_26 : decode cX8_difference 26 = .ok (.iload_n 2, 1) := by decide +kernel
theorem dX8_difference_27 : decode cX8_difference 27 = .ok (.invokestatic 92, 3) := by decide +kernel
theorem dX8_difference_30 : decode cX8_difference 30 = .ok (.goto 8, 3) := by decide +kernel
theorem dX8_difference_33 : decode cX8_difference 33 = .ok (.aload_n 0, 1) := by decide +kernel
theorem dX8_difference_34 : decode cX8_difference 34 = .ok (.iconst 1, 1) := by decide +kernel
theorem dX8_difference_35 : decode cX8_difference 35 = .ok (.invokevirtual 38, 3) := by decide +kernel
theorem dX8_difference_38 : decode cX8_difference 38 = .ok (.ireturn, 1) := by decide +kernel
theorem dX8_move_0 : decode cX8_move 0 = .ok (.aload_n 0, 1) := by decide +kernel
theorem dX8_move_1 : decode cX8_move 1 = .ok (.iconst 0, 1) := by decide +kernel
theorem dX8_move_2 : decode cX8_move 2 = .ok (.putfield 19, 3) := by decide +kernel
theorem dX8_move_5 : decode cX8_move 5 = .ok (.iload_n 1, 1) := by decide +kernel
theorem dX8_move_6 : decode cX8_move 6 = .ok (.iconst 0, 1) := by decide +kernel
theorem dX8_move_7 : decode cX8_move 7 = .ok (.bipush 15, 2) := by decide +kernel
theorem dX8_move_9 : decode cX8_move 9 = .ok (.invokestatic 34, 3) := by decide +kernel
theorem dX8_move_12 : decode cX8_move 12 = .ok (.ifCond .eq 33, 3) := by decide +kernel
theorem dX8_move_15 : decode cX8_move 15 = .ok (.iload_n 2, 1) := by decide +kernel
theorem dX8_move_16 : decode cX8_move 16 = .ok (.iconst 0, 1) := by decide +kernel
theorem dX8_move_17 : decode cX8_move 17 = .ok (.bipush 7, 2) := by decide +kernel
theorem dX8_move_19 : decode cX8_move 19 = .ok (.invokestatic 34, 3) := by decide +kernel
theorem dX8_move_22 : decode cX8_move 22 = .ok (.ifCond .eq 23, 3) := by decide +kernel
theorem dX8_move_25 : decode cX8_move 25 = .ok (.iload_n 3, 1) := by decide +kernel
theorem dX8_move_26 : decode cX8_move 26 = .ok (.iconst 0, 1) := by decide +kernel
theorem dX8_move_27 : decode cX8_move 27 = .ok (.bipush 99, 2) := by decide +kernel
theorem dX8_move_29 : decode cX8_move 29 = .ok (.invokestatic 34, 3) := by decide +kernel
theorem dX8_move_32 : decode cX8_move 32 = .ok (.ifCond .eq 13, 3) := by decide +kernel
theorem dX8_move_35 : decode cX8_move 35 = .ok (.iload 4, 2) := by decide +kernel
theorem dX8_move_37 : decode cX8_move 37 = .ok (.iconst 0, 1) := by decide +kernel
theorem dX8_move_38 : decode cX8_move 38 = .ok (.iconst 3, 1) := by decide +kernel
theorem dX8_move_39 : decode cX8_move 39 = .ok (.invokestatic 34, 3) := by decide +kernel
theorem dX8_move_42 : decode cX8_move 42 = .ok (.ifCond .ne 9, 3) := by decide +kernel
theorem dX8_move_45 : decode cX8_move 45 = .ok (.aload_n 0, 1) := by decide +kernel
theorem dX8_move_46 : decode cX8_move 46 = .ok (.iconst 1, 1) := by decide +kernel
theorem dX8_move_47 : decode cX8_move 47 = .ok (.invokevirtual 38, 3) := by decide +kernel
theorem dX8_move_50 : decode cX8_move 50 = .ok (.ireturn, 1) := by decide +kernel
theorem dX8_move_51 : decode cX8_move 51 = .ok (.aload_n 0, 1) := by decide +kernel
theorem dX8_move_52 : decode cX8_move 52 = .ok (.getfield 10, 3) := by decide +kernel
theorem dX8_move_55 : decode cX8_move 55 = .ok (.getfield 95, 3) := by decide +kernel
theorem dX8_move_58 : decode cX8_move 58 = .ok (.bipush 12, 2) := by decide +kernel
theorem dX8_move_60 : decode cX8_move 60 = .ok (.if_icmp .ne 9, 3) := by decide +kernel
theorem dX8_move_63 : decode cX8_move 63 = .ok (.aload_n 0, 1) := by decide +kernel
theorem dX8_move_64 : decode cX8_move 64 = .ok (.iconst 2, 1) := by decide +kernel
theorem dX8_move_65 : decode cX8_move 65 = .ok (.invokevirtual 38, 3) := by decide +kernel
theorem dX8_move_68 : decode cX8_move 68 = .ok (.ireturn, 1) := by decide +kernel
theorem dX8_move_69 : decode cX8_move 69 = .ok (.bipush 6, 2) := by decide +kernel
theorem dX8_move_71 : decode cX8_move 71 = .ok (.newarray .int, 2) := by decide +kernel
theorem dX8_move_73 : decode cX8_move 73 = .ok (.dup, 1) := by decide +kernel
theorem dX8_move_74 : decode cX8_move 74 = .ok (.iconst 0, 1) := by decide +kernel
theorem dX8_move_75 : decode cX8_move 75 = .ok (.iload_n 1, 1) := by decide +kernel
theorem dX8_move_76 : decode cX8_move 76 = .ok (.iastore, 1) := by decide +kernel
theorem dX8_move_77 : decode cX8_move 77 = .ok (.dup, 1) := by decide +kernel
theorem dX8_move_78 : decode cX8_move 78 = .ok (.iconst 1, 1) := by decide +kernel
theorem dX8_move_79 : decode cX8_move 79 = .ok (.iload_n 2, 1) := by decide +kernel
theorem dX8_move_80 : decode cX8_move 80 = .ok (.iastore, 1) := by decide +kernel
theorem dX8_move_81 : decode cX8_move 81 = .ok (.dup, 1) := by decide +kernel
theorem dX8_move_82 : decode cX8_move 82 = .ok (.iconst 2, 1) := by decide +kernel
theorem dX8_move_83 : decode cX8_move 83 = .ok (.iload_n 3, 1) := by decide +kernel
theorem dX8_move_84 : decode cX8_move 84 = .ok (.iastore, 1) := by decide +kernel
theorem dX8_move_85 : decode cX8_move 85 = .ok (.dup, 1) := by decide +kernel
theorem dX8_move_86 : decode cX8_move 86 = .ok (.iconst 3, 1) := by decide +kernel
theorem dX8_move_87 : decode cX8_move 87 = .ok (.iload 4, 2) := by decide +kernel
theorem dX8_move_89 : decode cX8_move 89 = .ok (.iastore, 1) := by decide +kernel
theorem dX8_move_90 : decode cX8_move 90 = .ok (.dup, 1) := by decide +kernel
theorem dX8_move_91 : decode cX8_move 91 = .ok (.iconst 4, 1) := by decide +kernel
theorem dX8_move_92 : decode cX8_move 92 = .ok (.iconst 0, 1) := by decide +kernel
theorem dX8_move_93 : decode cX8_move 93 = .ok (.iastore, 1) := by decide +kernel
theorem dX8_move_94 : decode cX8_move 94 = .ok (.dup, 1) := by decide +kernel
theorem dX8_move_95 : decode cX8_move 95 = .ok (.iconst 5, 1) := by decide +kernel
theorem dX8_move_96 : decode cX8_move 96 = .ok (.iconst 0, 1) := by decide +kernel
theorem dX8_move_97 : decode cX8_move 97 = .ok (.iastore, 1) := by decide +kernel
theorem dX8_move_98 : decode cX8_move 98 = .ok (.astore 5, 2) := by decide +kernel
theorem dX8_move_100 : decode cX8_move 100 = .ok (.aload 5, 2) := by decide +kernel
theorem dX8_move_102 : decode cX8_move 102 = .ok (.iconst 0, 1) := by decide +kernel
theorem dX8_move_103 : decode cX8_move 103 = .ok (.aload_n 0, 1) := by decide +kernel
theorem dX8_move_104 : decode cX8_move 104 = .ok (.getfield 10, 3) := by decide +kernel
theorem dX8_move_107 : decode cX8_move 107 = .ok (.getfield 98, 3) := by decide +kernel
theorem dX8_move_110 : decode cX8_move 110 = .ok (.bipush 6, 2) := by decide +kernel
theorem dX8_move_112 : decode cX8_move 112 = .ok (.aload_n 0, 1) := by decide +kernel
theorem dX8_move_113 : decode cX8_move 113 = .ok (.getfield 10, 3) := by decide +kernel
theorem dX8_move_116 : decode cX8_move 116 = .ok (.getfield 95, 3) := by decide +kernel
theorem dX8_move_119 : decode cX8_move 119 = .ok (.imul, 1) := by decide +kernel
theorem dX8_move_120 : decode cX8_move 120 = .ok (.bipush 6, 2) := by decide +kernel
theorem dX8_move_122 : decode cX8_move 122 = .ok (.invokestatic 62, 3) := by decide +kernel
theorem dX8_move_125 : decode cX8_move 125 = .ok (.aload_n 0, 1) := by decide +kernel
theorem dX8_move_126 : decode cX8_move 126 = .ok (.getfield 10, 3) := by decide +kernel
theorem dX8_move_129 : decode cX8_move 129 = .ok (.dup, 1) := by decide +kernel
theorem dX8_move_130 : decode cX8_move 130 = .ok (.getfield 95, 3) := by decide +kernel
theorem dX8_move_133 : decode cX8_move 133 = .ok (.iconst 1, 1) := by decide +kernel
theorem dX8_move_134 : decode cX8_move 134 = .ok (.iadd, 1) := by decide +kernel
theorem dX8_move_135 : decode cX8_move 135 = .ok (.putfield 95, 3) := by decide +kernel
theorem dX8_move_138 : decode cX8_move 138 = .ok (.aload_n 0, 1) := by decide +kernel
theorem dX8_move_139 : decode cX8_move 139 = .ok (.getfield 10, 3) := by decide +kernel
theorem dX8_move_142 : decode cX8_move 142 = .ok (.getfield 95, 3) := by decide +kernel
theorem dX8_move_145 : decode cX8_move 145 = .ok (.iconst 1, 1) := by decide +kernel
theorem dX8_move_146 : decode cX8_move 146 = .ok (.isub, 1) := by decide +kernel
theorem dX8_move_147 : decode cX8_move 147 = .ok (.ireturn, 1) := by decide +kernel
theorem dX8_isMotion_0 : decode cX8_isMotion 0 = .ok (.iload_n 1, 1) := by decide +kernel
theorem dX8_isMotion_1 : decode cX8_isMotion 1 = .ok (.iconst 0, 1) := by decide +kernel
theorem dX8_isMotion_2 : decode cX8_isMotion 2 = .ok (.aload_n 0, 1) := by decide +kernel
theorem dX8_isMotion_3 : decode cX8_isMotion 3 = .ok (.getfield 10, 3) := by decide +kernel
theorem dX8_isMotion_6 : decode cX8_isMotion 6 = .ok (.getfield 95, 3) := by decide +kernel
theorem dX8_isMotion_9 : decode cX8_isMotion 9 = .ok (.iconst 1, 1) := by decide +kernel
theorem dX8_isMotion_10 : decode cX8_isMotion 10 = .ok (.isub, 1) := by decide +kernel
theorem dX8_isMotion_11 : decode cX8_isMotion 11 = .ok (.invokestatic 34, 3) := by decide +kernel
theorem dX8_isMotion_14 : decode cX8_isMotion 14 = .ok (.ireturn, 1) := by decide +kernel
theorem dX8_put_0 : decode cX8_put 0 = .ok (.aload_n 0, 1) := by decide +kernel
theorem dX8_put_1 : decode cX8_put 1 = .ok (.iconst 0, 1) := by decide +kernel
theorem dX8_put_2 : decode cX8_put 2 = .ok (.putfield 19, 3) := by decide +kernel
theorem dX8_put_5 : decode cX8_put 5 = .ok (.aload_n 0, 1) := by decide +kernel
theorem dX8_put_6 : decode cX8_put 6 = .ok (.iload_n 1, 1) := by decide +kernel
theorem dX8_put_7 : decode cX8_put 7 = .ok (.invokevirtual 101, 3) := by decide +kernel
theorem dX8_put_10 : decode cX8_put 10 = .ok (.ifCond .ne 9, 3) := by decide +kernel
theorem dX8_put_13 : decode cX8_put 13 = .ok (.aload_n 0, 1) := by decide +kernel
theorem dX8_put_14 : decode cX8_put 14 = .ok (.iconst 1, 1) := by decide +kernel
theorem dX8_put_15 : decode cX8_put 15 = .ok (.invokevirtual 38, 3) := by decide +kernel
theorem dX8_put_18 : decode cX8_put 18 = .ok (.ireturn, 1) := by decide +kernel
theorem dX8_put_19 : decode cX8_put 19 = .ok (.iload_n 2, 1) := by decide +kernel
theorem dX8_put_20 : decode cX8_put 20 = .ok (.aload_n 0, 1) := by decide +kernel
theorem dX8_put_21 : decode cX8_put 21 = .ok (.getfield 10, 3) := by decide +kernel
theorem dX8_put_24 : decode cX8_put 24 = .ok (.getfield 104, 3) := by decide +kernel
theorem dX8_put_27 : decode cX8_put 27 = .ok (.sipush 2000, 3) := by decide +kernel
theorem dX8_put_30 : decode cX8_put 30 = .ok (.invokestatic 34, 3) := by decide +kernel
theorem dX8_put_33 : decode cX8_put 33 = .ok (.ifCond .ne 9, 3) := by decide +kernel
theorem dX8_put_36 : decode cX8_put 36 = .ok (.aload_n 0, 1) := by decide +kernel
theorem dX8_put_37 : decode cX8_put 37 = .ok (.iconst 2, 1) := by decide +kernel
theorem dX8_put_38 : decode cX8_put 38 = .ok (.invokevirtual 38, 3) := by decide +kernel
theorem dX8_put_41 : decode cX8_put 41 = .ok (.ireturn, 1) := by decide +kernel
theorem dX8_put_42 : decode cX8_put 42 = .ok (.aload_n 0, 1) := by decide +kernel
theorem dX8_put_43 : decode cX8_put 43 = .ok (.getfield 10, 3) := by decide +kernel
theorem dX8_put_46 : decode cX8_put 46 = .ok (.getfield 107, 3) := by decide +kernel
theorem dX8_put_49 : decode cX8_put 49 = .ok (.bipush 20, 2) := by decide +kernel
theorem dX8_put_51 : decode cX8_put 51 = .ok (.if_icmp .ne 9, 3) := by decide +kernel
theorem dX8_put_54 : decode cX8_put 54 = .ok (.aload_n 0, 1) := by decide +kernel
theorem dX8_put_55 : decode cX8_put 55 = .ok (.iconst 3, 1) := by decide +kernel
theorem dX8_put_56 : decode cX8_put 56 = .ok (.invokevirtual 38, 3) := by decide +kernel
theorem dX8_put_59 : decode cX8_put 59 = .ok (.ireturn, 1) := by decide +kernel
theorem dX8_put_60 : decode cX8_put 60 = .ok (.aload_n 0, 1) := by decide +kernel
theorem dX8_put_61 : decode cX8_put 61 = .ok (.getfield 10, 3) := by decide +kernel
theorem dX8_put_64 : decode cX8_put 64 = .ok (.getfield 110, 3) := by decide +kernel
theorem dX8_put_67 : decode cX8_put 67 = .ok (.iconst 2, 1) := by decide +kernel
theorem dX8_put_68 : decode cX8_put 68 = .ok (.aload_n 0, 1) := by decide +kernel
theorem dX8_put_69 : decode cX8_put 69 = .ok (.getfield 10, 3) := by decide +kernel
theorem dX8_put_72 : decode cX8_put 72 = .ok (.getfield 107, 3) := by decide +kernel
theorem dX8_put_75 : decode cX8_put 75 = .ok (.imul, 1) := by decide +kernel
theorem dX8_put_76 : decode cX8_put 76 = .ok (.iload_n 1, 1) := by decide +kernel
theorem dX8_put_77 : decode cX8_put 77 = .ok (.iastore, 1) := by decide +kernel
theorem dX8_put_78 : decode cX8_put 78 = .ok (.aload_n 0, 1) := by decide +kernel
theorem dX8_put_79 : decode cX8_put 79 = .ok (.getfield 10, 3) := by decide +kernel
theorem dX8_put_82 : decode cX8_put 82 = .ok (.getfield 110, 3) := by decide +kernel
theorem dX8_put_85 : decode cX8_put 85 = .ok (.iconst 2, 1) := by decide +kernel
theorem dX8_put_86 : decode cX8_put 86 = .ok (.aload_n 0, 1) := by decide +kernel
theorem dX8_put_87 : decode cX8_put 87 = .ok (.getfield 10, 3) := by decide +kernel
theorem dX8_put_90 : decode cX8_put 90 = .ok (.getfield 107, 3) := by decide +kernel
theorem dX8_put_93 : decode cX8_put 93 = .ok (.imul, 1) := by decide +kernel
theorem dX8_put_94 : decode cX8_put 94 = .ok (.iconst 1, 1) := by decide +kernel
theorem dX8_put_95 : decode cX8_put 95 = .ok (.iadd, 1) := by decide +kernel
theorem dX8_put_96 : decode cX8_put 96 = .ok (.iload_n 2, 1) := by decide +kernel
theorem dX8_put_97 : decode cX8_put 97 = .ok (.iastore, 1) := by decide +kernel
theorem dX8_put_98 : decode cX8_put 98 = .ok (.aload_n 0, 1) := by decide +kernel
theorem dX8_put_99 : decode cX8_put 99 = .ok (.getfield 10, 3) := by decide +kernel
theorem dX8_put_102 : decode cX8_put 102 = .ok (.dup, 1) := by decide +kernel
theorem dX8_put_103 : decode cX8_put 103 = .ok (.getfield 107, 3) := by decide +kernel
theorem dX8_put_106 : decode cX8_put 106 = .ok (.iconst 1, 1) := by decide +kernel
theorem dX8_put_107 : decode cX8_put 107 = .ok (.iadd, 1) := by decide +kernel
theorem dX8_put_108 : decode cX8_put 108 = .ok (.putfield 107, 3) := by decide +kernel
theorem dX8_put_111 : decode cX8_put 111 = .ok (.aload_n 0, 1) := by decide +kernel
theorem dX8_put_112 : decode cX8_put 112 = .ok (.getfield 10, 3) := by decide +kernel
theorem dX8_put_115 : decode cX8_put 115 = .ok (.getfield 107, 3) := by decide +kernel
theorem dX8_put_118 : decode cX8_put 118 = .ok (.ireturn, 1) := by decide +kernel
theorem dX8_motionTold_0 : decode cX8_motionTold 0 = .ok (.iload_n 2, 1) := by decide +kernel
theorem dX8_motionTold_1 : decode cX8_motionTold 1 = .ok (.iconst 4, 1) := by decide +kernel
theorem dX8_motionTold_2 : decode cX8_motionTold 2 = .ok (.if_icmp .ge 18, 3) := by decide +kernel
theorem dX8_motionTold_5 : decode cX8_motionTold 5 = .ok (.aload_n 0, 1) := by decide +kernel
theorem dX8_motionTold_6 : decode cX8_motionTold 6 = .ok (.getfield 10, 3) := by decide +kernel
theorem dX8_motionTold_9 : decode cX8_motionTold 9 = .ok (.getfield 98, 3) := by decide +kernel
theorem dX8_motionTold_12 : decode cX8_motionTold 12 = .ok (.bipush 6, 2) := by decide +kernel
theorem dX8_motionTold_14 : decode cX8_motionTold 14 = .ok (.iload_n 1, 1) := by decide +kernel
theorem dX8_motionTold_15 : decode cX8_motionTold 15 = .ok (.imul, 1) := by decide +kernel
theorem dX8_motionTold_16 : decode cX8_motionTold 16 = .ok (.iload_n 2, 1) := by decide +kernel
theorem dX8_motionTold_17 : decode cX8_motionTold 17 = .ok (.iadd, 1) := by decide +kernel
theorem dX8_motionTold_18 : decode cX8_motionTold 18 = .ok (.iaload, 1) := by decide +kernel
theorem dX8_motionTold_19 : decode cX8_motionTold 19 = .ok (.ireturn, 1) := by decide +kernel
theorem dX8_motionTold_20 : decode cX8_motionTold 20 = .ok (.iload_n 2, 1) := by decide +kernel
theorem dX8_motionTold_21 : decode cX8_motionTold 21 = .ok (.bipush 6, 2) := by decide +kernel
theorem dX8_motionTold_23 : decode cX8_motionTold 23 = .ok (.if_icmp .ge 22, 3) := by decide +kernel
theorem dX8_motionTold_26 : decode cX8_motionTold 26 = .ok (.aload_n 0, 1) := by decide +kernel
theorem dX8_motionTold_27 : decode cX8_motionTold 27 = .ok (.getfield 10, 3) := by decide +kernel
theorem dX8_motionTold_30 : decode cX8_motionTold 30 = .ok (.iload_n 1, 1) := by decide +kernel
theorem dX8_motionTold_31 : decode cX8_motionTold 31 = .ok (.iload_n 2, 1) := by decide +kernel
theorem dX8_motionTold_32 : decode cX8_motionTold 32 = .ok (.iconst 4, 1) := by decide +kernel
theorem dX8_motionTold_33 : decode cX8_motionTold 33 = .ok (.if_icmp .ne 7, 3) := by decide +kernel
theorem dX8_motionTold_36 : decode cX8_motionTold 36 = .ok (.iconst 1, 1) := by decide +kernel
theorem dX8_motionTold_37 : decode cX8_motionTold 37 = .ok (.goto 4, 3) := by decide +kernel
theorem dX8_motionTold_40 : decode cX8_motionTold 40 = .ok (.iconst (-1), 1) := by decide +kernel
theorem dX8_motionTold_41 : decode cX8_motionTold 41 = .ok (.invokevirtual 113, 3) := by decide +kernel
theorem dX8_motionTold_44 : decode cX8_motionTold 44 = .ok (.ireturn, 1) := by decide +kernel
theorem dX8_motionTold_45 : decode cX8_motionTold 45 = .ok (.iload_n 2, 1) := by decide +kernel
theorem dX8_motionTold_46 : decode cX8_motionTold 46 = .ok (.bipush 6, 2) := by decide +kernel
theorem dX8_motionTold_48 : decode cX8_motionTold 48 = .ok (.if_icmp .ne 22, 3) := by decide +kernel
theorem dX8_motionTold_51 : decode cX8_motionTold 51 = .ok (.aload_n 0, 1) := by decide +kernel
theorem dX8_motionTold_52 : decode cX8_motionTold 52 = .ok (.getfield 10, 3) := by decide +kernel
theorem dX8_motionTold_55 : decode cX8_motionTold 55 = .ok (.iload_n 1, 1) := by decide +kernel
theorem dX8_motionTold_56 : decode cX8_motionTold 56 = .ok (.invokevirtual 116, 3) := by decide +kernel
theorem dX8_motionTold_59 : decode cX8_motionTold 59 = .ok (.ifCond .eq 7, 3) := by decide +kernel
theorem dX8_motionTold_62 : decode cX8_motionTold 62 = .ok (.iconst 1, 1) := by decide +kernel
theorem dX8_motionTold_63 : decode cX8_motionTold 63 = .ok (.goto 23, 3) := by decide +kernel
