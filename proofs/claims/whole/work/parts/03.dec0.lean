theorem dX0_init_0 : decode cX0_init 0 = .ok (.aload_n 0, 1) := by decide +kernel
theorem dX0_init_1 : decode cX0_init 1 = .ok (.invokespecial 1, 3) := by decide +kernel
theorem dX0_init_4 : decode cX0_init 4 = .ok (.aload_n 0, 1) := by decide +kernel
theorem dX0_init_5 : decode cX0_init 5 = .ok (.aload_n 1, 1) := by decide +kernel
theorem dX0_init_6 : decode cX0_init 6 = .ok (.putfield 7, 3) := by decide +kernel
theorem dX0_init_9 : decode cX0_init 9 = .ok (.aload_n 0, 1) := by decide +kernel
theorem dX0_init_10 : decode cX0_init 10 = .ok (.iload_n 2, 1) := by decide +kernel
theorem dX0_init_11 : decode cX0_init 11 = .ok (.putfield 13, 3) := by decide +kernel
theorem dX0_init_14 : decode cX0_init 14 = .ok (.return_, 1) := by decide +kernel
theorem dX1_init_0 : decode cX1_init 0 = .ok (.aload_n 0, 1) := by decide +kernel
theorem dX1_init_1 : decode cX1_init 1 = .ok (.invokespecial 1, 3) := by decide +kernel
theorem dX1_init_4 : decode cX1_init 4 = .ok (.aload_n 0, 1) := by decide +kernel
theorem dX1_init_5 : decode cX1_init 5 = .ok (.bipush 8, 2) := by decide +kernel
theorem dX1_init_7 : decode cX1_init 7 = .ok (.newarray .int, 2) := by decide +kernel
theorem dX1_init_9 : decode cX1_init 9 = .ok (.putfield 7, 3) := by decide +kernel
theorem dX1_init_12 : decode cX1_init 12 = .ok (.aload_n 0, 1) := by decide +kernel
theorem dX1_init_13 : decode cX1_init 13 = .ok (.iload_n 1, 1) := by decide +kernel
theorem dX1_init_14 : decode cX1_init 14 = .ok (.putfield 13, 3) := by decide +kernel
theorem dX1_init_17 : decode cX1_init 17 = .ok (.aload_n 0, 1) := by decide +kernel
theorem dX1_init_18 : decode cX1_init 18 = .ok (.iload_n 2, 1) := by decide +kernel
theorem dX1_init_19 : decode cX1_init 19 = .ok (.putfield 17, 3) := by decide +kernel
theorem dX1_init_22 : decode cX1_init 22 = .ok (.aload_n 0, 1) := by decide +kernel
theorem dX1_init_23 : decode cX1_init 23 = .ok (.iload_n 3, 1) := by decide +kernel
theorem dX1_init_24 : decode cX1_init 24 = .ok (.putfield 20, 3) := by decide +kernel
theorem dX1_init_27 : decode cX1_init 27 = .ok (.aload_n 0, 1) := by decide +kernel
theorem dX1_init_28 : decode cX1_init 28 = .ok (.iload 4, 2) := by decide +kernel
theorem dX1_init_30 : decode cX1_init 30 = .ok (.putfield 23, 3) := by decide +kernel
theorem dX1_init_33 : decode cX1_init 33 = .ok (.return_, 1) := by decide +kernel
theorem dX1_lookAt_0 : decode cX1_lookAt 0 = .ok (.aload_n 1, 1) := by decide +kernel
theorem dX1_lookAt_1 : decode cX1_lookAt 1 = .ok (.getfield 20, 3) := by decide +kernel
theorem dX1_lookAt_4 : decode cX1_lookAt 4 = .ok (.aload_n 0, 1) := by decide +kernel
theorem dX1_lookAt_5 : decode cX1_lookAt 5 = .ok (.getfield 20, 3) := by decide +kernel
theorem dX1_lookAt_8 : decode cX1_lookAt 8 = .ok (.if_icmp .gt 4, 3) := by decide +kernel
theorem dX1_lookAt_11 : decode cX1_lookAt 11 = .ok (.return_, 1) := by decide +kernel
theorem dX1_lookAt_12 : decode cX1_lookAt 12 = .ok (.iconst 0, 1) := by decide +kernel
theorem dX1_lookAt_13 : decode cX1_lookAt 13 = .ok (.istore_n 2, 1) := by decide +kernel
theorem dX1_lookAt_14 : decode cX1_lookAt 14 = .ok (.iload_n 2, 1) := by decide +kernel
theorem dX1_lookAt_15 : decode cX1_lookAt 15 = .ok (.aload_n 0, 1) := by decide +kernel
theorem dX1_lookAt_16 : decode cX1_lookAt 16 = .ok (.getfield 7, 3) := by decide +kernel
theorem dX1_lookAt_19 : decode cX1_lookAt 19 = .ok (.arraylength, 1) := by decide +kernel
theorem dX1_lookAt_20 : decode cX1_lookAt 20 = .ok (.if_icmp .ge 28, 3) := by decide +kernel
theorem dX1_lookAt_23 : decode cX1_lookAt 23 = .ok (.aload_n 0, 1) := by decide +kernel
theorem dX1_lookAt_24 : decode cX1_lookAt 24 = .ok (.aload_n 1, 1) := by decide +kernel
theorem dX1_lookAt_25 : decode cX1_lookAt 25 = .ok (.iload_n 2, 1) := by decide +kernel
theorem dX1_lookAt_26 : decode cX1_lookAt 26 = .ok (.invokevirtual 26, 3) := by decide +kernel
theorem dX1_lookAt_29 : decode cX1_lookAt 29 = .ok (.ifCond .eq 13, 3) := by decide +kernel
theorem dX1_lookAt_32 : decode cX1_lookAt 32 = .ok (.aload_n 0, 1) := by decide +kernel
theorem dX1_lookAt_33 : decode cX1_lookAt 33 = .ok (.getfield 7, 3) := by decide +kernel
theorem dX1_lookAt_36 : decode cX1_lookAt 36 = .ok (.iload_n 2, 1) := by decide +kernel
theorem dX1_lookAt_37 : decode cX1_lookAt 37 = .ok (.dup2, 1) := by decide +kernel
theorem dX1_lookAt_38 : decode cX1_lookAt 38 = .ok (.iaload, 1) := by decide +kernel
theorem dX1_lookAt_39 : decode cX1_lookAt 39 = .ok (.iconst 1, 1) := by decide +kernel
theorem dX1_lookAt_40 : decode cX1_lookAt 40 = .ok (.iadd, 1) := by decide +kernel
theorem dX1_lookAt_41 : decode cX1_lookAt 41 = .ok (.iastore, 1) := by decide +kernel
theorem dX1_lookAt_42 : decode cX1_lookAt 42 = .ok (.iinc 2 1, 3) := by decide +kernel
theorem dX1_lookAt_45 : decode cX1_lookAt 45 = .ok (.goto (-31), 3) := by decide +kernel
theorem dX1_lookAt_48 : decode cX1_lookAt 48 = .ok (.return_, 1) := by decide +kernel
theorem dX1_isInLine_0 : decode cX1_isInLine 0 = .ok (.iload_n 2, 1) := by decide +kernel
theorem dX1_isInLine_1 : decode cX1_isInLine 1 = .ok (.ifCond .lt 19, 3) := by decide +kernel
theorem dX1_isInLine_4 : decode cX1_isInLine 4 = .ok (.iload_n 2, 1) := by decide +kernel
theorem dX1_isInLine_5 : decode cX1_isInLine 5 = .ok (.getstatic 30, 3) := by decide +kernel
theorem dX1_isInLine_8 : decode cX1_isInLine 8 = .ok (.arraylength, 1) := by decide +kernel
theorem dX1_isInLine_9 : decode cX1_isInLine 9 = .ok (.if_icmp .ge 11, 3) := by decide +kernel
theorem dX1_isInLine_12 : decode cX1_isInLine 12 = .ok (.iload_n 2, 1) := by decide +kernel
theorem dX1_isInLine_13 : decode cX1_isInLine 13 = .ok (.getstatic 33, 3) := by decide +kernel
theorem dX1_isInLine_16 : decode cX1_isInLine 16 = .ok (.arraylength, 1) := by decide +kernel
theorem dX1_isInLine_17 : decode cX1_isInLine 17 = .ok (.if_icmp .lt 5, 3) := by decide +kernel
theorem dX1_isInLine_20 : decode cX1_isInLine 20 = .ok (.iconst 0, 1) := by decide +kernel
theorem dX1_isInLine_21 : decode cX1_isInLine 21 = .ok (.ireturn, 1) := by decide +kernel
theorem dX1_isInLine_22 : decode cX1_isInLine 22 = .ok (.iconst 1, 1) := by decide +kernel
theorem dX1_isInLine_23 : decode cX1_isInLine 23 = .ok (.istore_n 3, 1) := by decide +kernel
theorem dX1_isInLine_24 : decode cX1_isInLine 24 = .ok (.iload_n 3, 1) := by decide +kernel
theorem dX1_isInLine_25 : decode cX1_isInLine 25 = .ok (.iconst 3, 1) := by decide +kernel
theorem dX1_isInLine_26 : decode cX1_isInLine 26 = .ok (.if_icmp .gt 49, 3) := by decide +kernel
theorem dX1_isInLine_29 : decode cX1_isInLine 29 = .ok (.aload_n 1, 1) := by decide +kernel
theorem dX1_isInLine_30 : decode cX1_isInLine 30 = .ok (.getfield 13, 3) := by decide +kernel
theorem dX1_isInLine_33 : decode cX1_isInLine 33 = .ok (.aload_n 0, 1) := by decide +kernel
theorem dX1_isInLine_34 : decode cX1_isInLine 34 = .ok (.getfield 13, 3) := by decide +kernel
theorem dX1_isInLine_37 : decode cX1_isInLine 37 = .ok (.iload_n 3, 1) := by decide +kernel
theorem dX1_isInLine_38 : decode cX1_isInLine 38 = .ok (.getstatic 30, 3) := by decide +kernel
theorem dX1_isInLine_41 : decode cX1_isInLine 41 = .ok (.iload_n 2, 1) := by decide +kernel
theorem dX1_isInLine_42 : decode cX1_isInLine 42 = .ok (.iaload, 1) := by decide +kernel
theorem dX1_isInLine_43 : decode cX1_isInLine 43 = .ok (.imul, 1) := by decide +kernel
theorem dX1_isInLine_44 : decode cX1_isInLine 44 = .ok (.iadd, 1) := by decide +kernel
theorem dX1_isInLine_45 : decode cX1_isInLine 45 = .ok (.if_icmp .ne 24, 3) := by decide +kernel
theorem dX1_isInLine_48 : decode cX1_isInLine 48 = .ok (.aload_n 1, 1) := by decide +kernel
theorem dX1_isInLine_49 : decode cX1_isInLine 49 = .ok (.getfield 17, 3) := by decide +kernel
theorem dX1_isInLine_52 : decode cX1_isInLine 52 = .ok (.aload_n 0, 1) := by decide +kernel
theorem dX1_isInLine_53 : decode cX1_isInLine 53 = .ok (.getfield 17, 3) := by decide +kernel
theorem dX1_isInLine_56 : decode cX1_isInLine 56 = .ok (.iload_n 3, 1) := by decide +kernel
theorem dX1_isInLine_57 : decode cX1_isInLine 57 = .ok (.getstatic 33, 3) := by decide +kernel
theorem dX1_isInLine_60 : decode cX1_isInLine 60 = .ok (.iload_n 2, 1) := by decide +kernel
theorem dX1_isInLine_61 : decode cX1_isInLine 61 = .ok (.iaload, 1) := by decide +kernel
theorem dX1_isInLine_62 : decode cX1_isInLine 62 = .ok (.imul, 1) := by decide +kernel
theorem dX1_isInLine_63 : decode cX1_isInLine 63 = .ok (.iadd, 1) := by decide +kernel
theorem dX1_isInLine_64 : decode cX1_isInLine 64 = .ok (.if_icmp .ne 5, 3) := by decide +kernel
theorem dX1_isInLine_67 : decode cX1_isInLine 67 = .ok (.iconst 1, 1) := by decide +kernel
theorem dX1_isInLine_68 : decode cX1_isInLine 68 = .ok (.ireturn, 1) := by decide +kernel
theorem dX1_isInLine_69 : decode cX1_isInLine 69 = .ok (.iinc 3 1, 3) := by decide +kernel
theorem dX1_isInLine_72 : decode cX1_isInLine 72 = .ok (.goto (-48), 3) := by decide +kernel
theorem dX1_isInLine_75 : decode cX1_isInLine 75 = .ok (.iconst 0, 1) := by decide +kernel
theorem dX1_isInLine_76 : decode cX1_isInLine 76 = .ok (.ireturn, 1) := by decide +kernel
theorem dX1_leeOf_0 : decode cX1_leeOf 0 = .ok (.aload_n 1, 1) := by decide +kernel
theorem dX1_leeOf_1 : decode cX1_leeOf 1 = .ok (.getfield 36, 3) := by decide +kernel
theorem dX1_leeOf_4 : decode cX1_leeOf 4 = .ok (.istore_n 2, 1) := by decide +kernel
theorem dX1_leeOf_5 : decode cX1_leeOf 5 = .ok (.iload_n 2, 1) := by decide +kernel
theorem dX1_leeOf_6 : decode cX1_leeOf 6 = .ok (.ifCond .lt 21, 3) := by decide +kernel
theorem dX1_leeOf_9 : decode cX1_leeOf 9 = .ok (.iload_n 2, 1) := by decide +kernel
theorem dX1_leeOf_10 : decode cX1_leeOf 10 = .ok (.aload_n 0, 1) := by decide +kernel
theorem dX1_leeOf_11 : decode cX1_leeOf 11 = .ok (.getfield 7, 3) := by decide +kernel
theorem dX1_leeOf_14 : decode cX1_leeOf 14 = .ok (.arraylength, 1) := by decide +kernel
theorem dX1_leeOf_15 : decode cX1_leeOf 15 = .ok (.if_icmp .ge 12, 3) := by decide +kernel
theorem dX1_leeOf_18 : decode cX1_leeOf 18 = .ok (.aload_n 0, 1) := by decide +kernel
theorem dX1_leeOf_19 : decode cX1_leeOf 19 = .ok (.getfield 7, 3) := by decide +kernel
theorem dX1_leeOf_22 : decode cX1_leeOf 22 = .ok (.iload_n 2, 1) := by decide +kernel
theorem dX1_leeOf_23 : decode cX1_leeOf 23 = .ok (.iaload, 1) := by decide +kernel
theorem dX1_leeOf_24 : decode cX1_leeOf 24 = .ok (.goto 4, 3) := by decide +kernel
theorem dX1_leeOf_27 : decode cX1_leeOf 27 = .ok (.iconst 0, 1) := by decide +kernel
theorem dX1_leeOf_28 : decode cX1_leeOf 28 = .ok (.ireturn, 1) := by decide +kernel
theorem dX2_init_0 : decode cX2_init 0 = .ok (.aload_n 0, 1) := by decide +kernel
theorem dX2_init_1 : decode cX2_init 1 = .ok (.invokespecial 3, 3) := by decide +kernel
theorem dX2_init_4 : decode cX2_init 4 = .ok (.aload_n 0, 1) := by decide +kernel
theorem dX2_init_5 : decode cX2_init 5 = .ok (.iload_n 1, 1) := by decide +kernel
theorem dX2_init_6 : decode cX2_init 6 = .ok (.putfield 9, 3) := by decide +kernel
theorem dX2_init_9 : decode cX2_init 9 = .ok (.aload_n 0, 1) := by decide +kernel
theorem dX2_init_10 : decode cX2_init 10 = .ok (.iload_n 2, 1) := by decide +kernel
theorem dX2_init_11 : decode cX2_init 11 = .ok (.putfield 15, 3) := by decide +kernel
theorem dX2_init_14 : decode cX2_init 14 = .ok (.aload_n 0, 1) := by decide +kernel
theorem dX2_init_15 : decode cX2_init 15 = .ok (.iload_n 3, 1) := by decide +kernel
theorem dX2_init_16 : decode cX2_init 16 = .ok (.putfield 18, 3) := by decide +kernel
theorem dX2_init_19 : decode cX2_init 19 = .ok (.aload_n 0, 1) := by decide +kernel
theorem dX2_init_20 : decode cX2_init 20 = .ok (.iload 4, 2) := by decide +kernel
theorem dX2_init_22 : decode cX2_init 22 = .ok (.putfield 21, 3) := by decide +kernel
theorem dX2_init_25 : decode cX2_init 25 = .ok (.aload_n 0, 1) := by decide +kernel
theorem dX2_init_26 : decode cX2_init 26 = .ok (.iload 5, 2) := by decide +kernel
theorem dX2_init_28 : decode cX2_init 28 = .ok (.putfield 24, 3) := by decide +kernel
theorem dX2_init_31 : decode cX2_init 31 = .ok (.return_, 1) := by decide +kernel
theorem dX2_tell_0 : decode cX2_tell 0 = .ok (.iload_n 1, 1) := by decide +kernel
theorem dX2_tell_1 : decode cX2_tell 1 = .ok (.tableswitch 100 0 7 #[47, 52, 57, 62, 67, 74, 81, 95], 47) := by decide +kernel
theorem dX2_tell_48 : decode cX2_tell 48 = .ok (.aload_n 0, 1) := by decide +kernel
theorem dX2_tell_49 : decode cX2_tell 49 = .ok (.getfield 15, 3) := by decide +kernel
theorem dX2_tell_52 : decode cX2_tell 52 = .ok (.ireturn, 1) := by decide +kernel
theorem dX2_tell_53 : decode cX2_tell 53 = .ok (.aload_n 0, 1) := by decide +kernel
theorem dX2_tell_54 : decode cX2_tell 54 = .ok (.getfield 18, 3) := by decide +kernel
theorem dX2_tell_57 : decode cX2_tell 57 = .ok (.ireturn, 1) := by decide +kernel
theorem dX2_tell_58 : decode cX2_tell 58 = .ok (.aload_n 0, 1) := by decide +kernel
theorem dX2_tell_59 : decode cX2_tell 59 = .ok (.getfield 21, 3) := by decide +kernel
theorem dX2_tell_62 : decode cX2_tell 62 = .ok (.ireturn, 1) := by decide +kernel
theorem dX2_tell_63 : decode cX2_tell 63 = .ok (.aload_n 0, 1) := by decide +kernel
theorem dX2_tell_64 : decode cX2_tell 64 = .ok (.getfield 24, 3) := by decide +kernel
theorem dX2_tell_67 : decode cX2_tell 67 = .ok (.ireturn, 1) := by decide +kernel
theorem dX2_tell_68 : decode cX2_tell 68 = .ok (.aload_n 2, 1) := by decide +kernel
theorem dX2_tell_69 : decode cX2_tell 69 = .ok (.aload_n 0, 1) := by decide +kernel
theorem dX2_tell_70 : decode cX2_tell 70 = .ok (.iconst 1, 1) := by decide +kernel
theorem dX2_tell_71 : decode cX2_tell 71 = .ok (.invokevirtual 27, 3) := by decide +kernel
theorem dX2_tell_74 : decode cX2_tell 74 = .ok (.ireturn, 1) := by decide +kernel
theorem dX2_tell_75 : decode cX2_tell 75 = .ok (.aload_n 2, 1) := by decide +kernel
theorem dX2_tell_76 : decode cX2_tell 76 = .ok (.aload_n 0, 1) := by decide +kernel
theorem dX2_tell_77 : decode cX2_tell 77 = .ok (.iconst (-1), 1) := by decide +kernel
theorem dX2_tell_78 : decode cX2_tell 78 = .ok (.invokevirtual 27, 3) := by decide +kernel
theorem dX2_tell_81 : decode cX2_tell 81 = .ok (.ireturn, 1) := by decide +kernel
theorem dX2_tell_82 : decode cX2_tell 82 = .ok (.aload_n 2, 1) := by decide +kernel
theorem dX2_tell_83 : decode cX2_tell 83 = .ok (.aload_n 0, 1) := by decide +kernel
theorem dX2_tell_84 : decode cX2_tell 84 = .ok (.invokevirtual 33, 3) := by decide +kernel
theorem dX2_tell_87 : decode cX2_tell 87 = .ok (.ifCond .eq 7, 3) := by decide +kernel
theorem dX2_tell_90 : decode cX2_tell 90 = .ok (.iconst 1, 1) := by decide +kernel
theorem dX2_tell_91 : decode cX2_tell 91 = .ok (.goto 4, 3) := by decide +kernel
theorem dX2_tell_94 : decode cX2_tell 94 = .ok (.iconst 0, 1) := by decide +kernel
theorem dX2_tell_95 : decode cX2_tell 95 = .ok (.ireturn, 1) := by decide +kernel
theorem dX2_tell_96 : decode cX2_tell 96 = .ok (.aload_n 0, 1) := by decide +kernel
theorem dX2_tell_97 : decode cX2_tell 97 = .ok (.getfield 37, 3) := by decide +kernel
theorem dX2_tell_100 : decode cX2_tell 100 = .ok (.ireturn, 1) := by decide +kernel
theorem dX2_tell_101 : decode cX2_tell 101 = .ok (.aload_n 0, 1) := by decide +kernel
theorem dX2_tell_102 : decode cX2_tell 102 = .ok (.getfield 40, 3) := by decide +kernel
theorem dX2_tell_105 : decode cX2_tell 105 = .ok (.ireturn, 1) := by decide +kernel
theorem dX2_sideOf_0 : decode cX2_sideOf 0 = .ok (.aload_n 1, 1) := by decide +kernel
theorem dX2_sideOf_1 : decode cX2_sideOf 1 = .ok (.getfield 43, 3) := by decide +kernel
theorem dX2_sideOf_4 : decode cX2_sideOf 4 = .ok (.aload_n 0, 1) := by decide +kernel
theorem dX2_sideOf_5 : decode cX2_sideOf 5 = .ok (.getfield 15, 3) := by decide +kernel
theorem dX2_sideOf_8 : decode cX2_sideOf 8 = .ok (.invokestatic 46, 3) := by decide +kernel
theorem dX2_sideOf_11 : decode cX2_sideOf 11 = .ok (.istore_n 2, 1) := by decide +kernel
theorem dX2_sideOf_12 : decode cX2_sideOf 12 = .ok (.iload_n 2, 1) := by decide +kernel
theorem dX2_sideOf_13 : decode cX2_sideOf 13 = .ok (.aload_n 0, 1) := by decide +kernel
theorem dX2_sideOf_14 : decode cX2_sideOf 14 = .ok (.getfield 18, 3) := by decide +kernel
theorem dX2_sideOf_17 : decode cX2_sideOf 17 = .ok (.if_icmp .gt 5, 3) := by decide +kernel
theorem dX2_sideOf_20 : decode cX2_sideOf 20 = .ok (.iconst 1, 1) := by decide +kernel
theorem dX2_sideOf_21 : decode cX2_sideOf 21 = .ok (.ireturn, 1) := by decide +kernel
theorem dX2_sideOf_22 : decode cX2_sideOf 22 = .ok (.iload_n 2, 1) := by decide +kernel
theorem dX2_sideOf_23 : decode cX2_sideOf 23 = .ok (.bipush 8, 2) := by decide +kernel
theorem dX2_sideOf_25 : decode cX2_sideOf 25 = .ok (.aload_n 0, 1) := by decide +kernel
theorem dX2_sideOf_26 : decode cX2_sideOf 26 = .ok (.getfield 18, 3) := by decide +kernel
theorem dX2_sideOf_29 : decode cX2_sideOf 29 = .ok (.iconst 2, 1) := by decide +kernel
theorem dX2_sideOf_30 : decode cX2_sideOf 30 = .ok (.idiv, 1) := by decide +kernel
theorem dX2_sideOf_31 : decode cX2_sideOf 31 = .ok (.isub, 1) := by decide +kernel
theorem dX2_sideOf_32 : decode cX2_sideOf 32 = .ok (.if_icmp .lt 7, 3) := by decide +kernel
theorem dX2_sideOf_35 : decode cX2_sideOf 35 = .ok (.iconst (-1), 1) := by decide +kernel
theorem dX2_sideOf_36 : decode cX2_sideOf 36 = .ok (.goto 4, 3) := by decide +kernel
theorem dX2_sideOf_39 : decode cX2_sideOf 39 = .ok (.iconst 0, 1) := by decide +kernel
theorem dX2_sideOf_40 : decode cX2_sideOf 40 = .ok (.ireturn, 1) := by decide +kernel
theorem dX2_noteVoting_0 : decode cX2_noteVoting 0 = .ok (.aload_n 0, 1) := by decide +kernel
theorem dX2_noteVoting_1 : decode cX2_noteVoting 1 = .ok (.dup, 1) := by decide +kernel
theorem dX2_noteVoting_2 : decode cX2_noteVoting 2 = .ok (.getfield 37, 3) := by decide +kernel
theorem dX2_noteVoting_5 : decode cX2_noteVoting 5 = .ok (.iconst 1, 1) := by decide +kernel
theorem dX2_noteVoting_6 : decode cX2_noteVoting 6 = .ok (.iadd, 1) := by decide +kernel
theorem dX2_noteVoting_7 : decode cX2_noteVoting 7 = .ok (.putfield 37, 3) := by decide +kernel
theorem dX2_noteVoting_10 : decode cX2_noteVoting 10 = .ok (.iload_n 1, 1) := by decide +kernel
theorem dX2_noteVoting_11 : decode cX2_noteVoting 11 = .ok (.ifCond .eq 13, 3) := by decide +kernel
theorem dX2_noteVoting_14 : decode cX2_noteVoting 14 = .ok (.aload_n 0, 1) := by decide +kernel
theorem dX2_noteVoting_15 : decode cX2_noteVoting 15 = .ok (.dup, 1) := by decide +kernel
theorem dX2_noteVoting_16 : decode cX2_noteVoting 16 = .ok (.getfield 40, 3) := by decide +kernel
theorem dX2_noteVoting_19 : decode cX2_noteVoting 19 = .ok (.iconst 1, 1) := by decide +kernel
theorem dX2_noteVoting_20 : decode cX2_noteVoting 20 = .ok (.iadd, 1) := by decide +kernel
theorem dX2_noteVoting_21 : decode cX2_noteVoting 21 = .ok (.putfield 40, 3) := by decide +kernel
theorem dX2_noteVoting_24 : decode cX2_noteVoting 24 = .ok (.return_, 1) := by decide +kernel
theorem dX3_init_0 : decode cX3_init 0 = .ok (.aload_n 0, 1) := by decide +kernel
theorem dX3_init_1 : decode cX3_init 1 = .ok (.invokespecial 3, 3) := by decide +kernel
theorem dX3_init_4 : decode cX3_init 4 = .ok (.aload_n 0, 1) := by decide +kernel
theorem dX3_init_5 : decode cX3_init 5 = .ok (.new 9, 3) := by decide +kernel
theorem dX3_init_8 : decode cX3_init 8 = .ok (.dup, 1) := by decide +kernel
theorem dX3_init_9 : decode cX3_init 9 = .ok (.invokespecial 11, 3) := by decide +kernel
theorem dX3_init_12 : decode cX3_init 12 = .ok (.putfield 12, 3) := by decide +kernel
theorem dX3_init_15 : decode cX3_init 15 = .ok (.return_, 1) := by decide +kernel
theorem dX3_copyAllFrom_0 : decode cX3_copyAllFrom 0 = .ok (.iconst 0, 1) := by decide +kernel
theorem dX3_copyAllFrom_1 : decode cX3_copyAllFrom 1 = .ok (.istore_n 2, 1) := by decide +kernel
theorem dX3_copyAllFrom_2 : decode cX3_copyAllFrom 2 = .ok (.iload_n 2, 1) := by decide +kernel
theorem dX3_copyAllFrom_3 : decode cX3_copyAllFrom 3 = .ok (.aload_n 0, 1) := by decide +kernel
theorem dX3_copyAllFrom_4 : decode cX3_copyAllFrom 4 = .ok (.getfield 12, 3) := by decide +kernel
theorem dX3_copyAllFrom_7 : decode cX3_copyAllFrom 7 = .ok (.invokevirtual 18, 3) := by decide +kernel
theorem dX3_copyAllFrom_10 : decode cX3_copyAllFrom 10 = .ok (.if_icmp .ge 45, 3) := by decide +kernel
theorem dX3_copyAllFrom_13 : decode cX3_copyAllFrom 13 = .ok (.iload_n 2, 1) := by decide +kernel
theorem dX3_copyAllFrom_14 : decode cX3_copyAllFrom 14 = .ok (.aload_n 1, 1) := by decide +kernel
theorem dX3_copyAllFrom_15 : decode cX3_copyAllFrom 15 = .ok (.getfield 12, 3) := by decide +kernel
theorem dX3_copyAllFrom_18 : decode cX3_copyAllFrom 18 = .ok (.invokevirtual 18, 3) := by decide +kernel
theorem dX3_copyAllFrom_21 : decode cX3_copyAllFrom 21 = .ok (.if_icmp .ge 34, 3) := by decide +kernel
theorem dX3_copyAllFrom_24 : decode cX3_copyAllFrom 24 = .ok (.aload_n 0, 1) := by decide +kernel
theorem dX3_copyAllFrom_25 : decode cX3_copyAllFrom 25 = .ok (.getfield 12, 3) := by decide +kernel
theorem dX3_copyAllFrom_28 : decode cX3_copyAllFrom 28 = .ok (.iload_n 2, 1) := by decide +kernel
theorem dX3_copyAllFrom_29 : decode cX3_copyAllFrom 29 = .ok (.invokevirtual 22, 3) := by decide +kernel
theorem dX3_copyAllFrom_32 : decode cX3_copyAllFrom 32 = .ok (.checkcast 26, 3) := by decide +kernel
theorem dX3_copyAllFrom_35 : decode cX3_copyAllFrom 35 = .ok (.aload_n 1, 1) := by decide +kernel
theorem dX3_copyAllFrom_36 : decode cX3_copyAllFrom 36 = .ok (.getfield 12, 3) := by decide +kernel
theorem dX3_copyAllFrom_39 : decode cX3_copyAllFrom 39 = .ok (.iload_n 2, 1) := by decide +kernel
theorem dX3_copyAllFrom_40 : decode cX3_copyAllFrom 40 = .ok (.invokevirtual 22, 3) := by decide +kernel
theorem dX3_copyAllFrom_43 : decode cX3_copyAllFrom 43 = .ok (.checkcast 26, 3) := by decide +kernel
theorem dX3_copyAllFrom_46 : decode cX3_copyAllFrom 46 = .ok (.invokevirtual 28, 3) := by decide +kernel
theorem dX3_copyAllFrom_49 : decode cX3_copyAllFrom 49 = .ok (.iinc 2 1, 3) := by decide +kernel
theorem dX3_copyAllFrom_52 : decode cX3_copyAllFrom 52 = .ok (.goto (-50), 3) := by decide +kernel
theorem dX3_copyAllFrom_55 : decode cX3_copyAllFrom 55 = .ok (.return_, 1) := by decide +kernel
theorem dX3_hasOneAt_0 : decode cX3_hasOneAt 0 = .ok (.iconst 0, 1) := by decide +kernel
theorem dX3_hasOneAt_1 : decode cX3_hasOneAt 1 = .ok (.istore_n 3, 1) := by decide +kernel
theorem dX3_hasOneAt_2 : decode cX3_hasOneAt 2 = .ok (.iload_n 3, 1) := by decide +kernel
theorem dX3_hasOneAt_3 : decode cX3_hasOneAt 3 = .ok (.aload_n 0, 1) := by decide +kernel
theorem dX3_hasOneAt_4 : decode cX3_hasOneAt 4 = .ok (.getfield 12, 3) := by decide +kernel
theorem dX3_hasOneAt_7 : decode cX3_hasOneAt 7 = .ok (.invokevirtual 18, 3) := by decide +kernel
theorem dX3_hasOneAt_10 : decode cX3_hasOneAt 10 = .ok (.if_icmp .ge 45, 3) := by decide +kernel
theorem dX3_hasOneAt_13 : decode cX3_hasOneAt 13 = .ok (.aload_n 0, 1) := by decide +kernel
theorem dX3_hasOneAt_14 : decode cX3_hasOneAt 14 = .ok (.getfield 12, 3) := by decide +kernel
theorem dX3_hasOneAt_17 : decode cX3_hasOneAt 17 = .ok (.iload_n 3, 1) := by decide +kernel
theorem dX3_hasOneAt_18 : decode cX3_hasOneAt 18 = .ok (.invokevirtual 22, 3) := by decide +kernel
theorem dX3_hasOneAt_21 : decode cX3_hasOneAt 21 = .ok (.checkcast 26, 3) := by decide +kernel
theorem dX3_hasOneAt_24 : decode cX3_hasOneAt 24 = .ok (.getfield 32, 3) := by decide +kernel
theorem dX3_hasOneAt_27 : decode cX3_hasOneAt 27 = .ok (.astore 4, 2) := by decide +kernel
theorem dX3_hasOneAt_29 : decode cX3_hasOneAt 29 = .ok (.aload 4, 2) := by decide +kernel
theorem dX3_hasOneAt_31 : decode cX3_hasOneAt 31 = .ok (.getfield 36, 3) := by decide +kernel
theorem dX3_hasOneAt_34 : decode cX3_hasOneAt 34 = .ok (.iload_n 1, 1) := by decide +kernel
theorem dX3_hasOneAt_35 : decode cX3_hasOneAt 35 = .ok (.if_icmp .ne 14, 3) := by decide +kernel
theorem dX3_hasOneAt_38 : decode cX3_hasOneAt 38 = .ok (.aload 4, 2) := by decide +kernel
theorem dX3_hasOneAt_40 : decode cX3_hasOneAt 40 = .ok (.getfield 42, 3) := by decide +kernel
theorem dX3_hasOneAt_43 : decode cX3_hasOneAt 43 = .ok (.iload_n 2, 1) := by decide +kernel
theorem dX3_hasOneAt_44 : decode cX3_hasOneAt 44 = .ok (.if_icmp .ne 5, 3) := by decide +kernel
theorem dX3_hasOneAt_47 : decode cX3_hasOneAt 47 = .ok (.iconst 1, 1) := by decide +kernel
theorem dX3_hasOneAt_48 : decode cX3_hasOneAt 48 = .ok (.ireturn, 1) := by decide +kernel
theorem dX3_hasOneAt_49 : decode cX3_hasOneAt 49 = .ok (.iinc 3 1, 3) := by decide +kernel
theorem dX3_hasOneAt_52 : decode cX3_hasOneAt 52 = .ok (.goto (-50), 3) := by decide +kernel
theorem dX3_hasOneAt_55 : decode cX3_hasOneAt 55 = .ok (.iconst 0, 1) := by decide +kernel
theorem dX3_hasOneAt_56 : decode cX3_hasOneAt 56 = .ok (.ireturn, 1) := by decide +kernel
theorem dX3_shelter_0 : decode cX3_shelter 0 = .ok (.iconst 0, 1) := by decide +kernel
theorem dX3_shelter_1 : decode cX3_shelter 1 = .ok (.istore_n 2, 1) := by decide +kernel
theorem dX3_shelter_2 : decode cX3_shelter 2 = .ok (.iload_n 2, 1) := by decide +kernel
theorem dX3_shelter_3 : decode cX3_shelter 3 = .ok (.aload_n 0, 1) := by decide +kernel
theorem dX3_shelter_4 : decode cX3_shelter 4 = .ok (.getfield 12, 3) := by decide +kernel
theorem dX3_shelter_7 : decode cX3_shelter 7 = .ok (.invokevirtual 18, 3) := by decide +kernel
theorem dX3_shelter_10 : decode cX3_shelter 10 = .ok (.if_icmp .ge 45, 3) := by decide +kernel
theorem dX3_shelter_13 : decode cX3_shelter 13 = .ok (.aload_n 1, 1) := by decide +kernel
theorem dX3_shelter_14 : decode cX3_shelter 14 = .ok (.aload_n 0, 1) := by decide +kernel
theorem dX3_shelter_15 : decode cX3_shelter 15 = .ok (.getfield 12, 3) := by decide +kernel
theorem dX3_shelter_18 : decode cX3_shelter 18 = .ok (.iload_n 2, 1) := by decide +kernel
theorem dX3_shelter_19 : decode cX3_shelter 19 = .ok (.invokevirtual 22, 3) := by decide +kernel
theorem dX3_shelter_22 : decode cX3_shelter 22 = .ok (.checkcast 26, 3) := by decide +kernel
theorem dX3_shelter_25 : decode cX3_shelter 25 = .ok (.getfield 32, 3) := by decide +kernel
theorem dX3_shelter_28 : decode cX3_shelter 28 = .ok (.invokevirtual 45, 3) := by decide +kernel
theorem dX3_shelter_31 : decode cX3_shelter 31 = .ok (.aload_n 0, 1) := by decide +kernel
theorem dX3_shelter_32 : decode cX3_shelter 32 = .ok (.getfield 12, 3) := by decide +kernel
theorem dX3_shelter_35 : decode cX3_shelter 35 = .ok (.iload_n 2, 1) := by decide +kernel
theorem dX3_shelter_36 : decode cX3_shelter 36 = .ok (.invokevirtual 22, 3) := by decide +kernel
theorem dX3_shelter_39 : decode cX3_shelter 39 = .ok (.checkcast 26, 3) := by decide +kernel
theorem dX3_shelter_42 : decode cX3_shelter 42 = .ok (.getfield 32, 3) := by decide +kernel
theorem dX3_shelter_45 : decode cX3_shelter 45 = .ok (.aload_n 1, 1) := by decide +kernel
theorem dX3_shelter_46 : decode cX3_shelter 46 = .ok (.invokevirtual 45, 3) := by decide +kernel
theorem dX3_shelter_49 : decode cX3_shelter 49 = .ok (.iinc 2 1, 3) := by decide +kernel
theorem dX3_shelter_52 : decode cX3_shelter 52 = .ok (.goto (-50), 3) := by decide +kernel
theorem dX3_shelter_55 : decode cX3_shelter 55 = .ok (.return_, 1) := by decide +kernel
theorem dX3_directionOf_0 : decode cX3_directionOf 0 = .ok (.iload_n 1, 1) := by decide +kernel
theorem dX3_directionOf_1 : decode cX3_directionOf 1 = .ok (.ifCond .lt 31, 3) := by decide +kernel
theorem dX3_directionOf_4 : decode cX3_directionOf 4 = .ok (.iload_n 1, 1) := by decide +kernel
theorem dX3_directionOf_5 : decode cX3_directionOf 5 = .ok (.aload_n 0, 1) := by decide +kernel
theorem dX3_directionOf_6 : decode cX3_directionOf 6 = .ok (.getfield 12, 3) := by decide +kernel
theorem dX3_directionOf_9 : decode cX3_directionOf 9 = .ok (.invokevirtual 18, 3) := by decide +kernel
theorem dX3_directionOf_12 : decode cX3_directionOf 12 = .ok (.if_icmp .ge 20, 3) := by decide +kernel
theorem dX3_directionOf_15 : decode cX3_directionOf 15 = .ok (.aload_n 0, 1) := by decide +kernel
theorem dX3_directionOf_16 : decode cX3_directionOf 16 = .ok (.getfield 12, 3) := by decide +kernel
theorem dX3_directionOf_19 : decode cX3_directionOf 19 = .ok (.iload_n 1, 1) := by decide +kernel
theorem dX3_directionOf_20 : decode cX3_directionOf 20 = .ok (.invokevirtual 22, 3) := by decide +kernel
theorem dX3_directionOf_23 : decode cX3_directionOf 23 = .ok (.checkcast 26, 3) := by decide +kernel
theorem dX3_directionOf_26 : decode cX3_directionOf 26 = .ok (.getfield 49, 3) := by decide +kernel
theorem dX3_directionOf_29 : decode cX3_directionOf 29 = .ok (.goto 4, 3) := by decide +kernel
theorem dX3_directionOf_32 : decode cX3_directionOf 32 = .ok (.iconst 0, 1) := by decide +kernel
theorem dX3_directionOf_33 : decode cX3_directionOf 33 = .ok (.ireturn, 1) := by decide +kernel
theorem dX3_blowOnAll_0 : decode cX3_blowOnAll 0 = .ok (.iconst 0, 1) := by decide +kernel
theorem dX3_blowOnAll_1 : decode cX3_blowOnAll 1 = .ok (.istore_n 2, 1) := by decide +kernel
theorem dX3_blowOnAll_2 : decode cX3_blowOnAll 2 = .ok (.iload_n 2, 1) := by decide +kernel
theorem dX3_blowOnAll_3 : decode cX3_blowOnAll 3 = .ok (.aload_n 0, 1) := by decide +kernel
theorem dX3_blowOnAll_4 : decode cX3_blowOnAll 4 = .ok (.getfield 12, 3) := by decide +kernel
theorem dX3_blowOnAll_7 : decode cX3_blowOnAll 7 = .ok (.invokevirtual 18, 3) := by decide +kernel
theorem dX3_blowOnAll_10 : decode cX3_blowOnAll 10 = .ok (.if_icmp .ge 24, 3) := by decide +kernel
theorem dX3_blowOnAll_13 : decode cX3_blowOnAll 13 = .ok (.aload_n 0, 1) := by decide +kernel
theorem dX3_blowOnAll_14 : decode cX3_blowOnAll 14 = .ok (.getfield 12, 3) := by decide +kernel
theorem dX3_blowOnAll_17 : decode cX3_blowOnAll 17 = .ok (.iload_n 2, 1) := by decide +kernel
theorem dX3_blowOnAll_18 : decode cX3_blowOnAll 18 = .ok (.invokevirtual 22, 3) := by decide +kernel
theorem dX3_blowOnAll_21 : decode cX3_blowOnAll 21 = .ok (.checkcast 26, 3) := by decide +kernel
theorem dX3_blowOnAll_24 : decode cX3_blowOnAll 24 = .ok (.aload_n 1, 1) := by decide +kernel
theorem dX3_blowOnAll_25 : decode cX3_blowOnAll 25 = .ok (.invokevirtual 52, 3) := by decide +kernel
theorem dX3_blowOnAll_28 : decode cX3_blowOnAll 28 = .ok (.iinc 2 1, 3) := by decide +kernel
theorem dX3_blowOnAll_31 : decode cX3_blowOnAll 31 = .ok (.goto (-29), 3) := by decide +kernel
theorem dX3_blowOnAll_34 : decode cX3_blowOnAll 34 = .ok (.return_, 1) := by decide +kernel
theorem dX3_rainOnAll_0 : decode cX3_rainOnAll 0 = .ok (.iconst 0, 1) := by decide +kernel
theorem dX3_rainOnAll_1 : decode cX3_rainOnAll 1 = .ok (.istore_n 1, 1) := by decide +kernel
theorem dX3_rainOnAll_2 : decode cX3_rainOnAll 2 = .ok (.iload_n 1, 1) := by decide +kernel
theorem dX3_rainOnAll_3 : decode cX3_rainOnAll 3 = .ok (.aload_n 0, 1) := by decide +kernel
theorem dX3_rainOnAll_4 : decode cX3_rainOnAll 4 = .ok (.getfield 12, 3) := by decide +kernel
theorem dX3_rainOnAll_7 : decode cX3_rainOnAll 7 = .ok (.invokevirtual 18, 3) := by decide +kernel
theorem dX3_rainOnAll_10 : decode cX3_rainOnAll 10 = .ok (.if_icmp .ge 23, 3) := by decide +kernel
theorem dX3_rainOnAll_13 : decode cX3_rainOnAll 13 = .ok (.aload_n 0, 1) := by decide +kernel
theorem dX3_rainOnAll_14 : decode cX3_rainOnAll 14 = .ok (.getfield 12, 3) := by decide +kernel
theorem dX3_rainOnAll_17 : decode cX3_rainOnAll 17 = .ok (.iload_n 1, 1) := by decide +kernel
theorem dX3_rainOnAll_18 : decode cX3_rainOnAll 18 = .ok (.invokevirtual 22, 3) := by decide +kernel
theorem dX3_rainOnAll_21 : decode cX3_rainOnAll 21 = .ok (.checkcast 26, 3) := by decide +kernel
theorem dX3_rainOnAll_24 : decode cX3_rainOnAll 24 = .ok (.invokevirtual 56, 3) := by decide +kernel
theorem dX3_rainOnAll_27 : decode cX3_rainOnAll 27 = .ok (.iinc 1 1, 3) := by decide +kernel
theorem dX3_rainOnAll_30 : decode cX3_rainOnAll 30 = .ok (.goto (-28), 3) := by decide +kernel
theorem dX3_rainOnAll_33 : decode cX3_rainOnAll 33 = .ok (.return_, 1) := by decide +kernel
theorem dX3_giveEffect_0 : decode cX3_giveEffect 0 = .ok (.iconst 0, 1) := by decide +kernel
theorem dX3_giveEffect_1 : decode cX3_giveEffect 1 = .ok (.istore_n 2, 1) := by decide +kernel
theorem dX3_giveEffect_2 : decode cX3_giveEffect 2 = .ok (.iload_n 2, 1) := by decide +kernel
theorem dX3_giveEffect_3 : decode cX3_giveEffect 3 = .ok (.aload_n 0, 1) := by decide +kernel
theorem dX3_giveEffect_4 : decode cX3_giveEffect 4 = .ok (.getfield 12, 3) := by decide +kernel
theorem dX3_giveEffect_7 : decode cX3_giveEffect 7 = .ok (.invokevirtual 18, 3) := by decide +kernel
theorem dX3_giveEffect_10 : decode cX3_giveEffect 10 = .ok (.if_icmp .ge 42, 3) := by decide +kernel
theorem dX3_giveEffect_13 : decode cX3_giveEffect 13 = .ok (.aload_n 0, 1) := by decide +kernel
theorem dX3_giveEffect_14 : decode cX3_giveEffect 14 = .ok (.getfield 12, 3) := by decide +kernel
theorem dX3_giveEffect_17 : decode cX3_giveEffect 17 = .ok (.iload_n 2, 1) := by decide +kernel
theorem dX3_giveEffect_18 : decode cX3_giveEffect 18 = .ok (.invokevirtual 22, 3) := by decide +kernel
theorem dX3_giveEffect_21 : decode cX3_giveEffect 21 = .ok (.checkcast 26, 3) := by decide +kernel
theorem dX3_giveEffect_24 : decode cX3_giveEffect 24 = .ok (.aload_n 1, 1) := by decide +kernel
theorem dX3_giveEffect_25 : decode cX3_giveEffect 25 = .ok (.getfield 59, 3) := by decide +kernel
theorem dX3_giveEffect_28 : decode cX3_giveEffect 28 = .ok (.aload_n 1, 1) := by decide +kernel
theorem dX3_giveEffect_29 : decode cX3_giveEffect 29 = .ok (.aload_n 0, 1) := by decide +kernel
theorem dX3_giveEffect_30 : decode cX3_giveEffect 30 = .ok (.getfield 12, 3) := by decide +kernel
theorem dX3_giveEffect_33 : decode cX3_giveEffect 33 = .ok (.iload_n 2, 1) := by decide +kernel
theorem dX3_giveEffect_34 : decode cX3_giveEffect 34 = .ok (.invokevirtual 22, 3) := by decide +kernel
theorem dX3_giveEffect_37 : decode cX3_giveEffect 37 = .ok (.checkcast 26, 3) := by decide +kernel
theorem dX3_giveEffect_40 : decode cX3_giveEffect 40 = .ok (.invokevirtual 64, 3) := by decide +kernel
theorem dX3_giveEffect_43 : decode cX3_giveEffect 43 = .ok (.invokevirtual 68, 3) := by decide +kernel
theorem dX3_giveEffect_46 : decode cX3_giveEffect 46 = .ok (.iinc 2 1, 3) := by decide +kernel
theorem dX3_giveEffect_49 : decode cX3_giveEffect 49 = .ok (.goto (-47), 3) := by decide +kernel
theorem dX3_giveEffect_52 : decode cX3_giveEffect 52 = .ok (.return_, 1) := by decide +kernel
theorem dX3_carries_0 : decode cX3_carries 0 = .ok (.iconst 0, 1) := by decide +kernel
theorem dX3_carries_1 : decode cX3_carries 1 = .ok (.istore_n 2, 1) := by decide +kernel
theorem dX3_carries_2 : decode cX3_carries 2 = .ok (.iconst 0, 1) := by decide +kernel
theorem dX3_carries_3 : decode cX3_carries 3 = .ok (.istore_n 3, 1) := by decide +kernel
theorem dX3_carries_4 : decode cX3_carries 4 = .ok (.iconst 0, 1) := by decide +kernel
theorem dX3_carries_5 : decode cX3_carries 5 = .ok (.istore 4, 2) := by decide +kernel
theorem dX3_carries_7 : decode cX3_carries 7 = .ok (.iload 4, 2) := by decide +kernel
theorem dX3_carries_9 : decode cX3_carries 9 = .ok (.aload_n 0, 1) := by decide +kernel
theorem dX3_carries_10 : decode cX3_carries 10 = .ok (.getfield 12, 3) := by decide +kernel
theorem dX3_carries_13 : decode cX3_carries 13 = .ok (.invokevirtual 18, 3) := by decide +kernel
theorem dX3_carries_16 : decode cX3_carries 16 = .ok (.if_icmp .ge 72, 3) := by decide +kernel
theorem dX3_carries_19 : decode cX3_carries 19 = .ok (.aload_n 1, 1) := by decide +kernel
theorem dX3_carries_20 : decode cX3_carries 20 = .ok (.aload_n 0, 1) := by decide +kernel
theorem dX3_carries_21 : decode cX3_carries 21 = .ok (.getfield 12, 3) := by decide +kernel
theorem dX3_carries_24 : decode cX3_carries 24 = .ok (.iload 4, 2) := by decide +kernel
theorem dX3_carries_26 : decode cX3_carries 26 = .ok (.invokevirtual 22, 3) := by decide +kernel
theorem dX3_carries_29 : decode cX3_carries 29 = .ok (.checkcast 26, 3) := by decide +kernel
theorem dX3_carries_32 : decode cX3_carries 32 = .ok (.invokevirtual 64, 3) := by decide +kernel
theorem dX3_carries_35 : decode cX3_carries 35 = .ok (.istore 5, 2) := by decide +kernel
theorem dX3_carries_37 : decode cX3_carries 37 = .ok (.iload_n 2, 1) := by decide +kernel
theorem dX3_carries_38 : decode cX3_carries 38 = .ok (.aload_n 0, 1) := by decide +kernel
theorem dX3_carries_39 : decode cX3_carries 39 = .ok (.getfield 12, 3) := by decide +kernel
theorem dX3_carries_42 : decode cX3_carries 42 = .ok (.iload 4, 2) := by decide +kernel
theorem dX3_carries_44 : decode cX3_carries 44 = .ok (.invokevirtual 22, 3) := by decide +kernel
theorem dX3_carries_47 : decode cX3_carries 47 = .ok (.checkcast 26, 3) := by decide +kernel
theorem dX3_carries_50 : decode cX3_carries 50 = .ok (.getfield 72, 3) := by decide +kernel
theorem dX3_carries_53 : decode cX3_carries 53 = .ok (.iload 5, 2) := by decide +kernel
theorem dX3_carries_55 : decode cX3_carries 55 = .ok (.invokestatic 75, 3) := by decide +kernel
theorem dX3_carries_58 : decode cX3_carries 58 = .ok (.imul, 1) := by decide +kernel
theorem dX3_carries_59 : decode cX3_carries 59 = .ok (.iadd, 1) := by decide +kernel
theorem dX3_carries_60 : decode cX3_carries 60 = .ok (.istore_n 2, 1) := by decide +kernel
theorem dX3_carries_61 : decode cX3_carries 61 = .ok (.iload_n 3, 1) := by decide +kernel
theorem dX3_carries_62 : decode cX3_carries 62 = .ok (.aload_n 0, 1) := by decide +kernel
theorem dX3_carries_63 : decode cX3_carries 63 = .ok (.getfield 12, 3) := by decide +kernel
theorem dX3_carries_66 : decode cX3_carries 66 = .ok (.iload 4, 2) := by decide +kernel
theorem dX3_carries_68 : decode cX3_carries 68 = .ok (.invokevirtual 22, 3) := by decide +kernel
theorem dX3_carries_71 : decode cX3_carries 71 = .ok (.checkcast 26, 3) := by decide +kernel
theorem dX3_carries_74 : decode cX3_carries 74 = .ok (.getfield 72, 3) := by decide +kernel
theorem dX3_carries_77 : decode cX3_carries 77 = .ok (.iload 5, 2) := by decide +kernel
theorem dX3_carries_79 : decode cX3_carries 79 = .ok (.imul, 1) := by decide +kernel
theorem dX3_carries_80 : decode cX3_carries 80 = .ok (.iadd, 1) := by decide +kernel
theorem dX3_carries_81 : decode cX3_carries 81 = .ok (.istore_n 3, 1) := by decide +kernel
theorem dX3_carries_82 : decode cX3_carries 82 = .ok (.iinc 4 1, 3) := by decide +kernel
theorem dX3_carries_85 : decode cX3_carries 85 = .ok (.goto (-78), 3) := by decide +kernel
theorem dX3_carries_88 : decode cX3_carries 88 = .ok (.iload_n 2, 1) := by decide +kernel
theorem dX3_carries_89 : decode cX3_carries 89 = .ok (.aload_n 1, 1) := by decide +kernel
theorem dX3_carries_90 : decode cX3_carries 90 = .ok (.getfield 81, 3) := by decide +kernel
theorem dX3_carries_93 : decode cX3_carries 93 = .ok (.if_icmp .lt 11, 3) := by decide +kernel
theorem dX3_carries_96 : decode cX3_carries 96 = .ok (.iload_n 3, 1) := by decide +kernel
theorem dX3_carries_97 : decode cX3_carries 97 = .ok (.ifCond .le 7, 3) := by decide +kernel
theorem dX3_carries_100 : decode cX3_carries 100 = .ok (.iconst 1, 1) := by decide +kernel
theorem dX3_carries_101 : decode cX3_carries 101 = .ok (.goto 4, 3) := by decide +kernel
theorem dX3_carries_104 : decode cX3_carries 104 = .ok (.iconst 0, 1) := by decide +kernel
theorem dX3_carries_105 : decode cX3_carries 105 = .ok (.ireturn, 1) := by decide +kernel
theorem dX3_votesOnSide_0 : decode cX3_votesOnSide 0 = .ok (.iconst 0, 1) := by decide +kernel
theorem dX3_votesOnSide_1 : decode cX3_votesOnSide 1 = .ok (.istore_n 3, 1) := by decide +kernel
theorem dX3_votesOnSide_2 : decode cX3_votesOnSide 2 = .ok (.iconst 0, 1) := by decide +kernel
theorem dX3_votesOnSide_3 : decode cX3_votesOnSide 3 = .ok (.istore 4, 2) := by decide +kernel
theorem dX3_votesOnSide_5 : decode cX3_votesOnSide 5 = .ok (.iload 4, 2) := by decide +kernel
theorem dX3_votesOnSide_7 : decode cX3_votesOnSide 7 = .ok (.aload_n 0, 1) := by decide +kernel
theorem dX3_votesOnSide_8 : decode cX3_votesOnSide 8 = .ok (.getfield 12, 3) := by decide +kernel
theorem dX3_votesOnSide_11 : decode cX3_votesOnSide 11 = .ok (.invokevirtual 18, 3) := by decide +kernel
theorem dX3_votesOnSide_14 : decode cX3_votesOnSide 14 = .ok (.if_icmp .ge 47, 3) := by decide +kernel
theorem dX3_votesOnSide_17 : decode cX3_votesOnSide 17 = .ok (.aload_n 1, 1) := by decide +kernel
theorem dX3_votesOnSide_18 : decode cX3_votesOnSide 18 = .ok (.aload_n 0, 1) := by decide +kernel
theorem dX3_votesOnSide_19 : decode cX3_votesOnSide 19 = .ok (.getfield 12, 3) := by decide +kernel
theorem dX3_votesOnSide_22 : decode cX3_votesOnSide 22 = .ok (.iload 4, 2) := by decide +kernel
theorem dX3_votesOnSide_24 : decode cX3_votesOnSide 24 = .ok (.invokevirtual 22, 3) := by decide +kernel
theorem dX3_votesOnSide_27 : decode cX3_votesOnSide 27 = .ok (.checkcast 26, 3) := by decide +kernel
theorem dX3_votesOnSide_30 : decode cX3_votesOnSide 30 = .ok (.invokevirtual 64, 3) := by decide +kernel
theorem dX3_votesOnSide_33 : decode cX3_votesOnSide 33 = .ok (.iload_n 2, 1) := by decide +kernel
theorem dX3_votesOnSide_34 : decode cX3_votesOnSide 34 = .ok (.if_icmp .ne 21, 3) := by decide +kernel
theorem dX3_votesOnSide_37 : decode cX3_votesOnSide 37 = .ok (.iload_n 3, 1) := by decide +kernel
theorem dX3_votesOnSide_38 : decode cX3_votesOnSide 38 = .ok (.aload_n 0, 1) := by decide +kernel
theorem dX3_votesOnSide_39 : decode cX3_votesOnSide 39 = .ok (.getfield 12, 3) := by decide +kernel
theorem dX3_votesOnSide_42 : decode cX3_votesOnSide 42 = .ok (.iload 4, 2) := by decide +kernel
theorem dX3_votesOnSide_44 : decode cX3_votesOnSide 44 = .ok (.invokevirtual 22, 3) := by decide +kernel
theorem dX3_votesOnSide_47 : decode cX3_votesOnSide 47 = .ok (.checkcast 26, 3) := by decide +kernel
theorem dX3_votesOnSide_50 : decode cX3_votesOnSide 50 = .ok (.getfield 72, 3) := by decide +kernel
theorem dX3_votesOnSide_53 : decode cX3_votesOnSide 53 = .ok (.iadd, 1) := by decide +kernel
theorem dX3_votesOnSide_54 : decode cX3_votesOnSide 54 = .ok (.istore_n 3, 1) := by decide +kernel
theorem dX3_votesOnSide_55 : decode cX3_votesOnSide 55 = .ok (.iinc 4 1, 3) := by decide +kernel
theorem dX3_votesOnSide_58 : decode cX3_votesOnSide 58 = .ok (.goto (-53), 3) := by decide +kernel
theorem dX3_votesOnSide_61 : decode cX3_votesOnSide 61 = .ok (.iload_n 3, 1) := by decide +kernel
theorem dX3_votesOnSide_62 : decode cX3_votesOnSide 62 = .ok (.ireturn, 1) := by decide +kernel
theorem dX3_allVotes_0 : decode cX3_allVotes 0 = .ok (.aload_n 0, 1) := by decide +kernel
theorem dX3_allVotes_1 : decode cX3_allVotes 1 = .ok (.bipush 15, 2) := by decide +kernel
theorem dX3_allVotes_3 : decode cX3_allVotes 3 = .ok (.invokevirtual 84, 3) := by decide +kernel
theorem dX3_allVotes_6 : decode cX3_allVotes 6 = .ok (.ireturn, 1) := by decide +kernel
theorem dX3_votesOf_0 : decode cX3_votesOf 0 = .ok (.iconst 0, 1) := by decide +kernel
theorem dX3_votesOf_1 : decode cX3_votesOf 1 = .ok (.istore_n 2, 1) := by decide +kernel
theorem dX3_votesOf_2 : decode cX3_votesOf 2 = .ok (.iconst 0, 1) := by decide +kernel
theorem dX3_votesOf_3 : decode cX3_votesOf 3 = .ok (.istore_n 3, 1) := by decide +kernel
theorem dX3_votesOf_4 : decode cX3_votesOf 4 = .ok (.iload_n 3, 1) := by decide +kernel
theorem dX3_votesOf_5 : decode cX3_votesOf 5 = .ok (.aload_n 0, 1) := by decide +kernel
theorem dX3_votesOf_6 : decode cX3_votesOf 6 = .ok (.getfield 12, 3) := by decide +kernel
theorem dX3_votesOf_9 : decode cX3_votesOf 9 = .ok (.invokevirtual 18, 3) := by decide +kernel
theorem dX3_votesOf_12 : decode cX3_votesOf 12 = .ok (.if_icmp .ge 48, 3) := by decide +kernel
theorem dX3_votesOf_15 : decode cX3_votesOf 15 = .ok (.iload_n 1, 1) := by decide +kernel
theorem dX3_votesOf_16 : decode cX3_votesOf 16 = .ok (.aload_n 0, 1) := by decide +kernel
theorem dX3_votesOf_17 : decode cX3_votesOf 17 = .ok (.getfield 12, 3) := by decide +kernel
theorem dX3_votesOf_20 : decode cX3_votesOf 20 = .ok (.iload_n 3, 1) := by decide +kernel
theorem dX3_votesOf_21 : decode cX3_votesOf 21 = .ok (.invokevirtual 22, 3) := by decide +kernel
theorem dX3_votesOf_24 : decode cX3_votesOf 24 = .ok (.checkcast 26, 3) := by decide +kernel
theorem dX3_votesOf_27 : decode cX3_votesOf 27 = .ok (.invokevirtual 87, 3) := by decide +kernel
theorem dX3_votesOf_30 : decode cX3_votesOf 30 = .ok (.ishr, 1) := by decide +kernel
theorem dX3_votesOf_31 : decode cX3_votesOf 31 = .ok (.iconst 1, 1) := by decide +kernel
theorem dX3_votesOf_32 : decode cX3_votesOf 32 = .ok (.iand, 1) := by decide +kernel
theorem dX3_votesOf_33 : decode cX3_votesOf 33 = .ok (.iconst 1, 1) := by decide +kernel
theorem dX3_votesOf_34 : decode cX3_votesOf 34 = .ok (.if_icmp .ne 20, 3) := by decide +kernel
theorem dX3_votesOf_37 : decode cX3_votesOf 37 = .ok (.iload_n 2, 1) := by decide +kernel
theorem dX3_votesOf_38 : decode cX3_votesOf 38 = .ok (.aload_n 0, 1) := by decide +kernel
theorem dX3_votesOf_39 : decode cX3_votesOf 39 = .ok (.getfield 12, 3) := by decide +kernel
theorem dX3_votesOf_42 : decode cX3_votesOf 42 = .ok (.iload_n 3, 1) := by decide +kernel
theorem dX3_votesOf_43 : decode cX3_votesOf 43 = .ok (.invokevirtual 22, 3) := by decide +kernel
theorem dX3_votesOf_46 : decode cX3_votesOf 46 = .ok (.checkcast 26, 3) := by decide +kernel
theorem dX3_votesOf_49 : decode cX3_votesOf 49 = .ok (.getfield 72, 3) := by decide +kernel
theorem dX3_votesOf_52 : decode cX3_votesOf 52 = .ok (.iadd, 1) := by decide +kernel
theorem dX3_votesOf_53 : decode cX3_votesOf 53 = .ok (.istore_n 2, 1) := by decide +kernel
theorem dX3_votesOf_54 : decode cX3_votesOf 54 = .ok (.iinc 3 1, 3) := by decide +kernel
theorem dX3_votesOf_57 : decode cX3_votesOf 57 = .ok (.goto (-53), 3) := by decide +kernel
theorem dX3_votesOf_60 : decode cX3_votesOf 60 = .ok (.iload_n 2, 1) := by decide +kernel
theorem dX3_votesOf_61 : decode cX3_votesOf 61 = .ok (.ireturn, 1) := by decide +kernel
theorem dX3_vanesOf_0 : decode cX3_vanesOf 0 = .ok (.iconst 0, 1) := by decide +kernel
theorem dX3_vanesOf_1 : decode cX3_vanesOf 1 = .ok (.istore_n 2, 1) := by decide +kernel
theorem dX3_vanesOf_2 : decode cX3_vanesOf 2 = .ok (.iconst 0, 1) := by decide +kernel
theorem dX3_vanesOf_3 : decode cX3_vanesOf 3 = .ok (.istore_n 3, 1) := by decide +kernel
theorem dX3_vanesOf_4 : decode cX3_vanesOf 4 = .ok (.iload_n 3, 1) := by decide +kernel
theorem dX3_vanesOf_5 : decode cX3_vanesOf 5 = .ok (.aload_n 0, 1) := by decide +kernel
theorem dX3_vanesOf_6 : decode cX3_vanesOf 6 = .ok (.getfield 12, 3) := by decide +kernel
theorem dX3_vanesOf_9 : decode cX3_vanesOf 9 = .ok (.invokevirtual 18, 3) := by decide +kernel
theorem dX3_vanesOf_12 : decode cX3_vanesOf 12 = .ok (.if_icmp .ge 30, 3) := by decide +kernel
theorem dX3_vanesOf_15 : decode cX3_vanesOf 15 = .ok (.iload_n 2, 1) := by decide +kernel
theorem dX3_vanesOf_16 : decode cX3_vanesOf 16 = .ok (.iload_n 1, 1) := by decide +kernel
theorem dX3_vanesOf_17 : decode cX3_vanesOf 17 = .ok (.aload_n 0, 1) := by decide +kernel
theorem dX3_vanesOf_18 : decode cX3_vanesOf 18 = .ok (.getfield 12, 3) := by decide +kernel
theorem dX3_vanesOf_21 : decode cX3_vanesOf 21 = .ok (.iload_n 3, 1) := by decide +kernel
theorem dX3_vanesOf_22 : decode cX3_vanesOf 22 = .ok (.invokevirtual 22, 3) := by decide +kernel
theorem dX3_vanesOf_25 : decode cX3_vanesOf 25 = .ok (.checkcast 26, 3) := by decide +kernel
theorem dX3_vanesOf_28 : decode cX3_vanesOf 28 = .ok (.invokevirtual 87, 3) := by decide +kernel
theorem dX3_vanesOf_31 : decode cX3_vanesOf 31 = .ok (.ishr, 1) := by decide +kernel
theorem dX3_vanesOf_32 : decode cX3_vanesOf 32 = .ok (.iconst 1, 1) := by decide +kernel
theorem dX3_vanesOf_33 : decode cX3_vanesOf 33 = .ok (.iand, 1) := by decide +kernel
theorem dX3_vanesOf_34 : decode cX3_vanesOf 34 = .ok (.iadd, 1) := by decide +kernel
theorem dX3_vanesOf_35 : decode cX3_vanesOf 35 = .ok (.istore_n 2, 1) := by decide +kernel
theorem dX3_vanesOf_36 : decode cX3_vanesOf 36 = .ok (.iinc 3 1, 3) := by decide +kernel
theorem dX3_vanesOf_39 : decode cX3_vanesOf 39 = .ok (.goto (-35), 3) := by decide +kernel
theorem dX3_vanesOf_42 : decode cX3_vanesOf 42 = .ok (.iload_n 2, 1) := by decide +kernel
theorem dX3_vanesOf_43 : decode cX3_vanesOf 43 = .ok (.ireturn, 1) := by decide +kernel
theorem dX3_boundVanes_0 : decode cX3_boundVanes 0 = .ok (.iconst 0, 1) := by decide +kernel
theorem dX3_boundVanes_1 : decode cX3_boundVanes 1 = .ok (.istore_n 1, 1) := by decide +kernel
theorem dX3_boundVanes_2 : decode cX3_boundVanes 2 = .ok (.iconst 0, 1) := by decide +kernel
theorem dX3_boundVanes_3 : decode cX3_boundVanes 3 = .ok (.istore_n 2, 1) := by decide +kernel
theorem dX3_boundVanes_4 : decode cX3_boundVanes 4 = .ok (.iload_n 2, 1) := by decide +kernel
theorem dX3_boundVanes_5 : decode cX3_boundVanes 5 = .ok (.aload_n 0, 1) := by decide +kernel
theorem dX3_boundVanes_6 : decode cX3_boundVanes 6 = .ok (.getfield 12, 3) := by decide +kernel
theorem dX3_boundVanes_9 : decode cX3_boundVanes 9 = .ok (.invokevirtual 18, 3) := by decide +kernel
theorem dX3_boundVanes_12 : decode cX3_boundVanes 12 = .ok (.if_icmp .ge 29, 3) := by decide +kernel
theorem dX3_boundVanes_15 : decode cX3_boundVanes 15 = .ok (.aload_n 0, 1) := by decide +kernel
theorem dX3_boundVanes_16 : decode cX3_boundVanes 16 = .ok (.getfield 12, 3) := by decide +kernel
theorem dX3_boundVanes_19 : decode cX3_boundVanes 19 = .ok (.iload_n 2, 1) := by decide +kernel
theorem dX3_boundVanes_20 : decode cX3_boundVanes 20 = .ok (.invokevirtual 22, 3) := by decide +kernel
theorem dX3_boundVanes_23 : decode cX3_boundVanes 23 = .ok (.checkcast 26, 3) := by decide +kernel
theorem dX3_boundVanes_26 : decode cX3_boundVanes 26 = .ok (.getfield 90, 3) := by decide +kernel
theorem dX3_boundVanes_29 : decode cX3_boundVanes 29 = .ok (.ifCond .le 6, 3) := by decide +kernel
theorem dX3_boundVanes_32 : decode cX3_boundVanes 32 = .ok (.iinc 1 1, 3) := by decide +kernel
theorem dX3_boundVanes_35 : decode cX3_boundVanes 35 = .ok (.iinc 2 1, 3) := by decide +kernel
theorem dX3_boundVanes_38 : decode cX3_boundVanes 38 = .ok (.goto (-34), 3) := by decide +kernel
theorem dX3_boundVanes_41 : decode cX3_boundVanes 41 = .ok (.iload_n 1, 1) := by decide +kernel
theorem dX3_boundVanes_42 : decode cX3_boundVanes 42 = .ok (.ireturn, 1) := by decide +kernel
theorem dX3_stuckVanes_0 : decode cX3_stuckVanes 0 = .ok (.iconst 0, 1) := by decide +kernel
theorem dX3_stuckVanes_1 : decode cX3_stuckVanes 1 = .ok (.istore_n 2, 1) := by decide +kernel
theorem dX3_stuckVanes_2 : decode cX3_stuckVanes 2 = .ok (.iconst 0, 1) := by decide +kernel
theorem dX3_stuckVanes_3 : decode cX3_stuckVanes 3 = .ok (.istore_n 3, 1) := by decide +kernel
theorem dX3_stuckVanes_4 : decode cX3_stuckVanes 4 = .ok (.iload_n 3, 1) := by decide +kernel
theorem dX3_stuckVanes_5 : decode cX3_stuckVanes 5 = .ok (.aload_n 0, 1) := by decide +kernel
theorem dX3_stuckVanes_6 : decode cX3_stuckVanes 6 = .ok (.getfield 12, 3) := by decide +kernel
theorem dX3_stuckVanes_9 : decode cX3_stuckVanes 9 = .ok (.invokevirtual 18, 3) := by decide +kernel
theorem dX3_stuckVanes_12 : decode cX3_stuckVanes 12 = .ok (.if_icmp .ge 47, 3) := by decide +kernel
theorem dX3_stuckVanes_15 : decode cX3_stuckVanes 15 = .ok (.aload_n 0, 1) := by decide +kernel
theorem dX3_stuckVanes_16 : decode cX3_stuckVanes 16 = .ok (.getfield 12, 3) := by decide +kernel
theorem dX3_stuckVanes_19 : decode cX3_stuckVanes 19 = .ok (.iload_n 3, 1) := by decide +kernel
theorem dX3_stuckVanes_20 : decode cX3_stuckVanes 20 = .ok (.invokevirtual 22, 3) := by decide +kernel
theorem dX3_stuckVanes_23 : decode cX3_stuckVanes 23 = .ok (.checkcast 26, 3) := by decide +kernel
theorem dX3_stuckVanes_26 : decode cX3_stuckVanes 26 = .ok (.getfield 90, 3) := by decide +kernel
theorem dX3_stuckVanes_29 : decode cX3_stuckVanes 29 = .ok (.ifCond .ne 24, 3) := by decide +kernel
theorem dX3_stuckVanes_32 : decode cX3_stuckVanes 32 = .ok (.aload_n 0, 1) := by decide +kernel
theorem dX3_stuckVanes_33 : decode cX3_stuckVanes 33 = .ok (.getfield 12, 3) := by decide +kernel
theorem dX3_stuckVanes_36 : decode cX3_stuckVanes 36 = .ok (.iload_n 3, 1) := by decide +kernel
theorem dX3_stuckVanes_37 : decode cX3_stuckVanes 37 = .ok (.invokevirtual 22, 3) := by decide +kernel
theorem dX3_stuckVanes_40 : decode cX3_stuckVanes 40 = .ok (.checkcast 26, 3) := by decide +kernel
theorem dX3_stuckVanes_43 : decode cX3_stuckVanes 43 = .ok (.aload_n 1, 1) := by decide +kernel
theorem dX3_stuckVanes_44 : decode cX3_stuckVanes 44 = .ok (.invokevirtual 93, 3) := by decide +kernel
theorem dX3_stuckVanes_47 : decode cX3_stuckVanes 47 = .ok (.ifCond .eq 6, 3) := by decide +kernel
theorem dX3_stuckVanes_50 : decode cX3_stuckVanes 50 = .ok (.iinc 2 1, 3) := by decide +kernel
theorem dX3_stuckVanes_53 : decode cX3_stuckVanes 53 = .ok (.iinc 3 1, 3) := by decide +kernel
theorem dX3_stuckVanes_56 : decode cX3_stuckVanes 56 = .ok (.goto (-52), 3) := by decide +kernel
theorem dX3_stuckVanes_59 : decode cX3_stuckVanes 59 = .ok (.iload_n 2, 1) := by decide +kernel
theorem dX3_stuckVanes_60 : decode cX3_stuckVanes 60 = .ok (.ireturn, 1) := by decide +kernel
theorem dX4_init_0 : decode cX4_init 0 = .ok (.aload_n 0, 1) := by decide +kernel
theorem dX4_init_1 : decode cX4_init 1 = .ok (.invokespecial 3, 3) := by decide +kernel
theorem dX4_init_4 : decode cX4_init 4 = .ok (.aload_n 0, 1) := by decide +kernel
theorem dX4_init_5 : decode cX4_init 5 = .ok (.aload_n 1, 1) := by decide +kernel
theorem dX4_init_6 : decode cX4_init 6 = .ok (.putfield 9, 3) := by decide +kernel
theorem dX4_init_9 : decode cX4_init 9 = .ok (.aload_n 0, 1) := by decide +kernel
theorem dX4_init_10 : decode cX4_init 10 = .ok (.iload_n 2, 1) := by decide +kernel
theorem dX4_init_11 : decode cX4_init 11 = .ok (.putfield 15, 3) := by decide +kernel
theorem dX4_init_14 : decode cX4_init 14 = .ok (.aload_n 0, 1) := by decide +kernel
theorem dX4_init_15 : decode cX4_init 15 = .ok (.iload_n 3, 1) := by decide +kernel
theorem dX4_init_16 : decode cX4_init 16 = .ok (.putfield 19, 3) := by decide +kernel
theorem dX4_init_19 : decode cX4_init 19 = .ok (.return_, 1) := by decide +kernel
theorem dX4_copyFrom_0 : decode cX4_copyFrom 0 = .ok (.aload_n 0, 1) := by decide +kernel
theorem dX4_copyFrom_1 : decode cX4_copyFrom 1 = .ok (.aload_n 1, 1) := by decide +kernel
theorem dX4_copyFrom_2 : decode cX4_copyFrom 2 = .ok (.getfield 15, 3) := by decide +kernel
theorem dX4_copyFrom_5 : decode cX4_copyFrom 5 = .ok (.putfield 15, 3) := by decide +kernel
theorem dX4_copyFrom_8 : decode cX4_copyFrom 8 = .ok (.aload_n 0, 1) := by decide +kernel
theorem dX4_copyFrom_9 : decode cX4_copyFrom 9 = .ok (.aload_n 1, 1) := by decide +kernel
theorem dX4_copyFrom_10 : decode cX4_copyFrom 10 = .ok (.getfield 22, 3) := by decide +kernel
theorem dX4_copyFrom_13 : decode cX4_copyFrom 13 = .ok (.putfield 22, 3) := by decide +kernel
theorem dX4_copyFrom_16 : decode cX4_copyFrom 16 = .ok (.aload_n 0, 1) := by decide +kernel
theorem dX4_copyFrom_17 : decode cX4_copyFrom 17 = .ok (.aload_n 1, 1) := by decide +kernel
theorem dX4_copyFrom_18 : decode cX4_copyFrom 18 = .ok (.getfield 19, 3) := by decide +kernel
theorem dX4_copyFrom_21 : decode cX4_copyFrom 21 = .ok (.putfield 19, 3) := by decide +kernel
theorem dX4_copyFrom_24 : decode cX4_copyFrom 24 = .ok (.aload_n 0, 1) := by decide +kernel
theorem dX4_copyFrom_25 : decode cX4_copyFrom 25 = .ok (.aload_n 1, 1) := by decide +kernel
theorem dX4_copyFrom_26 : decode cX4_copyFrom 26 = .ok (.getfield 25, 3) := by decide +kernel
theorem dX4_copyFrom_29 : decode cX4_copyFrom 29 = .ok (.putfield 25, 3) := by decide +kernel
theorem dX4_copyFrom_32 : decode cX4_copyFrom 32 = .ok (.aload_n 0, 1) := by decide +kernel
theorem dX4_copyFrom_33 : decode cX4_copyFrom 33 = .ok (.aload_n 1, 1) := by decide +kernel
theorem dX4_copyFrom_34 : decode cX4_copyFrom 34 = .ok (.getfield 28, 3) := by decide +kernel
theorem dX4_copyFrom_37 : decode cX4_copyFrom 37 = .ok (.putfield 28, 3) := by decide +kernel
theorem dX4_copyFrom_40 : decode cX4_copyFrom 40 = .ok (.aload_n 0, 1) := by decide +kernel
theorem dX4_copyFrom_41 : decode cX4_copyFrom 41 = .ok (.aload_n 1, 1) := by decide +kernel
theorem dX4_copyFrom_42 : decode cX4_copyFrom 42 = .ok (.getfield 31, 3) := by decide +kernel
theorem dX4_copyFrom_45 : decode cX4_copyFrom 45 = .ok (.putfield 31, 3) := by decide +kernel
theorem dX4_copyFrom_48 : decode cX4_copyFrom 48 = .ok (.return_, 1) := by decide +kernel
theorem dX4_tell_0 : decode cX4_tell 0 = .ok (.iload_n 1, 1) := by decide +kernel
theorem dX4_tell_1 : decode cX4_tell 1 = .ok (.tableswitch 127 0 10 #[59, 67, 75, 83, 91, 96, 101, 106, 111, 116, 121], 59) := by decide +kernel
theorem dX4_tell_60 : decode cX4_tell 60 = .ok (.aload_n 0, 1) := by decide +kernel
theorem dX4_tell_61 : decode cX4_tell 61 = .ok (.getfield 9, 3) := by decide +kernel
theorem dX4_tell_64 : decode cX4_tell 64 = .ok (.getfield 34, 3) := by decide +kernel
theorem dX4_tell_67 : decode cX4_tell 67 = .ok (.ireturn, 1) := by decide +kernel
theorem dX4_tell_68 : decode cX4_tell 68 = .ok (.aload_n 0, 1) := by decide +kernel
theorem dX4_tell_69 : decode cX4_tell 69 = .ok (.getfield 9, 3) := by decide +kernel
theorem dX4_tell_72 : decode cX4_tell 72 = .ok (.getfield 39, 3) := by decide +kernel
theorem dX4_tell_75 : decode cX4_tell 75 = .ok (.ireturn, 1) := by decide +kernel
theorem dX4_tell_76 : decode cX4_tell 76 = .ok (.aload_n 0, 1) := by decide +kernel
theorem dX4_tell_77 : decode cX4_tell 77 = .ok (.getfield 9, 3) := by decide +kernel
theorem dX4_tell_80 : decode cX4_tell 80 = .ok (.getfield 42, 3) := by decide +kernel
theorem dX4_tell_83 : decode cX4_tell 83 = .ok (.ireturn, 1) := by decide +kernel
theorem dX4_tell_84 : decode cX4_tell 84 = .ok (.aload_n 0, 1) := by decide +kernel
theorem dX4_tell_85 : decode cX4_tell 85 = .ok (.getfield 9, 3) := by decide +kernel
theorem dX4_tell_88 : decode cX4_tell 88 = .ok (.getfield 45, 3) := by decide +kernel
theorem dX4_tell_91 : decode cX4_tell 91 = .ok (.ireturn, 1) := by decide +kernel
theorem dX4_tell_92 : decode cX4_tell 92 = .ok (.aload_n 0, 1) := by decide +kernel
theorem dX4_tell_93 : decode cX4_tell 93 = .ok (.getfield 15, 3) := by decide +kernel
theorem dX4_tell_96 : decode cX4_tell 96 = .ok (.ireturn, 1) := by decide +kernel
theorem dX4_tell_97 : decode cX4_tell 97 = .ok (.aload_n 0, 1) := by decide +kernel
theorem dX4_tell_98 : decode cX4_tell 98 = .ok (.getfield 22, 3) := by decide +kernel
theorem dX4_tell_101 : decode cX4_tell 101 = .ok (.ireturn, 1) := by decide +kernel
theorem dX4_tell_102 : decode cX4_tell 102 = .ok (.aload_n 0, 1) := by decide +kernel
theorem dX4_tell_103 : decode cX4_tell 103 = .ok (.getfield 19, 3) := by decide +kernel
theorem dX4_tell_106 : decode cX4_tell 106 = .ok (.ireturn, 1) := by decide +kernel
theorem dX4_tell_107 : decode cX4_tell 107 = .ok (.aload_n 0, 1) := by decide +kernel
theorem dX4_tell_108 : decode cX4_tell 108 = .ok (.getfield 25, 3) := by decide +kernel
theorem dX4_tell_111 : decode cX4_tell 111 = .ok (.ireturn, 1) := by decide +kernel
theorem dX4_tell_112 : decode cX4_tell 112 = .ok (.aload_n 0, 1) := by decide +kernel
theorem dX4_tell_113 : decode cX4_tell 113 = .ok (.getfield 28, 3) := by decide +kernel
theorem dX4_tell_116 : decode cX4_tell 116 = .ok (.ireturn, 1) := by decide +kernel
theorem dX4_tell_117 : decode cX4_tell 117 = .ok (.aload_n 0, 1) := by decide +kernel
theorem dX4_tell_118 : decode cX4_tell 118 = .ok (.invokevirtual 48, 3) := by decide +kernel
theorem dX4_tell_121 : decode cX4_tell 121 = .ok (.ireturn, 1) := by decide +kernel
theorem dX4_tell_122 : decode cX4_tell 122 = .ok (.aload_n 0, 1) := by decide +kernel
theorem dX4_tell_123 : decode cX4_tell 123 = .ok (.aload_n 2, 1) := by decide +kernel
theorem dX4_tell_124 : decode cX4_tell 124 = .ok (.invokevirtual 52, 3) := by decide +kernel
theorem dX4_tell_127 : decode cX4_tell 127 = .ok (.ireturn, 1) := by decide +kernel
theorem dX4_tell_128 : decode cX4_tell 128 = .ok (.aload_n 0, 1) := by decide +kernel
theorem dX4_tell_129 : decode cX4_tell 129 = .ok (.getfield 9, 3) := by decide +kernel
theorem dX4_tell_132 : decode cX4_tell 132 = .ok (.aload_n 2, 1) := by decide +kernel
theorem dX4_tell_133 : decode cX4_tell 133 = .ok (.invokevirtual 56, 3) := by decide +kernel
theorem dX4_tell_136 : decode cX4_tell 136 = .ok (.ireturn, 1) := by decide +kernel
theorem dX4_partyNumber_0 : decode cX4_partyNumber 0 = .ok (.aload_n 0, 1) := by decide +kernel
theorem dX4_partyNumber_1 : decode cX4_partyNumber 1 = .ok (.getfield 19, 3) := by decide +kernel
theorem dX4_partyNumber_4 : decode cX4_partyNumber 4 = .ok (.iconst 2, 1) := by decide +kernel
theorem dX4_partyNumber_5 : decode cX4_partyNumber 5 = .ok (.iadd, 1) := by decide +kernel
theorem dX4_partyNumber_6 : decode cX4_partyNumber 6 = .ok (.iconst 4, 1) := by decide +kernel
theorem dX4_partyNumber_7 : decode cX4_partyNumber 7 = .ok (.idiv, 1) := by decide +kernel
theorem dX4_partyNumber_8 : decode cX4_partyNumber 8 = .ok (.iconst 4, 1) := by decide +kernel
theorem dX4_partyNumber_9 : decode cX4_partyNumber 9 = .ok (.irem, 1) := by decide +kernel
theorem dX4_partyNumber_10 : decode cX4_partyNumber 10 = .ok (.ireturn, 1) := by decide +kernel
theorem dX4_windHere_0 : decode cX4_windHere 0 = .ok (.iconst 0, 1) := by decide +kernel
theorem dX4_windHere_1 : decode cX4_windHere 1 = .ok (.aload_n 1, 1) := by decide +kernel
theorem dX4_windHere_2 : decode cX4_windHere 2 = .ok (.getfield 59, 3) := by decide +kernel
theorem dX4_windHere_5 : decode cX4_windHere 5 = .ok (.iconst 2, 1) := by decide +kernel
theorem dX4_windHere_6 : decode cX4_windHere 6 = .ok (.aload_n 0, 1) := by decide +kernel
theorem dX4_windHere_7 : decode cX4_windHere 7 = .ok (.getfield 9, 3) := by decide +kernel
theorem dX4_windHere_10 : decode cX4_windHere 10 = .ok (.aload_n 1, 1) := by decide +kernel
theorem dX4_windHere_11 : decode cX4_windHere 11 = .ok (.invokevirtual 56, 3) := by decide +kernel
theorem dX4_windHere_14 : decode cX4_windHere 14 = .ok (.imul, 1) := by decide +kernel
theorem dX4_windHere_15 : decode cX4_windHere 15 = .ok (.isub, 1) := by decide +kernel
theorem dX4_windHere_16 : decode cX4_windHere 16 = .ok (.invokestatic 64, 3) := by decide +kernel
theorem dX4_windHere_19 : decode cX4_windHere 19 = .ok (.ireturn, 1) := by decide +kernel
theorem dX4_isStuck_0 : decode cX4_isStuck 0 = .ok (.aload_n 0, 1) := by decide +kernel
theorem dX4_isStuck_1 : decode cX4_isStuck 1 = .ok (.aload_n 1, 1) := by decide +kernel
theorem dX4_isStuck_2 : decode cX4_isStuck 2 = .ok (.invokevirtual 52, 3) := by decide +kernel
theorem dX4_isStuck_5 : decode cX4_isStuck 5 = .ok (.aload_n 0, 1) := by decide +kernel
theorem dX4_isStuck_6 : decode cX4_isStuck 6 = .ok (.getfield 22, 3) := by decide +kernel
theorem dX4_isStuck_9 : decode cX4_isStuck 9 = .ok (.if_icmp .gt 7, 3) := by decide +kernel
theorem dX4_isStuck_12 : decode cX4_isStuck 12 = .ok (.iconst 1, 1) := by decide +kernel
theorem dX4_isStuck_13 : decode cX4_isStuck 13 = .ok (.goto 4, 3) := by decide +kernel
theorem dX4_isStuck_16 : decode cX4_isStuck 16 = .ok (.iconst 0, 1) := by decide +kernel
theorem dX4_isStuck_17 : decode cX4_isStuck 17 = .ok (.ireturn, 1) := by decide +kernel
theorem dX4_blow_0 : decode cX4_blow 0 = .ok (.aload_n 0, 1) := by decide +kernel
theorem dX4_blow_1 : decode cX4_blow 1 = .ok (.getfield 28, 3) := by decide +kernel
theorem dX4_blow_4 : decode cX4_blow 4 = .ok (.ifCond .le 21, 3) := by decide +kernel
theorem dX4_blow_7 : decode cX4_blow 7 = .ok (.aload_n 0, 1) := by decide +kernel
theorem dX4_blow_8 : decode cX4_blow 8 = .ok (.dup, 1) := by decide +kernel
theorem dX4_blow_9 : decode cX4_blow 9 = .ok (.getfield 28, 3) := by decide +kernel
theorem dX4_blow_12 : decode cX4_blow 12 = .ok (.iconst 1, 1) := by decide +kernel
theorem dX4_blow_13 : decode cX4_blow 13 = .ok (.isub, 1) := by decide +kernel
theorem dX4_blow_14 : decode cX4_blow 14 = .ok (.putfield 28, 3) := by decide +kernel
theorem dX4_blow_17 : decode cX4_blow 17 = .ok (.aload_n 0, 1) := by decide +kernel
theorem dX4_blow_18 : decode cX4_blow 18 = .ok (.iconst 0, 1) := by decide +kernel
theorem dX4_blow_19 : decode cX4_blow 19 = .ok (.putfield 25, 3) := by decide +kernel
theorem dX4_blow_22 : decode cX4_blow 22 = .ok (.goto 46, 3) := by decide +kernel
theorem dX4_blow_25 : decode cX4_blow 25 = .ok (.aload_n 0, 1) := by decide +kernel
theorem dX4_blow_26 : decode cX4_blow 26 = .ok (.aload_n 1, 1) := by decide +kernel
theorem dX4_blow_27 : decode cX4_blow 27 = .ok (.invokevirtual 70, 3) := by decide +kernel
theorem dX4_blow_30 : decode cX4_blow 30 = .ok (.ifCond .eq 11, 3) := by decide +kernel
theorem dX4_blow_33 : decode cX4_blow 33 = .ok (.aload_n 0, 1) := by decide +kernel
theorem dX4_blow_34 : decode cX4_blow 34 = .ok (.iconst 0, 1) := by decide +kernel
theorem dX4_blow_35 : decode cX4_blow 35 = .ok (.putfield 25, 3) := by decide +kernel
theorem dX4_blow_38 : decode cX4_blow 38 = .ok (.goto 30, 3) := by decide +kernel
theorem dX4_blow_41 : decode cX4_blow 41 = .ok (.aload_n 0, 1) := by decide +kernel
theorem dX4_blow_42 : decode cX4_blow 42 = .ok (.aload_n 0, 1) := by decide +kernel
theorem dX4_blow_43 : decode cX4_blow 43 = .ok (.aload_n 1, 1) := by decide +kernel
theorem dX4_blow_44 : decode cX4_blow 44 = .ok (.invokevirtual 74, 3) := by decide +kernel
theorem dX4_blow_47 : decode cX4_blow 47 = .ok (.putfield 25, 3) := by decide +kernel
theorem dX4_blow_50 : decode cX4_blow 50 = .ok (.aload_n 0, 1) := by decide +kernel
theorem dX4_blow_51 : decode cX4_blow 51 = .ok (.aload_n 0, 1) := by decide +kernel
theorem dX4_blow_52 : decode cX4_blow 52 = .ok (.getfield 19, 3) := by decide +kernel
theorem dX4_blow_55 : decode cX4_blow 55 = .ok (.aload_n 0, 1) := by decide +kernel
theorem dX4_blow_56 : decode cX4_blow 56 = .ok (.getfield 25, 3) := by decide +kernel
theorem dX4_blow_59 : decode cX4_blow 59 = .ok (.iadd, 1) := by decide +kernel
theorem dX4_blow_60 : decode cX4_blow 60 = .ok (.bipush 16, 2) := by decide +kernel
theorem dX4_blow_62 : decode cX4_blow 62 = .ok (.invokestatic 77, 3) := by decide +kernel
theorem dX4_blow_65 : decode cX4_blow 65 = .ok (.putfield 19, 3) := by decide +kernel
theorem dX4_blow_68 : decode cX4_blow 68 = .ok (.return_, 1) := by decide +kernel
theorem dX4_nextSpin_0 : decode cX4_nextSpin 0 = .ok (.aload_n 0, 1) := by decide +kernel
theorem dX4_nextSpin_1 : decode cX4_nextSpin 1 = .ok (.getfield 19, 3) := by decide +kernel
theorem dX4_nextSpin_4 : decode cX4_nextSpin 4 = .ok (.aload_n 1, 1) := by decide +kernel
theorem dX4_nextSpin_5 : decode cX4_nextSpin 5 = .ok (.getfield 80, 3) := by decide +kernel
theorem dX4_nextSpin_8 : decode cX4_nextSpin 8 = .ok (.invokestatic 81, 3) := by decide +kernel
theorem dX4_nextSpin_11 : decode cX4_nextSpin 11 = .ok (.istore_n 2, 1) := by decide +kernel
theorem dX4_nextSpin_12 : decode cX4_nextSpin 12 = .ok (.aload_n 0, 1) := by decide +kernel
theorem dX4_nextSpin_13 : decode cX4_nextSpin 13 = .ok (.getfield 25, 3) := by decide +kernel
theorem dX4_nextSpin_16 : decode cX4_nextSpin 16 = .ok (.aload_n 0, 1) := by decide +kernel
theorem dX4_nextSpin_17 : decode cX4_nextSpin 17 = .ok (.getfield 9, 3) := by decide +kernel
theorem dX4_nextSpin_20 : decode cX4_nextSpin 20 = .ok (.getfield 45, 3) := by decide +kernel
theorem dX4_nextSpin_23 : decode cX4_nextSpin 23 = .ok (.imul, 1) := by decide +kernel
theorem dX4_nextSpin_24 : decode cX4_nextSpin 24 = .ok (.iload_n 2, 1) := by decide +kernel
theorem dX4_nextSpin_25 : decode cX4_nextSpin 25 = .ok (.aload_n 0, 1) := by decide +kernel
theorem dX4_nextSpin_26 : decode cX4_nextSpin 26 = .ok (.aload_n 1, 1) := by decide +kernel
theorem dX4_nextSpin_27 : decode cX4_nextSpin 27 = .ok (.invokevirtual 52, 3) := by decide +kernel
theorem dX4_nextSpin_30 : decode cX4_nextSpin 30 = .ok (.imul, 1) := by decide +kernel
theorem dX4_nextSpin_31 : decode cX4_nextSpin 31 = .ok (.iadd, 1) := by decide +kernel
theorem dX4_nextSpin_32 : decode cX4_nextSpin 32 = .ok (.istore_n 3, 1) := by decide +kernel
theorem dX4_nextSpin_33 : decode cX4_nextSpin 33 = .ok (.aload_n 0, 1) := by decide +kernel
theorem dX4_nextSpin_34 : decode cX4_nextSpin 34 = .ok (.getfield 9, 3) := by decide +kernel
theorem dX4_nextSpin_37 : decode cX4_nextSpin 37 = .ok (.getfield 45, 3) := by decide +kernel
theorem dX4_nextSpin_40 : decode cX4_nextSpin 40 = .ok (.iconst 4, 1) := by decide +kernel
theorem dX4_nextSpin_41 : decode cX4_nextSpin 41 = .ok (.iadd, 1) := by decide +kernel
theorem dX4_nextSpin_42 : decode cX4_nextSpin 42 = .ok (.aload_n 0, 1) := by decide +kernel
theorem dX4_nextSpin_43 : decode cX4_nextSpin 43 = .ok (.getfield 22, 3) := by decide +kernel
theorem dX4_nextSpin_46 : decode cX4_nextSpin 46 = .ok (.iadd, 1) := by decide +kernel
theorem dX4_nextSpin_47 : decode cX4_nextSpin 47 = .ok (.istore 4, 2) := by decide +kernel
theorem dX4_nextSpin_49 : decode cX4_nextSpin 49 = .ok (.iload 4, 2) := by decide +kernel
theorem dX4_nextSpin_51 : decode cX4_nextSpin 51 = .ok (.ifCond .le 10, 3) := by decide +kernel
theorem dX4_nextSpin_54 : decode cX4_nextSpin 54 = .ok (.iload_n 3, 1) := by decide +kernel
theorem dX4_nextSpin_55 : decode cX4_nextSpin 55 = .ok (.iload 4, 2) := by decide +kernel
theorem dX4_nextSpin_57 : decode cX4_nextSpin 57 = .ok (.idiv, 1) := by decide +kernel
theorem dX4_nextSpin_58 : decode cX4_nextSpin 58 = .ok (.goto 4, 3) := by decide +kernel
theorem dX4_nextSpin_61 : decode cX4_nextSpin 61 = .ok (.iconst 0, 1) := by decide +kernel
theorem dX4_nextSpin_62 : decode cX4_nextSpin 62 = .ok (.istore 5, 2) := by decide +kernel
theorem dX4_nextSpin_64 : decode cX4_nextSpin 64 = .ok (.iload 5, 2) := by decide +kernel
theorem dX4_nextSpin_66 : decode cX4_nextSpin 66 = .ok (.ifCond .ne 8, 3) := by decide +kernel
theorem dX4_nextSpin_69 : decode cX4_nextSpin 69 = .ok (.iload_n 2, 1) := by decide +kernel
theorem dX4_nextSpin_70 : decode cX4_nextSpin 70 = .ok (.invokestatic 84, 3) := by decide +kernel
theorem dX4_nextSpin_73 : decode cX4_nextSpin 73 = .ok (.ireturn, 1) := by decide +kernel
theorem dX4_nextSpin_74 : decode cX4_nextSpin 74 = .ok (.bipush (-8), 2) := by decide +kernel
theorem dX4_nextSpin_76 : decode cX4_nextSpin 76 = .ok (.bipush 8, 2) := by decide +kernel
theorem dX4_nextSpin_78 : decode cX4_nextSpin 78 = .ok (.iload 5, 2) := by decide +kernel
theorem dX4_nextSpin_80 : decode cX4_nextSpin 80 = .ok (.invokestatic 90, 3) := by decide +kernel
theorem dX4_nextSpin_83 : decode cX4_nextSpin 83 = .ok (.invokestatic 64, 3) := by decide +kernel
theorem dX4_nextSpin_86 : decode cX4_nextSpin 86 = .ok (.ireturn, 1) := by decide +kernel
theorem dX4_takeOil_0 : decode cX4_takeOil 0 = .ok (.aload_n 0, 1) := by decide +kernel
theorem dX4_takeOil_1 : decode cX4_takeOil 1 = .ok (.iconst 0, 1) := by decide +kernel
theorem dX4_takeOil_2 : decode cX4_takeOil 2 = .ok (.putfield 22, 3) := by decide +kernel
theorem dX4_takeOil_5 : decode cX4_takeOil 5 = .ok (.aload_n 0, 1) := by decide +kernel
theorem dX4_takeOil_6 : decode cX4_takeOil 6 = .ok (.iconst 0, 1) := by decide +kernel
theorem dX4_takeOil_7 : decode cX4_takeOil 7 = .ok (.putfield 31, 3) := by decide +kernel
theorem dX4_takeOil_10 : decode cX4_takeOil 10 = .ok (.return_, 1) := by decide +kernel
theorem dX4_takeRain_0 : decode cX4_takeRain 0 = .ok (.aload_n 0, 1) := by decide +kernel
theorem dX4_takeRain_1 : decode cX4_takeRain 1 = .ok (.dup, 1) := by decide +kernel
theorem dX4_takeRain_2 : decode cX4_takeRain 2 = .ok (.getfield 31, 3) := by decide +kernel
theorem dX4_takeRain_5 : decode cX4_takeRain 5 = .ok (.iconst 1, 1) := by decide +kernel
theorem dX4_takeRain_6 : decode cX4_takeRain 6 = .ok (.iadd, 1) := by decide +kernel
theorem dX4_takeRain_7 : decode cX4_takeRain 7 = .ok (.putfield 31, 3) := by decide +kernel
theorem dX4_takeRain_10 : decode cX4_takeRain 10 = .ok (.aload_n 0, 1) := by decide +kernel
theorem dX4_takeRain_11 : decode cX4_takeRain 11 = .ok (.getfield 31, 3) := by decide +kernel
theorem dX4_takeRain_14 : decode cX4_takeRain 14 = .ok (.iconst 2, 1) := by decide +kernel
theorem dX4_takeRain_15 : decode cX4_takeRain 15 = .ok (.irem, 1) := by decide +kernel
theorem dX4_takeRain_16 : decode cX4_takeRain 16 = .ok (.iconst 1, 1) := by decide +kernel
theorem dX4_takeRain_17 : decode cX4_takeRain 17 = .ok (.if_icmp .ne 18, 3) := by decide +kernel
theorem dX4_takeRain_20 : decode cX4_takeRain 20 = .ok (.aload_n 0, 1) := by decide +kernel
theorem dX4_takeRain_21 : decode cX4_takeRain 21 = .ok (.bipush 9, 2) := by decide +kernel
theorem dX4_takeRain_23 : decode cX4_takeRain 23 = .ok (.aload_n 0, 1) := by decide +kernel
theorem dX4_takeRain_24 : decode cX4_takeRain 24 = .ok (.getfield 22, 3) := by decide +kernel
theorem dX4_takeRain_27 : decode cX4_takeRain 27 = .ok (.iconst 1, 1) := by decide +kernel
theorem dX4_takeRain_28 : decode cX4_takeRain 28 = .ok (.iadd, 1) := by decide +kernel
theorem dX4_takeRain_29 : decode cX4_takeRain 29 = .ok (.invokestatic 90, 3) := by decide +kernel
theorem dX4_takeRain_32 : decode cX4_takeRain 32 = .ok (.putfield 22, 3) := by decide +kernel
theorem dX4_takeRain_35 : decode cX4_takeRain 35 = .ok (.return_, 1) := by decide +kernel
theorem dX4_takeEffect_0 : decode cX4_takeEffect 0 = .ok (.iload_n 1, 1) := by decide +kernel
theorem dX4_takeEffect_1 : decode cX4_takeEffect 1 = .ok (.iconst 1, 1) := by decide +kernel
theorem dX4_takeEffect_2 : decode cX4_takeEffect 2 = .ok (.if_icmp .ne 15, 3) := by decide +kernel
theorem dX4_takeEffect_5 : decode cX4_takeEffect 5 = .ok (.iload_n 2, 1) := by decide +kernel
theorem dX4_takeEffect_6 : decode cX4_takeEffect 6 = .ok (.iconst 1, 1) := by decide +kernel
theorem dX4_takeEffect_7 : decode cX4_takeEffect 7 = .ok (.if_icmp .ne 10, 3) := by decide +kernel
theorem dX4_takeEffect_10 : decode cX4_takeEffect 10 = .ok (.aload_n 0, 1) := by decide +kernel
theorem dX4_takeEffect_11 : decode cX4_takeEffect 11 = .ok (.invokevirtual 93, 3) := by decide +kernel
theorem dX4_takeEffect_14 : decode cX4_takeEffect 14 = .ok (.goto 52, 3) := by decide +kernel
theorem dX4_takeEffect_17 : decode cX4_takeEffect 17 = .ok (.iload_n 1, 1) := by decide +kernel
theorem dX4_takeEffect_18 : decode cX4_takeEffect 18 = .ok (.iconst 2, 1) := by decide +kernel
theorem dX4_takeEffect_19 : decode cX4_takeEffect 19 = .ok (.if_icmp .ne 23, 3) := by decide +kernel
theorem dX4_takeEffect_22 : decode cX4_takeEffect 22 = .ok (.iload_n 2, 1) := by decide +kernel
theorem dX4_takeEffect_23 : decode cX4_takeEffect 23 = .ok (.iconst (-1), 1) := by decide +kernel
theorem dX4_takeEffect_24 : decode cX4_takeEffect 24 = .ok (.if_icmp .ne 18, 3) := by decide +kernel
theorem dX4_takeEffect_27 : decode cX4_takeEffect 27 = .ok (.aload_n 0, 1) := by decide +kernel
theorem dX4_takeEffect_28 : decode cX4_takeEffect 28 = .ok (.aload_n 0, 1) := by decide +kernel
theorem dX4_takeEffect_29 : decode cX4_takeEffect 29 = .ok (.getfield 28, 3) := by decide +kernel
theorem dX4_takeEffect_32 : decode cX4_takeEffect 32 = .ok (.iconst 4, 1) := by decide +kernel
theorem dX4_takeEffect_33 : decode cX4_takeEffect 33 = .ok (.invokestatic 64, 3) := by decide +kernel
theorem dX4_takeEffect_36 : decode cX4_takeEffect 36 = .ok (.putfield 28, 3) := by decide +kernel
theorem dX4_takeEffect_39 : decode cX4_takeEffect 39 = .ok (.goto 27, 3) := by decide +kernel
theorem dX4_takeEffect_42 : decode cX4_takeEffect 42 = .ok (.iload_n 1, 1) := by decide +kernel
theorem dX4_takeEffect_43 : decode cX4_takeEffect 43 = .ok (.iconst 3, 1) := by decide +kernel
theorem dX4_takeEffect_44 : decode cX4_takeEffect 44 = .ok (.if_icmp .ne 22, 3) := by decide +kernel
theorem dX4_takeEffect_47 : decode cX4_takeEffect 47 = .ok (.aload_n 0, 1) := by decide +kernel
theorem dX4_takeEffect_48 : decode cX4_takeEffect 48 = .ok (.iconst 0, 1) := by decide +kernel
theorem dX4_takeEffect_49 : decode cX4_takeEffect 49 = .ok (.bipush 9, 2) := by decide +kernel
theorem dX4_takeEffect_51 : decode cX4_takeEffect 51 = .ok (.aload_n 0, 1) := by decide +kernel
theorem dX4_takeEffect_52 : decode cX4_takeEffect 52 = .ok (.getfield 15, 3) := by decide +kernel
theorem dX4_takeEffect_55 : decode cX4_takeEffect 55 = .ok (.iload_n 2, 1) := by decide +kernel
theorem dX4_takeEffect_56 : decode cX4_takeEffect 56 = .ok (.iadd, 1) := by decide +kernel
theorem dX4_takeEffect_57 : decode cX4_takeEffect 57 = .ok (.invokestatic 90, 3) := by decide +kernel
theorem dX4_takeEffect_60 : decode cX4_takeEffect 60 = .ok (.invokestatic 64, 3) := by decide +kernel
theorem dX4_takeEffect_63 : decode cX4_takeEffect 63 = .ok (.putfield 15, 3) := by decide +kernel
theorem dX4_takeEffect_66 : decode cX4_takeEffect 66 = .ok (.return_, 1) := by decide +kernel
theorem dX5_init_0 : decode cX5_init 0 = .ok (.aload_n 0, 1) := by decide +kernel
theorem dX5_init_1 : decode cX5_init 1 = .ok (.invokespecial 3, 3) := by decide +kernel
theorem dX5_init_4 : decode cX5_init 4 = .ok (.aload_n 0, 1) := by decide +kernel
theorem dX5_init_5 : decode cX5_init 5 = .ok (.iload_n 1, 1) := by decide +kernel
theorem dX5_init_6 : decode cX5_init 6 = .ok (.putfield 9, 3) := by decide +kernel
theorem dX5_init_9 : decode cX5_init 9 = .ok (.aload_n 0, 1) := by decide +kernel
theorem dX5_init_10 : decode cX5_init 10 = .ok (.iload_n 2, 1) := by decide +kernel
theorem dX5_init_11 : decode cX5_init 11 = .ok (.putfield 15, 3) := by decide +kernel
theorem dX5_init_14 : decode cX5_init 14 = .ok (.aload_n 0, 1) := by decide +kernel
theorem dX5_init_15 : decode cX5_init 15 = .ok (.iload_n 3, 1) := by decide +kernel
theorem dX5_init_16 : decode cX5_init 16 = .ok (.putfield 18, 3) := by decide +kernel
theorem dX5_init_19 : decode cX5_init 19 = .ok (.iload_n 1, 1) := by decide +kernel
theorem dX5_init_20 : decode cX5_init 20 = .ok (.bipush 8, 2) := by decide +kernel
theorem dX5_init_22 : decode cX5_init 22 = .ok (.iadd, 1) := by decide +kernel
theorem dX5_init_23 : decode cX5_init 23 = .ok (.bipush 16, 2) := by decide +kernel
theorem dX5_init_25 : decode cX5_init 25 = .ok (.irem, 1) := by decide +kernel
theorem dX5_init_26 : decode cX5_init 26 = .ok (.istore 4, 2) := by decide +kernel
theorem dX5_init_28 : decode cX5_init 28 = .ok (.aload_n 0, 1) := by decide +kernel
theorem dX5_init_29 : decode cX5_init 29 = .ok (.iload 4, 2) := by decide +kernel
theorem dX5_init_31 : decode cX5_init 31 = .ok (.iconst 1, 1) := by decide +kernel
theorem dX5_init_32 : decode cX5_init 32 = .ok (.iadd, 1) := by decide +kernel
theorem dX5_init_33 : decode cX5_init 33 = .ok (.iconst 2, 1) := by decide +kernel
theorem dX5_init_34 : decode cX5_init 34 = .ok (.idiv, 1) := by decide +kernel
theorem dX5_init_35 : decode cX5_init 35 = .ok (.bipush 8, 2) := by decide +kernel
theorem dX5_init_37 : decode cX5_init 37 = .ok (.irem, 1) := by decide +kernel
theorem dX5_init_38 : decode cX5_init 38 = .ok (.putfield 22, 3) := by decide +kernel
theorem dX5_init_41 : decode cX5_init 41 = .ok (.return_, 1) := by decide +kernel
theorem dX5_tell_0 : decode cX5_tell 0 = .ok (.iload_n 1, 1) := by decide +kernel
theorem dX5_tell_1 : decode cX5_tell 1 = .ok (.lookupswitch 37 #[(0, 27), (1, 32)], 27) := by decide +kernel
theorem dX5_tell_28 : decode cX5_tell 28 = .ok (.aload_n 0, 1) := by decide +kernel
theorem dX5_tell_29 : decode cX5_tell 29 = .ok (.getfield 9, 3) := by decide +kernel
theorem dX5_tell_32 : decode cX5_tell 32 = .ok (.ireturn, 1) := by decide +kernel
theorem dX5_tell_33 : decode cX5_tell 33 = .ok (.aload_n 0, 1) := by decide +kernel
theorem dX5_tell_34 : decode cX5_tell 34 = .ok (.getfield 15, 3) := by decide +kernel
theorem dX5_tell_37 : decode cX5_tell 37 = .ok (.ireturn, 1) := by decide +kernel
theorem dX5_tell_38 : decode cX5_tell 38 = .ok (.aload_n 0, 1) := by decide +kernel
theorem dX5_tell_39 : decode cX5_tell 39 = .ok (.getfield 18, 3) := by decide +kernel
theorem dX5_tell_42 : decode cX5_tell 42 = .ok (.ifCond .eq 7, 3) := by decide +kernel
theorem dX5_tell_45 : decode cX5_tell 45 = .ok (.iconst 1, 1) := by decide +kernel
theorem dX5_tell_46 : decode cX5_tell 46 = .ok (.goto 4, 3) := by decide +kernel
theorem dX5_tell_49 : decode cX5_tell 49 = .ok (.iconst 0, 1) := by decide +kernel
theorem dX5_tell_50 : decode cX5_tell 50 = .ok (.ireturn, 1) := by decide +kernel
theorem dX6_init_0 : decode cX6_init 0 = .ok (.aload_n 0, 1) := by decide +kernel
theorem dX6_init_1 : decode cX6_init 1 = .ok (.invokespecial 1, 3) := by decide +kernel
theorem dX6_init_4 : decode cX6_init 4 = .ok (.aload_n 0, 1) := by decide +kernel
theorem dX6_init_5 : decode cX6_init 5 = .ok (.new 7, 3) := by decide +kernel
theorem dX6_init_8 : decode cX6_init 8 = .ok (.dup, 1) := by decide +kernel
theorem dX6_init_9 : decode cX6_init 9 = .ok (.iconst 0, 1) := by decide +kernel
theorem dX6_init_10 : decode cX6_init 10 = .ok (.iconst 5, 1) := by decide +kernel
theorem dX6_init_11 : decode cX6_init 11 = .ok (.iconst 0, 1) := by decide +kernel
theorem dX6_init_12 : decode cX6_init 12 = .ok (.invokespecial 9, 3) := by decide +kernel
theorem dX6_init_15 : decode cX6_init 15 = .ok (.putfield 12, 3) := by decide +kernel
theorem dX6_init_18 : decode cX6_init 18 = .ok (.aload_n 0, 1) := by decide +kernel
theorem dX6_init_19 : decode cX6_init 19 = .ok (.new 18, 3) := by decide +kernel
theorem dX6_init_22 : decode cX6_init 22 = .ok (.dup, 1) := by decide +kernel
theorem dX6_init_23 : decode cX6_init 23 = .ok (.invokespecial 20, 3) := by decide +kernel
theorem dX6_init_26 : decode cX6_init 26 = .ok (.putfield 21, 3) := by decide +kernel
theorem dX6_init_29 : decode cX6_init 29 = .ok (.aload_n 0, 1) := by decide +kernel
theorem dX6_init_30 : decode cX6_init 30 = .ok (.new 18, 3) := by decide +kernel
theorem dX6_init_33 : decode cX6_init 33 = .ok (.dup, 1) := by decide +kernel
theorem dX6_init_34 : decode cX6_init 34 = .ok (.invokespecial 20, 3) := by decide +kernel
theorem dX6_init_37 : decode cX6_init 37 = .ok (.putfield 25, 3) := by decide +kernel
theorem dX6_init_40 : decode cX6_init 40 = .ok (.aload_n 0, 1) := by decide +kernel
theorem dX6_init_41 : decode cX6_init 41 = .ok (.new 18, 3) := by decide +kernel
theorem dX6_init_44 : decode cX6_init 44 = .ok (.dup, 1) := by decide +kernel
