theorem dX6_digest_25 : decode cX6_digest 25 = .ok (.iinc 3 1, 3) := by decide +kernel
theorem dX6_digest_28 : decode cX6_digest 28 = .ok (.goto (-22), 3) := by decide +kernel
theorem dX6_digest_31 : decode cX6_digest 31 = .ok (.aload_n 0, 1) := by decide +kernel
theorem dX6_digest_32 : decode cX6_digest 32 = .ok (.lload_n 1, 1) := by decide +kernel
theorem dX6_digest_33 : decode cX6_digest 33 = .ok (.invokevirtual 247, 3) := by decide +kernel
theorem dX6_digest_36 : decode cX6_digest 36 = .ok (.lstore_n 1, 1) := by decide +kernel
theorem dX6_digest_37 : decode cX6_digest 37 = .ok (.aload_n 0, 1) := by decide +kernel
theorem dX6_digest_38 : decode cX6_digest 38 = .ok (.lload_n 1, 1) := by decide +kernel
theorem dX6_digest_39 : decode cX6_digest 39 = .ok (.invokevirtual 251, 3) := by decide +kernel
theorem dX6_digest_42 : decode cX6_digest 42 = .ok (.lstore_n 1, 1) := by decide +kernel
theorem dX6_digest_43 : decode cX6_digest 43 = .ok (.aload_n 0, 1) := by decide +kernel
theorem dX6_digest_44 : decode cX6_digest 44 = .ok (.lload_n 1, 1) := by decide +kernel
theorem dX6_digest_45 : decode cX6_digest 45 = .ok (.invokevirtual 254, 3) := by decide +kernel
theorem dX6_digest_48 : decode cX6_digest 48 = .ok (.lstore_n 1, 1) := by decide +kernel
theorem dX6_digest_49 : decode cX6_digest 49 = .ok (.iconst 0, 1) := by decide +kernel
theorem dX6_digest_50 : decode cX6_digest 50 = .ok (.istore_n 3, 1) := by decide +kernel
theorem dX6_digest_51 : decode cX6_digest 51 = .ok (.iload_n 3, 1) := by decide +kernel
theorem dX6_digest_52 : decode cX6_digest 52 = .ok (.aload_n 0, 1) := by decide +kernel
theorem dX6_digest_53 : decode cX6_digest 53 = .ok (.getfield 28, 3) := by decide +kernel
theorem dX6_digest_56 : decode cX6_digest 56 = .ok (.invokevirtual 60, 3) := by decide +kernel
theorem dX6_digest_59 : decode cX6_digest 59 = .ok (.if_icmp .ge 56, 3) := by decide +kernel
theorem dX6_digest_62 : decode cX6_digest 62 = .ok (.lload_n 1, 1) := by decide +kernel
theorem dX6_digest_63 : decode cX6_digest 63 = .ok (.ldc2_w 245, 3) := by decide +kernel
theorem dX6_digest_66 : decode cX6_digest 66 = .ok (.lmul, 1) := by decide +kernel
theorem dX6_digest_67 : decode cX6_digest 67 = .ok (.aload_n 0, 1) := by decide +kernel
theorem dX6_digest_68 : decode cX6_digest 68 = .ok (.getfield 28, 3) := by decide +kernel
theorem dX6_digest_71 : decode cX6_digest 71 = .ok (.iload_n 3, 1) := by decide +kernel
theorem dX6_digest_72 : decode cX6_digest 72 = .ok (.invokevirtual 119, 3) := by decide +kernel
theorem dX6_digest_75 : decode cX6_digest 75 = .ok (.checkcast 173, 3) := by decide +kernel
theorem dX6_digest_78 : decode cX6_digest 78 = .ok (.getfield 257, 3) := by decide +kernel
theorem dX6_digest_81 : decode cX6_digest 81 = .ok (.getfield 261, 3) := by decide +kernel
theorem dX6_digest_84 : decode cX6_digest 84 = .ok (.i2l, 1) := by decide +kernel
theorem dX6_digest_85 : decode cX6_digest 85 = .ok (.ladd, 1) := by decide +kernel
theorem dX6_digest_86 : decode cX6_digest 86 = .ok (.lstore_n 1, 1) := by decide +kernel
theorem dX6_digest_87 : decode cX6_digest 87 = .ok (.lload_n 1, 1) := by decide +kernel
theorem dX6_digest_88 : decode cX6_digest 88 = .ok (.ldc2_w 245, 3) := by decide +kernel
theorem dX6_digest_91 : decode cX6_digest 91 = .ok (.lmul, 1) := by decide +kernel
theorem dX6_digest_92 : decode cX6_digest 92 = .ok (.aload_n 0, 1) := by decide +kernel
theorem dX6_digest_93 : decode cX6_digest 93 = .ok (.getfield 28, 3) := by decide +kernel
theorem dX6_digest_96 : decode cX6_digest 96 = .ok (.iload_n 3, 1) := by decide +kernel
theorem dX6_digest_97 : decode cX6_digest 97 = .ok (.invokevirtual 119, 3) := by decide +kernel
theorem dX6_digest_100 : decode cX6_digest 100 = .ok (.checkcast 173, 3) := by decide +kernel
theorem dX6_digest_103 : decode cX6_digest 103 = .ok (.getfield 264, 3) := by decide +kernel
theorem dX6_digest_106 : decode cX6_digest 106 = .ok (.i2l, 1) := by decide +kernel
theorem dX6_digest_107 : decode cX6_digest 107 = .ok (.ladd, 1) := by decide +kernel
theorem dX6_digest_108 : decode cX6_digest 108 = .ok (.lstore_n 1, 1) := by decide +kernel
theorem dX6_digest_109 : decode cX6_digest 109 = .ok (.iinc 3 1, 3) := by decide +kernel
theorem dX6_digest_112 : decode cX6_digest 112 = .ok (.goto (-61), 3) := by decide +kernel
theorem dX6_digest_115 : decode cX6_digest 115 = .ok (.lload_n 1, 1) := by decide +kernel
theorem dX6_digest_116 : decode cX6_digest 116 = .ok (.lreturn, 1) := by decide +kernel
theorem dX6_digestWinds_0 : decode cX6_digestWinds 0 = .ok (.lload_n 1, 1) := by decide +kernel
theorem dX6_digestWinds_1 : decode cX6_digestWinds 1 = .ok (.lstore_n 3, 1) := by decide +kernel
theorem dX6_digestWinds_2 : decode cX6_digestWinds 2 = .ok (.iconst 0, 1) := by decide +kernel
theorem dX6_digestWinds_3 : decode cX6_digestWinds 3 = .ok (.istore 5, 2) := by decide +kernel
theorem dX6_digestWinds_5 : decode cX6_digestWinds 5 = .ok (.iload 5, 2) := by decide +kernel
theorem dX6_digestWinds_7 : decode cX6_digestWinds 7 = .ok (.aload_n 0, 1) := by decide +kernel
theorem dX6_digestWinds_8 : decode cX6_digestWinds 8 = .ok (.getfield 21, 3) := by decide +kernel
theorem dX6_digestWinds_11 : decode cX6_digestWinds 11 = .ok (.invokevirtual 60, 3) := by decide +kernel
theorem dX6_digestWinds_14 : decode cX6_digestWinds 14 = .ok (.if_icmp .ge 49, 3) := by decide +kernel
theorem dX6_digestWinds_17 : decode cX6_digestWinds 17 = .ok (.iconst 0, 1) := by decide +kernel
theorem dX6_digestWinds_18 : decode cX6_digestWinds 18 = .ok (.istore 6, 2) := by decide +kernel
theorem dX6_digestWinds_20 : decode cX6_digestWinds 20 = .ok (.iload 6, 2) := by decide +kernel
theorem dX6_digestWinds_22 : decode cX6_digestWinds 22 = .ok (.iconst 3, 1) := by decide +kernel
theorem dX6_digestWinds_23 : decode cX6_digestWinds 23 = .ok (.if_icmp .ge 34, 3) := by decide +kernel
theorem dX6_digestWinds_26 : decode cX6_digestWinds 26 = .ok (.lload_n 3, 1) := by decide +kernel
theorem dX6_digestWinds_27 : decode cX6_digestWinds 27 = .ok (.ldc2_w 245, 3) := by decide +kernel
theorem dX6_digestWinds_30 : decode cX6_digestWinds 30 = .ok (.lmul, 1) := by decide +kernel
theorem dX6_digestWinds_31 : decode cX6_digestWinds 31 = .ok (.aload_n 0, 1) := by decide +kernel
theorem dX6_digestWinds_32 : decode cX6_digestWinds 32 = .ok (.getfield 21, 3) := by decide +kernel
theorem dX6_digestWinds_35 : decode cX6_digestWinds 35 = .ok (.iload 5, 2) := by decide +kernel
theorem dX6_digestWinds_37 : decode cX6_digestWinds 37 = .ok (.invokevirtual 119, 3) := by decide +kernel
theorem dX6_digestWinds_40 : decode cX6_digestWinds 40 = .ok (.checkcast 7, 3) := by decide +kernel
theorem dX6_digestWinds_43 : decode cX6_digestWinds 43 = .ok (.iload 6, 2) := by decide +kernel
theorem dX6_digestWinds_45 : decode cX6_digestWinds 45 = .ok (.invokevirtual 83, 3) := by decide +kernel
theorem dX6_digestWinds_48 : decode cX6_digestWinds 48 = .ok (.i2l, 1) := by decide +kernel
theorem dX6_digestWinds_49 : decode cX6_digestWinds 49 = .ok (.ladd, 1) := by decide +kernel
theorem dX6_digestWinds_50 : decode cX6_digestWinds 50 = .ok (.lstore_n 3, 1) := by decide +kernel
theorem dX6_digestWinds_51 : decode cX6_digestWinds 51 = .ok (.iinc 6 1, 3) := by decide +kernel
theorem dX6_digestWinds_54 : decode cX6_digestWinds 54 = .ok (.goto (-34), 3) := by decide +kernel
theorem dX6_digestWinds_57 : decode cX6_digestWinds 57 = .ok (.iinc 5 1, 3) := by decide +kernel
theorem dX6_digestWinds_60 : decode cX6_digestWinds 60 = .ok (.goto (-55), 3) := by decide +kernel
theorem dX6_digestWinds_63 : decode cX6_digestWinds 63 = .ok (.lload_n 3, 1) := by decide +kernel
theorem dX6_digestWinds_64 : decode cX6_digestWinds 64 = .ok (.lreturn, 1) := by decide +kernel
theorem dX6_digestVanes_0 : decode cX6_digestVanes 0 = .ok (.lload_n 1, 1) := by decide +kernel
theorem dX6_digestVanes_1 : decode cX6_digestVanes 1 = .ok (.lstore_n 3, 1) := by decide +kernel
theorem dX6_digestVanes_2 : decode cX6_digestVanes 2 = .ok (.iconst 0, 1) := by decide +kernel
theorem dX6_digestVanes_3 : decode cX6_digestVanes 3 = .ok (.istore 5, 2) := by decide +kernel
theorem dX6_digestVanes_5 : decode cX6_digestVanes 5 = .ok (.iload 5, 2) := by decide +kernel
theorem dX6_digestVanes_7 : decode cX6_digestVanes 7 = .ok (.aload_n 0, 1) := by decide +kernel
theorem dX6_digestVanes_8 : decode cX6_digestVanes 8 = .ok (.getfield 34, 3) := by decide +kernel
theorem dX6_digestVanes_11 : decode cX6_digestVanes 11 = .ok (.getfield 95, 3) := by decide +kernel
theorem dX6_digestVanes_14 : decode cX6_digestVanes 14 = .ok (.invokevirtual 60, 3) := by decide +kernel
theorem dX6_digestVanes_17 : decode cX6_digestVanes 17 = .ok (.if_icmp .ge 61, 3) := by decide +kernel
theorem dX6_digestVanes_20 : decode cX6_digestVanes 20 = .ok (.iconst 0, 1) := by decide +kernel
theorem dX6_digestVanes_21 : decode cX6_digestVanes 21 = .ok (.istore 6, 2) := by decide +kernel
theorem dX6_digestVanes_23 : decode cX6_digestVanes 23 = .ok (.iload 6, 2) := by decide +kernel
theorem dX6_digestVanes_25 : decode cX6_digestVanes 25 = .ok (.bipush 12, 2) := by decide +kernel
theorem dX6_digestVanes_27 : decode cX6_digestVanes 27 = .ok (.if_icmp .ge 45, 3) := by decide +kernel
theorem dX6_digestVanes_30 : decode cX6_digestVanes 30 = .ok (.lload_n 3, 1) := by decide +kernel
theorem dX6_digestVanes_31 : decode cX6_digestVanes 31 = .ok (.ldc2_w 245, 3) := by decide +kernel
theorem dX6_digestVanes_34 : decode cX6_digestVanes 34 = .ok (.lmul, 1) := by decide +kernel
theorem dX6_digestVanes_35 : decode cX6_digestVanes 35 = .ok (.aload_n 0, 1) := by decide +kernel
theorem dX6_digestVanes_36 : decode cX6_digestVanes 36 = .ok (.getfield 34, 3) := by decide +kernel
theorem dX6_digestVanes_39 : decode cX6_digestVanes 39 = .ok (.getfield 95, 3) := by decide +kernel
theorem dX6_digestVanes_42 : decode cX6_digestVanes 42 = .ok (.iload 5, 2) := by decide +kernel
theorem dX6_digestVanes_44 : decode cX6_digestVanes 44 = .ok (.invokevirtual 119, 3) := by decide +kernel
theorem dX6_digestVanes_47 : decode cX6_digestVanes 47 = .ok (.checkcast 109, 3) := by decide +kernel
theorem dX6_digestVanes_50 : decode cX6_digestVanes 50 = .ok (.iload 6, 2) := by decide +kernel
theorem dX6_digestVanes_52 : decode cX6_digestVanes 52 = .ok (.aload_n 0, 1) := by decide +kernel
theorem dX6_digestVanes_53 : decode cX6_digestVanes 53 = .ok (.aload_n 0, 1) := by decide +kernel
theorem dX6_digestVanes_54 : decode cX6_digestVanes 54 = .ok (.getfield 145, 3) := by decide +kernel
theorem dX6_digestVanes_57 : decode cX6_digestVanes 57 = .ok (.invokevirtual 79, 3) := by decide +kernel
theorem dX6_digestVanes_60 : decode cX6_digestVanes 60 = .ok (.invokevirtual 148, 3) := by decide +kernel
theorem dX6_digestVanes_63 : decode cX6_digestVanes 63 = .ok (.i2l, 1) := by decide +kernel
theorem dX6_digestVanes_64 : decode cX6_digestVanes 64 = .ok (.ladd, 1) := by decide +kernel
theorem dX6_digestVanes_65 : decode cX6_digestVanes 65 = .ok (.lstore_n 3, 1) := by decide +kernel
theorem dX6_digestVanes_66 : decode cX6_digestVanes 66 = .ok (.iinc 6 1, 3) := by decide +kernel
theorem dX6_digestVanes_69 : decode cX6_digestVanes 69 = .ok (.goto (-46), 3) := by decide +kernel
theorem dX6_digestVanes_72 : decode cX6_digestVanes 72 = .ok (.iinc 5 1, 3) := by decide +kernel
theorem dX6_digestVanes_75 : decode cX6_digestVanes 75 = .ok (.goto (-70), 3) := by decide +kernel
theorem dX6_digestVanes_78 : decode cX6_digestVanes 78 = .ok (.lload_n 3, 1) := by decide +kernel
theorem dX6_digestVanes_79 : decode cX6_digestVanes 79 = .ok (.lreturn, 1) := by decide +kernel
theorem dX6_digestMotions_0 : decode cX6_digestMotions 0 = .ok (.lload_n 1, 1) := by decide +kernel
theorem dX6_digestMotions_1 : decode cX6_digestMotions 1 = .ok (.lstore_n 3, 1) := by decide +kernel
theorem dX6_digestMotions_2 : decode cX6_digestMotions 2 = .ok (.iconst 0, 1) := by decide +kernel
theorem dX6_digestMotions_3 : decode cX6_digestMotions 3 = .ok (.istore 5, 2) := by decide +kernel
theorem dX6_digestMotions_5 : decode cX6_digestMotions 5 = .ok (.iload 5, 2) := by decide +kernel
theorem dX6_digestMotions_7 : decode cX6_digestMotions 7 = .ok (.aload_n 0, 1) := by decide +kernel
theorem dX6_digestMotions_8 : decode cX6_digestMotions 8 = .ok (.getfield 25, 3) := by decide +kernel
theorem dX6_digestMotions_11 : decode cX6_digestMotions 11 = .ok (.invokevirtual 60, 3) := by decide +kernel
theorem dX6_digestMotions_14 : decode cX6_digestMotions 14 = .ok (.if_icmp .ge 54, 3) := by decide +kernel
theorem dX6_digestMotions_17 : decode cX6_digestMotions 17 = .ok (.iconst 0, 1) := by decide +kernel
theorem dX6_digestMotions_18 : decode cX6_digestMotions 18 = .ok (.istore 6, 2) := by decide +kernel
theorem dX6_digestMotions_20 : decode cX6_digestMotions 20 = .ok (.iload 6, 2) := by decide +kernel
theorem dX6_digestMotions_22 : decode cX6_digestMotions 22 = .ok (.bipush 9, 2) := by decide +kernel
theorem dX6_digestMotions_24 : decode cX6_digestMotions 24 = .ok (.if_icmp .ge 38, 3) := by decide +kernel
theorem dX6_digestMotions_27 : decode cX6_digestMotions 27 = .ok (.lload_n 3, 1) := by decide +kernel
theorem dX6_digestMotions_28 : decode cX6_digestMotions 28 = .ok (.ldc2_w 245, 3) := by decide +kernel
theorem dX6_digestMotions_31 : decode cX6_digestMotions 31 = .ok (.lmul, 1) := by decide +kernel
theorem dX6_digestMotions_32 : decode cX6_digestMotions 32 = .ok (.aload_n 0, 1) := by decide +kernel
theorem dX6_digestMotions_33 : decode cX6_digestMotions 33 = .ok (.getfield 25, 3) := by decide +kernel
theorem dX6_digestMotions_36 : decode cX6_digestMotions 36 = .ok (.iload 5, 2) := by decide +kernel
theorem dX6_digestMotions_38 : decode cX6_digestMotions 38 = .ok (.invokevirtual 119, 3) := by decide +kernel
theorem dX6_digestMotions_41 : decode cX6_digestMotions 41 = .ok (.checkcast 159, 3) := by decide +kernel
theorem dX6_digestMotions_44 : decode cX6_digestMotions 44 = .ok (.iload 6, 2) := by decide +kernel
theorem dX6_digestMotions_46 : decode cX6_digestMotions 46 = .ok (.aload_n 0, 1) := by decide +kernel
theorem dX6_digestMotions_47 : decode cX6_digestMotions 47 = .ok (.getfield 34, 3) := by decide +kernel
theorem dX6_digestMotions_50 : decode cX6_digestMotions 50 = .ok (.invokevirtual 180, 3) := by decide +kernel
theorem dX6_digestMotions_53 : decode cX6_digestMotions 53 = .ok (.i2l, 1) := by decide +kernel
theorem dX6_digestMotions_54 : decode cX6_digestMotions 54 = .ok (.ladd, 1) := by decide +kernel
theorem dX6_digestMotions_55 : decode cX6_digestMotions 55 = .ok (.lstore_n 3, 1) := by decide +kernel
theorem dX6_digestMotions_56 : decode cX6_digestMotions 56 = .ok (.iinc 6 1, 3) := by decide +kernel
theorem dX6_digestMotions_59 : decode cX6_digestMotions 59 = .ok (.goto (-39), 3) := by decide +kernel
theorem dX6_digestMotions_62 : decode cX6_digestMotions 62 = .ok (.iinc 5 1, 3) := by decide +kernel
theorem dX6_digestMotions_65 : decode cX6_digestMotions 65 = .ok (.goto (-60), 3) := by decide +kernel
theorem dX6_digestMotions_68 : decode cX6_digestMotions 68 = .ok (.lload_n 3, 1) := by decide +kernel
theorem dX6_digestMotions_69 : decode cX6_digestMotions 69 = .ok (.lreturn, 1) := by decide +kernel
theorem dX6_tally_0 : decode cX6_tally 0 = .ok (.iload_n 1, 1) := by decide +kernel
theorem dX6_tally_1 : decode cX6_tally 1 = .ok (.tableswitch 108 0 7 #[47, 52, 63, 71, 79, 87, 95, 100], 47) := by decide +kernel
theorem dX6_tally_48 : decode cX6_tally 48 = .ok (.aload_n 0, 1) := by decide +kernel
theorem dX6_tally_49 : decode cX6_tally 49 = .ok (.getfield 145, 3) := by decide +kernel
theorem dX6_tally_52 : decode cX6_tally 52 = .ok (.ireturn, 1) := by decide +kernel
theorem dX6_tally_53 : decode cX6_tally 53 = .ok (.aload_n 0, 1) := by decide +kernel
theorem dX6_tally_54 : decode cX6_tally 54 = .ok (.getfield 34, 3) := by decide +kernel
theorem dX6_tally_57 : decode cX6_tally 57 = .ok (.getfield 95, 3) := by decide +kernel
theorem dX6_tally_60 : decode cX6_tally 60 = .ok (.invokevirtual 60, 3) := by decide +kernel
theorem dX6_tally_63 : decode cX6_tally 63 = .ok (.ireturn, 1) := by decide +kernel
theorem dX6_tally_64 : decode cX6_tally 64 = .ok (.aload_n 0, 1) := by decide +kernel
theorem dX6_tally_65 : decode cX6_tally 65 = .ok (.getfield 25, 3) := by decide +kernel
theorem dX6_tally_68 : decode cX6_tally 68 = .ok (.invokevirtual 60, 3) := by decide +kernel
theorem dX6_tally_71 : decode cX6_tally 71 = .ok (.ireturn, 1) := by decide +kernel
theorem dX6_tally_72 : decode cX6_tally 72 = .ok (.aload_n 0, 1) := by decide +kernel
theorem dX6_tally_73 : decode cX6_tally 73 = .ok (.getfield 21, 3) := by decide +kernel
theorem dX6_tally_76 : decode cX6_tally 76 = .ok (.invokevirtual 60, 3) := by decide +kernel
theorem dX6_tally_79 : decode cX6_tally 79 = .ok (.ireturn, 1) := by decide +kernel
theorem dX6_tally_80 : decode cX6_tally 80 = .ok (.aload_n 0, 1) := by decide +kernel
theorem dX6_tally_81 : decode cX6_tally 81 = .ok (.getfield 28, 3) := by decide +kernel
theorem dX6_tally_84 : decode cX6_tally 84 = .ok (.invokevirtual 60, 3) := by decide +kernel
theorem dX6_tally_87 : decode cX6_tally 87 = .ok (.ireturn, 1) := by decide +kernel
theorem dX6_tally_88 : decode cX6_tally 88 = .ok (.aload_n 0, 1) := by decide +kernel
theorem dX6_tally_89 : decode cX6_tally 89 = .ok (.getfield 34, 3) := by decide +kernel
theorem dX6_tally_92 : decode cX6_tally 92 = .ok (.invokevirtual 220, 3) := by decide +kernel
theorem dX6_tally_95 : decode cX6_tally 95 = .ok (.ireturn, 1) := by decide +kernel
theorem dX6_tally_96 : decode cX6_tally 96 = .ok (.aload_n 0, 1) := by decide +kernel
theorem dX6_tally_97 : decode cX6_tally 97 = .ok (.getfield 199, 3) := by decide +kernel
theorem dX6_tally_100 : decode cX6_tally 100 = .ok (.ireturn, 1) := by decide +kernel
theorem dX6_tally_101 : decode cX6_tally 101 = .ok (.aload_n 0, 1) := by decide +kernel
theorem dX6_tally_102 : decode cX6_tally 102 = .ok (.getfield 34, 3) := by decide +kernel
theorem dX6_tally_105 : decode cX6_tally 105 = .ok (.invokevirtual 265, 3) := by decide +kernel
theorem dX6_tally_108 : decode cX6_tally 108 = .ok (.ireturn, 1) := by decide +kernel
theorem dX6_tally_109 : decode cX6_tally 109 = .ok (.aload_n 0, 1) := by decide +kernel
theorem dX6_tally_110 : decode cX6_tally 110 = .ok (.getfield 34, 3) := by decide +kernel
theorem dX6_tally_113 : decode cX6_tally 113 = .ok (.aload_n 0, 1) := by decide +kernel
theorem dX6_tally_114 : decode cX6_tally 114 = .ok (.aload_n 0, 1) := by decide +kernel
theorem dX6_tally_115 : decode cX6_tally 115 = .ok (.getfield 145, 3) := by decide +kernel
theorem dX6_tally_118 : decode cX6_tally 118 = .ok (.invokevirtual 79, 3) := by decide +kernel
theorem dX6_tally_121 : decode cX6_tally 121 = .ok (.invokevirtual 268, 3) := by decide +kernel
theorem dX6_tally_124 : decode cX6_tally 124 = .ok (.ireturn, 1) := by decide +kernel
theorem dX6_windAt_0 : decode cX6_windAt 0 = .ok (.aload_n 0, 1) := by decide +kernel
theorem dX6_windAt_1 : decode cX6_windAt 1 = .ok (.getfield 21, 3) := by decide +kernel
theorem dX6_windAt_4 : decode cX6_windAt 4 = .ok (.invokevirtual 60, 3) := by decide +kernel
theorem dX6_windAt_7 : decode cX6_windAt 7 = .ok (.istore_n 2, 1) := by decide +kernel
theorem dX6_windAt_8 : decode cX6_windAt 8 = .ok (.iload_n 2, 1) := by decide +kernel
theorem dX6_windAt_9 : decode cX6_windAt 9 = .ok (.iconst 1, 1) := by decide +kernel
theorem dX6_windAt_10 : decode cX6_windAt 10 = .ok (.if_icmp .lt 7, 3) := by decide +kernel
theorem dX6_windAt_13 : decode cX6_windAt 13 = .ok (.iload_n 1, 1) := by decide +kernel
theorem dX6_windAt_14 : decode cX6_windAt 14 = .ok (.ifCond .ge 8, 3) := by decide +kernel
theorem dX6_windAt_17 : decode cX6_windAt 17 = .ok (.aload_n 0, 1) := by decide +kernel
theorem dX6_windAt_18 : decode cX6_windAt 18 = .ok (.getfield 12, 3) := by decide +kernel
theorem dX6_windAt_21 : decode cX6_windAt 21 = .ok (.areturn, 1) := by decide +kernel
theorem dX6_windAt_22 : decode cX6_windAt 22 = .ok (.aload_n 0, 1) := by decide +kernel
theorem dX6_windAt_23 : decode cX6_windAt 23 = .ok (.getfield 21, 3) := by decide +kernel
theorem dX6_windAt_26 : decode cX6_windAt 26 = .ok (.iload_n 1, 1) := by decide +kernel
theorem dX6_windAt_27 : decode cX6_windAt 27 = .ok (.iload_n 2, 1) := by decide +kernel
theorem dX6_windAt_28 : decode cX6_windAt 28 = .ok (.irem, 1) := by decide +kernel
theorem dX6_windAt_29 : decode cX6_windAt 29 = .ok (.invokevirtual 119, 3) := by decide +kernel
theorem dX6_windAt_32 : decode cX6_windAt 32 = .ok (.checkcast 7, 3) := by decide +kernel
theorem dX6_windAt_35 : decode cX6_windAt 35 = .ok (.areturn, 1) := by decide +kernel
theorem dX6_voteAndRain_0 : decode cX6_voteAndRain 0 = .ok (.iconst 0, 1) := by decide +kernel
theorem dX6_voteAndRain_1 : decode cX6_voteAndRain 1 = .ok (.istore 4, 2) := by decide +kernel
theorem dX6_voteAndRain_3 : decode cX6_voteAndRain 3 = .ok (.iconst 0, 1) := by decide +kernel
theorem dX6_voteAndRain_4 : decode cX6_voteAndRain 4 = .ok (.istore 5, 2) := by decide +kernel
theorem dX6_voteAndRain_6 : decode cX6_voteAndRain 6 = .ok (.iload 5, 2) := by decide +kernel
theorem dX6_voteAndRain_8 : decode cX6_voteAndRain 8 = .ok (.aload_n 0, 1) := by decide +kernel
theorem dX6_voteAndRain_9 : decode cX6_voteAndRain 9 = .ok (.getfield 28, 3) := by decide +kernel
theorem dX6_voteAndRain_12 : decode cX6_voteAndRain 12 = .ok (.invokevirtual 60, 3) := by decide +kernel
theorem dX6_voteAndRain_15 : decode cX6_voteAndRain 15 = .ok (.if_icmp .ge 77, 3) := by decide +kernel
theorem dX6_voteAndRain_18 : decode cX6_voteAndRain 18 = .ok (.aload_n 0, 1) := by decide +kernel
theorem dX6_voteAndRain_19 : decode cX6_voteAndRain 19 = .ok (.getfield 28, 3) := by decide +kernel
theorem dX6_voteAndRain_22 : decode cX6_voteAndRain 22 = .ok (.iload 5, 2) := by decide +kernel
theorem dX6_voteAndRain_24 : decode cX6_voteAndRain 24 = .ok (.invokevirtual 119, 3) := by decide +kernel
theorem dX6_voteAndRain_27 : decode cX6_voteAndRain 27 = .ok (.checkcast 173, 3) := by decide +kernel
theorem dX6_voteAndRain_30 : decode cX6_voteAndRain 30 = .ok (.astore 6, 2) := by decide +kernel
theorem dX6_voteAndRain_32 : decode cX6_voteAndRain 32 = .ok (.aload 6, 2) := by decide +kernel
theorem dX6_voteAndRain_34 : decode cX6_voteAndRain 34 = .ok (.getfield 264, 3) := by decide +kernel
theorem dX6_voteAndRain_37 : decode cX6_voteAndRain 37 = .ok (.iload_n 2, 1) := by decide +kernel
theorem dX6_voteAndRain_38 : decode cX6_voteAndRain 38 = .ok (.if_icmp .eq 6, 3) := by decide +kernel
theorem dX6_voteAndRain_41 : decode cX6_voteAndRain 41 = .ok (.goto 45, 3) := by decide +kernel
theorem dX6_voteAndRain_44 : decode cX6_voteAndRain 44 = .ok (.aload_n 1, 1) := by decide +kernel
theorem dX6_voteAndRain_45 : decode cX6_voteAndRain 45 = .ok (.aload 6, 2) := by decide +kernel
theorem dX6_voteAndRain_47 : decode cX6_voteAndRain 47 = .ok (.getfield 257, 3) := by decide +kernel
theorem dX6_voteAndRain_50 : decode cX6_voteAndRain 50 = .ok (.invokevirtual 272, 3) := by decide +kernel
theorem dX6_voteAndRain_53 : decode cX6_voteAndRain 53 = .ok (.istore 7, 2) := by decide +kernel
theorem dX6_voteAndRain_55 : decode cX6_voteAndRain 55 = .ok (.iload 7, 2) := by decide +kernel
theorem dX6_voteAndRain_57 : decode cX6_voteAndRain 57 = .ok (.ifCond .eq 15, 3) := by decide +kernel
theorem dX6_voteAndRain_60 : decode cX6_voteAndRain 60 = .ok (.aload_n 1, 1) := by decide +kernel
theorem dX6_voteAndRain_61 : decode cX6_voteAndRain 61 = .ok (.aload 6, 2) := by decide +kernel
theorem dX6_voteAndRain_63 : decode cX6_voteAndRain 63 = .ok (.getfield 257, 3) := by decide +kernel
theorem dX6_voteAndRain_66 : decode cX6_voteAndRain 66 = .ok (.invokevirtual 276, 3) := by decide +kernel
theorem dX6_voteAndRain_69 : decode cX6_voteAndRain 69 = .ok (.iinc 4 1, 3) := by decide +kernel
theorem dX6_voteAndRain_72 : decode cX6_voteAndRain 72 = .ok (.iload_n 3, 1) := by decide +kernel
theorem dX6_voteAndRain_73 : decode cX6_voteAndRain 73 = .ok (.ifCond .eq 13, 3) := by decide +kernel
theorem dX6_voteAndRain_76 : decode cX6_voteAndRain 76 = .ok (.aload 6, 2) := by decide +kernel
theorem dX6_voteAndRain_78 : decode cX6_voteAndRain 78 = .ok (.getfield 257, 3) := by decide +kernel
theorem dX6_voteAndRain_81 : decode cX6_voteAndRain 81 = .ok (.iload 7, 2) := by decide +kernel
theorem dX6_voteAndRain_83 : decode cX6_voteAndRain 83 = .ok (.invokevirtual 280, 3) := by decide +kernel
theorem dX6_voteAndRain_86 : decode cX6_voteAndRain 86 = .ok (.iinc 5 1, 3) := by decide +kernel
theorem dX6_voteAndRain_89 : decode cX6_voteAndRain 89 = .ok (.goto (-83), 3) := by decide +kernel
theorem dX6_voteAndRain_92 : decode cX6_voteAndRain 92 = .ok (.aload_n 0, 1) := by decide +kernel
theorem dX6_voteAndRain_93 : decode cX6_voteAndRain 93 = .ok (.iload_n 2, 1) := by decide +kernel
theorem dX6_voteAndRain_94 : decode cX6_voteAndRain 94 = .ok (.invokevirtual 79, 3) := by decide +kernel
theorem dX6_voteAndRain_97 : decode cX6_voteAndRain 97 = .ok (.getfield 284, 3) := by decide +kernel
theorem dX6_voteAndRain_100 : decode cX6_voteAndRain 100 = .ok (.ifCond .eq 7, 3) := by decide +kernel
theorem dX6_voteAndRain_103 : decode cX6_voteAndRain 103 = .ok (.aload_n 1, 1) := by decide +kernel
theorem dX6_voteAndRain_104 : decode cX6_voteAndRain 104 = .ok (.invokevirtual 288, 3) := by decide +kernel
theorem dX6_voteAndRain_107 : decode cX6_voteAndRain 107 = .ok (.iload 4, 2) := by decide +kernel
theorem dX6_voteAndRain_109 : decode cX6_voteAndRain 109 = .ok (.ireturn, 1) := by decide +kernel
theorem dX6_hoursUntilItPasses_0 : decode cX6_hoursUntilItPasses 0 = .ok (.iconst 0, 1) := by decide +kernel
theorem dX6_hoursUntilItPasses_1 : decode cX6_hoursUntilItPasses 1 = .ok (.istore_n 3, 1) := by decide +kernel
theorem dX6_hoursUntilItPasses_2 : decode cX6_hoursUntilItPasses 2 = .ok (.iload_n 3, 1) := by decide +kernel
theorem dX6_hoursUntilItPasses_3 : decode cX6_hoursUntilItPasses 3 = .ok (.iload_n 2, 1) := by decide +kernel
theorem dX6_hoursUntilItPasses_4 : decode cX6_hoursUntilItPasses 4 = .ok (.if_icmp .ge 55, 3) := by decide +kernel
theorem dX6_hoursUntilItPasses_7 : decode cX6_hoursUntilItPasses 7 = .ok (.aload_n 0, 1) := by decide +kernel
theorem dX6_hoursUntilItPasses_8 : decode cX6_hoursUntilItPasses 8 = .ok (.getfield 38, 3) := by decide +kernel
theorem dX6_hoursUntilItPasses_11 : decode cX6_hoursUntilItPasses 11 = .ok (.aload_n 0, 1) := by decide +kernel
theorem dX6_hoursUntilItPasses_12 : decode cX6_hoursUntilItPasses 12 = .ok (.aload_n 0, 1) := by decide +kernel
theorem dX6_hoursUntilItPasses_13 : decode cX6_hoursUntilItPasses 13 = .ok (.getfield 145, 3) := by decide +kernel
theorem dX6_hoursUntilItPasses_16 : decode cX6_hoursUntilItPasses 16 = .ok (.iload_n 3, 1) := by decide +kernel
theorem dX6_hoursUntilItPasses_17 : decode cX6_hoursUntilItPasses 17 = .ok (.iadd, 1) := by decide +kernel
theorem dX6_hoursUntilItPasses_18 : decode cX6_hoursUntilItPasses 18 = .ok (.invokevirtual 79, 3) := by decide +kernel
theorem dX6_hoursUntilItPasses_21 : decode cX6_hoursUntilItPasses 21 = .ok (.invokevirtual 191, 3) := by decide +kernel
theorem dX6_hoursUntilItPasses_24 : decode cX6_hoursUntilItPasses 24 = .ok (.aload_n 0, 1) := by decide +kernel
theorem dX6_hoursUntilItPasses_25 : decode cX6_hoursUntilItPasses 25 = .ok (.getfield 38, 3) := by decide +kernel
theorem dX6_hoursUntilItPasses_28 : decode cX6_hoursUntilItPasses 28 = .ok (.aload_n 1, 1) := by decide +kernel
theorem dX6_hoursUntilItPasses_29 : decode cX6_hoursUntilItPasses 29 = .ok (.invokevirtual 272, 3) := by decide +kernel
theorem dX6_hoursUntilItPasses_32 : decode cX6_hoursUntilItPasses 32 = .ok (.ifCond .eq 5, 3) := by decide +kernel
theorem dX6_hoursUntilItPasses_35 : decode cX6_hoursUntilItPasses 35 = .ok (.iload_n 3, 1) := by decide +kernel
theorem dX6_hoursUntilItPasses_36 : decode cX6_hoursUntilItPasses 36 = .ok (.ireturn, 1) := by decide +kernel
theorem dX6_hoursUntilItPasses_37 : decode cX6_hoursUntilItPasses 37 = .ok (.aload_n 0, 1) := by decide +kernel
theorem dX6_hoursUntilItPasses_38 : decode cX6_hoursUntilItPasses 38 = .ok (.aload_n 0, 1) := by decide +kernel
theorem dX6_hoursUntilItPasses_39 : decode cX6_hoursUntilItPasses 39 = .ok (.getfield 38, 3) := by decide +kernel
theorem dX6_hoursUntilItPasses_42 : decode cX6_hoursUntilItPasses 42 = .ok (.aload_n 0, 1) := by decide +kernel
theorem dX6_hoursUntilItPasses_43 : decode cX6_hoursUntilItPasses 43 = .ok (.getfield 145, 3) := by decide +kernel
theorem dX6_hoursUntilItPasses_46 : decode cX6_hoursUntilItPasses 46 = .ok (.iload_n 3, 1) := by decide +kernel
theorem dX6_hoursUntilItPasses_47 : decode cX6_hoursUntilItPasses 47 = .ok (.iadd, 1) := by decide +kernel
theorem dX6_hoursUntilItPasses_48 : decode cX6_hoursUntilItPasses 48 = .ok (.iconst 0, 1) := by decide +kernel
theorem dX6_hoursUntilItPasses_49 : decode cX6_hoursUntilItPasses 49 = .ok (.invokevirtual 195, 3) := by decide +kernel
theorem dX6_hoursUntilItPasses_52 : decode cX6_hoursUntilItPasses 52 = .ok (.pop, 1) := by decide +kernel
theorem dX6_hoursUntilItPasses_53 : decode cX6_hoursUntilItPasses 53 = .ok (.iinc 3 1, 3) := by decide +kernel
theorem dX6_hoursUntilItPasses_56 : decode cX6_hoursUntilItPasses 56 = .ok (.goto (-54), 3) := by decide +kernel
theorem dX6_hoursUntilItPasses_59 : decode cX6_hoursUntilItPasses 59 = .ok (.iload_n 2, 1) := by decide +kernel
theorem dX6_hoursUntilItPasses_60 : decode cX6_hoursUntilItPasses 60 = .ok (.ireturn, 1) := by decide +kernel
theorem dX6_dropPastEntries_0 : decode cX6_dropPastEntries 0 = .ok (.aload_n 0, 1) := by decide +kernel
theorem dX6_dropPastEntries_1 : decode cX6_dropPastEntries 1 = .ok (.getfield 28, 3) := by decide +kernel
theorem dX6_dropPastEntries_4 : decode cX6_dropPastEntries 4 = .ok (.invokevirtual 60, 3) := by decide +kernel
theorem dX6_dropPastEntries_7 : decode cX6_dropPastEntries 7 = .ok (.iconst 1, 1) := by decide +kernel
theorem dX6_dropPastEntries_8 : decode cX6_dropPastEntries 8 = .ok (.isub, 1) := by decide +kernel
theorem dX6_dropPastEntries_9 : decode cX6_dropPastEntries 9 = .ok (.istore_n 1, 1) := by decide +kernel
theorem dX6_dropPastEntries_10 : decode cX6_dropPastEntries 10 = .ok (.iload_n 1, 1) := by decide +kernel
theorem dX6_dropPastEntries_11 : decode cX6_dropPastEntries 11 = .ok (.ifCond .lt 39, 3) := by decide +kernel
theorem dX6_dropPastEntries_14 : decode cX6_dropPastEntries 14 = .ok (.aload_n 0, 1) := by decide +kernel
theorem dX6_dropPastEntries_15 : decode cX6_dropPastEntries 15 = .ok (.getfield 28, 3) := by decide +kernel
theorem dX6_dropPastEntries_18 : decode cX6_dropPastEntries 18 = .ok (.iload_n 1, 1) := by decide +kernel
theorem dX6_dropPastEntries_19 : decode cX6_dropPastEntries 19 = .ok (.invokevirtual 119, 3) := by decide +kernel
theorem dX6_dropPastEntries_22 : decode cX6_dropPastEntries 22 = .ok (.checkcast 173, 3) := by decide +kernel
theorem dX6_dropPastEntries_25 : decode cX6_dropPastEntries 25 = .ok (.getfield 264, 3) := by decide +kernel
theorem dX6_dropPastEntries_28 : decode cX6_dropPastEntries 28 = .ok (.aload_n 0, 1) := by decide +kernel
theorem dX6_dropPastEntries_29 : decode cX6_dropPastEntries 29 = .ok (.getfield 145, 3) := by decide +kernel
theorem dX6_dropPastEntries_32 : decode cX6_dropPastEntries 32 = .ok (.if_icmp .ge 12, 3) := by decide +kernel
theorem dX6_dropPastEntries_35 : decode cX6_dropPastEntries 35 = .ok (.aload_n 0, 1) := by decide +kernel
theorem dX6_dropPastEntries_36 : decode cX6_dropPastEntries 36 = .ok (.getfield 28, 3) := by decide +kernel
theorem dX6_dropPastEntries_39 : decode cX6_dropPastEntries 39 = .ok (.iload_n 1, 1) := by decide +kernel
theorem dX6_dropPastEntries_40 : decode cX6_dropPastEntries 40 = .ok (.invokevirtual 291, 3) := by decide +kernel
theorem dX6_dropPastEntries_43 : decode cX6_dropPastEntries 43 = .ok (.pop, 1) := by decide +kernel
theorem dX6_dropPastEntries_44 : decode cX6_dropPastEntries 44 = .ok (.iinc 1 (-1), 3) := by decide +kernel
theorem dX6_dropPastEntries_47 : decode cX6_dropPastEntries 47 = .ok (.goto (-37), 3) := by decide +kernel
theorem dX6_dropPastEntries_50 : decode cX6_dropPastEntries 50 = .ok (.return_, 1) := by decide +kernel
theorem dX6_isVane_0 : decode cX6_isVane 0 = .ok (.iload_n 1, 1) := by decide +kernel
theorem dX6_isVane_1 : decode cX6_isVane 1 = .ok (.ifCond .lt 21, 3) := by decide +kernel
theorem dX6_isVane_4 : decode cX6_isVane 4 = .ok (.iload_n 1, 1) := by decide +kernel
theorem dX6_isVane_5 : decode cX6_isVane 5 = .ok (.aload_n 0, 1) := by decide +kernel
theorem dX6_isVane_6 : decode cX6_isVane 6 = .ok (.getfield 34, 3) := by decide +kernel
theorem dX6_isVane_9 : decode cX6_isVane 9 = .ok (.getfield 95, 3) := by decide +kernel
theorem dX6_isVane_12 : decode cX6_isVane 12 = .ok (.invokevirtual 60, 3) := by decide +kernel
theorem dX6_isVane_15 : decode cX6_isVane 15 = .ok (.if_icmp .ge 7, 3) := by decide +kernel
theorem dX6_isVane_18 : decode cX6_isVane 18 = .ok (.iconst 1, 1) := by decide +kernel
theorem dX6_isVane_19 : decode cX6_isVane 19 = .ok (.goto 4, 3) := by decide +kernel
theorem dX6_isVane_22 : decode cX6_isVane 22 = .ok (.iconst 0, 1) := by decide +kernel
theorem dX6_isVane_23 : decode cX6_isVane 23 = .ok (.ireturn, 1) := by decide +kernel
theorem dX6_isMotion_0 : decode cX6_isMotion 0 = .ok (.iload_n 1, 1) := by decide +kernel
theorem dX6_isMotion_1 : decode cX6_isMotion 1 = .ok (.ifCond .lt 18, 3) := by decide +kernel
theorem dX6_isMotion_4 : decode cX6_isMotion 4 = .ok (.iload_n 1, 1) := by decide +kernel
theorem dX6_isMotion_5 : decode cX6_isMotion 5 = .ok (.aload_n 0, 1) := by decide +kernel
theorem dX6_isMotion_6 : decode cX6_isMotion 6 = .ok (.getfield 25, 3) := by decide +kernel
theorem dX6_isMotion_9 : decode cX6_isMotion 9 = .ok (.invokevirtual 60, 3) := by decide +kernel
theorem dX6_isMotion_12 : decode cX6_isMotion 12 = .ok (.if_icmp .ge 7, 3) := by decide +kernel
theorem dX6_isMotion_15 : decode cX6_isMotion 15 = .ok (.iconst 1, 1) := by decide +kernel
theorem dX6_isMotion_16 : decode cX6_isMotion 16 = .ok (.goto 4, 3) := by decide +kernel
theorem dX6_isMotion_19 : decode cX6_isMotion 19 = .ok (.iconst 0, 1) := by decide +kernel
theorem dX6_isMotion_20 : decode cX6_isMotion 20 = .ok (.ireturn, 1) := by decide +kernel
theorem dX6_isDirection_0 : decode cX6_isDirection 0 = .ok (.iload_n 0, 1) := by decide +kernel
theorem dX6_isDirection_1 : decode cX6_isDirection 1 = .ok (.ifCond .lt 13, 3) := by decide +kernel
theorem dX6_isDirection_4 : decode cX6_isDirection 4 = .ok (.iload_n 0, 1) := by decide +kernel
theorem dX6_isDirection_5 : decode cX6_isDirection 5 = .ok (.bipush 16, 2) := by decide +kernel
theorem dX6_isDirection_7 : decode cX6_isDirection 7 = .ok (.if_icmp .ge 7, 3) := by decide +kernel
theorem dX6_isDirection_10 : decode cX6_isDirection 10 = .ok (.iconst 1, 1) := by decide +kernel
theorem dX6_isDirection_11 : decode cX6_isDirection 11 = .ok (.goto 4, 3) := by decide +kernel
theorem dX6_isDirection_14 : decode cX6_isDirection 14 = .ok (.iconst 0, 1) := by decide +kernel
theorem dX6_isDirection_15 : decode cX6_isDirection 15 = .ok (.ireturn, 1) := by decide +kernel
theorem dX6_isWithin_0 : decode cX6_isWithin 0 = .ok (.iload_n 0, 1) := by decide +kernel
theorem dX6_isWithin_1 : decode cX6_isWithin 1 = .ok (.iload_n 1, 1) := by decide +kernel
theorem dX6_isWithin_2 : decode cX6_isWithin 2 = .ok (.if_icmp .lt 12, 3) := by decide +kernel
theorem dX6_isWithin_5 : decode cX6_isWithin 5 = .ok (.iload_n 0, 1) := by decide +kernel
theorem dX6_isWithin_6 : decode cX6_isWithin 6 = .ok (.iload_n 2, 1) := by decide +kernel
theorem dX6_isWithin_7 : decode cX6_isWithin 7 = .ok (.if_icmp .gt 7, 3) := by decide +kernel
theorem dX6_isWithin_10 : decode cX6_isWithin 10 = .ok (.iconst 1, 1) := by decide +kernel
theorem dX6_isWithin_11 : decode cX6_isWithin 11 = .ok (.goto 4, 3) := by decide +kernel
theorem dX6_isWithin_14 : decode cX6_isWithin 14 = .ok (.iconst 0, 1) := by decide +kernel
theorem dX6_isWithin_15 : decode cX6_isWithin 15 = .ok (.ireturn, 1) := by decide +kernel
theorem dX6_steps_0 : decode cX6_steps 0 = .ok (.iload_n 1, 1) := by decide +kernel
theorem dX6_steps_1 : decode cX6_steps 1 = .ok (.iload_n 0, 1) := by decide +kernel
theorem dX6_steps_2 : decode cX6_steps 2 = .ok (.isub, 1) := by decide +kernel
theorem dX6_steps_3 : decode cX6_steps 3 = .ok (.bipush 7, 2) := by decide +kernel
theorem dX6_steps_5 : decode cX6_steps 5 = .ok (.iadd, 1) := by decide +kernel
theorem dX6_steps_6 : decode cX6_steps 6 = .ok (.bipush 16, 2) := by decide +kernel
theorem dX6_steps_8 : decode cX6_steps 8 = .ok (.iadd, 1) := by decide +kernel
theorem dX6_steps_9 : decode cX6_steps 9 = .ok (.bipush 16, 2) := by decide +kernel
theorem dX6_steps_11 : decode cX6_steps 11 = .ok (.irem, 1) := by decide +kernel
theorem dX6_steps_12 : decode cX6_steps 12 = .ok (.bipush 7, 2) := by decide +kernel
theorem dX6_steps_14 : decode cX6_steps 14 = .ok (.isub, 1) := by decide +kernel
theorem dX6_steps_15 : decode cX6_steps 15 = .ok (.ireturn, 1) := by decide +kernel
theorem dX6_distance_0 : decode cX6_distance 0 = .ok (.iload_n 0, 1) := by decide +kernel
theorem dX6_distance_1 : decode cX6_distance 1 = .ok (.iload_n 1, 1) := by decide +kernel
theorem dX6_distance_2 : decode cX6_distance 2 = .ok (.invokestatic 151, 3) := by decide +kernel
theorem dX6_distance_5 : decode cX6_distance 5 = .ok (.invokestatic 294, 3) := by decide +kernel
theorem dX6_distance_8 : decode cX6_distance 8 = .ok (.ireturn, 1) := by decide +kernel
theorem dX7_init_0 : decode cX7_init 0 = .ok (.aload_n 0, 1) := by decide +kernel
theorem dX7_init_1 : decode cX7_init 1 = .ok (.invokespecial 3, 3) := by decide +kernel
theorem dX7_init_4 : decode cX7_init 4 = .ok (.aload_n 0, 1) := by decide +kernel
theorem dX7_init_5 : decode cX7_init 5 = .ok (.iconst 1, 1) := by decide +kernel
theorem dX7_init_6 : decode cX7_init 6 = .ok (.putfield 9, 3) := by decide +kernel
theorem dX7_init_9 : decode cX7_init 9 = .ok (.aload_n 0, 1) := by decide +kernel
theorem dX7_init_10 : decode cX7_init 10 = .ok (.bipush 24, 2) := by decide +kernel
theorem dX7_init_12 : decode cX7_init 12 = .ok (.newarray .int, 2) := by decide +kernel
theorem dX7_init_14 : decode cX7_init 14 = .ok (.putfield 15, 3) := by decide +kernel
theorem dX7_init_17 : decode cX7_init 17 = .ok (.aload_n 0, 1) := by decide +kernel
theorem dX7_init_18 : decode cX7_init 18 = .ok (.bipush 24, 2) := by decide +kernel
theorem dX7_init_20 : decode cX7_init 20 = .ok (.newarray .int, 2) := by decide +kernel
theorem dX7_init_22 : decode cX7_init 22 = .ok (.putfield 19, 3) := by decide +kernel
theorem dX7_init_25 : decode cX7_init 25 = .ok (.aload_n 0, 1) := by decide +kernel
theorem dX7_init_26 : decode cX7_init 26 = .ok (.bipush 24, 2) := by decide +kernel
theorem dX7_init_28 : decode cX7_init 28 = .ok (.newarray .boolean, 2) := by decide +kernel
theorem dX7_init_30 : decode cX7_init 30 = .ok (.putfield 22, 3) := by decide +kernel
theorem dX7_init_33 : decode cX7_init 33 = .ok (.aload_n 0, 1) := by decide +kernel
theorem dX7_init_34 : decode cX7_init 34 = .ok (.sipush 160, 3) := by decide +kernel
theorem dX7_init_37 : decode cX7_init 37 = .ok (.newarray .int, 2) := by decide +kernel
theorem dX7_init_39 : decode cX7_init 39 = .ok (.putfield 26, 3) := by decide +kernel
theorem dX7_init_42 : decode cX7_init 42 = .ok (.aload_n 0, 1) := by decide +kernel
theorem dX7_init_43 : decode cX7_init 43 = .ok (.bipush 72, 2) := by decide +kernel
theorem dX7_init_45 : decode cX7_init 45 = .ok (.newarray .int, 2) := by decide +kernel
theorem dX7_init_47 : decode cX7_init 47 = .ok (.putfield 29, 3) := by decide +kernel
theorem dX7_init_50 : decode cX7_init 50 = .ok (.aload_n 0, 1) := by decide +kernel
theorem dX7_init_51 : decode cX7_init 51 = .ok (.bipush 40, 2) := by decide +kernel
theorem dX7_init_53 : decode cX7_init 53 = .ok (.newarray .int, 2) := by decide +kernel
theorem dX7_init_55 : decode cX7_init 55 = .ok (.putfield 32, 3) := by decide +kernel
theorem dX7_init_58 : decode cX7_init 58 = .ok (.aload_n 0, 1) := by decide +kernel
theorem dX7_init_59 : decode cX7_init 59 = .ok (.getfield 19, 3) := by decide +kernel
theorem dX7_init_62 : decode cX7_init 62 = .ok (.iconst 0, 1) := by decide +kernel
theorem dX7_init_63 : decode cX7_init 63 = .ok (.iconst 5, 1) := by decide +kernel
theorem dX7_init_64 : decode cX7_init 64 = .ok (.iastore, 1) := by decide +kernel
theorem dX7_init_65 : decode cX7_init 65 = .ok (.return_, 1) := by decide +kernel
theorem dX7_become_0 : decode cX7_become 0 = .ok (.aload_n 0, 1) := by decide +kernel
theorem dX7_become_1 : decode cX7_become 1 = .ok (.aload_n 1, 1) := by decide +kernel
theorem dX7_become_2 : decode cX7_become 2 = .ok (.getfield 35, 3) := by decide +kernel
theorem dX7_become_5 : decode cX7_become 5 = .ok (.putfield 35, 3) := by decide +kernel
theorem dX7_become_8 : decode cX7_become 8 = .ok (.aload_n 0, 1) := by decide +kernel
theorem dX7_become_9 : decode cX7_become 9 = .ok (.aload_n 1, 1) := by decide +kernel
theorem dX7_become_10 : decode cX7_become 10 = .ok (.getfield 9, 3) := by decide +kernel
theorem dX7_become_13 : decode cX7_become 13 = .ok (.putfield 9, 3) := by decide +kernel
theorem dX7_become_16 : decode cX7_become 16 = .ok (.aload_n 0, 1) := by decide +kernel
theorem dX7_become_17 : decode cX7_become 17 = .ok (.aload_n 1, 1) := by decide +kernel
theorem dX7_become_18 : decode cX7_become 18 = .ok (.getfield 38, 3) := by decide +kernel
theorem dX7_become_21 : decode cX7_become 21 = .ok (.putfield 38, 3) := by decide +kernel
theorem dX7_become_24 : decode cX7_become 24 = .ok (.aload_n 0, 1) := by decide +kernel
theorem dX7_become_25 : decode cX7_become 25 = .ok (.aload_n 1, 1) := by decide +kernel
theorem dX7_become_26 : decode cX7_become 26 = .ok (.getfield 41, 3) := by decide +kernel
theorem dX7_become_29 : decode cX7_become 29 = .ok (.putfield 41, 3) := by decide +kernel
theorem dX7_become_32 : decode cX7_become 32 = .ok (.aload_n 0, 1) := by decide +kernel
theorem dX7_become_33 : decode cX7_become 33 = .ok (.aload_n 1, 1) := by decide +kernel
theorem dX7_become_34 : decode cX7_become 34 = .ok (.getfield 44, 3) := by decide +kernel
theorem dX7_become_37 : decode cX7_become 37 = .ok (.putfield 44, 3) := by decide +kernel
theorem dX7_become_40 : decode cX7_become 40 = .ok (.aload_n 0, 1) := by decide +kernel
theorem dX7_become_41 : decode cX7_become 41 = .ok (.aload_n 1, 1) := by decide +kernel
theorem dX7_become_42 : decode cX7_become 42 = .ok (.getfield 47, 3) := by decide +kernel
theorem dX7_become_45 : decode cX7_become 45 = .ok (.putfield 47, 3) := by decide +kernel
theorem dX7_become_48 : decode cX7_become 48 = .ok (.aload_n 1, 1) := by decide +kernel
theorem dX7_become_49 : decode cX7_become 49 = .ok (.getfield 15, 3) := by decide +kernel
theorem dX7_become_52 : decode cX7_become 52 = .ok (.iconst 0, 1) := by decide +kernel
theorem dX7_become_53 : decode cX7_become 53 = .ok (.aload_n 0, 1) := by decide +kernel
theorem dX7_become_54 : decode cX7_become 54 = .ok (.getfield 15, 3) := by decide +kernel
theorem dX7_become_57 : decode cX7_become 57 = .ok (.iconst 0, 1) := by decide +kernel
theorem dX7_become_58 : decode cX7_become 58 = .ok (.bipush 24, 2) := by decide +kernel
theorem dX7_become_60 : decode cX7_become 60 = .ok (.invokestatic 50, 3) := by decide +kernel
theorem dX7_become_63 : decode cX7_become 63 = .ok (.aload_n 1, 1) := by decide +kernel
theorem dX7_become_64 : decode cX7_become 64 = .ok (.getfield 19, 3) := by decide +kernel
theorem dX7_become_67 : decode cX7_become 67 = .ok (.iconst 0, 1) := by decide +kernel
theorem dX7_become_68 : decode cX7_become 68 = .ok (.aload_n 0, 1) := by decide +kernel
theorem dX7_become_69 : decode cX7_become 69 = .ok (.getfield 19, 3) := by decide +kernel
theorem dX7_become_72 : decode cX7_become 72 = .ok (.iconst 0, 1) := by decide +kernel
theorem dX7_become_73 : decode cX7_become 73 = .ok (.bipush 24, 2) := by decide +kernel
theorem dX7_become_75 : decode cX7_become 75 = .ok (.invokestatic 50, 3) := by decide +kernel
theorem dX7_become_78 : decode cX7_become 78 = .ok (.aload_n 1, 1) := by decide +kernel
theorem dX7_become_79 : decode cX7_become 79 = .ok (.getfield 22, 3) := by decide +kernel
theorem dX7_become_82 : decode cX7_become 82 = .ok (.iconst 0, 1) := by decide +kernel
theorem dX7_become_83 : decode cX7_become 83 = .ok (.aload_n 0, 1) := by decide +kernel
theorem dX7_become_84 : decode cX7_become 84 = .ok (.getfield 22, 3) := by decide +kernel
theorem dX7_become_87 : decode cX7_become 87 = .ok (.iconst 0, 1) := by decide +kernel
theorem dX7_become_88 : decode cX7_become 88 = .ok (.bipush 24, 2) := by decide +kernel
theorem dX7_become_90 : decode cX7_become 90 = .ok (.invokestatic 50, 3) := by decide +kernel
theorem dX7_become_93 : decode cX7_become 93 = .ok (.aload_n 1, 1) := by decide +kernel
theorem dX7_become_94 : decode cX7_become 94 = .ok (.getfield 26, 3) := by decide +kernel
theorem dX7_become_97 : decode cX7_become 97 = .ok (.iconst 0, 1) := by decide +kernel
theorem dX7_become_98 : decode cX7_become 98 = .ok (.aload_n 0, 1) := by decide +kernel
theorem dX7_become_99 : decode cX7_become 99 = .ok (.getfield 26, 3) := by decide +kernel
theorem dX7_become_102 : decode cX7_become 102 = .ok (.iconst 0, 1) := by decide +kernel
theorem dX7_become_103 : decode cX7_become 103 = .ok (.aload_n 0, 1) := by decide +kernel
theorem dX7_become_104 : decode cX7_become 104 = .ok (.getfield 26, 3) := by decide +kernel
theorem dX7_become_107 : decode cX7_become 107 = .ok (.arraylength, 1) := by decide +kernel
theorem dX7_become_108 : decode cX7_become 108 = .ok (.invokestatic 50, 3) := by decide +kernel
theorem dX7_become_111 : decode cX7_become 111 = .ok (.aload_n 1, 1) := by decide +kernel
theorem dX7_become_112 : decode cX7_become 112 = .ok (.getfield 29, 3) := by decide +kernel
theorem dX7_become_115 : decode cX7_become 115 = .ok (.iconst 0, 1) := by decide +kernel
theorem dX7_become_116 : decode cX7_become 116 = .ok (.aload_n 0, 1) := by decide +kernel
theorem dX7_become_117 : decode cX7_become 117 = .ok (.getfield 29, 3) := by decide +kernel
theorem dX7_become_120 : decode cX7_become 120 = .ok (.iconst 0, 1) := by decide +kernel
theorem dX7_become_121 : decode cX7_become 121 = .ok (.aload_n 0, 1) := by decide +kernel
theorem dX7_become_122 : decode cX7_become 122 = .ok (.getfield 29, 3) := by decide +kernel
theorem dX7_become_125 : decode cX7_become 125 = .ok (.arraylength, 1) := by decide +kernel
theorem dX7_become_126 : decode cX7_become 126 = .ok (.invokestatic 50, 3) := by decide +kernel
theorem dX7_become_129 : decode cX7_become 129 = .ok (.aload_n 1, 1) := by decide +kernel
theorem dX7_become_130 : decode cX7_become 130 = .ok (.getfield 32, 3) := by decide +kernel
theorem dX7_become_133 : decode cX7_become 133 = .ok (.iconst 0, 1) := by decide +kernel
theorem dX7_become_134 : decode cX7_become 134 = .ok (.aload_n 0, 1) := by decide +kernel
theorem dX7_become_135 : decode cX7_become 135 = .ok (.getfield 32, 3) := by decide +kernel
theorem dX7_become_138 : decode cX7_become 138 = .ok (.iconst 0, 1) := by decide +kernel
theorem dX7_become_139 : decode cX7_become 139 = .ok (.aload_n 0, 1) := by decide +kernel
theorem dX7_become_140 : decode cX7_become 140 = .ok (.getfield 32, 3) := by decide +kernel
theorem dX7_become_143 : decode cX7_become 143 = .ok (.arraylength, 1) := by decide +kernel
theorem dX7_become_144 : decode cX7_become 144 = .ok (.invokestatic 50, 3) := by decide +kernel
theorem dX7_become_147 : decode cX7_become 147 = .ok (.return_, 1) := by decide +kernel
theorem dX7_of_0 : decode cX7_of 0 = .ok (.aload_n 0, 1) := by decide +kernel
theorem dX7_of_1 : decode cX7_of 1 = .ok (.getfield 26, 3) := by decide +kernel
theorem dX7_of_4 : decode cX7_of 4 = .ok (.bipush 10, 2) := by decide +kernel
theorem dX7_of_6 : decode cX7_of 6 = .ok (.iload_n 1, 1) := by decide +kernel
theorem dX7_of_7 : decode cX7_of 7 = .ok (.imul, 1) := by decide +kernel
theorem dX7_of_8 : decode cX7_of 8 = .ok (.iload_n 2, 1) := by decide +kernel
theorem dX7_of_9 : decode cX7_of 9 = .ok (.iadd, 1) := by decide +kernel
theorem dX7_of_10 : decode cX7_of 10 = .ok (.iaload, 1) := by decide +kernel
theorem dX7_of_11 : decode cX7_of 11 = .ok (.ireturn, 1) := by decide +kernel
theorem dX7_set_0 : decode cX7_set 0 = .ok (.aload_n 0, 1) := by decide +kernel
theorem dX7_set_1 : decode cX7_set 1 = .ok (.getfield 26, 3) := by decide +kernel
theorem dX7_set_4 : decode cX7_set 4 = .ok (.bipush 10, 2) := by decide +kernel
theorem dX7_set_6 : decode cX7_set 6 = .ok (.iload_n 1, 1) := by decide +kernel
theorem dX7_set_7 : decode cX7_set 7 = .ok (.imul, 1) := by decide +kernel
theorem dX7_set_8 : decode cX7_set 8 = .ok (.iload_n 2, 1) := by decide +kernel
theorem dX7_set_9 : decode cX7_set 9 = .ok (.iadd, 1) := by decide +kernel
theorem dX7_set_10 : decode cX7_set 10 = .ok (.iload_n 3, 1) := by decide +kernel
theorem dX7_set_11 : decode cX7_set 11 = .ok (.iastore, 1) := by decide +kernel
theorem dX7_set_12 : decode cX7_set 12 = .ok (.return_, 1) := by decide +kernel
theorem dX7_entry_0 : decode cX7_entry 0 = .ok (.aload_n 0, 1) := by decide +kernel
theorem dX7_entry_1 : decode cX7_entry 1 = .ok (.getfield 35, 3) := by decide +kernel
theorem dX7_entry_4 : decode cX7_entry 4 = .ok (.aload_n 0, 1) := by decide +kernel
theorem dX7_entry_5 : decode cX7_entry 5 = .ok (.getfield 9, 3) := by decide +kernel
theorem dX7_entry_8 : decode cX7_entry 8 = .ok (.irem, 1) := by decide +kernel
theorem dX7_entry_9 : decode cX7_entry 9 = .ok (.ireturn, 1) := by decide +kernel
theorem dX7_lee_0 : decode cX7_lee 0 = .ok (.aload_n 0, 1) := by decide +kernel
theorem dX7_lee_1 : decode cX7_lee 1 = .ok (.getfield 15, 3) := by decide +kernel
theorem dX7_lee_4 : decode cX7_lee 4 = .ok (.aload_n 0, 1) := by decide +kernel
theorem dX7_lee_5 : decode cX7_lee 5 = .ok (.invokevirtual 56, 3) := by decide +kernel
theorem dX7_lee_8 : decode cX7_lee 8 = .ok (.iaload, 1) := by decide +kernel
theorem dX7_lee_9 : decode cX7_lee 9 = .ok (.bipush 8, 2) := by decide +kernel
theorem dX7_lee_11 : decode cX7_lee 11 = .ok (.iadd, 1) := by decide +kernel
theorem dX7_lee_12 : decode cX7_lee 12 = .ok (.bipush 16, 2) := by decide +kernel
theorem dX7_lee_14 : decode cX7_lee 14 = .ok (.irem, 1) := by decide +kernel
theorem dX7_lee_15 : decode cX7_lee 15 = .ok (.iconst 1, 1) := by decide +kernel
theorem dX7_lee_16 : decode cX7_lee 16 = .ok (.iadd, 1) := by decide +kernel
theorem dX7_lee_17 : decode cX7_lee 17 = .ok (.iconst 2, 1) := by decide +kernel
theorem dX7_lee_18 : decode cX7_lee 18 = .ok (.idiv, 1) := by decide +kernel
theorem dX7_lee_19 : decode cX7_lee 19 = .ok (.bipush 8, 2) := by decide +kernel
theorem dX7_lee_21 : decode cX7_lee 21 = .ok (.irem, 1) := by decide +kernel
theorem dX7_lee_22 : decode cX7_lee 22 = .ok (.istore_n 2, 1) := by decide +kernel
theorem dX7_lee_23 : decode cX7_lee 23 = .ok (.iload_n 2, 1) := by decide +kernel
theorem dX7_lee_24 : decode cX7_lee 24 = .ok (.ifCond .eq 8, 3) := by decide +kernel
theorem dX7_lee_27 : decode cX7_lee 27 = .ok (.iload_n 2, 1) := by decide +kernel
theorem dX7_lee_28 : decode cX7_lee 28 = .ok (.iconst 4, 1) := by decide +kernel
theorem dX7_lee_29 : decode cX7_lee 29 = .ok (.if_icmp .ne 7, 3) := by decide +kernel
theorem dX7_lee_32 : decode cX7_lee 32 = .ok (.iconst 0, 1) := by decide +kernel
theorem dX7_lee_33 : decode cX7_lee 33 = .ok (.goto 13, 3) := by decide +kernel
theorem dX7_lee_36 : decode cX7_lee 36 = .ok (.iload_n 2, 1) := by decide +kernel
theorem dX7_lee_37 : decode cX7_lee 37 = .ok (.iconst 4, 1) := by decide +kernel
theorem dX7_lee_38 : decode cX7_lee 38 = .ok (.if_icmp .ge 7, 3) := by decide +kernel
theorem dX7_lee_41 : decode cX7_lee 41 = .ok (.iconst 1, 1) := by decide +kernel
theorem dX7_lee_42 : decode cX7_lee 42 = .ok (.goto 4, 3) := by decide +kernel
theorem dX7_lee_45 : decode cX7_lee 45 = .ok (.iconst (-1), 1) := by decide +kernel
theorem dX7_lee_46 : decode cX7_lee 46 = .ok (.istore_n 3, 1) := by decide +kernel
theorem dX7_lee_47 : decode cX7_lee 47 = .ok (.iload_n 2, 1) := by decide +kernel
theorem dX7_lee_48 : decode cX7_lee 48 = .ok (.iconst 2, 1) := by decide +kernel
theorem dX7_lee_49 : decode cX7_lee 49 = .ok (.if_icmp .eq 9, 3) := by decide +kernel
theorem dX7_lee_52 : decode cX7_lee 52 = .ok (.iload_n 2, 1) := by decide +kernel
theorem dX7_lee_53 : decode cX7_lee 53 = .ok (.bipush 6, 2) := by decide +kernel
theorem dX7_lee_55 : decode cX7_lee 55 = .ok (.if_icmp .ne 7, 3) := by decide +kernel
theorem dX7_lee_58 : decode cX7_lee 58 = .ok (.iconst 0, 1) := by decide +kernel
theorem dX7_lee_59 : decode cX7_lee 59 = .ok (.goto 19, 3) := by decide +kernel
theorem dX7_lee_62 : decode cX7_lee 62 = .ok (.iload_n 2, 1) := by decide +kernel
theorem dX7_lee_63 : decode cX7_lee 63 = .ok (.iconst 2, 1) := by decide +kernel
theorem dX7_lee_64 : decode cX7_lee 64 = .ok (.if_icmp .le 13, 3) := by decide +kernel
theorem dX7_lee_67 : decode cX7_lee 67 = .ok (.iload_n 2, 1) := by decide +kernel
theorem dX7_lee_68 : decode cX7_lee 68 = .ok (.bipush 6, 2) := by decide +kernel
theorem dX7_lee_70 : decode cX7_lee 70 = .ok (.if_icmp .ge 7, 3) := by decide +kernel
theorem dX7_lee_73 : decode cX7_lee 73 = .ok (.iconst 1, 1) := by decide +kernel
theorem dX7_lee_74 : decode cX7_lee 74 = .ok (.goto 4, 3) := by decide +kernel
theorem dX7_lee_77 : decode cX7_lee 77 = .ok (.iconst (-1), 1) := by decide +kernel
theorem dX7_lee_78 : decode cX7_lee 78 = .ok (.istore 4, 2) := by decide +kernel
theorem dX7_lee_80 : decode cX7_lee 80 = .ok (.iconst 0, 1) := by decide +kernel
theorem dX7_lee_81 : decode cX7_lee 81 = .ok (.istore 5, 2) := by decide +kernel
theorem dX7_lee_83 : decode cX7_lee 83 = .ok (.iconst 1, 1) := by decide +kernel
theorem dX7_lee_84 : decode cX7_lee 84 = .ok (.istore 6, 2) := by decide +kernel
theorem dX7_lee_86 : decode cX7_lee 86 = .ok (.iload 6, 2) := by decide +kernel
theorem dX7_lee_88 : decode cX7_lee 88 = .ok (.iconst 4, 1) := by decide +kernel
theorem dX7_lee_89 : decode cX7_lee 89 = .ok (.if_icmp .ge 96, 3) := by decide +kernel
theorem dX7_lee_92 : decode cX7_lee 92 = .ok (.iconst 0, 1) := by decide +kernel
theorem dX7_lee_93 : decode cX7_lee 93 = .ok (.istore 7, 2) := by decide +kernel
theorem dX7_lee_95 : decode cX7_lee 95 = .ok (.iload 7, 2) := by decide +kernel
theorem dX7_lee_97 : decode cX7_lee 97 = .ok (.aload_n 0, 1) := by decide +kernel
theorem dX7_lee_98 : decode cX7_lee 98 = .ok (.getfield 38, 3) := by decide +kernel
theorem dX7_lee_101 : decode cX7_lee 101 = .ok (.if_icmp .ge 78, 3) := by decide +kernel
theorem dX7_lee_104 : decode cX7_lee 104 = .ok (.iload 5, 2) := by decide +kernel
theorem dX7_lee_106 : decode cX7_lee 106 = .ok (.aload_n 0, 1) := by decide +kernel
theorem dX7_lee_107 : decode cX7_lee 107 = .ok (.iload 7, 2) := by decide +kernel
theorem dX7_lee_109 : decode cX7_lee 109 = .ok (.iconst 0, 1) := by decide +kernel
theorem dX7_lee_110 : decode cX7_lee 110 = .ok (.invokevirtual 60, 3) := by decide +kernel
theorem dX7_lee_113 : decode cX7_lee 113 = .ok (.aload_n 0, 1) := by decide +kernel
theorem dX7_lee_114 : decode cX7_lee 114 = .ok (.iload_n 1, 1) := by decide +kernel
theorem dX7_lee_115 : decode cX7_lee 115 = .ok (.iconst 0, 1) := by decide +kernel
theorem dX7_lee_116 : decode cX7_lee 116 = .ok (.invokevirtual 60, 3) := by decide +kernel
theorem dX7_lee_119 : decode cX7_lee 119 = .ok (.iload 6, 2) := by decide +kernel
theorem dX7_lee_121 : decode cX7_lee 121 = .ok (.iload_n 3, 1) := by decide +kernel
theorem dX7_lee_122 : decode cX7_lee 122 = .ok (.imul, 1) := by decide +kernel
theorem dX7_lee_123 : decode cX7_lee 123 = .ok (.iadd, 1) := by decide +kernel
theorem dX7_lee_124 : decode cX7_lee 124 = .ok (.if_icmp .ne 45, 3) := by decide +kernel
theorem dX7_lee_127 : decode cX7_lee 127 = .ok (.aload_n 0, 1) := by decide +kernel
theorem dX7_lee_128 : decode cX7_lee 128 = .ok (.iload 7, 2) := by decide +kernel
theorem dX7_lee_130 : decode cX7_lee 130 = .ok (.iconst 1, 1) := by decide +kernel
theorem dX7_lee_131 : decode cX7_lee 131 = .ok (.invokevirtual 60, 3) := by decide +kernel
theorem dX7_lee_134 : decode cX7_lee 134 = .ok (.aload_n 0, 1) := by decide +kernel
theorem dX7_lee_135 : decode cX7_lee 135 = .ok (.iload_n 1, 1) := by decide +kernel
theorem dX7_lee_136 : decode cX7_lee 136 = .ok (.iconst 1, 1) := by decide +kernel
theorem dX7_lee_137 : decode cX7_lee 137 = .ok (.invokevirtual 60, 3) := by decide +kernel
theorem dX7_lee_140 : decode cX7_lee 140 = .ok (.iload 6, 2) := by decide +kernel
theorem dX7_lee_142 : decode cX7_lee 142 = .ok (.iload 4, 2) := by decide +kernel
theorem dX7_lee_144 : decode cX7_lee 144 = .ok (.imul, 1) := by decide +kernel
theorem dX7_lee_145 : decode cX7_lee 145 = .ok (.iadd, 1) := by decide +kernel
theorem dX7_lee_146 : decode cX7_lee 146 = .ok (.if_icmp .ne 23, 3) := by decide +kernel
theorem dX7_lee_149 : decode cX7_lee 149 = .ok (.aload_n 0, 1) := by decide +kernel
theorem dX7_lee_150 : decode cX7_lee 150 = .ok (.iload 7, 2) := by decide +kernel
theorem dX7_lee_152 : decode cX7_lee 152 = .ok (.iconst 2, 1) := by decide +kernel
theorem dX7_lee_153 : decode cX7_lee 153 = .ok (.invokevirtual 60, 3) := by decide +kernel
theorem dX7_lee_156 : decode cX7_lee 156 = .ok (.aload_n 0, 1) := by decide +kernel
theorem dX7_lee_157 : decode cX7_lee 157 = .ok (.iload_n 1, 1) := by decide +kernel
theorem dX7_lee_158 : decode cX7_lee 158 = .ok (.iconst 2, 1) := by decide +kernel
theorem dX7_lee_159 : decode cX7_lee 159 = .ok (.invokevirtual 60, 3) := by decide +kernel
theorem dX7_lee_162 : decode cX7_lee 162 = .ok (.if_icmp .le 7, 3) := by decide +kernel
theorem dX7_lee_165 : decode cX7_lee 165 = .ok (.iconst 1, 1) := by decide +kernel
theorem dX7_lee_166 : decode cX7_lee 166 = .ok (.goto 4, 3) := by decide +kernel
theorem dX7_lee_169 : decode cX7_lee 169 = .ok (.iconst 0, 1) := by decide +kernel
theorem dX7_lee_170 : decode cX7_lee 170 = .ok (.iadd, 1) := by decide +kernel
theorem dX7_lee_171 : decode cX7_lee 171 = .ok (.istore 5, 2) := by decide +kernel
theorem dX7_lee_173 : decode cX7_lee 173 = .ok (.iinc 7 1, 3) := by decide +kernel
theorem dX7_lee_176 : decode cX7_lee 176 = .ok (.goto (-81), 3) := by decide +kernel
theorem dX7_lee_179 : decode cX7_lee 179 = .ok (.iinc 6 1, 3) := by decide +kernel
theorem dX7_lee_182 : decode cX7_lee 182 = .ok (.goto (-96), 3) := by decide +kernel
theorem dX7_lee_185 : decode cX7_lee 185 = .ok (.iload 5, 2) := by decide +kernel
theorem dX7_lee_187 : decode cX7_lee 187 = .ok (.ireturn, 1) := by decide +kernel
theorem dX7_windAt_0 : decode cX7_windAt 0 = .ok (.iconst 0, 1) := by decide +kernel
theorem dX7_windAt_1 : decode cX7_windAt 1 = .ok (.aload_n 0, 1) := by decide +kernel
theorem dX7_windAt_2 : decode cX7_windAt 2 = .ok (.getfield 19, 3) := by decide +kernel
theorem dX7_windAt_5 : decode cX7_windAt 5 = .ok (.aload_n 0, 1) := by decide +kernel
theorem dX7_windAt_6 : decode cX7_windAt 6 = .ok (.invokevirtual 56, 3) := by decide +kernel
theorem dX7_windAt_9 : decode cX7_windAt 9 = .ok (.iaload, 1) := by decide +kernel
theorem dX7_windAt_10 : decode cX7_windAt 10 = .ok (.iconst 2, 1) := by decide +kernel
theorem dX7_windAt_11 : decode cX7_windAt 11 = .ok (.aload_n 0, 1) := by decide +kernel
theorem dX7_windAt_12 : decode cX7_windAt 12 = .ok (.iload_n 1, 1) := by decide +kernel
theorem dX7_windAt_13 : decode cX7_windAt 13 = .ok (.invokevirtual 64, 3) := by decide +kernel
theorem dX7_windAt_16 : decode cX7_windAt 16 = .ok (.imul, 1) := by decide +kernel
theorem dX7_windAt_17 : decode cX7_windAt 17 = .ok (.isub, 1) := by decide +kernel
theorem dX7_windAt_18 : decode cX7_windAt 18 = .ok (.invokestatic 68, 3) := by decide +kernel
theorem dX7_windAt_21 : decode cX7_windAt 21 = .ok (.ireturn, 1) := by decide +kernel
theorem dX7_oil_0 : decode cX7_oil 0 = .ok (.aload_n 0, 1) := by decide +kernel
theorem dX7_oil_1 : decode cX7_oil 1 = .ok (.iload_n 1, 1) := by decide +kernel
theorem dX7_oil_2 : decode cX7_oil 2 = .ok (.iconst 5, 1) := by decide +kernel
theorem dX7_oil_3 : decode cX7_oil 3 = .ok (.iconst 0, 1) := by decide +kernel
theorem dX7_oil_4 : decode cX7_oil 4 = .ok (.invokevirtual 73, 3) := by decide +kernel
theorem dX7_oil_7 : decode cX7_oil 7 = .ok (.aload_n 0, 1) := by decide +kernel
theorem dX7_oil_8 : decode cX7_oil 8 = .ok (.iload_n 1, 1) := by decide +kernel
theorem dX7_oil_9 : decode cX7_oil 9 = .ok (.bipush 9, 2) := by decide +kernel
theorem dX7_oil_11 : decode cX7_oil 11 = .ok (.iconst 0, 1) := by decide +kernel
theorem dX7_oil_12 : decode cX7_oil 12 = .ok (.invokevirtual 73, 3) := by decide +kernel
theorem dX7_oil_15 : decode cX7_oil 15 = .ok (.return_, 1) := by decide +kernel
theorem dX7_turn_0 : decode cX7_turn 0 = .ok (.iconst 0, 1) := by decide +kernel
theorem dX7_turn_1 : decode cX7_turn 1 = .ok (.istore_n 1, 1) := by decide +kernel
theorem dX7_turn_2 : decode cX7_turn 2 = .ok (.iload_n 1, 1) := by decide +kernel
theorem dX7_turn_3 : decode cX7_turn 3 = .ok (.aload_n 0, 1) := by decide +kernel
theorem dX7_turn_4 : decode cX7_turn 4 = .ok (.getfield 38, 3) := by decide +kernel
theorem dX7_turn_7 : decode cX7_turn 7 = .ok (.if_icmp .ge 179, 3) := by decide +kernel
theorem dX7_turn_10 : decode cX7_turn 10 = .ok (.aload_n 0, 1) := by decide +kernel
theorem dX7_turn_11 : decode cX7_turn 11 = .ok (.iload_n 1, 1) := by decide +kernel
theorem dX7_turn_12 : decode cX7_turn 12 = .ok (.invokevirtual 77, 3) := by decide +kernel
theorem dX7_turn_15 : decode cX7_turn 15 = .ok (.istore_n 2, 1) := by decide +kernel
theorem dX7_turn_16 : decode cX7_turn 16 = .ok (.aload_n 0, 1) := by decide +kernel
theorem dX7_turn_17 : decode cX7_turn 17 = .ok (.iload_n 1, 1) := by decide +kernel
theorem dX7_turn_18 : decode cX7_turn 18 = .ok (.bipush 8, 2) := by decide +kernel
theorem dX7_turn_20 : decode cX7_turn 20 = .ok (.invokevirtual 60, 3) := by decide +kernel
theorem dX7_turn_23 : decode cX7_turn 23 = .ok (.ifCond .gt 13, 3) := by decide +kernel
theorem dX7_turn_26 : decode cX7_turn 26 = .ok (.iload_n 2, 1) := by decide +kernel
theorem dX7_turn_27 : decode cX7_turn 27 = .ok (.aload_n 0, 1) := by decide +kernel
theorem dX7_turn_28 : decode cX7_turn 28 = .ok (.iload_n 1, 1) := by decide +kernel
theorem dX7_turn_29 : decode cX7_turn 29 = .ok (.iconst 5, 1) := by decide +kernel
theorem dX7_turn_30 : decode cX7_turn 30 = .ok (.invokevirtual 60, 3) := by decide +kernel
theorem dX7_turn_33 : decode cX7_turn 33 = .ok (.if_icmp .gt 34, 3) := by decide +kernel
theorem dX7_turn_36 : decode cX7_turn 36 = .ok (.aload_n 0, 1) := by decide +kernel
theorem dX7_turn_37 : decode cX7_turn 37 = .ok (.iload_n 1, 1) := by decide +kernel
theorem dX7_turn_38 : decode cX7_turn 38 = .ok (.bipush 8, 2) := by decide +kernel
theorem dX7_turn_40 : decode cX7_turn 40 = .ok (.iconst 0, 1) := by decide +kernel
theorem dX7_turn_41 : decode cX7_turn 41 = .ok (.aload_n 0, 1) := by decide +kernel
theorem dX7_turn_42 : decode cX7_turn 42 = .ok (.iload_n 1, 1) := by decide +kernel
theorem dX7_turn_43 : decode cX7_turn 43 = .ok (.bipush 8, 2) := by decide +kernel
theorem dX7_turn_45 : decode cX7_turn 45 = .ok (.invokevirtual 60, 3) := by decide +kernel
theorem dX7_turn_48 : decode cX7_turn 48 = .ok (.iconst 1, 1) := by decide +kernel
theorem dX7_turn_49 : decode cX7_turn 49 = .ok (.isub, 1) := by decide +kernel
theorem dX7_turn_50 : decode cX7_turn 50 = .ok (.invokestatic 68, 3) := by decide +kernel
theorem dX7_turn_53 : decode cX7_turn 53 = .ok (.invokevirtual 73, 3) := by decide +kernel
theorem dX7_turn_56 : decode cX7_turn 56 = .ok (.aload_n 0, 1) := by decide +kernel
theorem dX7_turn_57 : decode cX7_turn 57 = .ok (.iload_n 1, 1) := by decide +kernel
theorem dX7_turn_58 : decode cX7_turn 58 = .ok (.bipush 7, 2) := by decide +kernel
theorem dX7_turn_60 : decode cX7_turn 60 = .ok (.iconst 0, 1) := by decide +kernel
theorem dX7_turn_61 : decode cX7_turn 61 = .ok (.invokevirtual 73, 3) := by decide +kernel
theorem dX7_turn_64 : decode cX7_turn 64 = .ok (.goto 116, 3) := by decide +kernel
theorem dX7_turn_67 : decode cX7_turn 67 = .ok (.aload_n 0, 1) := by decide +kernel
theorem dX7_turn_68 : decode cX7_turn 68 = .ok (.iload_n 1, 1) := by decide +kernel
theorem dX7_turn_69 : decode cX7_turn 69 = .ok (.bipush 6, 2) := by decide +kernel
theorem dX7_turn_71 : decode cX7_turn 71 = .ok (.invokevirtual 60, 3) := by decide +kernel
theorem dX7_turn_74 : decode cX7_turn 74 = .ok (.aload_n 0, 1) := by decide +kernel
theorem dX7_turn_75 : decode cX7_turn 75 = .ok (.getfield 15, 3) := by decide +kernel
theorem dX7_turn_78 : decode cX7_turn 78 = .ok (.aload_n 0, 1) := by decide +kernel
theorem dX7_turn_79 : decode cX7_turn 79 = .ok (.invokevirtual 56, 3) := by decide +kernel
theorem dX7_turn_82 : decode cX7_turn 82 = .ok (.iaload, 1) := by decide +kernel
theorem dX7_turn_83 : decode cX7_turn 83 = .ok (.invokestatic 80, 3) := by decide +kernel
theorem dX7_turn_86 : decode cX7_turn 86 = .ok (.istore_n 3, 1) := by decide +kernel
theorem dX7_turn_87 : decode cX7_turn 87 = .ok (.aload_n 0, 1) := by decide +kernel
theorem dX7_turn_88 : decode cX7_turn 88 = .ok (.iload_n 1, 1) := by decide +kernel
theorem dX7_turn_89 : decode cX7_turn 89 = .ok (.bipush 7, 2) := by decide +kernel
theorem dX7_turn_91 : decode cX7_turn 91 = .ok (.invokevirtual 60, 3) := by decide +kernel
theorem dX7_turn_94 : decode cX7_turn 94 = .ok (.aload_n 0, 1) := by decide +kernel
theorem dX7_turn_95 : decode cX7_turn 95 = .ok (.iload_n 1, 1) := by decide +kernel
theorem dX7_turn_96 : decode cX7_turn 96 = .ok (.iconst 3, 1) := by decide +kernel
theorem dX7_turn_97 : decode cX7_turn 97 = .ok (.invokevirtual 60, 3) := by decide +kernel
theorem dX7_turn_100 : decode cX7_turn 100 = .ok (.imul, 1) := by decide +kernel
theorem dX7_turn_101 : decode cX7_turn 101 = .ok (.iload_n 3, 1) := by decide +kernel
theorem dX7_turn_102 : decode cX7_turn 102 = .ok (.iload_n 2, 1) := by decide +kernel
theorem dX7_turn_103 : decode cX7_turn 103 = .ok (.imul, 1) := by decide +kernel
theorem dX7_turn_104 : decode cX7_turn 104 = .ok (.iadd, 1) := by decide +kernel
theorem dX7_turn_105 : decode cX7_turn 105 = .ok (.aload_n 0, 1) := by decide +kernel
theorem dX7_turn_106 : decode cX7_turn 106 = .ok (.iload_n 1, 1) := by decide +kernel
theorem dX7_turn_107 : decode cX7_turn 107 = .ok (.iconst 3, 1) := by decide +kernel
theorem dX7_turn_108 : decode cX7_turn 108 = .ok (.invokevirtual 60, 3) := by decide +kernel
theorem dX7_turn_111 : decode cX7_turn 111 = .ok (.iconst 4, 1) := by decide +kernel
theorem dX7_turn_112 : decode cX7_turn 112 = .ok (.iadd, 1) := by decide +kernel
theorem dX7_turn_113 : decode cX7_turn 113 = .ok (.aload_n 0, 1) := by decide +kernel
theorem dX7_turn_114 : decode cX7_turn 114 = .ok (.iload_n 1, 1) := by decide +kernel
theorem dX7_turn_115 : decode cX7_turn 115 = .ok (.iconst 5, 1) := by decide +kernel
theorem dX7_turn_116 : decode cX7_turn 116 = .ok (.invokevirtual 60, 3) := by decide +kernel
theorem dX7_turn_119 : decode cX7_turn 119 = .ok (.iadd, 1) := by decide +kernel
theorem dX7_turn_120 : decode cX7_turn 120 = .ok (.idiv, 1) := by decide +kernel
theorem dX7_turn_121 : decode cX7_turn 121 = .ok (.istore 4, 2) := by decide +kernel
theorem dX7_turn_123 : decode cX7_turn 123 = .ok (.bipush (-8), 2) := by decide +kernel
theorem dX7_turn_125 : decode cX7_turn 125 = .ok (.bipush 8, 2) := by decide +kernel
theorem dX7_turn_127 : decode cX7_turn 127 = .ok (.iload 4, 2) := by decide +kernel
theorem dX7_turn_129 : decode cX7_turn 129 = .ok (.invokestatic 83, 3) := by decide +kernel
theorem dX7_turn_132 : decode cX7_turn 132 = .ok (.invokestatic 68, 3) := by decide +kernel
theorem dX7_turn_135 : decode cX7_turn 135 = .ok (.istore 4, 2) := by decide +kernel
theorem dX7_turn_137 : decode cX7_turn 137 = .ok (.iload 4, 2) := by decide +kernel
theorem dX7_turn_139 : decode cX7_turn 139 = .ok (.ifCond .ne 9, 3) := by decide +kernel
theorem dX7_turn_142 : decode cX7_turn 142 = .ok (.iload_n 3, 1) := by decide +kernel
theorem dX7_turn_143 : decode cX7_turn 143 = .ok (.invokestatic 86, 3) := by decide +kernel
theorem dX7_turn_146 : decode cX7_turn 146 = .ok (.istore 4, 2) := by decide +kernel
theorem dX7_turn_148 : decode cX7_turn 148 = .ok (.aload_n 0, 1) := by decide +kernel
theorem dX7_turn_149 : decode cX7_turn 149 = .ok (.iload_n 1, 1) := by decide +kernel
theorem dX7_turn_150 : decode cX7_turn 150 = .ok (.bipush 7, 2) := by decide +kernel
theorem dX7_turn_152 : decode cX7_turn 152 = .ok (.iload 4, 2) := by decide +kernel
theorem dX7_turn_154 : decode cX7_turn 154 = .ok (.invokevirtual 73, 3) := by decide +kernel
theorem dX7_turn_157 : decode cX7_turn 157 = .ok (.aload_n 0, 1) := by decide +kernel
theorem dX7_turn_158 : decode cX7_turn 158 = .ok (.iload_n 1, 1) := by decide +kernel
theorem dX7_turn_159 : decode cX7_turn 159 = .ok (.bipush 6, 2) := by decide +kernel
theorem dX7_turn_161 : decode cX7_turn 161 = .ok (.aload_n 0, 1) := by decide +kernel
theorem dX7_turn_162 : decode cX7_turn 162 = .ok (.iload_n 1, 1) := by decide +kernel
theorem dX7_turn_163 : decode cX7_turn 163 = .ok (.bipush 6, 2) := by decide +kernel
theorem dX7_turn_165 : decode cX7_turn 165 = .ok (.invokevirtual 60, 3) := by decide +kernel
theorem dX7_turn_168 : decode cX7_turn 168 = .ok (.iload 4, 2) := by decide +kernel
theorem dX7_turn_170 : decode cX7_turn 170 = .ok (.iadd, 1) := by decide +kernel
theorem dX7_turn_171 : decode cX7_turn 171 = .ok (.bipush 16, 2) := by decide +kernel
theorem dX7_turn_173 : decode cX7_turn 173 = .ok (.iadd, 1) := by decide +kernel
theorem dX7_turn_174 : decode cX7_turn 174 = .ok (.bipush 16, 2) := by decide +kernel
theorem dX7_turn_176 : decode cX7_turn 176 = .ok (.irem, 1) := by decide +kernel
theorem dX7_turn_177 : decode cX7_turn 177 = .ok (.invokevirtual 73, 3) := by decide +kernel
theorem dX7_turn_180 : decode cX7_turn 180 = .ok (.iinc 1 1, 3) := by decide +kernel
theorem dX7_turn_183 : decode cX7_turn 183 = .ok (.goto (-181), 3) := by decide +kernel
theorem dX7_turn_186 : decode cX7_turn 186 = .ok (.return_, 1) := by decide +kernel
theorem dX7_end_0 : decode cX7_end 0 = .ok (.iconst 0, 1) := by decide +kernel
theorem dX7_end_1 : decode cX7_end 1 = .ok (.istore_n 1, 1) := by decide +kernel
theorem dX7_end_2 : decode cX7_end 2 = .ok (.iconst 0, 1) := by decide +kernel
theorem dX7_end_3 : decode cX7_end 3 = .ok (.istore_n 2, 1) := by decide +kernel
theorem dX7_end_4 : decode cX7_end 4 = .ok (.iconst 0, 1) := by decide +kernel
theorem dX7_end_5 : decode cX7_end 5 = .ok (.istore_n 3, 1) := by decide +kernel
theorem dX7_end_6 : decode cX7_end 6 = .ok (.iload_n 3, 1) := by decide +kernel
theorem dX7_end_7 : decode cX7_end 7 = .ok (.aload_n 0, 1) := by decide +kernel
theorem dX7_end_8 : decode cX7_end 8 = .ok (.getfield 44, 3) := by decide +kernel
theorem dX7_end_11 : decode cX7_end 11 = .ok (.if_icmp .ge 83, 3) := by decide +kernel
theorem dX7_end_14 : decode cX7_end 14 = .ok (.aload_n 0, 1) := by decide +kernel
theorem dX7_end_15 : decode cX7_end 15 = .ok (.getfield 32, 3) := by decide +kernel
theorem dX7_end_18 : decode cX7_end 18 = .ok (.iconst 2, 1) := by decide +kernel
theorem dX7_end_19 : decode cX7_end 19 = .ok (.iload_n 3, 1) := by decide +kernel
theorem dX7_end_20 : decode cX7_end 20 = .ok (.imul, 1) := by decide +kernel
theorem dX7_end_21 : decode cX7_end 21 = .ok (.iconst 1, 1) := by decide +kernel
theorem dX7_end_22 : decode cX7_end 22 = .ok (.iadd, 1) := by decide +kernel
theorem dX7_end_23 : decode cX7_end 23 = .ok (.iaload, 1) := by decide +kernel
theorem dX7_end_24 : decode cX7_end 24 = .ok (.aload_n 0, 1) := by decide +kernel
theorem dX7_end_25 : decode cX7_end 25 = .ok (.getfield 35, 3) := by decide +kernel
theorem dX7_end_28 : decode cX7_end 28 = .ok (.if_icmp .ne 21, 3) := by decide +kernel
theorem dX7_end_31 : decode cX7_end 31 = .ok (.iload_n 1, 1) := by decide +kernel
theorem dX7_end_32 : decode cX7_end 32 = .ok (.aload_n 0, 1) := by decide +kernel
theorem dX7_end_33 : decode cX7_end 33 = .ok (.aload_n 0, 1) := by decide +kernel
theorem dX7_end_34 : decode cX7_end 34 = .ok (.getfield 32, 3) := by decide +kernel
theorem dX7_end_37 : decode cX7_end 37 = .ok (.iconst 2, 1) := by decide +kernel
theorem dX7_end_38 : decode cX7_end 38 = .ok (.iload_n 3, 1) := by decide +kernel
theorem dX7_end_39 : decode cX7_end 39 = .ok (.imul, 1) := by decide +kernel
theorem dX7_end_40 : decode cX7_end 40 = .ok (.iaload, 1) := by decide +kernel
theorem dX7_end_41 : decode cX7_end 41 = .ok (.invokevirtual 91, 3) := by decide +kernel
theorem dX7_end_44 : decode cX7_end 44 = .ok (.iadd, 1) := by decide +kernel
theorem dX7_end_45 : decode cX7_end 45 = .ok (.istore_n 1, 1) := by decide +kernel
theorem dX7_end_46 : decode cX7_end 46 = .ok (.goto 42, 3) := by decide +kernel
theorem dX7_end_49 : decode cX7_end 49 = .ok (.aload_n 0, 1) := by decide +kernel
theorem dX7_end_50 : decode cX7_end 50 = .ok (.getfield 32, 3) := by decide +kernel
theorem dX7_end_53 : decode cX7_end 53 = .ok (.iconst 2, 1) := by decide +kernel
theorem dX7_end_54 : decode cX7_end 54 = .ok (.iload_n 2, 1) := by decide +kernel
theorem dX7_end_55 : decode cX7_end 55 = .ok (.imul, 1) := by decide +kernel
theorem dX7_end_56 : decode cX7_end 56 = .ok (.aload_n 0, 1) := by decide +kernel
theorem dX7_end_57 : decode cX7_end 57 = .ok (.getfield 32, 3) := by decide +kernel
theorem dX7_end_60 : decode cX7_end 60 = .ok (.iconst 2, 1) := by decide +kernel
theorem dX7_end_61 : decode cX7_end 61 = .ok (.iload_n 3, 1) := by decide +kernel
theorem dX7_end_62 : decode cX7_end 62 = .ok (.imul, 1) := by decide +kernel
theorem dX7_end_63 : decode cX7_end 63 = .ok (.iaload, 1) := by decide +kernel
theorem dX7_end_64 : decode cX7_end 64 = .ok (.iastore, 1) := by decide +kernel
theorem dX7_end_65 : decode cX7_end 65 = .ok (.aload_n 0, 1) := by decide +kernel
theorem dX7_end_66 : decode cX7_end 66 = .ok (.getfield 32, 3) := by decide +kernel
theorem dX7_end_69 : decode cX7_end 69 = .ok (.iconst 2, 1) := by decide +kernel
theorem dX7_end_70 : decode cX7_end 70 = .ok (.iload_n 2, 1) := by decide +kernel
theorem dX7_end_71 : decode cX7_end 71 = .ok (.imul, 1) := by decide +kernel
theorem dX7_end_72 : decode cX7_end 72 = .ok (.iconst 1, 1) := by decide +kernel
theorem dX7_end_73 : decode cX7_end 73 = .ok (.iadd, 1) := by decide +kernel
theorem dX7_end_74 : decode cX7_end 74 = .ok (.aload_n 0, 1) := by decide +kernel
theorem dX7_end_75 : decode cX7_end 75 = .ok (.getfield 32, 3) := by decide +kernel
theorem dX7_end_78 : decode cX7_end 78 = .ok (.iconst 2, 1) := by decide +kernel
theorem dX7_end_79 : decode cX7_end 79 = .ok (.iload_n 3, 1) := by decide +kernel
theorem dX7_end_80 : decode cX7_end 80 = .ok (.imul, 1) := by decide +kernel
theorem dX7_end_81 : decode cX7_end 81 = .ok (.iconst 1, 1) := by decide +kernel
theorem dX7_end_82 : decode cX7_end 82 = .ok (.iadd, 1) := by decide +kernel
theorem dX7_end_83 : decode cX7_end 83 = .ok (.iaload, 1) := by decide +kernel
theorem dX7_end_84 : decode cX7_end 84 = .ok (.iastore, 1) := by decide +kernel
theorem dX7_end_85 : decode cX7_end 85 = .ok (.iinc 2 1, 3) := by decide +kernel
theorem dX7_end_88 : decode cX7_end 88 = .ok (.iinc 3 1, 3) := by decide +kernel
theorem dX7_end_91 : decode cX7_end 91 = .ok (.goto (-85), 3) := by decide +kernel
theorem dX7_end_94 : decode cX7_end 94 = .ok (.aload_n 0, 1) := by decide +kernel
theorem dX7_end_95 : decode cX7_end 95 = .ok (.iload_n 2, 1) := by decide +kernel
theorem dX7_end_96 : decode cX7_end 96 = .ok (.putfield 44, 3) := by decide +kernel
theorem dX7_end_99 : decode cX7_end 99 = .ok (.iconst 0, 1) := by decide +kernel
theorem dX7_end_100 : decode cX7_end 100 = .ok (.istore_n 3, 1) := by decide +kernel
theorem dX7_end_101 : decode cX7_end 101 = .ok (.iload_n 3, 1) := by decide +kernel
theorem dX7_end_102 : decode cX7_end 102 = .ok (.aload_n 0, 1) := by decide +kernel
theorem dX7_end_103 : decode cX7_end 103 = .ok (.getfield 38, 3) := by decide +kernel
theorem dX7_end_106 : decode cX7_end 106 = .ok (.if_icmp .ge 69, 3) := by decide +kernel
theorem dX7_end_109 : decode cX7_end 109 = .ok (.aload_n 0, 1) := by decide +kernel
theorem dX7_end_110 : decode cX7_end 110 = .ok (.getfield 22, 3) := by decide +kernel
theorem dX7_end_113 : decode cX7_end 113 = .ok (.aload_n 0, 1) := by decide +kernel
theorem dX7_end_114 : decode cX7_end 114 = .ok (.invokevirtual 56, 3) := by decide +kernel
theorem dX7_end_117 : decode cX7_end 117 = .ok (.baload, 1) := by decide +kernel
theorem dX7_end_118 : decode cX7_end 118 = .ok (.ifCond .eq 57, 3) := by decide +kernel
theorem dX7_end_121 : decode cX7_end 121 = .ok (.aload_n 0, 1) := by decide +kernel
theorem dX7_end_122 : decode cX7_end 122 = .ok (.iload_n 3, 1) := by decide +kernel
theorem dX7_end_123 : decode cX7_end 123 = .ok (.bipush 9, 2) := by decide +kernel
theorem dX7_end_125 : decode cX7_end 125 = .ok (.aload_n 0, 1) := by decide +kernel
theorem dX7_end_126 : decode cX7_end 126 = .ok (.iload_n 3, 1) := by decide +kernel
theorem dX7_end_127 : decode cX7_end 127 = .ok (.bipush 9, 2) := by decide +kernel
theorem dX7_end_129 : decode cX7_end 129 = .ok (.invokevirtual 60, 3) := by decide +kernel
theorem dX7_end_132 : decode cX7_end 132 = .ok (.iconst 1, 1) := by decide +kernel
theorem dX7_end_133 : decode cX7_end 133 = .ok (.iadd, 1) := by decide +kernel
theorem dX7_end_134 : decode cX7_end 134 = .ok (.invokevirtual 73, 3) := by decide +kernel
theorem dX7_end_137 : decode cX7_end 137 = .ok (.aload_n 0, 1) := by decide +kernel
theorem dX7_end_138 : decode cX7_end 138 = .ok (.iload_n 3, 1) := by decide +kernel
theorem dX7_end_139 : decode cX7_end 139 = .ok (.bipush 9, 2) := by decide +kernel
theorem dX7_end_141 : decode cX7_end 141 = .ok (.invokevirtual 60, 3) := by decide +kernel
theorem dX7_end_144 : decode cX7_end 144 = .ok (.iconst 2, 1) := by decide +kernel
theorem dX7_end_145 : decode cX7_end 145 = .ok (.irem, 1) := by decide +kernel
theorem dX7_end_146 : decode cX7_end 146 = .ok (.iconst 1, 1) := by decide +kernel
theorem dX7_end_147 : decode cX7_end 147 = .ok (.if_icmp .ne 22, 3) := by decide +kernel
theorem dX7_end_150 : decode cX7_end 150 = .ok (.aload_n 0, 1) := by decide +kernel
theorem dX7_end_151 : decode cX7_end 151 = .ok (.iload_n 3, 1) := by decide +kernel
theorem dX7_end_152 : decode cX7_end 152 = .ok (.iconst 5, 1) := by decide +kernel
theorem dX7_end_153 : decode cX7_end 153 = .ok (.bipush 9, 2) := by decide +kernel
theorem dX7_end_155 : decode cX7_end 155 = .ok (.aload_n 0, 1) := by decide +kernel
theorem dX7_end_156 : decode cX7_end 156 = .ok (.iload_n 3, 1) := by decide +kernel
theorem dX7_end_157 : decode cX7_end 157 = .ok (.iconst 5, 1) := by decide +kernel
theorem dX7_end_158 : decode cX7_end 158 = .ok (.invokevirtual 60, 3) := by decide +kernel
theorem dX7_end_161 : decode cX7_end 161 = .ok (.iconst 1, 1) := by decide +kernel
theorem dX7_end_162 : decode cX7_end 162 = .ok (.iadd, 1) := by decide +kernel
theorem dX7_end_163 : decode cX7_end 163 = .ok (.invokestatic 83, 3) := by decide +kernel
theorem dX7_end_166 : decode cX7_end 166 = .ok (.invokevirtual 73, 3) := by decide +kernel
theorem dX7_end_169 : decode cX7_end 169 = .ok (.iinc 3 1, 3) := by decide +kernel
theorem dX7_end_172 : decode cX7_end 172 = .ok (.goto (-71), 3) := by decide +kernel
theorem dX7_end_175 : decode cX7_end 175 = .ok (.aload_n 0, 1) := by decide +kernel
theorem dX7_end_176 : decode cX7_end 176 = .ok (.dup, 1) := by decide +kernel
theorem dX7_end_177 : decode cX7_end 177 = .ok (.getfield 35, 3) := by decide +kernel
theorem dX7_end_180 : decode cX7_end 180 = .ok (.iconst 1, 1) := by decide +kernel
theorem dX7_end_181 : decode cX7_end 181 = .ok (.iadd, 1) := by decide +kernel
theorem dX7_end_182 : decode cX7_end 182 = .ok (.putfield 35, 3) := by decide +kernel
theorem dX7_end_185 : decode cX7_end 185 = .ok (.aload_n 0, 1) := by decide +kernel
theorem dX7_end_186 : decode cX7_end 186 = .ok (.dup, 1) := by decide +kernel
theorem dX7_end_187 : decode cX7_end 187 = .ok (.getfield 47, 3) := by decide +kernel
theorem dX7_end_190 : decode cX7_end 190 = .ok (.iload_n 1, 1) := by decide +kernel
theorem dX7_end_191 : decode cX7_end 191 = .ok (.iadd, 1) := by decide +kernel
theorem dX7_end_192 : decode cX7_end 192 = .ok (.putfield 47, 3) := by decide +kernel
theorem dX7_end_195 : decode cX7_end 195 = .ok (.iload_n 1, 1) := by decide +kernel
theorem dX7_end_196 : decode cX7_end 196 = .ok (.ireturn, 1) := by decide +kernel
theorem dX7_stand_0 : decode cX7_stand 0 = .ok (.aload_n 0, 1) := by decide +kernel
theorem dX7_stand_1 : decode cX7_stand 1 = .ok (.iload_n 2, 1) := by decide +kernel
theorem dX7_stand_2 : decode cX7_stand 2 = .ok (.bipush 6, 2) := by decide +kernel
theorem dX7_stand_4 : decode cX7_stand 4 = .ok (.invokevirtual 60, 3) := by decide +kernel
theorem dX7_stand_7 : decode cX7_stand 7 = .ok (.aload_n 0, 1) := by decide +kernel
theorem dX7_stand_8 : decode cX7_stand 8 = .ok (.getfield 29, 3) := by decide +kernel
theorem dX7_stand_11 : decode cX7_stand 11 = .ok (.bipush 6, 2) := by decide +kernel
theorem dX7_stand_13 : decode cX7_stand 13 = .ok (.iload_n 1, 1) := by decide +kernel
