abbrev mX12_again : gz_M := (yX12_again, cX12_again, 5, some .int)
theorem dX12_again_0 : decode mX12_again.2.1 0 = .ok (.aload_n 0, 1) := by decide +kernel
theorem dX12_again_1 : decode mX12_again.2.1 1 = .ok (.iconst 0, 1) := by decide +kernel
theorem dX12_again_2 : decode mX12_again.2.1 2 = .ok (.putfield 104, 3) := by decide +kernel
theorem dX12_again_5 : decode mX12_again.2.1 5 = .ok (.aload_n 0, 1) := by decide +kernel
theorem dX12_again_6 : decode mX12_again.2.1 6 = .ok (.iload_n 1, 1) := by decide +kernel
theorem dX12_again_7 : decode mX12_again.2.1 7 = .ok (.invokevirtual 325, 3) := by decide +kernel
theorem dX12_again_10 : decode mX12_again.2.1 10 = .ok (.ifCond .eq 14, 3) := by decide +kernel
theorem dX12_again_13 : decode mX12_again.2.1 13 = .ok (.aload_n 0, 1) := by decide +kernel
theorem dX12_again_14 : decode mX12_again.2.1 14 = .ok (.getfield 64, 3) := by decide +kernel
theorem dX12_again_17 : decode mX12_again.2.1 17 = .ok (.iload_n 1, 1) := by decide +kernel
theorem dX12_again_18 : decode mX12_again.2.1 18 = .ok (.invokestatic 346, 3) := by decide +kernel
theorem dX12_again_21 : decode mX12_again.2.1 21 = .ok (.ifCond .ne 5, 3) := by decide +kernel
theorem dX12_again_24 : decode mX12_again.2.1 24 = .ok (.iconst (-1), 1) := by decide +kernel
theorem dX12_again_25 : decode mX12_again.2.1 25 = .ok (.ireturn, 1) := by decide +kernel
theorem dX12_again_26 : decode mX12_again.2.1 26 = .ok (.aload_n 0, 1) := by decide +kernel
theorem dX12_again_27 : decode mX12_again.2.1 27 = .ok (.getfield 64, 3) := by decide +kernel
theorem dX12_again_30 : decode mX12_again.2.1 30 = .ok (.aload_n 0, 1) := by decide +kernel
theorem dX12_again_31 : decode mX12_again.2.1 31 = .ok (.getfield 67, 3) := by decide +kernel
theorem dX12_again_34 : decode mX12_again.2.1 34 = .ok (.invokestatic 434, 3) := by decide +kernel
theorem dX12_again_37 : decode mX12_again.2.1 37 = .ok (.bipush 30, 2) := by decide +kernel
theorem dX12_again_39 : decode mX12_again.2.1 39 = .ok (.iconst 4, 1) := by decide +kernel
theorem dX12_again_40 : decode mX12_again.2.1 40 = .ok (.iload_n 1, 1) := by decide +kernel
theorem dX12_again_41 : decode mX12_again.2.1 41 = .ok (.imul, 1) := by decide +kernel
theorem dX12_again_42 : decode mX12_again.2.1 42 = .ok (.iadd, 1) := by decide +kernel
theorem dX12_again_43 : decode mX12_again.2.1 43 = .ok (.istore_n 2, 1) := by decide +kernel
theorem dX12_again_44 : decode mX12_again.2.1 44 = .ok (.iconst 1, 1) := by decide +kernel
theorem dX12_again_45 : decode mX12_again.2.1 45 = .ok (.istore_n 3, 1) := by decide +kernel
theorem dX12_again_46 : decode mX12_again.2.1 46 = .ok (.iload_n 3, 1) := by decide +kernel
theorem dX12_again_47 : decode mX12_again.2.1 47 = .ok (.bipush 99, 2) := by decide +kernel
theorem dX12_again_49 : decode mX12_again.2.1 49 = .ok (.if_icmp .gt 66, 3) := by decide +kernel
theorem dX12_again_52 : decode mX12_again.2.1 52 = .ok (.aload_n 0, 1) := by decide +kernel
theorem dX12_again_53 : decode mX12_again.2.1 53 = .ok (.aload_n 0, 1) := by decide +kernel
theorem dX12_again_54 : decode mX12_again.2.1 54 = .ok (.getfield 67, 3) := by decide +kernel
theorem dX12_again_57 : decode mX12_again.2.1 57 = .ok (.invokevirtual 367, 3) := by decide +kernel
theorem dX12_again_60 : decode mX12_again.2.1 60 = .ok (.istore 4, 2) := by decide +kernel
theorem dX12_again_62 : decode mX12_again.2.1 62 = .ok (.aload_n 0, 1) := by decide +kernel
theorem dX12_again_63 : decode mX12_again.2.1 63 = .ok (.getfield 67, 3) := by decide +kernel
theorem dX12_again_66 : decode mX12_again.2.1 66 = .ok (.iload_n 1, 1) := by decide +kernel
theorem dX12_again_67 : decode mX12_again.2.1 67 = .ok (.invokestatic 346, 3) := by decide +kernel
theorem dX12_again_70 : decode mX12_again.2.1 70 = .ok (.ifCond .eq 39, 3) := by decide +kernel
theorem dX12_again_73 : decode mX12_again.2.1 73 = .ok (.aload_n 0, 1) := by decide +kernel
theorem dX12_again_74 : decode mX12_again.2.1 74 = .ok (.getfield 67, 3) := by decide +kernel
theorem dX12_again_77 : decode mX12_again.2.1 77 = .ok (.iload_n 2, 1) := by decide +kernel
theorem dX12_again_78 : decode mX12_again.2.1 78 = .ok (.iaload, 1) := by decide +kernel
theorem dX12_again_79 : decode mX12_again.2.1 79 = .ok (.aload_n 0, 1) := by decide +kernel
theorem dX12_again_80 : decode mX12_again.2.1 80 = .ok (.getfield 64, 3) := by decide +kernel
theorem dX12_again_83 : decode mX12_again.2.1 83 = .ok (.iload_n 2, 1) := by decide +kernel
theorem dX12_again_84 : decode mX12_again.2.1 84 = .ok (.iaload, 1) := by decide +kernel
theorem dX12_again_85 : decode mX12_again.2.1 85 = .ok (.if_icmp .ne 24, 3) := by decide +kernel
theorem dX12_again_88 : decode mX12_again.2.1 88 = .ok (.aload_n 0, 1) := by decide +kernel
theorem dX12_again_89 : decode mX12_again.2.1 89 = .ok (.getfield 67, 3) := by decide +kernel
theorem dX12_again_92 : decode mX12_again.2.1 92 = .ok (.iload_n 2, 1) := by decide +kernel
theorem dX12_again_93 : decode mX12_again.2.1 93 = .ok (.iconst 1, 1) := by decide +kernel
theorem dX12_again_94 : decode mX12_again.2.1 94 = .ok (.iadd, 1) := by decide +kernel
theorem dX12_again_95 : decode mX12_again.2.1 95 = .ok (.iaload, 1) := by decide +kernel
theorem dX12_again_96 : decode mX12_again.2.1 96 = .ok (.aload_n 0, 1) := by decide +kernel
theorem dX12_again_97 : decode mX12_again.2.1 97 = .ok (.getfield 64, 3) := by decide +kernel
theorem dX12_again_100 : decode mX12_again.2.1 100 = .ok (.iload_n 2, 1) := by decide +kernel
theorem dX12_again_101 : decode mX12_again.2.1 101 = .ok (.iconst 1, 1) := by decide +kernel
theorem dX12_again_102 : decode mX12_again.2.1 102 = .ok (.iadd, 1) := by decide +kernel
theorem dX12_again_103 : decode mX12_again.2.1 103 = .ok (.iaload, 1) := by decide +kernel
theorem dX12_again_104 : decode mX12_again.2.1 104 = .ok (.if_icmp .ne 5, 3) := by decide +kernel
theorem dX12_again_107 : decode mX12_again.2.1 107 = .ok (.iload_n 3, 1) := by decide +kernel
theorem dX12_again_108 : decode mX12_again.2.1 108 = .ok (.ireturn, 1) := by decide +kernel
theorem dX12_again_109 : decode mX12_again.2.1 109 = .ok (.iinc 3 1, 3) := by decide +kernel
theorem dX12_again_112 : decode mX12_again.2.1 112 = .ok (.goto (-66), 3) := by decide +kernel
theorem dX12_again_115 : decode mX12_again.2.1 115 = .ok (.iconst (-1), 1) := by decide +kernel
theorem dX12_again_116 : decode mX12_again.2.1 116 = .ok (.ireturn, 1) := by decide +kernel
abbrev mX12_ahead : gz_M := (yX12_ahead, cX12_ahead, 2, some .int)
theorem dX12_ahead_0 : decode mX12_ahead.2.1 0 = .ok (.aload_n 0, 1) := by decide +kernel
theorem dX12_ahead_1 : decode mX12_ahead.2.1 1 = .ok (.iconst 0, 1) := by decide +kernel
theorem dX12_ahead_2 : decode mX12_ahead.2.1 2 = .ok (.putfield 104, 3) := by decide +kernel
theorem dX12_ahead_5 : decode mX12_ahead.2.1 5 = .ok (.aload_n 0, 1) := by decide +kernel
theorem dX12_ahead_6 : decode mX12_ahead.2.1 6 = .ok (.iload_n 1, 1) := by decide +kernel
theorem dX12_ahead_7 : decode mX12_ahead.2.1 7 = .ok (.invokevirtual 325, 3) := by decide +kernel
theorem dX12_ahead_10 : decode mX12_ahead.2.1 10 = .ok (.ifCond .eq 36, 3) := by decide +kernel
theorem dX12_ahead_13 : decode mX12_ahead.2.1 13 = .ok (.aload_n 0, 1) := by decide +kernel
theorem dX12_ahead_14 : decode mX12_ahead.2.1 14 = .ok (.getfield 64, 3) := by decide +kernel
theorem dX12_ahead_17 : decode mX12_ahead.2.1 17 = .ok (.iload_n 1, 1) := by decide +kernel
theorem dX12_ahead_18 : decode mX12_ahead.2.1 18 = .ok (.invokestatic 346, 3) := by decide +kernel
theorem dX12_ahead_21 : decode mX12_ahead.2.1 21 = .ok (.ifCond .eq 25, 3) := by decide +kernel
theorem dX12_ahead_24 : decode mX12_ahead.2.1 24 = .ok (.aload_n 0, 1) := by decide +kernel
theorem dX12_ahead_25 : decode mX12_ahead.2.1 25 = .ok (.aload_n 0, 1) := by decide +kernel
theorem dX12_ahead_26 : decode mX12_ahead.2.1 26 = .ok (.getfield 64, 3) := by decide +kernel
theorem dX12_ahead_29 : decode mX12_ahead.2.1 29 = .ok (.aload_n 0, 1) := by decide +kernel
theorem dX12_ahead_30 : decode mX12_ahead.2.1 30 = .ok (.getfield 64, 3) := by decide +kernel
theorem dX12_ahead_33 : decode mX12_ahead.2.1 33 = .ok (.bipush 30, 2) := by decide +kernel
theorem dX12_ahead_35 : decode mX12_ahead.2.1 35 = .ok (.iconst 4, 1) := by decide +kernel
theorem dX12_ahead_36 : decode mX12_ahead.2.1 36 = .ok (.iload_n 1, 1) := by decide +kernel
theorem dX12_ahead_37 : decode mX12_ahead.2.1 37 = .ok (.imul, 1) := by decide +kernel
theorem dX12_ahead_38 : decode mX12_ahead.2.1 38 = .ok (.iadd, 1) := by decide +kernel
theorem dX12_ahead_39 : decode mX12_ahead.2.1 39 = .ok (.iaload, 1) := by decide +kernel
theorem dX12_ahead_40 : decode mX12_ahead.2.1 40 = .ok (.invokevirtual 331, 3) := by decide +kernel
theorem dX12_ahead_43 : decode mX12_ahead.2.1 43 = .ok (.ifCond .eq 5, 3) := by decide +kernel
theorem dX12_ahead_46 : decode mX12_ahead.2.1 46 = .ok (.iconst (-1), 1) := by decide +kernel
theorem dX12_ahead_47 : decode mX12_ahead.2.1 47 = .ok (.ireturn, 1) := by decide +kernel
theorem dX12_ahead_48 : decode mX12_ahead.2.1 48 = .ok (.aload_n 0, 1) := by decide +kernel
theorem dX12_ahead_49 : decode mX12_ahead.2.1 49 = .ok (.getfield 64, 3) := by decide +kernel
theorem dX12_ahead_52 : decode mX12_ahead.2.1 52 = .ok (.aload_n 0, 1) := by decide +kernel
theorem dX12_ahead_53 : decode mX12_ahead.2.1 53 = .ok (.getfield 67, 3) := by decide +kernel
theorem dX12_ahead_56 : decode mX12_ahead.2.1 56 = .ok (.invokestatic 434, 3) := by decide +kernel
theorem dX12_ahead_59 : decode mX12_ahead.2.1 59 = .ok (.aload_n 0, 1) := by decide +kernel
theorem dX12_ahead_60 : decode mX12_ahead.2.1 60 = .ok (.aload_n 0, 1) := by decide +kernel
theorem dX12_ahead_61 : decode mX12_ahead.2.1 61 = .ok (.getfield 67, 3) := by decide +kernel
theorem dX12_ahead_64 : decode mX12_ahead.2.1 64 = .ok (.iload_n 1, 1) := by decide +kernel
theorem dX12_ahead_65 : decode mX12_ahead.2.1 65 = .ok (.aload_n 0, 1) := by decide +kernel
theorem dX12_ahead_66 : decode mX12_ahead.2.1 66 = .ok (.iload_n 1, 1) := by decide +kernel
theorem dX12_ahead_67 : decode mX12_ahead.2.1 67 = .ok (.invokevirtual 359, 3) := by decide +kernel
theorem dX12_ahead_70 : decode mX12_ahead.2.1 70 = .ok (.invokevirtual 349, 3) := by decide +kernel
theorem dX12_ahead_73 : decode mX12_ahead.2.1 73 = .ok (.aload_n 0, 1) := by decide +kernel
theorem dX12_ahead_74 : decode mX12_ahead.2.1 74 = .ok (.getfield 67, 3) := by decide +kernel
theorem dX12_ahead_77 : decode mX12_ahead.2.1 77 = .ok (.bipush 30, 2) := by decide +kernel
theorem dX12_ahead_79 : decode mX12_ahead.2.1 79 = .ok (.iconst 4, 1) := by decide +kernel
theorem dX12_ahead_80 : decode mX12_ahead.2.1 80 = .ok (.iload_n 1, 1) := by decide +kernel
theorem dX12_ahead_81 : decode mX12_ahead.2.1 81 = .ok (.imul, 1) := by decide +kernel
theorem dX12_ahead_82 : decode mX12_ahead.2.1 82 = .ok (.iadd, 1) := by decide +kernel
theorem dX12_ahead_83 : decode mX12_ahead.2.1 83 = .ok (.iaload, 1) := by decide +kernel
theorem dX12_ahead_84 : decode mX12_ahead.2.1 84 = .ok (.ireturn, 1) := by decide +kernel
abbrev mX12_aheadOf : gz_M := (yX12_aheadOf, cX12_aheadOf, 5, some .int)
theorem dX12_aheadOf_0 : decode mX12_aheadOf.2.1 0 = .ok (.aload_n 0, 1) := by decide +kernel
theorem dX12_aheadOf_1 : decode mX12_aheadOf.2.1 1 = .ok (.iload_n 2, 1) := by decide +kernel
theorem dX12_aheadOf_2 : decode mX12_aheadOf.2.1 2 = .ok (.iload_n 3, 1) := by decide +kernel
theorem dX12_aheadOf_3 : decode mX12_aheadOf.2.1 3 = .ok (.invokevirtual 328, 3) := by decide +kernel
theorem dX12_aheadOf_6 : decode mX12_aheadOf.2.1 6 = .ok (.istore 4, 2) := by decide +kernel
theorem dX12_aheadOf_8 : decode mX12_aheadOf.2.1 8 = .ok (.iload 4, 2) := by decide +kernel
theorem dX12_aheadOf_10 : decode mX12_aheadOf.2.1 10 = .ok (.iconst (-1), 1) := by decide +kernel
theorem dX12_aheadOf_11 : decode mX12_aheadOf.2.1 11 = .ok (.if_icmp .eq 11, 3) := by decide +kernel
theorem dX12_aheadOf_14 : decode mX12_aheadOf.2.1 14 = .ok (.aload_n 1, 1) := by decide +kernel
theorem dX12_aheadOf_15 : decode mX12_aheadOf.2.1 15 = .ok (.iload 4, 2) := by decide +kernel
theorem dX12_aheadOf_17 : decode mX12_aheadOf.2.1 17 = .ok (.iaload, 1) := by decide +kernel
theorem dX12_aheadOf_18 : decode mX12_aheadOf.2.1 18 = .ok (.iconst 1, 1) := by decide +kernel
theorem dX12_aheadOf_19 : decode mX12_aheadOf.2.1 19 = .ok (.if_icmp .ne 5, 3) := by decide +kernel
theorem dX12_aheadOf_22 : decode mX12_aheadOf.2.1 22 = .ok (.iconst 1, 1) := by decide +kernel
theorem dX12_aheadOf_23 : decode mX12_aheadOf.2.1 23 = .ok (.ireturn, 1) := by decide +kernel
theorem dX12_aheadOf_24 : decode mX12_aheadOf.2.1 24 = .ok (.aload_n 0, 1) := by decide +kernel
theorem dX12_aheadOf_25 : decode mX12_aheadOf.2.1 25 = .ok (.aload_n 1, 1) := by decide +kernel
theorem dX12_aheadOf_26 : decode mX12_aheadOf.2.1 26 = .ok (.iload 4, 2) := by decide +kernel
theorem dX12_aheadOf_28 : decode mX12_aheadOf.2.1 28 = .ok (.invokevirtual 331, 3) := by decide +kernel
theorem dX12_aheadOf_31 : decode mX12_aheadOf.2.1 31 = .ok (.ifCond .eq 7, 3) := by decide +kernel
theorem dX12_aheadOf_34 : decode mX12_aheadOf.2.1 34 = .ok (.iconst 2, 1) := by decide +kernel
theorem dX12_aheadOf_35 : decode mX12_aheadOf.2.1 35 = .ok (.goto 16, 3) := by decide +kernel
theorem dX12_aheadOf_38 : decode mX12_aheadOf.2.1 38 = .ok (.aload_n 1, 1) := by decide +kernel
theorem dX12_aheadOf_39 : decode mX12_aheadOf.2.1 39 = .ok (.iload 4, 2) := by decide +kernel
theorem dX12_aheadOf_41 : decode mX12_aheadOf.2.1 41 = .ok (.iaload, 1) := by decide +kernel
theorem dX12_aheadOf_42 : decode mX12_aheadOf.2.1 42 = .ok (.iconst 3, 1) := by decide +kernel
theorem dX12_aheadOf_43 : decode mX12_aheadOf.2.1 43 = .ok (.if_icmp .ne 7, 3) := by decide +kernel
theorem dX12_aheadOf_46 : decode mX12_aheadOf.2.1 46 = .ok (.iconst 3, 1) := by decide +kernel
theorem dX12_aheadOf_47 : decode mX12_aheadOf.2.1 47 = .ok (.goto 4, 3) := by decide +kernel
theorem dX12_aheadOf_50 : decode mX12_aheadOf.2.1 50 = .ok (.iconst 0, 1) := by decide +kernel
theorem dX12_aheadOf_51 : decode mX12_aheadOf.2.1 51 = .ok (.ireturn, 1) := by decide +kernel
abbrev mX12_all : gz_M := (yX12_all, cX12_all, 2, some .int)
theorem dX12_all_0 : decode mX12_all.2.1 0 = .ok (.aload_n 0, 1) := by decide +kernel
theorem dX12_all_1 : decode mX12_all.2.1 1 = .ok (.iconst 0, 1) := by decide +kernel
theorem dX12_all_2 : decode mX12_all.2.1 2 = .ok (.putfield 104, 3) := by decide +kernel
theorem dX12_all_5 : decode mX12_all.2.1 5 = .ok (.aload_n 0, 1) := by decide +kernel
theorem dX12_all_6 : decode mX12_all.2.1 6 = .ok (.getfield 303, 3) := by decide +kernel
theorem dX12_all_9 : decode mX12_all.2.1 9 = .ok (.ifCond .ne 5, 3) := by decide +kernel
theorem dX12_all_12 : decode mX12_all.2.1 12 = .ok (.iconst (-1), 1) := by decide +kernel
theorem dX12_all_13 : decode mX12_all.2.1 13 = .ok (.ireturn, 1) := by decide +kernel
theorem dX12_all_14 : decode mX12_all.2.1 14 = .ok (.iload_n 1, 1) := by decide +kernel
theorem dX12_all_15 : decode mX12_all.2.1 15 = .ok (.tableswitch 94 0 9 #[53, 53, 59, 59, 59, 67, 73, 79, 84, 89], 53) := by decide +kernel
theorem dX12_all_68 : decode mX12_all.2.1 68 = .ok (.aload_n 0, 1) := by decide +kernel
theorem dX12_all_69 : decode mX12_all.2.1 69 = .ok (.iload_n 1, 1) := by decide +kernel
theorem dX12_all_70 : decode mX12_all.2.1 70 = .ok (.invokevirtual 502, 3) := by decide +kernel
theorem dX12_all_73 : decode mX12_all.2.1 73 = .ok (.ireturn, 1) := by decide +kernel
theorem dX12_all_74 : decode mX12_all.2.1 74 = .ok (.aload_n 0, 1) := by decide +kernel
theorem dX12_all_75 : decode mX12_all.2.1 75 = .ok (.iload_n 1, 1) := by decide +kernel
theorem dX12_all_76 : decode mX12_all.2.1 76 = .ok (.iconst 2, 1) := by decide +kernel
theorem dX12_all_77 : decode mX12_all.2.1 77 = .ok (.isub, 1) := by decide +kernel
theorem dX12_all_78 : decode mX12_all.2.1 78 = .ok (.invokevirtual 505, 3) := by decide +kernel
theorem dX12_all_81 : decode mX12_all.2.1 81 = .ok (.ireturn, 1) := by decide +kernel
theorem dX12_all_82 : decode mX12_all.2.1 82 = .ok (.aload_n 0, 1) := by decide +kernel
theorem dX12_all_83 : decode mX12_all.2.1 83 = .ok (.iconst 0, 1) := by decide +kernel
theorem dX12_all_84 : decode mX12_all.2.1 84 = .ok (.invokevirtual 508, 3) := by decide +kernel
theorem dX12_all_87 : decode mX12_all.2.1 87 = .ok (.ireturn, 1) := by decide +kernel
theorem dX12_all_88 : decode mX12_all.2.1 88 = .ok (.aload_n 0, 1) := by decide +kernel
theorem dX12_all_89 : decode mX12_all.2.1 89 = .ok (.iconst 1, 1) := by decide +kernel
theorem dX12_all_90 : decode mX12_all.2.1 90 = .ok (.invokevirtual 508, 3) := by decide +kernel
theorem dX12_all_93 : decode mX12_all.2.1 93 = .ok (.ireturn, 1) := by decide +kernel
theorem dX12_all_94 : decode mX12_all.2.1 94 = .ok (.aload_n 0, 1) := by decide +kernel
theorem dX12_all_95 : decode mX12_all.2.1 95 = .ok (.invokevirtual 512, 3) := by decide +kernel
theorem dX12_all_98 : decode mX12_all.2.1 98 = .ok (.ireturn, 1) := by decide +kernel
theorem dX12_all_99 : decode mX12_all.2.1 99 = .ok (.aload_n 0, 1) := by decide +kernel
theorem dX12_all_100 : decode mX12_all.2.1 100 = .ok (.invokevirtual 515, 3) := by decide +kernel
theorem dX12_all_103 : decode mX12_all.2.1 103 = .ok (.ireturn, 1) := by decide +kernel
theorem dX12_all_104 : decode mX12_all.2.1 104 = .ok (.aload_n 0, 1) := by decide +kernel
theorem dX12_all_105 : decode mX12_all.2.1 105 = .ok (.invokevirtual 518, 3) := by decide +kernel
theorem dX12_all_108 : decode mX12_all.2.1 108 = .ok (.ireturn, 1) := by decide +kernel
theorem dX12_all_109 : decode mX12_all.2.1 109 = .ok (.iconst (-1), 1) := by decide +kernel
theorem dX12_all_110 : decode mX12_all.2.1 110 = .ok (.ireturn, 1) := by decide +kernel
abbrev mX12_anew : gz_M := (yX12_anew, cX12_anew, 3, some .int)
theorem dX12_anew_0 : decode mX12_anew.2.1 0 = .ok (.aload_n 0, 1) := by decide +kernel
theorem dX12_anew_1 : decode mX12_anew.2.1 1 = .ok (.iconst 0, 1) := by decide +kernel
theorem dX12_anew_2 : decode mX12_anew.2.1 2 = .ok (.putfield 104, 3) := by decide +kernel
theorem dX12_anew_5 : decode mX12_anew.2.1 5 = .ok (.aload_n 0, 1) := by decide +kernel
theorem dX12_anew_6 : decode mX12_anew.2.1 6 = .ok (.aload_n 0, 1) := by decide +kernel
theorem dX12_anew_7 : decode mX12_anew.2.1 7 = .ok (.getfield 64, 3) := by decide +kernel
theorem dX12_anew_10 : decode mX12_anew.2.1 10 = .ok (.iload_n 1, 1) := by decide +kernel
theorem dX12_anew_11 : decode mX12_anew.2.1 11 = .ok (.iload_n 2, 1) := by decide +kernel
theorem dX12_anew_12 : decode mX12_anew.2.1 12 = .ok (.invokevirtual 408, 3) := by decide +kernel
theorem dX12_anew_15 : decode mX12_anew.2.1 15 = .ok (.ifCond .eq 14, 3) := by decide +kernel
theorem dX12_anew_18 : decode mX12_anew.2.1 18 = .ok (.aload_n 0, 1) := by decide +kernel
theorem dX12_anew_19 : decode mX12_anew.2.1 19 = .ok (.getfield 64, 3) := by decide +kernel
theorem dX12_anew_22 : decode mX12_anew.2.1 22 = .ok (.bipush 48, 2) := by decide +kernel
theorem dX12_anew_24 : decode mX12_anew.2.1 24 = .ok (.iaload, 1) := by decide +kernel
theorem dX12_anew_25 : decode mX12_anew.2.1 25 = .ok (.iconst 3, 1) := by decide +kernel
theorem dX12_anew_26 : decode mX12_anew.2.1 26 = .ok (.if_icmp .ge 5, 3) := by decide +kernel
theorem dX12_anew_29 : decode mX12_anew.2.1 29 = .ok (.iconst (-1), 1) := by decide +kernel
theorem dX12_anew_30 : decode mX12_anew.2.1 30 = .ok (.ireturn, 1) := by decide +kernel
theorem dX12_anew_31 : decode mX12_anew.2.1 31 = .ok (.aload_n 0, 1) := by decide +kernel
theorem dX12_anew_32 : decode mX12_anew.2.1 32 = .ok (.invokevirtual 380, 3) := by decide +kernel
theorem dX12_anew_35 : decode mX12_anew.2.1 35 = .ok (.aload_n 0, 1) := by decide +kernel
theorem dX12_anew_36 : decode mX12_anew.2.1 36 = .ok (.getfield 64, 3) := by decide +kernel
theorem dX12_anew_39 : decode mX12_anew.2.1 39 = .ok (.bipush 48, 2) := by decide +kernel
theorem dX12_anew_41 : decode mX12_anew.2.1 41 = .ok (.dup2, 1) := by decide +kernel
theorem dX12_anew_42 : decode mX12_anew.2.1 42 = .ok (.iaload, 1) := by decide +kernel
theorem dX12_anew_43 : decode mX12_anew.2.1 43 = .ok (.iconst 3, 1) := by decide +kernel
theorem dX12_anew_44 : decode mX12_anew.2.1 44 = .ok (.isub, 1) := by decide +kernel
theorem dX12_anew_45 : decode mX12_anew.2.1 45 = .ok (.iastore, 1) := by decide +kernel
theorem dX12_anew_46 : decode mX12_anew.2.1 46 = .ok (.aload_n 0, 1) := by decide +kernel
theorem dX12_anew_47 : decode mX12_anew.2.1 47 = .ok (.aload_n 0, 1) := by decide +kernel
theorem dX12_anew_48 : decode mX12_anew.2.1 48 = .ok (.getfield 64, 3) := by decide +kernel
theorem dX12_anew_51 : decode mX12_anew.2.1 51 = .ok (.iload_n 1, 1) := by decide +kernel
theorem dX12_anew_52 : decode mX12_anew.2.1 52 = .ok (.iload_n 2, 1) := by decide +kernel
theorem dX12_anew_53 : decode mX12_anew.2.1 53 = .ok (.invokevirtual 412, 3) := by decide +kernel
theorem dX12_anew_56 : decode mX12_anew.2.1 56 = .ok (.aload_n 0, 1) := by decide +kernel
theorem dX12_anew_57 : decode mX12_anew.2.1 57 = .ok (.iload_n 1, 1) := by decide +kernel
theorem dX12_anew_58 : decode mX12_anew.2.1 58 = .ok (.invokevirtual 322, 3) := by decide +kernel
theorem dX12_anew_61 : decode mX12_anew.2.1 61 = .ok (.ireturn, 1) := by decide +kernel
abbrev mX12_areTwo : gz_M := (yX12_areTwo, cX12_areTwo, 3, some .boolean)
theorem dX12_areTwo_0 : decode mX12_areTwo.2.1 0 = .ok (.aload_n 0, 1) := by decide +kernel
theorem dX12_areTwo_1 : decode mX12_areTwo.2.1 1 = .ok (.iload_n 1, 1) := by decide +kernel
theorem dX12_areTwo_2 : decode mX12_areTwo.2.1 2 = .ok (.invokevirtual 325, 3) := by decide +kernel
theorem dX12_areTwo_5 : decode mX12_areTwo.2.1 5 = .ok (.ifCond .eq 20, 3) := by decide +kernel
theorem dX12_areTwo_8 : decode mX12_areTwo.2.1 8 = .ok (.aload_n 0, 1) := by decide +kernel
theorem dX12_areTwo_9 : decode mX12_areTwo.2.1 9 = .ok (.iload_n 2, 1) := by decide +kernel
theorem dX12_areTwo_10 : decode mX12_areTwo.2.1 10 = .ok (.invokevirtual 325, 3) := by decide +kernel
theorem dX12_areTwo_13 : decode mX12_areTwo.2.1 13 = .ok (.ifCond .eq 12, 3) := by decide +kernel
theorem dX12_areTwo_16 : decode mX12_areTwo.2.1 16 = .ok (.iload_n 1, 1) := by decide +kernel
theorem dX12_areTwo_17 : decode mX12_areTwo.2.1 17 = .ok (.iload_n 2, 1) := by decide +kernel
theorem dX12_areTwo_18 : decode mX12_areTwo.2.1 18 = .ok (.if_icmp .eq 7, 3) := by decide +kernel
theorem dX12_areTwo_21 : decode mX12_areTwo.2.1 21 = .ok (.iconst 1, 1) := by decide +kernel
theorem dX12_areTwo_22 : decode mX12_areTwo.2.1 22 = .ok (.goto 4, 3) := by decide +kernel
theorem dX12_areTwo_25 : decode mX12_areTwo.2.1 25 = .ok (.iconst 0, 1) := by decide +kernel
theorem dX12_areTwo_26 : decode mX12_areTwo.2.1 26 = .ok (.ireturn, 1) := by decide +kernel
abbrev mX12_ask : gz_M := (yX12_ask, cX12_ask, 7, some .int)
theorem dX12_ask_0 : decode mX12_ask.2.1 0 = .ok (.aload_n 0, 1) := by decide +kernel
theorem dX12_ask_1 : decode mX12_ask.2.1 1 = .ok (.iconst 0, 1) := by decide +kernel
theorem dX12_ask_2 : decode mX12_ask.2.1 2 = .ok (.putfield 104, 3) := by decide +kernel
theorem dX12_ask_5 : decode mX12_ask.2.1 5 = .ok (.aload_n 0, 1) := by decide +kernel
theorem dX12_ask_6 : decode mX12_ask.2.1 6 = .ok (.iload_n 1, 1) := by decide +kernel
theorem dX12_ask_7 : decode mX12_ask.2.1 7 = .ok (.invokevirtual 325, 3) := by decide +kernel
theorem dX12_ask_10 : decode mX12_ask.2.1 10 = .ok (.ifCond .ne 5, 3) := by decide +kernel
theorem dX12_ask_13 : decode mX12_ask.2.1 13 = .ok (.iconst (-1), 1) := by decide +kernel
theorem dX12_ask_14 : decode mX12_ask.2.1 14 = .ok (.ireturn, 1) := by decide +kernel
theorem dX12_ask_15 : decode mX12_ask.2.1 15 = .ok (.aload_n 0, 1) := by decide +kernel
theorem dX12_ask_16 : decode mX12_ask.2.1 16 = .ok (.iload_n 1, 1) := by decide +kernel
theorem dX12_ask_17 : decode mX12_ask.2.1 17 = .ok (.invokevirtual 476, 3) := by decide +kernel
theorem dX12_ask_20 : decode mX12_ask.2.1 20 = .ok (.iconst (-1), 1) := by decide +kernel
theorem dX12_ask_21 : decode mX12_ask.2.1 21 = .ok (.istore_n 2, 1) := by decide +kernel
theorem dX12_ask_22 : decode mX12_ask.2.1 22 = .ok (.iconst 0, 1) := by decide +kernel
theorem dX12_ask_23 : decode mX12_ask.2.1 23 = .ok (.istore_n 3, 1) := by decide +kernel
theorem dX12_ask_24 : decode mX12_ask.2.1 24 = .ok (.iconst 1, 1) := by decide +kernel
theorem dX12_ask_25 : decode mX12_ask.2.1 25 = .ok (.istore 4, 2) := by decide +kernel
theorem dX12_ask_27 : decode mX12_ask.2.1 27 = .ok (.iload 4, 2) := by decide +kernel
theorem dX12_ask_29 : decode mX12_ask.2.1 29 = .ok (.bipush 30, 2) := by decide +kernel
theorem dX12_ask_31 : decode mX12_ask.2.1 31 = .ok (.if_icmp .gt 141, 3) := by decide +kernel
theorem dX12_ask_34 : decode mX12_ask.2.1 34 = .ok (.iconst 0, 1) := by decide +kernel
theorem dX12_ask_35 : decode mX12_ask.2.1 35 = .ok (.istore 5, 2) := by decide +kernel
theorem dX12_ask_37 : decode mX12_ask.2.1 37 = .ok (.iload 5, 2) := by decide +kernel
theorem dX12_ask_39 : decode mX12_ask.2.1 39 = .ok (.bipush 30, 2) := by decide +kernel
theorem dX12_ask_41 : decode mX12_ask.2.1 41 = .ok (.if_icmp .ge 17, 3) := by decide +kernel
theorem dX12_ask_44 : decode mX12_ask.2.1 44 = .ok (.aload_n 0, 1) := by decide +kernel
theorem dX12_ask_45 : decode mX12_ask.2.1 45 = .ok (.getfield 95, 3) := by decide +kernel
theorem dX12_ask_48 : decode mX12_ask.2.1 48 = .ok (.iload 5, 2) := by decide +kernel
theorem dX12_ask_50 : decode mX12_ask.2.1 50 = .ok (.iconst 0, 1) := by decide +kernel
theorem dX12_ask_51 : decode mX12_ask.2.1 51 = .ok (.iastore, 1) := by decide +kernel
theorem dX12_ask_52 : decode mX12_ask.2.1 52 = .ok (.iinc 5 1, 3) := by decide +kernel
theorem dX12_ask_55 : decode mX12_ask.2.1 55 = .ok (.goto (-18), 3) := by decide +kernel
theorem dX12_ask_58 : decode mX12_ask.2.1 58 = .ok (.iconst 0, 1) := by decide +kernel
theorem dX12_ask_59 : decode mX12_ask.2.1 59 = .ok (.istore 5, 2) := by decide +kernel
theorem dX12_ask_61 : decode mX12_ask.2.1 61 = .ok (.iload 5, 2) := by decide +kernel
theorem dX12_ask_63 : decode mX12_ask.2.1 63 = .ok (.bipush 16, 2) := by decide +kernel
theorem dX12_ask_65 : decode mX12_ask.2.1 65 = .ok (.if_icmp .ge 41, 3) := by decide +kernel
theorem dX12_ask_68 : decode mX12_ask.2.1 68 = .ok (.aload_n 0, 1) := by decide +kernel
theorem dX12_ask_69 : decode mX12_ask.2.1 69 = .ok (.iload_n 1, 1) := by decide +kernel
theorem dX12_ask_70 : decode mX12_ask.2.1 70 = .ok (.iload 5, 2) := by decide +kernel
theorem dX12_ask_72 : decode mX12_ask.2.1 72 = .ok (.invokevirtual 479, 3) := by decide +kernel
theorem dX12_ask_75 : decode mX12_ask.2.1 75 = .ok (.ifCond .eq 25, 3) := by decide +kernel
theorem dX12_ask_78 : decode mX12_ask.2.1 78 = .ok (.aload_n 0, 1) := by decide +kernel
theorem dX12_ask_79 : decode mX12_ask.2.1 79 = .ok (.getfield 95, 3) := by decide +kernel
theorem dX12_ask_82 : decode mX12_ask.2.1 82 = .ok (.aload_n 0, 1) := by decide +kernel
theorem dX12_ask_83 : decode mX12_ask.2.1 83 = .ok (.getfield 92, 3) := by decide +kernel
theorem dX12_ask_86 : decode mX12_ask.2.1 86 = .ok (.bipush 31, 2) := by decide +kernel
theorem dX12_ask_88 : decode mX12_ask.2.1 88 = .ok (.iload 5, 2) := by decide +kernel
theorem dX12_ask_90 : decode mX12_ask.2.1 90 = .ok (.imul, 1) := by decide +kernel
theorem dX12_ask_91 : decode mX12_ask.2.1 91 = .ok (.iload 4, 2) := by decide +kernel
theorem dX12_ask_93 : decode mX12_ask.2.1 93 = .ok (.iadd, 1) := by decide +kernel
theorem dX12_ask_94 : decode mX12_ask.2.1 94 = .ok (.iaload, 1) := by decide +kernel
theorem dX12_ask_95 : decode mX12_ask.2.1 95 = .ok (.dup2, 1) := by decide +kernel
theorem dX12_ask_96 : decode mX12_ask.2.1 96 = .ok (.iaload, 1) := by decide +kernel
theorem dX12_ask_97 : decode mX12_ask.2.1 97 = .ok (.iconst 1, 1) := by decide +kernel
theorem dX12_ask_98 : decode mX12_ask.2.1 98 = .ok (.iadd, 1) := by decide +kernel
theorem dX12_ask_99 : decode mX12_ask.2.1 99 = .ok (.iastore, 1) := by decide +kernel
theorem dX12_ask_100 : decode mX12_ask.2.1 100 = .ok (.iinc 5 1, 3) := by decide +kernel
theorem dX12_ask_103 : decode mX12_ask.2.1 103 = .ok (.goto (-42), 3) := by decide +kernel
theorem dX12_ask_106 : decode mX12_ask.2.1 106 = .ok (.iconst 0, 1) := by decide +kernel
theorem dX12_ask_107 : decode mX12_ask.2.1 107 = .ok (.istore 5, 2) := by decide +kernel
theorem dX12_ask_109 : decode mX12_ask.2.1 109 = .ok (.iconst 0, 1) := by decide +kernel
theorem dX12_ask_110 : decode mX12_ask.2.1 110 = .ok (.istore 6, 2) := by decide +kernel
theorem dX12_ask_112 : decode mX12_ask.2.1 112 = .ok (.iload 6, 2) := by decide +kernel
theorem dX12_ask_114 : decode mX12_ask.2.1 114 = .ok (.bipush 30, 2) := by decide +kernel
theorem dX12_ask_116 : decode mX12_ask.2.1 116 = .ok (.if_icmp .ge 23, 3) := by decide +kernel
theorem dX12_ask_119 : decode mX12_ask.2.1 119 = .ok (.iload 5, 2) := by decide +kernel
theorem dX12_ask_121 : decode mX12_ask.2.1 121 = .ok (.aload_n 0, 1) := by decide +kernel
theorem dX12_ask_122 : decode mX12_ask.2.1 122 = .ok (.getfield 95, 3) := by decide +kernel
theorem dX12_ask_125 : decode mX12_ask.2.1 125 = .ok (.iload 6, 2) := by decide +kernel
theorem dX12_ask_127 : decode mX12_ask.2.1 127 = .ok (.iaload, 1) := by decide +kernel
theorem dX12_ask_128 : decode mX12_ask.2.1 128 = .ok (.invokestatic 371, 3) := by decide +kernel
theorem dX12_ask_131 : decode mX12_ask.2.1 131 = .ok (.istore 5, 2) := by decide +kernel
theorem dX12_ask_133 : decode mX12_ask.2.1 133 = .ok (.iinc 6 1, 3) := by decide +kernel
theorem dX12_ask_136 : decode mX12_ask.2.1 136 = .ok (.goto (-24), 3) := by decide +kernel
theorem dX12_ask_139 : decode mX12_ask.2.1 139 = .ok (.iload 5, 2) := by decide +kernel
theorem dX12_ask_141 : decode mX12_ask.2.1 141 = .ok (.ifCond .ne 5, 3) := by decide +kernel
theorem dX12_ask_144 : decode mX12_ask.2.1 144 = .ok (.iconst (-1), 1) := by decide +kernel
theorem dX12_ask_145 : decode mX12_ask.2.1 145 = .ok (.ireturn, 1) := by decide +kernel
theorem dX12_ask_146 : decode mX12_ask.2.1 146 = .ok (.iload_n 2, 1) := by decide +kernel
theorem dX12_ask_147 : decode mX12_ask.2.1 147 = .ok (.iconst (-1), 1) := by decide +kernel
theorem dX12_ask_148 : decode mX12_ask.2.1 148 = .ok (.if_icmp .eq 12, 3) := by decide +kernel
theorem dX12_ask_151 : decode mX12_ask.2.1 151 = .ok (.iload 5, 2) := by decide +kernel
theorem dX12_ask_153 : decode mX12_ask.2.1 153 = .ok (.iload_n 3, 1) := by decide +kernel
theorem dX12_ask_154 : decode mX12_ask.2.1 154 = .ok (.if_icmp .lt 6, 3) := by decide +kernel
theorem dX12_ask_157 : decode mX12_ask.2.1 157 = .ok (.goto 9, 3) := by decide +kernel
theorem dX12_ask_160 : decode mX12_ask.2.1 160 = .ok (.iload 4, 2) := by decide +kernel
theorem dX12_ask_162 : decode mX12_ask.2.1 162 = .ok (.istore_n 2, 1) := by decide +kernel
theorem dX12_ask_163 : decode mX12_ask.2.1 163 = .ok (.iload 5, 2) := by decide +kernel
theorem dX12_ask_165 : decode mX12_ask.2.1 165 = .ok (.istore_n 3, 1) := by decide +kernel
theorem dX12_ask_166 : decode mX12_ask.2.1 166 = .ok (.iinc 4 1, 3) := by decide +kernel
theorem dX12_ask_169 : decode mX12_ask.2.1 169 = .ok (.goto (-142), 3) := by decide +kernel
theorem dX12_ask_172 : decode mX12_ask.2.1 172 = .ok (.iload_n 2, 1) := by decide +kernel
theorem dX12_ask_173 : decode mX12_ask.2.1 173 = .ok (.ireturn, 1) := by decide +kernel
abbrev mX12_atom : gz_M := (yX12_atom, cX12_atom, 4, some .int)
theorem dX12_atom_0 : decode mX12_atom.2.1 0 = .ok (.aload_n 0, 1) := by decide +kernel
theorem dX12_atom_1 : decode mX12_atom.2.1 1 = .ok (.invokevirtual 146, 3) := by decide +kernel
theorem dX12_atom_4 : decode mX12_atom.2.1 4 = .ok (.istore_n 1, 1) := by decide +kernel
theorem dX12_atom_5 : decode mX12_atom.2.1 5 = .ok (.ldc 32, 2) := by decide +kernel
theorem dX12_atom_7 : decode mX12_atom.2.1 7 = .ok (.iload_n 1, 1) := by decide +kernel
theorem dX12_atom_8 : decode mX12_atom.2.1 8 = .ok (.invokestatic 162, 3) := by decide +kernel
theorem dX12_atom_11 : decode mX12_atom.2.1 11 = .ok (.ifCond .eq 20, 3) := by decide +kernel
theorem dX12_atom_14 : decode mX12_atom.2.1 14 = .ok (.aload_n 0, 1) := by decide +kernel
theorem dX12_atom_15 : decode mX12_atom.2.1 15 = .ok (.dup, 1) := by decide +kernel
theorem dX12_atom_16 : decode mX12_atom.2.1 16 = .ok (.getfield 127, 3) := by decide +kernel
theorem dX12_atom_19 : decode mX12_atom.2.1 19 = .ok (.iconst 1, 1) := by decide +kernel
theorem dX12_atom_20 : decode mX12_atom.2.1 20 = .ok (.iadd, 1) := by decide +kernel
theorem dX12_atom_21 : decode mX12_atom.2.1 21 = .ok (.putfield 127, 3) := by decide +kernel
theorem dX12_atom_24 : decode mX12_atom.2.1 24 = .ok (.aload_n 0, 1) := by decide +kernel
theorem dX12_atom_25 : decode mX12_atom.2.1 25 = .ok (.getfield 20, 3) := by decide +kernel
theorem dX12_atom_28 : decode mX12_atom.2.1 28 = .ok (.iload_n 1, 1) := by decide +kernel
theorem dX12_atom_29 : decode mX12_atom.2.1 29 = .ok (.iaload, 1) := by decide +kernel
theorem dX12_atom_30 : decode mX12_atom.2.1 30 = .ok (.ireturn, 1) := by decide +kernel
theorem dX12_atom_31 : decode mX12_atom.2.1 31 = .ok (.iload_n 1, 1) := by decide +kernel
theorem dX12_atom_32 : decode mX12_atom.2.1 32 = .ok (.bipush 91, 2) := by decide +kernel
theorem dX12_atom_34 : decode mX12_atom.2.1 34 = .ok (.if_icmp .ne 40, 3) := by decide +kernel
theorem dX12_atom_37 : decode mX12_atom.2.1 37 = .ok (.aload_n 0, 1) := by decide +kernel
theorem dX12_atom_38 : decode mX12_atom.2.1 38 = .ok (.invokevirtual 166, 3) := by decide +kernel
theorem dX12_atom_41 : decode mX12_atom.2.1 41 = .ok (.ifCond .ne 5, 3) := by decide +kernel
theorem dX12_atom_44 : decode mX12_atom.2.1 44 = .ok (.iconst 0, 1) := by decide +kernel
theorem dX12_atom_45 : decode mX12_atom.2.1 45 = .ok (.ireturn, 1) := by decide +kernel
theorem dX12_atom_46 : decode mX12_atom.2.1 46 = .ok (.aload_n 0, 1) := by decide +kernel
theorem dX12_atom_47 : decode mX12_atom.2.1 47 = .ok (.invokevirtual 169, 3) := by decide +kernel
theorem dX12_atom_50 : decode mX12_atom.2.1 50 = .ok (.istore_n 2, 1) := by decide +kernel
theorem dX12_atom_51 : decode mX12_atom.2.1 51 = .ok (.aload_n 0, 1) := by decide +kernel
theorem dX12_atom_52 : decode mX12_atom.2.1 52 = .ok (.bipush 93, 2) := by decide +kernel
theorem dX12_atom_54 : decode mX12_atom.2.1 54 = .ok (.invokevirtual 172, 3) := by decide +kernel
theorem dX12_atom_57 : decode mX12_atom.2.1 57 = .ok (.ifCond .ne 5, 3) := by decide +kernel
theorem dX12_atom_60 : decode mX12_atom.2.1 60 = .ok (.iconst 0, 1) := by decide +kernel
theorem dX12_atom_61 : decode mX12_atom.2.1 61 = .ok (.ireturn, 1) := by decide +kernel
theorem dX12_atom_62 : decode mX12_atom.2.1 62 = .ok (.aload_n 0, 1) := by decide +kernel
theorem dX12_atom_63 : decode mX12_atom.2.1 63 = .ok (.dup, 1) := by decide +kernel
theorem dX12_atom_64 : decode mX12_atom.2.1 64 = .ok (.getfield 139, 3) := by decide +kernel
theorem dX12_atom_67 : decode mX12_atom.2.1 67 = .ok (.iconst 1, 1) := by decide +kernel
theorem dX12_atom_68 : decode mX12_atom.2.1 68 = .ok (.isub, 1) := by decide +kernel
theorem dX12_atom_69 : decode mX12_atom.2.1 69 = .ok (.putfield 139, 3) := by decide +kernel
theorem dX12_atom_72 : decode mX12_atom.2.1 72 = .ok (.iload_n 2, 1) := by decide +kernel
theorem dX12_atom_73 : decode mX12_atom.2.1 73 = .ok (.ireturn, 1) := by decide +kernel
theorem dX12_atom_74 : decode mX12_atom.2.1 74 = .ok (.aload_n 0, 1) := by decide +kernel
theorem dX12_atom_75 : decode mX12_atom.2.1 75 = .ok (.invokevirtual 176, 3) := by decide +kernel
theorem dX12_atom_78 : decode mX12_atom.2.1 78 = .ok (.ifCond .ne 8, 3) := by decide +kernel
theorem dX12_atom_81 : decode mX12_atom.2.1 81 = .ok (.aload_n 0, 1) := by decide +kernel
theorem dX12_atom_82 : decode mX12_atom.2.1 82 = .ok (.invokevirtual 142, 3) := by decide +kernel
theorem dX12_atom_85 : decode mX12_atom.2.1 85 = .ok (.pop, 1) := by decide +kernel
theorem dX12_atom_86 : decode mX12_atom.2.1 86 = .ok (.iconst 0, 1) := by decide +kernel
theorem dX12_atom_87 : decode mX12_atom.2.1 87 = .ok (.istore_n 2, 1) := by decide +kernel
theorem dX12_atom_88 : decode mX12_atom.2.1 88 = .ok (.iconst 0, 1) := by decide +kernel
theorem dX12_atom_89 : decode mX12_atom.2.1 89 = .ok (.istore_n 3, 1) := by decide +kernel
theorem dX12_atom_90 : decode mX12_atom.2.1 90 = .ok (.aload_n 0, 1) := by decide +kernel
theorem dX12_atom_91 : decode mX12_atom.2.1 91 = .ok (.invokevirtual 176, 3) := by decide +kernel
theorem dX12_atom_94 : decode mX12_atom.2.1 94 = .ok (.ifCond .eq 62, 3) := by decide +kernel
theorem dX12_atom_97 : decode mX12_atom.2.1 97 = .ok (.aload_n 0, 1) := by decide +kernel
theorem dX12_atom_98 : decode mX12_atom.2.1 98 = .ok (.getfield 136, 3) := by decide +kernel
theorem dX12_atom_101 : decode mX12_atom.2.1 101 = .ok (.iconst (-1), 1) := by decide +kernel
theorem dX12_atom_102 : decode mX12_atom.2.1 102 = .ok (.if_icmp .ne 54, 3) := by decide +kernel
theorem dX12_atom_105 : decode mX12_atom.2.1 105 = .ok (.iload_n 3, 1) := by decide +kernel
theorem dX12_atom_106 : decode mX12_atom.2.1 106 = .ok (.iconst 4, 1) := by decide +kernel
theorem dX12_atom_107 : decode mX12_atom.2.1 107 = .ok (.if_icmp .ne 10, 3) := by decide +kernel
theorem dX12_atom_110 : decode mX12_atom.2.1 110 = .ok (.aload_n 0, 1) := by decide +kernel
theorem dX12_atom_111 : decode mX12_atom.2.1 111 = .ok (.invokevirtual 142, 3) := by decide +kernel
theorem dX12_atom_114 : decode mX12_atom.2.1 114 = .ok (.pop, 1) := by decide +kernel
theorem dX12_atom_115 : decode mX12_atom.2.1 115 = .ok (.iconst 0, 1) := by decide +kernel
theorem dX12_atom_116 : decode mX12_atom.2.1 116 = .ok (.ireturn, 1) := by decide +kernel
theorem dX12_atom_117 : decode mX12_atom.2.1 117 = .ok (.bipush 10, 2) := by decide +kernel
theorem dX12_atom_119 : decode mX12_atom.2.1 119 = .ok (.iload_n 2, 1) := by decide +kernel
theorem dX12_atom_120 : decode mX12_atom.2.1 120 = .ok (.imul, 1) := by decide +kernel
theorem dX12_atom_121 : decode mX12_atom.2.1 121 = .ok (.aload_n 0, 1) := by decide +kernel
theorem dX12_atom_122 : decode mX12_atom.2.1 122 = .ok (.getfield 23, 3) := by decide +kernel
theorem dX12_atom_125 : decode mX12_atom.2.1 125 = .ok (.aload_n 0, 1) := by decide +kernel
theorem dX12_atom_126 : decode mX12_atom.2.1 126 = .ok (.getfield 133, 3) := by decide +kernel
theorem dX12_atom_129 : decode mX12_atom.2.1 129 = .ok (.aload_n 0, 1) := by decide +kernel
theorem dX12_atom_130 : decode mX12_atom.2.1 130 = .ok (.getfield 127, 3) := by decide +kernel
theorem dX12_atom_133 : decode mX12_atom.2.1 133 = .ok (.iadd, 1) := by decide +kernel
theorem dX12_atom_134 : decode mX12_atom.2.1 134 = .ok (.baload, 1) := by decide +kernel
theorem dX12_atom_135 : decode mX12_atom.2.1 135 = .ok (.iadd, 1) := by decide +kernel
theorem dX12_atom_136 : decode mX12_atom.2.1 136 = .ok (.bipush 48, 2) := by decide +kernel
theorem dX12_atom_138 : decode mX12_atom.2.1 138 = .ok (.isub, 1) := by decide +kernel
theorem dX12_atom_139 : decode mX12_atom.2.1 139 = .ok (.istore_n 2, 1) := by decide +kernel
theorem dX12_atom_140 : decode mX12_atom.2.1 140 = .ok (.aload_n 0, 1) := by decide +kernel
theorem dX12_atom_141 : decode mX12_atom.2.1 141 = .ok (.dup, 1) := by decide +kernel
theorem dX12_atom_142 : decode mX12_atom.2.1 142 = .ok (.getfield 127, 3) := by decide +kernel
theorem dX12_atom_145 : decode mX12_atom.2.1 145 = .ok (.iconst 1, 1) := by decide +kernel
theorem dX12_atom_146 : decode mX12_atom.2.1 146 = .ok (.iadd, 1) := by decide +kernel
theorem dX12_atom_147 : decode mX12_atom.2.1 147 = .ok (.putfield 127, 3) := by decide +kernel
theorem dX12_atom_150 : decode mX12_atom.2.1 150 = .ok (.iinc 3 1, 3) := by decide +kernel
theorem dX12_atom_153 : decode mX12_atom.2.1 153 = .ok (.goto (-63), 3) := by decide +kernel
theorem dX12_atom_156 : decode mX12_atom.2.1 156 = .ok (.iload_n 2, 1) := by decide +kernel
theorem dX12_atom_157 : decode mX12_atom.2.1 157 = .ok (.ireturn, 1) := by decide +kernel
abbrev mX12_back : gz_M := (yX12_back, cX12_back, 2, some .int)
theorem dX12_back_0 : decode mX12_back.2.1 0 = .ok (.aload_n 0, 1) := by decide +kernel
theorem dX12_back_1 : decode mX12_back.2.1 1 = .ok (.iconst 0, 1) := by decide +kernel
theorem dX12_back_2 : decode mX12_back.2.1 2 = .ok (.putfield 104, 3) := by decide +kernel
theorem dX12_back_5 : decode mX12_back.2.1 5 = .ok (.aload_n 0, 1) := by decide +kernel
theorem dX12_back_6 : decode mX12_back.2.1 6 = .ok (.getfield 316, 3) := by decide +kernel
theorem dX12_back_9 : decode mX12_back.2.1 9 = .ok (.ifCond .ne 5, 3) := by decide +kernel
theorem dX12_back_12 : decode mX12_back.2.1 12 = .ok (.iconst (-1), 1) := by decide +kernel
theorem dX12_back_13 : decode mX12_back.2.1 13 = .ok (.ireturn, 1) := by decide +kernel
theorem dX12_back_14 : decode mX12_back.2.1 14 = .ok (.iconst 0, 1) := by decide +kernel
theorem dX12_back_15 : decode mX12_back.2.1 15 = .ok (.istore_n 1, 1) := by decide +kernel
theorem dX12_back_16 : decode mX12_back.2.1 16 = .ok (.iload_n 1, 1) := by decide +kernel
theorem dX12_back_17 : decode mX12_back.2.1 17 = .ok (.sipush 231, 3) := by decide +kernel
theorem dX12_back_20 : decode mX12_back.2.1 20 = .ok (.if_icmp .ge 21, 3) := by decide +kernel
theorem dX12_back_23 : decode mX12_back.2.1 23 = .ok (.aload_n 0, 1) := by decide +kernel
theorem dX12_back_24 : decode mX12_back.2.1 24 = .ok (.getfield 64, 3) := by decide +kernel
theorem dX12_back_27 : decode mX12_back.2.1 27 = .ok (.iload_n 1, 1) := by decide +kernel
theorem dX12_back_28 : decode mX12_back.2.1 28 = .ok (.aload_n 0, 1) := by decide +kernel
theorem dX12_back_29 : decode mX12_back.2.1 29 = .ok (.getfield 101, 3) := by decide +kernel
theorem dX12_back_32 : decode mX12_back.2.1 32 = .ok (.iload_n 1, 1) := by decide +kernel
theorem dX12_back_33 : decode mX12_back.2.1 33 = .ok (.iaload, 1) := by decide +kernel
theorem dX12_back_34 : decode mX12_back.2.1 34 = .ok (.iastore, 1) := by decide +kernel
theorem dX12_back_35 : decode mX12_back.2.1 35 = .ok (.iinc 1 1, 3) := by decide +kernel
theorem dX12_back_38 : decode mX12_back.2.1 38 = .ok (.goto (-22), 3) := by decide +kernel
theorem dX12_back_41 : decode mX12_back.2.1 41 = .ok (.aload_n 0, 1) := by decide +kernel
theorem dX12_back_42 : decode mX12_back.2.1 42 = .ok (.iconst 0, 1) := by decide +kernel
theorem dX12_back_43 : decode mX12_back.2.1 43 = .ok (.putfield 313, 3) := by decide +kernel
theorem dX12_back_46 : decode mX12_back.2.1 46 = .ok (.aload_n 0, 1) := by decide +kernel
theorem dX12_back_47 : decode mX12_back.2.1 47 = .ok (.getfield 64, 3) := by decide +kernel
theorem dX12_back_50 : decode mX12_back.2.1 50 = .ok (.bipush 49, 2) := by decide +kernel
theorem dX12_back_52 : decode mX12_back.2.1 52 = .ok (.iaload, 1) := by decide +kernel
theorem dX12_back_53 : decode mX12_back.2.1 53 = .ok (.ireturn, 1) := by decide +kernel
abbrev mX12_begins0 : gz_M := (yX12_begins0, cX12_begins0, 5, none)
theorem dX12_begins0_0 : decode mX12_begins0.2.1 0 = .ok (.bipush 30, 2) := by decide +kernel
theorem dX12_begins0_2 : decode mX12_begins0.2.1 2 = .ok (.iconst 4, 1) := by decide +kernel
theorem dX12_begins0_3 : decode mX12_begins0.2.1 3 = .ok (.iload_n 2, 1) := by decide +kernel
theorem dX12_begins0_4 : decode mX12_begins0.2.1 4 = .ok (.imul, 1) := by decide +kernel
theorem dX12_begins0_5 : decode mX12_begins0.2.1 5 = .ok (.iadd, 1) := by decide +kernel
theorem dX12_begins0_6 : decode mX12_begins0.2.1 6 = .ok (.istore 4, 2) := by decide +kernel
theorem dX12_begins0_8 : decode mX12_begins0.2.1 8 = .ok (.aload_n 1, 1) := by decide +kernel
theorem dX12_begins0_9 : decode mX12_begins0.2.1 9 = .ok (.iload 4, 2) := by decide +kernel
theorem dX12_begins0_11 : decode mX12_begins0.2.1 11 = .ok (.iconst 0, 1) := by decide +kernel
theorem dX12_begins0_12 : decode mX12_begins0.2.1 12 = .ok (.iadd, 1) := by decide +kernel
theorem dX12_begins0_13 : decode mX12_begins0.2.1 13 = .ok (.aload_n 0, 1) := by decide +kernel
theorem dX12_begins0_14 : decode mX12_begins0.2.1 14 = .ok (.iload_n 2, 1) := by decide +kernel
theorem dX12_begins0_15 : decode mX12_begins0.2.1 15 = .ok (.invokevirtual 322, 3) := by decide +kernel
theorem dX12_begins0_18 : decode mX12_begins0.2.1 18 = .ok (.iastore, 1) := by decide +kernel
theorem dX12_begins0_19 : decode mX12_begins0.2.1 19 = .ok (.aload_n 1, 1) := by decide +kernel
theorem dX12_begins0_20 : decode mX12_begins0.2.1 20 = .ok (.iload 4, 2) := by decide +kernel
theorem dX12_begins0_22 : decode mX12_begins0.2.1 22 = .ok (.iconst 1, 1) := by decide +kernel
theorem dX12_begins0_23 : decode mX12_begins0.2.1 23 = .ok (.iadd, 1) := by decide +kernel
theorem dX12_begins0_24 : decode mX12_begins0.2.1 24 = .ok (.iload_n 3, 1) := by decide +kernel
theorem dX12_begins0_25 : decode mX12_begins0.2.1 25 = .ok (.iastore, 1) := by decide +kernel
theorem dX12_begins0_26 : decode mX12_begins0.2.1 26 = .ok (.aload_n 1, 1) := by decide +kernel
theorem dX12_begins0_27 : decode mX12_begins0.2.1 27 = .ok (.iload 4, 2) := by decide +kernel
theorem dX12_begins0_29 : decode mX12_begins0.2.1 29 = .ok (.iconst 2, 1) := by decide +kernel
theorem dX12_begins0_30 : decode mX12_begins0.2.1 30 = .ok (.iadd, 1) := by decide +kernel
theorem dX12_begins0_31 : decode mX12_begins0.2.1 31 = .ok (.iconst 0, 1) := by decide +kernel
theorem dX12_begins0_32 : decode mX12_begins0.2.1 32 = .ok (.iastore, 1) := by decide +kernel
theorem dX12_begins0_33 : decode mX12_begins0.2.1 33 = .ok (.aload_n 1, 1) := by decide +kernel
theorem dX12_begins0_34 : decode mX12_begins0.2.1 34 = .ok (.iload 4, 2) := by decide +kernel
theorem dX12_begins0_36 : decode mX12_begins0.2.1 36 = .ok (.iconst 3, 1) := by decide +kernel
theorem dX12_begins0_37 : decode mX12_begins0.2.1 37 = .ok (.iadd, 1) := by decide +kernel
theorem dX12_begins0_38 : decode mX12_begins0.2.1 38 = .ok (.iconst 0, 1) := by decide +kernel
theorem dX12_begins0_39 : decode mX12_begins0.2.1 39 = .ok (.iastore, 1) := by decide +kernel
theorem dX12_begins0_40 : decode mX12_begins0.2.1 40 = .ok (.return_, 1) := by decide +kernel
abbrev mX12_busy : gz_M := (yX12_busy, cX12_busy, 3, some .int)
theorem dX12_busy_0 : decode mX12_busy.2.1 0 = .ok (.iconst 0, 1) := by decide +kernel
theorem dX12_busy_1 : decode mX12_busy.2.1 1 = .ok (.istore_n 1, 1) := by decide +kernel
theorem dX12_busy_2 : decode mX12_busy.2.1 2 = .ok (.iconst 0, 1) := by decide +kernel
theorem dX12_busy_3 : decode mX12_busy.2.1 3 = .ok (.istore_n 2, 1) := by decide +kernel
theorem dX12_busy_4 : decode mX12_busy.2.1 4 = .ok (.iload_n 2, 1) := by decide +kernel
theorem dX12_busy_5 : decode mX12_busy.2.1 5 = .ok (.aload_n 0, 1) := by decide +kernel
theorem dX12_busy_6 : decode mX12_busy.2.1 6 = .ok (.invokevirtual 319, 3) := by decide +kernel
theorem dX12_busy_9 : decode mX12_busy.2.1 9 = .ok (.if_icmp .ge 31, 3) := by decide +kernel
theorem dX12_busy_12 : decode mX12_busy.2.1 12 = .ok (.iload_n 1, 1) := by decide +kernel
theorem dX12_busy_13 : decode mX12_busy.2.1 13 = .ok (.aload_n 0, 1) := by decide +kernel
theorem dX12_busy_14 : decode mX12_busy.2.1 14 = .ok (.aload_n 0, 1) := by decide +kernel
theorem dX12_busy_15 : decode mX12_busy.2.1 15 = .ok (.getfield 64, 3) := by decide +kernel
theorem dX12_busy_18 : decode mX12_busy.2.1 18 = .ok (.iload_n 2, 1) := by decide +kernel
theorem dX12_busy_19 : decode mX12_busy.2.1 19 = .ok (.invokevirtual 391, 3) := by decide +kernel
theorem dX12_busy_22 : decode mX12_busy.2.1 22 = .ok (.ifCond .eq 9, 3) := by decide +kernel
theorem dX12_busy_25 : decode mX12_busy.2.1 25 = .ok (.iconst 1, 1) := by decide +kernel
theorem dX12_busy_26 : decode mX12_busy.2.1 26 = .ok (.iload_n 2, 1) := by decide +kernel
theorem dX12_busy_27 : decode mX12_busy.2.1 27 = .ok (.ishl, 1) := by decide +kernel
theorem dX12_busy_28 : decode mX12_busy.2.1 28 = .ok (.goto 4, 3) := by decide +kernel
theorem dX12_busy_31 : decode mX12_busy.2.1 31 = .ok (.iconst 0, 1) := by decide +kernel
theorem dX12_busy_32 : decode mX12_busy.2.1 32 = .ok (.ior, 1) := by decide +kernel
theorem dX12_busy_33 : decode mX12_busy.2.1 33 = .ok (.istore_n 1, 1) := by decide +kernel
theorem dX12_busy_34 : decode mX12_busy.2.1 34 = .ok (.iinc 2 1, 3) := by decide +kernel
theorem dX12_busy_37 : decode mX12_busy.2.1 37 = .ok (.goto (-33), 3) := by decide +kernel
theorem dX12_busy_40 : decode mX12_busy.2.1 40 = .ok (.iload_n 1, 1) := by decide +kernel
theorem dX12_busy_41 : decode mX12_busy.2.1 41 = .ok (.ireturn, 1) := by decide +kernel
abbrev mX12_bytesIn : gz_M := (yX12_bytesIn, cX12_bytesIn, 3, some .int)
theorem dX12_bytesIn_0 : decode mX12_bytesIn.2.1 0 = .ok (.iconst 0, 1) := by decide +kernel
theorem dX12_bytesIn_1 : decode mX12_bytesIn.2.1 1 = .ok (.istore_n 1, 1) := by decide +kernel
theorem dX12_bytesIn_2 : decode mX12_bytesIn.2.1 2 = .ok (.bipush 24, 2) := by decide +kernel
theorem dX12_bytesIn_4 : decode mX12_bytesIn.2.1 4 = .ok (.istore_n 2, 1) := by decide +kernel
theorem dX12_bytesIn_5 : decode mX12_bytesIn.2.1 5 = .ok (.iload_n 2, 1) := by decide +kernel
theorem dX12_bytesIn_6 : decode mX12_bytesIn.2.1 6 = .ok (.ifCond .lt 27, 3) := by decide +kernel
theorem dX12_bytesIn_9 : decode mX12_bytesIn.2.1 9 = .ok (.iload_n 1, 1) := by decide +kernel
theorem dX12_bytesIn_10 : decode mX12_bytesIn.2.1 10 = .ok (.iload_n 0, 1) := by decide +kernel
theorem dX12_bytesIn_11 : decode mX12_bytesIn.2.1 11 = .ok (.iload_n 2, 1) := by decide +kernel
theorem dX12_bytesIn_12 : decode mX12_bytesIn.2.1 12 = .ok (.ishr, 1) := by decide +kernel
theorem dX12_bytesIn_13 : decode mX12_bytesIn.2.1 13 = .ok (.sipush 255, 3) := by decide +kernel
theorem dX12_bytesIn_16 : decode mX12_bytesIn.2.1 16 = .ok (.iand, 1) := by decide +kernel
theorem dX12_bytesIn_17 : decode mX12_bytesIn.2.1 17 = .ok (.ifCond .eq 7, 3) := by decide +kernel
theorem dX12_bytesIn_20 : decode mX12_bytesIn.2.1 20 = .ok (.iconst 1, 1) := by decide +kernel
theorem dX12_bytesIn_21 : decode mX12_bytesIn.2.1 21 = .ok (.goto 4, 3) := by decide +kernel
theorem dX12_bytesIn_24 : decode mX12_bytesIn.2.1 24 = .ok (.iconst 0, 1) := by decide +kernel
theorem dX12_bytesIn_25 : decode mX12_bytesIn.2.1 25 = .ok (.iadd, 1) := by decide +kernel
theorem dX12_bytesIn_26 : decode mX12_bytesIn.2.1 26 = .ok (.istore_n 1, 1) := by decide +kernel
theorem dX12_bytesIn_27 : decode mX12_bytesIn.2.1 27 = .ok (.iinc 2 (-8), 3) := by decide +kernel
theorem dX12_bytesIn_30 : decode mX12_bytesIn.2.1 30 = .ok (.goto (-25), 3) := by decide +kernel
theorem dX12_bytesIn_33 : decode mX12_bytesIn.2.1 33 = .ok (.iload_n 1, 1) := by decide +kernel
theorem dX12_bytesIn_34 : decode mX12_bytesIn.2.1 34 = .ok (.ireturn, 1) := by decide +kernel
abbrev mX12_canBegin : gz_M := (yX12_canBegin, cX12_canBegin, 4, some .boolean)
theorem dX12_canBegin_0 : decode mX12_canBegin.2.1 0 = .ok (.aload_n 0, 1) := by decide +kernel
theorem dX12_canBegin_1 : decode mX12_canBegin.2.1 1 = .ok (.iload_n 2, 1) := by decide +kernel
theorem dX12_canBegin_2 : decode mX12_canBegin.2.1 2 = .ok (.invokevirtual 325, 3) := by decide +kernel
theorem dX12_canBegin_5 : decode mX12_canBegin.2.1 5 = .ok (.ifCond .eq 30, 3) := by decide +kernel
theorem dX12_canBegin_8 : decode mX12_canBegin.2.1 8 = .ok (.iload_n 3, 1) := by decide +kernel
theorem dX12_canBegin_9 : decode mX12_canBegin.2.1 9 = .ok (.i2l, 1) := by decide +kernel
theorem dX12_canBegin_10 : decode mX12_canBegin.2.1 10 = .ok (.lconst 0, 1) := by decide +kernel
theorem dX12_canBegin_11 : decode mX12_canBegin.2.1 11 = .ok (.ldc2_w 406, 3) := by decide +kernel
theorem dX12_canBegin_14 : decode mX12_canBegin.2.1 14 = .ok (.invokestatic 225, 3) := by decide +kernel
theorem dX12_canBegin_17 : decode mX12_canBegin.2.1 17 = .ok (.ifCond .eq 18, 3) := by decide +kernel
theorem dX12_canBegin_20 : decode mX12_canBegin.2.1 20 = .ok (.aload_n 1, 1) := by decide +kernel
theorem dX12_canBegin_21 : decode mX12_canBegin.2.1 21 = .ok (.aload_n 0, 1) := by decide +kernel
theorem dX12_canBegin_22 : decode mX12_canBegin.2.1 22 = .ok (.iload_n 2, 1) := by decide +kernel
theorem dX12_canBegin_23 : decode mX12_canBegin.2.1 23 = .ok (.invokevirtual 322, 3) := by decide +kernel
theorem dX12_canBegin_26 : decode mX12_canBegin.2.1 26 = .ok (.iaload, 1) := by decide +kernel
theorem dX12_canBegin_27 : decode mX12_canBegin.2.1 27 = .ok (.iconst 1, 1) := by decide +kernel
theorem dX12_canBegin_28 : decode mX12_canBegin.2.1 28 = .ok (.if_icmp .eq 7, 3) := by decide +kernel
theorem dX12_canBegin_31 : decode mX12_canBegin.2.1 31 = .ok (.iconst 1, 1) := by decide +kernel
theorem dX12_canBegin_32 : decode mX12_canBegin.2.1 32 = .ok (.goto 4, 3) := by decide +kernel
theorem dX12_canBegin_35 : decode mX12_canBegin.2.1 35 = .ok (.iconst 0, 1) := by decide +kernel
theorem dX12_canBegin_36 : decode mX12_canBegin.2.1 36 = .ok (.ireturn, 1) := by decide +kernel
abbrev mX12_canLay : gz_M := (yX12_canLay, cX12_canLay, 2, some .boolean)
theorem dX12_canLay_0 : decode mX12_canLay.2.1 0 = .ok (.aload_n 0, 1) := by decide +kernel
theorem dX12_canLay_1 : decode mX12_canLay.2.1 1 = .ok (.getfield 64, 3) := by decide +kernel
theorem dX12_canLay_4 : decode mX12_canLay.2.1 4 = .ok (.iload_n 1, 1) := by decide +kernel
theorem dX12_canLay_5 : decode mX12_canLay.2.1 5 = .ok (.iaload, 1) := by decide +kernel
theorem dX12_canLay_6 : decode mX12_canLay.2.1 6 = .ok (.ifCond .ne 19, 3) := by decide +kernel
theorem dX12_canLay_9 : decode mX12_canLay.2.1 9 = .ok (.aload_n 0, 1) := by decide +kernel
theorem dX12_canLay_10 : decode mX12_canLay.2.1 10 = .ok (.aload_n 0, 1) := by decide +kernel
theorem dX12_canLay_11 : decode mX12_canLay.2.1 11 = .ok (.getfield 64, 3) := by decide +kernel
theorem dX12_canLay_14 : decode mX12_canLay.2.1 14 = .ok (.iload_n 1, 1) := by decide +kernel
theorem dX12_canLay_15 : decode mX12_canLay.2.1 15 = .ok (.invokevirtual 391, 3) := by decide +kernel
theorem dX12_canLay_18 : decode mX12_canLay.2.1 18 = .ok (.ifCond .ne 7, 3) := by decide +kernel
theorem dX12_canLay_21 : decode mX12_canLay.2.1 21 = .ok (.iconst 1, 1) := by decide +kernel
theorem dX12_canLay_22 : decode mX12_canLay.2.1 22 = .ok (.goto 4, 3) := by decide +kernel
theorem dX12_canLay_25 : decode mX12_canLay.2.1 25 = .ok (.iconst 0, 1) := by decide +kernel
theorem dX12_canLay_26 : decode mX12_canLay.2.1 26 = .ok (.ireturn, 1) := by decide +kernel
abbrev mX12_canPlay : gz_M := (yX12_canPlay, cX12_canPlay, 3, some .boolean)
theorem dX12_canPlay_0 : decode mX12_canPlay.2.1 0 = .ok (.aload_n 0, 1) := by decide +kernel
theorem dX12_canPlay_1 : decode mX12_canPlay.2.1 1 = .ok (.iload_n 1, 1) := by decide +kernel
theorem dX12_canPlay_2 : decode mX12_canPlay.2.1 2 = .ok (.iload_n 2, 1) := by decide +kernel
theorem dX12_canPlay_3 : decode mX12_canPlay.2.1 3 = .ok (.invokevirtual 449, 3) := by decide +kernel
theorem dX12_canPlay_6 : decode mX12_canPlay.2.1 6 = .ok (.ifCond .eq 29, 3) := by decide +kernel
theorem dX12_canPlay_9 : decode mX12_canPlay.2.1 9 = .ok (.aload_n 0, 1) := by decide +kernel
theorem dX12_canPlay_10 : decode mX12_canPlay.2.1 10 = .ok (.getfield 64, 3) := by decide +kernel
theorem dX12_canPlay_13 : decode mX12_canPlay.2.1 13 = .ok (.iload_n 1, 1) := by decide +kernel
theorem dX12_canPlay_14 : decode mX12_canPlay.2.1 14 = .ok (.invokestatic 346, 3) := by decide +kernel
theorem dX12_canPlay_17 : decode mX12_canPlay.2.1 17 = .ok (.ifCond .eq 18, 3) := by decide +kernel
theorem dX12_canPlay_20 : decode mX12_canPlay.2.1 20 = .ok (.aload_n 0, 1) := by decide +kernel
theorem dX12_canPlay_21 : decode mX12_canPlay.2.1 21 = .ok (.getfield 64, 3) := by decide +kernel
theorem dX12_canPlay_24 : decode mX12_canPlay.2.1 24 = .ok (.iload_n 2, 1) := by decide +kernel
theorem dX12_canPlay_25 : decode mX12_canPlay.2.1 25 = .ok (.invokestatic 346, 3) := by decide +kernel
theorem dX12_canPlay_28 : decode mX12_canPlay.2.1 28 = .ok (.ifCond .eq 7, 3) := by decide +kernel
theorem dX12_canPlay_31 : decode mX12_canPlay.2.1 31 = .ok (.iconst 1, 1) := by decide +kernel
theorem dX12_canPlay_32 : decode mX12_canPlay.2.1 32 = .ok (.goto 4, 3) := by decide +kernel
theorem dX12_canPlay_35 : decode mX12_canPlay.2.1 35 = .ok (.iconst 0, 1) := by decide +kernel
theorem dX12_canPlay_36 : decode mX12_canPlay.2.1 36 = .ok (.ireturn, 1) := by decide +kernel
abbrev mX12_canStep : gz_M := (yX12_canStep, cX12_canStep, 4, some .boolean)
theorem dX12_canStep_0 : decode mX12_canStep.2.1 0 = .ok (.aload_n 0, 1) := by decide +kernel
theorem dX12_canStep_1 : decode mX12_canStep.2.1 1 = .ok (.getfield 58, 3) := by decide +kernel
theorem dX12_canStep_4 : decode mX12_canStep.2.1 4 = .ok (.iload_n 2, 1) := by decide +kernel
theorem dX12_canStep_5 : decode mX12_canStep.2.1 5 = .ok (.iconst 1, 1) := by decide +kernel
theorem dX12_canStep_6 : decode mX12_canStep.2.1 6 = .ok (.iadd, 1) := by decide +kernel
theorem dX12_canStep_7 : decode mX12_canStep.2.1 7 = .ok (.iaload, 1) := by decide +kernel
theorem dX12_canStep_8 : decode mX12_canStep.2.1 8 = .ok (.istore_n 3, 1) := by decide +kernel
theorem dX12_canStep_9 : decode mX12_canStep.2.1 9 = .ok (.aload_n 0, 1) := by decide +kernel
theorem dX12_canStep_10 : decode mX12_canStep.2.1 10 = .ok (.getfield 58, 3) := by decide +kernel
theorem dX12_canStep_13 : decode mX12_canStep.2.1 13 = .ok (.iload_n 2, 1) := by decide +kernel
theorem dX12_canStep_14 : decode mX12_canStep.2.1 14 = .ok (.iaload, 1) := by decide +kernel
theorem dX12_canStep_15 : decode mX12_canStep.2.1 15 = .ok (.tableswitch 79 0 2 #[25, 41, 72], 25) := by decide +kernel
theorem dX12_canStep_40 : decode mX12_canStep.2.1 40 = .ok (.aload_n 1, 1) := by decide +kernel
theorem dX12_canStep_41 : decode mX12_canStep.2.1 41 = .ok (.bipush 49, 2) := by decide +kernel
theorem dX12_canStep_43 : decode mX12_canStep.2.1 43 = .ok (.iaload, 1) := by decide +kernel
theorem dX12_canStep_44 : decode mX12_canStep.2.1 44 = .ok (.sipush 9999, 3) := by decide +kernel
theorem dX12_canStep_47 : decode mX12_canStep.2.1 47 = .ok (.if_icmp .ge 7, 3) := by decide +kernel
theorem dX12_canStep_50 : decode mX12_canStep.2.1 50 = .ok (.iconst 1, 1) := by decide +kernel
theorem dX12_canStep_51 : decode mX12_canStep.2.1 51 = .ok (.goto 4, 3) := by decide +kernel
theorem dX12_canStep_54 : decode mX12_canStep.2.1 54 = .ok (.iconst 0, 1) := by decide +kernel
theorem dX12_canStep_55 : decode mX12_canStep.2.1 55 = .ok (.ireturn, 1) := by decide +kernel
theorem dX12_canStep_56 : decode mX12_canStep.2.1 56 = .ok (.aload_n 0, 1) := by decide +kernel
theorem dX12_canStep_57 : decode mX12_canStep.2.1 57 = .ok (.aload_n 1, 1) := by decide +kernel
theorem dX12_canStep_58 : decode mX12_canStep.2.1 58 = .ok (.iload_n 3, 1) := by decide +kernel
theorem dX12_canStep_59 : decode mX12_canStep.2.1 59 = .ok (.aload_n 0, 1) := by decide +kernel
theorem dX12_canStep_60 : decode mX12_canStep.2.1 60 = .ok (.getfield 58, 3) := by decide +kernel
theorem dX12_canStep_63 : decode mX12_canStep.2.1 63 = .ok (.iload_n 2, 1) := by decide +kernel
theorem dX12_canStep_64 : decode mX12_canStep.2.1 64 = .ok (.iconst 2, 1) := by decide +kernel
theorem dX12_canStep_65 : decode mX12_canStep.2.1 65 = .ok (.iadd, 1) := by decide +kernel
theorem dX12_canStep_66 : decode mX12_canStep.2.1 66 = .ok (.iaload, 1) := by decide +kernel
theorem dX12_canStep_67 : decode mX12_canStep.2.1 67 = .ok (.invokevirtual 408, 3) := by decide +kernel
theorem dX12_canStep_70 : decode mX12_canStep.2.1 70 = .ok (.ifCond .eq 15, 3) := by decide +kernel
theorem dX12_canStep_73 : decode mX12_canStep.2.1 73 = .ok (.aload_n 1, 1) := by decide +kernel
theorem dX12_canStep_74 : decode mX12_canStep.2.1 74 = .ok (.bipush 48, 2) := by decide +kernel
theorem dX12_canStep_76 : decode mX12_canStep.2.1 76 = .ok (.iaload, 1) := by decide +kernel
theorem dX12_canStep_77 : decode mX12_canStep.2.1 77 = .ok (.iconst 3, 1) := by decide +kernel
theorem dX12_canStep_78 : decode mX12_canStep.2.1 78 = .ok (.if_icmp .lt 7, 3) := by decide +kernel
theorem dX12_canStep_81 : decode mX12_canStep.2.1 81 = .ok (.iconst 1, 1) := by decide +kernel
theorem dX12_canStep_82 : decode mX12_canStep.2.1 82 = .ok (.goto 4, 3) := by decide +kernel
theorem dX12_canStep_85 : decode mX12_canStep.2.1 85 = .ok (.iconst 0, 1) := by decide +kernel
theorem dX12_canStep_86 : decode mX12_canStep.2.1 86 = .ok (.ireturn, 1) := by decide +kernel
theorem dX12_canStep_87 : decode mX12_canStep.2.1 87 = .ok (.aload_n 0, 1) := by decide +kernel
theorem dX12_canStep_88 : decode mX12_canStep.2.1 88 = .ok (.aload_n 1, 1) := by decide +kernel
theorem dX12_canStep_89 : decode mX12_canStep.2.1 89 = .ok (.iload_n 3, 1) := by decide +kernel
theorem dX12_canStep_90 : decode mX12_canStep.2.1 90 = .ok (.invokevirtual 388, 3) := by decide +kernel
theorem dX12_canStep_93 : decode mX12_canStep.2.1 93 = .ok (.ireturn, 1) := by decide +kernel
theorem dX12_canStep_94 : decode mX12_canStep.2.1 94 = .ok (.aload_n 0, 1) := by decide +kernel
theorem dX12_canStep_95 : decode mX12_canStep.2.1 95 = .ok (.aload_n 1, 1) := by decide +kernel
theorem dX12_canStep_96 : decode mX12_canStep.2.1 96 = .ok (.iload_n 3, 1) := by decide +kernel
theorem dX12_canStep_97 : decode mX12_canStep.2.1 97 = .ok (.invokevirtual 400, 3) := by decide +kernel
theorem dX12_canStep_100 : decode mX12_canStep.2.1 100 = .ok (.ireturn, 1) := by decide +kernel
abbrev mX12_canSweep : gz_M := (yX12_canSweep, cX12_canSweep, 3, some .boolean)
theorem dX12_canSweep_0 : decode mX12_canSweep.2.1 0 = .ok (.aload_n 0, 1) := by decide +kernel
theorem dX12_canSweep_1 : decode mX12_canSweep.2.1 1 = .ok (.iload_n 2, 1) := by decide +kernel
theorem dX12_canSweep_2 : decode mX12_canSweep.2.1 2 = .ok (.invokevirtual 373, 3) := by decide +kernel
theorem dX12_canSweep_5 : decode mX12_canSweep.2.1 5 = .ok (.ifCond .eq 24, 3) := by decide +kernel
theorem dX12_canSweep_8 : decode mX12_canSweep.2.1 8 = .ok (.aload_n 0, 1) := by decide +kernel
theorem dX12_canSweep_9 : decode mX12_canSweep.2.1 9 = .ok (.aload_n 1, 1) := by decide +kernel
theorem dX12_canSweep_10 : decode mX12_canSweep.2.1 10 = .ok (.iload_n 2, 1) := by decide +kernel
theorem dX12_canSweep_11 : decode mX12_canSweep.2.1 11 = .ok (.invokevirtual 391, 3) := by decide +kernel
theorem dX12_canSweep_14 : decode mX12_canSweep.2.1 14 = .ok (.ifCond .eq 15, 3) := by decide +kernel
theorem dX12_canSweep_17 : decode mX12_canSweep.2.1 17 = .ok (.aload_n 1, 1) := by decide +kernel
theorem dX12_canSweep_18 : decode mX12_canSweep.2.1 18 = .ok (.bipush 48, 2) := by decide +kernel
theorem dX12_canSweep_20 : decode mX12_canSweep.2.1 20 = .ok (.iaload, 1) := by decide +kernel
theorem dX12_canSweep_21 : decode mX12_canSweep.2.1 21 = .ok (.iconst 1, 1) := by decide +kernel
theorem dX12_canSweep_22 : decode mX12_canSweep.2.1 22 = .ok (.if_icmp .lt 7, 3) := by decide +kernel
theorem dX12_canSweep_25 : decode mX12_canSweep.2.1 25 = .ok (.iconst 1, 1) := by decide +kernel
theorem dX12_canSweep_26 : decode mX12_canSweep.2.1 26 = .ok (.goto 4, 3) := by decide +kernel
theorem dX12_canSweep_29 : decode mX12_canSweep.2.1 29 = .ok (.iconst 0, 1) := by decide +kernel
theorem dX12_canSweep_30 : decode mX12_canSweep.2.1 30 = .ok (.ireturn, 1) := by decide +kernel
abbrev mX12_canTide : gz_M := (yX12_canTide, cX12_canTide, 3, some .boolean)
theorem dX12_canTide_0 : decode mX12_canTide.2.1 0 = .ok (.iload_n 2, 1) := by decide +kernel
theorem dX12_canTide_1 : decode mX12_canTide.2.1 1 = .ok (.i2l, 1) := by decide +kernel
theorem dX12_canTide_2 : decode mX12_canTide.2.1 2 = .ok (.lconst 0, 1) := by decide +kernel
theorem dX12_canTide_3 : decode mX12_canTide.2.1 3 = .ok (.ldc2_w 386, 3) := by decide +kernel
theorem dX12_canTide_6 : decode mX12_canTide.2.1 6 = .ok (.invokestatic 225, 3) := by decide +kernel
theorem dX12_canTide_9 : decode mX12_canTide.2.1 9 = .ok (.ifCond .eq 15, 3) := by decide +kernel
theorem dX12_canTide_12 : decode mX12_canTide.2.1 12 = .ok (.iload_n 2, 1) := by decide +kernel
theorem dX12_canTide_13 : decode mX12_canTide.2.1 13 = .ok (.aload_n 1, 1) := by decide +kernel
theorem dX12_canTide_14 : decode mX12_canTide.2.1 14 = .ok (.bipush 46, 2) := by decide +kernel
theorem dX12_canTide_16 : decode mX12_canTide.2.1 16 = .ok (.iaload, 1) := by decide +kernel
theorem dX12_canTide_17 : decode mX12_canTide.2.1 17 = .ok (.if_icmp .eq 7, 3) := by decide +kernel
theorem dX12_canTide_20 : decode mX12_canTide.2.1 20 = .ok (.iconst 1, 1) := by decide +kernel
theorem dX12_canTide_21 : decode mX12_canTide.2.1 21 = .ok (.goto 4, 3) := by decide +kernel
theorem dX12_canTide_24 : decode mX12_canTide.2.1 24 = .ok (.iconst 0, 1) := by decide +kernel
theorem dX12_canTide_25 : decode mX12_canTide.2.1 25 = .ok (.ireturn, 1) := by decide +kernel
abbrev mX12_cells : gz_M := (yX12_cells, cX12_cells, 1, some .int)
theorem dX12_cells_0 : decode mX12_cells.2.1 0 = .ok (.aload_n 0, 1) := by decide +kernel
theorem dX12_cells_1 : decode mX12_cells.2.1 1 = .ok (.getfield 303, 3) := by decide +kernel
theorem dX12_cells_4 : decode mX12_cells.2.1 4 = .ok (.ifCond .ne 7, 3) := by decide +kernel
theorem dX12_cells_7 : decode mX12_cells.2.1 7 = .ok (.iconst 0, 1) := by decide +kernel
theorem dX12_cells_8 : decode mX12_cells.2.1 8 = .ok (.goto 16, 3) := by decide +kernel
theorem dX12_cells_11 : decode mX12_cells.2.1 11 = .ok (.aload_n 0, 1) := by decide +kernel
theorem dX12_cells_12 : decode mX12_cells.2.1 12 = .ok (.getfield 37, 3) := by decide +kernel
theorem dX12_cells_15 : decode mX12_cells.2.1 15 = .ok (.iconst 0, 1) := by decide +kernel
theorem dX12_cells_16 : decode mX12_cells.2.1 16 = .ok (.iaload, 1) := by decide +kernel
theorem dX12_cells_17 : decode mX12_cells.2.1 17 = .ok (.aload_n 0, 1) := by decide +kernel
theorem dX12_cells_18 : decode mX12_cells.2.1 18 = .ok (.getfield 37, 3) := by decide +kernel
theorem dX12_cells_21 : decode mX12_cells.2.1 21 = .ok (.iconst 1, 1) := by decide +kernel
theorem dX12_cells_22 : decode mX12_cells.2.1 22 = .ok (.iaload, 1) := by decide +kernel
theorem dX12_cells_23 : decode mX12_cells.2.1 23 = .ok (.imul, 1) := by decide +kernel
theorem dX12_cells_24 : decode mX12_cells.2.1 24 = .ok (.ireturn, 1) := by decide +kernel
abbrev mX12_children : gz_M := (yX12_children, cX12_children, 2, some .boolean)
theorem dX12_children_0 : decode mX12_children.2.1 0 = .ok (.aload_n 0, 1) := by decide +kernel
theorem dX12_children_1 : decode mX12_children.2.1 1 = .ok (.iconst 0, 1) := by decide +kernel
theorem dX12_children_2 : decode mX12_children.2.1 2 = .ok (.putfield 104, 3) := by decide +kernel
theorem dX12_children_5 : decode mX12_children.2.1 5 = .ok (.iload_n 1, 1) := by decide +kernel
theorem dX12_children_6 : decode mX12_children.2.1 6 = .ok (.i2l, 1) := by decide +kernel
theorem dX12_children_7 : decode mX12_children.2.1 7 = .ok (.lconst 0, 1) := by decide +kernel
theorem dX12_children_8 : decode mX12_children.2.1 8 = .ok (.ldc2_w 378, 3) := by decide +kernel
theorem dX12_children_11 : decode mX12_children.2.1 11 = .ok (.invokestatic 225, 3) := by decide +kernel
theorem dX12_children_14 : decode mX12_children.2.1 14 = .ok (.ifCond .eq 11, 3) := by decide +kernel
theorem dX12_children_17 : decode mX12_children.2.1 17 = .ok (.iload_n 1, 1) := by decide +kernel
theorem dX12_children_18 : decode mX12_children.2.1 18 = .ok (.aload_n 0, 1) := by decide +kernel
theorem dX12_children_19 : decode mX12_children.2.1 19 = .ok (.getfield 74, 3) := by decide +kernel
theorem dX12_children_22 : decode mX12_children.2.1 22 = .ok (.if_icmp .ne 5, 3) := by decide +kernel
theorem dX12_children_25 : decode mX12_children.2.1 25 = .ok (.iconst 0, 1) := by decide +kernel
theorem dX12_children_26 : decode mX12_children.2.1 26 = .ok (.ireturn, 1) := by decide +kernel
theorem dX12_children_27 : decode mX12_children.2.1 27 = .ok (.aload_n 0, 1) := by decide +kernel
theorem dX12_children_28 : decode mX12_children.2.1 28 = .ok (.iload_n 1, 1) := by decide +kernel
theorem dX12_children_29 : decode mX12_children.2.1 29 = .ok (.putfield 74, 3) := by decide +kernel
theorem dX12_children_32 : decode mX12_children.2.1 32 = .ok (.iconst 1, 1) := by decide +kernel
theorem dX12_children_33 : decode mX12_children.2.1 33 = .ok (.ireturn, 1) := by decide +kernel
abbrev mX12_clause : gz_M := (yX12_clause, cX12_clause, 5, none)
theorem dX12_clause_0 : decode mX12_clause.2.1 0 = .ok (.aload_n 0, 1) := by decide +kernel
theorem dX12_clause_1 : decode mX12_clause.2.1 1 = .ok (.invokevirtual 146, 3) := by decide +kernel
theorem dX12_clause_4 : decode mX12_clause.2.1 4 = .ok (.istore_n 1, 1) := by decide +kernel
theorem dX12_clause_5 : decode mX12_clause.2.1 5 = .ok (.ldc 26, 2) := by decide +kernel
theorem dX12_clause_7 : decode mX12_clause.2.1 7 = .ok (.iload_n 1, 1) := by decide +kernel
theorem dX12_clause_8 : decode mX12_clause.2.1 8 = .ok (.invokestatic 162, 3) := by decide +kernel
theorem dX12_clause_11 : decode mX12_clause.2.1 11 = .ok (.ifCond .ne 9, 3) := by decide +kernel
theorem dX12_clause_14 : decode mX12_clause.2.1 14 = .ok (.aload_n 0, 1) := by decide +kernel
theorem dX12_clause_15 : decode mX12_clause.2.1 15 = .ok (.invokevirtual 142, 3) := by decide +kernel
theorem dX12_clause_18 : decode mX12_clause.2.1 18 = .ok (.pop, 1) := by decide +kernel
theorem dX12_clause_19 : decode mX12_clause.2.1 19 = .ok (.return_, 1) := by decide +kernel
theorem dX12_clause_20 : decode mX12_clause.2.1 20 = .ok (.aload_n 0, 1) := by decide +kernel
theorem dX12_clause_21 : decode mX12_clause.2.1 21 = .ok (.dup, 1) := by decide +kernel
theorem dX12_clause_22 : decode mX12_clause.2.1 22 = .ok (.getfield 127, 3) := by decide +kernel
theorem dX12_clause_25 : decode mX12_clause.2.1 25 = .ok (.iconst 1, 1) := by decide +kernel
theorem dX12_clause_26 : decode mX12_clause.2.1 26 = .ok (.iadd, 1) := by decide +kernel
theorem dX12_clause_27 : decode mX12_clause.2.1 27 = .ok (.putfield 127, 3) := by decide +kernel
theorem dX12_clause_30 : decode mX12_clause.2.1 30 = .ok (.aload_n 0, 1) := by decide +kernel
theorem dX12_clause_31 : decode mX12_clause.2.1 31 = .ok (.bipush 58, 2) := by decide +kernel
theorem dX12_clause_33 : decode mX12_clause.2.1 33 = .ok (.invokevirtual 172, 3) := by decide +kernel
theorem dX12_clause_36 : decode mX12_clause.2.1 36 = .ok (.ifCond .ne 4, 3) := by decide +kernel
theorem dX12_clause_39 : decode mX12_clause.2.1 39 = .ok (.return_, 1) := by decide +kernel
theorem dX12_clause_40 : decode mX12_clause.2.1 40 = .ok (.iconst 1, 1) := by decide +kernel
theorem dX12_clause_41 : decode mX12_clause.2.1 41 = .ok (.istore_n 2, 1) := by decide +kernel
theorem dX12_clause_42 : decode mX12_clause.2.1 42 = .ok (.iconst 0, 1) := by decide +kernel
theorem dX12_clause_43 : decode mX12_clause.2.1 43 = .ok (.istore_n 3, 1) := by decide +kernel
theorem dX12_clause_44 : decode mX12_clause.2.1 44 = .ok (.aload_n 0, 1) := by decide +kernel
theorem dX12_clause_45 : decode mX12_clause.2.1 45 = .ok (.invokevirtual 146, 3) := by decide +kernel
theorem dX12_clause_48 : decode mX12_clause.2.1 48 = .ok (.istore 4, 2) := by decide +kernel
theorem dX12_clause_50 : decode mX12_clause.2.1 50 = .ok (.iload 4, 2) := by decide +kernel
theorem dX12_clause_52 : decode mX12_clause.2.1 52 = .ok (.bipush 33, 2) := by decide +kernel
theorem dX12_clause_54 : decode mX12_clause.2.1 54 = .ok (.if_icmp .eq 10, 3) := by decide +kernel
theorem dX12_clause_57 : decode mX12_clause.2.1 57 = .ok (.iload 4, 2) := by decide +kernel
theorem dX12_clause_59 : decode mX12_clause.2.1 59 = .ok (.bipush 40, 2) := by decide +kernel
theorem dX12_clause_61 : decode mX12_clause.2.1 61 = .ok (.if_icmp .ne 28, 3) := by decide +kernel
theorem dX12_clause_64 : decode mX12_clause.2.1 64 = .ok (.aload_n 0, 1) := by decide +kernel
theorem dX12_clause_65 : decode mX12_clause.2.1 65 = .ok (.iconst 0, 1) := by decide +kernel
theorem dX12_clause_66 : decode mX12_clause.2.1 66 = .ok (.iconst 0, 1) := by decide +kernel
theorem dX12_clause_67 : decode mX12_clause.2.1 67 = .ok (.invokevirtual 195, 3) := by decide +kernel
theorem dX12_clause_70 : decode mX12_clause.2.1 70 = .ok (.istore_n 2, 1) := by decide +kernel
theorem dX12_clause_71 : decode mX12_clause.2.1 71 = .ok (.aload_n 0, 1) := by decide +kernel
theorem dX12_clause_72 : decode mX12_clause.2.1 72 = .ok (.bipush 63, 2) := by decide +kernel
theorem dX12_clause_74 : decode mX12_clause.2.1 74 = .ok (.invokevirtual 172, 3) := by decide +kernel
theorem dX12_clause_77 : decode mX12_clause.2.1 77 = .ok (.ifCond .ne 4, 3) := by decide +kernel
theorem dX12_clause_80 : decode mX12_clause.2.1 80 = .ok (.return_, 1) := by decide +kernel
theorem dX12_clause_81 : decode mX12_clause.2.1 81 = .ok (.aload_n 0, 1) := by decide +kernel
theorem dX12_clause_82 : decode mX12_clause.2.1 82 = .ok (.invokevirtual 169, 3) := by decide +kernel
theorem dX12_clause_85 : decode mX12_clause.2.1 85 = .ok (.istore_n 3, 1) := by decide +kernel
theorem dX12_clause_86 : decode mX12_clause.2.1 86 = .ok (.goto 48, 3) := by decide +kernel
theorem dX12_clause_89 : decode mX12_clause.2.1 89 = .ok (.aload_n 0, 1) := by decide +kernel
theorem dX12_clause_90 : decode mX12_clause.2.1 90 = .ok (.invokevirtual 169, 3) := by decide +kernel
theorem dX12_clause_93 : decode mX12_clause.2.1 93 = .ok (.istore_n 3, 1) := by decide +kernel
theorem dX12_clause_94 : decode mX12_clause.2.1 94 = .ok (.aload_n 0, 1) := by decide +kernel
theorem dX12_clause_95 : decode mX12_clause.2.1 95 = .ok (.getfield 136, 3) := by decide +kernel
theorem dX12_clause_98 : decode mX12_clause.2.1 98 = .ok (.iconst (-1), 1) := by decide +kernel
theorem dX12_clause_99 : decode mX12_clause.2.1 99 = .ok (.if_icmp .ne 35, 3) := by decide +kernel
theorem dX12_clause_102 : decode mX12_clause.2.1 102 = .ok (.aload_n 0, 1) := by decide +kernel
theorem dX12_clause_103 : decode mX12_clause.2.1 103 = .ok (.invokevirtual 146, 3) := by decide +kernel
theorem dX12_clause_106 : decode mX12_clause.2.1 106 = .ok (.invokestatic 189, 3) := by decide +kernel
theorem dX12_clause_109 : decode mX12_clause.2.1 109 = .ok (.ifCond .eq 25, 3) := by decide +kernel
theorem dX12_clause_112 : decode mX12_clause.2.1 112 = .ok (.aload_n 0, 1) := by decide +kernel
theorem dX12_clause_113 : decode mX12_clause.2.1 113 = .ok (.iconst 1, 1) := by decide +kernel
theorem dX12_clause_114 : decode mX12_clause.2.1 114 = .ok (.iload_n 3, 1) := by decide +kernel
theorem dX12_clause_115 : decode mX12_clause.2.1 115 = .ok (.invokevirtual 195, 3) := by decide +kernel
theorem dX12_clause_118 : decode mX12_clause.2.1 118 = .ok (.istore_n 2, 1) := by decide +kernel
theorem dX12_clause_119 : decode mX12_clause.2.1 119 = .ok (.aload_n 0, 1) := by decide +kernel
theorem dX12_clause_120 : decode mX12_clause.2.1 120 = .ok (.bipush 63, 2) := by decide +kernel
theorem dX12_clause_122 : decode mX12_clause.2.1 122 = .ok (.invokevirtual 172, 3) := by decide +kernel
theorem dX12_clause_125 : decode mX12_clause.2.1 125 = .ok (.ifCond .ne 4, 3) := by decide +kernel
theorem dX12_clause_128 : decode mX12_clause.2.1 128 = .ok (.return_, 1) := by decide +kernel
theorem dX12_clause_129 : decode mX12_clause.2.1 129 = .ok (.aload_n 0, 1) := by decide +kernel
theorem dX12_clause_130 : decode mX12_clause.2.1 130 = .ok (.invokevirtual 169, 3) := by decide +kernel
theorem dX12_clause_133 : decode mX12_clause.2.1 133 = .ok (.istore_n 3, 1) := by decide +kernel
theorem dX12_clause_134 : decode mX12_clause.2.1 134 = .ok (.aload_n 0, 1) := by decide +kernel
theorem dX12_clause_135 : decode mX12_clause.2.1 135 = .ok (.getfield 136, 3) := by decide +kernel
theorem dX12_clause_138 : decode mX12_clause.2.1 138 = .ok (.iconst (-1), 1) := by decide +kernel
theorem dX12_clause_139 : decode mX12_clause.2.1 139 = .ok (.if_icmp .ne 22, 3) := by decide +kernel
theorem dX12_clause_142 : decode mX12_clause.2.1 142 = .ok (.aload_n 0, 1) := by decide +kernel
theorem dX12_clause_143 : decode mX12_clause.2.1 143 = .ok (.getfield 205, 3) := by decide +kernel
theorem dX12_clause_146 : decode mX12_clause.2.1 146 = .ok (.ifCond .ne 15, 3) := by decide +kernel
theorem dX12_clause_149 : decode mX12_clause.2.1 149 = .ok (.iload_n 1, 1) := by decide +kernel
theorem dX12_clause_150 : decode mX12_clause.2.1 150 = .ok (.aload_n 0, 1) := by decide +kernel
theorem dX12_clause_151 : decode mX12_clause.2.1 151 = .ok (.getfield 209, 3) := by decide +kernel
theorem dX12_clause_154 : decode mX12_clause.2.1 154 = .ok (.if_icmp .ne 7, 3) := by decide +kernel
theorem dX12_clause_157 : decode mX12_clause.2.1 157 = .ok (.iload_n 2, 1) := by decide +kernel
theorem dX12_clause_158 : decode mX12_clause.2.1 158 = .ok (.ifCond .ne 4, 3) := by decide +kernel
theorem dX12_clause_161 : decode mX12_clause.2.1 161 = .ok (.return_, 1) := by decide +kernel
theorem dX12_clause_162 : decode mX12_clause.2.1 162 = .ok (.aload_n 0, 1) := by decide +kernel
theorem dX12_clause_163 : decode mX12_clause.2.1 163 = .ok (.iconst 1, 1) := by decide +kernel
theorem dX12_clause_164 : decode mX12_clause.2.1 164 = .ok (.putfield 205, 3) := by decide +kernel
theorem dX12_clause_167 : decode mX12_clause.2.1 167 = .ok (.aload_n 0, 1) := by decide +kernel
theorem dX12_clause_168 : decode mX12_clause.2.1 168 = .ok (.iload_n 3, 1) := by decide +kernel
theorem dX12_clause_169 : decode mX12_clause.2.1 169 = .ok (.putfield 212, 3) := by decide +kernel
theorem dX12_clause_172 : decode mX12_clause.2.1 172 = .ok (.return_, 1) := by decide +kernel
abbrev mX12_compares : gz_M := (yX12_compares, cX12_compares, 6, some .boolean)
theorem dX12_compares_0 : decode mX12_compares.2.1 0 = .ok (.iload_n 1, 1) := by decide +kernel
theorem dX12_compares_1 : decode mX12_compares.2.1 1 = .ok (.ifCond .eq 7, 3) := by decide +kernel
theorem dX12_compares_4 : decode mX12_compares.2.1 4 = .ok (.iload_n 2, 1) := by decide +kernel
theorem dX12_compares_5 : decode mX12_compares.2.1 5 = .ok (.goto 7, 3) := by decide +kernel
theorem dX12_compares_8 : decode mX12_compares.2.1 8 = .ok (.aload_n 0, 1) := by decide +kernel
theorem dX12_compares_9 : decode mX12_compares.2.1 9 = .ok (.invokevirtual 169, 3) := by decide +kernel
theorem dX12_compares_12 : decode mX12_compares.2.1 12 = .ok (.istore_n 3, 1) := by decide +kernel
theorem dX12_compares_13 : decode mX12_compares.2.1 13 = .ok (.aload_n 0, 1) := by decide +kernel
theorem dX12_compares_14 : decode mX12_compares.2.1 14 = .ok (.getfield 136, 3) := by decide +kernel
theorem dX12_compares_17 : decode mX12_compares.2.1 17 = .ok (.iconst (-1), 1) := by decide +kernel
theorem dX12_compares_18 : decode mX12_compares.2.1 18 = .ok (.if_icmp .eq 5, 3) := by decide +kernel
theorem dX12_compares_21 : decode mX12_compares.2.1 21 = .ok (.iconst 0, 1) := by decide +kernel
theorem dX12_compares_22 : decode mX12_compares.2.1 22 = .ok (.ireturn, 1) := by decide +kernel
theorem dX12_compares_23 : decode mX12_compares.2.1 23 = .ok (.aload_n 0, 1) := by decide +kernel
theorem dX12_compares_24 : decode mX12_compares.2.1 24 = .ok (.invokevirtual 146, 3) := by decide +kernel
theorem dX12_compares_27 : decode mX12_compares.2.1 27 = .ok (.istore 4, 2) := by decide +kernel
theorem dX12_compares_29 : decode mX12_compares.2.1 29 = .ok (.iload 4, 2) := by decide +kernel
theorem dX12_compares_31 : decode mX12_compares.2.1 31 = .ok (.invokestatic 189, 3) := by decide +kernel
theorem dX12_compares_34 : decode mX12_compares.2.1 34 = .ok (.ifCond .ne 8, 3) := by decide +kernel
theorem dX12_compares_37 : decode mX12_compares.2.1 37 = .ok (.aload_n 0, 1) := by decide +kernel
theorem dX12_compares_38 : decode mX12_compares.2.1 38 = .ok (.invokevirtual 142, 3) := by decide +kernel
theorem dX12_compares_41 : decode mX12_compares.2.1 41 = .ok (.ireturn, 1) := by decide +kernel
theorem dX12_compares_42 : decode mX12_compares.2.1 42 = .ok (.aload_n 0, 1) := by decide +kernel
theorem dX12_compares_43 : decode mX12_compares.2.1 43 = .ok (.dup, 1) := by decide +kernel
theorem dX12_compares_44 : decode mX12_compares.2.1 44 = .ok (.getfield 127, 3) := by decide +kernel
theorem dX12_compares_47 : decode mX12_compares.2.1 47 = .ok (.iconst 1, 1) := by decide +kernel
theorem dX12_compares_48 : decode mX12_compares.2.1 48 = .ok (.iadd, 1) := by decide +kernel
theorem dX12_compares_49 : decode mX12_compares.2.1 49 = .ok (.putfield 127, 3) := by decide +kernel
theorem dX12_compares_52 : decode mX12_compares.2.1 52 = .ok (.aload_n 0, 1) := by decide +kernel
theorem dX12_compares_53 : decode mX12_compares.2.1 53 = .ok (.invokevirtual 169, 3) := by decide +kernel
theorem dX12_compares_56 : decode mX12_compares.2.1 56 = .ok (.istore 5, 2) := by decide +kernel
theorem dX12_compares_58 : decode mX12_compares.2.1 58 = .ok (.iload 4, 2) := by decide +kernel
theorem dX12_compares_60 : decode mX12_compares.2.1 60 = .ok (.bipush 61, 2) := by decide +kernel
theorem dX12_compares_62 : decode mX12_compares.2.1 62 = .ok (.if_icmp .ne 17, 3) := by decide +kernel
theorem dX12_compares_65 : decode mX12_compares.2.1 65 = .ok (.iload_n 3, 1) := by decide +kernel
theorem dX12_compares_66 : decode mX12_compares.2.1 66 = .ok (.iload 5, 2) := by decide +kernel
theorem dX12_compares_68 : decode mX12_compares.2.1 68 = .ok (.if_icmp .ne 7, 3) := by decide +kernel
theorem dX12_compares_71 : decode mX12_compares.2.1 71 = .ok (.iconst 1, 1) := by decide +kernel
theorem dX12_compares_72 : decode mX12_compares.2.1 72 = .ok (.goto 39, 3) := by decide +kernel
theorem dX12_compares_75 : decode mX12_compares.2.1 75 = .ok (.iconst 0, 1) := by decide +kernel
theorem dX12_compares_76 : decode mX12_compares.2.1 76 = .ok (.goto 35, 3) := by decide +kernel
theorem dX12_compares_79 : decode mX12_compares.2.1 79 = .ok (.iload 4, 2) := by decide +kernel
theorem dX12_compares_81 : decode mX12_compares.2.1 81 = .ok (.bipush 60, 2) := by decide +kernel
theorem dX12_compares_83 : decode mX12_compares.2.1 83 = .ok (.if_icmp .ne 17, 3) := by decide +kernel
theorem dX12_compares_86 : decode mX12_compares.2.1 86 = .ok (.iload_n 3, 1) := by decide +kernel
theorem dX12_compares_87 : decode mX12_compares.2.1 87 = .ok (.iload 5, 2) := by decide +kernel
theorem dX12_compares_89 : decode mX12_compares.2.1 89 = .ok (.if_icmp .ge 7, 3) := by decide +kernel
theorem dX12_compares_92 : decode mX12_compares.2.1 92 = .ok (.iconst 1, 1) := by decide +kernel
theorem dX12_compares_93 : decode mX12_compares.2.1 93 = .ok (.goto 18, 3) := by decide +kernel
theorem dX12_compares_96 : decode mX12_compares.2.1 96 = .ok (.iconst 0, 1) := by decide +kernel
theorem dX12_compares_97 : decode mX12_compares.2.1 97 = .ok (.goto 14, 3) := by decide +kernel
theorem dX12_compares_100 : decode mX12_compares.2.1 100 = .ok (.iload_n 3, 1) := by decide +kernel
theorem dX12_compares_101 : decode mX12_compares.2.1 101 = .ok (.iload 5, 2) := by decide +kernel
theorem dX12_compares_103 : decode mX12_compares.2.1 103 = .ok (.if_icmp .le 7, 3) := by decide +kernel
theorem dX12_compares_106 : decode mX12_compares.2.1 106 = .ok (.iconst 1, 1) := by decide +kernel
theorem dX12_compares_107 : decode mX12_compares.2.1 107 = .ok (.goto 4, 3) := by decide +kernel
theorem dX12_compares_110 : decode mX12_compares.2.1 110 = .ok (.iconst 0, 1) := by decide +kernel
theorem dX12_compares_111 : decode mX12_compares.2.1 111 = .ok (.ireturn, 1) := by decide +kernel
abbrev mX12_condition : gz_M := (yX12_condition, cX12_condition, 5, some .boolean)
theorem dX12_condition_0 : decode mX12_condition.2.1 0 = .ok (.aload_n 0, 1) := by decide +kernel
theorem dX12_condition_1 : decode mX12_condition.2.1 1 = .ok (.iload_n 1, 1) := by decide +kernel
theorem dX12_condition_2 : decode mX12_condition.2.1 2 = .ok (.iload_n 2, 1) := by decide +kernel
theorem dX12_condition_3 : decode mX12_condition.2.1 3 = .ok (.invokevirtual 202, 3) := by decide +kernel
theorem dX12_condition_6 : decode mX12_condition.2.1 6 = .ok (.istore_n 3, 1) := by decide +kernel
theorem dX12_condition_7 : decode mX12_condition.2.1 7 = .ok (.aload_n 0, 1) := by decide +kernel
theorem dX12_condition_8 : decode mX12_condition.2.1 8 = .ok (.getfield 136, 3) := by decide +kernel
theorem dX12_condition_11 : decode mX12_condition.2.1 11 = .ok (.iconst (-1), 1) := by decide +kernel
theorem dX12_condition_12 : decode mX12_condition.2.1 12 = .ok (.if_icmp .ne 48, 3) := by decide +kernel
theorem dX12_condition_15 : decode mX12_condition.2.1 15 = .ok (.aload_n 0, 1) := by decide +kernel
theorem dX12_condition_16 : decode mX12_condition.2.1 16 = .ok (.invokevirtual 146, 3) := by decide +kernel
theorem dX12_condition_19 : decode mX12_condition.2.1 19 = .ok (.bipush 124, 2) := by decide +kernel
theorem dX12_condition_21 : decode mX12_condition.2.1 21 = .ok (.if_icmp .ne 39, 3) := by decide +kernel
theorem dX12_condition_24 : decode mX12_condition.2.1 24 = .ok (.aload_n 0, 1) := by decide +kernel
theorem dX12_condition_25 : decode mX12_condition.2.1 25 = .ok (.dup, 1) := by decide +kernel
theorem dX12_condition_26 : decode mX12_condition.2.1 26 = .ok (.getfield 127, 3) := by decide +kernel
theorem dX12_condition_29 : decode mX12_condition.2.1 29 = .ok (.iconst 1, 1) := by decide +kernel
theorem dX12_condition_30 : decode mX12_condition.2.1 30 = .ok (.iadd, 1) := by decide +kernel
theorem dX12_condition_31 : decode mX12_condition.2.1 31 = .ok (.putfield 127, 3) := by decide +kernel
theorem dX12_condition_34 : decode mX12_condition.2.1 34 = .ok (.aload_n 0, 1) := by decide +kernel
theorem dX12_condition_35 : decode mX12_condition.2.1 35 = .ok (.iconst 0, 1) := by decide +kernel
theorem dX12_condition_36 : decode mX12_condition.2.1 36 = .ok (.iconst 0, 1) := by decide +kernel
theorem dX12_condition_37 : decode mX12_condition.2.1 37 = .ok (.invokevirtual 202, 3) := by decide +kernel
theorem dX12_condition_40 : decode mX12_condition.2.1 40 = .ok (.istore 4, 2) := by decide +kernel
theorem dX12_condition_42 : decode mX12_condition.2.1 42 = .ok (.iload_n 3, 1) := by decide +kernel
theorem dX12_condition_43 : decode mX12_condition.2.1 43 = .ok (.ifCond .ne 8, 3) := by decide +kernel
theorem dX12_condition_46 : decode mX12_condition.2.1 46 = .ok (.iload 4, 2) := by decide +kernel
theorem dX12_condition_48 : decode mX12_condition.2.1 48 = .ok (.ifCond .eq 7, 3) := by decide +kernel
theorem dX12_condition_51 : decode mX12_condition.2.1 51 = .ok (.iconst 1, 1) := by decide +kernel
theorem dX12_condition_52 : decode mX12_condition.2.1 52 = .ok (.goto 4, 3) := by decide +kernel
theorem dX12_condition_55 : decode mX12_condition.2.1 55 = .ok (.iconst 0, 1) := by decide +kernel
theorem dX12_condition_56 : decode mX12_condition.2.1 56 = .ok (.istore_n 3, 1) := by decide +kernel
theorem dX12_condition_57 : decode mX12_condition.2.1 57 = .ok (.goto (-50), 3) := by decide +kernel
theorem dX12_condition_60 : decode mX12_condition.2.1 60 = .ok (.iload_n 3, 1) := by decide +kernel
theorem dX12_condition_61 : decode mX12_condition.2.1 61 = .ok (.ireturn, 1) := by decide +kernel
abbrev mX12_copy : gz_M := (yX12_copy, cX12_copy, 3, none)
theorem dX12_copy_0 : decode mX12_copy.2.1 0 = .ok (.iconst 0, 1) := by decide +kernel
theorem dX12_copy_1 : decode mX12_copy.2.1 1 = .ok (.istore_n 2, 1) := by decide +kernel
theorem dX12_copy_2 : decode mX12_copy.2.1 2 = .ok (.iload_n 2, 1) := by decide +kernel
theorem dX12_copy_3 : decode mX12_copy.2.1 3 = .ok (.bipush 50, 2) := by decide +kernel
theorem dX12_copy_5 : decode mX12_copy.2.1 5 = .ok (.if_icmp .ge 15, 3) := by decide +kernel
theorem dX12_copy_8 : decode mX12_copy.2.1 8 = .ok (.aload_n 1, 1) := by decide +kernel
theorem dX12_copy_9 : decode mX12_copy.2.1 9 = .ok (.iload_n 2, 1) := by decide +kernel
theorem dX12_copy_10 : decode mX12_copy.2.1 10 = .ok (.aload_n 0, 1) := by decide +kernel
theorem dX12_copy_11 : decode mX12_copy.2.1 11 = .ok (.iload_n 2, 1) := by decide +kernel
theorem dX12_copy_12 : decode mX12_copy.2.1 12 = .ok (.iaload, 1) := by decide +kernel
theorem dX12_copy_13 : decode mX12_copy.2.1 13 = .ok (.iastore, 1) := by decide +kernel
theorem dX12_copy_14 : decode mX12_copy.2.1 14 = .ok (.iinc 2 1, 3) := by decide +kernel
theorem dX12_copy_17 : decode mX12_copy.2.1 17 = .ok (.goto (-15), 3) := by decide +kernel
theorem dX12_copy_20 : decode mX12_copy.2.1 20 = .ok (.aload_n 1, 1) := by decide +kernel
theorem dX12_copy_21 : decode mX12_copy.2.1 21 = .ok (.bipush 50, 2) := by decide +kernel
theorem dX12_copy_23 : decode mX12_copy.2.1 23 = .ok (.iconst 0, 1) := by decide +kernel
theorem dX12_copy_24 : decode mX12_copy.2.1 24 = .ok (.iastore, 1) := by decide +kernel
theorem dX12_copy_25 : decode mX12_copy.2.1 25 = .ok (.return_, 1) := by decide +kernel
abbrev mX12_count : gz_M := (yX12_count, cX12_count, 2, some .int)
theorem dX12_count_0 : decode mX12_count.2.1 0 = .ok (.aload_n 0, 1) := by decide +kernel
theorem dX12_count_1 : decode mX12_count.2.1 1 = .ok (.iconst 0, 1) := by decide +kernel
theorem dX12_count_2 : decode mX12_count.2.1 2 = .ok (.putfield 104, 3) := by decide +kernel
theorem dX12_count_5 : decode mX12_count.2.1 5 = .ok (.iload_n 1, 1) := by decide +kernel
theorem dX12_count_6 : decode mX12_count.2.1 6 = .ok (.tableswitch 155 0 13 #[70, 75, 80, 85, 90, 95, 100, 108, 116, 124, 132, 137, 142, 150], 70) := by decide +kernel
theorem dX12_count_76 : decode mX12_count.2.1 76 = .ok (.aload_n 0, 1) := by decide +kernel
theorem dX12_count_77 : decode mX12_count.2.1 77 = .ok (.invokevirtual 319, 3) := by decide +kernel
theorem dX12_count_80 : decode mX12_count.2.1 80 = .ok (.ireturn, 1) := by decide +kernel
theorem dX12_count_81 : decode mX12_count.2.1 81 = .ok (.aload_n 0, 1) := by decide +kernel
theorem dX12_count_82 : decode mX12_count.2.1 82 = .ok (.getfield 303, 3) := by decide +kernel
theorem dX12_count_85 : decode mX12_count.2.1 85 = .ok (.ireturn, 1) := by decide +kernel
theorem dX12_count_86 : decode mX12_count.2.1 86 = .ok (.aload_n 0, 1) := by decide +kernel
theorem dX12_count_87 : decode mX12_count.2.1 87 = .ok (.getfield 295, 3) := by decide +kernel
theorem dX12_count_90 : decode mX12_count.2.1 90 = .ok (.ireturn, 1) := by decide +kernel
theorem dX12_count_91 : decode mX12_count.2.1 91 = .ok (.aload_n 0, 1) := by decide +kernel
theorem dX12_count_92 : decode mX12_count.2.1 92 = .ok (.getfield 298, 3) := by decide +kernel
theorem dX12_count_95 : decode mX12_count.2.1 95 = .ok (.ireturn, 1) := by decide +kernel
theorem dX12_count_96 : decode mX12_count.2.1 96 = .ok (.aload_n 0, 1) := by decide +kernel
theorem dX12_count_97 : decode mX12_count.2.1 97 = .ok (.getfield 117, 3) := by decide +kernel
theorem dX12_count_100 : decode mX12_count.2.1 100 = .ok (.ireturn, 1) := by decide +kernel
theorem dX12_count_101 : decode mX12_count.2.1 101 = .ok (.aload_n 0, 1) := by decide +kernel
theorem dX12_count_102 : decode mX12_count.2.1 102 = .ok (.getfield 70, 3) := by decide +kernel
theorem dX12_count_105 : decode mX12_count.2.1 105 = .ok (.ireturn, 1) := by decide +kernel
theorem dX12_count_106 : decode mX12_count.2.1 106 = .ok (.aload_n 0, 1) := by decide +kernel
theorem dX12_count_107 : decode mX12_count.2.1 107 = .ok (.getfield 64, 3) := by decide +kernel
theorem dX12_count_110 : decode mX12_count.2.1 110 = .ok (.bipush 49, 2) := by decide +kernel
theorem dX12_count_112 : decode mX12_count.2.1 112 = .ok (.iaload, 1) := by decide +kernel
theorem dX12_count_113 : decode mX12_count.2.1 113 = .ok (.ireturn, 1) := by decide +kernel
theorem dX12_count_114 : decode mX12_count.2.1 114 = .ok (.aload_n 0, 1) := by decide +kernel
theorem dX12_count_115 : decode mX12_count.2.1 115 = .ok (.getfield 64, 3) := by decide +kernel
theorem dX12_count_118 : decode mX12_count.2.1 118 = .ok (.bipush 48, 2) := by decide +kernel
theorem dX12_count_120 : decode mX12_count.2.1 120 = .ok (.iaload, 1) := by decide +kernel
theorem dX12_count_121 : decode mX12_count.2.1 121 = .ok (.ireturn, 1) := by decide +kernel
theorem dX12_count_122 : decode mX12_count.2.1 122 = .ok (.aload_n 0, 1) := by decide +kernel
theorem dX12_count_123 : decode mX12_count.2.1 123 = .ok (.getfield 64, 3) := by decide +kernel
theorem dX12_count_126 : decode mX12_count.2.1 126 = .ok (.bipush 46, 2) := by decide +kernel
theorem dX12_count_128 : decode mX12_count.2.1 128 = .ok (.iaload, 1) := by decide +kernel
theorem dX12_count_129 : decode mX12_count.2.1 129 = .ok (.ireturn, 1) := by decide +kernel
theorem dX12_count_130 : decode mX12_count.2.1 130 = .ok (.aload_n 0, 1) := by decide +kernel
theorem dX12_count_131 : decode mX12_count.2.1 131 = .ok (.getfield 64, 3) := by decide +kernel
theorem dX12_count_134 : decode mX12_count.2.1 134 = .ok (.bipush 47, 2) := by decide +kernel
theorem dX12_count_136 : decode mX12_count.2.1 136 = .ok (.iaload, 1) := by decide +kernel
theorem dX12_count_137 : decode mX12_count.2.1 137 = .ok (.ireturn, 1) := by decide +kernel
theorem dX12_count_138 : decode mX12_count.2.1 138 = .ok (.aload_n 0, 1) := by decide +kernel
theorem dX12_count_139 : decode mX12_count.2.1 139 = .ok (.getfield 74, 3) := by decide +kernel
theorem dX12_count_142 : decode mX12_count.2.1 142 = .ok (.ireturn, 1) := by decide +kernel
theorem dX12_count_143 : decode mX12_count.2.1 143 = .ok (.aload_n 0, 1) := by decide +kernel
theorem dX12_count_144 : decode mX12_count.2.1 144 = .ok (.getfield 310, 3) := by decide +kernel
theorem dX12_count_147 : decode mX12_count.2.1 147 = .ok (.ireturn, 1) := by decide +kernel
theorem dX12_count_148 : decode mX12_count.2.1 148 = .ok (.aload_n 0, 1) := by decide +kernel
theorem dX12_count_149 : decode mX12_count.2.1 149 = .ok (.getfield 64, 3) := by decide +kernel
theorem dX12_count_152 : decode mX12_count.2.1 152 = .ok (.bipush 50, 2) := by decide +kernel
theorem dX12_count_154 : decode mX12_count.2.1 154 = .ok (.iaload, 1) := by decide +kernel
theorem dX12_count_155 : decode mX12_count.2.1 155 = .ok (.ireturn, 1) := by decide +kernel
theorem dX12_count_156 : decode mX12_count.2.1 156 = .ok (.aload_n 0, 1) := by decide +kernel
theorem dX12_count_157 : decode mX12_count.2.1 157 = .ok (.getfield 313, 3) := by decide +kernel
theorem dX12_count_160 : decode mX12_count.2.1 160 = .ok (.ireturn, 1) := by decide +kernel
theorem dX12_count_161 : decode mX12_count.2.1 161 = .ok (.ldc_w 433, 3) := by decide +kernel
theorem dX12_count_164 : decode mX12_count.2.1 164 = .ok (.ireturn, 1) := by decide +kernel
abbrev mX12_crowd : gz_M := (yX12_crowd, cX12_crowd, 3, some .int)
theorem dX12_crowd_0 : decode mX12_crowd.2.1 0 = .ok (.iconst 0, 1) := by decide +kernel
theorem dX12_crowd_1 : decode mX12_crowd.2.1 1 = .ok (.istore_n 1, 1) := by decide +kernel
theorem dX12_crowd_2 : decode mX12_crowd.2.1 2 = .ok (.iconst 0, 1) := by decide +kernel
theorem dX12_crowd_3 : decode mX12_crowd.2.1 3 = .ok (.istore_n 2, 1) := by decide +kernel
theorem dX12_crowd_4 : decode mX12_crowd.2.1 4 = .ok (.iload_n 2, 1) := by decide +kernel
theorem dX12_crowd_5 : decode mX12_crowd.2.1 5 = .ok (.aload_n 0, 1) := by decide +kernel
theorem dX12_crowd_6 : decode mX12_crowd.2.1 6 = .ok (.invokevirtual 319, 3) := by decide +kernel
theorem dX12_crowd_9 : decode mX12_crowd.2.1 9 = .ok (.if_icmp .ge 26, 3) := by decide +kernel
theorem dX12_crowd_12 : decode mX12_crowd.2.1 12 = .ok (.iload_n 1, 1) := by decide +kernel
theorem dX12_crowd_13 : decode mX12_crowd.2.1 13 = .ok (.aload_n 0, 1) := by decide +kernel
theorem dX12_crowd_14 : decode mX12_crowd.2.1 14 = .ok (.aload_n 0, 1) := by decide +kernel
theorem dX12_crowd_15 : decode mX12_crowd.2.1 15 = .ok (.getfield 64, 3) := by decide +kernel
theorem dX12_crowd_18 : decode mX12_crowd.2.1 18 = .ok (.iload_n 2, 1) := by decide +kernel
theorem dX12_crowd_19 : decode mX12_crowd.2.1 19 = .ok (.invokevirtual 391, 3) := by decide +kernel
theorem dX12_crowd_22 : decode mX12_crowd.2.1 22 = .ok (.invokestatic 395, 3) := by decide +kernel
theorem dX12_crowd_25 : decode mX12_crowd.2.1 25 = .ok (.invokestatic 371, 3) := by decide +kernel
theorem dX12_crowd_28 : decode mX12_crowd.2.1 28 = .ok (.istore_n 1, 1) := by decide +kernel
theorem dX12_crowd_29 : decode mX12_crowd.2.1 29 = .ok (.iinc 2 1, 3) := by decide +kernel
theorem dX12_crowd_32 : decode mX12_crowd.2.1 32 = .ok (.goto (-28), 3) := by decide +kernel
theorem dX12_crowd_35 : decode mX12_crowd.2.1 35 = .ok (.iload_n 1, 1) := by decide +kernel
theorem dX12_crowd_36 : decode mX12_crowd.2.1 36 = .ok (.ireturn, 1) := by decide +kernel
abbrev mX12_digit : gz_M := (yX12_digit, cX12_digit, 2, some .int)
theorem dX12_digit_0 : decode mX12_digit.2.1 0 = .ok (.aload_n 0, 1) := by decide +kernel
theorem dX12_digit_1 : decode mX12_digit.2.1 1 = .ok (.invokevirtual 146, 3) := by decide +kernel
theorem dX12_digit_4 : decode mX12_digit.2.1 4 = .ok (.istore_n 1, 1) := by decide +kernel
theorem dX12_digit_5 : decode mX12_digit.2.1 5 = .ok (.aload_n 0, 1) := by decide +kernel
theorem dX12_digit_6 : decode mX12_digit.2.1 6 = .ok (.invokevirtual 176, 3) := by decide +kernel
theorem dX12_digit_9 : decode mX12_digit.2.1 9 = .ok (.ifCond .ne 10, 3) := by decide +kernel
theorem dX12_digit_12 : decode mX12_digit.2.1 12 = .ok (.aload_n 0, 1) := by decide +kernel
theorem dX12_digit_13 : decode mX12_digit.2.1 13 = .ok (.invokevirtual 142, 3) := by decide +kernel
theorem dX12_digit_16 : decode mX12_digit.2.1 16 = .ok (.pop, 1) := by decide +kernel
theorem dX12_digit_17 : decode mX12_digit.2.1 17 = .ok (.iconst 0, 1) := by decide +kernel
theorem dX12_digit_18 : decode mX12_digit.2.1 18 = .ok (.ireturn, 1) := by decide +kernel
theorem dX12_digit_19 : decode mX12_digit.2.1 19 = .ok (.aload_n 0, 1) := by decide +kernel
theorem dX12_digit_20 : decode mX12_digit.2.1 20 = .ok (.dup, 1) := by decide +kernel
theorem dX12_digit_21 : decode mX12_digit.2.1 21 = .ok (.getfield 127, 3) := by decide +kernel
theorem dX12_digit_24 : decode mX12_digit.2.1 24 = .ok (.iconst 1, 1) := by decide +kernel
theorem dX12_digit_25 : decode mX12_digit.2.1 25 = .ok (.iadd, 1) := by decide +kernel
theorem dX12_digit_26 : decode mX12_digit.2.1 26 = .ok (.putfield 127, 3) := by decide +kernel
theorem dX12_digit_29 : decode mX12_digit.2.1 29 = .ok (.iload_n 1, 1) := by decide +kernel
theorem dX12_digit_30 : decode mX12_digit.2.1 30 = .ok (.bipush 48, 2) := by decide +kernel
theorem dX12_digit_32 : decode mX12_digit.2.1 32 = .ok (.isub, 1) := by decide +kernel
theorem dX12_digit_33 : decode mX12_digit.2.1 33 = .ok (.ireturn, 1) := by decide +kernel
abbrev mX12_does : gz_M := (yX12_does, cX12_does, 2, some .boolean)
theorem dX12_does_0 : decode mX12_does.2.1 0 = .ok (.aload_n 0, 1) := by decide +kernel
theorem dX12_does_1 : decode mX12_does.2.1 1 = .ok (.bipush 30, 2) := by decide +kernel
theorem dX12_does_3 : decode mX12_does.2.1 3 = .ok (.iconst 4, 1) := by decide +kernel
theorem dX12_does_4 : decode mX12_does.2.1 4 = .ok (.iload_n 1, 1) := by decide +kernel
theorem dX12_does_5 : decode mX12_does.2.1 5 = .ok (.imul, 1) := by decide +kernel
theorem dX12_does_6 : decode mX12_does.2.1 6 = .ok (.iadd, 1) := by decide +kernel
theorem dX12_does_7 : decode mX12_does.2.1 7 = .ok (.iconst 3, 1) := by decide +kernel
theorem dX12_does_8 : decode mX12_does.2.1 8 = .ok (.iadd, 1) := by decide +kernel
theorem dX12_does_9 : decode mX12_does.2.1 9 = .ok (.iaload, 1) := by decide +kernel
theorem dX12_does_10 : decode mX12_does.2.1 10 = .ok (.ifCond .ne 7, 3) := by decide +kernel
theorem dX12_does_13 : decode mX12_does.2.1 13 = .ok (.iconst 1, 1) := by decide +kernel
theorem dX12_does_14 : decode mX12_does.2.1 14 = .ok (.goto 4, 3) := by decide +kernel
theorem dX12_does_17 : decode mX12_does.2.1 17 = .ok (.iconst 0, 1) := by decide +kernel
theorem dX12_does_18 : decode mX12_does.2.1 18 = .ok (.ireturn, 1) := by decide +kernel
abbrev mX12_doesFace : gz_M := (yX12_doesFace, cX12_doesFace, 3, some .boolean)
theorem dX12_doesFace_0 : decode mX12_doesFace.2.1 0 = .ok (.aload_n 0, 1) := by decide +kernel
theorem dX12_doesFace_1 : decode mX12_doesFace.2.1 1 = .ok (.aload_n 0, 1) := by decide +kernel
theorem dX12_doesFace_2 : decode mX12_doesFace.2.1 2 = .ok (.getfield 64, 3) := by decide +kernel
theorem dX12_doesFace_5 : decode mX12_doesFace.2.1 5 = .ok (.bipush 30, 2) := by decide +kernel
theorem dX12_doesFace_7 : decode mX12_doesFace.2.1 7 = .ok (.iconst 4, 1) := by decide +kernel
theorem dX12_doesFace_8 : decode mX12_doesFace.2.1 8 = .ok (.iload_n 1, 1) := by decide +kernel
theorem dX12_doesFace_9 : decode mX12_doesFace.2.1 9 = .ok (.imul, 1) := by decide +kernel
theorem dX12_doesFace_10 : decode mX12_doesFace.2.1 10 = .ok (.iadd, 1) := by decide +kernel
theorem dX12_doesFace_11 : decode mX12_doesFace.2.1 11 = .ok (.iaload, 1) := by decide +kernel
theorem dX12_doesFace_12 : decode mX12_doesFace.2.1 12 = .ok (.aload_n 0, 1) := by decide +kernel
theorem dX12_doesFace_13 : decode mX12_doesFace.2.1 13 = .ok (.getfield 64, 3) := by decide +kernel
theorem dX12_doesFace_16 : decode mX12_doesFace.2.1 16 = .ok (.bipush 30, 2) := by decide +kernel
theorem dX12_doesFace_18 : decode mX12_doesFace.2.1 18 = .ok (.iconst 4, 1) := by decide +kernel
theorem dX12_doesFace_19 : decode mX12_doesFace.2.1 19 = .ok (.iload_n 1, 1) := by decide +kernel
theorem dX12_doesFace_20 : decode mX12_doesFace.2.1 20 = .ok (.imul, 1) := by decide +kernel
theorem dX12_doesFace_21 : decode mX12_doesFace.2.1 21 = .ok (.iadd, 1) := by decide +kernel
theorem dX12_doesFace_22 : decode mX12_doesFace.2.1 22 = .ok (.iconst 1, 1) := by decide +kernel
theorem dX12_doesFace_23 : decode mX12_doesFace.2.1 23 = .ok (.iadd, 1) := by decide +kernel
theorem dX12_doesFace_24 : decode mX12_doesFace.2.1 24 = .ok (.iaload, 1) := by decide +kernel
theorem dX12_doesFace_25 : decode mX12_doesFace.2.1 25 = .ok (.invokevirtual 328, 3) := by decide +kernel
theorem dX12_doesFace_28 : decode mX12_doesFace.2.1 28 = .ok (.aload_n 0, 1) := by decide +kernel
theorem dX12_doesFace_29 : decode mX12_doesFace.2.1 29 = .ok (.getfield 64, 3) := by decide +kernel
theorem dX12_doesFace_32 : decode mX12_doesFace.2.1 32 = .ok (.bipush 30, 2) := by decide +kernel
theorem dX12_doesFace_34 : decode mX12_doesFace.2.1 34 = .ok (.iconst 4, 1) := by decide +kernel
theorem dX12_doesFace_35 : decode mX12_doesFace.2.1 35 = .ok (.iload_n 2, 1) := by decide +kernel
theorem dX12_doesFace_36 : decode mX12_doesFace.2.1 36 = .ok (.imul, 1) := by decide +kernel
theorem dX12_doesFace_37 : decode mX12_doesFace.2.1 37 = .ok (.iadd, 1) := by decide +kernel
theorem dX12_doesFace_38 : decode mX12_doesFace.2.1 38 = .ok (.iaload, 1) := by decide +kernel
theorem dX12_doesFace_39 : decode mX12_doesFace.2.1 39 = .ok (.if_icmp .ne 7, 3) := by decide +kernel
theorem dX12_doesFace_42 : decode mX12_doesFace.2.1 42 = .ok (.iconst 1, 1) := by decide +kernel
theorem dX12_doesFace_43 : decode mX12_doesFace.2.1 43 = .ok (.goto 4, 3) := by decide +kernel
theorem dX12_doesFace_46 : decode mX12_doesFace.2.1 46 = .ok (.iconst 0, 1) := by decide +kernel
theorem dX12_doesFace_47 : decode mX12_doesFace.2.1 47 = .ok (.ireturn, 1) := by decide +kernel
abbrev mX12_doesKeep : gz_M := (yX12_doesKeep, cX12_doesKeep, 6, some .boolean)
theorem dX12_doesKeep_0 : decode mX12_doesKeep.2.1 0 = .ok (.aload_n 0, 1) := by decide +kernel
theorem dX12_doesKeep_1 : decode mX12_doesKeep.2.1 1 = .ok (.getfield 64, 3) := by decide +kernel
theorem dX12_doesKeep_4 : decode mX12_doesKeep.2.1 4 = .ok (.aload_n 0, 1) := by decide +kernel
theorem dX12_doesKeep_5 : decode mX12_doesKeep.2.1 5 = .ok (.getfield 67, 3) := by decide +kernel
theorem dX12_doesKeep_8 : decode mX12_doesKeep.2.1 8 = .ok (.invokestatic 434, 3) := by decide +kernel
theorem dX12_doesKeep_11 : decode mX12_doesKeep.2.1 11 = .ok (.iload 4, 2) := by decide +kernel
theorem dX12_doesKeep_13 : decode mX12_doesKeep.2.1 13 = .ok (.iconst (-1), 1) := by decide +kernel
theorem dX12_doesKeep_14 : decode mX12_doesKeep.2.1 14 = .ok (.if_icmp .eq 11, 3) := by decide +kernel
theorem dX12_doesKeep_17 : decode mX12_doesKeep.2.1 17 = .ok (.aload_n 0, 1) := by decide +kernel
theorem dX12_doesKeep_18 : decode mX12_doesKeep.2.1 18 = .ok (.getfield 67, 3) := by decide +kernel
theorem dX12_doesKeep_21 : decode mX12_doesKeep.2.1 21 = .ok (.iload 4, 2) := by decide +kernel
theorem dX12_doesKeep_23 : decode mX12_doesKeep.2.1 23 = .ok (.iconst 1, 1) := by decide +kernel
theorem dX12_doesKeep_24 : decode mX12_doesKeep.2.1 24 = .ok (.iastore, 1) := by decide +kernel
theorem dX12_doesKeep_25 : decode mX12_doesKeep.2.1 25 = .ok (.iload 5, 2) := by decide +kernel
theorem dX12_doesKeep_27 : decode mX12_doesKeep.2.1 27 = .ok (.iconst (-1), 1) := by decide +kernel
theorem dX12_doesKeep_28 : decode mX12_doesKeep.2.1 28 = .ok (.if_icmp .eq 11, 3) := by decide +kernel
theorem dX12_doesKeep_31 : decode mX12_doesKeep.2.1 31 = .ok (.aload_n 0, 1) := by decide +kernel
theorem dX12_doesKeep_32 : decode mX12_doesKeep.2.1 32 = .ok (.getfield 67, 3) := by decide +kernel
theorem dX12_doesKeep_35 : decode mX12_doesKeep.2.1 35 = .ok (.iload 5, 2) := by decide +kernel
theorem dX12_doesKeep_37 : decode mX12_doesKeep.2.1 37 = .ok (.iconst 1, 1) := by decide +kernel
theorem dX12_doesKeep_38 : decode mX12_doesKeep.2.1 38 = .ok (.iastore, 1) := by decide +kernel
theorem dX12_doesKeep_39 : decode mX12_doesKeep.2.1 39 = .ok (.aload_n 0, 1) := by decide +kernel
theorem dX12_doesKeep_40 : decode mX12_doesKeep.2.1 40 = .ok (.iload_n 1, 1) := by decide +kernel
theorem dX12_doesKeep_41 : decode mX12_doesKeep.2.1 41 = .ok (.iload_n 2, 1) := by decide +kernel
theorem dX12_doesKeep_42 : decode mX12_doesKeep.2.1 42 = .ok (.iload_n 3, 1) := by decide +kernel
theorem dX12_doesKeep_43 : decode mX12_doesKeep.2.1 43 = .ok (.invokevirtual 452, 3) := by decide +kernel
theorem dX12_doesKeep_46 : decode mX12_doesKeep.2.1 46 = .ok (.iconst (-1), 1) := by decide +kernel
theorem dX12_doesKeep_47 : decode mX12_doesKeep.2.1 47 = .ok (.if_icmp .ne 7, 3) := by decide +kernel
theorem dX12_doesKeep_50 : decode mX12_doesKeep.2.1 50 = .ok (.iconst 1, 1) := by decide +kernel
theorem dX12_doesKeep_51 : decode mX12_doesKeep.2.1 51 = .ok (.goto 4, 3) := by decide +kernel
theorem dX12_doesKeep_54 : decode mX12_doesKeep.2.1 54 = .ok (.iconst 0, 1) := by decide +kernel
theorem dX12_doesKeep_55 : decode mX12_doesKeep.2.1 55 = .ok (.ireturn, 1) := by decide +kernel
abbrev mX12_draw : gz_M := (yX12_draw, cX12_draw, 2, some .int)
theorem dX12_draw_0 : decode mX12_draw.2.1 0 = .ok (.aload_n 0, 1) := by decide +kernel
theorem dX12_draw_1 : decode mX12_draw.2.1 1 = .ok (.aload_n 0, 1) := by decide +kernel
theorem dX12_draw_2 : decode mX12_draw.2.1 2 = .ok (.getfield 417, 3) := by decide +kernel
theorem dX12_draw_5 : decode mX12_draw.2.1 5 = .ok (.ldc2_w 421, 3) := by decide +kernel
theorem dX12_draw_8 : decode mX12_draw.2.1 8 = .ok (.lmul, 1) := by decide +kernel
theorem dX12_draw_9 : decode mX12_draw.2.1 9 = .ok (.ldc2_w 423, 3) := by decide +kernel
theorem dX12_draw_12 : decode mX12_draw.2.1 12 = .ok (.ladd, 1) := by decide +kernel
theorem dX12_draw_13 : decode mX12_draw.2.1 13 = .ok (.putfield 417, 3) := by decide +kernel
theorem dX12_draw_16 : decode mX12_draw.2.1 16 = .ok (.aload_n 0, 1) := by decide +kernel
theorem dX12_draw_17 : decode mX12_draw.2.1 17 = .ok (.getfield 417, 3) := by decide +kernel
theorem dX12_draw_20 : decode mX12_draw.2.1 20 = .ok (.bipush 33, 2) := by decide +kernel
theorem dX12_draw_22 : decode mX12_draw.2.1 22 = .ok (.lushr, 1) := by decide +kernel
theorem dX12_draw_23 : decode mX12_draw.2.1 23 = .ok (.iload_n 1, 1) := by decide +kernel
theorem dX12_draw_24 : decode mX12_draw.2.1 24 = .ok (.i2l, 1) := by decide +kernel
theorem dX12_draw_25 : decode mX12_draw.2.1 25 = .ok (.lrem, 1) := by decide +kernel
theorem dX12_draw_26 : decode mX12_draw.2.1 26 = .ok (.l2i, 1) := by decide +kernel
theorem dX12_draw_27 : decode mX12_draw.2.1 27 = .ok (.ireturn, 1) := by decide +kernel
abbrev mX12_dry : gz_M := (yX12_dry, cX12_dry, 6, some .int)
theorem dX12_dry_0 : decode mX12_dry.2.1 0 = .ok (.iconst 0, 1) := by decide +kernel
theorem dX12_dry_1 : decode mX12_dry.2.1 1 = .ok (.istore_n 2, 1) := by decide +kernel
theorem dX12_dry_2 : decode mX12_dry.2.1 2 = .ok (.iconst 0, 1) := by decide +kernel
theorem dX12_dry_3 : decode mX12_dry.2.1 3 = .ok (.istore_n 3, 1) := by decide +kernel
theorem dX12_dry_4 : decode mX12_dry.2.1 4 = .ok (.iconst 0, 1) := by decide +kernel
theorem dX12_dry_5 : decode mX12_dry.2.1 5 = .ok (.istore 4, 2) := by decide +kernel
theorem dX12_dry_7 : decode mX12_dry.2.1 7 = .ok (.iload 4, 2) := by decide +kernel
theorem dX12_dry_9 : decode mX12_dry.2.1 9 = .ok (.aload_n 0, 1) := by decide +kernel
theorem dX12_dry_10 : decode mX12_dry.2.1 10 = .ok (.invokevirtual 319, 3) := by decide +kernel
theorem dX12_dry_13 : decode mX12_dry.2.1 13 = .ok (.if_icmp .ge 83, 3) := by decide +kernel
theorem dX12_dry_16 : decode mX12_dry.2.1 16 = .ok (.aload_n 0, 1) := by decide +kernel
theorem dX12_dry_17 : decode mX12_dry.2.1 17 = .ok (.iload 4, 2) := by decide +kernel
theorem dX12_dry_19 : decode mX12_dry.2.1 19 = .ok (.invokevirtual 456, 3) := by decide +kernel
theorem dX12_dry_22 : decode mX12_dry.2.1 22 = .ok (.ifCond .eq 68, 3) := by decide +kernel
theorem dX12_dry_25 : decode mX12_dry.2.1 25 = .ok (.iload_n 1, 1) := by decide +kernel
theorem dX12_dry_26 : decode mX12_dry.2.1 26 = .ok (.ifCond .eq 15, 3) := by decide +kernel
theorem dX12_dry_29 : decode mX12_dry.2.1 29 = .ok (.iload_n 3, 1) := by decide +kernel
theorem dX12_dry_30 : decode mX12_dry.2.1 30 = .ok (.iload 4, 2) := by decide +kernel
theorem dX12_dry_32 : decode mX12_dry.2.1 32 = .ok (.invokestatic 237, 3) := by decide +kernel
theorem dX12_dry_35 : decode mX12_dry.2.1 35 = .ok (.ifCond .eq 6, 3) := by decide +kernel
theorem dX12_dry_38 : decode mX12_dry.2.1 38 = .ok (.goto 52, 3) := by decide +kernel
theorem dX12_dry_41 : decode mX12_dry.2.1 41 = .ok (.iinc 2 1, 3) := by decide +kernel
theorem dX12_dry_44 : decode mX12_dry.2.1 44 = .ok (.aload_n 0, 1) := by decide +kernel
theorem dX12_dry_45 : decode mX12_dry.2.1 45 = .ok (.iload 4, 2) := by decide +kernel
theorem dX12_dry_47 : decode mX12_dry.2.1 47 = .ok (.invokevirtual 459, 3) := by decide +kernel
theorem dX12_dry_50 : decode mX12_dry.2.1 50 = .ok (.iconst 0, 1) := by decide +kernel
theorem dX12_dry_51 : decode mX12_dry.2.1 51 = .ok (.istore 5, 2) := by decide +kernel
theorem dX12_dry_53 : decode mX12_dry.2.1 53 = .ok (.iload 5, 2) := by decide +kernel
theorem dX12_dry_55 : decode mX12_dry.2.1 55 = .ok (.aload_n 0, 1) := by decide +kernel
theorem dX12_dry_56 : decode mX12_dry.2.1 56 = .ok (.invokevirtual 319, 3) := by decide +kernel
theorem dX12_dry_59 : decode mX12_dry.2.1 59 = .ok (.if_icmp .ge 31, 3) := by decide +kernel
theorem dX12_dry_62 : decode mX12_dry.2.1 62 = .ok (.iload_n 3, 1) := by decide +kernel
theorem dX12_dry_63 : decode mX12_dry.2.1 63 = .ok (.aload_n 0, 1) := by decide +kernel
theorem dX12_dry_64 : decode mX12_dry.2.1 64 = .ok (.getfield 86, 3) := by decide +kernel
theorem dX12_dry_67 : decode mX12_dry.2.1 67 = .ok (.iload 5, 2) := by decide +kernel
theorem dX12_dry_69 : decode mX12_dry.2.1 69 = .ok (.iaload, 1) := by decide +kernel
theorem dX12_dry_70 : decode mX12_dry.2.1 70 = .ok (.iconst (-1), 1) := by decide +kernel
theorem dX12_dry_71 : decode mX12_dry.2.1 71 = .ok (.if_icmp .eq 10, 3) := by decide +kernel
theorem dX12_dry_74 : decode mX12_dry.2.1 74 = .ok (.iconst 1, 1) := by decide +kernel
theorem dX12_dry_75 : decode mX12_dry.2.1 75 = .ok (.iload 5, 2) := by decide +kernel
theorem dX12_dry_77 : decode mX12_dry.2.1 77 = .ok (.ishl, 1) := by decide +kernel
theorem dX12_dry_78 : decode mX12_dry.2.1 78 = .ok (.goto 4, 3) := by decide +kernel
theorem dX12_dry_81 : decode mX12_dry.2.1 81 = .ok (.iconst 0, 1) := by decide +kernel
theorem dX12_dry_82 : decode mX12_dry.2.1 82 = .ok (.ior, 1) := by decide +kernel
theorem dX12_dry_83 : decode mX12_dry.2.1 83 = .ok (.istore_n 3, 1) := by decide +kernel
theorem dX12_dry_84 : decode mX12_dry.2.1 84 = .ok (.iinc 5 1, 3) := by decide +kernel
theorem dX12_dry_87 : decode mX12_dry.2.1 87 = .ok (.goto (-34), 3) := by decide +kernel
theorem dX12_dry_90 : decode mX12_dry.2.1 90 = .ok (.iinc 4 1, 3) := by decide +kernel
theorem dX12_dry_93 : decode mX12_dry.2.1 93 = .ok (.goto (-86), 3) := by decide +kernel
theorem dX12_dry_96 : decode mX12_dry.2.1 96 = .ok (.iload_n 2, 1) := by decide +kernel
theorem dX12_dry_97 : decode mX12_dry.2.1 97 = .ok (.ireturn, 1) := by decide +kernel
abbrev mX12_end : gz_M := (yX12_end, cX12_end, 2, some .boolean)
theorem dX12_end_0 : decode mX12_end.2.1 0 = .ok (.aload_n 0, 1) := by decide +kernel
theorem dX12_end_1 : decode mX12_end.2.1 1 = .ok (.iconst 0, 1) := by decide +kernel
theorem dX12_end_2 : decode mX12_end.2.1 2 = .ok (.putfield 104, 3) := by decide +kernel
theorem dX12_end_5 : decode mX12_end.2.1 5 = .ok (.iload_n 1, 1) := by decide +kernel
theorem dX12_end_6 : decode mX12_end.2.1 6 = .ok (.ifCond .lt 11, 3) := by decide +kernel
theorem dX12_end_9 : decode mX12_end.2.1 9 = .ok (.iload_n 1, 1) := by decide +kernel
theorem dX12_end_10 : decode mX12_end.2.1 10 = .ok (.aload_n 0, 1) := by decide +kernel
theorem dX12_end_11 : decode mX12_end.2.1 11 = .ok (.getfield 117, 3) := by decide +kernel
theorem dX12_end_14 : decode mX12_end.2.1 14 = .ok (.if_icmp .le 5, 3) := by decide +kernel
theorem dX12_end_17 : decode mX12_end.2.1 17 = .ok (.iconst 0, 1) := by decide +kernel
theorem dX12_end_18 : decode mX12_end.2.1 18 = .ok (.ireturn, 1) := by decide +kernel
theorem dX12_end_19 : decode mX12_end.2.1 19 = .ok (.aload_n 0, 1) := by decide +kernel
theorem dX12_end_20 : decode mX12_end.2.1 20 = .ok (.iload_n 1, 1) := by decide +kernel
theorem dX12_end_21 : decode mX12_end.2.1 21 = .ok (.putfield 117, 3) := by decide +kernel
theorem dX12_end_24 : decode mX12_end.2.1 24 = .ok (.iconst 1, 1) := by decide +kernel
theorem dX12_end_25 : decode mX12_end.2.1 25 = .ok (.ireturn, 1) := by decide +kernel
abbrev mX12_ends : gz_M := (yX12_ends, cX12_ends, 5, some .int)
theorem dX12_ends_0 : decode mX12_ends.2.1 0 = .ok (.aload_n 0, 1) := by decide +kernel
theorem dX12_ends_1 : decode mX12_ends.2.1 1 = .ok (.iconst 0, 1) := by decide +kernel
theorem dX12_ends_2 : decode mX12_ends.2.1 2 = .ok (.putfield 104, 3) := by decide +kernel
theorem dX12_ends_5 : decode mX12_ends.2.1 5 = .ok (.aload_n 0, 1) := by decide +kernel
theorem dX12_ends_6 : decode mX12_ends.2.1 6 = .ok (.iload_n 1, 1) := by decide +kernel
theorem dX12_ends_7 : decode mX12_ends.2.1 7 = .ok (.invokevirtual 325, 3) := by decide +kernel
theorem dX12_ends_10 : decode mX12_ends.2.1 10 = .ok (.ifCond .eq 13, 3) := by decide +kernel
theorem dX12_ends_13 : decode mX12_ends.2.1 13 = .ok (.iload_n 2, 1) := by decide +kernel
theorem dX12_ends_14 : decode mX12_ends.2.1 14 = .ok (.i2l, 1) := by decide +kernel
theorem dX12_ends_15 : decode mX12_ends.2.1 15 = .ok (.lconst 0, 1) := by decide +kernel
theorem dX12_ends_16 : decode mX12_ends.2.1 16 = .ok (.lconst 1, 1) := by decide +kernel
theorem dX12_ends_17 : decode mX12_ends.2.1 17 = .ok (.invokestatic 225, 3) := by decide +kernel
theorem dX12_ends_20 : decode mX12_ends.2.1 20 = .ok (.ifCond .ne 5, 3) := by decide +kernel
theorem dX12_ends_23 : decode mX12_ends.2.1 23 = .ok (.iconst (-1), 1) := by decide +kernel
theorem dX12_ends_24 : decode mX12_ends.2.1 24 = .ok (.ireturn, 1) := by decide +kernel
theorem dX12_ends_25 : decode mX12_ends.2.1 25 = .ok (.aload_n 0, 1) := by decide +kernel
theorem dX12_ends_26 : decode mX12_ends.2.1 26 = .ok (.getfield 64, 3) := by decide +kernel
theorem dX12_ends_29 : decode mX12_ends.2.1 29 = .ok (.aload_n 0, 1) := by decide +kernel
theorem dX12_ends_30 : decode mX12_ends.2.1 30 = .ok (.getfield 67, 3) := by decide +kernel
theorem dX12_ends_33 : decode mX12_ends.2.1 33 = .ok (.invokestatic 434, 3) := by decide +kernel
theorem dX12_ends_36 : decode mX12_ends.2.1 36 = .ok (.iconst 0, 1) := by decide +kernel
theorem dX12_ends_37 : decode mX12_ends.2.1 37 = .ok (.istore_n 3, 1) := by decide +kernel
theorem dX12_ends_38 : decode mX12_ends.2.1 38 = .ok (.iload_n 3, 1) := by decide +kernel
theorem dX12_ends_39 : decode mX12_ends.2.1 39 = .ok (.bipush 99, 2) := by decide +kernel
theorem dX12_ends_41 : decode mX12_ends.2.1 41 = .ok (.if_icmp .ge 30, 3) := by decide +kernel
theorem dX12_ends_44 : decode mX12_ends.2.1 44 = .ok (.aload_n 0, 1) := by decide +kernel
theorem dX12_ends_45 : decode mX12_ends.2.1 45 = .ok (.getfield 67, 3) := by decide +kernel
theorem dX12_ends_48 : decode mX12_ends.2.1 48 = .ok (.iload_n 1, 1) := by decide +kernel
theorem dX12_ends_49 : decode mX12_ends.2.1 49 = .ok (.invokestatic 346, 3) := by decide +kernel
theorem dX12_ends_52 : decode mX12_ends.2.1 52 = .ok (.ifCond .eq 19, 3) := by decide +kernel
theorem dX12_ends_55 : decode mX12_ends.2.1 55 = .ok (.aload_n 0, 1) := by decide +kernel
theorem dX12_ends_56 : decode mX12_ends.2.1 56 = .ok (.aload_n 0, 1) := by decide +kernel
theorem dX12_ends_57 : decode mX12_ends.2.1 57 = .ok (.getfield 67, 3) := by decide +kernel
theorem dX12_ends_60 : decode mX12_ends.2.1 60 = .ok (.invokevirtual 367, 3) := by decide +kernel
theorem dX12_ends_63 : decode mX12_ends.2.1 63 = .ok (.istore 4, 2) := by decide +kernel
theorem dX12_ends_65 : decode mX12_ends.2.1 65 = .ok (.iinc 3 1, 3) := by decide +kernel
theorem dX12_ends_68 : decode mX12_ends.2.1 68 = .ok (.goto (-30), 3) := by decide +kernel
theorem dX12_ends_71 : decode mX12_ends.2.1 71 = .ok (.aload_n 0, 1) := by decide +kernel
theorem dX12_ends_72 : decode mX12_ends.2.1 72 = .ok (.getfield 67, 3) := by decide +kernel
theorem dX12_ends_75 : decode mX12_ends.2.1 75 = .ok (.iload_n 1, 1) := by decide +kernel
theorem dX12_ends_76 : decode mX12_ends.2.1 76 = .ok (.invokestatic 346, 3) := by decide +kernel
theorem dX12_ends_79 : decode mX12_ends.2.1 79 = .ok (.ifCond .eq 5, 3) := by decide +kernel
theorem dX12_ends_82 : decode mX12_ends.2.1 82 = .ok (.iconst (-1), 1) := by decide +kernel
theorem dX12_ends_83 : decode mX12_ends.2.1 83 = .ok (.ireturn, 1) := by decide +kernel
theorem dX12_ends_84 : decode mX12_ends.2.1 84 = .ok (.iload_n 2, 1) := by decide +kernel
theorem dX12_ends_85 : decode mX12_ends.2.1 85 = .ok (.ifCond .ne 7, 3) := by decide +kernel
theorem dX12_ends_88 : decode mX12_ends.2.1 88 = .ok (.iload_n 3, 1) := by decide +kernel
theorem dX12_ends_89 : decode mX12_ends.2.1 89 = .ok (.goto 16, 3) := by decide +kernel
theorem dX12_ends_92 : decode mX12_ends.2.1 92 = .ok (.aload_n 0, 1) := by decide +kernel
theorem dX12_ends_93 : decode mX12_ends.2.1 93 = .ok (.getfield 67, 3) := by decide +kernel
theorem dX12_ends_96 : decode mX12_ends.2.1 96 = .ok (.bipush 30, 2) := by decide +kernel
theorem dX12_ends_98 : decode mX12_ends.2.1 98 = .ok (.iconst 4, 1) := by decide +kernel
theorem dX12_ends_99 : decode mX12_ends.2.1 99 = .ok (.iload_n 1, 1) := by decide +kernel
theorem dX12_ends_100 : decode mX12_ends.2.1 100 = .ok (.imul, 1) := by decide +kernel
theorem dX12_ends_101 : decode mX12_ends.2.1 101 = .ok (.iadd, 1) := by decide +kernel
theorem dX12_ends_102 : decode mX12_ends.2.1 102 = .ok (.iconst 3, 1) := by decide +kernel
theorem dX12_ends_103 : decode mX12_ends.2.1 103 = .ok (.iadd, 1) := by decide +kernel
theorem dX12_ends_104 : decode mX12_ends.2.1 104 = .ok (.iaload, 1) := by decide +kernel
theorem dX12_ends_105 : decode mX12_ends.2.1 105 = .ok (.ireturn, 1) := by decide +kernel
abbrev mX12_faced : gz_M := (yX12_faced, cX12_faced, 4, some .int)
theorem dX12_faced_0 : decode mX12_faced.2.1 0 = .ok (.iconst 0, 1) := by decide +kernel
theorem dX12_faced_1 : decode mX12_faced.2.1 1 = .ok (.istore_n 1, 1) := by decide +kernel
theorem dX12_faced_2 : decode mX12_faced.2.1 2 = .ok (.iconst 0, 1) := by decide +kernel
theorem dX12_faced_3 : decode mX12_faced.2.1 3 = .ok (.istore_n 2, 1) := by decide +kernel
theorem dX12_faced_4 : decode mX12_faced.2.1 4 = .ok (.iload_n 2, 1) := by decide +kernel
theorem dX12_faced_5 : decode mX12_faced.2.1 5 = .ok (.aload_n 0, 1) := by decide +kernel
theorem dX12_faced_6 : decode mX12_faced.2.1 6 = .ok (.getfield 303, 3) := by decide +kernel
theorem dX12_faced_9 : decode mX12_faced.2.1 9 = .ok (.if_icmp .ge 75, 3) := by decide +kernel
theorem dX12_faced_12 : decode mX12_faced.2.1 12 = .ok (.iload_n 2, 1) := by decide +kernel
theorem dX12_faced_13 : decode mX12_faced.2.1 13 = .ok (.iconst 1, 1) := by decide +kernel
theorem dX12_faced_14 : decode mX12_faced.2.1 14 = .ok (.iadd, 1) := by decide +kernel
theorem dX12_faced_15 : decode mX12_faced.2.1 15 = .ok (.istore_n 3, 1) := by decide +kernel
theorem dX12_faced_16 : decode mX12_faced.2.1 16 = .ok (.iload_n 3, 1) := by decide +kernel
theorem dX12_faced_17 : decode mX12_faced.2.1 17 = .ok (.aload_n 0, 1) := by decide +kernel
theorem dX12_faced_18 : decode mX12_faced.2.1 18 = .ok (.getfield 303, 3) := by decide +kernel
theorem dX12_faced_21 : decode mX12_faced.2.1 21 = .ok (.if_icmp .ge 57, 3) := by decide +kernel
theorem dX12_faced_24 : decode mX12_faced.2.1 24 = .ok (.iload_n 1, 1) := by decide +kernel
theorem dX12_faced_25 : decode mX12_faced.2.1 25 = .ok (.aload_n 0, 1) := by decide +kernel
theorem dX12_faced_26 : decode mX12_faced.2.1 26 = .ok (.getfield 64, 3) := by decide +kernel
theorem dX12_faced_29 : decode mX12_faced.2.1 29 = .ok (.iload_n 2, 1) := by decide +kernel
theorem dX12_faced_30 : decode mX12_faced.2.1 30 = .ok (.invokestatic 346, 3) := by decide +kernel
theorem dX12_faced_33 : decode mX12_faced.2.1 33 = .ok (.ifCond .eq 36, 3) := by decide +kernel
theorem dX12_faced_36 : decode mX12_faced.2.1 36 = .ok (.aload_n 0, 1) := by decide +kernel
theorem dX12_faced_37 : decode mX12_faced.2.1 37 = .ok (.getfield 64, 3) := by decide +kernel
theorem dX12_faced_40 : decode mX12_faced.2.1 40 = .ok (.iload_n 3, 1) := by decide +kernel
theorem dX12_faced_41 : decode mX12_faced.2.1 41 = .ok (.invokestatic 346, 3) := by decide +kernel
theorem dX12_faced_44 : decode mX12_faced.2.1 44 = .ok (.ifCond .eq 25, 3) := by decide +kernel
theorem dX12_faced_47 : decode mX12_faced.2.1 47 = .ok (.aload_n 0, 1) := by decide +kernel
theorem dX12_faced_48 : decode mX12_faced.2.1 48 = .ok (.iload_n 2, 1) := by decide +kernel
theorem dX12_faced_49 : decode mX12_faced.2.1 49 = .ok (.iload_n 3, 1) := by decide +kernel
theorem dX12_faced_50 : decode mX12_faced.2.1 50 = .ok (.invokevirtual 499, 3) := by decide +kernel
theorem dX12_faced_53 : decode mX12_faced.2.1 53 = .ok (.ifCond .eq 16, 3) := by decide +kernel
theorem dX12_faced_56 : decode mX12_faced.2.1 56 = .ok (.aload_n 0, 1) := by decide +kernel
theorem dX12_faced_57 : decode mX12_faced.2.1 57 = .ok (.iload_n 3, 1) := by decide +kernel
theorem dX12_faced_58 : decode mX12_faced.2.1 58 = .ok (.iload_n 2, 1) := by decide +kernel
theorem dX12_faced_59 : decode mX12_faced.2.1 59 = .ok (.invokevirtual 499, 3) := by decide +kernel
theorem dX12_faced_62 : decode mX12_faced.2.1 62 = .ok (.ifCond .eq 7, 3) := by decide +kernel
theorem dX12_faced_65 : decode mX12_faced.2.1 65 = .ok (.iconst 1, 1) := by decide +kernel
theorem dX12_faced_66 : decode mX12_faced.2.1 66 = .ok (.goto 4, 3) := by decide +kernel
theorem dX12_faced_69 : decode mX12_faced.2.1 69 = .ok (.iconst 0, 1) := by decide +kernel
theorem dX12_faced_70 : decode mX12_faced.2.1 70 = .ok (.iadd, 1) := by decide +kernel
theorem dX12_faced_71 : decode mX12_faced.2.1 71 = .ok (.istore_n 1, 1) := by decide +kernel
theorem dX12_faced_72 : decode mX12_faced.2.1 72 = .ok (.iinc 3 1, 3) := by decide +kernel
theorem dX12_faced_75 : decode mX12_faced.2.1 75 = .ok (.goto (-59), 3) := by decide +kernel
theorem dX12_faced_78 : decode mX12_faced.2.1 78 = .ok (.iinc 2 1, 3) := by decide +kernel
theorem dX12_faced_81 : decode mX12_faced.2.1 81 = .ok (.goto (-77), 3) := by decide +kernel
theorem dX12_faced_84 : decode mX12_faced.2.1 84 = .ok (.iload_n 1, 1) := by decide +kernel
theorem dX12_faced_85 : decode mX12_faced.2.1 85 = .ok (.ireturn, 1) := by decide +kernel
abbrev mX12_fails : gz_M := (yX12_fails, cX12_fails, 1, some .boolean)
theorem dX12_fails_0 : decode mX12_fails.2.1 0 = .ok (.aload_n 0, 1) := by decide +kernel
theorem dX12_fails_1 : decode mX12_fails.2.1 1 = .ok (.getfield 136, 3) := by decide +kernel
theorem dX12_fails_4 : decode mX12_fails.2.1 4 = .ok (.iconst (-1), 1) := by decide +kernel
theorem dX12_fails_5 : decode mX12_fails.2.1 5 = .ok (.if_icmp .ne 11, 3) := by decide +kernel
theorem dX12_fails_8 : decode mX12_fails.2.1 8 = .ok (.aload_n 0, 1) := by decide +kernel
theorem dX12_fails_9 : decode mX12_fails.2.1 9 = .ok (.aload_n 0, 1) := by decide +kernel
theorem dX12_fails_10 : decode mX12_fails.2.1 10 = .ok (.getfield 127, 3) := by decide +kernel
theorem dX12_fails_13 : decode mX12_fails.2.1 13 = .ok (.putfield 136, 3) := by decide +kernel
theorem dX12_fails_16 : decode mX12_fails.2.1 16 = .ok (.iconst 0, 1) := by decide +kernel
theorem dX12_fails_17 : decode mX12_fails.2.1 17 = .ok (.ireturn, 1) := by decide +kernel
abbrev mX12_fault : gz_M := (yX12_fault, cX12_fault, 2, some .int)
theorem dX12_fault_0 : decode mX12_fault.2.1 0 = .ok (.aload_n 0, 1) := by decide +kernel
theorem dX12_fault_1 : decode mX12_fault.2.1 1 = .ok (.iconst 0, 1) := by decide +kernel
theorem dX12_fault_2 : decode mX12_fault.2.1 2 = .ok (.putfield 104, 3) := by decide +kernel
theorem dX12_fault_5 : decode mX12_fault.2.1 5 = .ok (.iload_n 1, 1) := by decide +kernel
theorem dX12_fault_6 : decode mX12_fault.2.1 6 = .ok (.i2l, 1) := by decide +kernel
theorem dX12_fault_7 : decode mX12_fault.2.1 7 = .ok (.lconst 0, 1) := by decide +kernel
theorem dX12_fault_8 : decode mX12_fault.2.1 8 = .ok (.ldc2_w 284, 3) := by decide +kernel
theorem dX12_fault_11 : decode mX12_fault.2.1 11 = .ok (.invokestatic 225, 3) := by decide +kernel
theorem dX12_fault_14 : decode mX12_fault.2.1 14 = .ok (.ifCond .ne 6, 3) := by decide +kernel
theorem dX12_fault_17 : decode mX12_fault.2.1 17 = .ok (.bipush (-2), 2) := by decide +kernel
theorem dX12_fault_19 : decode mX12_fault.2.1 19 = .ok (.ireturn, 1) := by decide +kernel
theorem dX12_fault_20 : decode mX12_fault.2.1 20 = .ok (.iload_n 1, 1) := by decide +kernel
theorem dX12_fault_21 : decode mX12_fault.2.1 21 = .ok (.ifCond .ne 7, 3) := by decide +kernel
theorem dX12_fault_24 : decode mX12_fault.2.1 24 = .ok (.aload_n 0, 1) := by decide +kernel
theorem dX12_fault_25 : decode mX12_fault.2.1 25 = .ok (.invokevirtual 286, 3) := by decide +kernel
theorem dX12_fault_28 : decode mX12_fault.2.1 28 = .ok (.iload_n 1, 1) := by decide +kernel
theorem dX12_fault_29 : decode mX12_fault.2.1 29 = .ok (.iconst 1, 1) := by decide +kernel
theorem dX12_fault_30 : decode mX12_fault.2.1 30 = .ok (.if_icmp .ne 16, 3) := by decide +kernel
theorem dX12_fault_33 : decode mX12_fault.2.1 33 = .ok (.aload_n 0, 1) := by decide +kernel
theorem dX12_fault_34 : decode mX12_fault.2.1 34 = .ok (.aload_n 0, 1) := by decide +kernel
theorem dX12_fault_35 : decode mX12_fault.2.1 35 = .ok (.getfield 9, 3) := by decide +kernel
theorem dX12_fault_38 : decode mX12_fault.2.1 38 = .ok (.iconst 0, 1) := by decide +kernel
theorem dX12_fault_39 : decode mX12_fault.2.1 39 = .ok (.aload_n 0, 1) := by decide +kernel
theorem dX12_fault_40 : decode mX12_fault.2.1 40 = .ok (.getfield 117, 3) := by decide +kernel
theorem dX12_fault_43 : decode mX12_fault.2.1 43 = .ok (.invokevirtual 289, 3) := by decide +kernel
theorem dX12_fault_46 : decode mX12_fault.2.1 46 = .ok (.iload_n 1, 1) := by decide +kernel
theorem dX12_fault_47 : decode mX12_fault.2.1 47 = .ok (.iconst 2, 1) := by decide +kernel
theorem dX12_fault_48 : decode mX12_fault.2.1 48 = .ok (.if_icmp .ne 7, 3) := by decide +kernel
theorem dX12_fault_51 : decode mX12_fault.2.1 51 = .ok (.aload_n 0, 1) := by decide +kernel
theorem dX12_fault_52 : decode mX12_fault.2.1 52 = .ok (.invokevirtual 292, 3) := by decide +kernel
theorem dX12_fault_55 : decode mX12_fault.2.1 55 = .ok (.aload_n 0, 1) := by decide +kernel
theorem dX12_fault_56 : decode mX12_fault.2.1 56 = .ok (.getfield 136, 3) := by decide +kernel
theorem dX12_fault_59 : decode mX12_fault.2.1 59 = .ok (.ireturn, 1) := by decide +kernel
abbrev mX12_feed : gz_M := (yX12_feed, cX12_feed, 6, some .int)
theorem dX12_feed_0 : decode mX12_feed.2.1 0 = .ok (.aload_n 0, 1) := by decide +kernel
theorem dX12_feed_1 : decode mX12_feed.2.1 1 = .ok (.iconst 0, 1) := by decide +kernel
theorem dX12_feed_2 : decode mX12_feed.2.1 2 = .ok (.putfield 104, 3) := by decide +kernel
theorem dX12_feed_5 : decode mX12_feed.2.1 5 = .ok (.aload_n 0, 1) := by decide +kernel
theorem dX12_feed_6 : decode mX12_feed.2.1 6 = .ok (.getfield 117, 3) := by decide +kernel
theorem dX12_feed_9 : decode mX12_feed.2.1 9 = .ok (.iload_n 1, 1) := by decide +kernel
theorem dX12_feed_10 : decode mX12_feed.2.1 10 = .ok (.invokestatic 119, 3) := by decide +kernel
theorem dX12_feed_13 : decode mX12_feed.2.1 13 = .ok (.iadd, 1) := by decide +kernel
theorem dX12_feed_14 : decode mX12_feed.2.1 14 = .ok (.iload_n 2, 1) := by decide +kernel
theorem dX12_feed_15 : decode mX12_feed.2.1 15 = .ok (.invokestatic 119, 3) := by decide +kernel
theorem dX12_feed_18 : decode mX12_feed.2.1 18 = .ok (.iadd, 1) := by decide +kernel
theorem dX12_feed_19 : decode mX12_feed.2.1 19 = .ok (.iload_n 3, 1) := by decide +kernel
theorem dX12_feed_20 : decode mX12_feed.2.1 20 = .ok (.invokestatic 119, 3) := by decide +kernel
theorem dX12_feed_23 : decode mX12_feed.2.1 23 = .ok (.iadd, 1) := by decide +kernel
theorem dX12_feed_24 : decode mX12_feed.2.1 24 = .ok (.iload 4, 2) := by decide +kernel
theorem dX12_feed_26 : decode mX12_feed.2.1 26 = .ok (.invokestatic 119, 3) := by decide +kernel
theorem dX12_feed_29 : decode mX12_feed.2.1 29 = .ok (.iadd, 1) := by decide +kernel
theorem dX12_feed_30 : decode mX12_feed.2.1 30 = .ok (.iload 5, 2) := by decide +kernel
theorem dX12_feed_32 : decode mX12_feed.2.1 32 = .ok (.invokestatic 119, 3) := by decide +kernel
theorem dX12_feed_35 : decode mX12_feed.2.1 35 = .ok (.iadd, 1) := by decide +kernel
theorem dX12_feed_36 : decode mX12_feed.2.1 36 = .ok (.sipush 240, 3) := by decide +kernel
theorem dX12_feed_39 : decode mX12_feed.2.1 39 = .ok (.if_icmp .le 5, 3) := by decide +kernel
theorem dX12_feed_42 : decode mX12_feed.2.1 42 = .ok (.iconst (-1), 1) := by decide +kernel
theorem dX12_feed_43 : decode mX12_feed.2.1 43 = .ok (.ireturn, 1) := by decide +kernel
theorem dX12_feed_44 : decode mX12_feed.2.1 44 = .ok (.aload_n 0, 1) := by decide +kernel
theorem dX12_feed_45 : decode mX12_feed.2.1 45 = .ok (.iload_n 1, 1) := by decide +kernel
theorem dX12_feed_46 : decode mX12_feed.2.1 46 = .ok (.invokevirtual 123, 3) := by decide +kernel
theorem dX12_feed_49 : decode mX12_feed.2.1 49 = .ok (.aload_n 0, 1) := by decide +kernel
theorem dX12_feed_50 : decode mX12_feed.2.1 50 = .ok (.iload_n 2, 1) := by decide +kernel
theorem dX12_feed_51 : decode mX12_feed.2.1 51 = .ok (.invokevirtual 123, 3) := by decide +kernel
theorem dX12_feed_54 : decode mX12_feed.2.1 54 = .ok (.aload_n 0, 1) := by decide +kernel
theorem dX12_feed_55 : decode mX12_feed.2.1 55 = .ok (.iload_n 3, 1) := by decide +kernel
theorem dX12_feed_56 : decode mX12_feed.2.1 56 = .ok (.invokevirtual 123, 3) := by decide +kernel
theorem dX12_feed_59 : decode mX12_feed.2.1 59 = .ok (.aload_n 0, 1) := by decide +kernel
theorem dX12_feed_60 : decode mX12_feed.2.1 60 = .ok (.iload 4, 2) := by decide +kernel
theorem dX12_feed_62 : decode mX12_feed.2.1 62 = .ok (.invokevirtual 123, 3) := by decide +kernel
theorem dX12_feed_65 : decode mX12_feed.2.1 65 = .ok (.aload_n 0, 1) := by decide +kernel
theorem dX12_feed_66 : decode mX12_feed.2.1 66 = .ok (.iload 5, 2) := by decide +kernel
theorem dX12_feed_68 : decode mX12_feed.2.1 68 = .ok (.invokevirtual 123, 3) := by decide +kernel
theorem dX12_feed_71 : decode mX12_feed.2.1 71 = .ok (.aload_n 0, 1) := by decide +kernel
theorem dX12_feed_72 : decode mX12_feed.2.1 72 = .ok (.getfield 117, 3) := by decide +kernel
theorem dX12_feed_75 : decode mX12_feed.2.1 75 = .ok (.ireturn, 1) := by decide +kernel
abbrev mX12_fits : gz_M := (yX12_fits, cX12_fits, 5, some .int)
theorem dX12_fits_0 : decode mX12_fits.2.1 0 = .ok (.aload_n 0, 1) := by decide +kernel
theorem dX12_fits_1 : decode mX12_fits.2.1 1 = .ok (.iconst 0, 1) := by decide +kernel
theorem dX12_fits_2 : decode mX12_fits.2.1 2 = .ok (.putfield 104, 3) := by decide +kernel
theorem dX12_fits_5 : decode mX12_fits.2.1 5 = .ok (.aload_n 0, 1) := by decide +kernel
theorem dX12_fits_6 : decode mX12_fits.2.1 6 = .ok (.iload_n 1, 1) := by decide +kernel
theorem dX12_fits_7 : decode mX12_fits.2.1 7 = .ok (.invokevirtual 325, 3) := by decide +kernel
theorem dX12_fits_10 : decode mX12_fits.2.1 10 = .ok (.ifCond .eq 8, 3) := by decide +kernel
theorem dX12_fits_13 : decode mX12_fits.2.1 13 = .ok (.iload_n 2, 1) := by decide +kernel
theorem dX12_fits_14 : decode mX12_fits.2.1 14 = .ok (.iconst (-1), 1) := by decide +kernel
theorem dX12_fits_15 : decode mX12_fits.2.1 15 = .ok (.if_icmp .ge 5, 3) := by decide +kernel
theorem dX12_fits_18 : decode mX12_fits.2.1 18 = .ok (.iconst (-1), 1) := by decide +kernel
theorem dX12_fits_19 : decode mX12_fits.2.1 19 = .ok (.ireturn, 1) := by decide +kernel
theorem dX12_fits_20 : decode mX12_fits.2.1 20 = .ok (.aload_n 0, 1) := by decide +kernel
theorem dX12_fits_21 : decode mX12_fits.2.1 21 = .ok (.iload_n 1, 1) := by decide +kernel
theorem dX12_fits_22 : decode mX12_fits.2.1 22 = .ok (.invokevirtual 476, 3) := by decide +kernel
theorem dX12_fits_25 : decode mX12_fits.2.1 25 = .ok (.iconst 0, 1) := by decide +kernel
theorem dX12_fits_26 : decode mX12_fits.2.1 26 = .ok (.istore_n 3, 1) := by decide +kernel
theorem dX12_fits_27 : decode mX12_fits.2.1 27 = .ok (.iconst 0, 1) := by decide +kernel
theorem dX12_fits_28 : decode mX12_fits.2.1 28 = .ok (.istore 4, 2) := by decide +kernel
theorem dX12_fits_30 : decode mX12_fits.2.1 30 = .ok (.iload 4, 2) := by decide +kernel
theorem dX12_fits_32 : decode mX12_fits.2.1 32 = .ok (.bipush 16, 2) := by decide +kernel
theorem dX12_fits_34 : decode mX12_fits.2.1 34 = .ok (.if_icmp .ge 45, 3) := by decide +kernel
theorem dX12_fits_37 : decode mX12_fits.2.1 37 = .ok (.aload_n 0, 1) := by decide +kernel
theorem dX12_fits_38 : decode mX12_fits.2.1 38 = .ok (.iload_n 1, 1) := by decide +kernel
theorem dX12_fits_39 : decode mX12_fits.2.1 39 = .ok (.iload 4, 2) := by decide +kernel
theorem dX12_fits_41 : decode mX12_fits.2.1 41 = .ok (.invokevirtual 479, 3) := by decide +kernel
theorem dX12_fits_44 : decode mX12_fits.2.1 44 = .ok (.ifCond .ne 6, 3) := by decide +kernel
theorem dX12_fits_47 : decode mX12_fits.2.1 47 = .ok (.goto 26, 3) := by decide +kernel
theorem dX12_fits_50 : decode mX12_fits.2.1 50 = .ok (.iload_n 3, 1) := by decide +kernel
theorem dX12_fits_51 : decode mX12_fits.2.1 51 = .ok (.iload_n 2, 1) := by decide +kernel
theorem dX12_fits_52 : decode mX12_fits.2.1 52 = .ok (.if_icmp .ne 18, 3) := by decide +kernel
theorem dX12_fits_55 : decode mX12_fits.2.1 55 = .ok (.bipush 10, 2) := by decide +kernel
theorem dX12_fits_57 : decode mX12_fits.2.1 57 = .ok (.iload 4, 2) := by decide +kernel
theorem dX12_fits_59 : decode mX12_fits.2.1 59 = .ok (.iconst 4, 1) := by decide +kernel
theorem dX12_fits_60 : decode mX12_fits.2.1 60 = .ok (.idiv, 1) := by decide +kernel
theorem dX12_fits_61 : decode mX12_fits.2.1 61 = .ok (.iconst 1, 1) := by decide +kernel
theorem dX12_fits_62 : decode mX12_fits.2.1 62 = .ok (.iadd, 1) := by decide +kernel
theorem dX12_fits_63 : decode mX12_fits.2.1 63 = .ok (.imul, 1) := by decide +kernel
theorem dX12_fits_64 : decode mX12_fits.2.1 64 = .ok (.iload 4, 2) := by decide +kernel
theorem dX12_fits_66 : decode mX12_fits.2.1 66 = .ok (.iconst 4, 1) := by decide +kernel
theorem dX12_fits_67 : decode mX12_fits.2.1 67 = .ok (.irem, 1) := by decide +kernel
theorem dX12_fits_68 : decode mX12_fits.2.1 68 = .ok (.iadd, 1) := by decide +kernel
theorem dX12_fits_69 : decode mX12_fits.2.1 69 = .ok (.ireturn, 1) := by decide +kernel
theorem dX12_fits_70 : decode mX12_fits.2.1 70 = .ok (.iinc 3 1, 3) := by decide +kernel
theorem dX12_fits_73 : decode mX12_fits.2.1 73 = .ok (.iinc 4 1, 3) := by decide +kernel
theorem dX12_fits_76 : decode mX12_fits.2.1 76 = .ok (.goto (-46), 3) := by decide +kernel
theorem dX12_fits_79 : decode mX12_fits.2.1 79 = .ok (.iload_n 2, 1) := by decide +kernel
theorem dX12_fits_80 : decode mX12_fits.2.1 80 = .ok (.iconst (-1), 1) := by decide +kernel
theorem dX12_fits_81 : decode mX12_fits.2.1 81 = .ok (.if_icmp .ne 7, 3) := by decide +kernel
theorem dX12_fits_84 : decode mX12_fits.2.1 84 = .ok (.iload_n 3, 1) := by decide +kernel
theorem dX12_fits_85 : decode mX12_fits.2.1 85 = .ok (.goto 4, 3) := by decide +kernel
theorem dX12_fits_88 : decode mX12_fits.2.1 88 = .ok (.iconst (-1), 1) := by decide +kernel
theorem dX12_fits_89 : decode mX12_fits.2.1 89 = .ok (.ireturn, 1) := by decide +kernel
abbrev mX12_game : gz_M := (yX12_game, cX12_game, 6, some .int)
theorem dX12_game_0 : decode mX12_game.2.1 0 = .ok (.aload_n 0, 1) := by decide +kernel
theorem dX12_game_1 : decode mX12_game.2.1 1 = .ok (.iconst 0, 1) := by decide +kernel
theorem dX12_game_2 : decode mX12_game.2.1 2 = .ok (.putfield 104, 3) := by decide +kernel
theorem dX12_game_5 : decode mX12_game.2.1 5 = .ok (.aload_n 0, 1) := by decide +kernel
theorem dX12_game_6 : decode mX12_game.2.1 6 = .ok (.iload_n 1, 1) := by decide +kernel
theorem dX12_game_7 : decode mX12_game.2.1 7 = .ok (.iload_n 2, 1) := by decide +kernel
theorem dX12_game_8 : decode mX12_game.2.1 8 = .ok (.invokevirtual 482, 3) := by decide +kernel
theorem dX12_game_11 : decode mX12_game.2.1 11 = .ok (.ifCond .eq 53, 3) := by decide +kernel
theorem dX12_game_14 : decode mX12_game.2.1 14 = .ok (.iload_n 3, 1) := by decide +kernel
theorem dX12_game_15 : decode mX12_game.2.1 15 = .ok (.i2l, 1) := by decide +kernel
theorem dX12_game_16 : decode mX12_game.2.1 16 = .ok (.lconst 0, 1) := by decide +kernel
theorem dX12_game_17 : decode mX12_game.2.1 17 = .ok (.ldc2_w 406, 3) := by decide +kernel
theorem dX12_game_20 : decode mX12_game.2.1 20 = .ok (.invokestatic 225, 3) := by decide +kernel
theorem dX12_game_23 : decode mX12_game.2.1 23 = .ok (.ifCond .eq 41, 3) := by decide +kernel
theorem dX12_game_26 : decode mX12_game.2.1 26 = .ok (.iload 4, 2) := by decide +kernel
theorem dX12_game_28 : decode mX12_game.2.1 28 = .ok (.i2l, 1) := by decide +kernel
theorem dX12_game_29 : decode mX12_game.2.1 29 = .ok (.lconst 0, 1) := by decide +kernel
theorem dX12_game_30 : decode mX12_game.2.1 30 = .ok (.ldc2_w 406, 3) := by decide +kernel
theorem dX12_game_33 : decode mX12_game.2.1 33 = .ok (.invokestatic 225, 3) := by decide +kernel
theorem dX12_game_36 : decode mX12_game.2.1 36 = .ok (.ifCond .eq 28, 3) := by decide +kernel
theorem dX12_game_39 : decode mX12_game.2.1 39 = .ok (.iload 5, 2) := by decide +kernel
theorem dX12_game_41 : decode mX12_game.2.1 41 = .ok (.i2l, 1) := by decide +kernel
theorem dX12_game_42 : decode mX12_game.2.1 42 = .ok (.lconst 0, 1) := by decide +kernel
theorem dX12_game_43 : decode mX12_game.2.1 43 = .ok (.lconst 1, 1) := by decide +kernel
theorem dX12_game_44 : decode mX12_game.2.1 44 = .ok (.invokestatic 225, 3) := by decide +kernel
theorem dX12_game_47 : decode mX12_game.2.1 47 = .ok (.ifCond .eq 17, 3) := by decide +kernel
theorem dX12_game_50 : decode mX12_game.2.1 50 = .ok (.aload_n 0, 1) := by decide +kernel
theorem dX12_game_51 : decode mX12_game.2.1 51 = .ok (.iload_n 1, 1) := by decide +kernel
theorem dX12_game_52 : decode mX12_game.2.1 52 = .ok (.iload_n 2, 1) := by decide +kernel
theorem dX12_game_53 : decode mX12_game.2.1 53 = .ok (.iload_n 3, 1) := by decide +kernel
theorem dX12_game_54 : decode mX12_game.2.1 54 = .ok (.iload 4, 2) := by decide +kernel
theorem dX12_game_56 : decode mX12_game.2.1 56 = .ok (.iload 5, 2) := by decide +kernel
theorem dX12_game_58 : decode mX12_game.2.1 58 = .ok (.invokevirtual 485, 3) := by decide +kernel
theorem dX12_game_61 : decode mX12_game.2.1 61 = .ok (.goto 6, 3) := by decide +kernel
theorem dX12_game_64 : decode mX12_game.2.1 64 = .ok (.ldc_w 433, 3) := by decide +kernel
theorem dX12_game_67 : decode mX12_game.2.1 67 = .ok (.ireturn, 1) := by decide +kernel
abbrev mX12_gameOf : gz_M := (yX12_gameOf, cX12_gameOf, 11, some .int)
theorem dX12_gameOf_0 : decode mX12_gameOf.2.1 0 = .ok (.aload_n 0, 1) := by decide +kernel
theorem dX12_gameOf_1 : decode mX12_gameOf.2.1 1 = .ok (.getfield 64, 3) := by decide +kernel
theorem dX12_gameOf_4 : decode mX12_gameOf.2.1 4 = .ok (.aload_n 0, 1) := by decide +kernel
theorem dX12_gameOf_5 : decode mX12_gameOf.2.1 5 = .ok (.getfield 67, 3) := by decide +kernel
theorem dX12_gameOf_8 : decode mX12_gameOf.2.1 8 = .ok (.invokestatic 434, 3) := by decide +kernel
theorem dX12_gameOf_11 : decode mX12_gameOf.2.1 11 = .ok (.aload_n 0, 1) := by decide +kernel
theorem dX12_gameOf_12 : decode mX12_gameOf.2.1 12 = .ok (.getfield 67, 3) := by decide +kernel
theorem dX12_gameOf_15 : decode mX12_gameOf.2.1 15 = .ok (.bipush 30, 2) := by decide +kernel
theorem dX12_gameOf_17 : decode mX12_gameOf.2.1 17 = .ok (.iconst 4, 1) := by decide +kernel
theorem dX12_gameOf_18 : decode mX12_gameOf.2.1 18 = .ok (.iload_n 1, 1) := by decide +kernel
theorem dX12_gameOf_19 : decode mX12_gameOf.2.1 19 = .ok (.imul, 1) := by decide +kernel
theorem dX12_gameOf_20 : decode mX12_gameOf.2.1 20 = .ok (.iadd, 1) := by decide +kernel
theorem dX12_gameOf_21 : decode mX12_gameOf.2.1 21 = .ok (.iconst 1, 1) := by decide +kernel
theorem dX12_gameOf_22 : decode mX12_gameOf.2.1 22 = .ok (.iadd, 1) := by decide +kernel
theorem dX12_gameOf_23 : decode mX12_gameOf.2.1 23 = .ok (.iload_n 3, 1) := by decide +kernel
theorem dX12_gameOf_24 : decode mX12_gameOf.2.1 24 = .ok (.iastore, 1) := by decide +kernel
theorem dX12_gameOf_25 : decode mX12_gameOf.2.1 25 = .ok (.aload_n 0, 1) := by decide +kernel
theorem dX12_gameOf_26 : decode mX12_gameOf.2.1 26 = .ok (.getfield 67, 3) := by decide +kernel
theorem dX12_gameOf_29 : decode mX12_gameOf.2.1 29 = .ok (.bipush 30, 2) := by decide +kernel
theorem dX12_gameOf_31 : decode mX12_gameOf.2.1 31 = .ok (.iconst 4, 1) := by decide +kernel
theorem dX12_gameOf_32 : decode mX12_gameOf.2.1 32 = .ok (.iload_n 2, 1) := by decide +kernel
theorem dX12_gameOf_33 : decode mX12_gameOf.2.1 33 = .ok (.imul, 1) := by decide +kernel
theorem dX12_gameOf_34 : decode mX12_gameOf.2.1 34 = .ok (.iadd, 1) := by decide +kernel
theorem dX12_gameOf_35 : decode mX12_gameOf.2.1 35 = .ok (.iconst 1, 1) := by decide +kernel
theorem dX12_gameOf_36 : decode mX12_gameOf.2.1 36 = .ok (.iadd, 1) := by decide +kernel
theorem dX12_gameOf_37 : decode mX12_gameOf.2.1 37 = .ok (.iload 4, 2) := by decide +kernel
theorem dX12_gameOf_39 : decode mX12_gameOf.2.1 39 = .ok (.iastore, 1) := by decide +kernel
theorem dX12_gameOf_40 : decode mX12_gameOf.2.1 40 = .ok (.bipush 30, 2) := by decide +kernel
theorem dX12_gameOf_42 : decode mX12_gameOf.2.1 42 = .ok (.iconst 4, 1) := by decide +kernel
theorem dX12_gameOf_43 : decode mX12_gameOf.2.1 43 = .ok (.iload 5, 2) := by decide +kernel
theorem dX12_gameOf_45 : decode mX12_gameOf.2.1 45 = .ok (.ifCond .ne 7, 3) := by decide +kernel
theorem dX12_gameOf_48 : decode mX12_gameOf.2.1 48 = .ok (.iload_n 1, 1) := by decide +kernel
theorem dX12_gameOf_49 : decode mX12_gameOf.2.1 49 = .ok (.goto 4, 3) := by decide +kernel
theorem dX12_gameOf_52 : decode mX12_gameOf.2.1 52 = .ok (.iload_n 2, 1) := by decide +kernel
theorem dX12_gameOf_53 : decode mX12_gameOf.2.1 53 = .ok (.imul, 1) := by decide +kernel
theorem dX12_gameOf_54 : decode mX12_gameOf.2.1 54 = .ok (.iadd, 1) := by decide +kernel
theorem dX12_gameOf_55 : decode mX12_gameOf.2.1 55 = .ok (.istore 6, 2) := by decide +kernel
theorem dX12_gameOf_57 : decode mX12_gameOf.2.1 57 = .ok (.iconst 0, 1) := by decide +kernel
theorem dX12_gameOf_58 : decode mX12_gameOf.2.1 58 = .ok (.istore 7, 2) := by decide +kernel
theorem dX12_gameOf_60 : decode mX12_gameOf.2.1 60 = .ok (.iconst 0, 1) := by decide +kernel
theorem dX12_gameOf_61 : decode mX12_gameOf.2.1 61 = .ok (.istore 8, 2) := by decide +kernel
theorem dX12_gameOf_63 : decode mX12_gameOf.2.1 63 = .ok (.iconst 0, 1) := by decide +kernel
theorem dX12_gameOf_64 : decode mX12_gameOf.2.1 64 = .ok (.istore 9, 2) := by decide +kernel
theorem dX12_gameOf_66 : decode mX12_gameOf.2.1 66 = .ok (.iload 9, 2) := by decide +kernel
theorem dX12_gameOf_68 : decode mX12_gameOf.2.1 68 = .ok (.bipush 6, 2) := by decide +kernel
theorem dX12_gameOf_70 : decode mX12_gameOf.2.1 70 = .ok (.if_icmp .ge 54, 3) := by decide +kernel
theorem dX12_gameOf_73 : decode mX12_gameOf.2.1 73 = .ok (.aload_n 0, 1) := by decide +kernel
theorem dX12_gameOf_74 : decode mX12_gameOf.2.1 74 = .ok (.aload_n 0, 1) := by decide +kernel
theorem dX12_gameOf_75 : decode mX12_gameOf.2.1 75 = .ok (.getfield 67, 3) := by decide +kernel
theorem dX12_gameOf_78 : decode mX12_gameOf.2.1 78 = .ok (.invokevirtual 367, 3) := by decide +kernel
theorem dX12_gameOf_81 : decode mX12_gameOf.2.1 81 = .ok (.istore 10, 2) := by decide +kernel
theorem dX12_gameOf_83 : decode mX12_gameOf.2.1 83 = .ok (.iload 7, 2) := by decide +kernel
theorem dX12_gameOf_85 : decode mX12_gameOf.2.1 85 = .ok (.iconst 1, 1) := by decide +kernel
theorem dX12_gameOf_86 : decode mX12_gameOf.2.1 86 = .ok (.aload_n 0, 1) := by decide +kernel
theorem dX12_gameOf_87 : decode mX12_gameOf.2.1 87 = .ok (.getfield 67, 3) := by decide +kernel
theorem dX12_gameOf_90 : decode mX12_gameOf.2.1 90 = .ok (.iload 6, 2) := by decide +kernel
theorem dX12_gameOf_92 : decode mX12_gameOf.2.1 92 = .ok (.iaload, 1) := by decide +kernel
theorem dX12_gameOf_93 : decode mX12_gameOf.2.1 93 = .ok (.ishl, 1) := by decide +kernel
theorem dX12_gameOf_94 : decode mX12_gameOf.2.1 94 = .ok (.ior, 1) := by decide +kernel
theorem dX12_gameOf_95 : decode mX12_gameOf.2.1 95 = .ok (.istore 7, 2) := by decide +kernel
theorem dX12_gameOf_97 : decode mX12_gameOf.2.1 97 = .ok (.iload 8, 2) := by decide +kernel
theorem dX12_gameOf_99 : decode mX12_gameOf.2.1 99 = .ok (.ifCond .ne 12, 3) := by decide +kernel
theorem dX12_gameOf_102 : decode mX12_gameOf.2.1 102 = .ok (.aload_n 0, 1) := by decide +kernel
theorem dX12_gameOf_103 : decode mX12_gameOf.2.1 103 = .ok (.iload_n 1, 1) := by decide +kernel
theorem dX12_gameOf_104 : decode mX12_gameOf.2.1 104 = .ok (.iload_n 2, 1) := by decide +kernel
theorem dX12_gameOf_105 : decode mX12_gameOf.2.1 105 = .ok (.invokevirtual 446, 3) := by decide +kernel
theorem dX12_gameOf_108 : decode mX12_gameOf.2.1 108 = .ok (.ifCond .eq 7, 3) := by decide +kernel
theorem dX12_gameOf_111 : decode mX12_gameOf.2.1 111 = .ok (.iconst 1, 1) := by decide +kernel
theorem dX12_gameOf_112 : decode mX12_gameOf.2.1 112 = .ok (.goto 4, 3) := by decide +kernel
theorem dX12_gameOf_115 : decode mX12_gameOf.2.1 115 = .ok (.iconst 0, 1) := by decide +kernel
theorem dX12_gameOf_116 : decode mX12_gameOf.2.1 116 = .ok (.istore 8, 2) := by decide +kernel
theorem dX12_gameOf_118 : decode mX12_gameOf.2.1 118 = .ok (.iinc 9 1, 3) := by decide +kernel
theorem dX12_gameOf_121 : decode mX12_gameOf.2.1 121 = .ok (.goto (-55), 3) := by decide +kernel
theorem dX12_gameOf_124 : decode mX12_gameOf.2.1 124 = .ok (.iload 7, 2) := by decide +kernel
theorem dX12_gameOf_126 : decode mX12_gameOf.2.1 126 = .ok (.iconst 1, 1) := by decide +kernel
theorem dX12_gameOf_127 : decode mX12_gameOf.2.1 127 = .ok (.aload_n 0, 1) := by decide +kernel
theorem dX12_gameOf_128 : decode mX12_gameOf.2.1 128 = .ok (.getfield 64, 3) := by decide +kernel
theorem dX12_gameOf_131 : decode mX12_gameOf.2.1 131 = .ok (.iload 6, 2) := by decide +kernel
theorem dX12_gameOf_133 : decode mX12_gameOf.2.1 133 = .ok (.iaload, 1) := by decide +kernel
theorem dX12_gameOf_134 : decode mX12_gameOf.2.1 134 = .ok (.ishl, 1) := by decide +kernel
theorem dX12_gameOf_135 : decode mX12_gameOf.2.1 135 = .ok (.iconst (-1), 1) := by decide +kernel
theorem dX12_gameOf_136 : decode mX12_gameOf.2.1 136 = .ok (.ixor, 1) := by decide +kernel
theorem dX12_gameOf_137 : decode mX12_gameOf.2.1 137 = .ok (.iand, 1) := by decide +kernel
theorem dX12_gameOf_138 : decode mX12_gameOf.2.1 138 = .ok (.invokestatic 395, 3) := by decide +kernel
theorem dX12_gameOf_141 : decode mX12_gameOf.2.1 141 = .ok (.iload 8, 2) := by decide +kernel
theorem dX12_gameOf_143 : decode mX12_gameOf.2.1 143 = .ok (.ifCond .eq 7, 3) := by decide +kernel
theorem dX12_gameOf_146 : decode mX12_gameOf.2.1 146 = .ok (.iconst 3, 1) := by decide +kernel
theorem dX12_gameOf_147 : decode mX12_gameOf.2.1 147 = .ok (.goto 4, 3) := by decide +kernel
theorem dX12_gameOf_150 : decode mX12_gameOf.2.1 150 = .ok (.iconst 0, 1) := by decide +kernel
theorem dX12_gameOf_151 : decode mX12_gameOf.2.1 151 = .ok (.isub, 1) := by decide +kernel
theorem dX12_gameOf_152 : decode mX12_gameOf.2.1 152 = .ok (.ireturn, 1) := by decide +kernel
abbrev mX12_give : gz_M := (yX12_give, cX12_give, 2, some .int)
theorem dX12_give_0 : decode mX12_give.2.1 0 = .ok (.aload_n 0, 1) := by decide +kernel
theorem dX12_give_1 : decode mX12_give.2.1 1 = .ok (.iconst 0, 1) := by decide +kernel
theorem dX12_give_2 : decode mX12_give.2.1 2 = .ok (.putfield 104, 3) := by decide +kernel
theorem dX12_give_5 : decode mX12_give.2.1 5 = .ok (.aload_n 0, 1) := by decide +kernel
theorem dX12_give_6 : decode mX12_give.2.1 6 = .ok (.getfield 303, 3) := by decide +kernel
theorem dX12_give_9 : decode mX12_give.2.1 9 = .ok (.ifCond .eq 30, 3) := by decide +kernel
theorem dX12_give_12 : decode mX12_give.2.1 12 = .ok (.iload_n 1, 1) := by decide +kernel
theorem dX12_give_13 : decode mX12_give.2.1 13 = .ok (.i2l, 1) := by decide +kernel
theorem dX12_give_14 : decode mX12_give.2.1 14 = .ok (.lconst 1, 1) := by decide +kernel
theorem dX12_give_15 : decode mX12_give.2.1 15 = .ok (.ldc2_w 415, 3) := by decide +kernel
theorem dX12_give_18 : decode mX12_give.2.1 18 = .ok (.invokestatic 225, 3) := by decide +kernel
theorem dX12_give_21 : decode mX12_give.2.1 21 = .ok (.ifCond .eq 18, 3) := by decide +kernel
theorem dX12_give_24 : decode mX12_give.2.1 24 = .ok (.aload_n 0, 1) := by decide +kernel
theorem dX12_give_25 : decode mX12_give.2.1 25 = .ok (.getfield 64, 3) := by decide +kernel
theorem dX12_give_28 : decode mX12_give.2.1 28 = .ok (.bipush 48, 2) := by decide +kernel
theorem dX12_give_30 : decode mX12_give.2.1 30 = .ok (.iaload, 1) := by decide +kernel
theorem dX12_give_31 : decode mX12_give.2.1 31 = .ok (.iload_n 1, 1) := by decide +kernel
theorem dX12_give_32 : decode mX12_give.2.1 32 = .ok (.iadd, 1) := by decide +kernel
theorem dX12_give_33 : decode mX12_give.2.1 33 = .ok (.sipush 999, 3) := by decide +kernel
theorem dX12_give_36 : decode mX12_give.2.1 36 = .ok (.if_icmp .le 5, 3) := by decide +kernel
theorem dX12_give_39 : decode mX12_give.2.1 39 = .ok (.iconst (-1), 1) := by decide +kernel
theorem dX12_give_40 : decode mX12_give.2.1 40 = .ok (.ireturn, 1) := by decide +kernel
theorem dX12_give_41 : decode mX12_give.2.1 41 = .ok (.aload_n 0, 1) := by decide +kernel
theorem dX12_give_42 : decode mX12_give.2.1 42 = .ok (.invokevirtual 380, 3) := by decide +kernel
theorem dX12_give_45 : decode mX12_give.2.1 45 = .ok (.aload_n 0, 1) := by decide +kernel
theorem dX12_give_46 : decode mX12_give.2.1 46 = .ok (.getfield 64, 3) := by decide +kernel
theorem dX12_give_49 : decode mX12_give.2.1 49 = .ok (.bipush 48, 2) := by decide +kernel
theorem dX12_give_51 : decode mX12_give.2.1 51 = .ok (.dup2, 1) := by decide +kernel
theorem dX12_give_52 : decode mX12_give.2.1 52 = .ok (.iaload, 1) := by decide +kernel
theorem dX12_give_53 : decode mX12_give.2.1 53 = .ok (.iload_n 1, 1) := by decide +kernel
theorem dX12_give_54 : decode mX12_give.2.1 54 = .ok (.iadd, 1) := by decide +kernel
theorem dX12_give_55 : decode mX12_give.2.1 55 = .ok (.iastore, 1) := by decide +kernel
theorem dX12_give_56 : decode mX12_give.2.1 56 = .ok (.aload_n 0, 1) := by decide +kernel
theorem dX12_give_57 : decode mX12_give.2.1 57 = .ok (.getfield 64, 3) := by decide +kernel
theorem dX12_give_60 : decode mX12_give.2.1 60 = .ok (.bipush 48, 2) := by decide +kernel
theorem dX12_give_62 : decode mX12_give.2.1 62 = .ok (.iaload, 1) := by decide +kernel
theorem dX12_give_63 : decode mX12_give.2.1 63 = .ok (.ireturn, 1) := by decide +kernel
abbrev mX12_goHour : gz_M := (yX12_goHour, cX12_goHour, 4, some .int)
theorem dX12_goHour_0 : decode mX12_goHour.2.1 0 = .ok (.aload_n 0, 1) := by decide +kernel
theorem dX12_goHour_1 : decode mX12_goHour.2.1 1 = .ok (.aload_n 1, 1) := by decide +kernel
theorem dX12_goHour_2 : decode mX12_goHour.2.1 2 = .ok (.invokevirtual 367, 3) := by decide +kernel
theorem dX12_goHour_5 : decode mX12_goHour.2.1 5 = .ok (.istore_n 2, 1) := by decide +kernel
theorem dX12_goHour_6 : decode mX12_goHour.2.1 6 = .ok (.aload_n 1, 1) := by decide +kernel
theorem dX12_goHour_7 : decode mX12_goHour.2.1 7 = .ok (.bipush 50, 2) := by decide +kernel
theorem dX12_goHour_9 : decode mX12_goHour.2.1 9 = .ok (.iaload, 1) := by decide +kernel
theorem dX12_goHour_10 : decode mX12_goHour.2.1 10 = .ok (.bipush 60, 2) := by decide +kernel
theorem dX12_goHour_12 : decode mX12_goHour.2.1 12 = .ok (.if_icmp .ne 40, 3) := by decide +kernel
theorem dX12_goHour_15 : decode mX12_goHour.2.1 15 = .ok (.iconst 1, 1) := by decide +kernel
theorem dX12_goHour_16 : decode mX12_goHour.2.1 16 = .ok (.istore_n 3, 1) := by decide +kernel
theorem dX12_goHour_17 : decode mX12_goHour.2.1 17 = .ok (.iload_n 3, 1) := by decide +kernel
theorem dX12_goHour_18 : decode mX12_goHour.2.1 18 = .ok (.sipush 177, 3) := by decide +kernel
theorem dX12_goHour_21 : decode mX12_goHour.2.1 21 = .ok (.if_icmp .gt 23, 3) := by decide +kernel
theorem dX12_goHour_24 : decode mX12_goHour.2.1 24 = .ok (.aload_n 1, 1) := by decide +kernel
theorem dX12_goHour_25 : decode mX12_goHour.2.1 25 = .ok (.bipush 50, 2) := by decide +kernel
theorem dX12_goHour_27 : decode mX12_goHour.2.1 27 = .ok (.iload_n 3, 1) := by decide +kernel
theorem dX12_goHour_28 : decode mX12_goHour.2.1 28 = .ok (.iadd, 1) := by decide +kernel
theorem dX12_goHour_29 : decode mX12_goHour.2.1 29 = .ok (.aload_n 1, 1) := by decide +kernel
theorem dX12_goHour_30 : decode mX12_goHour.2.1 30 = .ok (.bipush 50, 2) := by decide +kernel
theorem dX12_goHour_32 : decode mX12_goHour.2.1 32 = .ok (.iload_n 3, 1) := by decide +kernel
theorem dX12_goHour_33 : decode mX12_goHour.2.1 33 = .ok (.iadd, 1) := by decide +kernel
theorem dX12_goHour_34 : decode mX12_goHour.2.1 34 = .ok (.iconst 3, 1) := by decide +kernel
theorem dX12_goHour_35 : decode mX12_goHour.2.1 35 = .ok (.iadd, 1) := by decide +kernel
theorem dX12_goHour_36 : decode mX12_goHour.2.1 36 = .ok (.iaload, 1) := by decide +kernel
theorem dX12_goHour_37 : decode mX12_goHour.2.1 37 = .ok (.iastore, 1) := by decide +kernel
theorem dX12_goHour_38 : decode mX12_goHour.2.1 38 = .ok (.iinc 3 1, 3) := by decide +kernel
theorem dX12_goHour_41 : decode mX12_goHour.2.1 41 = .ok (.goto (-24), 3) := by decide +kernel
theorem dX12_goHour_44 : decode mX12_goHour.2.1 44 = .ok (.aload_n 1, 1) := by decide +kernel
theorem dX12_goHour_45 : decode mX12_goHour.2.1 45 = .ok (.bipush 50, 2) := by decide +kernel
theorem dX12_goHour_47 : decode mX12_goHour.2.1 47 = .ok (.dup2, 1) := by decide +kernel
theorem dX12_goHour_48 : decode mX12_goHour.2.1 48 = .ok (.iaload, 1) := by decide +kernel
theorem dX12_goHour_49 : decode mX12_goHour.2.1 49 = .ok (.iconst 1, 1) := by decide +kernel
theorem dX12_goHour_50 : decode mX12_goHour.2.1 50 = .ok (.isub, 1) := by decide +kernel
theorem dX12_goHour_51 : decode mX12_goHour.2.1 51 = .ok (.iastore, 1) := by decide +kernel
theorem dX12_goHour_52 : decode mX12_goHour.2.1 52 = .ok (.bipush 51, 2) := by decide +kernel
theorem dX12_goHour_54 : decode mX12_goHour.2.1 54 = .ok (.iconst 3, 1) := by decide +kernel
theorem dX12_goHour_55 : decode mX12_goHour.2.1 55 = .ok (.aload_n 1, 1) := by decide +kernel
theorem dX12_goHour_56 : decode mX12_goHour.2.1 56 = .ok (.bipush 50, 2) := by decide +kernel
theorem dX12_goHour_58 : decode mX12_goHour.2.1 58 = .ok (.iaload, 1) := by decide +kernel
theorem dX12_goHour_59 : decode mX12_goHour.2.1 59 = .ok (.imul, 1) := by decide +kernel
theorem dX12_goHour_60 : decode mX12_goHour.2.1 60 = .ok (.iadd, 1) := by decide +kernel
theorem dX12_goHour_61 : decode mX12_goHour.2.1 61 = .ok (.istore_n 3, 1) := by decide +kernel
theorem dX12_goHour_62 : decode mX12_goHour.2.1 62 = .ok (.aload_n 1, 1) := by decide +kernel
theorem dX12_goHour_63 : decode mX12_goHour.2.1 63 = .ok (.iload_n 3, 1) := by decide +kernel
theorem dX12_goHour_64 : decode mX12_goHour.2.1 64 = .ok (.iload_n 2, 1) := by decide +kernel
theorem dX12_goHour_65 : decode mX12_goHour.2.1 65 = .ok (.iastore, 1) := by decide +kernel
theorem dX12_goHour_66 : decode mX12_goHour.2.1 66 = .ok (.aload_n 1, 1) := by decide +kernel
theorem dX12_goHour_67 : decode mX12_goHour.2.1 67 = .ok (.iload_n 3, 1) := by decide +kernel
theorem dX12_goHour_68 : decode mX12_goHour.2.1 68 = .ok (.iconst 1, 1) := by decide +kernel
theorem dX12_goHour_69 : decode mX12_goHour.2.1 69 = .ok (.iadd, 1) := by decide +kernel
theorem dX12_goHour_70 : decode mX12_goHour.2.1 70 = .ok (.aload_n 0, 1) := by decide +kernel
theorem dX12_goHour_71 : decode mX12_goHour.2.1 71 = .ok (.getfield 356, 3) := by decide +kernel
theorem dX12_goHour_74 : decode mX12_goHour.2.1 74 = .ok (.iastore, 1) := by decide +kernel
theorem dX12_goHour_75 : decode mX12_goHour.2.1 75 = .ok (.aload_n 1, 1) := by decide +kernel
theorem dX12_goHour_76 : decode mX12_goHour.2.1 76 = .ok (.iload_n 3, 1) := by decide +kernel
theorem dX12_goHour_77 : decode mX12_goHour.2.1 77 = .ok (.iconst 2, 1) := by decide +kernel
theorem dX12_goHour_78 : decode mX12_goHour.2.1 78 = .ok (.iadd, 1) := by decide +kernel
theorem dX12_goHour_79 : decode mX12_goHour.2.1 79 = .ok (.aload_n 1, 1) := by decide +kernel
theorem dX12_goHour_80 : decode mX12_goHour.2.1 80 = .ok (.bipush 46, 2) := by decide +kernel
theorem dX12_goHour_82 : decode mX12_goHour.2.1 82 = .ok (.iaload, 1) := by decide +kernel
theorem dX12_goHour_83 : decode mX12_goHour.2.1 83 = .ok (.iastore, 1) := by decide +kernel
theorem dX12_goHour_84 : decode mX12_goHour.2.1 84 = .ok (.aload_n 1, 1) := by decide +kernel
theorem dX12_goHour_85 : decode mX12_goHour.2.1 85 = .ok (.bipush 50, 2) := by decide +kernel
theorem dX12_goHour_87 : decode mX12_goHour.2.1 87 = .ok (.dup2, 1) := by decide +kernel
theorem dX12_goHour_88 : decode mX12_goHour.2.1 88 = .ok (.iaload, 1) := by decide +kernel
theorem dX12_goHour_89 : decode mX12_goHour.2.1 89 = .ok (.iconst 1, 1) := by decide +kernel
theorem dX12_goHour_90 : decode mX12_goHour.2.1 90 = .ok (.iadd, 1) := by decide +kernel
theorem dX12_goHour_91 : decode mX12_goHour.2.1 91 = .ok (.iastore, 1) := by decide +kernel
theorem dX12_goHour_92 : decode mX12_goHour.2.1 92 = .ok (.iload_n 2, 1) := by decide +kernel
theorem dX12_goHour_93 : decode mX12_goHour.2.1 93 = .ok (.ireturn, 1) := by decide +kernel
abbrev mX12_goPlan : gz_M := (yX12_goPlan, cX12_goPlan, 5, some .int)
theorem dX12_goPlan_0 : decode mX12_goPlan.2.1 0 = .ok (.aload_n 0, 1) := by decide +kernel
theorem dX12_goPlan_1 : decode mX12_goPlan.2.1 1 = .ok (.getfield 58, 3) := by decide +kernel
theorem dX12_goPlan_4 : decode mX12_goPlan.2.1 4 = .ok (.iload_n 2, 1) := by decide +kernel
theorem dX12_goPlan_5 : decode mX12_goPlan.2.1 5 = .ok (.iconst 1, 1) := by decide +kernel
theorem dX12_goPlan_6 : decode mX12_goPlan.2.1 6 = .ok (.iadd, 1) := by decide +kernel
theorem dX12_goPlan_7 : decode mX12_goPlan.2.1 7 = .ok (.iaload, 1) := by decide +kernel
theorem dX12_goPlan_8 : decode mX12_goPlan.2.1 8 = .ok (.istore_n 3, 1) := by decide +kernel
theorem dX12_goPlan_9 : decode mX12_goPlan.2.1 9 = .ok (.iconst 0, 1) := by decide +kernel
theorem dX12_goPlan_10 : decode mX12_goPlan.2.1 10 = .ok (.istore 4, 2) := by decide +kernel
theorem dX12_goPlan_12 : decode mX12_goPlan.2.1 12 = .ok (.aload_n 0, 1) := by decide +kernel
theorem dX12_goPlan_13 : decode mX12_goPlan.2.1 13 = .ok (.getfield 58, 3) := by decide +kernel
theorem dX12_goPlan_16 : decode mX12_goPlan.2.1 16 = .ok (.iload_n 2, 1) := by decide +kernel
theorem dX12_goPlan_17 : decode mX12_goPlan.2.1 17 = .ok (.iaload, 1) := by decide +kernel
theorem dX12_goPlan_18 : decode mX12_goPlan.2.1 18 = .ok (.tableswitch 63 0 2 #[26, 32, 56], 26) := by decide +kernel
theorem dX12_goPlan_44 : decode mX12_goPlan.2.1 44 = .ok (.aload_n 0, 1) := by decide +kernel
theorem dX12_goPlan_45 : decode mX12_goPlan.2.1 45 = .ok (.aload_n 1, 1) := by decide +kernel
theorem dX12_goPlan_46 : decode mX12_goPlan.2.1 46 = .ok (.invokevirtual 383, 3) := by decide +kernel
theorem dX12_goPlan_49 : decode mX12_goPlan.2.1 49 = .ok (.ireturn, 1) := by decide +kernel
theorem dX12_goPlan_50 : decode mX12_goPlan.2.1 50 = .ok (.aload_n 1, 1) := by decide +kernel
theorem dX12_goPlan_51 : decode mX12_goPlan.2.1 51 = .ok (.bipush 48, 2) := by decide +kernel
theorem dX12_goPlan_53 : decode mX12_goPlan.2.1 53 = .ok (.dup2, 1) := by decide +kernel
theorem dX12_goPlan_54 : decode mX12_goPlan.2.1 54 = .ok (.iaload, 1) := by decide +kernel
theorem dX12_goPlan_55 : decode mX12_goPlan.2.1 55 = .ok (.iconst 3, 1) := by decide +kernel
theorem dX12_goPlan_56 : decode mX12_goPlan.2.1 56 = .ok (.isub, 1) := by decide +kernel
theorem dX12_goPlan_57 : decode mX12_goPlan.2.1 57 = .ok (.iastore, 1) := by decide +kernel
theorem dX12_goPlan_58 : decode mX12_goPlan.2.1 58 = .ok (.aload_n 0, 1) := by decide +kernel
theorem dX12_goPlan_59 : decode mX12_goPlan.2.1 59 = .ok (.aload_n 1, 1) := by decide +kernel
theorem dX12_goPlan_60 : decode mX12_goPlan.2.1 60 = .ok (.iload_n 3, 1) := by decide +kernel
theorem dX12_goPlan_61 : decode mX12_goPlan.2.1 61 = .ok (.aload_n 0, 1) := by decide +kernel
theorem dX12_goPlan_62 : decode mX12_goPlan.2.1 62 = .ok (.getfield 58, 3) := by decide +kernel
theorem dX12_goPlan_65 : decode mX12_goPlan.2.1 65 = .ok (.iload_n 2, 1) := by decide +kernel
theorem dX12_goPlan_66 : decode mX12_goPlan.2.1 66 = .ok (.iconst 2, 1) := by decide +kernel
theorem dX12_goPlan_67 : decode mX12_goPlan.2.1 67 = .ok (.iadd, 1) := by decide +kernel
theorem dX12_goPlan_68 : decode mX12_goPlan.2.1 68 = .ok (.iaload, 1) := by decide +kernel
theorem dX12_goPlan_69 : decode mX12_goPlan.2.1 69 = .ok (.invokevirtual 412, 3) := by decide +kernel
theorem dX12_goPlan_72 : decode mX12_goPlan.2.1 72 = .ok (.iconst 0, 1) := by decide +kernel
theorem dX12_goPlan_73 : decode mX12_goPlan.2.1 73 = .ok (.ireturn, 1) := by decide +kernel
theorem dX12_goPlan_74 : decode mX12_goPlan.2.1 74 = .ok (.aload_n 1, 1) := by decide +kernel
theorem dX12_goPlan_75 : decode mX12_goPlan.2.1 75 = .ok (.bipush 46, 2) := by decide +kernel
theorem dX12_goPlan_77 : decode mX12_goPlan.2.1 77 = .ok (.iload_n 3, 1) := by decide +kernel
theorem dX12_goPlan_78 : decode mX12_goPlan.2.1 78 = .ok (.iastore, 1) := by decide +kernel
theorem dX12_goPlan_79 : decode mX12_goPlan.2.1 79 = .ok (.iconst 0, 1) := by decide +kernel
theorem dX12_goPlan_80 : decode mX12_goPlan.2.1 80 = .ok (.ireturn, 1) := by decide +kernel
theorem dX12_goPlan_81 : decode mX12_goPlan.2.1 81 = .ok (.aload_n 0, 1) := by decide +kernel
theorem dX12_goPlan_82 : decode mX12_goPlan.2.1 82 = .ok (.aload_n 1, 1) := by decide +kernel
theorem dX12_goPlan_83 : decode mX12_goPlan.2.1 83 = .ok (.iload_n 3, 1) := by decide +kernel
theorem dX12_goPlan_84 : decode mX12_goPlan.2.1 84 = .ok (.invokevirtual 403, 3) := by decide +kernel
theorem dX12_goPlan_87 : decode mX12_goPlan.2.1 87 = .ok (.istore 4, 2) := by decide +kernel
theorem dX12_goPlan_89 : decode mX12_goPlan.2.1 89 = .ok (.iconst 0, 1) := by decide +kernel
theorem dX12_goPlan_90 : decode mX12_goPlan.2.1 90 = .ok (.ireturn, 1) := by decide +kernel
abbrev mX12_goStep : gz_M := (yX12_goStep, cX12_goStep, 6, none)
theorem dX12_goStep_0 : decode mX12_goStep.2.1 0 = .ok (.bipush 30, 2) := by decide +kernel
theorem dX12_goStep_2 : decode mX12_goStep.2.1 2 = .ok (.iconst 4, 1) := by decide +kernel
theorem dX12_goStep_3 : decode mX12_goStep.2.1 3 = .ok (.iload_n 2, 1) := by decide +kernel
theorem dX12_goStep_4 : decode mX12_goStep.2.1 4 = .ok (.imul, 1) := by decide +kernel
theorem dX12_goStep_5 : decode mX12_goStep.2.1 5 = .ok (.iadd, 1) := by decide +kernel
theorem dX12_goStep_6 : decode mX12_goStep.2.1 6 = .ok (.istore 4, 2) := by decide +kernel
theorem dX12_goStep_8 : decode mX12_goStep.2.1 8 = .ok (.aload_n 1, 1) := by decide +kernel
theorem dX12_goStep_9 : decode mX12_goStep.2.1 9 = .ok (.iload 4, 2) := by decide +kernel
theorem dX12_goStep_11 : decode mX12_goStep.2.1 11 = .ok (.iconst 1, 1) := by decide +kernel
theorem dX12_goStep_12 : decode mX12_goStep.2.1 12 = .ok (.iadd, 1) := by decide +kernel
theorem dX12_goStep_13 : decode mX12_goStep.2.1 13 = .ok (.aload_n 0, 1) := by decide +kernel
theorem dX12_goStep_14 : decode mX12_goStep.2.1 14 = .ok (.aload_n 1, 1) := by decide +kernel
theorem dX12_goStep_15 : decode mX12_goStep.2.1 15 = .ok (.iload_n 2, 1) := by decide +kernel
theorem dX12_goStep_16 : decode mX12_goStep.2.1 16 = .ok (.iload_n 3, 1) := by decide +kernel
theorem dX12_goStep_17 : decode mX12_goStep.2.1 17 = .ok (.invokevirtual 343, 3) := by decide +kernel
theorem dX12_goStep_20 : decode mX12_goStep.2.1 20 = .ok (.iastore, 1) := by decide +kernel
theorem dX12_goStep_21 : decode mX12_goStep.2.1 21 = .ok (.aload_n 0, 1) := by decide +kernel
theorem dX12_goStep_22 : decode mX12_goStep.2.1 22 = .ok (.aload_n 1, 1) := by decide +kernel
theorem dX12_goStep_23 : decode mX12_goStep.2.1 23 = .ok (.aload_n 1, 1) := by decide +kernel
theorem dX12_goStep_24 : decode mX12_goStep.2.1 24 = .ok (.iload 4, 2) := by decide +kernel
theorem dX12_goStep_26 : decode mX12_goStep.2.1 26 = .ok (.iconst 0, 1) := by decide +kernel
theorem dX12_goStep_27 : decode mX12_goStep.2.1 27 = .ok (.iadd, 1) := by decide +kernel
theorem dX12_goStep_28 : decode mX12_goStep.2.1 28 = .ok (.iaload, 1) := by decide +kernel
theorem dX12_goStep_29 : decode mX12_goStep.2.1 29 = .ok (.aload_n 1, 1) := by decide +kernel
theorem dX12_goStep_30 : decode mX12_goStep.2.1 30 = .ok (.iload 4, 2) := by decide +kernel
theorem dX12_goStep_32 : decode mX12_goStep.2.1 32 = .ok (.iconst 1, 1) := by decide +kernel
theorem dX12_goStep_33 : decode mX12_goStep.2.1 33 = .ok (.iadd, 1) := by decide +kernel
theorem dX12_goStep_34 : decode mX12_goStep.2.1 34 = .ok (.iaload, 1) := by decide +kernel
theorem dX12_goStep_35 : decode mX12_goStep.2.1 35 = .ok (.invokevirtual 335, 3) := by decide +kernel
theorem dX12_goStep_38 : decode mX12_goStep.2.1 38 = .ok (.istore 5, 2) := by decide +kernel
theorem dX12_goStep_40 : decode mX12_goStep.2.1 40 = .ok (.iload 5, 2) := by decide +kernel
theorem dX12_goStep_42 : decode mX12_goStep.2.1 42 = .ok (.iconst 1, 1) := by decide +kernel
theorem dX12_goStep_43 : decode mX12_goStep.2.1 43 = .ok (.if_icmp .ne 4, 3) := by decide +kernel
theorem dX12_goStep_46 : decode mX12_goStep.2.1 46 = .ok (.return_, 1) := by decide +kernel
theorem dX12_goStep_47 : decode mX12_goStep.2.1 47 = .ok (.aload_n 1, 1) := by decide +kernel
theorem dX12_goStep_48 : decode mX12_goStep.2.1 48 = .ok (.iload 4, 2) := by decide +kernel
theorem dX12_goStep_50 : decode mX12_goStep.2.1 50 = .ok (.iconst 0, 1) := by decide +kernel
theorem dX12_goStep_51 : decode mX12_goStep.2.1 51 = .ok (.iadd, 1) := by decide +kernel
theorem dX12_goStep_52 : decode mX12_goStep.2.1 52 = .ok (.aload_n 0, 1) := by decide +kernel
theorem dX12_goStep_53 : decode mX12_goStep.2.1 53 = .ok (.aload_n 1, 1) := by decide +kernel
theorem dX12_goStep_54 : decode mX12_goStep.2.1 54 = .ok (.iload 4, 2) := by decide +kernel
theorem dX12_goStep_56 : decode mX12_goStep.2.1 56 = .ok (.iconst 0, 1) := by decide +kernel
theorem dX12_goStep_57 : decode mX12_goStep.2.1 57 = .ok (.iadd, 1) := by decide +kernel
theorem dX12_goStep_58 : decode mX12_goStep.2.1 58 = .ok (.iaload, 1) := by decide +kernel
theorem dX12_goStep_59 : decode mX12_goStep.2.1 59 = .ok (.aload_n 1, 1) := by decide +kernel
theorem dX12_goStep_60 : decode mX12_goStep.2.1 60 = .ok (.iload 4, 2) := by decide +kernel
theorem dX12_goStep_62 : decode mX12_goStep.2.1 62 = .ok (.iconst 1, 1) := by decide +kernel
theorem dX12_goStep_63 : decode mX12_goStep.2.1 63 = .ok (.iadd, 1) := by decide +kernel
theorem dX12_goStep_64 : decode mX12_goStep.2.1 64 = .ok (.iaload, 1) := by decide +kernel
theorem dX12_goStep_65 : decode mX12_goStep.2.1 65 = .ok (.invokevirtual 328, 3) := by decide +kernel
theorem dX12_goStep_68 : decode mX12_goStep.2.1 68 = .ok (.iastore, 1) := by decide +kernel
theorem dX12_goStep_69 : decode mX12_goStep.2.1 69 = .ok (.aload_n 1, 1) := by decide +kernel
theorem dX12_goStep_70 : decode mX12_goStep.2.1 70 = .ok (.iload 4, 2) := by decide +kernel
theorem dX12_goStep_72 : decode mX12_goStep.2.1 72 = .ok (.iconst 2, 1) := by decide +kernel
theorem dX12_goStep_73 : decode mX12_goStep.2.1 73 = .ok (.iadd, 1) := by decide +kernel
theorem dX12_goStep_74 : decode mX12_goStep.2.1 74 = .ok (.dup2, 1) := by decide +kernel
theorem dX12_goStep_75 : decode mX12_goStep.2.1 75 = .ok (.iaload, 1) := by decide +kernel
theorem dX12_goStep_76 : decode mX12_goStep.2.1 76 = .ok (.iconst 1, 1) := by decide +kernel
theorem dX12_goStep_77 : decode mX12_goStep.2.1 77 = .ok (.iadd, 1) := by decide +kernel
theorem dX12_goStep_78 : decode mX12_goStep.2.1 78 = .ok (.iastore, 1) := by decide +kernel
theorem dX12_goStep_79 : decode mX12_goStep.2.1 79 = .ok (.iload 5, 2) := by decide +kernel
theorem dX12_goStep_81 : decode mX12_goStep.2.1 81 = .ok (.iconst 2, 1) := by decide +kernel
theorem dX12_goStep_82 : decode mX12_goStep.2.1 82 = .ok (.if_icmp .ne 10, 3) := by decide +kernel
theorem dX12_goStep_85 : decode mX12_goStep.2.1 85 = .ok (.aload_n 1, 1) := by decide +kernel
theorem dX12_goStep_86 : decode mX12_goStep.2.1 86 = .ok (.iload 4, 2) := by decide +kernel
theorem dX12_goStep_88 : decode mX12_goStep.2.1 88 = .ok (.iconst 3, 1) := by decide +kernel
theorem dX12_goStep_89 : decode mX12_goStep.2.1 89 = .ok (.iadd, 1) := by decide +kernel
theorem dX12_goStep_90 : decode mX12_goStep.2.1 90 = .ok (.iconst 2, 1) := by decide +kernel
theorem dX12_goStep_91 : decode mX12_goStep.2.1 91 = .ok (.iastore, 1) := by decide +kernel
theorem dX12_goStep_92 : decode mX12_goStep.2.1 92 = .ok (.iload 5, 2) := by decide +kernel
theorem dX12_goStep_94 : decode mX12_goStep.2.1 94 = .ok (.iconst 3, 1) := by decide +kernel
theorem dX12_goStep_95 : decode mX12_goStep.2.1 95 = .ok (.if_icmp .ne 10, 3) := by decide +kernel
theorem dX12_goStep_98 : decode mX12_goStep.2.1 98 = .ok (.aload_n 1, 1) := by decide +kernel
theorem dX12_goStep_99 : decode mX12_goStep.2.1 99 = .ok (.iload 4, 2) := by decide +kernel
theorem dX12_goStep_101 : decode mX12_goStep.2.1 101 = .ok (.iconst 3, 1) := by decide +kernel
theorem dX12_goStep_102 : decode mX12_goStep.2.1 102 = .ok (.iadd, 1) := by decide +kernel
theorem dX12_goStep_103 : decode mX12_goStep.2.1 103 = .ok (.iconst 1, 1) := by decide +kernel
theorem dX12_goStep_104 : decode mX12_goStep.2.1 104 = .ok (.iastore, 1) := by decide +kernel
theorem dX12_goStep_105 : decode mX12_goStep.2.1 105 = .ok (.return_, 1) := by decide +kernel
abbrev mX12_goSteps : gz_M := (yX12_goSteps, cX12_goSteps, 6, none)
theorem dX12_goSteps_0 : decode mX12_goSteps.2.1 0 = .ok (.iconst 0, 1) := by decide +kernel
theorem dX12_goSteps_1 : decode mX12_goSteps.2.1 1 = .ok (.istore_n 2, 1) := by decide +kernel
theorem dX12_goSteps_2 : decode mX12_goSteps.2.1 2 = .ok (.iload_n 2, 1) := by decide +kernel
theorem dX12_goSteps_3 : decode mX12_goSteps.2.1 3 = .ok (.bipush 30, 2) := by decide +kernel
theorem dX12_goSteps_5 : decode mX12_goSteps.2.1 5 = .ok (.if_icmp .ge 16, 3) := by decide +kernel
theorem dX12_goSteps_8 : decode mX12_goSteps.2.1 8 = .ok (.aload_n 0, 1) := by decide +kernel
theorem dX12_goSteps_9 : decode mX12_goSteps.2.1 9 = .ok (.getfield 86, 3) := by decide +kernel
theorem dX12_goSteps_12 : decode mX12_goSteps.2.1 12 = .ok (.iload_n 2, 1) := by decide +kernel
theorem dX12_goSteps_13 : decode mX12_goSteps.2.1 13 = .ok (.iconst (-1), 1) := by decide +kernel
theorem dX12_goSteps_14 : decode mX12_goSteps.2.1 14 = .ok (.iastore, 1) := by decide +kernel
theorem dX12_goSteps_15 : decode mX12_goSteps.2.1 15 = .ok (.iinc 2 1, 3) := by decide +kernel
theorem dX12_goSteps_18 : decode mX12_goSteps.2.1 18 = .ok (.goto (-16), 3) := by decide +kernel
theorem dX12_goSteps_21 : decode mX12_goSteps.2.1 21 = .ok (.aload_n 0, 1) := by decide +kernel
theorem dX12_goSteps_22 : decode mX12_goSteps.2.1 22 = .ok (.iload_n 1, 1) := by decide +kernel
theorem dX12_goSteps_23 : decode mX12_goSteps.2.1 23 = .ok (.invokevirtual 456, 3) := by decide +kernel
theorem dX12_goSteps_26 : decode mX12_goSteps.2.1 26 = .ok (.ifCond .ne 4, 3) := by decide +kernel
theorem dX12_goSteps_29 : decode mX12_goSteps.2.1 29 = .ok (.return_, 1) := by decide +kernel
theorem dX12_goSteps_30 : decode mX12_goSteps.2.1 30 = .ok (.aload_n 0, 1) := by decide +kernel
theorem dX12_goSteps_31 : decode mX12_goSteps.2.1 31 = .ok (.getfield 86, 3) := by decide +kernel
theorem dX12_goSteps_34 : decode mX12_goSteps.2.1 34 = .ok (.iload_n 1, 1) := by decide +kernel
theorem dX12_goSteps_35 : decode mX12_goSteps.2.1 35 = .ok (.iconst 0, 1) := by decide +kernel
theorem dX12_goSteps_36 : decode mX12_goSteps.2.1 36 = .ok (.iastore, 1) := by decide +kernel
theorem dX12_goSteps_37 : decode mX12_goSteps.2.1 37 = .ok (.iconst 0, 1) := by decide +kernel
theorem dX12_goSteps_38 : decode mX12_goSteps.2.1 38 = .ok (.istore_n 2, 1) := by decide +kernel
theorem dX12_goSteps_39 : decode mX12_goSteps.2.1 39 = .ok (.iload_n 2, 1) := by decide +kernel
theorem dX12_goSteps_40 : decode mX12_goSteps.2.1 40 = .ok (.bipush 30, 2) := by decide +kernel
theorem dX12_goSteps_42 : decode mX12_goSteps.2.1 42 = .ok (.if_icmp .ge 98, 3) := by decide +kernel
theorem dX12_goSteps_45 : decode mX12_goSteps.2.1 45 = .ok (.iconst 0, 1) := by decide +kernel
theorem dX12_goSteps_46 : decode mX12_goSteps.2.1 46 = .ok (.istore_n 3, 1) := by decide +kernel
theorem dX12_goSteps_47 : decode mX12_goSteps.2.1 47 = .ok (.iload_n 3, 1) := by decide +kernel
theorem dX12_goSteps_48 : decode mX12_goSteps.2.1 48 = .ok (.aload_n 0, 1) := by decide +kernel
theorem dX12_goSteps_49 : decode mX12_goSteps.2.1 49 = .ok (.invokevirtual 319, 3) := by decide +kernel
theorem dX12_goSteps_52 : decode mX12_goSteps.2.1 52 = .ok (.if_icmp .ge 82, 3) := by decide +kernel
theorem dX12_goSteps_55 : decode mX12_goSteps.2.1 55 = .ok (.aload_n 0, 1) := by decide +kernel
theorem dX12_goSteps_56 : decode mX12_goSteps.2.1 56 = .ok (.getfield 86, 3) := by decide +kernel
theorem dX12_goSteps_59 : decode mX12_goSteps.2.1 59 = .ok (.iload_n 3, 1) := by decide +kernel
theorem dX12_goSteps_60 : decode mX12_goSteps.2.1 60 = .ok (.iaload, 1) := by decide +kernel
theorem dX12_goSteps_61 : decode mX12_goSteps.2.1 61 = .ok (.iload_n 2, 1) := by decide +kernel
theorem dX12_goSteps_62 : decode mX12_goSteps.2.1 62 = .ok (.if_icmp .eq 6, 3) := by decide +kernel
theorem dX12_goSteps_65 : decode mX12_goSteps.2.1 65 = .ok (.goto 63, 3) := by decide +kernel
theorem dX12_goSteps_68 : decode mX12_goSteps.2.1 68 = .ok (.iconst 0, 1) := by decide +kernel
theorem dX12_goSteps_69 : decode mX12_goSteps.2.1 69 = .ok (.istore 4, 2) := by decide +kernel
theorem dX12_goSteps_71 : decode mX12_goSteps.2.1 71 = .ok (.iload 4, 2) := by decide +kernel
theorem dX12_goSteps_73 : decode mX12_goSteps.2.1 73 = .ok (.iconst 4, 1) := by decide +kernel
theorem dX12_goSteps_74 : decode mX12_goSteps.2.1 74 = .ok (.if_icmp .ge 54, 3) := by decide +kernel
theorem dX12_goSteps_77 : decode mX12_goSteps.2.1 77 = .ok (.aload_n 0, 1) := by decide +kernel
theorem dX12_goSteps_78 : decode mX12_goSteps.2.1 78 = .ok (.iload_n 3, 1) := by decide +kernel
theorem dX12_goSteps_79 : decode mX12_goSteps.2.1 79 = .ok (.iload 4, 2) := by decide +kernel
theorem dX12_goSteps_81 : decode mX12_goSteps.2.1 81 = .ok (.invokevirtual 328, 3) := by decide +kernel
theorem dX12_goSteps_84 : decode mX12_goSteps.2.1 84 = .ok (.istore 5, 2) := by decide +kernel
theorem dX12_goSteps_86 : decode mX12_goSteps.2.1 86 = .ok (.iload 5, 2) := by decide +kernel
theorem dX12_goSteps_88 : decode mX12_goSteps.2.1 88 = .ok (.iconst (-1), 1) := by decide +kernel
theorem dX12_goSteps_89 : decode mX12_goSteps.2.1 89 = .ok (.if_icmp .eq 33, 3) := by decide +kernel
theorem dX12_goSteps_92 : decode mX12_goSteps.2.1 92 = .ok (.aload_n 0, 1) := by decide +kernel
theorem dX12_goSteps_93 : decode mX12_goSteps.2.1 93 = .ok (.getfield 86, 3) := by decide +kernel
theorem dX12_goSteps_96 : decode mX12_goSteps.2.1 96 = .ok (.iload 5, 2) := by decide +kernel
theorem dX12_goSteps_98 : decode mX12_goSteps.2.1 98 = .ok (.iaload, 1) := by decide +kernel
theorem dX12_goSteps_99 : decode mX12_goSteps.2.1 99 = .ok (.iconst (-1), 1) := by decide +kernel
theorem dX12_goSteps_100 : decode mX12_goSteps.2.1 100 = .ok (.if_icmp .ne 22, 3) := by decide +kernel
theorem dX12_goSteps_103 : decode mX12_goSteps.2.1 103 = .ok (.aload_n 0, 1) := by decide +kernel
theorem dX12_goSteps_104 : decode mX12_goSteps.2.1 104 = .ok (.iload 5, 2) := by decide +kernel
theorem dX12_goSteps_106 : decode mX12_goSteps.2.1 106 = .ok (.invokevirtual 456, 3) := by decide +kernel
theorem dX12_goSteps_109 : decode mX12_goSteps.2.1 109 = .ok (.ifCond .eq 13, 3) := by decide +kernel
theorem dX12_goSteps_112 : decode mX12_goSteps.2.1 112 = .ok (.aload_n 0, 1) := by decide +kernel
theorem dX12_goSteps_113 : decode mX12_goSteps.2.1 113 = .ok (.getfield 86, 3) := by decide +kernel
theorem dX12_goSteps_116 : decode mX12_goSteps.2.1 116 = .ok (.iload 5, 2) := by decide +kernel
theorem dX12_goSteps_118 : decode mX12_goSteps.2.1 118 = .ok (.iload_n 2, 1) := by decide +kernel
theorem dX12_goSteps_119 : decode mX12_goSteps.2.1 119 = .ok (.iconst 1, 1) := by decide +kernel
theorem dX12_goSteps_120 : decode mX12_goSteps.2.1 120 = .ok (.iadd, 1) := by decide +kernel
theorem dX12_goSteps_121 : decode mX12_goSteps.2.1 121 = .ok (.iastore, 1) := by decide +kernel
theorem dX12_goSteps_122 : decode mX12_goSteps.2.1 122 = .ok (.iinc 4 1, 3) := by decide +kernel
theorem dX12_goSteps_125 : decode mX12_goSteps.2.1 125 = .ok (.goto (-54), 3) := by decide +kernel
theorem dX12_goSteps_128 : decode mX12_goSteps.2.1 128 = .ok (.iinc 3 1, 3) := by decide +kernel
theorem dX12_goSteps_131 : decode mX12_goSteps.2.1 131 = .ok (.goto (-84), 3) := by decide +kernel
theorem dX12_goSteps_134 : decode mX12_goSteps.2.1 134 = .ok (.iinc 2 1, 3) := by decide +kernel
theorem dX12_goSteps_137 : decode mX12_goSteps.2.1 137 = .ok (.goto (-98), 3) := by decide +kernel
theorem dX12_goSteps_140 : decode mX12_goSteps.2.1 140 = .ok (.return_, 1) := by decide +kernel
abbrev mX12_goThrough : gz_M := (yX12_goThrough, cX12_goThrough, 4, none)
theorem dX12_goThrough_0 : decode mX12_goThrough.2.1 0 = .ok (.aload_n 0, 1) := by decide +kernel
theorem dX12_goThrough_1 : decode mX12_goThrough.2.1 1 = .ok (.aload_n 1, 1) := by decide +kernel
theorem dX12_goThrough_2 : decode mX12_goThrough.2.1 2 = .ok (.iload_n 2, 1) := by decide +kernel
theorem dX12_goThrough_3 : decode mX12_goThrough.2.1 3 = .ok (.iload_n 3, 1) := by decide +kernel
theorem dX12_goThrough_4 : decode mX12_goThrough.2.1 4 = .ok (.invokevirtual 215, 3) := by decide +kernel
theorem dX12_goThrough_7 : decode mX12_goThrough.2.1 7 = .ok (.aload_n 0, 1) := by decide +kernel
theorem dX12_goThrough_8 : decode mX12_goThrough.2.1 8 = .ok (.bipush 121, 2) := by decide +kernel
theorem dX12_goThrough_10 : decode mX12_goThrough.2.1 10 = .ok (.putfield 209, 3) := by decide +kernel
theorem dX12_goThrough_13 : decode mX12_goThrough.2.1 13 = .ok (.aload_n 0, 1) := by decide +kernel
theorem dX12_goThrough_14 : decode mX12_goThrough.2.1 14 = .ok (.iconst 0, 1) := by decide +kernel
theorem dX12_goThrough_15 : decode mX12_goThrough.2.1 15 = .ok (.putfield 139, 3) := by decide +kernel
theorem dX12_goThrough_18 : decode mX12_goThrough.2.1 18 = .ok (.aload_n 0, 1) := by decide +kernel
theorem dX12_goThrough_19 : decode mX12_goThrough.2.1 19 = .ok (.iconst 0, 1) := by decide +kernel
theorem dX12_goThrough_20 : decode mX12_goThrough.2.1 20 = .ok (.putfield 205, 3) := by decide +kernel
theorem dX12_goThrough_23 : decode mX12_goThrough.2.1 23 = .ok (.aload_n 0, 1) := by decide +kernel
theorem dX12_goThrough_24 : decode mX12_goThrough.2.1 24 = .ok (.iconst 0, 1) := by decide +kernel
theorem dX12_goThrough_25 : decode mX12_goThrough.2.1 25 = .ok (.putfield 212, 3) := by decide +kernel
theorem dX12_goThrough_28 : decode mX12_goThrough.2.1 28 = .ok (.aload_n 0, 1) := by decide +kernel
theorem dX12_goThrough_29 : decode mX12_goThrough.2.1 29 = .ok (.invokevirtual 219, 3) := by decide +kernel
theorem dX12_goThrough_32 : decode mX12_goThrough.2.1 32 = .ok (.aload_n 0, 1) := by decide +kernel
theorem dX12_goThrough_33 : decode mX12_goThrough.2.1 33 = .ok (.getfield 136, 3) := by decide +kernel
theorem dX12_goThrough_36 : decode mX12_goThrough.2.1 36 = .ok (.iconst (-1), 1) := by decide +kernel
theorem dX12_goThrough_37 : decode mX12_goThrough.2.1 37 = .ok (.if_icmp .ne 29, 3) := by decide +kernel
theorem dX12_goThrough_40 : decode mX12_goThrough.2.1 40 = .ok (.aload_n 0, 1) := by decide +kernel
theorem dX12_goThrough_41 : decode mX12_goThrough.2.1 41 = .ok (.invokevirtual 146, 3) := by decide +kernel
theorem dX12_goThrough_44 : decode mX12_goThrough.2.1 44 = .ok (.bipush 59, 2) := by decide +kernel
theorem dX12_goThrough_46 : decode mX12_goThrough.2.1 46 = .ok (.if_icmp .ne 20, 3) := by decide +kernel
theorem dX12_goThrough_49 : decode mX12_goThrough.2.1 49 = .ok (.aload_n 0, 1) := by decide +kernel
theorem dX12_goThrough_50 : decode mX12_goThrough.2.1 50 = .ok (.dup, 1) := by decide +kernel
theorem dX12_goThrough_51 : decode mX12_goThrough.2.1 51 = .ok (.getfield 127, 3) := by decide +kernel
theorem dX12_goThrough_54 : decode mX12_goThrough.2.1 54 = .ok (.iconst 1, 1) := by decide +kernel
theorem dX12_goThrough_55 : decode mX12_goThrough.2.1 55 = .ok (.iadd, 1) := by decide +kernel
theorem dX12_goThrough_56 : decode mX12_goThrough.2.1 56 = .ok (.putfield 127, 3) := by decide +kernel
theorem dX12_goThrough_59 : decode mX12_goThrough.2.1 59 = .ok (.aload_n 0, 1) := by decide +kernel
theorem dX12_goThrough_60 : decode mX12_goThrough.2.1 60 = .ok (.invokevirtual 219, 3) := by decide +kernel
theorem dX12_goThrough_63 : decode mX12_goThrough.2.1 63 = .ok (.goto (-31), 3) := by decide +kernel
theorem dX12_goThrough_66 : decode mX12_goThrough.2.1 66 = .ok (.aload_n 0, 1) := by decide +kernel
theorem dX12_goThrough_67 : decode mX12_goThrough.2.1 67 = .ok (.getfield 136, 3) := by decide +kernel
theorem dX12_goThrough_70 : decode mX12_goThrough.2.1 70 = .ok (.iconst (-1), 1) := by decide +kernel
theorem dX12_goThrough_71 : decode mX12_goThrough.2.1 71 = .ok (.if_icmp .ne 16, 3) := by decide +kernel
theorem dX12_goThrough_74 : decode mX12_goThrough.2.1 74 = .ok (.aload_n 0, 1) := by decide +kernel
theorem dX12_goThrough_75 : decode mX12_goThrough.2.1 75 = .ok (.invokevirtual 146, 3) := by decide +kernel
theorem dX12_goThrough_78 : decode mX12_goThrough.2.1 78 = .ok (.iconst (-1), 1) := by decide +kernel
theorem dX12_goThrough_79 : decode mX12_goThrough.2.1 79 = .ok (.if_icmp .eq 8, 3) := by decide +kernel
theorem dX12_goThrough_82 : decode mX12_goThrough.2.1 82 = .ok (.aload_n 0, 1) := by decide +kernel
theorem dX12_goThrough_83 : decode mX12_goThrough.2.1 83 = .ok (.invokevirtual 142, 3) := by decide +kernel
theorem dX12_goThrough_86 : decode mX12_goThrough.2.1 86 = .ok (.pop, 1) := by decide +kernel
theorem dX12_goThrough_87 : decode mX12_goThrough.2.1 87 = .ok (.return_, 1) := by decide +kernel
abbrev mX12_goer : gz_M := (yX12_goer, cX12_goer, 3, some .int)
theorem dX12_goer_0 : decode mX12_goer.2.1 0 = .ok (.aload_n 0, 1) := by decide +kernel
theorem dX12_goer_1 : decode mX12_goer.2.1 1 = .ok (.aload_n 0, 1) := by decide +kernel
theorem dX12_goer_2 : decode mX12_goer.2.1 2 = .ok (.iload_n 1, 1) := by decide +kernel
theorem dX12_goer_3 : decode mX12_goer.2.1 3 = .ok (.invokevirtual 325, 3) := by decide +kernel
theorem dX12_goer_6 : decode mX12_goer.2.1 6 = .ok (.ifCond .eq 19, 3) := by decide +kernel
theorem dX12_goer_9 : decode mX12_goer.2.1 9 = .ok (.iload_n 2, 1) := by decide +kernel
theorem dX12_goer_10 : decode mX12_goer.2.1 10 = .ok (.i2l, 1) := by decide +kernel
theorem dX12_goer_11 : decode mX12_goer.2.1 11 = .ok (.lconst 0, 1) := by decide +kernel
theorem dX12_goer_12 : decode mX12_goer.2.1 12 = .ok (.ldc2_w 376, 3) := by decide +kernel
theorem dX12_goer_15 : decode mX12_goer.2.1 15 = .ok (.invokestatic 225, 3) := by decide +kernel
theorem dX12_goer_18 : decode mX12_goer.2.1 18 = .ok (.ifCond .eq 7, 3) := by decide +kernel
theorem dX12_goer_21 : decode mX12_goer.2.1 21 = .ok (.iconst 0, 1) := by decide +kernel
theorem dX12_goer_22 : decode mX12_goer.2.1 22 = .ok (.goto 4, 3) := by decide +kernel
theorem dX12_goer_25 : decode mX12_goer.2.1 25 = .ok (.iconst 1, 1) := by decide +kernel
theorem dX12_goer_26 : decode mX12_goer.2.1 26 = .ok (.putfield 104, 3) := by decide +kernel
theorem dX12_goer_29 : decode mX12_goer.2.1 29 = .ok (.aload_n 0, 1) := by decide +kernel
theorem dX12_goer_30 : decode mX12_goer.2.1 30 = .ok (.getfield 104, 3) := by decide +kernel
theorem dX12_goer_33 : decode mX12_goer.2.1 33 = .ok (.ifCond .le 5, 3) := by decide +kernel
theorem dX12_goer_36 : decode mX12_goer.2.1 36 = .ok (.iconst 0, 1) := by decide +kernel
theorem dX12_goer_37 : decode mX12_goer.2.1 37 = .ok (.ireturn, 1) := by decide +kernel
theorem dX12_goer_38 : decode mX12_goer.2.1 38 = .ok (.iload_n 2, 1) := by decide +kernel
theorem dX12_goer_39 : decode mX12_goer.2.1 39 = .ok (.iconst 2, 1) := by decide +kernel
theorem dX12_goer_40 : decode mX12_goer.2.1 40 = .ok (.if_icmp .ge 17, 3) := by decide +kernel
theorem dX12_goer_43 : decode mX12_goer.2.1 43 = .ok (.aload_n 0, 1) := by decide +kernel
theorem dX12_goer_44 : decode mX12_goer.2.1 44 = .ok (.getfield 64, 3) := by decide +kernel
theorem dX12_goer_47 : decode mX12_goer.2.1 47 = .ok (.bipush 30, 2) := by decide +kernel
theorem dX12_goer_49 : decode mX12_goer.2.1 49 = .ok (.iconst 4, 1) := by decide +kernel
theorem dX12_goer_50 : decode mX12_goer.2.1 50 = .ok (.iload_n 1, 1) := by decide +kernel
theorem dX12_goer_51 : decode mX12_goer.2.1 51 = .ok (.imul, 1) := by decide +kernel
theorem dX12_goer_52 : decode mX12_goer.2.1 52 = .ok (.iadd, 1) := by decide +kernel
theorem dX12_goer_53 : decode mX12_goer.2.1 53 = .ok (.iload_n 2, 1) := by decide +kernel
theorem dX12_goer_54 : decode mX12_goer.2.1 54 = .ok (.iadd, 1) := by decide +kernel
theorem dX12_goer_55 : decode mX12_goer.2.1 55 = .ok (.iaload, 1) := by decide +kernel
theorem dX12_goer_56 : decode mX12_goer.2.1 56 = .ok (.ireturn, 1) := by decide +kernel
theorem dX12_goer_57 : decode mX12_goer.2.1 57 = .ok (.iload_n 2, 1) := by decide +kernel
theorem dX12_goer_58 : decode mX12_goer.2.1 58 = .ok (.iconst 2, 1) := by decide +kernel
theorem dX12_goer_59 : decode mX12_goer.2.1 59 = .ok (.if_icmp .ne 11, 3) := by decide +kernel
theorem dX12_goer_62 : decode mX12_goer.2.1 62 = .ok (.aload_n 0, 1) := by decide +kernel
theorem dX12_goer_63 : decode mX12_goer.2.1 63 = .ok (.iload_n 1, 1) := by decide +kernel
theorem dX12_goer_64 : decode mX12_goer.2.1 64 = .ok (.invokevirtual 359, 3) := by decide +kernel
theorem dX12_goer_67 : decode mX12_goer.2.1 67 = .ok (.goto 18, 3) := by decide +kernel
theorem dX12_goer_70 : decode mX12_goer.2.1 70 = .ok (.aload_n 0, 1) := by decide +kernel
theorem dX12_goer_71 : decode mX12_goer.2.1 71 = .ok (.getfield 64, 3) := by decide +kernel
theorem dX12_goer_74 : decode mX12_goer.2.1 74 = .ok (.bipush 30, 2) := by decide +kernel
theorem dX12_goer_76 : decode mX12_goer.2.1 76 = .ok (.iconst 4, 1) := by decide +kernel
theorem dX12_goer_77 : decode mX12_goer.2.1 77 = .ok (.iload_n 1, 1) := by decide +kernel
theorem dX12_goer_78 : decode mX12_goer.2.1 78 = .ok (.imul, 1) := by decide +kernel
theorem dX12_goer_79 : decode mX12_goer.2.1 79 = .ok (.iadd, 1) := by decide +kernel
theorem dX12_goer_80 : decode mX12_goer.2.1 80 = .ok (.iload_n 2, 1) := by decide +kernel
theorem dX12_goer_81 : decode mX12_goer.2.1 81 = .ok (.iadd, 1) := by decide +kernel
theorem dX12_goer_82 : decode mX12_goer.2.1 82 = .ok (.iconst 1, 1) := by decide +kernel
theorem dX12_goer_83 : decode mX12_goer.2.1 83 = .ok (.isub, 1) := by decide +kernel
theorem dX12_goer_84 : decode mX12_goer.2.1 84 = .ok (.iaload, 1) := by decide +kernel
theorem dX12_goer_85 : decode mX12_goer.2.1 85 = .ok (.ireturn, 1) := by decide +kernel
abbrev mX12_goesIn : gz_M := (yX12_goesIn, cX12_goesIn, 1, some .boolean)
theorem dX12_goesIn_0 : decode mX12_goesIn.2.1 0 = .ok (.aload_n 0, 1) := by decide +kernel
theorem dX12_goesIn_1 : decode mX12_goesIn.2.1 1 = .ok (.getfield 139, 3) := by decide +kernel
theorem dX12_goesIn_4 : decode mX12_goesIn.2.1 4 = .ok (.bipush 6, 2) := by decide +kernel
theorem dX12_goesIn_6 : decode mX12_goesIn.2.1 6 = .ok (.if_icmp .ne 8, 3) := by decide +kernel
theorem dX12_goesIn_9 : decode mX12_goesIn.2.1 9 = .ok (.aload_n 0, 1) := by decide +kernel
theorem dX12_goesIn_10 : decode mX12_goesIn.2.1 10 = .ok (.invokevirtual 142, 3) := by decide +kernel
theorem dX12_goesIn_13 : decode mX12_goesIn.2.1 13 = .ok (.ireturn, 1) := by decide +kernel
theorem dX12_goesIn_14 : decode mX12_goesIn.2.1 14 = .ok (.aload_n 0, 1) := by decide +kernel
theorem dX12_goesIn_15 : decode mX12_goesIn.2.1 15 = .ok (.dup, 1) := by decide +kernel
theorem dX12_goesIn_16 : decode mX12_goesIn.2.1 16 = .ok (.getfield 139, 3) := by decide +kernel
theorem dX12_goesIn_19 : decode mX12_goesIn.2.1 19 = .ok (.iconst 1, 1) := by decide +kernel
theorem dX12_goesIn_20 : decode mX12_goesIn.2.1 20 = .ok (.iadd, 1) := by decide +kernel
theorem dX12_goesIn_21 : decode mX12_goesIn.2.1 21 = .ok (.putfield 139, 3) := by decide +kernel
theorem dX12_goesIn_24 : decode mX12_goesIn.2.1 24 = .ok (.aload_n 0, 1) := by decide +kernel
theorem dX12_goesIn_25 : decode mX12_goesIn.2.1 25 = .ok (.dup, 1) := by decide +kernel
theorem dX12_goesIn_26 : decode mX12_goesIn.2.1 26 = .ok (.getfield 127, 3) := by decide +kernel
theorem dX12_goesIn_29 : decode mX12_goesIn.2.1 29 = .ok (.iconst 1, 1) := by decide +kernel
theorem dX12_goesIn_30 : decode mX12_goesIn.2.1 30 = .ok (.iadd, 1) := by decide +kernel
theorem dX12_goesIn_31 : decode mX12_goesIn.2.1 31 = .ok (.putfield 127, 3) := by decide +kernel
theorem dX12_goesIn_34 : decode mX12_goesIn.2.1 34 = .ok (.iconst 1, 1) := by decide +kernel
theorem dX12_goesIn_35 : decode mX12_goesIn.2.1 35 = .ok (.ireturn, 1) := by decide +kernel
abbrev mX12_goesOn : gz_M := (yX12_goesOn, cX12_goesOn, 5, none)
theorem dX12_goesOn_0 : decode mX12_goesOn.2.1 0 = .ok (.aload_n 1, 1) := by decide +kernel
theorem dX12_goesOn_1 : decode mX12_goesOn.2.1 1 = .ok (.iload_n 2, 1) := by decide +kernel
theorem dX12_goesOn_2 : decode mX12_goesOn.2.1 2 = .ok (.invokestatic 346, 3) := by decide +kernel
theorem dX12_goesOn_5 : decode mX12_goesOn.2.1 5 = .ok (.ifCond .ne 4, 3) := by decide +kernel
theorem dX12_goesOn_8 : decode mX12_goesOn.2.1 8 = .ok (.return_, 1) := by decide +kernel
theorem dX12_goesOn_9 : decode mX12_goesOn.2.1 9 = .ok (.aload_n 0, 1) := by decide +kernel
theorem dX12_goesOn_10 : decode mX12_goesOn.2.1 10 = .ok (.aload_n 1, 1) := by decide +kernel
theorem dX12_goesOn_11 : decode mX12_goesOn.2.1 11 = .ok (.aload_n 1, 1) := by decide +kernel
theorem dX12_goesOn_12 : decode mX12_goesOn.2.1 12 = .ok (.bipush 30, 2) := by decide +kernel
theorem dX12_goesOn_14 : decode mX12_goesOn.2.1 14 = .ok (.iconst 4, 1) := by decide +kernel
theorem dX12_goesOn_15 : decode mX12_goesOn.2.1 15 = .ok (.iload_n 2, 1) := by decide +kernel
theorem dX12_goesOn_16 : decode mX12_goesOn.2.1 16 = .ok (.imul, 1) := by decide +kernel
theorem dX12_goesOn_17 : decode mX12_goesOn.2.1 17 = .ok (.iadd, 1) := by decide +kernel
theorem dX12_goesOn_18 : decode mX12_goesOn.2.1 18 = .ok (.iaload, 1) := by decide +kernel
theorem dX12_goesOn_19 : decode mX12_goesOn.2.1 19 = .ok (.invokevirtual 331, 3) := by decide +kernel
theorem dX12_goesOn_22 : decode mX12_goesOn.2.1 22 = .ok (.ifCond .eq 15, 3) := by decide +kernel
theorem dX12_goesOn_25 : decode mX12_goesOn.2.1 25 = .ok (.aload_n 1, 1) := by decide +kernel
theorem dX12_goesOn_26 : decode mX12_goesOn.2.1 26 = .ok (.bipush 30, 2) := by decide +kernel
theorem dX12_goesOn_28 : decode mX12_goesOn.2.1 28 = .ok (.iconst 4, 1) := by decide +kernel
theorem dX12_goesOn_29 : decode mX12_goesOn.2.1 29 = .ok (.iload_n 2, 1) := by decide +kernel
theorem dX12_goesOn_30 : decode mX12_goesOn.2.1 30 = .ok (.imul, 1) := by decide +kernel
theorem dX12_goesOn_31 : decode mX12_goesOn.2.1 31 = .ok (.iadd, 1) := by decide +kernel
theorem dX12_goesOn_32 : decode mX12_goesOn.2.1 32 = .ok (.iconst 3, 1) := by decide +kernel
theorem dX12_goesOn_33 : decode mX12_goesOn.2.1 33 = .ok (.iadd, 1) := by decide +kernel
theorem dX12_goesOn_34 : decode mX12_goesOn.2.1 34 = .ok (.iconst 2, 1) := by decide +kernel
theorem dX12_goesOn_35 : decode mX12_goesOn.2.1 35 = .ok (.iastore, 1) := by decide +kernel
theorem dX12_goesOn_36 : decode mX12_goesOn.2.1 36 = .ok (.return_, 1) := by decide +kernel
theorem dX12_goesOn_37 : decode mX12_goesOn.2.1 37 = .ok (.iconst 0, 1) := by decide +kernel
theorem dX12_goesOn_38 : decode mX12_goesOn.2.1 38 = .ok (.istore 4, 2) := by decide +kernel
theorem dX12_goesOn_40 : decode mX12_goesOn.2.1 40 = .ok (.iload 4, 2) := by decide +kernel
theorem dX12_goesOn_42 : decode mX12_goesOn.2.1 42 = .ok (.iload_n 3, 1) := by decide +kernel
theorem dX12_goesOn_43 : decode mX12_goesOn.2.1 43 = .ok (.if_icmp .ge 24, 3) := by decide +kernel
theorem dX12_goesOn_46 : decode mX12_goesOn.2.1 46 = .ok (.aload_n 1, 1) := by decide +kernel
theorem dX12_goesOn_47 : decode mX12_goesOn.2.1 47 = .ok (.iload_n 2, 1) := by decide +kernel
theorem dX12_goesOn_48 : decode mX12_goesOn.2.1 48 = .ok (.invokestatic 346, 3) := by decide +kernel
theorem dX12_goesOn_51 : decode mX12_goesOn.2.1 51 = .ok (.ifCond .eq 16, 3) := by decide +kernel
theorem dX12_goesOn_54 : decode mX12_goesOn.2.1 54 = .ok (.aload_n 0, 1) := by decide +kernel
theorem dX12_goesOn_55 : decode mX12_goesOn.2.1 55 = .ok (.aload_n 1, 1) := by decide +kernel
theorem dX12_goesOn_56 : decode mX12_goesOn.2.1 56 = .ok (.iload_n 2, 1) := by decide +kernel
theorem dX12_goesOn_57 : decode mX12_goesOn.2.1 57 = .ok (.iload_n 3, 1) := by decide +kernel
theorem dX12_goesOn_58 : decode mX12_goesOn.2.1 58 = .ok (.invokevirtual 349, 3) := by decide +kernel
theorem dX12_goesOn_61 : decode mX12_goesOn.2.1 61 = .ok (.iinc 4 1, 3) := by decide +kernel
theorem dX12_goesOn_64 : decode mX12_goesOn.2.1 64 = .ok (.goto (-24), 3) := by decide +kernel
theorem dX12_goesOn_67 : decode mX12_goesOn.2.1 67 = .ok (.return_, 1) := by decide +kernel
abbrev mX12_goingOn : gz_M := (yX12_goingOn, cX12_goingOn, 5, some .int)
theorem dX12_goingOn_0 : decode mX12_goingOn.2.1 0 = .ok (.iconst 0, 1) := by decide +kernel
theorem dX12_goingOn_1 : decode mX12_goingOn.2.1 1 = .ok (.istore_n 3, 1) := by decide +kernel
theorem dX12_goingOn_2 : decode mX12_goingOn.2.1 2 = .ok (.iconst 0, 1) := by decide +kernel
theorem dX12_goingOn_3 : decode mX12_goingOn.2.1 3 = .ok (.istore 4, 2) := by decide +kernel
theorem dX12_goingOn_5 : decode mX12_goingOn.2.1 5 = .ok (.iload 4, 2) := by decide +kernel
theorem dX12_goingOn_7 : decode mX12_goingOn.2.1 7 = .ok (.aload_n 0, 1) := by decide +kernel
theorem dX12_goingOn_8 : decode mX12_goingOn.2.1 8 = .ok (.getfield 303, 3) := by decide +kernel
theorem dX12_goingOn_11 : decode mX12_goingOn.2.1 11 = .ok (.if_icmp .ge 42, 3) := by decide +kernel
theorem dX12_goingOn_14 : decode mX12_goingOn.2.1 14 = .ok (.iload_n 3, 1) := by decide +kernel
theorem dX12_goingOn_15 : decode mX12_goingOn.2.1 15 = .ok (.aload_n 1, 1) := by decide +kernel
theorem dX12_goingOn_16 : decode mX12_goingOn.2.1 16 = .ok (.iload 4, 2) := by decide +kernel
theorem dX12_goingOn_18 : decode mX12_goingOn.2.1 18 = .ok (.invokestatic 346, 3) := by decide +kernel
theorem dX12_goingOn_21 : decode mX12_goingOn.2.1 21 = .ok (.ifCond .eq 23, 3) := by decide +kernel
theorem dX12_goingOn_24 : decode mX12_goingOn.2.1 24 = .ok (.aload_n 1, 1) := by decide +kernel
theorem dX12_goingOn_25 : decode mX12_goingOn.2.1 25 = .ok (.bipush 30, 2) := by decide +kernel
theorem dX12_goingOn_27 : decode mX12_goingOn.2.1 27 = .ok (.iconst 4, 1) := by decide +kernel
theorem dX12_goingOn_28 : decode mX12_goingOn.2.1 28 = .ok (.iload 4, 2) := by decide +kernel
theorem dX12_goingOn_30 : decode mX12_goingOn.2.1 30 = .ok (.imul, 1) := by decide +kernel
theorem dX12_goingOn_31 : decode mX12_goingOn.2.1 31 = .ok (.iadd, 1) := by decide +kernel
theorem dX12_goingOn_32 : decode mX12_goingOn.2.1 32 = .ok (.iaload, 1) := by decide +kernel
theorem dX12_goingOn_33 : decode mX12_goingOn.2.1 33 = .ok (.iload_n 2, 1) := by decide +kernel
theorem dX12_goingOn_34 : decode mX12_goingOn.2.1 34 = .ok (.if_icmp .ne 10, 3) := by decide +kernel
theorem dX12_goingOn_37 : decode mX12_goingOn.2.1 37 = .ok (.iconst 1, 1) := by decide +kernel
theorem dX12_goingOn_38 : decode mX12_goingOn.2.1 38 = .ok (.iload 4, 2) := by decide +kernel
theorem dX12_goingOn_40 : decode mX12_goingOn.2.1 40 = .ok (.ishl, 1) := by decide +kernel
theorem dX12_goingOn_41 : decode mX12_goingOn.2.1 41 = .ok (.goto 4, 3) := by decide +kernel
theorem dX12_goingOn_44 : decode mX12_goingOn.2.1 44 = .ok (.iconst 0, 1) := by decide +kernel
theorem dX12_goingOn_45 : decode mX12_goingOn.2.1 45 = .ok (.ior, 1) := by decide +kernel
theorem dX12_goingOn_46 : decode mX12_goingOn.2.1 46 = .ok (.istore_n 3, 1) := by decide +kernel
theorem dX12_goingOn_47 : decode mX12_goingOn.2.1 47 = .ok (.iinc 4 1, 3) := by decide +kernel
theorem dX12_goingOn_50 : decode mX12_goingOn.2.1 50 = .ok (.goto (-45), 3) := by decide +kernel
theorem dX12_goingOn_53 : decode mX12_goingOn.2.1 53 = .ok (.iload_n 3, 1) := by decide +kernel
theorem dX12_goingOn_54 : decode mX12_goingOn.2.1 54 = .ok (.ireturn, 1) := by decide +kernel
abbrev mX12_greatest : gz_M := (yX12_greatest, cX12_greatest, 5, some .int)
theorem dX12_greatest_0 : decode mX12_greatest.2.1 0 = .ok (.iconst 0, 1) := by decide +kernel
theorem dX12_greatest_1 : decode mX12_greatest.2.1 1 = .ok (.istore_n 2, 1) := by decide +kernel
theorem dX12_greatest_2 : decode mX12_greatest.2.1 2 = .ok (.iconst 1, 1) := by decide +kernel
theorem dX12_greatest_3 : decode mX12_greatest.2.1 3 = .ok (.istore_n 3, 1) := by decide +kernel
theorem dX12_greatest_4 : decode mX12_greatest.2.1 4 = .ok (.iload_n 3, 1) := by decide +kernel
theorem dX12_greatest_5 : decode mX12_greatest.2.1 5 = .ok (.aload_n 0, 1) := by decide +kernel
theorem dX12_greatest_6 : decode mX12_greatest.2.1 6 = .ok (.getfield 303, 3) := by decide +kernel
theorem dX12_greatest_9 : decode mX12_greatest.2.1 9 = .ok (.if_icmp .ge 81, 3) := by decide +kernel
theorem dX12_greatest_12 : decode mX12_greatest.2.1 12 = .ok (.iload_n 1, 1) := by decide +kernel
theorem dX12_greatest_13 : decode mX12_greatest.2.1 13 = .ok (.ifCond .ne 40, 3) := by decide +kernel
theorem dX12_greatest_16 : decode mX12_greatest.2.1 16 = .ok (.aload_n 0, 1) := by decide +kernel
theorem dX12_greatest_17 : decode mX12_greatest.2.1 17 = .ok (.getfield 64, 3) := by decide +kernel
theorem dX12_greatest_20 : decode mX12_greatest.2.1 20 = .ok (.bipush 30, 2) := by decide +kernel
theorem dX12_greatest_22 : decode mX12_greatest.2.1 22 = .ok (.iconst 4, 1) := by decide +kernel
theorem dX12_greatest_23 : decode mX12_greatest.2.1 23 = .ok (.iload_n 3, 1) := by decide +kernel
theorem dX12_greatest_24 : decode mX12_greatest.2.1 24 = .ok (.imul, 1) := by decide +kernel
theorem dX12_greatest_25 : decode mX12_greatest.2.1 25 = .ok (.iadd, 1) := by decide +kernel
theorem dX12_greatest_26 : decode mX12_greatest.2.1 26 = .ok (.iconst 2, 1) := by decide +kernel
theorem dX12_greatest_27 : decode mX12_greatest.2.1 27 = .ok (.iadd, 1) := by decide +kernel
theorem dX12_greatest_28 : decode mX12_greatest.2.1 28 = .ok (.iaload, 1) := by decide +kernel
theorem dX12_greatest_29 : decode mX12_greatest.2.1 29 = .ok (.aload_n 0, 1) := by decide +kernel
theorem dX12_greatest_30 : decode mX12_greatest.2.1 30 = .ok (.getfield 64, 3) := by decide +kernel
theorem dX12_greatest_33 : decode mX12_greatest.2.1 33 = .ok (.bipush 30, 2) := by decide +kernel
theorem dX12_greatest_35 : decode mX12_greatest.2.1 35 = .ok (.iconst 4, 1) := by decide +kernel
theorem dX12_greatest_36 : decode mX12_greatest.2.1 36 = .ok (.iload_n 2, 1) := by decide +kernel
theorem dX12_greatest_37 : decode mX12_greatest.2.1 37 = .ok (.imul, 1) := by decide +kernel
theorem dX12_greatest_38 : decode mX12_greatest.2.1 38 = .ok (.iadd, 1) := by decide +kernel
theorem dX12_greatest_39 : decode mX12_greatest.2.1 39 = .ok (.iconst 2, 1) := by decide +kernel
theorem dX12_greatest_40 : decode mX12_greatest.2.1 40 = .ok (.iadd, 1) := by decide +kernel
theorem dX12_greatest_41 : decode mX12_greatest.2.1 41 = .ok (.iaload, 1) := by decide +kernel
theorem dX12_greatest_42 : decode mX12_greatest.2.1 42 = .ok (.if_icmp .le 7, 3) := by decide +kernel
theorem dX12_greatest_45 : decode mX12_greatest.2.1 45 = .ok (.iconst 1, 1) := by decide +kernel
theorem dX12_greatest_46 : decode mX12_greatest.2.1 46 = .ok (.goto 25, 3) := by decide +kernel
theorem dX12_greatest_49 : decode mX12_greatest.2.1 49 = .ok (.iconst 0, 1) := by decide +kernel
theorem dX12_greatest_50 : decode mX12_greatest.2.1 50 = .ok (.goto 21, 3) := by decide +kernel
theorem dX12_greatest_53 : decode mX12_greatest.2.1 53 = .ok (.aload_n 0, 1) := by decide +kernel
theorem dX12_greatest_54 : decode mX12_greatest.2.1 54 = .ok (.iload_n 3, 1) := by decide +kernel
theorem dX12_greatest_55 : decode mX12_greatest.2.1 55 = .ok (.invokevirtual 359, 3) := by decide +kernel
theorem dX12_greatest_58 : decode mX12_greatest.2.1 58 = .ok (.aload_n 0, 1) := by decide +kernel
theorem dX12_greatest_59 : decode mX12_greatest.2.1 59 = .ok (.iload_n 2, 1) := by decide +kernel
theorem dX12_greatest_60 : decode mX12_greatest.2.1 60 = .ok (.invokevirtual 359, 3) := by decide +kernel
theorem dX12_greatest_63 : decode mX12_greatest.2.1 63 = .ok (.if_icmp .le 7, 3) := by decide +kernel
theorem dX12_greatest_66 : decode mX12_greatest.2.1 66 = .ok (.iconst 1, 1) := by decide +kernel
theorem dX12_greatest_67 : decode mX12_greatest.2.1 67 = .ok (.goto 4, 3) := by decide +kernel
theorem dX12_greatest_70 : decode mX12_greatest.2.1 70 = .ok (.iconst 0, 1) := by decide +kernel
theorem dX12_greatest_71 : decode mX12_greatest.2.1 71 = .ok (.istore 4, 2) := by decide +kernel
theorem dX12_greatest_73 : decode mX12_greatest.2.1 73 = .ok (.iload 4, 2) := by decide +kernel
theorem dX12_greatest_75 : decode mX12_greatest.2.1 75 = .ok (.ifCond .eq 7, 3) := by decide +kernel
theorem dX12_greatest_78 : decode mX12_greatest.2.1 78 = .ok (.iload_n 3, 1) := by decide +kernel
theorem dX12_greatest_79 : decode mX12_greatest.2.1 79 = .ok (.goto 4, 3) := by decide +kernel
theorem dX12_greatest_82 : decode mX12_greatest.2.1 82 = .ok (.iload_n 2, 1) := by decide +kernel
theorem dX12_greatest_83 : decode mX12_greatest.2.1 83 = .ok (.istore_n 2, 1) := by decide +kernel
theorem dX12_greatest_84 : decode mX12_greatest.2.1 84 = .ok (.iinc 3 1, 3) := by decide +kernel
theorem dX12_greatest_87 : decode mX12_greatest.2.1 87 = .ok (.goto (-83), 3) := by decide +kernel
theorem dX12_greatest_90 : decode mX12_greatest.2.1 90 = .ok (.iload_n 2, 1) := by decide +kernel
theorem dX12_greatest_91 : decode mX12_greatest.2.1 91 = .ok (.ireturn, 1) := by decide +kernel
abbrev mX12_has : gz_M := (yX12_has, cX12_has, 2, some .boolean)
theorem dX12_has_0 : decode mX12_has.2.1 0 = .ok (.iload_n 0, 1) := by decide +kernel
theorem dX12_has_1 : decode mX12_has.2.1 1 = .ok (.iload_n 1, 1) := by decide +kernel
theorem dX12_has_2 : decode mX12_has.2.1 2 = .ok (.ishr, 1) := by decide +kernel
theorem dX12_has_3 : decode mX12_has.2.1 3 = .ok (.iconst 1, 1) := by decide +kernel
theorem dX12_has_4 : decode mX12_has.2.1 4 = .ok (.iand, 1) := by decide +kernel
theorem dX12_has_5 : decode mX12_has.2.1 5 = .ok (.iconst 1, 1) := by decide +kernel
theorem dX12_has_6 : decode mX12_has.2.1 6 = .ok (.if_icmp .ne 7, 3) := by decide +kernel
theorem dX12_has_9 : decode mX12_has.2.1 9 = .ok (.iconst 1, 1) := by decide +kernel
theorem dX12_has_10 : decode mX12_has.2.1 10 = .ok (.goto 4, 3) := by decide +kernel
theorem dX12_has_13 : decode mX12_has.2.1 13 = .ok (.iconst 0, 1) := by decide +kernel
theorem dX12_has_14 : decode mX12_has.2.1 14 = .ok (.ireturn, 1) := by decide +kernel
abbrev mX12_haveMet : gz_M := (yX12_haveMet, cX12_haveMet, 3, some .boolean)
theorem dX12_haveMet_0 : decode mX12_haveMet.2.1 0 = .ok (.aload_n 0, 1) := by decide +kernel
theorem dX12_haveMet_1 : decode mX12_haveMet.2.1 1 = .ok (.getfield 353, 3) := by decide +kernel
theorem dX12_haveMet_4 : decode mX12_haveMet.2.1 4 = .ok (.iconst 4, 1) := by decide +kernel
theorem dX12_haveMet_5 : decode mX12_haveMet.2.1 5 = .ok (.iload_n 1, 1) := by decide +kernel
theorem dX12_haveMet_6 : decode mX12_haveMet.2.1 6 = .ok (.iload_n 2, 1) := by decide +kernel
theorem dX12_haveMet_7 : decode mX12_haveMet.2.1 7 = .ok (.invokestatic 365, 3) := by decide +kernel
theorem dX12_haveMet_10 : decode mX12_haveMet.2.1 10 = .ok (.imul, 1) := by decide +kernel
theorem dX12_haveMet_11 : decode mX12_haveMet.2.1 11 = .ok (.iload_n 1, 1) := by decide +kernel
theorem dX12_haveMet_12 : decode mX12_haveMet.2.1 12 = .ok (.iload_n 2, 1) := by decide +kernel
theorem dX12_haveMet_13 : decode mX12_haveMet.2.1 13 = .ok (.invokestatic 371, 3) := by decide +kernel
theorem dX12_haveMet_16 : decode mX12_haveMet.2.1 16 = .ok (.iadd, 1) := by decide +kernel
theorem dX12_haveMet_17 : decode mX12_haveMet.2.1 17 = .ok (.invokestatic 237, 3) := by decide +kernel
theorem dX12_haveMet_20 : decode mX12_haveMet.2.1 20 = .ok (.ireturn, 1) := by decide +kernel
abbrev mX12_here : gz_M := (yX12_here, cX12_here, 1, some .int)
theorem dX12_here_0 : decode mX12_here.2.1 0 = .ok (.aload_n 0, 1) := by decide +kernel
theorem dX12_here_1 : decode mX12_here.2.1 1 = .ok (.getfield 127, 3) := by decide +kernel
theorem dX12_here_4 : decode mX12_here.2.1 4 = .ok (.aload_n 0, 1) := by decide +kernel
theorem dX12_here_5 : decode mX12_here.2.1 5 = .ok (.getfield 130, 3) := by decide +kernel
theorem dX12_here_8 : decode mX12_here.2.1 8 = .ok (.if_icmp .ge 24, 3) := by decide +kernel
theorem dX12_here_11 : decode mX12_here.2.1 11 = .ok (.aload_n 0, 1) := by decide +kernel
theorem dX12_here_12 : decode mX12_here.2.1 12 = .ok (.getfield 23, 3) := by decide +kernel
theorem dX12_here_15 : decode mX12_here.2.1 15 = .ok (.aload_n 0, 1) := by decide +kernel
theorem dX12_here_16 : decode mX12_here.2.1 16 = .ok (.getfield 133, 3) := by decide +kernel
theorem dX12_here_19 : decode mX12_here.2.1 19 = .ok (.aload_n 0, 1) := by decide +kernel
theorem dX12_here_20 : decode mX12_here.2.1 20 = .ok (.getfield 127, 3) := by decide +kernel
theorem dX12_here_23 : decode mX12_here.2.1 23 = .ok (.iadd, 1) := by decide +kernel
theorem dX12_here_24 : decode mX12_here.2.1 24 = .ok (.baload, 1) := by decide +kernel
theorem dX12_here_25 : decode mX12_here.2.1 25 = .ok (.sipush 255, 3) := by decide +kernel
theorem dX12_here_28 : decode mX12_here.2.1 28 = .ok (.iand, 1) := by decide +kernel
theorem dX12_here_29 : decode mX12_here.2.1 29 = .ok (.goto 4, 3) := by decide +kernel
theorem dX12_here_32 : decode mX12_here.2.1 32 = .ok (.iconst (-1), 1) := by decide +kernel
theorem dX12_here_33 : decode mX12_here.2.1 33 = .ok (.ireturn, 1) := by decide +kernel
abbrev mX12_hour : gz_M := (yX12_hour, cX12_hour, 1, some .int)
theorem dX12_hour_0 : decode mX12_hour.2.1 0 = .ok (.aload_n 0, 1) := by decide +kernel
theorem dX12_hour_1 : decode mX12_hour.2.1 1 = .ok (.iconst 0, 1) := by decide +kernel
theorem dX12_hour_2 : decode mX12_hour.2.1 2 = .ok (.putfield 104, 3) := by decide +kernel
theorem dX12_hour_5 : decode mX12_hour.2.1 5 = .ok (.aload_n 0, 1) := by decide +kernel
theorem dX12_hour_6 : decode mX12_hour.2.1 6 = .ok (.getfield 303, 3) := by decide +kernel
theorem dX12_hour_9 : decode mX12_hour.2.1 9 = .ok (.ifCond .eq 16, 3) := by decide +kernel
theorem dX12_hour_12 : decode mX12_hour.2.1 12 = .ok (.aload_n 0, 1) := by decide +kernel
theorem dX12_hour_13 : decode mX12_hour.2.1 13 = .ok (.getfield 64, 3) := by decide +kernel
theorem dX12_hour_16 : decode mX12_hour.2.1 16 = .ok (.bipush 49, 2) := by decide +kernel
theorem dX12_hour_18 : decode mX12_hour.2.1 18 = .ok (.iaload, 1) := by decide +kernel
theorem dX12_hour_19 : decode mX12_hour.2.1 19 = .ok (.sipush 9999, 3) := by decide +kernel
theorem dX12_hour_22 : decode mX12_hour.2.1 22 = .ok (.if_icmp .ne 5, 3) := by decide +kernel
theorem dX12_hour_25 : decode mX12_hour.2.1 25 = .ok (.iconst (-1), 1) := by decide +kernel
theorem dX12_hour_26 : decode mX12_hour.2.1 26 = .ok (.ireturn, 1) := by decide +kernel
theorem dX12_hour_27 : decode mX12_hour.2.1 27 = .ok (.aload_n 0, 1) := by decide +kernel
theorem dX12_hour_28 : decode mX12_hour.2.1 28 = .ok (.invokevirtual 380, 3) := by decide +kernel
theorem dX12_hour_31 : decode mX12_hour.2.1 31 = .ok (.aload_n 0, 1) := by decide +kernel
theorem dX12_hour_32 : decode mX12_hour.2.1 32 = .ok (.aload_n 0, 1) := by decide +kernel
theorem dX12_hour_33 : decode mX12_hour.2.1 33 = .ok (.getfield 64, 3) := by decide +kernel
theorem dX12_hour_36 : decode mX12_hour.2.1 36 = .ok (.invokevirtual 383, 3) := by decide +kernel
theorem dX12_hour_39 : decode mX12_hour.2.1 39 = .ok (.ireturn, 1) := by decide +kernel
abbrev mX12_image : gz_M := (yX12_image, cX12_image, 2, some .int)
theorem dX12_image_0 : decode mX12_image.2.1 0 = .ok (.aload_n 0, 1) := by decide +kernel
theorem dX12_image_1 : decode mX12_image.2.1 1 = .ok (.iconst 0, 1) := by decide +kernel
theorem dX12_image_2 : decode mX12_image.2.1 2 = .ok (.putfield 104, 3) := by decide +kernel
theorem dX12_image_5 : decode mX12_image.2.1 5 = .ok (.aload_n 0, 1) := by decide +kernel
theorem dX12_image_6 : decode mX12_image.2.1 6 = .ok (.getfield 303, 3) := by decide +kernel
theorem dX12_image_9 : decode mX12_image.2.1 9 = .ok (.ifCond .ne 5, 3) := by decide +kernel
theorem dX12_image_12 : decode mX12_image.2.1 12 = .ok (.iconst (-1), 1) := by decide +kernel
theorem dX12_image_13 : decode mX12_image.2.1 13 = .ok (.ireturn, 1) := by decide +kernel
theorem dX12_image_14 : decode mX12_image.2.1 14 = .ok (.iconst 0, 1) := by decide +kernel
theorem dX12_image_15 : decode mX12_image.2.1 15 = .ok (.istore_n 1, 1) := by decide +kernel
theorem dX12_image_16 : decode mX12_image.2.1 16 = .ok (.iload_n 1, 1) := by decide +kernel
theorem dX12_image_17 : decode mX12_image.2.1 17 = .ok (.sipush 231, 3) := by decide +kernel
theorem dX12_image_20 : decode mX12_image.2.1 20 = .ok (.if_icmp .ge 21, 3) := by decide +kernel
theorem dX12_image_23 : decode mX12_image.2.1 23 = .ok (.aload_n 0, 1) := by decide +kernel
theorem dX12_image_24 : decode mX12_image.2.1 24 = .ok (.getfield 101, 3) := by decide +kernel
theorem dX12_image_27 : decode mX12_image.2.1 27 = .ok (.iload_n 1, 1) := by decide +kernel
theorem dX12_image_28 : decode mX12_image.2.1 28 = .ok (.aload_n 0, 1) := by decide +kernel
theorem dX12_image_29 : decode mX12_image.2.1 29 = .ok (.getfield 64, 3) := by decide +kernel
theorem dX12_image_32 : decode mX12_image.2.1 32 = .ok (.iload_n 1, 1) := by decide +kernel
theorem dX12_image_33 : decode mX12_image.2.1 33 = .ok (.iaload, 1) := by decide +kernel
theorem dX12_image_34 : decode mX12_image.2.1 34 = .ok (.iastore, 1) := by decide +kernel
theorem dX12_image_35 : decode mX12_image.2.1 35 = .ok (.iinc 1 1, 3) := by decide +kernel
theorem dX12_image_38 : decode mX12_image.2.1 38 = .ok (.goto (-22), 3) := by decide +kernel
theorem dX12_image_41 : decode mX12_image.2.1 41 = .ok (.aload_n 0, 1) := by decide +kernel
theorem dX12_image_42 : decode mX12_image.2.1 42 = .ok (.iconst 1, 1) := by decide +kernel
theorem dX12_image_43 : decode mX12_image.2.1 43 = .ok (.putfield 316, 3) := by decide +kernel
theorem dX12_image_46 : decode mX12_image.2.1 46 = .ok (.aload_n 0, 1) := by decide +kernel
theorem dX12_image_47 : decode mX12_image.2.1 47 = .ok (.getfield 64, 3) := by decide +kernel
theorem dX12_image_50 : decode mX12_image.2.1 50 = .ok (.bipush 49, 2) := by decide +kernel
theorem dX12_image_52 : decode mX12_image.2.1 52 = .ok (.iaload, 1) := by decide +kernel
theorem dX12_image_53 : decode mX12_image.2.1 53 = .ok (.ireturn, 1) := by decide +kernel
abbrev mX12_isAmong : gz_M := (yX12_isAmong, cX12_isAmong, 3, some .boolean)
theorem dX12_isAmong_0 : decode mX12_isAmong.2.1 0 = .ok (.iconst 0, 1) := by decide +kernel
theorem dX12_isAmong_1 : decode mX12_isAmong.2.1 1 = .ok (.istore_n 2, 1) := by decide +kernel
theorem dX12_isAmong_2 : decode mX12_isAmong.2.1 2 = .ok (.iload_n 2, 1) := by decide +kernel
theorem dX12_isAmong_3 : decode mX12_isAmong.2.1 3 = .ok (.aload_n 0, 1) := by decide +kernel
theorem dX12_isAmong_4 : decode mX12_isAmong.2.1 4 = .ok (.invokevirtual 107, 3) := by decide +kernel
theorem dX12_isAmong_7 : decode mX12_isAmong.2.1 7 = .ok (.if_icmp .ge 20, 3) := by decide +kernel
theorem dX12_isAmong_10 : decode mX12_isAmong.2.1 10 = .ok (.aload_n 0, 1) := by decide +kernel
theorem dX12_isAmong_11 : decode mX12_isAmong.2.1 11 = .ok (.iload_n 2, 1) := by decide +kernel
theorem dX12_isAmong_12 : decode mX12_isAmong.2.1 12 = .ok (.invokevirtual 113, 3) := by decide +kernel
theorem dX12_isAmong_15 : decode mX12_isAmong.2.1 15 = .ok (.iload_n 1, 1) := by decide +kernel
theorem dX12_isAmong_16 : decode mX12_isAmong.2.1 16 = .ok (.if_icmp .ne 5, 3) := by decide +kernel
theorem dX12_isAmong_19 : decode mX12_isAmong.2.1 19 = .ok (.iconst 1, 1) := by decide +kernel
theorem dX12_isAmong_20 : decode mX12_isAmong.2.1 20 = .ok (.ireturn, 1) := by decide +kernel
theorem dX12_isAmong_21 : decode mX12_isAmong.2.1 21 = .ok (.iinc 2 1, 3) := by decide +kernel
theorem dX12_isAmong_24 : decode mX12_isAmong.2.1 24 = .ok (.goto (-22), 3) := by decide +kernel
theorem dX12_isAmong_27 : decode mX12_isAmong.2.1 27 = .ok (.iconst 0, 1) := by decide +kernel
theorem dX12_isAmong_28 : decode mX12_isAmong.2.1 28 = .ok (.ireturn, 1) := by decide +kernel
abbrev mX12_isCell : gz_M := (yX12_isCell, cX12_isCell, 2, some .boolean)
theorem dX12_isCell_0 : decode mX12_isCell.2.1 0 = .ok (.iload_n 1, 1) := by decide +kernel
theorem dX12_isCell_1 : decode mX12_isCell.2.1 1 = .ok (.ifCond .lt 15, 3) := by decide +kernel
theorem dX12_isCell_4 : decode mX12_isCell.2.1 4 = .ok (.iload_n 1, 1) := by decide +kernel
theorem dX12_isCell_5 : decode mX12_isCell.2.1 5 = .ok (.aload_n 0, 1) := by decide +kernel
theorem dX12_isCell_6 : decode mX12_isCell.2.1 6 = .ok (.invokevirtual 319, 3) := by decide +kernel
theorem dX12_isCell_9 : decode mX12_isCell.2.1 9 = .ok (.if_icmp .ge 7, 3) := by decide +kernel
theorem dX12_isCell_12 : decode mX12_isCell.2.1 12 = .ok (.iconst 1, 1) := by decide +kernel
theorem dX12_isCell_13 : decode mX12_isCell.2.1 13 = .ok (.goto 4, 3) := by decide +kernel
theorem dX12_isCell_16 : decode mX12_isCell.2.1 16 = .ok (.iconst 0, 1) := by decide +kernel
theorem dX12_isCell_17 : decode mX12_isCell.2.1 17 = .ok (.ireturn, 1) := by decide +kernel
abbrev mX12_isDigit : gz_M := (yX12_isDigit, cX12_isDigit, 1, some .boolean)
theorem dX12_isDigit_0 : decode mX12_isDigit.2.1 0 = .ok (.aload_n 0, 1) := by decide +kernel
theorem dX12_isDigit_1 : decode mX12_isDigit.2.1 1 = .ok (.getfield 127, 3) := by decide +kernel
theorem dX12_isDigit_4 : decode mX12_isDigit.2.1 4 = .ok (.aload_n 0, 1) := by decide +kernel
theorem dX12_isDigit_5 : decode mX12_isDigit.2.1 5 = .ok (.getfield 130, 3) := by decide +kernel
theorem dX12_isDigit_8 : decode mX12_isDigit.2.1 8 = .ok (.if_icmp .ge 45, 3) := by decide +kernel
theorem dX12_isDigit_11 : decode mX12_isDigit.2.1 11 = .ok (.aload_n 0, 1) := by decide +kernel
theorem dX12_isDigit_12 : decode mX12_isDigit.2.1 12 = .ok (.getfield 23, 3) := by decide +kernel
theorem dX12_isDigit_15 : decode mX12_isDigit.2.1 15 = .ok (.aload_n 0, 1) := by decide +kernel
theorem dX12_isDigit_16 : decode mX12_isDigit.2.1 16 = .ok (.getfield 133, 3) := by decide +kernel
theorem dX12_isDigit_19 : decode mX12_isDigit.2.1 19 = .ok (.aload_n 0, 1) := by decide +kernel
theorem dX12_isDigit_20 : decode mX12_isDigit.2.1 20 = .ok (.getfield 127, 3) := by decide +kernel
theorem dX12_isDigit_23 : decode mX12_isDigit.2.1 23 = .ok (.iadd, 1) := by decide +kernel
theorem dX12_isDigit_24 : decode mX12_isDigit.2.1 24 = .ok (.baload, 1) := by decide +kernel
theorem dX12_isDigit_25 : decode mX12_isDigit.2.1 25 = .ok (.bipush 48, 2) := by decide +kernel
theorem dX12_isDigit_27 : decode mX12_isDigit.2.1 27 = .ok (.if_icmp .lt 26, 3) := by decide +kernel
theorem dX12_isDigit_30 : decode mX12_isDigit.2.1 30 = .ok (.aload_n 0, 1) := by decide +kernel
theorem dX12_isDigit_31 : decode mX12_isDigit.2.1 31 = .ok (.getfield 23, 3) := by decide +kernel
theorem dX12_isDigit_34 : decode mX12_isDigit.2.1 34 = .ok (.aload_n 0, 1) := by decide +kernel
theorem dX12_isDigit_35 : decode mX12_isDigit.2.1 35 = .ok (.getfield 133, 3) := by decide +kernel
theorem dX12_isDigit_38 : decode mX12_isDigit.2.1 38 = .ok (.aload_n 0, 1) := by decide +kernel
theorem dX12_isDigit_39 : decode mX12_isDigit.2.1 39 = .ok (.getfield 127, 3) := by decide +kernel
theorem dX12_isDigit_42 : decode mX12_isDigit.2.1 42 = .ok (.iadd, 1) := by decide +kernel
theorem dX12_isDigit_43 : decode mX12_isDigit.2.1 43 = .ok (.baload, 1) := by decide +kernel
theorem dX12_isDigit_44 : decode mX12_isDigit.2.1 44 = .ok (.bipush 57, 2) := by decide +kernel
theorem dX12_isDigit_46 : decode mX12_isDigit.2.1 46 = .ok (.if_icmp .gt 7, 3) := by decide +kernel
theorem dX12_isDigit_49 : decode mX12_isDigit.2.1 49 = .ok (.iconst 1, 1) := by decide +kernel
theorem dX12_isDigit_50 : decode mX12_isDigit.2.1 50 = .ok (.goto 4, 3) := by decide +kernel
theorem dX12_isDigit_53 : decode mX12_isDigit.2.1 53 = .ok (.iconst 0, 1) := by decide +kernel
theorem dX12_isDigit_54 : decode mX12_isDigit.2.1 54 = .ok (.ireturn, 1) := by decide +kernel
abbrev mX12_isDry : gz_M := (yX12_isDry, cX12_isDry, 2, some .boolean)
theorem dX12_isDry_0 : decode mX12_isDry.2.1 0 = .ok (.aload_n 0, 1) := by decide +kernel
theorem dX12_isDry_1 : decode mX12_isDry.2.1 1 = .ok (.getfield 64, 3) := by decide +kernel
theorem dX12_isDry_4 : decode mX12_isDry.2.1 4 = .ok (.iload_n 1, 1) := by decide +kernel
theorem dX12_isDry_5 : decode mX12_isDry.2.1 5 = .ok (.iaload, 1) := by decide +kernel
theorem dX12_isDry_6 : decode mX12_isDry.2.1 6 = .ok (.iconst 1, 1) := by decide +kernel
theorem dX12_isDry_7 : decode mX12_isDry.2.1 7 = .ok (.if_icmp .eq 19, 3) := by decide +kernel
theorem dX12_isDry_10 : decode mX12_isDry.2.1 10 = .ok (.aload_n 0, 1) := by decide +kernel
theorem dX12_isDry_11 : decode mX12_isDry.2.1 11 = .ok (.aload_n 0, 1) := by decide +kernel
theorem dX12_isDry_12 : decode mX12_isDry.2.1 12 = .ok (.getfield 64, 3) := by decide +kernel
theorem dX12_isDry_15 : decode mX12_isDry.2.1 15 = .ok (.iload_n 1, 1) := by decide +kernel
theorem dX12_isDry_16 : decode mX12_isDry.2.1 16 = .ok (.invokevirtual 331, 3) := by decide +kernel
theorem dX12_isDry_19 : decode mX12_isDry.2.1 19 = .ok (.ifCond .ne 7, 3) := by decide +kernel
theorem dX12_isDry_22 : decode mX12_isDry.2.1 22 = .ok (.iconst 1, 1) := by decide +kernel
theorem dX12_isDry_23 : decode mX12_isDry.2.1 23 = .ok (.goto 4, 3) := by decide +kernel
theorem dX12_isDry_26 : decode mX12_isDry.2.1 26 = .ok (.iconst 0, 1) := by decide +kernel
theorem dX12_isDry_27 : decode mX12_isDry.2.1 27 = .ok (.ireturn, 1) := by decide +kernel
abbrev mX12_isFit : gz_M := (yX12_isFit, cX12_isFit, 4, some .boolean)
theorem dX12_isFit_0 : decode mX12_isFit.2.1 0 = .ok (.iconst 0, 1) := by decide +kernel
theorem dX12_isFit_1 : decode mX12_isFit.2.1 1 = .ok (.istore_n 3, 1) := by decide +kernel
theorem dX12_isFit_2 : decode mX12_isFit.2.1 2 = .ok (.iload_n 3, 1) := by decide +kernel
theorem dX12_isFit_3 : decode mX12_isFit.2.1 3 = .ok (.aload_n 0, 1) := by decide +kernel
theorem dX12_isFit_4 : decode mX12_isFit.2.1 4 = .ok (.getfield 310, 3) := by decide +kernel
theorem dX12_isFit_7 : decode mX12_isFit.2.1 7 = .ok (.if_icmp .ge 56, 3) := by decide +kernel
theorem dX12_isFit_10 : decode mX12_isFit.2.1 10 = .ok (.aload_n 0, 1) := by decide +kernel
theorem dX12_isFit_11 : decode mX12_isFit.2.1 11 = .ok (.getfield 89, 3) := by decide +kernel
theorem dX12_isFit_14 : decode mX12_isFit.2.1 14 = .ok (.iconst 3, 1) := by decide +kernel
theorem dX12_isFit_15 : decode mX12_isFit.2.1 15 = .ok (.iload_n 3, 1) := by decide +kernel
theorem dX12_isFit_16 : decode mX12_isFit.2.1 16 = .ok (.imul, 1) := by decide +kernel
theorem dX12_isFit_17 : decode mX12_isFit.2.1 17 = .ok (.iaload, 1) := by decide +kernel
theorem dX12_isFit_18 : decode mX12_isFit.2.1 18 = .ok (.iload_n 1, 1) := by decide +kernel
theorem dX12_isFit_19 : decode mX12_isFit.2.1 19 = .ok (.if_icmp .ne 38, 3) := by decide +kernel
theorem dX12_isFit_22 : decode mX12_isFit.2.1 22 = .ok (.aload_n 0, 1) := by decide +kernel
theorem dX12_isFit_23 : decode mX12_isFit.2.1 23 = .ok (.getfield 92, 3) := by decide +kernel
theorem dX12_isFit_26 : decode mX12_isFit.2.1 26 = .ok (.bipush 31, 2) := by decide +kernel
theorem dX12_isFit_28 : decode mX12_isFit.2.1 28 = .ok (.iload_n 2, 1) := by decide +kernel
theorem dX12_isFit_29 : decode mX12_isFit.2.1 29 = .ok (.imul, 1) := by decide +kernel
theorem dX12_isFit_30 : decode mX12_isFit.2.1 30 = .ok (.aload_n 0, 1) := by decide +kernel
theorem dX12_isFit_31 : decode mX12_isFit.2.1 31 = .ok (.getfield 89, 3) := by decide +kernel
theorem dX12_isFit_34 : decode mX12_isFit.2.1 34 = .ok (.iconst 3, 1) := by decide +kernel
theorem dX12_isFit_35 : decode mX12_isFit.2.1 35 = .ok (.iload_n 3, 1) := by decide +kernel
theorem dX12_isFit_36 : decode mX12_isFit.2.1 36 = .ok (.imul, 1) := by decide +kernel
theorem dX12_isFit_37 : decode mX12_isFit.2.1 37 = .ok (.iconst 1, 1) := by decide +kernel
theorem dX12_isFit_38 : decode mX12_isFit.2.1 38 = .ok (.iadd, 1) := by decide +kernel
theorem dX12_isFit_39 : decode mX12_isFit.2.1 39 = .ok (.iaload, 1) := by decide +kernel
theorem dX12_isFit_40 : decode mX12_isFit.2.1 40 = .ok (.iadd, 1) := by decide +kernel
theorem dX12_isFit_41 : decode mX12_isFit.2.1 41 = .ok (.iaload, 1) := by decide +kernel
theorem dX12_isFit_42 : decode mX12_isFit.2.1 42 = .ok (.aload_n 0, 1) := by decide +kernel
theorem dX12_isFit_43 : decode mX12_isFit.2.1 43 = .ok (.getfield 89, 3) := by decide +kernel
theorem dX12_isFit_46 : decode mX12_isFit.2.1 46 = .ok (.iconst 3, 1) := by decide +kernel
theorem dX12_isFit_47 : decode mX12_isFit.2.1 47 = .ok (.iload_n 3, 1) := by decide +kernel
theorem dX12_isFit_48 : decode mX12_isFit.2.1 48 = .ok (.imul, 1) := by decide +kernel
theorem dX12_isFit_49 : decode mX12_isFit.2.1 49 = .ok (.iconst 2, 1) := by decide +kernel
theorem dX12_isFit_50 : decode mX12_isFit.2.1 50 = .ok (.iadd, 1) := by decide +kernel
theorem dX12_isFit_51 : decode mX12_isFit.2.1 51 = .ok (.iaload, 1) := by decide +kernel
theorem dX12_isFit_52 : decode mX12_isFit.2.1 52 = .ok (.if_icmp .eq 5, 3) := by decide +kernel
theorem dX12_isFit_55 : decode mX12_isFit.2.1 55 = .ok (.iconst 0, 1) := by decide +kernel
theorem dX12_isFit_56 : decode mX12_isFit.2.1 56 = .ok (.ireturn, 1) := by decide +kernel
theorem dX12_isFit_57 : decode mX12_isFit.2.1 57 = .ok (.iinc 3 1, 3) := by decide +kernel
theorem dX12_isFit_60 : decode mX12_isFit.2.1 60 = .ok (.goto (-58), 3) := by decide +kernel
theorem dX12_isFit_63 : decode mX12_isFit.2.1 63 = .ok (.iconst 1, 1) := by decide +kernel
theorem dX12_isFit_64 : decode mX12_isFit.2.1 64 = .ok (.ireturn, 1) := by decide +kernel
abbrev mX12_isGoer : gz_M := (yX12_isGoer, cX12_isGoer, 2, some .boolean)
theorem dX12_isGoer_0 : decode mX12_isGoer.2.1 0 = .ok (.iload_n 1, 1) := by decide +kernel
theorem dX12_isGoer_1 : decode mX12_isGoer.2.1 1 = .ok (.ifCond .lt 15, 3) := by decide +kernel
theorem dX12_isGoer_4 : decode mX12_isGoer.2.1 4 = .ok (.iload_n 1, 1) := by decide +kernel
theorem dX12_isGoer_5 : decode mX12_isGoer.2.1 5 = .ok (.aload_n 0, 1) := by decide +kernel
theorem dX12_isGoer_6 : decode mX12_isGoer.2.1 6 = .ok (.getfield 303, 3) := by decide +kernel
theorem dX12_isGoer_9 : decode mX12_isGoer.2.1 9 = .ok (.if_icmp .ge 7, 3) := by decide +kernel
theorem dX12_isGoer_12 : decode mX12_isGoer.2.1 12 = .ok (.iconst 1, 1) := by decide +kernel
theorem dX12_isGoer_13 : decode mX12_isGoer.2.1 13 = .ok (.goto 4, 3) := by decide +kernel
theorem dX12_isGoer_16 : decode mX12_isGoer.2.1 16 = .ok (.iconst 0, 1) := by decide +kernel
theorem dX12_isGoer_17 : decode mX12_isGoer.2.1 17 = .ok (.ireturn, 1) := by decide +kernel
abbrev mX12_isIn : gz_M := (yX12_isIn, cX12_isIn, 6, some .boolean)
theorem dX12_isIn_0 : decode mX12_isIn.2.1 0 = .ok (.lload_n 0, 1) := by decide +kernel
theorem dX12_isIn_1 : decode mX12_isIn.2.1 1 = .ok (.lload_n 2, 1) := by decide +kernel
theorem dX12_isIn_2 : decode mX12_isIn.2.1 2 = .ok (.lcmp, 1) := by decide +kernel
theorem dX12_isIn_3 : decode mX12_isIn.2.1 3 = .ok (.ifCond .lt 14, 3) := by decide +kernel
theorem dX12_isIn_6 : decode mX12_isIn.2.1 6 = .ok (.lload_n 0, 1) := by decide +kernel
theorem dX12_isIn_7 : decode mX12_isIn.2.1 7 = .ok (.lload 4, 2) := by decide +kernel
theorem dX12_isIn_9 : decode mX12_isIn.2.1 9 = .ok (.lcmp, 1) := by decide +kernel
theorem dX12_isIn_10 : decode mX12_isIn.2.1 10 = .ok (.ifCond .gt 7, 3) := by decide +kernel
theorem dX12_isIn_13 : decode mX12_isIn.2.1 13 = .ok (.iconst 1, 1) := by decide +kernel
theorem dX12_isIn_14 : decode mX12_isIn.2.1 14 = .ok (.goto 4, 3) := by decide +kernel
theorem dX12_isIn_17 : decode mX12_isIn.2.1 17 = .ok (.iconst 0, 1) := by decide +kernel
theorem dX12_isIn_18 : decode mX12_isIn.2.1 18 = .ok (.ireturn, 1) := by decide +kernel
abbrev mX12_isPlan : gz_M := (yX12_isPlan, cX12_isPlan, 2, some .boolean)
theorem dX12_isPlan_0 : decode mX12_isPlan.2.1 0 = .ok (.iload_n 1, 1) := by decide +kernel
theorem dX12_isPlan_1 : decode mX12_isPlan.2.1 1 = .ok (.ifCond .lt 15, 3) := by decide +kernel
theorem dX12_isPlan_4 : decode mX12_isPlan.2.1 4 = .ok (.iload_n 1, 1) := by decide +kernel
theorem dX12_isPlan_5 : decode mX12_isPlan.2.1 5 = .ok (.aload_n 0, 1) := by decide +kernel
theorem dX12_isPlan_6 : decode mX12_isPlan.2.1 6 = .ok (.getfield 298, 3) := by decide +kernel
theorem dX12_isPlan_9 : decode mX12_isPlan.2.1 9 = .ok (.if_icmp .ge 7, 3) := by decide +kernel
theorem dX12_isPlan_12 : decode mX12_isPlan.2.1 12 = .ok (.iconst 1, 1) := by decide +kernel
theorem dX12_isPlan_13 : decode mX12_isPlan.2.1 13 = .ok (.goto 4, 3) := by decide +kernel
theorem dX12_isPlan_16 : decode mX12_isPlan.2.1 16 = .ok (.iconst 0, 1) := by decide +kernel
theorem dX12_isPlan_17 : decode mX12_isPlan.2.1 17 = .ok (.ireturn, 1) := by decide +kernel
abbrev mX12_isSign : gz_M := (yX12_isSign, cX12_isSign, 1, some .boolean)
theorem dX12_isSign_0 : decode mX12_isSign.2.1 0 = .ok (.iload_n 0, 1) := by decide +kernel
theorem dX12_isSign_1 : decode mX12_isSign.2.1 1 = .ok (.bipush 61, 2) := by decide +kernel
theorem dX12_isSign_3 : decode mX12_isSign.2.1 3 = .ok (.if_icmp .eq 15, 3) := by decide +kernel
theorem dX12_isSign_6 : decode mX12_isSign.2.1 6 = .ok (.iload_n 0, 1) := by decide +kernel
theorem dX12_isSign_7 : decode mX12_isSign.2.1 7 = .ok (.bipush 60, 2) := by decide +kernel
theorem dX12_isSign_9 : decode mX12_isSign.2.1 9 = .ok (.if_icmp .eq 9, 3) := by decide +kernel
theorem dX12_isSign_12 : decode mX12_isSign.2.1 12 = .ok (.iload_n 0, 1) := by decide +kernel
theorem dX12_isSign_13 : decode mX12_isSign.2.1 13 = .ok (.bipush 62, 2) := by decide +kernel
theorem dX12_isSign_15 : decode mX12_isSign.2.1 15 = .ok (.if_icmp .ne 7, 3) := by decide +kernel
theorem dX12_isSign_18 : decode mX12_isSign.2.1 18 = .ok (.iconst 1, 1) := by decide +kernel
theorem dX12_isSign_19 : decode mX12_isSign.2.1 19 = .ok (.goto 4, 3) := by decide +kernel
theorem dX12_isSign_22 : decode mX12_isSign.2.1 22 = .ok (.iconst 0, 1) := by decide +kernel
theorem dX12_isSign_23 : decode mX12_isSign.2.1 23 = .ok (.ireturn, 1) := by decide +kernel
abbrev mX12_isUnder : gz_M := (yX12_isUnder, cX12_isUnder, 3, some .boolean)
theorem dX12_isUnder_0 : decode mX12_isUnder.2.1 0 = .ok (.aload_n 1, 1) := by decide +kernel
theorem dX12_isUnder_1 : decode mX12_isUnder.2.1 1 = .ok (.iload_n 2, 1) := by decide +kernel
theorem dX12_isUnder_2 : decode mX12_isUnder.2.1 2 = .ok (.iaload, 1) := by decide +kernel
theorem dX12_isUnder_3 : decode mX12_isUnder.2.1 3 = .ok (.iconst 2, 1) := by decide +kernel
theorem dX12_isUnder_4 : decode mX12_isUnder.2.1 4 = .ok (.if_icmp .eq 25, 3) := by decide +kernel
theorem dX12_isUnder_7 : decode mX12_isUnder.2.1 7 = .ok (.iload_n 2, 1) := by decide +kernel
theorem dX12_isUnder_8 : decode mX12_isUnder.2.1 8 = .ok (.aload_n 0, 1) := by decide +kernel
theorem dX12_isUnder_9 : decode mX12_isUnder.2.1 9 = .ok (.getfield 37, 3) := by decide +kernel
theorem dX12_isUnder_12 : decode mX12_isUnder.2.1 12 = .ok (.iconst 0, 1) := by decide +kernel
theorem dX12_isUnder_13 : decode mX12_isUnder.2.1 13 = .ok (.iaload, 1) := by decide +kernel
theorem dX12_isUnder_14 : decode mX12_isUnder.2.1 14 = .ok (.idiv, 1) := by decide +kernel
theorem dX12_isUnder_15 : decode mX12_isUnder.2.1 15 = .ok (.aload_n 0, 1) := by decide +kernel
theorem dX12_isUnder_16 : decode mX12_isUnder.2.1 16 = .ok (.getfield 37, 3) := by decide +kernel
theorem dX12_isUnder_19 : decode mX12_isUnder.2.1 19 = .ok (.iconst 1, 1) := by decide +kernel
theorem dX12_isUnder_20 : decode mX12_isUnder.2.1 20 = .ok (.iaload, 1) := by decide +kernel
theorem dX12_isUnder_21 : decode mX12_isUnder.2.1 21 = .ok (.aload_n 1, 1) := by decide +kernel
theorem dX12_isUnder_22 : decode mX12_isUnder.2.1 22 = .ok (.bipush 46, 2) := by decide +kernel
theorem dX12_isUnder_24 : decode mX12_isUnder.2.1 24 = .ok (.iaload, 1) := by decide +kernel
theorem dX12_isUnder_25 : decode mX12_isUnder.2.1 25 = .ok (.isub, 1) := by decide +kernel
theorem dX12_isUnder_26 : decode mX12_isUnder.2.1 26 = .ok (.if_icmp .lt 7, 3) := by decide +kernel
theorem dX12_isUnder_29 : decode mX12_isUnder.2.1 29 = .ok (.iconst 1, 1) := by decide +kernel
theorem dX12_isUnder_30 : decode mX12_isUnder.2.1 30 = .ok (.goto 4, 3) := by decide +kernel
theorem dX12_isUnder_33 : decode mX12_isUnder.2.1 33 = .ok (.iconst 0, 1) := by decide +kernel
theorem dX12_isUnder_34 : decode mX12_isUnder.2.1 34 = .ok (.ireturn, 1) := by decide +kernel
abbrev mX12_isWhole : gz_M := (yX12_isWhole, cX12_isWhole, 2, some .boolean)
theorem dX12_isWhole_0 : decode mX12_isWhole.2.1 0 = .ok (.iconst 0, 1) := by decide +kernel
theorem dX12_isWhole_1 : decode mX12_isWhole.2.1 1 = .ok (.istore_n 1, 1) := by decide +kernel
theorem dX12_isWhole_2 : decode mX12_isWhole.2.1 2 = .ok (.iload_n 1, 1) := by decide +kernel
theorem dX12_isWhole_3 : decode mX12_isWhole.2.1 3 = .ok (.aload_n 0, 1) := by decide +kernel
theorem dX12_isWhole_4 : decode mX12_isWhole.2.1 4 = .ok (.getfield 250, 3) := by decide +kernel
theorem dX12_isWhole_7 : decode mX12_isWhole.2.1 7 = .ok (.if_icmp .ge 26, 3) := by decide +kernel
theorem dX12_isWhole_10 : decode mX12_isWhole.2.1 10 = .ok (.aload_n 0, 1) := by decide +kernel
theorem dX12_isWhole_11 : decode mX12_isWhole.2.1 11 = .ok (.getfield 55, 3) := by decide +kernel
theorem dX12_isWhole_14 : decode mX12_isWhole.2.1 14 = .ok (.iload_n 1, 1) := by decide +kernel
theorem dX12_isWhole_15 : decode mX12_isWhole.2.1 15 = .ok (.iaload, 1) := by decide +kernel
theorem dX12_isWhole_16 : decode mX12_isWhole.2.1 16 = .ok (.aload_n 0, 1) := by decide +kernel
theorem dX12_isWhole_17 : decode mX12_isWhole.2.1 17 = .ok (.getfield 40, 3) := by decide +kernel
theorem dX12_isWhole_20 : decode mX12_isWhole.2.1 20 = .ok (.iconst 0, 1) := by decide +kernel
theorem dX12_isWhole_21 : decode mX12_isWhole.2.1 21 = .ok (.iaload, 1) := by decide +kernel
theorem dX12_isWhole_22 : decode mX12_isWhole.2.1 22 = .ok (.if_icmp .le 5, 3) := by decide +kernel
theorem dX12_isWhole_25 : decode mX12_isWhole.2.1 25 = .ok (.iconst 0, 1) := by decide +kernel
theorem dX12_isWhole_26 : decode mX12_isWhole.2.1 26 = .ok (.ireturn, 1) := by decide +kernel
theorem dX12_isWhole_27 : decode mX12_isWhole.2.1 27 = .ok (.iinc 1 1, 3) := by decide +kernel
theorem dX12_isWhole_30 : decode mX12_isWhole.2.1 30 = .ok (.goto (-28), 3) := by decide +kernel
theorem dX12_isWhole_33 : decode mX12_isWhole.2.1 33 = .ok (.iconst 0, 1) := by decide +kernel
theorem dX12_isWhole_34 : decode mX12_isWhole.2.1 34 = .ok (.istore_n 1, 1) := by decide +kernel
theorem dX12_isWhole_35 : decode mX12_isWhole.2.1 35 = .ok (.iload_n 1, 1) := by decide +kernel
theorem dX12_isWhole_36 : decode mX12_isWhole.2.1 36 = .ok (.aload_n 0, 1) := by decide +kernel
theorem dX12_isWhole_37 : decode mX12_isWhole.2.1 37 = .ok (.getfield 256, 3) := by decide +kernel
theorem dX12_isWhole_40 : decode mX12_isWhole.2.1 40 = .ok (.if_icmp .ge 47, 3) := by decide +kernel
theorem dX12_isWhole_43 : decode mX12_isWhole.2.1 43 = .ok (.aload_n 0, 1) := by decide +kernel
theorem dX12_isWhole_44 : decode mX12_isWhole.2.1 44 = .ok (.getfield 46, 3) := by decide +kernel
theorem dX12_isWhole_47 : decode mX12_isWhole.2.1 47 = .ok (.iconst 4, 1) := by decide +kernel
theorem dX12_isWhole_48 : decode mX12_isWhole.2.1 48 = .ok (.iload_n 1, 1) := by decide +kernel
theorem dX12_isWhole_49 : decode mX12_isWhole.2.1 49 = .ok (.imul, 1) := by decide +kernel
theorem dX12_isWhole_50 : decode mX12_isWhole.2.1 50 = .ok (.iaload, 1) := by decide +kernel
theorem dX12_isWhole_51 : decode mX12_isWhole.2.1 51 = .ok (.aload_n 0, 1) := by decide +kernel
theorem dX12_isWhole_52 : decode mX12_isWhole.2.1 52 = .ok (.getfield 40, 3) := by decide +kernel
theorem dX12_isWhole_55 : decode mX12_isWhole.2.1 55 = .ok (.iconst 0, 1) := by decide +kernel
theorem dX12_isWhole_56 : decode mX12_isWhole.2.1 56 = .ok (.iaload, 1) := by decide +kernel
theorem dX12_isWhole_57 : decode mX12_isWhole.2.1 57 = .ok (.if_icmp .ge 22, 3) := by decide +kernel
theorem dX12_isWhole_60 : decode mX12_isWhole.2.1 60 = .ok (.aload_n 0, 1) := by decide +kernel
theorem dX12_isWhole_61 : decode mX12_isWhole.2.1 61 = .ok (.getfield 46, 3) := by decide +kernel
theorem dX12_isWhole_64 : decode mX12_isWhole.2.1 64 = .ok (.iconst 4, 1) := by decide +kernel
theorem dX12_isWhole_65 : decode mX12_isWhole.2.1 65 = .ok (.iload_n 1, 1) := by decide +kernel
theorem dX12_isWhole_66 : decode mX12_isWhole.2.1 66 = .ok (.imul, 1) := by decide +kernel
theorem dX12_isWhole_67 : decode mX12_isWhole.2.1 67 = .ok (.iconst 1, 1) := by decide +kernel
theorem dX12_isWhole_68 : decode mX12_isWhole.2.1 68 = .ok (.iadd, 1) := by decide +kernel
theorem dX12_isWhole_69 : decode mX12_isWhole.2.1 69 = .ok (.iaload, 1) := by decide +kernel
theorem dX12_isWhole_70 : decode mX12_isWhole.2.1 70 = .ok (.aload_n 0, 1) := by decide +kernel
theorem dX12_isWhole_71 : decode mX12_isWhole.2.1 71 = .ok (.getfield 40, 3) := by decide +kernel
theorem dX12_isWhole_74 : decode mX12_isWhole.2.1 74 = .ok (.iconst 1, 1) := by decide +kernel
theorem dX12_isWhole_75 : decode mX12_isWhole.2.1 75 = .ok (.iaload, 1) := by decide +kernel
theorem dX12_isWhole_76 : decode mX12_isWhole.2.1 76 = .ok (.if_icmp .lt 5, 3) := by decide +kernel
theorem dX12_isWhole_79 : decode mX12_isWhole.2.1 79 = .ok (.iconst 0, 1) := by decide +kernel
theorem dX12_isWhole_80 : decode mX12_isWhole.2.1 80 = .ok (.ireturn, 1) := by decide +kernel
theorem dX12_isWhole_81 : decode mX12_isWhole.2.1 81 = .ok (.iinc 1 1, 3) := by decide +kernel
theorem dX12_isWhole_84 : decode mX12_isWhole.2.1 84 = .ok (.goto (-49), 3) := by decide +kernel
theorem dX12_isWhole_87 : decode mX12_isWhole.2.1 87 = .ok (.aload_n 0, 1) := by decide +kernel
theorem dX12_isWhole_88 : decode mX12_isWhole.2.1 88 = .ok (.getfield 256, 3) := by decide +kernel
theorem dX12_isWhole_91 : decode mX12_isWhole.2.1 91 = .ok (.ifCond .le 20, 3) := by decide +kernel
theorem dX12_isWhole_94 : decode mX12_isWhole.2.1 94 = .ok (.aload_n 0, 1) := by decide +kernel
theorem dX12_isWhole_95 : decode mX12_isWhole.2.1 95 = .ok (.getfield 250, 3) := by decide +kernel
theorem dX12_isWhole_98 : decode mX12_isWhole.2.1 98 = .ok (.aload_n 0, 1) := by decide +kernel
theorem dX12_isWhole_99 : decode mX12_isWhole.2.1 99 = .ok (.getfield 40, 3) := by decide +kernel
theorem dX12_isWhole_102 : decode mX12_isWhole.2.1 102 = .ok (.iconst 1, 1) := by decide +kernel
theorem dX12_isWhole_103 : decode mX12_isWhole.2.1 103 = .ok (.iaload, 1) := by decide +kernel
theorem dX12_isWhole_104 : decode mX12_isWhole.2.1 104 = .ok (.if_icmp .gt 7, 3) := by decide +kernel
theorem dX12_isWhole_107 : decode mX12_isWhole.2.1 107 = .ok (.iconst 1, 1) := by decide +kernel
theorem dX12_isWhole_108 : decode mX12_isWhole.2.1 108 = .ok (.goto 4, 3) := by decide +kernel
theorem dX12_isWhole_111 : decode mX12_isWhole.2.1 111 = .ok (.iconst 0, 1) := by decide +kernel
theorem dX12_isWhole_112 : decode mX12_isWhole.2.1 112 = .ok (.ireturn, 1) := by decide +kernel
abbrev mX12_law : gz_M := (yX12_law, cX12_law, 2, some .boolean)
theorem dX12_law_0 : decode mX12_law.2.1 0 = .ok (.aload_n 0, 1) := by decide +kernel
theorem dX12_law_1 : decode mX12_law.2.1 1 = .ok (.iconst 0, 1) := by decide +kernel
theorem dX12_law_2 : decode mX12_law.2.1 2 = .ok (.putfield 104, 3) := by decide +kernel
theorem dX12_law_5 : decode mX12_law.2.1 5 = .ok (.iload_n 1, 1) := by decide +kernel
theorem dX12_law_6 : decode mX12_law.2.1 6 = .ok (.iconst (-1), 1) := by decide +kernel
theorem dX12_law_7 : decode mX12_law.2.1 7 = .ok (.if_icmp .eq 21, 3) := by decide +kernel
theorem dX12_law_10 : decode mX12_law.2.1 10 = .ok (.iload_n 1, 1) := by decide +kernel
theorem dX12_law_11 : decode mX12_law.2.1 11 = .ok (.i2l, 1) := by decide +kernel
theorem dX12_law_12 : decode mX12_law.2.1 12 = .ok (.lconst 0, 1) := by decide +kernel
theorem dX12_law_13 : decode mX12_law.2.1 13 = .ok (.aload_n 0, 1) := by decide +kernel
theorem dX12_law_14 : decode mX12_law.2.1 14 = .ok (.getfield 295, 3) := by decide +kernel
theorem dX12_law_17 : decode mX12_law.2.1 17 = .ok (.iconst 1, 1) := by decide +kernel
theorem dX12_law_18 : decode mX12_law.2.1 18 = .ok (.isub, 1) := by decide +kernel
theorem dX12_law_19 : decode mX12_law.2.1 19 = .ok (.i2l, 1) := by decide +kernel
theorem dX12_law_20 : decode mX12_law.2.1 20 = .ok (.invokestatic 225, 3) := by decide +kernel
theorem dX12_law_23 : decode mX12_law.2.1 23 = .ok (.ifCond .ne 5, 3) := by decide +kernel
theorem dX12_law_26 : decode mX12_law.2.1 26 = .ok (.iconst 0, 1) := by decide +kernel
theorem dX12_law_27 : decode mX12_law.2.1 27 = .ok (.ireturn, 1) := by decide +kernel
theorem dX12_law_28 : decode mX12_law.2.1 28 = .ok (.aload_n 0, 1) := by decide +kernel
theorem dX12_law_29 : decode mX12_law.2.1 29 = .ok (.iload_n 1, 1) := by decide +kernel
theorem dX12_law_30 : decode mX12_law.2.1 30 = .ok (.putfield 70, 3) := by decide +kernel
theorem dX12_law_33 : decode mX12_law.2.1 33 = .ok (.iconst 1, 1) := by decide +kernel
theorem dX12_law_34 : decode mX12_law.2.1 34 = .ok (.ireturn, 1) := by decide +kernel
abbrev mX12_lays : gz_M := (yX12_lays, cX12_lays, 3, none)
theorem dX12_lays_0 : decode mX12_lays.2.1 0 = .ok (.iconst 0, 1) := by decide +kernel
theorem dX12_lays_1 : decode mX12_lays.2.1 1 = .ok (.istore_n 2, 1) := by decide +kernel
theorem dX12_lays_2 : decode mX12_lays.2.1 2 = .ok (.iload_n 2, 1) := by decide +kernel
theorem dX12_lays_3 : decode mX12_lays.2.1 3 = .ok (.sipush 231, 3) := by decide +kernel
theorem dX12_lays_6 : decode mX12_lays.2.1 6 = .ok (.if_icmp .ge 13, 3) := by decide +kernel
theorem dX12_lays_9 : decode mX12_lays.2.1 9 = .ok (.aload_n 1, 1) := by decide +kernel
theorem dX12_lays_10 : decode mX12_lays.2.1 10 = .ok (.iload_n 2, 1) := by decide +kernel
theorem dX12_lays_11 : decode mX12_lays.2.1 11 = .ok (.iconst 0, 1) := by decide +kernel
theorem dX12_lays_12 : decode mX12_lays.2.1 12 = .ok (.iastore, 1) := by decide +kernel
theorem dX12_lays_13 : decode mX12_lays.2.1 13 = .ok (.iinc 2 1, 3) := by decide +kernel
theorem dX12_lays_16 : decode mX12_lays.2.1 16 = .ok (.goto (-14), 3) := by decide +kernel
theorem dX12_lays_19 : decode mX12_lays.2.1 19 = .ok (.iconst 0, 1) := by decide +kernel
theorem dX12_lays_20 : decode mX12_lays.2.1 20 = .ok (.istore_n 2, 1) := by decide +kernel
theorem dX12_lays_21 : decode mX12_lays.2.1 21 = .ok (.iload_n 2, 1) := by decide +kernel
theorem dX12_lays_22 : decode mX12_lays.2.1 22 = .ok (.aload_n 0, 1) := by decide +kernel
theorem dX12_lays_23 : decode mX12_lays.2.1 23 = .ok (.invokevirtual 319, 3) := by decide +kernel
theorem dX12_lays_26 : decode mX12_lays.2.1 26 = .ok (.if_icmp .ge 37, 3) := by decide +kernel
theorem dX12_lays_29 : decode mX12_lays.2.1 29 = .ok (.aload_n 1, 1) := by decide +kernel
theorem dX12_lays_30 : decode mX12_lays.2.1 30 = .ok (.iload_n 2, 1) := by decide +kernel
theorem dX12_lays_31 : decode mX12_lays.2.1 31 = .ok (.aload_n 0, 1) := by decide +kernel
theorem dX12_lays_32 : decode mX12_lays.2.1 32 = .ok (.getfield 49, 3) := by decide +kernel
theorem dX12_lays_35 : decode mX12_lays.2.1 35 = .ok (.bipush 6, 2) := by decide +kernel
theorem dX12_lays_37 : decode mX12_lays.2.1 37 = .ok (.iload_n 2, 1) := by decide +kernel
theorem dX12_lays_38 : decode mX12_lays.2.1 38 = .ok (.aload_n 0, 1) := by decide +kernel
theorem dX12_lays_39 : decode mX12_lays.2.1 39 = .ok (.getfield 37, 3) := by decide +kernel
theorem dX12_lays_42 : decode mX12_lays.2.1 42 = .ok (.iconst 0, 1) := by decide +kernel
theorem dX12_lays_43 : decode mX12_lays.2.1 43 = .ok (.iaload, 1) := by decide +kernel
theorem dX12_lays_44 : decode mX12_lays.2.1 44 = .ok (.idiv, 1) := by decide +kernel
theorem dX12_lays_45 : decode mX12_lays.2.1 45 = .ok (.imul, 1) := by decide +kernel
theorem dX12_lays_46 : decode mX12_lays.2.1 46 = .ok (.iload_n 2, 1) := by decide +kernel
theorem dX12_lays_47 : decode mX12_lays.2.1 47 = .ok (.aload_n 0, 1) := by decide +kernel
theorem dX12_lays_48 : decode mX12_lays.2.1 48 = .ok (.getfield 37, 3) := by decide +kernel
theorem dX12_lays_51 : decode mX12_lays.2.1 51 = .ok (.iconst 0, 1) := by decide +kernel
theorem dX12_lays_52 : decode mX12_lays.2.1 52 = .ok (.iaload, 1) := by decide +kernel
theorem dX12_lays_53 : decode mX12_lays.2.1 53 = .ok (.irem, 1) := by decide +kernel
theorem dX12_lays_54 : decode mX12_lays.2.1 54 = .ok (.iadd, 1) := by decide +kernel
theorem dX12_lays_55 : decode mX12_lays.2.1 55 = .ok (.iaload, 1) := by decide +kernel
theorem dX12_lays_56 : decode mX12_lays.2.1 56 = .ok (.iastore, 1) := by decide +kernel
theorem dX12_lays_57 : decode mX12_lays.2.1 57 = .ok (.iinc 2 1, 3) := by decide +kernel
theorem dX12_lays_60 : decode mX12_lays.2.1 60 = .ok (.goto (-39), 3) := by decide +kernel
theorem dX12_lays_63 : decode mX12_lays.2.1 63 = .ok (.iconst 0, 1) := by decide +kernel
theorem dX12_lays_64 : decode mX12_lays.2.1 64 = .ok (.istore_n 2, 1) := by decide +kernel
theorem dX12_lays_65 : decode mX12_lays.2.1 65 = .ok (.iload_n 2, 1) := by decide +kernel
theorem dX12_lays_66 : decode mX12_lays.2.1 66 = .ok (.aload_n 0, 1) := by decide +kernel
theorem dX12_lays_67 : decode mX12_lays.2.1 67 = .ok (.getfield 303, 3) := by decide +kernel
theorem dX12_lays_70 : decode mX12_lays.2.1 70 = .ok (.if_icmp .ge 44, 3) := by decide +kernel
theorem dX12_lays_73 : decode mX12_lays.2.1 73 = .ok (.aload_n 1, 1) := by decide +kernel
theorem dX12_lays_74 : decode mX12_lays.2.1 74 = .ok (.bipush 30, 2) := by decide +kernel
theorem dX12_lays_76 : decode mX12_lays.2.1 76 = .ok (.iconst 4, 1) := by decide +kernel
theorem dX12_lays_77 : decode mX12_lays.2.1 77 = .ok (.iload_n 2, 1) := by decide +kernel
theorem dX12_lays_78 : decode mX12_lays.2.1 78 = .ok (.imul, 1) := by decide +kernel
theorem dX12_lays_79 : decode mX12_lays.2.1 79 = .ok (.iadd, 1) := by decide +kernel
theorem dX12_lays_80 : decode mX12_lays.2.1 80 = .ok (.iconst 0, 1) := by decide +kernel
theorem dX12_lays_81 : decode mX12_lays.2.1 81 = .ok (.iadd, 1) := by decide +kernel
theorem dX12_lays_82 : decode mX12_lays.2.1 82 = .ok (.aload_n 0, 1) := by decide +kernel
theorem dX12_lays_83 : decode mX12_lays.2.1 83 = .ok (.iload_n 2, 1) := by decide +kernel
theorem dX12_lays_84 : decode mX12_lays.2.1 84 = .ok (.invokevirtual 322, 3) := by decide +kernel
theorem dX12_lays_87 : decode mX12_lays.2.1 87 = .ok (.iastore, 1) := by decide +kernel
theorem dX12_lays_88 : decode mX12_lays.2.1 88 = .ok (.aload_n 1, 1) := by decide +kernel
theorem dX12_lays_89 : decode mX12_lays.2.1 89 = .ok (.bipush 30, 2) := by decide +kernel
theorem dX12_lays_91 : decode mX12_lays.2.1 91 = .ok (.iconst 4, 1) := by decide +kernel
theorem dX12_lays_92 : decode mX12_lays.2.1 92 = .ok (.iload_n 2, 1) := by decide +kernel
theorem dX12_lays_93 : decode mX12_lays.2.1 93 = .ok (.imul, 1) := by decide +kernel
theorem dX12_lays_94 : decode mX12_lays.2.1 94 = .ok (.iadd, 1) := by decide +kernel
theorem dX12_lays_95 : decode mX12_lays.2.1 95 = .ok (.iconst 1, 1) := by decide +kernel
theorem dX12_lays_96 : decode mX12_lays.2.1 96 = .ok (.iadd, 1) := by decide +kernel
theorem dX12_lays_97 : decode mX12_lays.2.1 97 = .ok (.aload_n 0, 1) := by decide +kernel
theorem dX12_lays_98 : decode mX12_lays.2.1 98 = .ok (.getfield 43, 3) := by decide +kernel
theorem dX12_lays_101 : decode mX12_lays.2.1 101 = .ok (.iconst 4, 1) := by decide +kernel
theorem dX12_lays_102 : decode mX12_lays.2.1 102 = .ok (.iload_n 2, 1) := by decide +kernel
theorem dX12_lays_103 : decode mX12_lays.2.1 103 = .ok (.imul, 1) := by decide +kernel
theorem dX12_lays_104 : decode mX12_lays.2.1 104 = .ok (.iconst 2, 1) := by decide +kernel
theorem dX12_lays_105 : decode mX12_lays.2.1 105 = .ok (.iadd, 1) := by decide +kernel
theorem dX12_lays_106 : decode mX12_lays.2.1 106 = .ok (.iaload, 1) := by decide +kernel
theorem dX12_lays_107 : decode mX12_lays.2.1 107 = .ok (.iastore, 1) := by decide +kernel
theorem dX12_lays_108 : decode mX12_lays.2.1 108 = .ok (.iinc 2 1, 3) := by decide +kernel
theorem dX12_lays_111 : decode mX12_lays.2.1 111 = .ok (.goto (-46), 3) := by decide +kernel
theorem dX12_lays_114 : decode mX12_lays.2.1 114 = .ok (.aload_n 1, 1) := by decide +kernel
theorem dX12_lays_115 : decode mX12_lays.2.1 115 = .ok (.bipush 46, 2) := by decide +kernel
theorem dX12_lays_117 : decode mX12_lays.2.1 117 = .ok (.aload_n 0, 1) := by decide +kernel
theorem dX12_lays_118 : decode mX12_lays.2.1 118 = .ok (.getfield 37, 3) := by decide +kernel
theorem dX12_lays_121 : decode mX12_lays.2.1 121 = .ok (.iconst 2, 1) := by decide +kernel
theorem dX12_lays_122 : decode mX12_lays.2.1 122 = .ok (.iaload, 1) := by decide +kernel
theorem dX12_lays_123 : decode mX12_lays.2.1 123 = .ok (.iastore, 1) := by decide +kernel
theorem dX12_lays_124 : decode mX12_lays.2.1 124 = .ok (.aload_n 1, 1) := by decide +kernel
theorem dX12_lays_125 : decode mX12_lays.2.1 125 = .ok (.bipush 48, 2) := by decide +kernel
theorem dX12_lays_127 : decode mX12_lays.2.1 127 = .ok (.aload_n 0, 1) := by decide +kernel
theorem dX12_lays_128 : decode mX12_lays.2.1 128 = .ok (.getfield 37, 3) := by decide +kernel
theorem dX12_lays_131 : decode mX12_lays.2.1 131 = .ok (.iconst 3, 1) := by decide +kernel
theorem dX12_lays_132 : decode mX12_lays.2.1 132 = .ok (.iaload, 1) := by decide +kernel
theorem dX12_lays_133 : decode mX12_lays.2.1 133 = .ok (.iastore, 1) := by decide +kernel
theorem dX12_lays_134 : decode mX12_lays.2.1 134 = .ok (.return_, 1) := by decide +kernel
abbrev mX12_laysPaths : gz_M := (yX12_laysPaths, cX12_laysPaths, 6, none)
theorem dX12_laysPaths_0 : decode mX12_laysPaths.2.1 0 = .ok (.iconst 1, 1) := by decide +kernel
theorem dX12_laysPaths_1 : decode mX12_laysPaths.2.1 1 = .ok (.istore_n 2, 1) := by decide +kernel
theorem dX12_laysPaths_2 : decode mX12_laysPaths.2.1 2 = .ok (.iload_n 2, 1) := by decide +kernel
theorem dX12_laysPaths_3 : decode mX12_laysPaths.2.1 3 = .ok (.iconst 4, 1) := by decide +kernel
theorem dX12_laysPaths_4 : decode mX12_laysPaths.2.1 4 = .ok (.if_icmp .gt 114, 3) := by decide +kernel
theorem dX12_laysPaths_7 : decode mX12_laysPaths.2.1 7 = .ok (.iconst 0, 1) := by decide +kernel
theorem dX12_laysPaths_8 : decode mX12_laysPaths.2.1 8 = .ok (.istore_n 3, 1) := by decide +kernel
theorem dX12_laysPaths_9 : decode mX12_laysPaths.2.1 9 = .ok (.iload_n 3, 1) := by decide +kernel
theorem dX12_laysPaths_10 : decode mX12_laysPaths.2.1 10 = .ok (.iconst 4, 1) := by decide +kernel
theorem dX12_laysPaths_11 : decode mX12_laysPaths.2.1 11 = .ok (.if_icmp .ge 101, 3) := by decide +kernel
theorem dX12_laysPaths_14 : decode mX12_laysPaths.2.1 14 = .ok (.aload_n 0, 1) := by decide +kernel
theorem dX12_laysPaths_15 : decode mX12_laysPaths.2.1 15 = .ok (.aload_n 0, 1) := by decide +kernel
theorem dX12_laysPaths_16 : decode mX12_laysPaths.2.1 16 = .ok (.getfield 67, 3) := by decide +kernel
theorem dX12_laysPaths_19 : decode mX12_laysPaths.2.1 19 = .ok (.invokevirtual 306, 3) := by decide +kernel
theorem dX12_laysPaths_22 : decode mX12_laysPaths.2.1 22 = .ok (.aload_n 0, 1) := by decide +kernel
theorem dX12_laysPaths_23 : decode mX12_laysPaths.2.1 23 = .ok (.getfield 67, 3) := by decide +kernel
theorem dX12_laysPaths_26 : decode mX12_laysPaths.2.1 26 = .ok (.bipush 30, 2) := by decide +kernel
theorem dX12_laysPaths_28 : decode mX12_laysPaths.2.1 28 = .ok (.iconst 4, 1) := by decide +kernel
theorem dX12_laysPaths_29 : decode mX12_laysPaths.2.1 29 = .ok (.iload_n 1, 1) := by decide +kernel
theorem dX12_laysPaths_30 : decode mX12_laysPaths.2.1 30 = .ok (.imul, 1) := by decide +kernel
theorem dX12_laysPaths_31 : decode mX12_laysPaths.2.1 31 = .ok (.iadd, 1) := by decide +kernel
theorem dX12_laysPaths_32 : decode mX12_laysPaths.2.1 32 = .ok (.iconst 1, 1) := by decide +kernel
theorem dX12_laysPaths_33 : decode mX12_laysPaths.2.1 33 = .ok (.iadd, 1) := by decide +kernel
theorem dX12_laysPaths_34 : decode mX12_laysPaths.2.1 34 = .ok (.iload_n 3, 1) := by decide +kernel
theorem dX12_laysPaths_35 : decode mX12_laysPaths.2.1 35 = .ok (.iastore, 1) := by decide +kernel
theorem dX12_laysPaths_36 : decode mX12_laysPaths.2.1 36 = .ok (.bipush 31, 2) := by decide +kernel
theorem dX12_laysPaths_38 : decode mX12_laysPaths.2.1 38 = .ok (.iconst 4, 1) := by decide +kernel
theorem dX12_laysPaths_39 : decode mX12_laysPaths.2.1 39 = .ok (.iload_n 2, 1) := by decide +kernel
theorem dX12_laysPaths_40 : decode mX12_laysPaths.2.1 40 = .ok (.iconst 1, 1) := by decide +kernel
theorem dX12_laysPaths_41 : decode mX12_laysPaths.2.1 41 = .ok (.isub, 1) := by decide +kernel
theorem dX12_laysPaths_42 : decode mX12_laysPaths.2.1 42 = .ok (.imul, 1) := by decide +kernel
theorem dX12_laysPaths_43 : decode mX12_laysPaths.2.1 43 = .ok (.iload_n 3, 1) := by decide +kernel
theorem dX12_laysPaths_44 : decode mX12_laysPaths.2.1 44 = .ok (.iadd, 1) := by decide +kernel
theorem dX12_laysPaths_45 : decode mX12_laysPaths.2.1 45 = .ok (.imul, 1) := by decide +kernel
theorem dX12_laysPaths_46 : decode mX12_laysPaths.2.1 46 = .ok (.istore 4, 2) := by decide +kernel
theorem dX12_laysPaths_48 : decode mX12_laysPaths.2.1 48 = .ok (.iconst 0, 1) := by decide +kernel
theorem dX12_laysPaths_49 : decode mX12_laysPaths.2.1 49 = .ok (.istore 5, 2) := by decide +kernel
theorem dX12_laysPaths_51 : decode mX12_laysPaths.2.1 51 = .ok (.iload 5, 2) := by decide +kernel
theorem dX12_laysPaths_53 : decode mX12_laysPaths.2.1 53 = .ok (.bipush 30, 2) := by decide +kernel
theorem dX12_laysPaths_55 : decode mX12_laysPaths.2.1 55 = .ok (.if_icmp .gt 51, 3) := by decide +kernel
theorem dX12_laysPaths_58 : decode mX12_laysPaths.2.1 58 = .ok (.aload_n 0, 1) := by decide +kernel
theorem dX12_laysPaths_59 : decode mX12_laysPaths.2.1 59 = .ok (.getfield 92, 3) := by decide +kernel
theorem dX12_laysPaths_62 : decode mX12_laysPaths.2.1 62 = .ok (.iload 4, 2) := by decide +kernel
theorem dX12_laysPaths_64 : decode mX12_laysPaths.2.1 64 = .ok (.iload 5, 2) := by decide +kernel
theorem dX12_laysPaths_66 : decode mX12_laysPaths.2.1 66 = .ok (.iadd, 1) := by decide +kernel
theorem dX12_laysPaths_67 : decode mX12_laysPaths.2.1 67 = .ok (.aload_n 0, 1) := by decide +kernel
theorem dX12_laysPaths_68 : decode mX12_laysPaths.2.1 68 = .ok (.getfield 67, 3) := by decide +kernel
theorem dX12_laysPaths_71 : decode mX12_laysPaths.2.1 71 = .ok (.bipush 30, 2) := by decide +kernel
theorem dX12_laysPaths_73 : decode mX12_laysPaths.2.1 73 = .ok (.iconst 4, 1) := by decide +kernel
theorem dX12_laysPaths_74 : decode mX12_laysPaths.2.1 74 = .ok (.iload_n 1, 1) := by decide +kernel
theorem dX12_laysPaths_75 : decode mX12_laysPaths.2.1 75 = .ok (.imul, 1) := by decide +kernel
theorem dX12_laysPaths_76 : decode mX12_laysPaths.2.1 76 = .ok (.iadd, 1) := by decide +kernel
theorem dX12_laysPaths_77 : decode mX12_laysPaths.2.1 77 = .ok (.iaload, 1) := by decide +kernel
theorem dX12_laysPaths_78 : decode mX12_laysPaths.2.1 78 = .ok (.iastore, 1) := by decide +kernel
theorem dX12_laysPaths_79 : decode mX12_laysPaths.2.1 79 = .ok (.aload_n 0, 1) := by decide +kernel
theorem dX12_laysPaths_80 : decode mX12_laysPaths.2.1 80 = .ok (.aload_n 0, 1) := by decide +kernel
theorem dX12_laysPaths_81 : decode mX12_laysPaths.2.1 81 = .ok (.getfield 67, 3) := by decide +kernel
theorem dX12_laysPaths_84 : decode mX12_laysPaths.2.1 84 = .ok (.iload_n 1, 1) := by decide +kernel
theorem dX12_laysPaths_85 : decode mX12_laysPaths.2.1 85 = .ok (.iload_n 2, 1) := by decide +kernel
theorem dX12_laysPaths_86 : decode mX12_laysPaths.2.1 86 = .ok (.invokevirtual 362, 3) := by decide +kernel
theorem dX12_laysPaths_89 : decode mX12_laysPaths.2.1 89 = .ok (.aload_n 0, 1) := by decide +kernel
theorem dX12_laysPaths_90 : decode mX12_laysPaths.2.1 90 = .ok (.getfield 67, 3) := by decide +kernel
theorem dX12_laysPaths_93 : decode mX12_laysPaths.2.1 93 = .ok (.bipush 49, 2) := by decide +kernel
theorem dX12_laysPaths_95 : decode mX12_laysPaths.2.1 95 = .ok (.dup2, 1) := by decide +kernel
theorem dX12_laysPaths_96 : decode mX12_laysPaths.2.1 96 = .ok (.iaload, 1) := by decide +kernel
theorem dX12_laysPaths_97 : decode mX12_laysPaths.2.1 97 = .ok (.iconst 1, 1) := by decide +kernel
theorem dX12_laysPaths_98 : decode mX12_laysPaths.2.1 98 = .ok (.iadd, 1) := by decide +kernel
theorem dX12_laysPaths_99 : decode mX12_laysPaths.2.1 99 = .ok (.iastore, 1) := by decide +kernel
theorem dX12_laysPaths_100 : decode mX12_laysPaths.2.1 100 = .ok (.iinc 5 1, 3) := by decide +kernel
theorem dX12_laysPaths_103 : decode mX12_laysPaths.2.1 103 = .ok (.goto (-52), 3) := by decide +kernel
theorem dX12_laysPaths_106 : decode mX12_laysPaths.2.1 106 = .ok (.iinc 3 1, 3) := by decide +kernel
theorem dX12_laysPaths_109 : decode mX12_laysPaths.2.1 109 = .ok (.goto (-100), 3) := by decide +kernel
theorem dX12_laysPaths_112 : decode mX12_laysPaths.2.1 112 = .ok (.iinc 2 1, 3) := by decide +kernel
theorem dX12_laysPaths_115 : decode mX12_laysPaths.2.1 115 = .ok (.goto (-113), 3) := by decide +kernel
theorem dX12_laysPaths_118 : decode mX12_laysPaths.2.1 118 = .ok (.return_, 1) := by decide +kernel
abbrev mX12_leastOf : gz_M := (yX12_leastOf, cX12_leastOf, 2, some .int)
theorem dX12_leastOf_0 : decode mX12_leastOf.2.1 0 = .ok (.iload_n 0, 1) := by decide +kernel
theorem dX12_leastOf_1 : decode mX12_leastOf.2.1 1 = .ok (.bipush 115, 2) := by decide +kernel
theorem dX12_leastOf_3 : decode mX12_leastOf.2.1 3 = .ok (.if_icmp .ne 14, 3) := by decide +kernel
theorem dX12_leastOf_6 : decode mX12_leastOf.2.1 6 = .ok (.iload_n 1, 1) := by decide +kernel
theorem dX12_leastOf_7 : decode mX12_leastOf.2.1 7 = .ok (.iconst 2, 1) := by decide +kernel
theorem dX12_leastOf_8 : decode mX12_leastOf.2.1 8 = .ok (.if_icmp .ge 7, 3) := by decide +kernel
theorem dX12_leastOf_11 : decode mX12_leastOf.2.1 11 = .ok (.iconst 2, 1) := by decide +kernel
theorem dX12_leastOf_12 : decode mX12_leastOf.2.1 12 = .ok (.goto 4, 3) := by decide +kernel
theorem dX12_leastOf_15 : decode mX12_leastOf.2.1 15 = .ok (.iconst 0, 1) := by decide +kernel
theorem dX12_leastOf_16 : decode mX12_leastOf.2.1 16 = .ok (.ireturn, 1) := by decide +kernel
theorem dX12_leastOf_17 : decode mX12_leastOf.2.1 17 = .ok (.iload_n 1, 1) := by decide +kernel
theorem dX12_leastOf_18 : decode mX12_leastOf.2.1 18 = .ok (.iconst 3, 1) := by decide +kernel
theorem dX12_leastOf_19 : decode mX12_leastOf.2.1 19 = .ok (.if_icmp .ne 7, 3) := by decide +kernel
theorem dX12_leastOf_22 : decode mX12_leastOf.2.1 22 = .ok (.iconst 1, 1) := by decide +kernel
theorem dX12_leastOf_23 : decode mX12_leastOf.2.1 23 = .ok (.goto 4, 3) := by decide +kernel
theorem dX12_leastOf_26 : decode mX12_leastOf.2.1 26 = .ok (.iconst 0, 1) := by decide +kernel
theorem dX12_leastOf_27 : decode mX12_leastOf.2.1 27 = .ok (.ireturn, 1) := by decide +kernel
abbrev mX12_log : gz_M := (yX12_log, cX12_log, 3, some .int)
theorem dX12_log_0 : decode mX12_log.2.1 0 = .ok (.aload_n 0, 1) := by decide +kernel
theorem dX12_log_1 : decode mX12_log.2.1 1 = .ok (.iconst 0, 1) := by decide +kernel
theorem dX12_log_2 : decode mX12_log.2.1 2 = .ok (.putfield 104, 3) := by decide +kernel
theorem dX12_log_5 : decode mX12_log.2.1 5 = .ok (.iload_n 1, 1) := by decide +kernel
theorem dX12_log_6 : decode mX12_log.2.1 6 = .ok (.i2l, 1) := by decide +kernel
theorem dX12_log_7 : decode mX12_log.2.1 7 = .ok (.lconst 0, 1) := by decide +kernel
theorem dX12_log_8 : decode mX12_log.2.1 8 = .ok (.aload_n 0, 1) := by decide +kernel
theorem dX12_log_9 : decode mX12_log.2.1 9 = .ok (.getfield 64, 3) := by decide +kernel
theorem dX12_log_12 : decode mX12_log.2.1 12 = .ok (.bipush 50, 2) := by decide +kernel
theorem dX12_log_14 : decode mX12_log.2.1 14 = .ok (.iaload, 1) := by decide +kernel
theorem dX12_log_15 : decode mX12_log.2.1 15 = .ok (.iconst 1, 1) := by decide +kernel
theorem dX12_log_16 : decode mX12_log.2.1 16 = .ok (.isub, 1) := by decide +kernel
theorem dX12_log_17 : decode mX12_log.2.1 17 = .ok (.i2l, 1) := by decide +kernel
theorem dX12_log_18 : decode mX12_log.2.1 18 = .ok (.invokestatic 225, 3) := by decide +kernel
theorem dX12_log_21 : decode mX12_log.2.1 21 = .ok (.ifCond .eq 41, 3) := by decide +kernel
theorem dX12_log_24 : decode mX12_log.2.1 24 = .ok (.iload_n 2, 1) := by decide +kernel
theorem dX12_log_25 : decode mX12_log.2.1 25 = .ok (.i2l, 1) := by decide +kernel
theorem dX12_log_26 : decode mX12_log.2.1 26 = .ok (.lconst 0, 1) := by decide +kernel
theorem dX12_log_27 : decode mX12_log.2.1 27 = .ok (.ldc2_w 284, 3) := by decide +kernel
theorem dX12_log_30 : decode mX12_log.2.1 30 = .ok (.invokestatic 225, 3) := by decide +kernel
theorem dX12_log_33 : decode mX12_log.2.1 33 = .ok (.ifCond .eq 29, 3) := by decide +kernel
theorem dX12_log_36 : decode mX12_log.2.1 36 = .ok (.aload_n 0, 1) := by decide +kernel
theorem dX12_log_37 : decode mX12_log.2.1 37 = .ok (.getfield 64, 3) := by decide +kernel
theorem dX12_log_40 : decode mX12_log.2.1 40 = .ok (.bipush 51, 2) := by decide +kernel
theorem dX12_log_42 : decode mX12_log.2.1 42 = .ok (.iconst 3, 1) := by decide +kernel
theorem dX12_log_43 : decode mX12_log.2.1 43 = .ok (.aload_n 0, 1) := by decide +kernel
theorem dX12_log_44 : decode mX12_log.2.1 44 = .ok (.getfield 64, 3) := by decide +kernel
theorem dX12_log_47 : decode mX12_log.2.1 47 = .ok (.bipush 50, 2) := by decide +kernel
theorem dX12_log_49 : decode mX12_log.2.1 49 = .ok (.iaload, 1) := by decide +kernel
theorem dX12_log_50 : decode mX12_log.2.1 50 = .ok (.iconst 1, 1) := by decide +kernel
theorem dX12_log_51 : decode mX12_log.2.1 51 = .ok (.isub, 1) := by decide +kernel
theorem dX12_log_52 : decode mX12_log.2.1 52 = .ok (.iload_n 1, 1) := by decide +kernel
theorem dX12_log_53 : decode mX12_log.2.1 53 = .ok (.isub, 1) := by decide +kernel
theorem dX12_log_54 : decode mX12_log.2.1 54 = .ok (.imul, 1) := by decide +kernel
theorem dX12_log_55 : decode mX12_log.2.1 55 = .ok (.iadd, 1) := by decide +kernel
theorem dX12_log_56 : decode mX12_log.2.1 56 = .ok (.iload_n 2, 1) := by decide +kernel
theorem dX12_log_57 : decode mX12_log.2.1 57 = .ok (.iadd, 1) := by decide +kernel
theorem dX12_log_58 : decode mX12_log.2.1 58 = .ok (.iaload, 1) := by decide +kernel
theorem dX12_log_59 : decode mX12_log.2.1 59 = .ok (.goto 4, 3) := by decide +kernel
theorem dX12_log_62 : decode mX12_log.2.1 62 = .ok (.iconst (-1), 1) := by decide +kernel
theorem dX12_log_63 : decode mX12_log.2.1 63 = .ok (.ireturn, 1) := by decide +kernel
abbrev mX12_look : gz_M := (yX12_look, cX12_look, 1, some .int)
theorem dX12_look_0 : decode mX12_look.2.1 0 = .ok (.aload_n 0, 1) := by decide +kernel
theorem dX12_look_1 : decode mX12_look.2.1 1 = .ok (.getfield 127, 3) := by decide +kernel
theorem dX12_look_4 : decode mX12_look.2.1 4 = .ok (.aload_n 0, 1) := by decide +kernel
theorem dX12_look_5 : decode mX12_look.2.1 5 = .ok (.getfield 130, 3) := by decide +kernel
theorem dX12_look_8 : decode mX12_look.2.1 8 = .ok (.if_icmp .ge 35, 3) := by decide +kernel
theorem dX12_look_11 : decode mX12_look.2.1 11 = .ok (.aload_n 0, 1) := by decide +kernel
theorem dX12_look_12 : decode mX12_look.2.1 12 = .ok (.getfield 23, 3) := by decide +kernel
theorem dX12_look_15 : decode mX12_look.2.1 15 = .ok (.aload_n 0, 1) := by decide +kernel
theorem dX12_look_16 : decode mX12_look.2.1 16 = .ok (.getfield 133, 3) := by decide +kernel
theorem dX12_look_19 : decode mX12_look.2.1 19 = .ok (.aload_n 0, 1) := by decide +kernel
theorem dX12_look_20 : decode mX12_look.2.1 20 = .ok (.getfield 127, 3) := by decide +kernel
theorem dX12_look_23 : decode mX12_look.2.1 23 = .ok (.iadd, 1) := by decide +kernel
theorem dX12_look_24 : decode mX12_look.2.1 24 = .ok (.baload, 1) := by decide +kernel
theorem dX12_look_25 : decode mX12_look.2.1 25 = .ok (.bipush 32, 2) := by decide +kernel
theorem dX12_look_27 : decode mX12_look.2.1 27 = .ok (.if_icmp .ne 16, 3) := by decide +kernel
theorem dX12_look_30 : decode mX12_look.2.1 30 = .ok (.aload_n 0, 1) := by decide +kernel
theorem dX12_look_31 : decode mX12_look.2.1 31 = .ok (.dup, 1) := by decide +kernel
theorem dX12_look_32 : decode mX12_look.2.1 32 = .ok (.getfield 127, 3) := by decide +kernel
theorem dX12_look_35 : decode mX12_look.2.1 35 = .ok (.iconst 1, 1) := by decide +kernel
theorem dX12_look_36 : decode mX12_look.2.1 36 = .ok (.iadd, 1) := by decide +kernel
theorem dX12_look_37 : decode mX12_look.2.1 37 = .ok (.putfield 127, 3) := by decide +kernel
theorem dX12_look_40 : decode mX12_look.2.1 40 = .ok (.goto (-40), 3) := by decide +kernel
theorem dX12_look_43 : decode mX12_look.2.1 43 = .ok (.aload_n 0, 1) := by decide +kernel
theorem dX12_look_44 : decode mX12_look.2.1 44 = .ok (.getfield 127, 3) := by decide +kernel
theorem dX12_look_47 : decode mX12_look.2.1 47 = .ok (.aload_n 0, 1) := by decide +kernel
theorem dX12_look_48 : decode mX12_look.2.1 48 = .ok (.getfield 130, 3) := by decide +kernel
theorem dX12_look_51 : decode mX12_look.2.1 51 = .ok (.if_icmp .ge 24, 3) := by decide +kernel
theorem dX12_look_54 : decode mX12_look.2.1 54 = .ok (.aload_n 0, 1) := by decide +kernel
theorem dX12_look_55 : decode mX12_look.2.1 55 = .ok (.getfield 23, 3) := by decide +kernel
theorem dX12_look_58 : decode mX12_look.2.1 58 = .ok (.aload_n 0, 1) := by decide +kernel
theorem dX12_look_59 : decode mX12_look.2.1 59 = .ok (.getfield 133, 3) := by decide +kernel
theorem dX12_look_62 : decode mX12_look.2.1 62 = .ok (.aload_n 0, 1) := by decide +kernel
theorem dX12_look_63 : decode mX12_look.2.1 63 = .ok (.getfield 127, 3) := by decide +kernel
theorem dX12_look_66 : decode mX12_look.2.1 66 = .ok (.iadd, 1) := by decide +kernel
theorem dX12_look_67 : decode mX12_look.2.1 67 = .ok (.baload, 1) := by decide +kernel
theorem dX12_look_68 : decode mX12_look.2.1 68 = .ok (.sipush 255, 3) := by decide +kernel
theorem dX12_look_71 : decode mX12_look.2.1 71 = .ok (.iand, 1) := by decide +kernel
theorem dX12_look_72 : decode mX12_look.2.1 72 = .ok (.goto 4, 3) := by decide +kernel
theorem dX12_look_75 : decode mX12_look.2.1 75 = .ok (.iconst (-1), 1) := by decide +kernel
theorem dX12_look_76 : decode mX12_look.2.1 76 = .ok (.ireturn, 1) := by decide +kernel
abbrev mX12_meet : gz_M := (yX12_meet, cX12_meet, 3, some .int)
theorem dX12_meet_0 : decode mX12_meet.2.1 0 = .ok (.aload_n 0, 1) := by decide +kernel
theorem dX12_meet_1 : decode mX12_meet.2.1 1 = .ok (.iconst 0, 1) := by decide +kernel
theorem dX12_meet_2 : decode mX12_meet.2.1 2 = .ok (.putfield 104, 3) := by decide +kernel
theorem dX12_meet_5 : decode mX12_meet.2.1 5 = .ok (.aload_n 0, 1) := by decide +kernel
theorem dX12_meet_6 : decode mX12_meet.2.1 6 = .ok (.iload_n 1, 1) := by decide +kernel
theorem dX12_meet_7 : decode mX12_meet.2.1 7 = .ok (.iload_n 2, 1) := by decide +kernel
theorem dX12_meet_8 : decode mX12_meet.2.1 8 = .ok (.invokevirtual 449, 3) := by decide +kernel
theorem dX12_meet_11 : decode mX12_meet.2.1 11 = .ok (.ifCond .ne 5, 3) := by decide +kernel
theorem dX12_meet_14 : decode mX12_meet.2.1 14 = .ok (.iconst (-1), 1) := by decide +kernel
theorem dX12_meet_15 : decode mX12_meet.2.1 15 = .ok (.ireturn, 1) := by decide +kernel
theorem dX12_meet_16 : decode mX12_meet.2.1 16 = .ok (.aload_n 0, 1) := by decide +kernel
theorem dX12_meet_17 : decode mX12_meet.2.1 17 = .ok (.getfield 64, 3) := by decide +kernel
theorem dX12_meet_20 : decode mX12_meet.2.1 20 = .ok (.aload_n 0, 1) := by decide +kernel
theorem dX12_meet_21 : decode mX12_meet.2.1 21 = .ok (.getfield 67, 3) := by decide +kernel
theorem dX12_meet_24 : decode mX12_meet.2.1 24 = .ok (.invokestatic 434, 3) := by decide +kernel
theorem dX12_meet_27 : decode mX12_meet.2.1 27 = .ok (.aload_n 0, 1) := by decide +kernel
theorem dX12_meet_28 : decode mX12_meet.2.1 28 = .ok (.iload_n 1, 1) := by decide +kernel
theorem dX12_meet_29 : decode mX12_meet.2.1 29 = .ok (.iload_n 2, 1) := by decide +kernel
theorem dX12_meet_30 : decode mX12_meet.2.1 30 = .ok (.bipush 99, 2) := by decide +kernel
theorem dX12_meet_32 : decode mX12_meet.2.1 32 = .ok (.invokevirtual 452, 3) := by decide +kernel
theorem dX12_meet_35 : decode mX12_meet.2.1 35 = .ok (.ireturn, 1) := by decide +kernel
abbrev mX12_meetsWithin : gz_M := (yX12_meetsWithin, cX12_meetsWithin, 6, some .int)
theorem dX12_meetsWithin_0 : decode mX12_meetsWithin.2.1 0 = .ok (.iconst 1, 1) := by decide +kernel
theorem dX12_meetsWithin_1 : decode mX12_meetsWithin.2.1 1 = .ok (.istore 4, 2) := by decide +kernel
theorem dX12_meetsWithin_3 : decode mX12_meetsWithin.2.1 3 = .ok (.iload 4, 2) := by decide +kernel
theorem dX12_meetsWithin_5 : decode mX12_meetsWithin.2.1 5 = .ok (.iload_n 3, 1) := by decide +kernel
theorem dX12_meetsWithin_6 : decode mX12_meetsWithin.2.1 6 = .ok (.if_icmp .gt 31, 3) := by decide +kernel
theorem dX12_meetsWithin_9 : decode mX12_meetsWithin.2.1 9 = .ok (.aload_n 0, 1) := by decide +kernel
theorem dX12_meetsWithin_10 : decode mX12_meetsWithin.2.1 10 = .ok (.aload_n 0, 1) := by decide +kernel
theorem dX12_meetsWithin_11 : decode mX12_meetsWithin.2.1 11 = .ok (.getfield 67, 3) := by decide +kernel
theorem dX12_meetsWithin_14 : decode mX12_meetsWithin.2.1 14 = .ok (.invokevirtual 367, 3) := by decide +kernel
theorem dX12_meetsWithin_17 : decode mX12_meetsWithin.2.1 17 = .ok (.istore 5, 2) := by decide +kernel
theorem dX12_meetsWithin_19 : decode mX12_meetsWithin.2.1 19 = .ok (.aload_n 0, 1) := by decide +kernel
theorem dX12_meetsWithin_20 : decode mX12_meetsWithin.2.1 20 = .ok (.iload_n 1, 1) := by decide +kernel
theorem dX12_meetsWithin_21 : decode mX12_meetsWithin.2.1 21 = .ok (.iload_n 2, 1) := by decide +kernel
theorem dX12_meetsWithin_22 : decode mX12_meetsWithin.2.1 22 = .ok (.invokevirtual 446, 3) := by decide +kernel
theorem dX12_meetsWithin_25 : decode mX12_meetsWithin.2.1 25 = .ok (.ifCond .eq 6, 3) := by decide +kernel
theorem dX12_meetsWithin_28 : decode mX12_meetsWithin.2.1 28 = .ok (.iload 4, 2) := by decide +kernel
theorem dX12_meetsWithin_30 : decode mX12_meetsWithin.2.1 30 = .ok (.ireturn, 1) := by decide +kernel
theorem dX12_meetsWithin_31 : decode mX12_meetsWithin.2.1 31 = .ok (.iinc 4 1, 3) := by decide +kernel
theorem dX12_meetsWithin_34 : decode mX12_meetsWithin.2.1 34 = .ok (.goto (-31), 3) := by decide +kernel
theorem dX12_meetsWithin_37 : decode mX12_meetsWithin.2.1 37 = .ok (.iconst (-1), 1) := by decide +kernel
theorem dX12_meetsWithin_38 : decode mX12_meetsWithin.2.1 38 = .ok (.ireturn, 1) := by decide +kernel
abbrev mX12_mostOf : gz_M := (yX12_mostOf, cX12_mostOf, 2, some .int)
theorem dX12_mostOf_0 : decode mX12_mostOf.2.1 0 = .ok (.iload_n 0, 1) := by decide +kernel
theorem dX12_mostOf_1 : decode mX12_mostOf.2.1 1 = .ok (.bipush 115, 2) := by decide +kernel
theorem dX12_mostOf_3 : decode mX12_mostOf.2.1 3 = .ok (.if_icmp .ne 24, 3) := by decide +kernel
theorem dX12_mostOf_6 : decode mX12_mostOf.2.1 6 = .ok (.iload_n 1, 1) := by decide +kernel
theorem dX12_mostOf_7 : decode mX12_mostOf.2.1 7 = .ok (.ifCond .ne 8, 3) := by decide +kernel
theorem dX12_mostOf_10 : decode mX12_mostOf.2.1 10 = .ok (.bipush 6, 2) := by decide +kernel
theorem dX12_mostOf_12 : decode mX12_mostOf.2.1 12 = .ok (.goto 14, 3) := by decide +kernel
theorem dX12_mostOf_15 : decode mX12_mostOf.2.1 15 = .ok (.iload_n 1, 1) := by decide +kernel
theorem dX12_mostOf_16 : decode mX12_mostOf.2.1 16 = .ok (.iconst 3, 1) := by decide +kernel
theorem dX12_mostOf_17 : decode mX12_mostOf.2.1 17 = .ok (.if_icmp .ne 8, 3) := by decide +kernel
theorem dX12_mostOf_20 : decode mX12_mostOf.2.1 20 = .ok (.bipush 99, 2) := by decide +kernel
theorem dX12_mostOf_22 : decode mX12_mostOf.2.1 22 = .ok (.goto 4, 3) := by decide +kernel
theorem dX12_mostOf_25 : decode mX12_mostOf.2.1 25 = .ok (.iconst 5, 1) := by decide +kernel
theorem dX12_mostOf_26 : decode mX12_mostOf.2.1 26 = .ok (.ireturn, 1) := by decide +kernel
theorem dX12_mostOf_27 : decode mX12_mostOf.2.1 27 = .ok (.iload_n 1, 1) := by decide +kernel
theorem dX12_mostOf_28 : decode mX12_mostOf.2.1 28 = .ok (.ifCond .ne 7, 3) := by decide +kernel
theorem dX12_mostOf_31 : decode mX12_mostOf.2.1 31 = .ok (.iconst 5, 1) := by decide +kernel
theorem dX12_mostOf_32 : decode mX12_mostOf.2.1 32 = .ok (.goto 22, 3) := by decide +kernel
theorem dX12_mostOf_35 : decode mX12_mostOf.2.1 35 = .ok (.iload_n 1, 1) := by decide +kernel
theorem dX12_mostOf_36 : decode mX12_mostOf.2.1 36 = .ok (.iconst 1, 1) := by decide +kernel
theorem dX12_mostOf_37 : decode mX12_mostOf.2.1 37 = .ok (.if_icmp .ne 7, 3) := by decide +kernel
theorem dX12_mostOf_40 : decode mX12_mostOf.2.1 40 = .ok (.iconst 4, 1) := by decide +kernel
theorem dX12_mostOf_41 : decode mX12_mostOf.2.1 41 = .ok (.goto 13, 3) := by decide +kernel
theorem dX12_mostOf_44 : decode mX12_mostOf.2.1 44 = .ok (.iload_n 1, 1) := by decide +kernel
theorem dX12_mostOf_45 : decode mX12_mostOf.2.1 45 = .ok (.iconst 2, 1) := by decide +kernel
theorem dX12_mostOf_46 : decode mX12_mostOf.2.1 46 = .ok (.if_icmp .ne 7, 3) := by decide +kernel
theorem dX12_mostOf_49 : decode mX12_mostOf.2.1 49 = .ok (.iconst 3, 1) := by decide +kernel
theorem dX12_mostOf_50 : decode mX12_mostOf.2.1 50 = .ok (.goto 4, 3) := by decide +kernel
theorem dX12_mostOf_53 : decode mX12_mostOf.2.1 53 = .ok (.iconst 4, 1) := by decide +kernel
theorem dX12_mostOf_54 : decode mX12_mostOf.2.1 54 = .ok (.ireturn, 1) := by decide +kernel
abbrev mX12_nextCell : gz_M := (yX12_nextCell, cX12_nextCell, 5, some .int)
theorem dX12_nextCell_0 : decode mX12_nextCell.2.1 0 = .ok (.iload_n 1, 1) := by decide +kernel
theorem dX12_nextCell_1 : decode mX12_nextCell.2.1 1 = .ok (.aload_n 0, 1) := by decide +kernel
theorem dX12_nextCell_2 : decode mX12_nextCell.2.1 2 = .ok (.getfield 37, 3) := by decide +kernel
theorem dX12_nextCell_5 : decode mX12_nextCell.2.1 5 = .ok (.iconst 0, 1) := by decide +kernel
theorem dX12_nextCell_6 : decode mX12_nextCell.2.1 6 = .ok (.iaload, 1) := by decide +kernel
theorem dX12_nextCell_7 : decode mX12_nextCell.2.1 7 = .ok (.irem, 1) := by decide +kernel
theorem dX12_nextCell_8 : decode mX12_nextCell.2.1 8 = .ok (.istore_n 3, 1) := by decide +kernel
theorem dX12_nextCell_9 : decode mX12_nextCell.2.1 9 = .ok (.iload_n 1, 1) := by decide +kernel
theorem dX12_nextCell_10 : decode mX12_nextCell.2.1 10 = .ok (.aload_n 0, 1) := by decide +kernel
theorem dX12_nextCell_11 : decode mX12_nextCell.2.1 11 = .ok (.getfield 37, 3) := by decide +kernel
theorem dX12_nextCell_14 : decode mX12_nextCell.2.1 14 = .ok (.iconst 0, 1) := by decide +kernel
theorem dX12_nextCell_15 : decode mX12_nextCell.2.1 15 = .ok (.iaload, 1) := by decide +kernel
theorem dX12_nextCell_16 : decode mX12_nextCell.2.1 16 = .ok (.idiv, 1) := by decide +kernel
theorem dX12_nextCell_17 : decode mX12_nextCell.2.1 17 = .ok (.istore 4, 2) := by decide +kernel
theorem dX12_nextCell_19 : decode mX12_nextCell.2.1 19 = .ok (.iload_n 2, 1) := by decide +kernel
theorem dX12_nextCell_20 : decode mX12_nextCell.2.1 20 = .ok (.ifCond .ne 21, 3) := by decide +kernel
theorem dX12_nextCell_23 : decode mX12_nextCell.2.1 23 = .ok (.iload 4, 2) := by decide +kernel
theorem dX12_nextCell_25 : decode mX12_nextCell.2.1 25 = .ok (.ifCond .ne 7, 3) := by decide +kernel
theorem dX12_nextCell_28 : decode mX12_nextCell.2.1 28 = .ok (.iconst (-1), 1) := by decide +kernel
theorem dX12_nextCell_29 : decode mX12_nextCell.2.1 29 = .ok (.goto 11, 3) := by decide +kernel
theorem dX12_nextCell_32 : decode mX12_nextCell.2.1 32 = .ok (.iload_n 1, 1) := by decide +kernel
theorem dX12_nextCell_33 : decode mX12_nextCell.2.1 33 = .ok (.aload_n 0, 1) := by decide +kernel
theorem dX12_nextCell_34 : decode mX12_nextCell.2.1 34 = .ok (.getfield 37, 3) := by decide +kernel
theorem dX12_nextCell_37 : decode mX12_nextCell.2.1 37 = .ok (.iconst 0, 1) := by decide +kernel
theorem dX12_nextCell_38 : decode mX12_nextCell.2.1 38 = .ok (.iaload, 1) := by decide +kernel
theorem dX12_nextCell_39 : decode mX12_nextCell.2.1 39 = .ok (.isub, 1) := by decide +kernel
theorem dX12_nextCell_40 : decode mX12_nextCell.2.1 40 = .ok (.ireturn, 1) := by decide +kernel
theorem dX12_nextCell_41 : decode mX12_nextCell.2.1 41 = .ok (.iload_n 2, 1) := by decide +kernel
theorem dX12_nextCell_42 : decode mX12_nextCell.2.1 42 = .ok (.iconst 1, 1) := by decide +kernel
theorem dX12_nextCell_43 : decode mX12_nextCell.2.1 43 = .ok (.if_icmp .ne 23, 3) := by decide +kernel
theorem dX12_nextCell_46 : decode mX12_nextCell.2.1 46 = .ok (.iload_n 3, 1) := by decide +kernel
theorem dX12_nextCell_47 : decode mX12_nextCell.2.1 47 = .ok (.aload_n 0, 1) := by decide +kernel
theorem dX12_nextCell_48 : decode mX12_nextCell.2.1 48 = .ok (.getfield 37, 3) := by decide +kernel
theorem dX12_nextCell_51 : decode mX12_nextCell.2.1 51 = .ok (.iconst 0, 1) := by decide +kernel
theorem dX12_nextCell_52 : decode mX12_nextCell.2.1 52 = .ok (.iaload, 1) := by decide +kernel
theorem dX12_nextCell_53 : decode mX12_nextCell.2.1 53 = .ok (.iconst 1, 1) := by decide +kernel
theorem dX12_nextCell_54 : decode mX12_nextCell.2.1 54 = .ok (.isub, 1) := by decide +kernel
theorem dX12_nextCell_55 : decode mX12_nextCell.2.1 55 = .ok (.if_icmp .ne 7, 3) := by decide +kernel
theorem dX12_nextCell_58 : decode mX12_nextCell.2.1 58 = .ok (.iconst (-1), 1) := by decide +kernel
theorem dX12_nextCell_59 : decode mX12_nextCell.2.1 59 = .ok (.goto 6, 3) := by decide +kernel
theorem dX12_nextCell_62 : decode mX12_nextCell.2.1 62 = .ok (.iload_n 1, 1) := by decide +kernel
theorem dX12_nextCell_63 : decode mX12_nextCell.2.1 63 = .ok (.iconst 1, 1) := by decide +kernel
theorem dX12_nextCell_64 : decode mX12_nextCell.2.1 64 = .ok (.iadd, 1) := by decide +kernel
theorem dX12_nextCell_65 : decode mX12_nextCell.2.1 65 = .ok (.ireturn, 1) := by decide +kernel
theorem dX12_nextCell_66 : decode mX12_nextCell.2.1 66 = .ok (.iload_n 2, 1) := by decide +kernel
theorem dX12_nextCell_67 : decode mX12_nextCell.2.1 67 = .ok (.iconst 2, 1) := by decide +kernel
theorem dX12_nextCell_68 : decode mX12_nextCell.2.1 68 = .ok (.if_icmp .ne 29, 3) := by decide +kernel
theorem dX12_nextCell_71 : decode mX12_nextCell.2.1 71 = .ok (.iload 4, 2) := by decide +kernel
theorem dX12_nextCell_73 : decode mX12_nextCell.2.1 73 = .ok (.aload_n 0, 1) := by decide +kernel
theorem dX12_nextCell_74 : decode mX12_nextCell.2.1 74 = .ok (.getfield 37, 3) := by decide +kernel
theorem dX12_nextCell_77 : decode mX12_nextCell.2.1 77 = .ok (.iconst 1, 1) := by decide +kernel
theorem dX12_nextCell_78 : decode mX12_nextCell.2.1 78 = .ok (.iaload, 1) := by decide +kernel
theorem dX12_nextCell_79 : decode mX12_nextCell.2.1 79 = .ok (.iconst 1, 1) := by decide +kernel
theorem dX12_nextCell_80 : decode mX12_nextCell.2.1 80 = .ok (.isub, 1) := by decide +kernel
theorem dX12_nextCell_81 : decode mX12_nextCell.2.1 81 = .ok (.if_icmp .ne 7, 3) := by decide +kernel
theorem dX12_nextCell_84 : decode mX12_nextCell.2.1 84 = .ok (.iconst (-1), 1) := by decide +kernel
theorem dX12_nextCell_85 : decode mX12_nextCell.2.1 85 = .ok (.goto 11, 3) := by decide +kernel
theorem dX12_nextCell_88 : decode mX12_nextCell.2.1 88 = .ok (.iload_n 1, 1) := by decide +kernel
theorem dX12_nextCell_89 : decode mX12_nextCell.2.1 89 = .ok (.aload_n 0, 1) := by decide +kernel
theorem dX12_nextCell_90 : decode mX12_nextCell.2.1 90 = .ok (.getfield 37, 3) := by decide +kernel
theorem dX12_nextCell_93 : decode mX12_nextCell.2.1 93 = .ok (.iconst 0, 1) := by decide +kernel
theorem dX12_nextCell_94 : decode mX12_nextCell.2.1 94 = .ok (.iaload, 1) := by decide +kernel
theorem dX12_nextCell_95 : decode mX12_nextCell.2.1 95 = .ok (.iadd, 1) := by decide +kernel
theorem dX12_nextCell_96 : decode mX12_nextCell.2.1 96 = .ok (.ireturn, 1) := by decide +kernel
theorem dX12_nextCell_97 : decode mX12_nextCell.2.1 97 = .ok (.iload_n 3, 1) := by decide +kernel
theorem dX12_nextCell_98 : decode mX12_nextCell.2.1 98 = .ok (.ifCond .ne 7, 3) := by decide +kernel
theorem dX12_nextCell_101 : decode mX12_nextCell.2.1 101 = .ok (.iconst (-1), 1) := by decide +kernel
theorem dX12_nextCell_102 : decode mX12_nextCell.2.1 102 = .ok (.goto 6, 3) := by decide +kernel
theorem dX12_nextCell_105 : decode mX12_nextCell.2.1 105 = .ok (.iload_n 1, 1) := by decide +kernel
theorem dX12_nextCell_106 : decode mX12_nextCell.2.1 106 = .ok (.iconst 1, 1) := by decide +kernel
theorem dX12_nextCell_107 : decode mX12_nextCell.2.1 107 = .ok (.isub, 1) := by decide +kernel
theorem dX12_nextCell_108 : decode mX12_nextCell.2.1 108 = .ok (.ireturn, 1) := by decide +kernel
abbrev mX12_number : gz_M := (yX12_number, cX12_number, 5, some .int)
theorem dX12_number_0 : decode mX12_number.2.1 0 = .ok (.aload_n 0, 1) := by decide +kernel
theorem dX12_number_1 : decode mX12_number.2.1 1 = .ok (.invokevirtual 146, 3) := by decide +kernel
theorem dX12_number_4 : decode mX12_number.2.1 4 = .ok (.istore_n 3, 1) := by decide +kernel
theorem dX12_number_5 : decode mX12_number.2.1 5 = .ok (.aload_n 0, 1) := by decide +kernel
theorem dX12_number_6 : decode mX12_number.2.1 6 = .ok (.invokevirtual 176, 3) := by decide +kernel
theorem dX12_number_9 : decode mX12_number.2.1 9 = .ok (.ifCond .ne 10, 3) := by decide +kernel
theorem dX12_number_12 : decode mX12_number.2.1 12 = .ok (.aload_n 0, 1) := by decide +kernel
theorem dX12_number_13 : decode mX12_number.2.1 13 = .ok (.invokevirtual 142, 3) := by decide +kernel
theorem dX12_number_16 : decode mX12_number.2.1 16 = .ok (.pop, 1) := by decide +kernel
theorem dX12_number_17 : decode mX12_number.2.1 17 = .ok (.iconst 0, 1) := by decide +kernel
theorem dX12_number_18 : decode mX12_number.2.1 18 = .ok (.ireturn, 1) := by decide +kernel
theorem dX12_number_19 : decode mX12_number.2.1 19 = .ok (.iload_n 3, 1) := by decide +kernel
theorem dX12_number_20 : decode mX12_number.2.1 20 = .ok (.bipush 48, 2) := by decide +kernel
theorem dX12_number_22 : decode mX12_number.2.1 22 = .ok (.isub, 1) := by decide +kernel
theorem dX12_number_23 : decode mX12_number.2.1 23 = .ok (.istore 4, 2) := by decide +kernel
theorem dX12_number_25 : decode mX12_number.2.1 25 = .ok (.aload_n 0, 1) := by decide +kernel
theorem dX12_number_26 : decode mX12_number.2.1 26 = .ok (.dup, 1) := by decide +kernel
theorem dX12_number_27 : decode mX12_number.2.1 27 = .ok (.getfield 127, 3) := by decide +kernel
theorem dX12_number_30 : decode mX12_number.2.1 30 = .ok (.iconst 1, 1) := by decide +kernel
theorem dX12_number_31 : decode mX12_number.2.1 31 = .ok (.iadd, 1) := by decide +kernel
theorem dX12_number_32 : decode mX12_number.2.1 32 = .ok (.putfield 127, 3) := by decide +kernel
theorem dX12_number_35 : decode mX12_number.2.1 35 = .ok (.aload_n 0, 1) := by decide +kernel
theorem dX12_number_36 : decode mX12_number.2.1 36 = .ok (.invokevirtual 176, 3) := by decide +kernel
theorem dX12_number_39 : decode mX12_number.2.1 39 = .ok (.ifCond .eq 28, 3) := by decide +kernel
theorem dX12_number_42 : decode mX12_number.2.1 42 = .ok (.bipush 10, 2) := by decide +kernel
theorem dX12_number_44 : decode mX12_number.2.1 44 = .ok (.iload 4, 2) := by decide +kernel
theorem dX12_number_46 : decode mX12_number.2.1 46 = .ok (.imul, 1) := by decide +kernel
theorem dX12_number_47 : decode mX12_number.2.1 47 = .ok (.aload_n 0, 1) := by decide +kernel
theorem dX12_number_48 : decode mX12_number.2.1 48 = .ok (.invokevirtual 222, 3) := by decide +kernel
theorem dX12_number_51 : decode mX12_number.2.1 51 = .ok (.iadd, 1) := by decide +kernel
theorem dX12_number_52 : decode mX12_number.2.1 52 = .ok (.bipush 48, 2) := by decide +kernel
theorem dX12_number_54 : decode mX12_number.2.1 54 = .ok (.isub, 1) := by decide +kernel
theorem dX12_number_55 : decode mX12_number.2.1 55 = .ok (.istore 4, 2) := by decide +kernel
theorem dX12_number_57 : decode mX12_number.2.1 57 = .ok (.aload_n 0, 1) := by decide +kernel
theorem dX12_number_58 : decode mX12_number.2.1 58 = .ok (.dup, 1) := by decide +kernel
theorem dX12_number_59 : decode mX12_number.2.1 59 = .ok (.getfield 127, 3) := by decide +kernel
theorem dX12_number_62 : decode mX12_number.2.1 62 = .ok (.iconst 1, 1) := by decide +kernel
theorem dX12_number_63 : decode mX12_number.2.1 63 = .ok (.iadd, 1) := by decide +kernel
theorem dX12_number_64 : decode mX12_number.2.1 64 = .ok (.putfield 127, 3) := by decide +kernel
theorem dX12_number_67 : decode mX12_number.2.1 67 = .ok (.aload_n 0, 1) := by decide +kernel
theorem dX12_number_68 : decode mX12_number.2.1 68 = .ok (.invokevirtual 176, 3) := by decide +kernel
theorem dX12_number_71 : decode mX12_number.2.1 71 = .ok (.ifCond .eq 10, 3) := by decide +kernel
theorem dX12_number_74 : decode mX12_number.2.1 74 = .ok (.aload_n 0, 1) := by decide +kernel
theorem dX12_number_75 : decode mX12_number.2.1 75 = .ok (.invokevirtual 142, 3) := by decide +kernel
theorem dX12_number_78 : decode mX12_number.2.1 78 = .ok (.pop, 1) := by decide +kernel
theorem dX12_number_79 : decode mX12_number.2.1 79 = .ok (.iconst 0, 1) := by decide +kernel
theorem dX12_number_80 : decode mX12_number.2.1 80 = .ok (.ireturn, 1) := by decide +kernel
theorem dX12_number_81 : decode mX12_number.2.1 81 = .ok (.iload 4, 2) := by decide +kernel
theorem dX12_number_83 : decode mX12_number.2.1 83 = .ok (.i2l, 1) := by decide +kernel
theorem dX12_number_84 : decode mX12_number.2.1 84 = .ok (.iload_n 1, 1) := by decide +kernel
theorem dX12_number_85 : decode mX12_number.2.1 85 = .ok (.i2l, 1) := by decide +kernel
theorem dX12_number_86 : decode mX12_number.2.1 86 = .ok (.iload_n 2, 1) := by decide +kernel
theorem dX12_number_87 : decode mX12_number.2.1 87 = .ok (.i2l, 1) := by decide +kernel
theorem dX12_number_88 : decode mX12_number.2.1 88 = .ok (.invokestatic 225, 3) := by decide +kernel
theorem dX12_number_91 : decode mX12_number.2.1 91 = .ok (.ifCond .ne 18, 3) := by decide +kernel
theorem dX12_number_94 : decode mX12_number.2.1 94 = .ok (.aload_n 0, 1) := by decide +kernel
theorem dX12_number_95 : decode mX12_number.2.1 95 = .ok (.dup, 1) := by decide +kernel
theorem dX12_number_96 : decode mX12_number.2.1 96 = .ok (.getfield 127, 3) := by decide +kernel
theorem dX12_number_99 : decode mX12_number.2.1 99 = .ok (.iconst 1, 1) := by decide +kernel
theorem dX12_number_100 : decode mX12_number.2.1 100 = .ok (.isub, 1) := by decide +kernel
theorem dX12_number_101 : decode mX12_number.2.1 101 = .ok (.putfield 127, 3) := by decide +kernel
theorem dX12_number_104 : decode mX12_number.2.1 104 = .ok (.aload_n 0, 1) := by decide +kernel
theorem dX12_number_105 : decode mX12_number.2.1 105 = .ok (.invokevirtual 142, 3) := by decide +kernel
theorem dX12_number_108 : decode mX12_number.2.1 108 = .ok (.pop, 1) := by decide +kernel
theorem dX12_number_109 : decode mX12_number.2.1 109 = .ok (.iload 4, 2) := by decide +kernel
theorem dX12_number_111 : decode mX12_number.2.1 111 = .ok (.ireturn, 1) := by decide +kernel
abbrev mX12_odds : gz_M := (yX12_odds, cX12_odds, 5, some .int)
theorem dX12_odds_0 : decode mX12_odds.2.1 0 = .ok (.aload_n 0, 1) := by decide +kernel
theorem dX12_odds_1 : decode mX12_odds.2.1 1 = .ok (.iconst 0, 1) := by decide +kernel
theorem dX12_odds_2 : decode mX12_odds.2.1 2 = .ok (.putfield 104, 3) := by decide +kernel
theorem dX12_odds_5 : decode mX12_odds.2.1 5 = .ok (.aload_n 0, 1) := by decide +kernel
theorem dX12_odds_6 : decode mX12_odds.2.1 6 = .ok (.iload_n 1, 1) := by decide +kernel
theorem dX12_odds_7 : decode mX12_odds.2.1 7 = .ok (.invokevirtual 325, 3) := by decide +kernel
theorem dX12_odds_10 : decode mX12_odds.2.1 10 = .ok (.ifCond .eq 36, 3) := by decide +kernel
theorem dX12_odds_13 : decode mX12_odds.2.1 13 = .ok (.aload_n 0, 1) := by decide +kernel
theorem dX12_odds_14 : decode mX12_odds.2.1 14 = .ok (.iload_n 2, 1) := by decide +kernel
theorem dX12_odds_15 : decode mX12_odds.2.1 15 = .ok (.invokevirtual 373, 3) := by decide +kernel
theorem dX12_odds_18 : decode mX12_odds.2.1 18 = .ok (.ifCond .eq 28, 3) := by decide +kernel
theorem dX12_odds_21 : decode mX12_odds.2.1 21 = .ok (.iload_n 3, 1) := by decide +kernel
theorem dX12_odds_22 : decode mX12_odds.2.1 22 = .ok (.i2l, 1) := by decide +kernel
theorem dX12_odds_23 : decode mX12_odds.2.1 23 = .ok (.lconst 0, 1) := by decide +kernel
theorem dX12_odds_24 : decode mX12_odds.2.1 24 = .ok (.ldc2_w 494, 3) := by decide +kernel
theorem dX12_odds_27 : decode mX12_odds.2.1 27 = .ok (.invokestatic 225, 3) := by decide +kernel
theorem dX12_odds_30 : decode mX12_odds.2.1 30 = .ok (.ifCond .eq 16, 3) := by decide +kernel
theorem dX12_odds_33 : decode mX12_odds.2.1 33 = .ok (.iload 4, 2) := by decide +kernel
theorem dX12_odds_35 : decode mX12_odds.2.1 35 = .ok (.i2l, 1) := by decide +kernel
theorem dX12_odds_36 : decode mX12_odds.2.1 36 = .ok (.lconst 0, 1) := by decide +kernel
theorem dX12_odds_37 : decode mX12_odds.2.1 37 = .ok (.ldc2_w 489, 3) := by decide +kernel
theorem dX12_odds_40 : decode mX12_odds.2.1 40 = .ok (.invokestatic 225, 3) := by decide +kernel
theorem dX12_odds_43 : decode mX12_odds.2.1 43 = .ok (.ifCond .ne 5, 3) := by decide +kernel
theorem dX12_odds_46 : decode mX12_odds.2.1 46 = .ok (.iconst (-1), 1) := by decide +kernel
theorem dX12_odds_47 : decode mX12_odds.2.1 47 = .ok (.ireturn, 1) := by decide +kernel
theorem dX12_odds_48 : decode mX12_odds.2.1 48 = .ok (.aload_n 0, 1) := by decide +kernel
theorem dX12_odds_49 : decode mX12_odds.2.1 49 = .ok (.getfield 64, 3) := by decide +kernel
theorem dX12_odds_52 : decode mX12_odds.2.1 52 = .ok (.aload_n 0, 1) := by decide +kernel
theorem dX12_odds_53 : decode mX12_odds.2.1 53 = .ok (.getfield 67, 3) := by decide +kernel
theorem dX12_odds_56 : decode mX12_odds.2.1 56 = .ok (.invokestatic 434, 3) := by decide +kernel
theorem dX12_odds_59 : decode mX12_odds.2.1 59 = .ok (.aload_n 0, 1) := by decide +kernel
theorem dX12_odds_60 : decode mX12_odds.2.1 60 = .ok (.iload_n 1, 1) := by decide +kernel
theorem dX12_odds_61 : decode mX12_odds.2.1 61 = .ok (.iload_n 2, 1) := by decide +kernel
theorem dX12_odds_62 : decode mX12_odds.2.1 62 = .ok (.iload_n 3, 1) := by decide +kernel
theorem dX12_odds_63 : decode mX12_odds.2.1 63 = .ok (.iload 4, 2) := by decide +kernel
theorem dX12_odds_65 : decode mX12_odds.2.1 65 = .ok (.ldc_w 496, 3) := by decide +kernel
theorem dX12_odds_68 : decode mX12_odds.2.1 68 = .ok (.invokevirtual 491, 3) := by decide +kernel
theorem dX12_odds_71 : decode mX12_odds.2.1 71 = .ok (.ireturn, 1) := by decide +kernel
abbrev mX12_oddsFrom : gz_M := (yX12_oddsFrom, cX12_oddsFrom, 10, some .int)
theorem dX12_oddsFrom_0 : decode mX12_oddsFrom.2.1 0 = .ok (.iload_n 3, 1) := by decide +kernel
theorem dX12_oddsFrom_1 : decode mX12_oddsFrom.2.1 1 = .ok (.ifCond .ne 25, 3) := by decide +kernel
theorem dX12_oddsFrom_4 : decode mX12_oddsFrom.2.1 4 = .ok (.aload_n 0, 1) := by decide +kernel
theorem dX12_oddsFrom_5 : decode mX12_oddsFrom.2.1 5 = .ok (.getfield 67, 3) := by decide +kernel
theorem dX12_oddsFrom_8 : decode mX12_oddsFrom.2.1 8 = .ok (.bipush 30, 2) := by decide +kernel
theorem dX12_oddsFrom_10 : decode mX12_oddsFrom.2.1 10 = .ok (.iconst 4, 1) := by decide +kernel
theorem dX12_oddsFrom_11 : decode mX12_oddsFrom.2.1 11 = .ok (.iload_n 1, 1) := by decide +kernel
theorem dX12_oddsFrom_12 : decode mX12_oddsFrom.2.1 12 = .ok (.imul, 1) := by decide +kernel
theorem dX12_oddsFrom_13 : decode mX12_oddsFrom.2.1 13 = .ok (.iadd, 1) := by decide +kernel
theorem dX12_oddsFrom_14 : decode mX12_oddsFrom.2.1 14 = .ok (.iaload, 1) := by decide +kernel
theorem dX12_oddsFrom_15 : decode mX12_oddsFrom.2.1 15 = .ok (.iload_n 2, 1) := by decide +kernel
theorem dX12_oddsFrom_16 : decode mX12_oddsFrom.2.1 16 = .ok (.if_icmp .ne 8, 3) := by decide +kernel
theorem dX12_oddsFrom_19 : decode mX12_oddsFrom.2.1 19 = .ok (.iload 5, 2) := by decide +kernel
theorem dX12_oddsFrom_21 : decode mX12_oddsFrom.2.1 21 = .ok (.goto 4, 3) := by decide +kernel
theorem dX12_oddsFrom_24 : decode mX12_oddsFrom.2.1 24 = .ok (.iconst 0, 1) := by decide +kernel
theorem dX12_oddsFrom_25 : decode mX12_oddsFrom.2.1 25 = .ok (.ireturn, 1) := by decide +kernel
theorem dX12_oddsFrom_26 : decode mX12_oddsFrom.2.1 26 = .ok (.iconst 0, 1) := by decide +kernel
theorem dX12_oddsFrom_27 : decode mX12_oddsFrom.2.1 27 = .ok (.istore 6, 2) := by decide +kernel
theorem dX12_oddsFrom_29 : decode mX12_oddsFrom.2.1 29 = .ok (.iload 6, 2) := by decide +kernel
theorem dX12_oddsFrom_31 : decode mX12_oddsFrom.2.1 31 = .ok (.bipush 50, 2) := by decide +kernel
theorem dX12_oddsFrom_33 : decode mX12_oddsFrom.2.1 33 = .ok (.if_icmp .gt 28, 3) := by decide +kernel
theorem dX12_oddsFrom_36 : decode mX12_oddsFrom.2.1 36 = .ok (.aload_n 0, 1) := by decide +kernel
theorem dX12_oddsFrom_37 : decode mX12_oddsFrom.2.1 37 = .ok (.getfield 98, 3) := by decide +kernel
theorem dX12_oddsFrom_40 : decode mX12_oddsFrom.2.1 40 = .ok (.bipush 51, 2) := by decide +kernel
theorem dX12_oddsFrom_42 : decode mX12_oddsFrom.2.1 42 = .ok (.iload_n 3, 1) := by decide +kernel
theorem dX12_oddsFrom_43 : decode mX12_oddsFrom.2.1 43 = .ok (.imul, 1) := by decide +kernel
theorem dX12_oddsFrom_44 : decode mX12_oddsFrom.2.1 44 = .ok (.iload 6, 2) := by decide +kernel
theorem dX12_oddsFrom_46 : decode mX12_oddsFrom.2.1 46 = .ok (.iadd, 1) := by decide +kernel
theorem dX12_oddsFrom_47 : decode mX12_oddsFrom.2.1 47 = .ok (.aload_n 0, 1) := by decide +kernel
theorem dX12_oddsFrom_48 : decode mX12_oddsFrom.2.1 48 = .ok (.getfield 67, 3) := by decide +kernel
theorem dX12_oddsFrom_51 : decode mX12_oddsFrom.2.1 51 = .ok (.iload 6, 2) := by decide +kernel
theorem dX12_oddsFrom_53 : decode mX12_oddsFrom.2.1 53 = .ok (.iaload, 1) := by decide +kernel
theorem dX12_oddsFrom_54 : decode mX12_oddsFrom.2.1 54 = .ok (.iastore, 1) := by decide +kernel
theorem dX12_oddsFrom_55 : decode mX12_oddsFrom.2.1 55 = .ok (.iinc 6 1, 3) := by decide +kernel
theorem dX12_oddsFrom_58 : decode mX12_oddsFrom.2.1 58 = .ok (.goto (-29), 3) := by decide +kernel
theorem dX12_oddsFrom_61 : decode mX12_oddsFrom.2.1 61 = .ok (.iconst 0, 1) := by decide +kernel
theorem dX12_oddsFrom_62 : decode mX12_oddsFrom.2.1 62 = .ok (.istore 6, 2) := by decide +kernel
theorem dX12_oddsFrom_64 : decode mX12_oddsFrom.2.1 64 = .ok (.iload 5, 2) := by decide +kernel
theorem dX12_oddsFrom_66 : decode mX12_oddsFrom.2.1 66 = .ok (.i2l, 1) := by decide +kernel
theorem dX12_oddsFrom_67 : decode mX12_oddsFrom.2.1 67 = .ok (.iload 4, 2) := by decide +kernel
theorem dX12_oddsFrom_69 : decode mX12_oddsFrom.2.1 69 = .ok (.i2l, 1) := by decide +kernel
theorem dX12_oddsFrom_70 : decode mX12_oddsFrom.2.1 70 = .ok (.lmul, 1) := by decide +kernel
theorem dX12_oddsFrom_71 : decode mX12_oddsFrom.2.1 71 = .ok (.ldc2_w 489, 3) := by decide +kernel
theorem dX12_oddsFrom_74 : decode mX12_oddsFrom.2.1 74 = .ok (.ldiv, 1) := by decide +kernel
theorem dX12_oddsFrom_75 : decode mX12_oddsFrom.2.1 75 = .ok (.l2i, 1) := by decide +kernel
theorem dX12_oddsFrom_76 : decode mX12_oddsFrom.2.1 76 = .ok (.istore 7, 2) := by decide +kernel
theorem dX12_oddsFrom_78 : decode mX12_oddsFrom.2.1 78 = .ok (.iconst 0, 1) := by decide +kernel
theorem dX12_oddsFrom_79 : decode mX12_oddsFrom.2.1 79 = .ok (.istore 8, 2) := by decide +kernel
theorem dX12_oddsFrom_81 : decode mX12_oddsFrom.2.1 81 = .ok (.iload 8, 2) := by decide +kernel
theorem dX12_oddsFrom_83 : decode mX12_oddsFrom.2.1 83 = .ok (.iconst 2, 1) := by decide +kernel
theorem dX12_oddsFrom_84 : decode mX12_oddsFrom.2.1 84 = .ok (.if_icmp .ge 133, 3) := by decide +kernel
theorem dX12_oddsFrom_87 : decode mX12_oddsFrom.2.1 87 = .ok (.iconst 0, 1) := by decide +kernel
theorem dX12_oddsFrom_88 : decode mX12_oddsFrom.2.1 88 = .ok (.istore 9, 2) := by decide +kernel
theorem dX12_oddsFrom_90 : decode mX12_oddsFrom.2.1 90 = .ok (.iload 9, 2) := by decide +kernel
theorem dX12_oddsFrom_92 : decode mX12_oddsFrom.2.1 92 = .ok (.bipush 50, 2) := by decide +kernel
theorem dX12_oddsFrom_94 : decode mX12_oddsFrom.2.1 94 = .ok (.if_icmp .gt 28, 3) := by decide +kernel
theorem dX12_oddsFrom_97 : decode mX12_oddsFrom.2.1 97 = .ok (.aload_n 0, 1) := by decide +kernel
theorem dX12_oddsFrom_98 : decode mX12_oddsFrom.2.1 98 = .ok (.getfield 67, 3) := by decide +kernel
theorem dX12_oddsFrom_101 : decode mX12_oddsFrom.2.1 101 = .ok (.iload 9, 2) := by decide +kernel
theorem dX12_oddsFrom_103 : decode mX12_oddsFrom.2.1 103 = .ok (.aload_n 0, 1) := by decide +kernel
theorem dX12_oddsFrom_104 : decode mX12_oddsFrom.2.1 104 = .ok (.getfield 98, 3) := by decide +kernel
theorem dX12_oddsFrom_107 : decode mX12_oddsFrom.2.1 107 = .ok (.bipush 51, 2) := by decide +kernel
theorem dX12_oddsFrom_109 : decode mX12_oddsFrom.2.1 109 = .ok (.iload_n 3, 1) := by decide +kernel
theorem dX12_oddsFrom_110 : decode mX12_oddsFrom.2.1 110 = .ok (.imul, 1) := by decide +kernel
theorem dX12_oddsFrom_111 : decode mX12_oddsFrom.2.1 111 = .ok (.iload 9, 2) := by decide +kernel
theorem dX12_oddsFrom_113 : decode mX12_oddsFrom.2.1 113 = .ok (.iadd, 1) := by decide +kernel
theorem dX12_oddsFrom_114 : decode mX12_oddsFrom.2.1 114 = .ok (.iaload, 1) := by decide +kernel
theorem dX12_oddsFrom_115 : decode mX12_oddsFrom.2.1 115 = .ok (.iastore, 1) := by decide +kernel
theorem dX12_oddsFrom_116 : decode mX12_oddsFrom.2.1 116 = .ok (.iinc 9 1, 3) := by decide +kernel
theorem dX12_oddsFrom_119 : decode mX12_oddsFrom.2.1 119 = .ok (.goto (-29), 3) := by decide +kernel
theorem dX12_oddsFrom_122 : decode mX12_oddsFrom.2.1 122 = .ok (.iload 8, 2) := by decide +kernel
theorem dX12_oddsFrom_124 : decode mX12_oddsFrom.2.1 124 = .ok (.iconst 1, 1) := by decide +kernel
theorem dX12_oddsFrom_125 : decode mX12_oddsFrom.2.1 125 = .ok (.if_icmp .ne 44, 3) := by decide +kernel
theorem dX12_oddsFrom_128 : decode mX12_oddsFrom.2.1 128 = .ok (.aload_n 0, 1) := by decide +kernel
theorem dX12_oddsFrom_129 : decode mX12_oddsFrom.2.1 129 = .ok (.getfield 67, 3) := by decide +kernel
theorem dX12_oddsFrom_132 : decode mX12_oddsFrom.2.1 132 = .ok (.iload_n 1, 1) := by decide +kernel
theorem dX12_oddsFrom_133 : decode mX12_oddsFrom.2.1 133 = .ok (.invokestatic 346, 3) := by decide +kernel
theorem dX12_oddsFrom_136 : decode mX12_oddsFrom.2.1 136 = .ok (.ifCond .eq 33, 3) := by decide +kernel
theorem dX12_oddsFrom_139 : decode mX12_oddsFrom.2.1 139 = .ok (.aload_n 0, 1) := by decide +kernel
theorem dX12_oddsFrom_140 : decode mX12_oddsFrom.2.1 140 = .ok (.getfield 67, 3) := by decide +kernel
theorem dX12_oddsFrom_143 : decode mX12_oddsFrom.2.1 143 = .ok (.bipush 30, 2) := by decide +kernel
theorem dX12_oddsFrom_145 : decode mX12_oddsFrom.2.1 145 = .ok (.iconst 4, 1) := by decide +kernel
theorem dX12_oddsFrom_146 : decode mX12_oddsFrom.2.1 146 = .ok (.iload_n 1, 1) := by decide +kernel
theorem dX12_oddsFrom_147 : decode mX12_oddsFrom.2.1 147 = .ok (.imul, 1) := by decide +kernel
theorem dX12_oddsFrom_148 : decode mX12_oddsFrom.2.1 148 = .ok (.iadd, 1) := by decide +kernel
theorem dX12_oddsFrom_149 : decode mX12_oddsFrom.2.1 149 = .ok (.iconst 1, 1) := by decide +kernel
theorem dX12_oddsFrom_150 : decode mX12_oddsFrom.2.1 150 = .ok (.iadd, 1) := by decide +kernel
theorem dX12_oddsFrom_151 : decode mX12_oddsFrom.2.1 151 = .ok (.aload_n 0, 1) := by decide +kernel
theorem dX12_oddsFrom_152 : decode mX12_oddsFrom.2.1 152 = .ok (.getfield 67, 3) := by decide +kernel
theorem dX12_oddsFrom_155 : decode mX12_oddsFrom.2.1 155 = .ok (.bipush 30, 2) := by decide +kernel
theorem dX12_oddsFrom_157 : decode mX12_oddsFrom.2.1 157 = .ok (.iconst 4, 1) := by decide +kernel
theorem dX12_oddsFrom_158 : decode mX12_oddsFrom.2.1 158 = .ok (.iload_n 1, 1) := by decide +kernel
theorem dX12_oddsFrom_159 : decode mX12_oddsFrom.2.1 159 = .ok (.imul, 1) := by decide +kernel
theorem dX12_oddsFrom_160 : decode mX12_oddsFrom.2.1 160 = .ok (.iadd, 1) := by decide +kernel
theorem dX12_oddsFrom_161 : decode mX12_oddsFrom.2.1 161 = .ok (.iconst 1, 1) := by decide +kernel
theorem dX12_oddsFrom_162 : decode mX12_oddsFrom.2.1 162 = .ok (.iadd, 1) := by decide +kernel
theorem dX12_oddsFrom_163 : decode mX12_oddsFrom.2.1 163 = .ok (.iaload, 1) := by decide +kernel
theorem dX12_oddsFrom_164 : decode mX12_oddsFrom.2.1 164 = .ok (.iconst 1, 1) := by decide +kernel
theorem dX12_oddsFrom_165 : decode mX12_oddsFrom.2.1 165 = .ok (.iadd, 1) := by decide +kernel
theorem dX12_oddsFrom_166 : decode mX12_oddsFrom.2.1 166 = .ok (.iconst 4, 1) := by decide +kernel
theorem dX12_oddsFrom_167 : decode mX12_oddsFrom.2.1 167 = .ok (.irem, 1) := by decide +kernel
theorem dX12_oddsFrom_168 : decode mX12_oddsFrom.2.1 168 = .ok (.iastore, 1) := by decide +kernel
theorem dX12_oddsFrom_169 : decode mX12_oddsFrom.2.1 169 = .ok (.aload_n 0, 1) := by decide +kernel
theorem dX12_oddsFrom_170 : decode mX12_oddsFrom.2.1 170 = .ok (.aload_n 0, 1) := by decide +kernel
theorem dX12_oddsFrom_171 : decode mX12_oddsFrom.2.1 171 = .ok (.getfield 67, 3) := by decide +kernel
theorem dX12_oddsFrom_174 : decode mX12_oddsFrom.2.1 174 = .ok (.invokevirtual 367, 3) := by decide +kernel
theorem dX12_oddsFrom_177 : decode mX12_oddsFrom.2.1 177 = .ok (.istore 9, 2) := by decide +kernel
theorem dX12_oddsFrom_179 : decode mX12_oddsFrom.2.1 179 = .ok (.iload 6, 2) := by decide +kernel
theorem dX12_oddsFrom_181 : decode mX12_oddsFrom.2.1 181 = .ok (.aload_n 0, 1) := by decide +kernel
theorem dX12_oddsFrom_182 : decode mX12_oddsFrom.2.1 182 = .ok (.iload_n 1, 1) := by decide +kernel
theorem dX12_oddsFrom_183 : decode mX12_oddsFrom.2.1 183 = .ok (.iload_n 2, 1) := by decide +kernel
theorem dX12_oddsFrom_184 : decode mX12_oddsFrom.2.1 184 = .ok (.iload_n 3, 1) := by decide +kernel
theorem dX12_oddsFrom_185 : decode mX12_oddsFrom.2.1 185 = .ok (.iconst 1, 1) := by decide +kernel
theorem dX12_oddsFrom_186 : decode mX12_oddsFrom.2.1 186 = .ok (.isub, 1) := by decide +kernel
theorem dX12_oddsFrom_187 : decode mX12_oddsFrom.2.1 187 = .ok (.iload 4, 2) := by decide +kernel
theorem dX12_oddsFrom_189 : decode mX12_oddsFrom.2.1 189 = .ok (.iload 8, 2) := by decide +kernel
theorem dX12_oddsFrom_191 : decode mX12_oddsFrom.2.1 191 = .ok (.iconst 1, 1) := by decide +kernel
theorem dX12_oddsFrom_192 : decode mX12_oddsFrom.2.1 192 = .ok (.if_icmp .ne 8, 3) := by decide +kernel
theorem dX12_oddsFrom_195 : decode mX12_oddsFrom.2.1 195 = .ok (.iload 7, 2) := by decide +kernel
theorem dX12_oddsFrom_197 : decode mX12_oddsFrom.2.1 197 = .ok (.goto 8, 3) := by decide +kernel
theorem dX12_oddsFrom_200 : decode mX12_oddsFrom.2.1 200 = .ok (.iload 5, 2) := by decide +kernel
theorem dX12_oddsFrom_202 : decode mX12_oddsFrom.2.1 202 = .ok (.iload 7, 2) := by decide +kernel
theorem dX12_oddsFrom_204 : decode mX12_oddsFrom.2.1 204 = .ok (.isub, 1) := by decide +kernel
theorem dX12_oddsFrom_205 : decode mX12_oddsFrom.2.1 205 = .ok (.invokevirtual 491, 3) := by decide +kernel
theorem dX12_oddsFrom_208 : decode mX12_oddsFrom.2.1 208 = .ok (.iadd, 1) := by decide +kernel
theorem dX12_oddsFrom_209 : decode mX12_oddsFrom.2.1 209 = .ok (.istore 6, 2) := by decide +kernel
theorem dX12_oddsFrom_211 : decode mX12_oddsFrom.2.1 211 = .ok (.iinc 8 1, 3) := by decide +kernel
theorem dX12_oddsFrom_214 : decode mX12_oddsFrom.2.1 214 = .ok (.goto (-133), 3) := by decide +kernel
theorem dX12_oddsFrom_217 : decode mX12_oddsFrom.2.1 217 = .ok (.iload 6, 2) := by decide +kernel
theorem dX12_oddsFrom_219 : decode mX12_oddsFrom.2.1 219 = .ok (.ireturn, 1) := by decide +kernel
abbrev mX12_paceOf : gz_M := (yX12_paceOf, cX12_paceOf, 2, some .int)
theorem dX12_paceOf_0 : decode mX12_paceOf.2.1 0 = .ok (.aload_n 0, 1) := by decide +kernel
theorem dX12_paceOf_1 : decode mX12_paceOf.2.1 1 = .ok (.getfield 43, 3) := by decide +kernel
theorem dX12_paceOf_4 : decode mX12_paceOf.2.1 4 = .ok (.iconst 4, 1) := by decide +kernel
theorem dX12_paceOf_5 : decode mX12_paceOf.2.1 5 = .ok (.iload_n 1, 1) := by decide +kernel
theorem dX12_paceOf_6 : decode mX12_paceOf.2.1 6 = .ok (.imul, 1) := by decide +kernel
theorem dX12_paceOf_7 : decode mX12_paceOf.2.1 7 = .ok (.iconst 3, 1) := by decide +kernel
theorem dX12_paceOf_8 : decode mX12_paceOf.2.1 8 = .ok (.iadd, 1) := by decide +kernel
theorem dX12_paceOf_9 : decode mX12_paceOf.2.1 9 = .ok (.iaload, 1) := by decide +kernel
theorem dX12_paceOf_10 : decode mX12_paceOf.2.1 10 = .ok (.ireturn, 1) := by decide +kernel
abbrev mX12_part : gz_M := (yX12_part, cX12_part, 5, some .boolean)
theorem dX12_part_0 : decode mX12_part.2.1 0 = .ok (.iload_n 1, 1) := by decide +kernel
theorem dX12_part_1 : decode mX12_part.2.1 1 = .ok (.ifCond .eq 12, 3) := by decide +kernel
theorem dX12_part_4 : decode mX12_part.2.1 4 = .ok (.aload_n 0, 1) := by decide +kernel
theorem dX12_part_5 : decode mX12_part.2.1 5 = .ok (.iconst 1, 1) := by decide +kernel
theorem dX12_part_6 : decode mX12_part.2.1 6 = .ok (.iload_n 2, 1) := by decide +kernel
theorem dX12_part_7 : decode mX12_part.2.1 7 = .ok (.invokevirtual 199, 3) := by decide +kernel
theorem dX12_part_10 : decode mX12_part.2.1 10 = .ok (.goto 7, 3) := by decide +kernel
theorem dX12_part_13 : decode mX12_part.2.1 13 = .ok (.aload_n 0, 1) := by decide +kernel
theorem dX12_part_14 : decode mX12_part.2.1 14 = .ok (.invokevirtual 192, 3) := by decide +kernel
theorem dX12_part_17 : decode mX12_part.2.1 17 = .ok (.istore_n 3, 1) := by decide +kernel
theorem dX12_part_18 : decode mX12_part.2.1 18 = .ok (.aload_n 0, 1) := by decide +kernel
theorem dX12_part_19 : decode mX12_part.2.1 19 = .ok (.getfield 136, 3) := by decide +kernel
theorem dX12_part_22 : decode mX12_part.2.1 22 = .ok (.iconst (-1), 1) := by decide +kernel
theorem dX12_part_23 : decode mX12_part.2.1 23 = .ok (.if_icmp .ne 46, 3) := by decide +kernel
theorem dX12_part_26 : decode mX12_part.2.1 26 = .ok (.aload_n 0, 1) := by decide +kernel
theorem dX12_part_27 : decode mX12_part.2.1 27 = .ok (.invokevirtual 146, 3) := by decide +kernel
theorem dX12_part_30 : decode mX12_part.2.1 30 = .ok (.bipush 38, 2) := by decide +kernel
theorem dX12_part_32 : decode mX12_part.2.1 32 = .ok (.if_icmp .ne 37, 3) := by decide +kernel
theorem dX12_part_35 : decode mX12_part.2.1 35 = .ok (.aload_n 0, 1) := by decide +kernel
theorem dX12_part_36 : decode mX12_part.2.1 36 = .ok (.dup, 1) := by decide +kernel
theorem dX12_part_37 : decode mX12_part.2.1 37 = .ok (.getfield 127, 3) := by decide +kernel
theorem dX12_part_40 : decode mX12_part.2.1 40 = .ok (.iconst 1, 1) := by decide +kernel
theorem dX12_part_41 : decode mX12_part.2.1 41 = .ok (.iadd, 1) := by decide +kernel
theorem dX12_part_42 : decode mX12_part.2.1 42 = .ok (.putfield 127, 3) := by decide +kernel
theorem dX12_part_45 : decode mX12_part.2.1 45 = .ok (.aload_n 0, 1) := by decide +kernel
theorem dX12_part_46 : decode mX12_part.2.1 46 = .ok (.invokevirtual 192, 3) := by decide +kernel
theorem dX12_part_49 : decode mX12_part.2.1 49 = .ok (.istore 4, 2) := by decide +kernel
theorem dX12_part_51 : decode mX12_part.2.1 51 = .ok (.iload_n 3, 1) := by decide +kernel
theorem dX12_part_52 : decode mX12_part.2.1 52 = .ok (.ifCond .eq 12, 3) := by decide +kernel
theorem dX12_part_55 : decode mX12_part.2.1 55 = .ok (.iload 4, 2) := by decide +kernel
theorem dX12_part_57 : decode mX12_part.2.1 57 = .ok (.ifCond .eq 7, 3) := by decide +kernel
theorem dX12_part_60 : decode mX12_part.2.1 60 = .ok (.iconst 1, 1) := by decide +kernel
theorem dX12_part_61 : decode mX12_part.2.1 61 = .ok (.goto 4, 3) := by decide +kernel
theorem dX12_part_64 : decode mX12_part.2.1 64 = .ok (.iconst 0, 1) := by decide +kernel
theorem dX12_part_65 : decode mX12_part.2.1 65 = .ok (.istore_n 3, 1) := by decide +kernel
theorem dX12_part_66 : decode mX12_part.2.1 66 = .ok (.goto (-48), 3) := by decide +kernel
theorem dX12_part_69 : decode mX12_part.2.1 69 = .ok (.iload_n 3, 1) := by decide +kernel
theorem dX12_part_70 : decode mX12_part.2.1 70 = .ok (.ireturn, 1) := by decide +kernel
abbrev mX12_passes : gz_M := (yX12_passes, cX12_passes, 6, some .int)
theorem dX12_passes_0 : decode mX12_passes.2.1 0 = .ok (.aload_n 0, 1) := by decide +kernel
theorem dX12_passes_1 : decode mX12_passes.2.1 1 = .ok (.iconst 0, 1) := by decide +kernel
theorem dX12_passes_2 : decode mX12_passes.2.1 2 = .ok (.putfield 353, 3) := by decide +kernel
theorem dX12_passes_5 : decode mX12_passes.2.1 5 = .ok (.aload_n 0, 1) := by decide +kernel
theorem dX12_passes_6 : decode mX12_passes.2.1 6 = .ok (.iconst 0, 1) := by decide +kernel
theorem dX12_passes_7 : decode mX12_passes.2.1 7 = .ok (.putfield 356, 3) := by decide +kernel
theorem dX12_passes_10 : decode mX12_passes.2.1 10 = .ok (.iconst 0, 1) := by decide +kernel
theorem dX12_passes_11 : decode mX12_passes.2.1 11 = .ok (.istore_n 2, 1) := by decide +kernel
theorem dX12_passes_12 : decode mX12_passes.2.1 12 = .ok (.iconst 0, 1) := by decide +kernel
theorem dX12_passes_13 : decode mX12_passes.2.1 13 = .ok (.istore_n 3, 1) := by decide +kernel
theorem dX12_passes_14 : decode mX12_passes.2.1 14 = .ok (.iconst 0, 1) := by decide +kernel
theorem dX12_passes_15 : decode mX12_passes.2.1 15 = .ok (.istore 4, 2) := by decide +kernel
theorem dX12_passes_17 : decode mX12_passes.2.1 17 = .ok (.iload 4, 2) := by decide +kernel
theorem dX12_passes_19 : decode mX12_passes.2.1 19 = .ok (.aload_n 0, 1) := by decide +kernel
theorem dX12_passes_20 : decode mX12_passes.2.1 20 = .ok (.getfield 303, 3) := by decide +kernel
theorem dX12_passes_23 : decode mX12_passes.2.1 23 = .ok (.if_icmp .ge 57, 3) := by decide +kernel
theorem dX12_passes_26 : decode mX12_passes.2.1 26 = .ok (.aload_n 1, 1) := by decide +kernel
theorem dX12_passes_27 : decode mX12_passes.2.1 27 = .ok (.iload 4, 2) := by decide +kernel
theorem dX12_passes_29 : decode mX12_passes.2.1 29 = .ok (.invokestatic 346, 3) := by decide +kernel
theorem dX12_passes_32 : decode mX12_passes.2.1 32 = .ok (.istore 5, 2) := by decide +kernel
theorem dX12_passes_34 : decode mX12_passes.2.1 34 = .ok (.aload_n 0, 1) := by decide +kernel
theorem dX12_passes_35 : decode mX12_passes.2.1 35 = .ok (.aload_n 1, 1) := by decide +kernel
theorem dX12_passes_36 : decode mX12_passes.2.1 36 = .ok (.iload 4, 2) := by decide +kernel
theorem dX12_passes_38 : decode mX12_passes.2.1 38 = .ok (.aload_n 0, 1) := by decide +kernel
theorem dX12_passes_39 : decode mX12_passes.2.1 39 = .ok (.iload 4, 2) := by decide +kernel
theorem dX12_passes_41 : decode mX12_passes.2.1 41 = .ok (.invokevirtual 359, 3) := by decide +kernel
theorem dX12_passes_44 : decode mX12_passes.2.1 44 = .ok (.invokevirtual 362, 3) := by decide +kernel
theorem dX12_passes_47 : decode mX12_passes.2.1 47 = .ok (.iload 5, 2) := by decide +kernel
theorem dX12_passes_49 : decode mX12_passes.2.1 49 = .ok (.ifCond .eq 25, 3) := by decide +kernel
theorem dX12_passes_52 : decode mX12_passes.2.1 52 = .ok (.aload_n 1, 1) := by decide +kernel
theorem dX12_passes_53 : decode mX12_passes.2.1 53 = .ok (.iload 4, 2) := by decide +kernel
theorem dX12_passes_55 : decode mX12_passes.2.1 55 = .ok (.invokestatic 346, 3) := by decide +kernel
theorem dX12_passes_58 : decode mX12_passes.2.1 58 = .ok (.ifCond .ne 16, 3) := by decide +kernel
theorem dX12_passes_61 : decode mX12_passes.2.1 61 = .ok (.aload_n 0, 1) := by decide +kernel
theorem dX12_passes_62 : decode mX12_passes.2.1 62 = .ok (.dup, 1) := by decide +kernel
theorem dX12_passes_63 : decode mX12_passes.2.1 63 = .ok (.getfield 356, 3) := by decide +kernel
theorem dX12_passes_66 : decode mX12_passes.2.1 66 = .ok (.iconst 1, 1) := by decide +kernel
theorem dX12_passes_67 : decode mX12_passes.2.1 67 = .ok (.iload 4, 2) := by decide +kernel
theorem dX12_passes_69 : decode mX12_passes.2.1 69 = .ok (.ishl, 1) := by decide +kernel
theorem dX12_passes_70 : decode mX12_passes.2.1 70 = .ok (.ior, 1) := by decide +kernel
theorem dX12_passes_71 : decode mX12_passes.2.1 71 = .ok (.putfield 356, 3) := by decide +kernel
theorem dX12_passes_74 : decode mX12_passes.2.1 74 = .ok (.iinc 4 1, 3) := by decide +kernel
theorem dX12_passes_77 : decode mX12_passes.2.1 77 = .ok (.goto (-60), 3) := by decide +kernel
theorem dX12_passes_80 : decode mX12_passes.2.1 80 = .ok (.iconst 0, 1) := by decide +kernel
theorem dX12_passes_81 : decode mX12_passes.2.1 81 = .ok (.istore 4, 2) := by decide +kernel
theorem dX12_passes_83 : decode mX12_passes.2.1 83 = .ok (.iload 4, 2) := by decide +kernel
theorem dX12_passes_85 : decode mX12_passes.2.1 85 = .ok (.aload_n 0, 1) := by decide +kernel
theorem dX12_passes_86 : decode mX12_passes.2.1 86 = .ok (.getfield 303, 3) := by decide +kernel
theorem dX12_passes_89 : decode mX12_passes.2.1 89 = .ok (.if_icmp .ge 105, 3) := by decide +kernel
theorem dX12_passes_92 : decode mX12_passes.2.1 92 = .ok (.iload 4, 2) := by decide +kernel
theorem dX12_passes_94 : decode mX12_passes.2.1 94 = .ok (.iconst 1, 1) := by decide +kernel
theorem dX12_passes_95 : decode mX12_passes.2.1 95 = .ok (.iadd, 1) := by decide +kernel
theorem dX12_passes_96 : decode mX12_passes.2.1 96 = .ok (.istore 5, 2) := by decide +kernel
theorem dX12_passes_98 : decode mX12_passes.2.1 98 = .ok (.iload 5, 2) := by decide +kernel
theorem dX12_passes_100 : decode mX12_passes.2.1 100 = .ok (.aload_n 0, 1) := by decide +kernel
theorem dX12_passes_101 : decode mX12_passes.2.1 101 = .ok (.getfield 303, 3) := by decide +kernel
theorem dX12_passes_104 : decode mX12_passes.2.1 104 = .ok (.if_icmp .ge 84, 3) := by decide +kernel
theorem dX12_passes_107 : decode mX12_passes.2.1 107 = .ok (.aload_n 1, 1) := by decide +kernel
theorem dX12_passes_108 : decode mX12_passes.2.1 108 = .ok (.iload 4, 2) := by decide +kernel
theorem dX12_passes_110 : decode mX12_passes.2.1 110 = .ok (.invokestatic 346, 3) := by decide +kernel
theorem dX12_passes_113 : decode mX12_passes.2.1 113 = .ok (.ifCond .eq 69, 3) := by decide +kernel
theorem dX12_passes_116 : decode mX12_passes.2.1 116 = .ok (.aload_n 1, 1) := by decide +kernel
theorem dX12_passes_117 : decode mX12_passes.2.1 117 = .ok (.iload 5, 2) := by decide +kernel
theorem dX12_passes_119 : decode mX12_passes.2.1 119 = .ok (.invokestatic 346, 3) := by decide +kernel
theorem dX12_passes_122 : decode mX12_passes.2.1 122 = .ok (.ifCond .eq 60, 3) := by decide +kernel
theorem dX12_passes_125 : decode mX12_passes.2.1 125 = .ok (.aload_n 1, 1) := by decide +kernel
theorem dX12_passes_126 : decode mX12_passes.2.1 126 = .ok (.bipush 30, 2) := by decide +kernel
theorem dX12_passes_128 : decode mX12_passes.2.1 128 = .ok (.iconst 4, 1) := by decide +kernel
theorem dX12_passes_129 : decode mX12_passes.2.1 129 = .ok (.iload 4, 2) := by decide +kernel
theorem dX12_passes_131 : decode mX12_passes.2.1 131 = .ok (.imul, 1) := by decide +kernel
theorem dX12_passes_132 : decode mX12_passes.2.1 132 = .ok (.iadd, 1) := by decide +kernel
theorem dX12_passes_133 : decode mX12_passes.2.1 133 = .ok (.iaload, 1) := by decide +kernel
theorem dX12_passes_134 : decode mX12_passes.2.1 134 = .ok (.aload_n 1, 1) := by decide +kernel
theorem dX12_passes_135 : decode mX12_passes.2.1 135 = .ok (.bipush 30, 2) := by decide +kernel
theorem dX12_passes_137 : decode mX12_passes.2.1 137 = .ok (.iconst 4, 1) := by decide +kernel
theorem dX12_passes_138 : decode mX12_passes.2.1 138 = .ok (.iload 5, 2) := by decide +kernel
theorem dX12_passes_140 : decode mX12_passes.2.1 140 = .ok (.imul, 1) := by decide +kernel
theorem dX12_passes_141 : decode mX12_passes.2.1 141 = .ok (.iadd, 1) := by decide +kernel
theorem dX12_passes_142 : decode mX12_passes.2.1 142 = .ok (.iaload, 1) := by decide +kernel
theorem dX12_passes_143 : decode mX12_passes.2.1 143 = .ok (.if_icmp .eq 6, 3) := by decide +kernel
theorem dX12_passes_146 : decode mX12_passes.2.1 146 = .ok (.goto 36, 3) := by decide +kernel
theorem dX12_passes_149 : decode mX12_passes.2.1 149 = .ok (.aload_n 0, 1) := by decide +kernel
theorem dX12_passes_150 : decode mX12_passes.2.1 150 = .ok (.dup, 1) := by decide +kernel
theorem dX12_passes_151 : decode mX12_passes.2.1 151 = .ok (.getfield 353, 3) := by decide +kernel
theorem dX12_passes_154 : decode mX12_passes.2.1 154 = .ok (.iconst 1, 1) := by decide +kernel
theorem dX12_passes_155 : decode mX12_passes.2.1 155 = .ok (.iconst 4, 1) := by decide +kernel
theorem dX12_passes_156 : decode mX12_passes.2.1 156 = .ok (.iload 4, 2) := by decide +kernel
theorem dX12_passes_158 : decode mX12_passes.2.1 158 = .ok (.imul, 1) := by decide +kernel
theorem dX12_passes_159 : decode mX12_passes.2.1 159 = .ok (.iload 5, 2) := by decide +kernel
theorem dX12_passes_161 : decode mX12_passes.2.1 161 = .ok (.iadd, 1) := by decide +kernel
theorem dX12_passes_162 : decode mX12_passes.2.1 162 = .ok (.ishl, 1) := by decide +kernel
theorem dX12_passes_163 : decode mX12_passes.2.1 163 = .ok (.ior, 1) := by decide +kernel
theorem dX12_passes_164 : decode mX12_passes.2.1 164 = .ok (.putfield 353, 3) := by decide +kernel
theorem dX12_passes_167 : decode mX12_passes.2.1 167 = .ok (.iload_n 2, 1) := by decide +kernel
theorem dX12_passes_168 : decode mX12_passes.2.1 168 = .ok (.iconst 1, 1) := by decide +kernel
theorem dX12_passes_169 : decode mX12_passes.2.1 169 = .ok (.iload 4, 2) := by decide +kernel
theorem dX12_passes_171 : decode mX12_passes.2.1 171 = .ok (.ishl, 1) := by decide +kernel
theorem dX12_passes_172 : decode mX12_passes.2.1 172 = .ok (.iconst 1, 1) := by decide +kernel
theorem dX12_passes_173 : decode mX12_passes.2.1 173 = .ok (.iload 5, 2) := by decide +kernel
theorem dX12_passes_175 : decode mX12_passes.2.1 175 = .ok (.ishl, 1) := by decide +kernel
theorem dX12_passes_176 : decode mX12_passes.2.1 176 = .ok (.ior, 1) := by decide +kernel
theorem dX12_passes_177 : decode mX12_passes.2.1 177 = .ok (.ior, 1) := by decide +kernel
theorem dX12_passes_178 : decode mX12_passes.2.1 178 = .ok (.istore_n 2, 1) := by decide +kernel
theorem dX12_passes_179 : decode mX12_passes.2.1 179 = .ok (.iinc 3 1, 3) := by decide +kernel
theorem dX12_passes_182 : decode mX12_passes.2.1 182 = .ok (.iinc 5 1, 3) := by decide +kernel
theorem dX12_passes_185 : decode mX12_passes.2.1 185 = .ok (.goto (-87), 3) := by decide +kernel
theorem dX12_passes_188 : decode mX12_passes.2.1 188 = .ok (.iinc 4 1, 3) := by decide +kernel
theorem dX12_passes_191 : decode mX12_passes.2.1 191 = .ok (.goto (-108), 3) := by decide +kernel
theorem dX12_passes_194 : decode mX12_passes.2.1 194 = .ok (.iconst 0, 1) := by decide +kernel
theorem dX12_passes_195 : decode mX12_passes.2.1 195 = .ok (.istore 4, 2) := by decide +kernel
theorem dX12_passes_197 : decode mX12_passes.2.1 197 = .ok (.iload 4, 2) := by decide +kernel
theorem dX12_passes_199 : decode mX12_passes.2.1 199 = .ok (.aload_n 0, 1) := by decide +kernel
theorem dX12_passes_200 : decode mX12_passes.2.1 200 = .ok (.getfield 303, 3) := by decide +kernel
theorem dX12_passes_203 : decode mX12_passes.2.1 203 = .ok (.if_icmp .ge 44, 3) := by decide +kernel
theorem dX12_passes_206 : decode mX12_passes.2.1 206 = .ok (.iload_n 2, 1) := by decide +kernel
theorem dX12_passes_207 : decode mX12_passes.2.1 207 = .ok (.iload 4, 2) := by decide +kernel
theorem dX12_passes_209 : decode mX12_passes.2.1 209 = .ok (.invokestatic 237, 3) := by decide +kernel
theorem dX12_passes_212 : decode mX12_passes.2.1 212 = .ok (.ifCond .eq 29, 3) := by decide +kernel
theorem dX12_passes_215 : decode mX12_passes.2.1 215 = .ok (.aload_n 1, 1) := by decide +kernel
theorem dX12_passes_216 : decode mX12_passes.2.1 216 = .ok (.bipush 30, 2) := by decide +kernel
theorem dX12_passes_218 : decode mX12_passes.2.1 218 = .ok (.iconst 4, 1) := by decide +kernel
theorem dX12_passes_219 : decode mX12_passes.2.1 219 = .ok (.iload 4, 2) := by decide +kernel
theorem dX12_passes_221 : decode mX12_passes.2.1 221 = .ok (.imul, 1) := by decide +kernel
theorem dX12_passes_222 : decode mX12_passes.2.1 222 = .ok (.iadd, 1) := by decide +kernel
theorem dX12_passes_223 : decode mX12_passes.2.1 223 = .ok (.iconst 1, 1) := by decide +kernel
theorem dX12_passes_224 : decode mX12_passes.2.1 224 = .ok (.iadd, 1) := by decide +kernel
theorem dX12_passes_225 : decode mX12_passes.2.1 225 = .ok (.aload_n 1, 1) := by decide +kernel
theorem dX12_passes_226 : decode mX12_passes.2.1 226 = .ok (.bipush 30, 2) := by decide +kernel
theorem dX12_passes_228 : decode mX12_passes.2.1 228 = .ok (.iconst 4, 1) := by decide +kernel
theorem dX12_passes_229 : decode mX12_passes.2.1 229 = .ok (.iload 4, 2) := by decide +kernel
theorem dX12_passes_231 : decode mX12_passes.2.1 231 = .ok (.imul, 1) := by decide +kernel
theorem dX12_passes_232 : decode mX12_passes.2.1 232 = .ok (.iadd, 1) := by decide +kernel
theorem dX12_passes_233 : decode mX12_passes.2.1 233 = .ok (.iconst 1, 1) := by decide +kernel
theorem dX12_passes_234 : decode mX12_passes.2.1 234 = .ok (.iadd, 1) := by decide +kernel
theorem dX12_passes_235 : decode mX12_passes.2.1 235 = .ok (.iaload, 1) := by decide +kernel
theorem dX12_passes_236 : decode mX12_passes.2.1 236 = .ok (.iconst 2, 1) := by decide +kernel
theorem dX12_passes_237 : decode mX12_passes.2.1 237 = .ok (.iadd, 1) := by decide +kernel
theorem dX12_passes_238 : decode mX12_passes.2.1 238 = .ok (.iconst 4, 1) := by decide +kernel
theorem dX12_passes_239 : decode mX12_passes.2.1 239 = .ok (.irem, 1) := by decide +kernel
theorem dX12_passes_240 : decode mX12_passes.2.1 240 = .ok (.iastore, 1) := by decide +kernel
theorem dX12_passes_241 : decode mX12_passes.2.1 241 = .ok (.iinc 4 1, 3) := by decide +kernel
theorem dX12_passes_244 : decode mX12_passes.2.1 244 = .ok (.goto (-47), 3) := by decide +kernel
theorem dX12_passes_247 : decode mX12_passes.2.1 247 = .ok (.aload_n 1, 1) := by decide +kernel
theorem dX12_passes_248 : decode mX12_passes.2.1 248 = .ok (.bipush 47, 2) := by decide +kernel
theorem dX12_passes_250 : decode mX12_passes.2.1 250 = .ok (.sipush 9999, 3) := by decide +kernel
theorem dX12_passes_253 : decode mX12_passes.2.1 253 = .ok (.aload_n 1, 1) := by decide +kernel
theorem dX12_passes_254 : decode mX12_passes.2.1 254 = .ok (.bipush 47, 2) := by decide +kernel
theorem dX12_passes_256 : decode mX12_passes.2.1 256 = .ok (.iaload, 1) := by decide +kernel
theorem dX12_passes_257 : decode mX12_passes.2.1 257 = .ok (.iload_n 3, 1) := by decide +kernel
theorem dX12_passes_258 : decode mX12_passes.2.1 258 = .ok (.iadd, 1) := by decide +kernel
theorem dX12_passes_259 : decode mX12_passes.2.1 259 = .ok (.invokestatic 365, 3) := by decide +kernel
theorem dX12_passes_262 : decode mX12_passes.2.1 262 = .ok (.iastore, 1) := by decide +kernel
theorem dX12_passes_263 : decode mX12_passes.2.1 263 = .ok (.aload_n 1, 1) := by decide +kernel
theorem dX12_passes_264 : decode mX12_passes.2.1 264 = .ok (.bipush 49, 2) := by decide +kernel
theorem dX12_passes_266 : decode mX12_passes.2.1 266 = .ok (.dup2, 1) := by decide +kernel
theorem dX12_passes_267 : decode mX12_passes.2.1 267 = .ok (.iaload, 1) := by decide +kernel
theorem dX12_passes_268 : decode mX12_passes.2.1 268 = .ok (.iconst 1, 1) := by decide +kernel
theorem dX12_passes_269 : decode mX12_passes.2.1 269 = .ok (.iadd, 1) := by decide +kernel
theorem dX12_passes_270 : decode mX12_passes.2.1 270 = .ok (.iastore, 1) := by decide +kernel
theorem dX12_passes_271 : decode mX12_passes.2.1 271 = .ok (.iload_n 3, 1) := by decide +kernel
theorem dX12_passes_272 : decode mX12_passes.2.1 272 = .ok (.ireturn, 1) := by decide +kernel
abbrev mX12_perform : gz_M := (yX12_perform, cX12_perform, 4, some .int)
theorem dX12_perform_0 : decode mX12_perform.2.1 0 = .ok (.aload_n 0, 1) := by decide +kernel
theorem dX12_perform_1 : decode mX12_perform.2.1 1 = .ok (.iconst 0, 1) := by decide +kernel
theorem dX12_perform_2 : decode mX12_perform.2.1 2 = .ok (.putfield 104, 3) := by decide +kernel
theorem dX12_perform_5 : decode mX12_perform.2.1 5 = .ok (.aload_n 0, 1) := by decide +kernel
theorem dX12_perform_6 : decode mX12_perform.2.1 6 = .ok (.iload_n 1, 1) := by decide +kernel
theorem dX12_perform_7 : decode mX12_perform.2.1 7 = .ok (.invokevirtual 430, 3) := by decide +kernel
theorem dX12_perform_10 : decode mX12_perform.2.1 10 = .ok (.ifCond .eq 10, 3) := by decide +kernel
theorem dX12_perform_13 : decode mX12_perform.2.1 13 = .ok (.aload_n 0, 1) := by decide +kernel
theorem dX12_perform_14 : decode mX12_perform.2.1 14 = .ok (.getfield 303, 3) := by decide +kernel
theorem dX12_perform_17 : decode mX12_perform.2.1 17 = .ok (.ifCond .ne 5, 3) := by decide +kernel
theorem dX12_perform_20 : decode mX12_perform.2.1 20 = .ok (.iconst (-1), 1) := by decide +kernel
theorem dX12_perform_21 : decode mX12_perform.2.1 21 = .ok (.ireturn, 1) := by decide +kernel
theorem dX12_perform_22 : decode mX12_perform.2.1 22 = .ok (.iconst 0, 1) := by decide +kernel
theorem dX12_perform_23 : decode mX12_perform.2.1 23 = .ok (.istore_n 2, 1) := by decide +kernel
theorem dX12_perform_24 : decode mX12_perform.2.1 24 = .ok (.iload_n 2, 1) := by decide +kernel
theorem dX12_perform_25 : decode mX12_perform.2.1 25 = .ok (.aload_n 0, 1) := by decide +kernel
theorem dX12_perform_26 : decode mX12_perform.2.1 26 = .ok (.getfield 61, 3) := by decide +kernel
theorem dX12_perform_29 : decode mX12_perform.2.1 29 = .ok (.iload_n 1, 1) := by decide +kernel
theorem dX12_perform_30 : decode mX12_perform.2.1 30 = .ok (.iaload, 1) := by decide +kernel
theorem dX12_perform_31 : decode mX12_perform.2.1 31 = .ok (.if_icmp .ge 49, 3) := by decide +kernel
theorem dX12_perform_34 : decode mX12_perform.2.1 34 = .ok (.aload_n 0, 1) := by decide +kernel
theorem dX12_perform_35 : decode mX12_perform.2.1 35 = .ok (.aload_n 0, 1) := by decide +kernel
theorem dX12_perform_36 : decode mX12_perform.2.1 36 = .ok (.getfield 64, 3) := by decide +kernel
theorem dX12_perform_39 : decode mX12_perform.2.1 39 = .ok (.iconst 3, 1) := by decide +kernel
theorem dX12_perform_40 : decode mX12_perform.2.1 40 = .ok (.bipush 16, 2) := by decide +kernel
theorem dX12_perform_42 : decode mX12_perform.2.1 42 = .ok (.iload_n 1, 1) := by decide +kernel
theorem dX12_perform_43 : decode mX12_perform.2.1 43 = .ok (.imul, 1) := by decide +kernel
theorem dX12_perform_44 : decode mX12_perform.2.1 44 = .ok (.iload_n 2, 1) := by decide +kernel
theorem dX12_perform_45 : decode mX12_perform.2.1 45 = .ok (.iadd, 1) := by decide +kernel
theorem dX12_perform_46 : decode mX12_perform.2.1 46 = .ok (.imul, 1) := by decide +kernel
theorem dX12_perform_47 : decode mX12_perform.2.1 47 = .ok (.invokevirtual 438, 3) := by decide +kernel
theorem dX12_perform_50 : decode mX12_perform.2.1 50 = .ok (.ifCond .eq 30, 3) := by decide +kernel
theorem dX12_perform_53 : decode mX12_perform.2.1 53 = .ok (.aload_n 0, 1) := by decide +kernel
theorem dX12_perform_54 : decode mX12_perform.2.1 54 = .ok (.invokevirtual 380, 3) := by decide +kernel
theorem dX12_perform_57 : decode mX12_perform.2.1 57 = .ok (.aload_n 0, 1) := by decide +kernel
theorem dX12_perform_58 : decode mX12_perform.2.1 58 = .ok (.aload_n 0, 1) := by decide +kernel
theorem dX12_perform_59 : decode mX12_perform.2.1 59 = .ok (.getfield 64, 3) := by decide +kernel
theorem dX12_perform_62 : decode mX12_perform.2.1 62 = .ok (.iconst 3, 1) := by decide +kernel
theorem dX12_perform_63 : decode mX12_perform.2.1 63 = .ok (.bipush 16, 2) := by decide +kernel
theorem dX12_perform_65 : decode mX12_perform.2.1 65 = .ok (.iload_n 1, 1) := by decide +kernel
theorem dX12_perform_66 : decode mX12_perform.2.1 66 = .ok (.imul, 1) := by decide +kernel
theorem dX12_perform_67 : decode mX12_perform.2.1 67 = .ok (.iload_n 2, 1) := by decide +kernel
theorem dX12_perform_68 : decode mX12_perform.2.1 68 = .ok (.iadd, 1) := by decide +kernel
theorem dX12_perform_69 : decode mX12_perform.2.1 69 = .ok (.imul, 1) := by decide +kernel
theorem dX12_perform_70 : decode mX12_perform.2.1 70 = .ok (.invokevirtual 441, 3) := by decide +kernel
theorem dX12_perform_73 : decode mX12_perform.2.1 73 = .ok (.istore_n 3, 1) := by decide +kernel
theorem dX12_perform_74 : decode mX12_perform.2.1 74 = .ok (.iinc 2 1, 3) := by decide +kernel
theorem dX12_perform_77 : decode mX12_perform.2.1 77 = .ok (.goto (-53), 3) := by decide +kernel
theorem dX12_perform_80 : decode mX12_perform.2.1 80 = .ok (.iload_n 2, 1) := by decide +kernel
theorem dX12_perform_81 : decode mX12_perform.2.1 81 = .ok (.ireturn, 1) := by decide +kernel
abbrev mX12_put : gz_M := (yX12_put, cX12_put, 3, none)
theorem dX12_put_0 : decode mX12_put.2.1 0 = .ok (.bipush 24, 2) := by decide +kernel
theorem dX12_put_2 : decode mX12_put.2.1 2 = .ok (.istore_n 2, 1) := by decide +kernel
theorem dX12_put_3 : decode mX12_put.2.1 3 = .ok (.iload_n 2, 1) := by decide +kernel
theorem dX12_put_4 : decode mX12_put.2.1 4 = .ok (.ifCond .lt 45, 3) := by decide +kernel
theorem dX12_put_7 : decode mX12_put.2.1 7 = .ok (.iload_n 1, 1) := by decide +kernel
theorem dX12_put_8 : decode mX12_put.2.1 8 = .ok (.iload_n 2, 1) := by decide +kernel
theorem dX12_put_9 : decode mX12_put.2.1 9 = .ok (.ishr, 1) := by decide +kernel
theorem dX12_put_10 : decode mX12_put.2.1 10 = .ok (.sipush 255, 3) := by decide +kernel
theorem dX12_put_13 : decode mX12_put.2.1 13 = .ok (.iand, 1) := by decide +kernel
theorem dX12_put_14 : decode mX12_put.2.1 14 = .ok (.ifCond .ne 6, 3) := by decide +kernel
theorem dX12_put_17 : decode mX12_put.2.1 17 = .ok (.goto 26, 3) := by decide +kernel
theorem dX12_put_20 : decode mX12_put.2.1 20 = .ok (.aload_n 0, 1) := by decide +kernel
theorem dX12_put_21 : decode mX12_put.2.1 21 = .ok (.getfield 9, 3) := by decide +kernel
theorem dX12_put_24 : decode mX12_put.2.1 24 = .ok (.aload_n 0, 1) := by decide +kernel
theorem dX12_put_25 : decode mX12_put.2.1 25 = .ok (.getfield 117, 3) := by decide +kernel
theorem dX12_put_28 : decode mX12_put.2.1 28 = .ok (.iload_n 1, 1) := by decide +kernel
theorem dX12_put_29 : decode mX12_put.2.1 29 = .ok (.iload_n 2, 1) := by decide +kernel
theorem dX12_put_30 : decode mX12_put.2.1 30 = .ok (.ishr, 1) := by decide +kernel
theorem dX12_put_31 : decode mX12_put.2.1 31 = .ok (.i2b, 1) := by decide +kernel
theorem dX12_put_32 : decode mX12_put.2.1 32 = .ok (.bastore, 1) := by decide +kernel
theorem dX12_put_33 : decode mX12_put.2.1 33 = .ok (.aload_n 0, 1) := by decide +kernel
theorem dX12_put_34 : decode mX12_put.2.1 34 = .ok (.dup, 1) := by decide +kernel
theorem dX12_put_35 : decode mX12_put.2.1 35 = .ok (.getfield 117, 3) := by decide +kernel
theorem dX12_put_38 : decode mX12_put.2.1 38 = .ok (.iconst 1, 1) := by decide +kernel
theorem dX12_put_39 : decode mX12_put.2.1 39 = .ok (.iadd, 1) := by decide +kernel
theorem dX12_put_40 : decode mX12_put.2.1 40 = .ok (.putfield 117, 3) := by decide +kernel
theorem dX12_put_43 : decode mX12_put.2.1 43 = .ok (.iinc 2 (-8), 3) := by decide +kernel
theorem dX12_put_46 : decode mX12_put.2.1 46 = .ok (.goto (-43), 3) := by decide +kernel
theorem dX12_put_49 : decode mX12_put.2.1 49 = .ok (.return_, 1) := by decide +kernel
abbrev mX12_readClause : gz_M := (yX12_readClause, cX12_readClause, 3, none)
theorem dX12_readClause_0 : decode mX12_readClause.2.1 0 = .ok (.aload_n 0, 1) := by decide +kernel
theorem dX12_readClause_1 : decode mX12_readClause.2.1 1 = .ok (.invokevirtual 146, 3) := by decide +kernel
theorem dX12_readClause_4 : decode mX12_readClause.2.1 4 = .ok (.istore_n 1, 1) := by decide +kernel
theorem dX12_readClause_5 : decode mX12_readClause.2.1 5 = .ok (.iload_n 1, 1) := by decide +kernel
theorem dX12_readClause_6 : decode mX12_readClause.2.1 6 = .ok (.bipush 115, 2) := by decide +kernel
theorem dX12_readClause_8 : decode mX12_readClause.2.1 8 = .ok (.if_icmp .ne 10, 3) := by decide +kernel
theorem dX12_readClause_11 : decode mX12_readClause.2.1 11 = .ok (.aload_n 0, 1) := by decide +kernel
theorem dX12_readClause_12 : decode mX12_readClause.2.1 12 = .ok (.getfield 253, 3) := by decide +kernel
theorem dX12_readClause_15 : decode mX12_readClause.2.1 15 = .ok (.ifCond .eq 31, 3) := by decide +kernel
theorem dX12_readClause_18 : decode mX12_readClause.2.1 18 = .ok (.iload_n 1, 1) := by decide +kernel
theorem dX12_readClause_19 : decode mX12_readClause.2.1 19 = .ok (.bipush 114, 2) := by decide +kernel
theorem dX12_readClause_21 : decode mX12_readClause.2.1 21 = .ok (.if_icmp .ne 11, 3) := by decide +kernel
theorem dX12_readClause_24 : decode mX12_readClause.2.1 24 = .ok (.aload_n 0, 1) := by decide +kernel
theorem dX12_readClause_25 : decode mX12_readClause.2.1 25 = .ok (.getfield 250, 3) := by decide +kernel
theorem dX12_readClause_28 : decode mX12_readClause.2.1 28 = .ok (.iconst 5, 1) := by decide +kernel
theorem dX12_readClause_29 : decode mX12_readClause.2.1 29 = .ok (.if_icmp .lt 17, 3) := by decide +kernel
theorem dX12_readClause_32 : decode mX12_readClause.2.1 32 = .ok (.iload_n 1, 1) := by decide +kernel
theorem dX12_readClause_33 : decode mX12_readClause.2.1 33 = .ok (.bipush 103, 2) := by decide +kernel
theorem dX12_readClause_35 : decode mX12_readClause.2.1 35 = .ok (.if_icmp .ne 15, 3) := by decide +kernel
theorem dX12_readClause_38 : decode mX12_readClause.2.1 38 = .ok (.aload_n 0, 1) := by decide +kernel
theorem dX12_readClause_39 : decode mX12_readClause.2.1 39 = .ok (.getfield 256, 3) := by decide +kernel
theorem dX12_readClause_42 : decode mX12_readClause.2.1 42 = .ok (.iconst 4, 1) := by decide +kernel
theorem dX12_readClause_43 : decode mX12_readClause.2.1 43 = .ok (.if_icmp .ge 7, 3) := by decide +kernel
theorem dX12_readClause_46 : decode mX12_readClause.2.1 46 = .ok (.iconst 1, 1) := by decide +kernel
theorem dX12_readClause_47 : decode mX12_readClause.2.1 47 = .ok (.goto 4, 3) := by decide +kernel
theorem dX12_readClause_50 : decode mX12_readClause.2.1 50 = .ok (.iconst 0, 1) := by decide +kernel
theorem dX12_readClause_51 : decode mX12_readClause.2.1 51 = .ok (.istore_n 2, 1) := by decide +kernel
theorem dX12_readClause_52 : decode mX12_readClause.2.1 52 = .ok (.iload_n 2, 1) := by decide +kernel
theorem dX12_readClause_53 : decode mX12_readClause.2.1 53 = .ok (.ifCond .ne 9, 3) := by decide +kernel
theorem dX12_readClause_56 : decode mX12_readClause.2.1 56 = .ok (.aload_n 0, 1) := by decide +kernel
theorem dX12_readClause_57 : decode mX12_readClause.2.1 57 = .ok (.invokevirtual 142, 3) := by decide +kernel
theorem dX12_readClause_60 : decode mX12_readClause.2.1 60 = .ok (.pop, 1) := by decide +kernel
theorem dX12_readClause_61 : decode mX12_readClause.2.1 61 = .ok (.return_, 1) := by decide +kernel
theorem dX12_readClause_62 : decode mX12_readClause.2.1 62 = .ok (.aload_n 0, 1) := by decide +kernel
theorem dX12_readClause_63 : decode mX12_readClause.2.1 63 = .ok (.dup, 1) := by decide +kernel
theorem dX12_readClause_64 : decode mX12_readClause.2.1 64 = .ok (.getfield 127, 3) := by decide +kernel
theorem dX12_readClause_67 : decode mX12_readClause.2.1 67 = .ok (.iconst 1, 1) := by decide +kernel
theorem dX12_readClause_68 : decode mX12_readClause.2.1 68 = .ok (.iadd, 1) := by decide +kernel
theorem dX12_readClause_69 : decode mX12_readClause.2.1 69 = .ok (.putfield 127, 3) := by decide +kernel
theorem dX12_readClause_72 : decode mX12_readClause.2.1 72 = .ok (.iload_n 1, 1) := by decide +kernel
theorem dX12_readClause_73 : decode mX12_readClause.2.1 73 = .ok (.bipush 115, 2) := by decide +kernel
theorem dX12_readClause_75 : decode mX12_readClause.2.1 75 = .ok (.if_icmp .ne 24, 3) := by decide +kernel
theorem dX12_readClause_78 : decode mX12_readClause.2.1 78 = .ok (.aload_n 0, 1) := by decide +kernel
theorem dX12_readClause_79 : decode mX12_readClause.2.1 79 = .ok (.iconst 1, 1) := by decide +kernel
theorem dX12_readClause_80 : decode mX12_readClause.2.1 80 = .ok (.putfield 253, 3) := by decide +kernel
theorem dX12_readClause_83 : decode mX12_readClause.2.1 83 = .ok (.aload_n 0, 1) := by decide +kernel
theorem dX12_readClause_84 : decode mX12_readClause.2.1 84 = .ok (.iload_n 1, 1) := by decide +kernel
theorem dX12_readClause_85 : decode mX12_readClause.2.1 85 = .ok (.aload_n 0, 1) := by decide +kernel
theorem dX12_readClause_86 : decode mX12_readClause.2.1 86 = .ok (.getfield 40, 3) := by decide +kernel
theorem dX12_readClause_89 : decode mX12_readClause.2.1 89 = .ok (.iconst 0, 1) := by decide +kernel
theorem dX12_readClause_90 : decode mX12_readClause.2.1 90 = .ok (.ldc_w 259, 3) := by decide +kernel
theorem dX12_readClause_93 : decode mX12_readClause.2.1 93 = .ok (.invokevirtual 261, 3) := by decide +kernel
theorem dX12_readClause_96 : decode mX12_readClause.2.1 96 = .ok (.goto 46, 3) := by decide +kernel
theorem dX12_readClause_99 : decode mX12_readClause.2.1 99 = .ok (.iload_n 1, 1) := by decide +kernel
theorem dX12_readClause_100 : decode mX12_readClause.2.1 100 = .ok (.bipush 114, 2) := by decide +kernel
theorem dX12_readClause_102 : decode mX12_readClause.2.1 102 = .ok (.if_icmp .ne 10, 3) := by decide +kernel
theorem dX12_readClause_105 : decode mX12_readClause.2.1 105 = .ok (.aload_n 0, 1) := by decide +kernel
theorem dX12_readClause_106 : decode mX12_readClause.2.1 106 = .ok (.invokevirtual 265, 3) := by decide +kernel
theorem dX12_readClause_109 : decode mX12_readClause.2.1 109 = .ok (.goto 33, 3) := by decide +kernel
theorem dX12_readClause_112 : decode mX12_readClause.2.1 112 = .ok (.aload_n 0, 1) := by decide +kernel
theorem dX12_readClause_113 : decode mX12_readClause.2.1 113 = .ok (.dup, 1) := by decide +kernel
theorem dX12_readClause_114 : decode mX12_readClause.2.1 114 = .ok (.getfield 256, 3) := by decide +kernel
theorem dX12_readClause_117 : decode mX12_readClause.2.1 117 = .ok (.iconst 1, 1) := by decide +kernel
theorem dX12_readClause_118 : decode mX12_readClause.2.1 118 = .ok (.iadd, 1) := by decide +kernel
theorem dX12_readClause_119 : decode mX12_readClause.2.1 119 = .ok (.putfield 256, 3) := by decide +kernel
theorem dX12_readClause_122 : decode mX12_readClause.2.1 122 = .ok (.aload_n 0, 1) := by decide +kernel
theorem dX12_readClause_123 : decode mX12_readClause.2.1 123 = .ok (.iload_n 1, 1) := by decide +kernel
theorem dX12_readClause_124 : decode mX12_readClause.2.1 124 = .ok (.aload_n 0, 1) := by decide +kernel
theorem dX12_readClause_125 : decode mX12_readClause.2.1 125 = .ok (.getfield 46, 3) := by decide +kernel
theorem dX12_readClause_128 : decode mX12_readClause.2.1 128 = .ok (.iconst 4, 1) := by decide +kernel
theorem dX12_readClause_129 : decode mX12_readClause.2.1 129 = .ok (.aload_n 0, 1) := by decide +kernel
theorem dX12_readClause_130 : decode mX12_readClause.2.1 130 = .ok (.getfield 256, 3) := by decide +kernel
theorem dX12_readClause_133 : decode mX12_readClause.2.1 133 = .ok (.iconst 1, 1) := by decide +kernel
theorem dX12_readClause_134 : decode mX12_readClause.2.1 134 = .ok (.isub, 1) := by decide +kernel
theorem dX12_readClause_135 : decode mX12_readClause.2.1 135 = .ok (.imul, 1) := by decide +kernel
theorem dX12_readClause_136 : decode mX12_readClause.2.1 136 = .ok (.ldc_w 268, 3) := by decide +kernel
theorem dX12_readClause_139 : decode mX12_readClause.2.1 139 = .ok (.invokevirtual 261, 3) := by decide +kernel
theorem dX12_readClause_142 : decode mX12_readClause.2.1 142 = .ok (.return_, 1) := by decide +kernel
abbrev mX12_readItems : gz_M := (yX12_readItems, cX12_readItems, 7, none)
theorem dX12_readItems_0 : decode mX12_readItems.2.1 0 = .ok (.iconst 0, 1) := by decide +kernel
theorem dX12_readItems_1 : decode mX12_readItems.2.1 1 = .ok (.istore 5, 2) := by decide +kernel
theorem dX12_readItems_3 : decode mX12_readItems.2.1 3 = .ok (.iload 5, 2) := by decide +kernel
theorem dX12_readItems_5 : decode mX12_readItems.2.1 5 = .ok (.aload 4, 2) := by decide +kernel
theorem dX12_readItems_7 : decode mX12_readItems.2.1 7 = .ok (.invokevirtual 107, 3) := by decide +kernel
theorem dX12_readItems_10 : decode mX12_readItems.2.1 10 = .ok (.if_icmp .ge 21, 3) := by decide +kernel
theorem dX12_readItems_13 : decode mX12_readItems.2.1 13 = .ok (.aload_n 2, 1) := by decide +kernel
theorem dX12_readItems_14 : decode mX12_readItems.2.1 14 = .ok (.iload_n 3, 1) := by decide +kernel
theorem dX12_readItems_15 : decode mX12_readItems.2.1 15 = .ok (.iload 5, 2) := by decide +kernel
theorem dX12_readItems_17 : decode mX12_readItems.2.1 17 = .ok (.iadd, 1) := by decide +kernel
theorem dX12_readItems_18 : decode mX12_readItems.2.1 18 = .ok (.iload_n 1, 1) := by decide +kernel
theorem dX12_readItems_19 : decode mX12_readItems.2.1 19 = .ok (.iload 5, 2) := by decide +kernel
theorem dX12_readItems_21 : decode mX12_readItems.2.1 21 = .ok (.invokestatic 229, 3) := by decide +kernel
theorem dX12_readItems_24 : decode mX12_readItems.2.1 24 = .ok (.iastore, 1) := by decide +kernel
theorem dX12_readItems_25 : decode mX12_readItems.2.1 25 = .ok (.iinc 5 1, 3) := by decide +kernel
theorem dX12_readItems_28 : decode mX12_readItems.2.1 28 = .ok (.goto (-25), 3) := by decide +kernel
theorem dX12_readItems_31 : decode mX12_readItems.2.1 31 = .ok (.iconst 0, 1) := by decide +kernel
theorem dX12_readItems_32 : decode mX12_readItems.2.1 32 = .ok (.istore 5, 2) := by decide +kernel
theorem dX12_readItems_34 : decode mX12_readItems.2.1 34 = .ok (.aload 4, 2) := by decide +kernel
theorem dX12_readItems_36 : decode mX12_readItems.2.1 36 = .ok (.aload_n 0, 1) := by decide +kernel
theorem dX12_readItems_37 : decode mX12_readItems.2.1 37 = .ok (.invokevirtual 146, 3) := by decide +kernel
theorem dX12_readItems_40 : decode mX12_readItems.2.1 40 = .ok (.invokestatic 233, 3) := by decide +kernel
theorem dX12_readItems_43 : decode mX12_readItems.2.1 43 = .ok (.istore 6, 2) := by decide +kernel
theorem dX12_readItems_45 : decode mX12_readItems.2.1 45 = .ok (.iload 6, 2) := by decide +kernel
theorem dX12_readItems_47 : decode mX12_readItems.2.1 47 = .ok (.iconst (-1), 1) := by decide +kernel
theorem dX12_readItems_48 : decode mX12_readItems.2.1 48 = .ok (.if_icmp .eq 90, 3) := by decide +kernel
theorem dX12_readItems_51 : decode mX12_readItems.2.1 51 = .ok (.aload_n 0, 1) := by decide +kernel
theorem dX12_readItems_52 : decode mX12_readItems.2.1 52 = .ok (.getfield 136, 3) := by decide +kernel
theorem dX12_readItems_55 : decode mX12_readItems.2.1 55 = .ok (.iconst (-1), 1) := by decide +kernel
theorem dX12_readItems_56 : decode mX12_readItems.2.1 56 = .ok (.if_icmp .ne 82, 3) := by decide +kernel
theorem dX12_readItems_59 : decode mX12_readItems.2.1 59 = .ok (.iload 5, 2) := by decide +kernel
theorem dX12_readItems_61 : decode mX12_readItems.2.1 61 = .ok (.iload 6, 2) := by decide +kernel
theorem dX12_readItems_63 : decode mX12_readItems.2.1 63 = .ok (.invokestatic 237, 3) := by decide +kernel
theorem dX12_readItems_66 : decode mX12_readItems.2.1 66 = .ok (.ifCond .eq 9, 3) := by decide +kernel
theorem dX12_readItems_69 : decode mX12_readItems.2.1 69 = .ok (.aload_n 0, 1) := by decide +kernel
theorem dX12_readItems_70 : decode mX12_readItems.2.1 70 = .ok (.invokevirtual 142, 3) := by decide +kernel
theorem dX12_readItems_73 : decode mX12_readItems.2.1 73 = .ok (.pop, 1) := by decide +kernel
theorem dX12_readItems_74 : decode mX12_readItems.2.1 74 = .ok (.return_, 1) := by decide +kernel
theorem dX12_readItems_75 : decode mX12_readItems.2.1 75 = .ok (.iload 5, 2) := by decide +kernel
theorem dX12_readItems_77 : decode mX12_readItems.2.1 77 = .ok (.iconst 1, 1) := by decide +kernel
theorem dX12_readItems_78 : decode mX12_readItems.2.1 78 = .ok (.iload 6, 2) := by decide +kernel
theorem dX12_readItems_80 : decode mX12_readItems.2.1 80 = .ok (.ishl, 1) := by decide +kernel
theorem dX12_readItems_81 : decode mX12_readItems.2.1 81 = .ok (.ior, 1) := by decide +kernel
theorem dX12_readItems_82 : decode mX12_readItems.2.1 82 = .ok (.istore 5, 2) := by decide +kernel
theorem dX12_readItems_84 : decode mX12_readItems.2.1 84 = .ok (.aload_n 0, 1) := by decide +kernel
theorem dX12_readItems_85 : decode mX12_readItems.2.1 85 = .ok (.dup, 1) := by decide +kernel
theorem dX12_readItems_86 : decode mX12_readItems.2.1 86 = .ok (.getfield 127, 3) := by decide +kernel
theorem dX12_readItems_89 : decode mX12_readItems.2.1 89 = .ok (.iconst 1, 1) := by decide +kernel
theorem dX12_readItems_90 : decode mX12_readItems.2.1 90 = .ok (.iadd, 1) := by decide +kernel
theorem dX12_readItems_91 : decode mX12_readItems.2.1 91 = .ok (.putfield 127, 3) := by decide +kernel
theorem dX12_readItems_94 : decode mX12_readItems.2.1 94 = .ok (.aload_n 2, 1) := by decide +kernel
theorem dX12_readItems_95 : decode mX12_readItems.2.1 95 = .ok (.iload_n 3, 1) := by decide +kernel
theorem dX12_readItems_96 : decode mX12_readItems.2.1 96 = .ok (.iload 6, 2) := by decide +kernel
theorem dX12_readItems_98 : decode mX12_readItems.2.1 98 = .ok (.iadd, 1) := by decide +kernel
theorem dX12_readItems_99 : decode mX12_readItems.2.1 99 = .ok (.aload_n 0, 1) := by decide +kernel
theorem dX12_readItems_100 : decode mX12_readItems.2.1 100 = .ok (.iload_n 1, 1) := by decide +kernel
theorem dX12_readItems_101 : decode mX12_readItems.2.1 101 = .ok (.iload 6, 2) := by decide +kernel
theorem dX12_readItems_103 : decode mX12_readItems.2.1 103 = .ok (.invokestatic 241, 3) := by decide +kernel
theorem dX12_readItems_106 : decode mX12_readItems.2.1 106 = .ok (.iload_n 1, 1) := by decide +kernel
theorem dX12_readItems_107 : decode mX12_readItems.2.1 107 = .ok (.iload 6, 2) := by decide +kernel
theorem dX12_readItems_109 : decode mX12_readItems.2.1 109 = .ok (.invokestatic 244, 3) := by decide +kernel
theorem dX12_readItems_112 : decode mX12_readItems.2.1 112 = .ok (.invokevirtual 247, 3) := by decide +kernel
theorem dX12_readItems_115 : decode mX12_readItems.2.1 115 = .ok (.iastore, 1) := by decide +kernel
theorem dX12_readItems_116 : decode mX12_readItems.2.1 116 = .ok (.aload_n 0, 1) := by decide +kernel
theorem dX12_readItems_117 : decode mX12_readItems.2.1 117 = .ok (.getfield 136, 3) := by decide +kernel
theorem dX12_readItems_120 : decode mX12_readItems.2.1 120 = .ok (.iconst (-1), 1) := by decide +kernel
theorem dX12_readItems_121 : decode mX12_readItems.2.1 121 = .ok (.if_icmp .ne (-76), 3) := by decide +kernel
theorem dX12_readItems_124 : decode mX12_readItems.2.1 124 = .ok (.aload 4, 2) := by decide +kernel
theorem dX12_readItems_126 : decode mX12_readItems.2.1 126 = .ok (.aload_n 0, 1) := by decide +kernel
theorem dX12_readItems_127 : decode mX12_readItems.2.1 127 = .ok (.invokevirtual 146, 3) := by decide +kernel
theorem dX12_readItems_130 : decode mX12_readItems.2.1 130 = .ok (.invokestatic 233, 3) := by decide +kernel
theorem dX12_readItems_133 : decode mX12_readItems.2.1 133 = .ok (.istore 6, 2) := by decide +kernel
theorem dX12_readItems_135 : decode mX12_readItems.2.1 135 = .ok (.goto (-90), 3) := by decide +kernel
theorem dX12_readItems_138 : decode mX12_readItems.2.1 138 = .ok (.return_, 1) := by decide +kernel
abbrev mX12_readPlan : gz_M := (yX12_readPlan, cX12_readPlan, 3, none)
theorem dX12_readPlan_0 : decode mX12_readPlan.2.1 0 = .ok (.aload_n 0, 1) := by decide +kernel
theorem dX12_readPlan_1 : decode mX12_readPlan.2.1 1 = .ok (.aload_n 0, 1) := by decide +kernel
theorem dX12_readPlan_2 : decode mX12_readPlan.2.1 2 = .ok (.getfield 9, 3) := by decide +kernel
theorem dX12_readPlan_5 : decode mX12_readPlan.2.1 5 = .ok (.iconst 0, 1) := by decide +kernel
theorem dX12_readPlan_6 : decode mX12_readPlan.2.1 6 = .ok (.aload_n 0, 1) := by decide +kernel
theorem dX12_readPlan_7 : decode mX12_readPlan.2.1 7 = .ok (.getfield 117, 3) := by decide +kernel
theorem dX12_readPlan_10 : decode mX12_readPlan.2.1 10 = .ok (.invokevirtual 215, 3) := by decide +kernel
theorem dX12_readPlan_13 : decode mX12_readPlan.2.1 13 = .ok (.iconst 0, 1) := by decide +kernel
theorem dX12_readPlan_14 : decode mX12_readPlan.2.1 14 = .ok (.istore_n 1, 1) := by decide +kernel
theorem dX12_readPlan_15 : decode mX12_readPlan.2.1 15 = .ok (.iconst 1, 1) := by decide +kernel
theorem dX12_readPlan_16 : decode mX12_readPlan.2.1 16 = .ok (.istore_n 2, 1) := by decide +kernel
theorem dX12_readPlan_17 : decode mX12_readPlan.2.1 17 = .ok (.iload_n 2, 1) := by decide +kernel
theorem dX12_readPlan_18 : decode mX12_readPlan.2.1 18 = .ok (.ifCond .eq 73, 3) := by decide +kernel
theorem dX12_readPlan_21 : decode mX12_readPlan.2.1 21 = .ok (.aload_n 0, 1) := by decide +kernel
theorem dX12_readPlan_22 : decode mX12_readPlan.2.1 22 = .ok (.iconst 3, 1) := by decide +kernel
theorem dX12_readPlan_23 : decode mX12_readPlan.2.1 23 = .ok (.bipush 64, 2) := by decide +kernel
theorem dX12_readPlan_25 : decode mX12_readPlan.2.1 25 = .ok (.iload_n 1, 1) := by decide +kernel
theorem dX12_readPlan_26 : decode mX12_readPlan.2.1 26 = .ok (.iadd, 1) := by decide +kernel
theorem dX12_readPlan_27 : decode mX12_readPlan.2.1 27 = .ok (.imul, 1) := by decide +kernel
theorem dX12_readPlan_28 : decode mX12_readPlan.2.1 28 = .ok (.invokevirtual 281, 3) := by decide +kernel
theorem dX12_readPlan_31 : decode mX12_readPlan.2.1 31 = .ok (.aload_n 0, 1) := by decide +kernel
theorem dX12_readPlan_32 : decode mX12_readPlan.2.1 32 = .ok (.getfield 136, 3) := by decide +kernel
theorem dX12_readPlan_35 : decode mX12_readPlan.2.1 35 = .ok (.iconst (-1), 1) := by decide +kernel
theorem dX12_readPlan_36 : decode mX12_readPlan.2.1 36 = .ok (.if_icmp .eq 4, 3) := by decide +kernel
theorem dX12_readPlan_39 : decode mX12_readPlan.2.1 39 = .ok (.return_, 1) := by decide +kernel
theorem dX12_readPlan_40 : decode mX12_readPlan.2.1 40 = .ok (.iinc 1 1, 3) := by decide +kernel
theorem dX12_readPlan_43 : decode mX12_readPlan.2.1 43 = .ok (.aload_n 0, 1) := by decide +kernel
theorem dX12_readPlan_44 : decode mX12_readPlan.2.1 44 = .ok (.invokevirtual 146, 3) := by decide +kernel
theorem dX12_readPlan_47 : decode mX12_readPlan.2.1 47 = .ok (.bipush 59, 2) := by decide +kernel
theorem dX12_readPlan_49 : decode mX12_readPlan.2.1 49 = .ok (.if_icmp .ne 7, 3) := by decide +kernel
theorem dX12_readPlan_52 : decode mX12_readPlan.2.1 52 = .ok (.iconst 1, 1) := by decide +kernel
theorem dX12_readPlan_53 : decode mX12_readPlan.2.1 53 = .ok (.goto 4, 3) := by decide +kernel
theorem dX12_readPlan_56 : decode mX12_readPlan.2.1 56 = .ok (.iconst 0, 1) := by decide +kernel
theorem dX12_readPlan_57 : decode mX12_readPlan.2.1 57 = .ok (.istore_n 2, 1) := by decide +kernel
theorem dX12_readPlan_58 : decode mX12_readPlan.2.1 58 = .ok (.iload_n 2, 1) := by decide +kernel
theorem dX12_readPlan_59 : decode mX12_readPlan.2.1 59 = .ok (.ifCond .eq 15, 3) := by decide +kernel
theorem dX12_readPlan_62 : decode mX12_readPlan.2.1 62 = .ok (.iload_n 1, 1) := by decide +kernel
theorem dX12_readPlan_63 : decode mX12_readPlan.2.1 63 = .ok (.bipush 16, 2) := by decide +kernel
theorem dX12_readPlan_65 : decode mX12_readPlan.2.1 65 = .ok (.if_icmp .ne 9, 3) := by decide +kernel
theorem dX12_readPlan_68 : decode mX12_readPlan.2.1 68 = .ok (.aload_n 0, 1) := by decide +kernel
theorem dX12_readPlan_69 : decode mX12_readPlan.2.1 69 = .ok (.invokevirtual 142, 3) := by decide +kernel
theorem dX12_readPlan_72 : decode mX12_readPlan.2.1 72 = .ok (.pop, 1) := by decide +kernel
theorem dX12_readPlan_73 : decode mX12_readPlan.2.1 73 = .ok (.return_, 1) := by decide +kernel
theorem dX12_readPlan_74 : decode mX12_readPlan.2.1 74 = .ok (.iload_n 2, 1) := by decide +kernel
theorem dX12_readPlan_75 : decode mX12_readPlan.2.1 75 = .ok (.ifCond .eq (-58), 3) := by decide +kernel
theorem dX12_readPlan_78 : decode mX12_readPlan.2.1 78 = .ok (.aload_n 0, 1) := by decide +kernel
theorem dX12_readPlan_79 : decode mX12_readPlan.2.1 79 = .ok (.dup, 1) := by decide +kernel
theorem dX12_readPlan_80 : decode mX12_readPlan.2.1 80 = .ok (.getfield 127, 3) := by decide +kernel
theorem dX12_readPlan_83 : decode mX12_readPlan.2.1 83 = .ok (.iconst 1, 1) := by decide +kernel
theorem dX12_readPlan_84 : decode mX12_readPlan.2.1 84 = .ok (.iadd, 1) := by decide +kernel
theorem dX12_readPlan_85 : decode mX12_readPlan.2.1 85 = .ok (.putfield 127, 3) := by decide +kernel
theorem dX12_readPlan_88 : decode mX12_readPlan.2.1 88 = .ok (.goto (-71), 3) := by decide +kernel
theorem dX12_readPlan_91 : decode mX12_readPlan.2.1 91 = .ok (.aload_n 0, 1) := by decide +kernel
theorem dX12_readPlan_92 : decode mX12_readPlan.2.1 92 = .ok (.getfield 61, 3) := by decide +kernel
theorem dX12_readPlan_95 : decode mX12_readPlan.2.1 95 = .ok (.iconst 4, 1) := by decide +kernel
theorem dX12_readPlan_96 : decode mX12_readPlan.2.1 96 = .ok (.iload_n 1, 1) := by decide +kernel
theorem dX12_readPlan_97 : decode mX12_readPlan.2.1 97 = .ok (.iastore, 1) := by decide +kernel
theorem dX12_readPlan_98 : decode mX12_readPlan.2.1 98 = .ok (.aload_n 0, 1) := by decide +kernel
theorem dX12_readPlan_99 : decode mX12_readPlan.2.1 99 = .ok (.invokevirtual 146, 3) := by decide +kernel
theorem dX12_readPlan_102 : decode mX12_readPlan.2.1 102 = .ok (.iconst (-1), 1) := by decide +kernel
theorem dX12_readPlan_103 : decode mX12_readPlan.2.1 103 = .ok (.if_icmp .eq 8, 3) := by decide +kernel
theorem dX12_readPlan_106 : decode mX12_readPlan.2.1 106 = .ok (.aload_n 0, 1) := by decide +kernel
theorem dX12_readPlan_107 : decode mX12_readPlan.2.1 107 = .ok (.invokevirtual 142, 3) := by decide +kernel
theorem dX12_readPlan_110 : decode mX12_readPlan.2.1 110 = .ok (.pop, 1) := by decide +kernel
theorem dX12_readPlan_111 : decode mX12_readPlan.2.1 111 = .ok (.return_, 1) := by decide +kernel
abbrev mX12_readRow : gz_M := (yX12_readRow, cX12_readRow, 3, none)
theorem dX12_readRow_0 : decode mX12_readRow.2.1 0 = .ok (.iconst 0, 1) := by decide +kernel
theorem dX12_readRow_1 : decode mX12_readRow.2.1 1 = .ok (.istore_n 1, 1) := by decide +kernel
theorem dX12_readRow_2 : decode mX12_readRow.2.1 2 = .ok (.aload_n 0, 1) := by decide +kernel
theorem dX12_readRow_3 : decode mX12_readRow.2.1 3 = .ok (.invokevirtual 146, 3) := by decide +kernel
theorem dX12_readRow_6 : decode mX12_readRow.2.1 6 = .ok (.istore_n 2, 1) := by decide +kernel
theorem dX12_readRow_7 : decode mX12_readRow.2.1 7 = .ok (.aload_n 0, 1) := by decide +kernel
theorem dX12_readRow_8 : decode mX12_readRow.2.1 8 = .ok (.invokevirtual 176, 3) := by decide +kernel
theorem dX12_readRow_11 : decode mX12_readRow.2.1 11 = .ok (.ifCond .eq 65, 3) := by decide +kernel
theorem dX12_readRow_14 : decode mX12_readRow.2.1 14 = .ok (.aload_n 0, 1) := by decide +kernel
theorem dX12_readRow_15 : decode mX12_readRow.2.1 15 = .ok (.invokevirtual 222, 3) := by decide +kernel
theorem dX12_readRow_18 : decode mX12_readRow.2.1 18 = .ok (.istore_n 2, 1) := by decide +kernel
theorem dX12_readRow_19 : decode mX12_readRow.2.1 19 = .ok (.iload_n 1, 1) := by decide +kernel
theorem dX12_readRow_20 : decode mX12_readRow.2.1 20 = .ok (.bipush 6, 2) := by decide +kernel
theorem dX12_readRow_22 : decode mX12_readRow.2.1 22 = .ok (.if_icmp .eq 9, 3) := by decide +kernel
theorem dX12_readRow_25 : decode mX12_readRow.2.1 25 = .ok (.iload_n 2, 1) := by decide +kernel
theorem dX12_readRow_26 : decode mX12_readRow.2.1 26 = .ok (.bipush 51, 2) := by decide +kernel
theorem dX12_readRow_28 : decode mX12_readRow.2.1 28 = .ok (.if_icmp .le 9, 3) := by decide +kernel
theorem dX12_readRow_31 : decode mX12_readRow.2.1 31 = .ok (.aload_n 0, 1) := by decide +kernel
theorem dX12_readRow_32 : decode mX12_readRow.2.1 32 = .ok (.invokevirtual 142, 3) := by decide +kernel
theorem dX12_readRow_35 : decode mX12_readRow.2.1 35 = .ok (.pop, 1) := by decide +kernel
theorem dX12_readRow_36 : decode mX12_readRow.2.1 36 = .ok (.return_, 1) := by decide +kernel
theorem dX12_readRow_37 : decode mX12_readRow.2.1 37 = .ok (.aload_n 0, 1) := by decide +kernel
theorem dX12_readRow_38 : decode mX12_readRow.2.1 38 = .ok (.getfield 52, 3) := by decide +kernel
theorem dX12_readRow_41 : decode mX12_readRow.2.1 41 = .ok (.bipush 6, 2) := by decide +kernel
theorem dX12_readRow_43 : decode mX12_readRow.2.1 43 = .ok (.aload_n 0, 1) := by decide +kernel
theorem dX12_readRow_44 : decode mX12_readRow.2.1 44 = .ok (.getfield 250, 3) := by decide +kernel
theorem dX12_readRow_47 : decode mX12_readRow.2.1 47 = .ok (.imul, 1) := by decide +kernel
theorem dX12_readRow_48 : decode mX12_readRow.2.1 48 = .ok (.iload_n 1, 1) := by decide +kernel
theorem dX12_readRow_49 : decode mX12_readRow.2.1 49 = .ok (.iadd, 1) := by decide +kernel
theorem dX12_readRow_50 : decode mX12_readRow.2.1 50 = .ok (.iload_n 2, 1) := by decide +kernel
theorem dX12_readRow_51 : decode mX12_readRow.2.1 51 = .ok (.bipush 48, 2) := by decide +kernel
theorem dX12_readRow_53 : decode mX12_readRow.2.1 53 = .ok (.isub, 1) := by decide +kernel
theorem dX12_readRow_54 : decode mX12_readRow.2.1 54 = .ok (.iastore, 1) := by decide +kernel
theorem dX12_readRow_55 : decode mX12_readRow.2.1 55 = .ok (.iinc 1 1, 3) := by decide +kernel
theorem dX12_readRow_58 : decode mX12_readRow.2.1 58 = .ok (.aload_n 0, 1) := by decide +kernel
theorem dX12_readRow_59 : decode mX12_readRow.2.1 59 = .ok (.dup, 1) := by decide +kernel
theorem dX12_readRow_60 : decode mX12_readRow.2.1 60 = .ok (.getfield 127, 3) := by decide +kernel
theorem dX12_readRow_63 : decode mX12_readRow.2.1 63 = .ok (.iconst 1, 1) := by decide +kernel
theorem dX12_readRow_64 : decode mX12_readRow.2.1 64 = .ok (.iadd, 1) := by decide +kernel
theorem dX12_readRow_65 : decode mX12_readRow.2.1 65 = .ok (.putfield 127, 3) := by decide +kernel
theorem dX12_readRow_68 : decode mX12_readRow.2.1 68 = .ok (.aload_n 0, 1) := by decide +kernel
theorem dX12_readRow_69 : decode mX12_readRow.2.1 69 = .ok (.invokevirtual 146, 3) := by decide +kernel
theorem dX12_readRow_72 : decode mX12_readRow.2.1 72 = .ok (.istore_n 2, 1) := by decide +kernel
theorem dX12_readRow_73 : decode mX12_readRow.2.1 73 = .ok (.goto (-66), 3) := by decide +kernel
theorem dX12_readRow_76 : decode mX12_readRow.2.1 76 = .ok (.aload_n 0, 1) := by decide +kernel
theorem dX12_readRow_77 : decode mX12_readRow.2.1 77 = .ok (.getfield 55, 3) := by decide +kernel
theorem dX12_readRow_80 : decode mX12_readRow.2.1 80 = .ok (.aload_n 0, 1) := by decide +kernel
theorem dX12_readRow_81 : decode mX12_readRow.2.1 81 = .ok (.getfield 250, 3) := by decide +kernel
theorem dX12_readRow_84 : decode mX12_readRow.2.1 84 = .ok (.iload_n 1, 1) := by decide +kernel
theorem dX12_readRow_85 : decode mX12_readRow.2.1 85 = .ok (.iastore, 1) := by decide +kernel
theorem dX12_readRow_86 : decode mX12_readRow.2.1 86 = .ok (.aload_n 0, 1) := by decide +kernel
theorem dX12_readRow_87 : decode mX12_readRow.2.1 87 = .ok (.dup, 1) := by decide +kernel
theorem dX12_readRow_88 : decode mX12_readRow.2.1 88 = .ok (.getfield 250, 3) := by decide +kernel
theorem dX12_readRow_91 : decode mX12_readRow.2.1 91 = .ok (.iconst 1, 1) := by decide +kernel
theorem dX12_readRow_92 : decode mX12_readRow.2.1 92 = .ok (.iadd, 1) := by decide +kernel
theorem dX12_readRow_93 : decode mX12_readRow.2.1 93 = .ok (.putfield 250, 3) := by decide +kernel
theorem dX12_readRow_96 : decode mX12_readRow.2.1 96 = .ok (.return_, 1) := by decide +kernel
abbrev mX12_readShore : gz_M := (yX12_readShore, cX12_readShore, 2, none)
theorem dX12_readShore_0 : decode mX12_readShore.2.1 0 = .ok (.aload_n 0, 1) := by decide +kernel
theorem dX12_readShore_1 : decode mX12_readShore.2.1 1 = .ok (.aload_n 0, 1) := by decide +kernel
theorem dX12_readShore_2 : decode mX12_readShore.2.1 2 = .ok (.getfield 9, 3) := by decide +kernel
theorem dX12_readShore_5 : decode mX12_readShore.2.1 5 = .ok (.iconst 0, 1) := by decide +kernel
theorem dX12_readShore_6 : decode mX12_readShore.2.1 6 = .ok (.aload_n 0, 1) := by decide +kernel
theorem dX12_readShore_7 : decode mX12_readShore.2.1 7 = .ok (.getfield 117, 3) := by decide +kernel
theorem dX12_readShore_10 : decode mX12_readShore.2.1 10 = .ok (.invokevirtual 215, 3) := by decide +kernel
theorem dX12_readShore_13 : decode mX12_readShore.2.1 13 = .ok (.aload_n 0, 1) := by decide +kernel
theorem dX12_readShore_14 : decode mX12_readShore.2.1 14 = .ok (.iconst 0, 1) := by decide +kernel
theorem dX12_readShore_15 : decode mX12_readShore.2.1 15 = .ok (.putfield 256, 3) := by decide +kernel
theorem dX12_readShore_18 : decode mX12_readShore.2.1 18 = .ok (.aload_n 0, 1) := by decide +kernel
theorem dX12_readShore_19 : decode mX12_readShore.2.1 19 = .ok (.iconst 0, 1) := by decide +kernel
theorem dX12_readShore_20 : decode mX12_readShore.2.1 20 = .ok (.putfield 250, 3) := by decide +kernel
theorem dX12_readShore_23 : decode mX12_readShore.2.1 23 = .ok (.aload_n 0, 1) := by decide +kernel
theorem dX12_readShore_24 : decode mX12_readShore.2.1 24 = .ok (.iconst 0, 1) := by decide +kernel
theorem dX12_readShore_25 : decode mX12_readShore.2.1 25 = .ok (.putfield 253, 3) := by decide +kernel
theorem dX12_readShore_28 : decode mX12_readShore.2.1 28 = .ok (.iconst 0, 1) := by decide +kernel
theorem dX12_readShore_29 : decode mX12_readShore.2.1 29 = .ok (.istore_n 1, 1) := by decide +kernel
theorem dX12_readShore_30 : decode mX12_readShore.2.1 30 = .ok (.iload_n 1, 1) := by decide +kernel
theorem dX12_readShore_31 : decode mX12_readShore.2.1 31 = .ok (.iconst 4, 1) := by decide +kernel
theorem dX12_readShore_32 : decode mX12_readShore.2.1 32 = .ok (.if_icmp .ge 21, 3) := by decide +kernel
theorem dX12_readShore_35 : decode mX12_readShore.2.1 35 = .ok (.aload_n 0, 1) := by decide +kernel
theorem dX12_readShore_36 : decode mX12_readShore.2.1 36 = .ok (.getfield 40, 3) := by decide +kernel
theorem dX12_readShore_39 : decode mX12_readShore.2.1 39 = .ok (.iload_n 1, 1) := by decide +kernel
theorem dX12_readShore_40 : decode mX12_readShore.2.1 40 = .ok (.bipush 115, 2) := by decide +kernel
theorem dX12_readShore_42 : decode mX12_readShore.2.1 42 = .ok (.iload_n 1, 1) := by decide +kernel
theorem dX12_readShore_43 : decode mX12_readShore.2.1 43 = .ok (.invokestatic 229, 3) := by decide +kernel
theorem dX12_readShore_46 : decode mX12_readShore.2.1 46 = .ok (.iastore, 1) := by decide +kernel
theorem dX12_readShore_47 : decode mX12_readShore.2.1 47 = .ok (.iinc 1 1, 3) := by decide +kernel
theorem dX12_readShore_50 : decode mX12_readShore.2.1 50 = .ok (.goto (-20), 3) := by decide +kernel
theorem dX12_readShore_53 : decode mX12_readShore.2.1 53 = .ok (.iconst 0, 1) := by decide +kernel
theorem dX12_readShore_54 : decode mX12_readShore.2.1 54 = .ok (.istore_n 1, 1) := by decide +kernel
theorem dX12_readShore_55 : decode mX12_readShore.2.1 55 = .ok (.iload_n 1, 1) := by decide +kernel
theorem dX12_readShore_56 : decode mX12_readShore.2.1 56 = .ok (.bipush 30, 2) := by decide +kernel
theorem dX12_readShore_58 : decode mX12_readShore.2.1 58 = .ok (.if_icmp .ge 16, 3) := by decide +kernel
theorem dX12_readShore_61 : decode mX12_readShore.2.1 61 = .ok (.aload_n 0, 1) := by decide +kernel
theorem dX12_readShore_62 : decode mX12_readShore.2.1 62 = .ok (.getfield 52, 3) := by decide +kernel
theorem dX12_readShore_65 : decode mX12_readShore.2.1 65 = .ok (.iload_n 1, 1) := by decide +kernel
theorem dX12_readShore_66 : decode mX12_readShore.2.1 66 = .ok (.iconst 0, 1) := by decide +kernel
theorem dX12_readShore_67 : decode mX12_readShore.2.1 67 = .ok (.iastore, 1) := by decide +kernel
theorem dX12_readShore_68 : decode mX12_readShore.2.1 68 = .ok (.iinc 1 1, 3) := by decide +kernel
theorem dX12_readShore_71 : decode mX12_readShore.2.1 71 = .ok (.goto (-16), 3) := by decide +kernel
theorem dX12_readShore_74 : decode mX12_readShore.2.1 74 = .ok (.iconst 1, 1) := by decide +kernel
theorem dX12_readShore_75 : decode mX12_readShore.2.1 75 = .ok (.istore_n 1, 1) := by decide +kernel
theorem dX12_readShore_76 : decode mX12_readShore.2.1 76 = .ok (.iload_n 1, 1) := by decide +kernel
theorem dX12_readShore_77 : decode mX12_readShore.2.1 77 = .ok (.ifCond .eq 55, 3) := by decide +kernel
theorem dX12_readShore_80 : decode mX12_readShore.2.1 80 = .ok (.aload_n 0, 1) := by decide +kernel
theorem dX12_readShore_81 : decode mX12_readShore.2.1 81 = .ok (.getfield 136, 3) := by decide +kernel
theorem dX12_readShore_84 : decode mX12_readShore.2.1 84 = .ok (.iconst (-1), 1) := by decide +kernel
theorem dX12_readShore_85 : decode mX12_readShore.2.1 85 = .ok (.if_icmp .ne 47, 3) := by decide +kernel
theorem dX12_readShore_88 : decode mX12_readShore.2.1 88 = .ok (.aload_n 0, 1) := by decide +kernel
theorem dX12_readShore_89 : decode mX12_readShore.2.1 89 = .ok (.invokevirtual 270, 3) := by decide +kernel
theorem dX12_readShore_92 : decode mX12_readShore.2.1 92 = .ok (.aload_n 0, 1) := by decide +kernel
theorem dX12_readShore_93 : decode mX12_readShore.2.1 93 = .ok (.getfield 136, 3) := by decide +kernel
theorem dX12_readShore_96 : decode mX12_readShore.2.1 96 = .ok (.iconst (-1), 1) := by decide +kernel
theorem dX12_readShore_97 : decode mX12_readShore.2.1 97 = .ok (.if_icmp .ne 16, 3) := by decide +kernel
theorem dX12_readShore_100 : decode mX12_readShore.2.1 100 = .ok (.aload_n 0, 1) := by decide +kernel
theorem dX12_readShore_101 : decode mX12_readShore.2.1 101 = .ok (.invokevirtual 146, 3) := by decide +kernel
theorem dX12_readShore_104 : decode mX12_readShore.2.1 104 = .ok (.bipush 59, 2) := by decide +kernel
theorem dX12_readShore_106 : decode mX12_readShore.2.1 106 = .ok (.if_icmp .ne 7, 3) := by decide +kernel
theorem dX12_readShore_109 : decode mX12_readShore.2.1 109 = .ok (.iconst 1, 1) := by decide +kernel
theorem dX12_readShore_110 : decode mX12_readShore.2.1 110 = .ok (.goto 4, 3) := by decide +kernel
theorem dX12_readShore_113 : decode mX12_readShore.2.1 113 = .ok (.iconst 0, 1) := by decide +kernel
theorem dX12_readShore_114 : decode mX12_readShore.2.1 114 = .ok (.istore_n 1, 1) := by decide +kernel
theorem dX12_readShore_115 : decode mX12_readShore.2.1 115 = .ok (.iload_n 1, 1) := by decide +kernel
theorem dX12_readShore_116 : decode mX12_readShore.2.1 116 = .ok (.ifCond .eq (-40), 3) := by decide +kernel
theorem dX12_readShore_119 : decode mX12_readShore.2.1 119 = .ok (.aload_n 0, 1) := by decide +kernel
theorem dX12_readShore_120 : decode mX12_readShore.2.1 120 = .ok (.dup, 1) := by decide +kernel
theorem dX12_readShore_121 : decode mX12_readShore.2.1 121 = .ok (.getfield 127, 3) := by decide +kernel
theorem dX12_readShore_124 : decode mX12_readShore.2.1 124 = .ok (.iconst 1, 1) := by decide +kernel
theorem dX12_readShore_125 : decode mX12_readShore.2.1 125 = .ok (.iadd, 1) := by decide +kernel
theorem dX12_readShore_126 : decode mX12_readShore.2.1 126 = .ok (.putfield 127, 3) := by decide +kernel
theorem dX12_readShore_129 : decode mX12_readShore.2.1 129 = .ok (.goto (-53), 3) := by decide +kernel
theorem dX12_readShore_132 : decode mX12_readShore.2.1 132 = .ok (.aload_n 0, 1) := by decide +kernel
theorem dX12_readShore_133 : decode mX12_readShore.2.1 133 = .ok (.getfield 136, 3) := by decide +kernel
theorem dX12_readShore_136 : decode mX12_readShore.2.1 136 = .ok (.iconst (-1), 1) := by decide +kernel
theorem dX12_readShore_137 : decode mX12_readShore.2.1 137 = .ok (.if_icmp .ne 23, 3) := by decide +kernel
theorem dX12_readShore_140 : decode mX12_readShore.2.1 140 = .ok (.aload_n 0, 1) := by decide +kernel
theorem dX12_readShore_141 : decode mX12_readShore.2.1 141 = .ok (.invokevirtual 146, 3) := by decide +kernel
theorem dX12_readShore_144 : decode mX12_readShore.2.1 144 = .ok (.iconst (-1), 1) := by decide +kernel
theorem dX12_readShore_145 : decode mX12_readShore.2.1 145 = .ok (.if_icmp .ne 10, 3) := by decide +kernel
theorem dX12_readShore_148 : decode mX12_readShore.2.1 148 = .ok (.aload_n 0, 1) := by decide +kernel
theorem dX12_readShore_149 : decode mX12_readShore.2.1 149 = .ok (.invokevirtual 273, 3) := by decide +kernel
theorem dX12_readShore_152 : decode mX12_readShore.2.1 152 = .ok (.ifCond .ne 8, 3) := by decide +kernel
theorem dX12_readShore_155 : decode mX12_readShore.2.1 155 = .ok (.aload_n 0, 1) := by decide +kernel
theorem dX12_readShore_156 : decode mX12_readShore.2.1 156 = .ok (.invokevirtual 142, 3) := by decide +kernel
theorem dX12_readShore_159 : decode mX12_readShore.2.1 159 = .ok (.pop, 1) := by decide +kernel
theorem dX12_readShore_160 : decode mX12_readShore.2.1 160 = .ok (.return_, 1) := by decide +kernel
abbrev mX12_readStep : gz_M := (yX12_readStep, cX12_readStep, 4, none)
theorem dX12_readStep_0 : decode mX12_readStep.2.1 0 = .ok (.ldc_w 276, 3) := by decide +kernel
theorem dX12_readStep_3 : decode mX12_readStep.2.1 3 = .ok (.aload_n 0, 1) := by decide +kernel
theorem dX12_readStep_4 : decode mX12_readStep.2.1 4 = .ok (.invokevirtual 146, 3) := by decide +kernel
theorem dX12_readStep_7 : decode mX12_readStep.2.1 7 = .ok (.invokestatic 233, 3) := by decide +kernel
theorem dX12_readStep_10 : decode mX12_readStep.2.1 10 = .ok (.istore_n 2, 1) := by decide +kernel
theorem dX12_readStep_11 : decode mX12_readStep.2.1 11 = .ok (.iload_n 2, 1) := by decide +kernel
theorem dX12_readStep_12 : decode mX12_readStep.2.1 12 = .ok (.iconst (-1), 1) := by decide +kernel
theorem dX12_readStep_13 : decode mX12_readStep.2.1 13 = .ok (.if_icmp .ne 9, 3) := by decide +kernel
theorem dX12_readStep_16 : decode mX12_readStep.2.1 16 = .ok (.aload_n 0, 1) := by decide +kernel
theorem dX12_readStep_17 : decode mX12_readStep.2.1 17 = .ok (.invokevirtual 142, 3) := by decide +kernel
theorem dX12_readStep_20 : decode mX12_readStep.2.1 20 = .ok (.pop, 1) := by decide +kernel
theorem dX12_readStep_21 : decode mX12_readStep.2.1 21 = .ok (.return_, 1) := by decide +kernel
theorem dX12_readStep_22 : decode mX12_readStep.2.1 22 = .ok (.aload_n 0, 1) := by decide +kernel
theorem dX12_readStep_23 : decode mX12_readStep.2.1 23 = .ok (.dup, 1) := by decide +kernel
theorem dX12_readStep_24 : decode mX12_readStep.2.1 24 = .ok (.getfield 127, 3) := by decide +kernel
theorem dX12_readStep_27 : decode mX12_readStep.2.1 27 = .ok (.iconst 1, 1) := by decide +kernel
theorem dX12_readStep_28 : decode mX12_readStep.2.1 28 = .ok (.iadd, 1) := by decide +kernel
theorem dX12_readStep_29 : decode mX12_readStep.2.1 29 = .ok (.putfield 127, 3) := by decide +kernel
theorem dX12_readStep_32 : decode mX12_readStep.2.1 32 = .ok (.aload_n 0, 1) := by decide +kernel
theorem dX12_readStep_33 : decode mX12_readStep.2.1 33 = .ok (.getfield 58, 3) := by decide +kernel
theorem dX12_readStep_36 : decode mX12_readStep.2.1 36 = .ok (.iload_n 1, 1) := by decide +kernel
theorem dX12_readStep_37 : decode mX12_readStep.2.1 37 = .ok (.iload_n 2, 1) := by decide +kernel
theorem dX12_readStep_38 : decode mX12_readStep.2.1 38 = .ok (.iastore, 1) := by decide +kernel
theorem dX12_readStep_39 : decode mX12_readStep.2.1 39 = .ok (.aload_n 0, 1) := by decide +kernel
theorem dX12_readStep_40 : decode mX12_readStep.2.1 40 = .ok (.getfield 58, 3) := by decide +kernel
theorem dX12_readStep_43 : decode mX12_readStep.2.1 43 = .ok (.iload_n 1, 1) := by decide +kernel
theorem dX12_readStep_44 : decode mX12_readStep.2.1 44 = .ok (.iconst 1, 1) := by decide +kernel
theorem dX12_readStep_45 : decode mX12_readStep.2.1 45 = .ok (.iadd, 1) := by decide +kernel
theorem dX12_readStep_46 : decode mX12_readStep.2.1 46 = .ok (.iconst (-1), 1) := by decide +kernel
theorem dX12_readStep_47 : decode mX12_readStep.2.1 47 = .ok (.iastore, 1) := by decide +kernel
theorem dX12_readStep_48 : decode mX12_readStep.2.1 48 = .ok (.aload_n 0, 1) := by decide +kernel
theorem dX12_readStep_49 : decode mX12_readStep.2.1 49 = .ok (.getfield 58, 3) := by decide +kernel
theorem dX12_readStep_52 : decode mX12_readStep.2.1 52 = .ok (.iload_n 1, 1) := by decide +kernel
theorem dX12_readStep_53 : decode mX12_readStep.2.1 53 = .ok (.iconst 2, 1) := by decide +kernel
theorem dX12_readStep_54 : decode mX12_readStep.2.1 54 = .ok (.iadd, 1) := by decide +kernel
theorem dX12_readStep_55 : decode mX12_readStep.2.1 55 = .ok (.iconst (-1), 1) := by decide +kernel
theorem dX12_readStep_56 : decode mX12_readStep.2.1 56 = .ok (.iastore, 1) := by decide +kernel
theorem dX12_readStep_57 : decode mX12_readStep.2.1 57 = .ok (.iload_n 2, 1) := by decide +kernel
theorem dX12_readStep_58 : decode mX12_readStep.2.1 58 = .ok (.ifCond .ne 4, 3) := by decide +kernel
theorem dX12_readStep_61 : decode mX12_readStep.2.1 61 = .ok (.return_, 1) := by decide +kernel
theorem dX12_readStep_62 : decode mX12_readStep.2.1 62 = .ok (.aload_n 0, 1) := by decide +kernel
theorem dX12_readStep_63 : decode mX12_readStep.2.1 63 = .ok (.getfield 58, 3) := by decide +kernel
theorem dX12_readStep_66 : decode mX12_readStep.2.1 66 = .ok (.iload_n 1, 1) := by decide +kernel
theorem dX12_readStep_67 : decode mX12_readStep.2.1 67 = .ok (.iconst 1, 1) := by decide +kernel
theorem dX12_readStep_68 : decode mX12_readStep.2.1 68 = .ok (.iadd, 1) := by decide +kernel
theorem dX12_readStep_69 : decode mX12_readStep.2.1 69 = .ok (.aload_n 0, 1) := by decide +kernel
theorem dX12_readStep_70 : decode mX12_readStep.2.1 70 = .ok (.invokevirtual 278, 3) := by decide +kernel
theorem dX12_readStep_73 : decode mX12_readStep.2.1 73 = .ok (.iastore, 1) := by decide +kernel
theorem dX12_readStep_74 : decode mX12_readStep.2.1 74 = .ok (.aload_n 0, 1) := by decide +kernel
theorem dX12_readStep_75 : decode mX12_readStep.2.1 75 = .ok (.getfield 136, 3) := by decide +kernel
theorem dX12_readStep_78 : decode mX12_readStep.2.1 78 = .ok (.iconst (-1), 1) := by decide +kernel
theorem dX12_readStep_79 : decode mX12_readStep.2.1 79 = .ok (.if_icmp .ne 8, 3) := by decide +kernel
theorem dX12_readStep_82 : decode mX12_readStep.2.1 82 = .ok (.iload_n 2, 1) := by decide +kernel
theorem dX12_readStep_83 : decode mX12_readStep.2.1 83 = .ok (.iconst 2, 1) := by decide +kernel
theorem dX12_readStep_84 : decode mX12_readStep.2.1 84 = .ok (.if_icmp .ne 4, 3) := by decide +kernel
theorem dX12_readStep_87 : decode mX12_readStep.2.1 87 = .ok (.return_, 1) := by decide +kernel
theorem dX12_readStep_88 : decode mX12_readStep.2.1 88 = .ok (.aload_n 0, 1) := by decide +kernel
theorem dX12_readStep_89 : decode mX12_readStep.2.1 89 = .ok (.invokevirtual 278, 3) := by decide +kernel
theorem dX12_readStep_92 : decode mX12_readStep.2.1 92 = .ok (.istore_n 3, 1) := by decide +kernel
theorem dX12_readStep_93 : decode mX12_readStep.2.1 93 = .ok (.iload_n 2, 1) := by decide +kernel
theorem dX12_readStep_94 : decode mX12_readStep.2.1 94 = .ok (.iconst 1, 1) := by decide +kernel
theorem dX12_readStep_95 : decode mX12_readStep.2.1 95 = .ok (.if_icmp .ne 15, 3) := by decide +kernel
theorem dX12_readStep_98 : decode mX12_readStep.2.1 98 = .ok (.aload_n 0, 1) := by decide +kernel
theorem dX12_readStep_99 : decode mX12_readStep.2.1 99 = .ok (.getfield 58, 3) := by decide +kernel
theorem dX12_readStep_102 : decode mX12_readStep.2.1 102 = .ok (.iload_n 1, 1) := by decide +kernel
theorem dX12_readStep_103 : decode mX12_readStep.2.1 103 = .ok (.iconst 2, 1) := by decide +kernel
theorem dX12_readStep_104 : decode mX12_readStep.2.1 104 = .ok (.iadd, 1) := by decide +kernel
theorem dX12_readStep_105 : decode mX12_readStep.2.1 105 = .ok (.iload_n 3, 1) := by decide +kernel
theorem dX12_readStep_106 : decode mX12_readStep.2.1 106 = .ok (.iastore, 1) := by decide +kernel
theorem dX12_readStep_107 : decode mX12_readStep.2.1 107 = .ok (.goto 24, 3) := by decide +kernel
theorem dX12_readStep_110 : decode mX12_readStep.2.1 110 = .ok (.aload_n 0, 1) := by decide +kernel
theorem dX12_readStep_111 : decode mX12_readStep.2.1 111 = .ok (.getfield 58, 3) := by decide +kernel
theorem dX12_readStep_114 : decode mX12_readStep.2.1 114 = .ok (.iload_n 1, 1) := by decide +kernel
theorem dX12_readStep_115 : decode mX12_readStep.2.1 115 = .ok (.iconst 1, 1) := by decide +kernel
theorem dX12_readStep_116 : decode mX12_readStep.2.1 116 = .ok (.iadd, 1) := by decide +kernel
theorem dX12_readStep_117 : decode mX12_readStep.2.1 117 = .ok (.bipush 10, 2) := by decide +kernel
theorem dX12_readStep_119 : decode mX12_readStep.2.1 119 = .ok (.aload_n 0, 1) := by decide +kernel
theorem dX12_readStep_120 : decode mX12_readStep.2.1 120 = .ok (.getfield 58, 3) := by decide +kernel
theorem dX12_readStep_123 : decode mX12_readStep.2.1 123 = .ok (.iload_n 1, 1) := by decide +kernel
theorem dX12_readStep_124 : decode mX12_readStep.2.1 124 = .ok (.iconst 1, 1) := by decide +kernel
theorem dX12_readStep_125 : decode mX12_readStep.2.1 125 = .ok (.iadd, 1) := by decide +kernel
theorem dX12_readStep_126 : decode mX12_readStep.2.1 126 = .ok (.iaload, 1) := by decide +kernel
theorem dX12_readStep_127 : decode mX12_readStep.2.1 127 = .ok (.imul, 1) := by decide +kernel
theorem dX12_readStep_128 : decode mX12_readStep.2.1 128 = .ok (.iload_n 3, 1) := by decide +kernel
theorem dX12_readStep_129 : decode mX12_readStep.2.1 129 = .ok (.iadd, 1) := by decide +kernel
theorem dX12_readStep_130 : decode mX12_readStep.2.1 130 = .ok (.iastore, 1) := by decide +kernel
theorem dX12_readStep_131 : decode mX12_readStep.2.1 131 = .ok (.return_, 1) := by decide +kernel
abbrev mX12_remember : gz_M := (yX12_remember, cX12_remember, 2, none)
theorem dX12_remember_0 : decode mX12_remember.2.1 0 = .ok (.aload_n 0, 1) := by decide +kernel
theorem dX12_remember_1 : decode mX12_remember.2.1 1 = .ok (.getfield 313, 3) := by decide +kernel
theorem dX12_remember_4 : decode mX12_remember.2.1 4 = .ok (.bipush 40, 2) := by decide +kernel
theorem dX12_remember_6 : decode mX12_remember.2.1 6 = .ok (.if_icmp .ne 44, 3) := by decide +kernel
theorem dX12_remember_9 : decode mX12_remember.2.1 9 = .ok (.iconst 0, 1) := by decide +kernel
theorem dX12_remember_10 : decode mX12_remember.2.1 10 = .ok (.istore_n 1, 1) := by decide +kernel
theorem dX12_remember_11 : decode mX12_remember.2.1 11 = .ok (.iload_n 1, 1) := by decide +kernel
theorem dX12_remember_12 : decode mX12_remember.2.1 12 = .ok (.sipush 9009, 3) := by decide +kernel
theorem dX12_remember_15 : decode mX12_remember.2.1 15 = .ok (.if_icmp .ge 25, 3) := by decide +kernel
theorem dX12_remember_18 : decode mX12_remember.2.1 18 = .ok (.aload_n 0, 1) := by decide +kernel
theorem dX12_remember_19 : decode mX12_remember.2.1 19 = .ok (.getfield 83, 3) := by decide +kernel
theorem dX12_remember_22 : decode mX12_remember.2.1 22 = .ok (.iload_n 1, 1) := by decide +kernel
theorem dX12_remember_23 : decode mX12_remember.2.1 23 = .ok (.aload_n 0, 1) := by decide +kernel
theorem dX12_remember_24 : decode mX12_remember.2.1 24 = .ok (.getfield 83, 3) := by decide +kernel
theorem dX12_remember_27 : decode mX12_remember.2.1 27 = .ok (.iload_n 1, 1) := by decide +kernel
theorem dX12_remember_28 : decode mX12_remember.2.1 28 = .ok (.sipush 231, 3) := by decide +kernel
theorem dX12_remember_31 : decode mX12_remember.2.1 31 = .ok (.iadd, 1) := by decide +kernel
theorem dX12_remember_32 : decode mX12_remember.2.1 32 = .ok (.iaload, 1) := by decide +kernel
theorem dX12_remember_33 : decode mX12_remember.2.1 33 = .ok (.iastore, 1) := by decide +kernel
theorem dX12_remember_34 : decode mX12_remember.2.1 34 = .ok (.iinc 1 1, 3) := by decide +kernel
theorem dX12_remember_37 : decode mX12_remember.2.1 37 = .ok (.goto (-26), 3) := by decide +kernel
theorem dX12_remember_40 : decode mX12_remember.2.1 40 = .ok (.aload_n 0, 1) := by decide +kernel
theorem dX12_remember_41 : decode mX12_remember.2.1 41 = .ok (.dup, 1) := by decide +kernel
theorem dX12_remember_42 : decode mX12_remember.2.1 42 = .ok (.getfield 313, 3) := by decide +kernel
theorem dX12_remember_45 : decode mX12_remember.2.1 45 = .ok (.iconst 1, 1) := by decide +kernel
theorem dX12_remember_46 : decode mX12_remember.2.1 46 = .ok (.isub, 1) := by decide +kernel
theorem dX12_remember_47 : decode mX12_remember.2.1 47 = .ok (.putfield 313, 3) := by decide +kernel
theorem dX12_remember_50 : decode mX12_remember.2.1 50 = .ok (.iconst 0, 1) := by decide +kernel
theorem dX12_remember_51 : decode mX12_remember.2.1 51 = .ok (.istore_n 1, 1) := by decide +kernel
theorem dX12_remember_52 : decode mX12_remember.2.1 52 = .ok (.iload_n 1, 1) := by decide +kernel
theorem dX12_remember_53 : decode mX12_remember.2.1 53 = .ok (.sipush 231, 3) := by decide +kernel
theorem dX12_remember_56 : decode mX12_remember.2.1 56 = .ok (.if_icmp .ge 30, 3) := by decide +kernel
theorem dX12_remember_59 : decode mX12_remember.2.1 59 = .ok (.aload_n 0, 1) := by decide +kernel
theorem dX12_remember_60 : decode mX12_remember.2.1 60 = .ok (.getfield 83, 3) := by decide +kernel
theorem dX12_remember_63 : decode mX12_remember.2.1 63 = .ok (.sipush 231, 3) := by decide +kernel
theorem dX12_remember_66 : decode mX12_remember.2.1 66 = .ok (.aload_n 0, 1) := by decide +kernel
theorem dX12_remember_67 : decode mX12_remember.2.1 67 = .ok (.getfield 313, 3) := by decide +kernel
theorem dX12_remember_70 : decode mX12_remember.2.1 70 = .ok (.imul, 1) := by decide +kernel
theorem dX12_remember_71 : decode mX12_remember.2.1 71 = .ok (.iload_n 1, 1) := by decide +kernel
theorem dX12_remember_72 : decode mX12_remember.2.1 72 = .ok (.iadd, 1) := by decide +kernel
theorem dX12_remember_73 : decode mX12_remember.2.1 73 = .ok (.aload_n 0, 1) := by decide +kernel
theorem dX12_remember_74 : decode mX12_remember.2.1 74 = .ok (.getfield 64, 3) := by decide +kernel
theorem dX12_remember_77 : decode mX12_remember.2.1 77 = .ok (.iload_n 1, 1) := by decide +kernel
theorem dX12_remember_78 : decode mX12_remember.2.1 78 = .ok (.iaload, 1) := by decide +kernel
theorem dX12_remember_79 : decode mX12_remember.2.1 79 = .ok (.iastore, 1) := by decide +kernel
theorem dX12_remember_80 : decode mX12_remember.2.1 80 = .ok (.iinc 1 1, 3) := by decide +kernel
theorem dX12_remember_83 : decode mX12_remember.2.1 83 = .ok (.goto (-31), 3) := by decide +kernel
theorem dX12_remember_86 : decode mX12_remember.2.1 86 = .ok (.aload_n 0, 1) := by decide +kernel
theorem dX12_remember_87 : decode mX12_remember.2.1 87 = .ok (.dup, 1) := by decide +kernel
theorem dX12_remember_88 : decode mX12_remember.2.1 88 = .ok (.getfield 313, 3) := by decide +kernel
theorem dX12_remember_91 : decode mX12_remember.2.1 91 = .ok (.iconst 1, 1) := by decide +kernel
theorem dX12_remember_92 : decode mX12_remember.2.1 92 = .ok (.iadd, 1) := by decide +kernel
theorem dX12_remember_93 : decode mX12_remember.2.1 93 = .ok (.putfield 313, 3) := by decide +kernel
theorem dX12_remember_96 : decode mX12_remember.2.1 96 = .ok (.return_, 1) := by decide +kernel
abbrev mX12_rests : gz_M := (yX12_rests, cX12_rests, 9, some .int)
theorem dX12_rests_0 : decode mX12_rests.2.1 0 = .ok (.aload_n 0, 1) := by decide +kernel
theorem dX12_rests_1 : decode mX12_rests.2.1 1 = .ok (.iconst 0, 1) := by decide +kernel
theorem dX12_rests_2 : decode mX12_rests.2.1 2 = .ok (.putfield 104, 3) := by decide +kernel
theorem dX12_rests_5 : decode mX12_rests.2.1 5 = .ok (.aload_n 0, 1) := by decide +kernel
theorem dX12_rests_6 : decode mX12_rests.2.1 6 = .ok (.iload_n 1, 1) := by decide +kernel
theorem dX12_rests_7 : decode mX12_rests.2.1 7 = .ok (.iload_n 2, 1) := by decide +kernel
theorem dX12_rests_8 : decode mX12_rests.2.1 8 = .ok (.invokevirtual 482, 3) := by decide +kernel
theorem dX12_rests_11 : decode mX12_rests.2.1 11 = .ok (.ifCond .eq 8, 3) := by decide +kernel
theorem dX12_rests_14 : decode mX12_rests.2.1 14 = .ok (.iload_n 3, 1) := by decide +kernel
theorem dX12_rests_15 : decode mX12_rests.2.1 15 = .ok (.iconst (-1), 1) := by decide +kernel
theorem dX12_rests_16 : decode mX12_rests.2.1 16 = .ok (.if_icmp .ge 5, 3) := by decide +kernel
theorem dX12_rests_19 : decode mX12_rests.2.1 19 = .ok (.iconst (-1), 1) := by decide +kernel
theorem dX12_rests_20 : decode mX12_rests.2.1 20 = .ok (.ireturn, 1) := by decide +kernel
theorem dX12_rests_21 : decode mX12_rests.2.1 21 = .ok (.iconst 0, 1) := by decide +kernel
theorem dX12_rests_22 : decode mX12_rests.2.1 22 = .ok (.istore 4, 2) := by decide +kernel
theorem dX12_rests_24 : decode mX12_rests.2.1 24 = .ok (.iconst 0, 1) := by decide +kernel
theorem dX12_rests_25 : decode mX12_rests.2.1 25 = .ok (.istore 5, 2) := by decide +kernel
theorem dX12_rests_27 : decode mX12_rests.2.1 27 = .ok (.iload 5, 2) := by decide +kernel
theorem dX12_rests_29 : decode mX12_rests.2.1 29 = .ok (.iconst 4, 1) := by decide +kernel
theorem dX12_rests_30 : decode mX12_rests.2.1 30 = .ok (.if_icmp .ge 130, 3) := by decide +kernel
theorem dX12_rests_33 : decode mX12_rests.2.1 33 = .ok (.iconst 0, 1) := by decide +kernel
theorem dX12_rests_34 : decode mX12_rests.2.1 34 = .ok (.istore 6, 2) := by decide +kernel
theorem dX12_rests_36 : decode mX12_rests.2.1 36 = .ok (.iload 6, 2) := by decide +kernel
theorem dX12_rests_38 : decode mX12_rests.2.1 38 = .ok (.iconst 4, 1) := by decide +kernel
theorem dX12_rests_39 : decode mX12_rests.2.1 39 = .ok (.if_icmp .ge 115, 3) := by decide +kernel
theorem dX12_rests_42 : decode mX12_rests.2.1 42 = .ok (.iconst 1, 1) := by decide +kernel
theorem dX12_rests_43 : decode mX12_rests.2.1 43 = .ok (.istore 7, 2) := by decide +kernel
theorem dX12_rests_45 : decode mX12_rests.2.1 45 = .ok (.iconst 0, 1) := by decide +kernel
theorem dX12_rests_46 : decode mX12_rests.2.1 46 = .ok (.istore 8, 2) := by decide +kernel
theorem dX12_rests_48 : decode mX12_rests.2.1 48 = .ok (.iload 8, 2) := by decide +kernel
theorem dX12_rests_50 : decode mX12_rests.2.1 50 = .ok (.iconst 4, 1) := by decide +kernel
theorem dX12_rests_51 : decode mX12_rests.2.1 51 = .ok (.if_icmp .ge 71, 3) := by decide +kernel
theorem dX12_rests_54 : decode mX12_rests.2.1 54 = .ok (.iload 7, 2) := by decide +kernel
theorem dX12_rests_56 : decode mX12_rests.2.1 56 = .ok (.ifCond .eq 66, 3) := by decide +kernel
theorem dX12_rests_59 : decode mX12_rests.2.1 59 = .ok (.aload_n 0, 1) := by decide +kernel
theorem dX12_rests_60 : decode mX12_rests.2.1 60 = .ok (.iload_n 1, 1) := by decide +kernel
theorem dX12_rests_61 : decode mX12_rests.2.1 61 = .ok (.iload_n 2, 1) := by decide +kernel
theorem dX12_rests_62 : decode mX12_rests.2.1 62 = .ok (.iload 8, 2) := by decide +kernel
theorem dX12_rests_64 : decode mX12_rests.2.1 64 = .ok (.iload 6, 2) := by decide +kernel
theorem dX12_rests_66 : decode mX12_rests.2.1 66 = .ok (.iconst 0, 1) := by decide +kernel
theorem dX12_rests_67 : decode mX12_rests.2.1 67 = .ok (.invokevirtual 485, 3) := by decide +kernel
theorem dX12_rests_70 : decode mX12_rests.2.1 70 = .ok (.aload_n 0, 1) := by decide +kernel
theorem dX12_rests_71 : decode mX12_rests.2.1 71 = .ok (.iload_n 1, 1) := by decide +kernel
theorem dX12_rests_72 : decode mX12_rests.2.1 72 = .ok (.iload_n 2, 1) := by decide +kernel
theorem dX12_rests_73 : decode mX12_rests.2.1 73 = .ok (.iload 5, 2) := by decide +kernel
theorem dX12_rests_75 : decode mX12_rests.2.1 75 = .ok (.iload 6, 2) := by decide +kernel
theorem dX12_rests_77 : decode mX12_rests.2.1 77 = .ok (.iconst 0, 1) := by decide +kernel
theorem dX12_rests_78 : decode mX12_rests.2.1 78 = .ok (.invokevirtual 485, 3) := by decide +kernel
theorem dX12_rests_81 : decode mX12_rests.2.1 81 = .ok (.if_icmp .gt 32, 3) := by decide +kernel
theorem dX12_rests_84 : decode mX12_rests.2.1 84 = .ok (.aload_n 0, 1) := by decide +kernel
theorem dX12_rests_85 : decode mX12_rests.2.1 85 = .ok (.iload_n 1, 1) := by decide +kernel
theorem dX12_rests_86 : decode mX12_rests.2.1 86 = .ok (.iload_n 2, 1) := by decide +kernel
theorem dX12_rests_87 : decode mX12_rests.2.1 87 = .ok (.iload 5, 2) := by decide +kernel
theorem dX12_rests_89 : decode mX12_rests.2.1 89 = .ok (.iload 8, 2) := by decide +kernel
theorem dX12_rests_91 : decode mX12_rests.2.1 91 = .ok (.iconst 1, 1) := by decide +kernel
theorem dX12_rests_92 : decode mX12_rests.2.1 92 = .ok (.invokevirtual 485, 3) := by decide +kernel
theorem dX12_rests_95 : decode mX12_rests.2.1 95 = .ok (.aload_n 0, 1) := by decide +kernel
theorem dX12_rests_96 : decode mX12_rests.2.1 96 = .ok (.iload_n 1, 1) := by decide +kernel
theorem dX12_rests_97 : decode mX12_rests.2.1 97 = .ok (.iload_n 2, 1) := by decide +kernel
theorem dX12_rests_98 : decode mX12_rests.2.1 98 = .ok (.iload 5, 2) := by decide +kernel
theorem dX12_rests_100 : decode mX12_rests.2.1 100 = .ok (.iload 6, 2) := by decide +kernel
theorem dX12_rests_102 : decode mX12_rests.2.1 102 = .ok (.iconst 1, 1) := by decide +kernel
theorem dX12_rests_103 : decode mX12_rests.2.1 103 = .ok (.invokevirtual 485, 3) := by decide +kernel
theorem dX12_rests_106 : decode mX12_rests.2.1 106 = .ok (.if_icmp .gt 7, 3) := by decide +kernel
theorem dX12_rests_109 : decode mX12_rests.2.1 109 = .ok (.iconst 1, 1) := by decide +kernel
theorem dX12_rests_110 : decode mX12_rests.2.1 110 = .ok (.goto 4, 3) := by decide +kernel
theorem dX12_rests_113 : decode mX12_rests.2.1 113 = .ok (.iconst 0, 1) := by decide +kernel
theorem dX12_rests_114 : decode mX12_rests.2.1 114 = .ok (.istore 7, 2) := by decide +kernel
theorem dX12_rests_116 : decode mX12_rests.2.1 116 = .ok (.iinc 8 1, 3) := by decide +kernel
theorem dX12_rests_119 : decode mX12_rests.2.1 119 = .ok (.goto (-71), 3) := by decide +kernel
theorem dX12_rests_122 : decode mX12_rests.2.1 122 = .ok (.iload 7, 2) := by decide +kernel
theorem dX12_rests_124 : decode mX12_rests.2.1 124 = .ok (.ifCond .ne 6, 3) := by decide +kernel
theorem dX12_rests_127 : decode mX12_rests.2.1 127 = .ok (.goto 21, 3) := by decide +kernel
theorem dX12_rests_130 : decode mX12_rests.2.1 130 = .ok (.iload 4, 2) := by decide +kernel
theorem dX12_rests_132 : decode mX12_rests.2.1 132 = .ok (.iload_n 3, 1) := by decide +kernel
theorem dX12_rests_133 : decode mX12_rests.2.1 133 = .ok (.if_icmp .ne 12, 3) := by decide +kernel
theorem dX12_rests_136 : decode mX12_rests.2.1 136 = .ok (.bipush 10, 2) := by decide +kernel
theorem dX12_rests_138 : decode mX12_rests.2.1 138 = .ok (.iload 5, 2) := by decide +kernel
theorem dX12_rests_140 : decode mX12_rests.2.1 140 = .ok (.imul, 1) := by decide +kernel
theorem dX12_rests_141 : decode mX12_rests.2.1 141 = .ok (.iload 6, 2) := by decide +kernel
theorem dX12_rests_143 : decode mX12_rests.2.1 143 = .ok (.iadd, 1) := by decide +kernel
theorem dX12_rests_144 : decode mX12_rests.2.1 144 = .ok (.ireturn, 1) := by decide +kernel
theorem dX12_rests_145 : decode mX12_rests.2.1 145 = .ok (.iinc 4 1, 3) := by decide +kernel
theorem dX12_rests_148 : decode mX12_rests.2.1 148 = .ok (.iinc 6 1, 3) := by decide +kernel
theorem dX12_rests_151 : decode mX12_rests.2.1 151 = .ok (.goto (-115), 3) := by decide +kernel
theorem dX12_rests_154 : decode mX12_rests.2.1 154 = .ok (.iinc 5 1, 3) := by decide +kernel
theorem dX12_rests_157 : decode mX12_rests.2.1 157 = .ok (.goto (-130), 3) := by decide +kernel
theorem dX12_rests_160 : decode mX12_rests.2.1 160 = .ok (.iload_n 3, 1) := by decide +kernel
theorem dX12_rests_161 : decode mX12_rests.2.1 161 = .ok (.iconst (-1), 1) := by decide +kernel
theorem dX12_rests_162 : decode mX12_rests.2.1 162 = .ok (.if_icmp .ne 8, 3) := by decide +kernel
theorem dX12_rests_165 : decode mX12_rests.2.1 165 = .ok (.iload 4, 2) := by decide +kernel
theorem dX12_rests_167 : decode mX12_rests.2.1 167 = .ok (.goto 4, 3) := by decide +kernel
theorem dX12_rests_170 : decode mX12_rests.2.1 170 = .ok (.iconst (-1), 1) := by decide +kernel
theorem dX12_rests_171 : decode mX12_rests.2.1 171 = .ok (.ireturn, 1) := by decide +kernel
abbrev mX12_run : gz_M := (yX12_run, cX12_run, 5, some .int)
theorem dX12_run_0 : decode mX12_run.2.1 0 = .ok (.aload_n 0, 1) := by decide +kernel
theorem dX12_run_1 : decode mX12_run.2.1 1 = .ok (.iconst 0, 1) := by decide +kernel
theorem dX12_run_2 : decode mX12_run.2.1 2 = .ok (.putfield 104, 3) := by decide +kernel
theorem dX12_run_5 : decode mX12_run.2.1 5 = .ok (.aload_n 0, 1) := by decide +kernel
theorem dX12_run_6 : decode mX12_run.2.1 6 = .ok (.iload_n 1, 1) := by decide +kernel
theorem dX12_run_7 : decode mX12_run.2.1 7 = .ok (.invokevirtual 430, 3) := by decide +kernel
theorem dX12_run_10 : decode mX12_run.2.1 10 = .ok (.ifCond .eq 20, 3) := by decide +kernel
theorem dX12_run_13 : decode mX12_run.2.1 13 = .ok (.aload_n 0, 1) := by decide +kernel
theorem dX12_run_14 : decode mX12_run.2.1 14 = .ok (.getfield 303, 3) := by decide +kernel
theorem dX12_run_17 : decode mX12_run.2.1 17 = .ok (.ifCond .eq 13, 3) := by decide +kernel
theorem dX12_run_20 : decode mX12_run.2.1 20 = .ok (.iload_n 2, 1) := by decide +kernel
theorem dX12_run_21 : decode mX12_run.2.1 21 = .ok (.i2l, 1) := by decide +kernel
theorem dX12_run_22 : decode mX12_run.2.1 22 = .ok (.lconst 0, 1) := by decide +kernel
theorem dX12_run_23 : decode mX12_run.2.1 23 = .ok (.lconst 1, 1) := by decide +kernel
theorem dX12_run_24 : decode mX12_run.2.1 24 = .ok (.invokestatic 225, 3) := by decide +kernel
theorem dX12_run_27 : decode mX12_run.2.1 27 = .ok (.ifCond .ne 7, 3) := by decide +kernel
theorem dX12_run_30 : decode mX12_run.2.1 30 = .ok (.ldc_w 433, 3) := by decide +kernel
theorem dX12_run_33 : decode mX12_run.2.1 33 = .ok (.ireturn, 1) := by decide +kernel
theorem dX12_run_34 : decode mX12_run.2.1 34 = .ok (.aload_n 0, 1) := by decide +kernel
theorem dX12_run_35 : decode mX12_run.2.1 35 = .ok (.getfield 64, 3) := by decide +kernel
theorem dX12_run_38 : decode mX12_run.2.1 38 = .ok (.aload_n 0, 1) := by decide +kernel
theorem dX12_run_39 : decode mX12_run.2.1 39 = .ok (.getfield 67, 3) := by decide +kernel
theorem dX12_run_42 : decode mX12_run.2.1 42 = .ok (.invokestatic 434, 3) := by decide +kernel
theorem dX12_run_45 : decode mX12_run.2.1 45 = .ok (.iconst 0, 1) := by decide +kernel
theorem dX12_run_46 : decode mX12_run.2.1 46 = .ok (.istore_n 3, 1) := by decide +kernel
theorem dX12_run_47 : decode mX12_run.2.1 47 = .ok (.iconst 0, 1) := by decide +kernel
theorem dX12_run_48 : decode mX12_run.2.1 48 = .ok (.istore 4, 2) := by decide +kernel
theorem dX12_run_50 : decode mX12_run.2.1 50 = .ok (.iload_n 3, 1) := by decide +kernel
theorem dX12_run_51 : decode mX12_run.2.1 51 = .ok (.aload_n 0, 1) := by decide +kernel
theorem dX12_run_52 : decode mX12_run.2.1 52 = .ok (.getfield 61, 3) := by decide +kernel
theorem dX12_run_55 : decode mX12_run.2.1 55 = .ok (.iload_n 1, 1) := by decide +kernel
theorem dX12_run_56 : decode mX12_run.2.1 56 = .ok (.iaload, 1) := by decide +kernel
theorem dX12_run_57 : decode mX12_run.2.1 57 = .ok (.if_icmp .ge 49, 3) := by decide +kernel
theorem dX12_run_60 : decode mX12_run.2.1 60 = .ok (.aload_n 0, 1) := by decide +kernel
theorem dX12_run_61 : decode mX12_run.2.1 61 = .ok (.aload_n 0, 1) := by decide +kernel
theorem dX12_run_62 : decode mX12_run.2.1 62 = .ok (.getfield 67, 3) := by decide +kernel
theorem dX12_run_65 : decode mX12_run.2.1 65 = .ok (.iconst 3, 1) := by decide +kernel
theorem dX12_run_66 : decode mX12_run.2.1 66 = .ok (.bipush 16, 2) := by decide +kernel
theorem dX12_run_68 : decode mX12_run.2.1 68 = .ok (.iload_n 1, 1) := by decide +kernel
theorem dX12_run_69 : decode mX12_run.2.1 69 = .ok (.imul, 1) := by decide +kernel
theorem dX12_run_70 : decode mX12_run.2.1 70 = .ok (.iload_n 3, 1) := by decide +kernel
theorem dX12_run_71 : decode mX12_run.2.1 71 = .ok (.iadd, 1) := by decide +kernel
theorem dX12_run_72 : decode mX12_run.2.1 72 = .ok (.imul, 1) := by decide +kernel
theorem dX12_run_73 : decode mX12_run.2.1 73 = .ok (.invokevirtual 438, 3) := by decide +kernel
theorem dX12_run_76 : decode mX12_run.2.1 76 = .ok (.ifCond .eq 30, 3) := by decide +kernel
theorem dX12_run_79 : decode mX12_run.2.1 79 = .ok (.iload 4, 2) := by decide +kernel
theorem dX12_run_81 : decode mX12_run.2.1 81 = .ok (.aload_n 0, 1) := by decide +kernel
theorem dX12_run_82 : decode mX12_run.2.1 82 = .ok (.aload_n 0, 1) := by decide +kernel
theorem dX12_run_83 : decode mX12_run.2.1 83 = .ok (.getfield 67, 3) := by decide +kernel
theorem dX12_run_86 : decode mX12_run.2.1 86 = .ok (.iconst 3, 1) := by decide +kernel
theorem dX12_run_87 : decode mX12_run.2.1 87 = .ok (.bipush 16, 2) := by decide +kernel
theorem dX12_run_89 : decode mX12_run.2.1 89 = .ok (.iload_n 1, 1) := by decide +kernel
theorem dX12_run_90 : decode mX12_run.2.1 90 = .ok (.imul, 1) := by decide +kernel
theorem dX12_run_91 : decode mX12_run.2.1 91 = .ok (.iload_n 3, 1) := by decide +kernel
theorem dX12_run_92 : decode mX12_run.2.1 92 = .ok (.iadd, 1) := by decide +kernel
theorem dX12_run_93 : decode mX12_run.2.1 93 = .ok (.imul, 1) := by decide +kernel
theorem dX12_run_94 : decode mX12_run.2.1 94 = .ok (.invokevirtual 441, 3) := by decide +kernel
theorem dX12_run_97 : decode mX12_run.2.1 97 = .ok (.iadd, 1) := by decide +kernel
theorem dX12_run_98 : decode mX12_run.2.1 98 = .ok (.istore 4, 2) := by decide +kernel
theorem dX12_run_100 : decode mX12_run.2.1 100 = .ok (.iinc 3 1, 3) := by decide +kernel
theorem dX12_run_103 : decode mX12_run.2.1 103 = .ok (.goto (-53), 3) := by decide +kernel
theorem dX12_run_106 : decode mX12_run.2.1 106 = .ok (.iload_n 2, 1) := by decide +kernel
theorem dX12_run_107 : decode mX12_run.2.1 107 = .ok (.iconst 1, 1) := by decide +kernel
theorem dX12_run_108 : decode mX12_run.2.1 108 = .ok (.if_icmp .ne 6, 3) := by decide +kernel
theorem dX12_run_111 : decode mX12_run.2.1 111 = .ok (.iload 4, 2) := by decide +kernel
theorem dX12_run_113 : decode mX12_run.2.1 113 = .ok (.ireturn, 1) := by decide +kernel
theorem dX12_run_114 : decode mX12_run.2.1 114 = .ok (.iload_n 3, 1) := by decide +kernel
theorem dX12_run_115 : decode mX12_run.2.1 115 = .ok (.aload_n 0, 1) := by decide +kernel
theorem dX12_run_116 : decode mX12_run.2.1 116 = .ok (.getfield 61, 3) := by decide +kernel
theorem dX12_run_119 : decode mX12_run.2.1 119 = .ok (.iload_n 1, 1) := by decide +kernel
theorem dX12_run_120 : decode mX12_run.2.1 120 = .ok (.iaload, 1) := by decide +kernel
theorem dX12_run_121 : decode mX12_run.2.1 121 = .ok (.if_icmp .ne 7, 3) := by decide +kernel
theorem dX12_run_124 : decode mX12_run.2.1 124 = .ok (.iconst (-1), 1) := by decide +kernel
theorem dX12_run_125 : decode mX12_run.2.1 125 = .ok (.goto 4, 3) := by decide +kernel
theorem dX12_run_128 : decode mX12_run.2.1 128 = .ok (.iload_n 3, 1) := by decide +kernel
theorem dX12_run_129 : decode mX12_run.2.1 129 = .ok (.ireturn, 1) := by decide +kernel
abbrev mX12_seen : gz_M := (yX12_seen, cX12_seen, 4, some .int)
theorem dX12_seen_0 : decode mX12_seen.2.1 0 = .ok (.aload_n 0, 1) := by decide +kernel
theorem dX12_seen_1 : decode mX12_seen.2.1 1 = .ok (.iconst 0, 1) := by decide +kernel
theorem dX12_seen_2 : decode mX12_seen.2.1 2 = .ok (.putfield 104, 3) := by decide +kernel
theorem dX12_seen_5 : decode mX12_seen.2.1 5 = .ok (.aload_n 0, 1) := by decide +kernel
theorem dX12_seen_6 : decode mX12_seen.2.1 6 = .ok (.iload_n 1, 1) := by decide +kernel
theorem dX12_seen_7 : decode mX12_seen.2.1 7 = .ok (.invokevirtual 325, 3) := by decide +kernel
theorem dX12_seen_10 : decode mX12_seen.2.1 10 = .ok (.ifCond .eq 32, 3) := by decide +kernel
theorem dX12_seen_13 : decode mX12_seen.2.1 13 = .ok (.iload_n 2, 1) := by decide +kernel
theorem dX12_seen_14 : decode mX12_seen.2.1 14 = .ok (.i2l, 1) := by decide +kernel
theorem dX12_seen_15 : decode mX12_seen.2.1 15 = .ok (.lconst 0, 1) := by decide +kernel
theorem dX12_seen_16 : decode mX12_seen.2.1 16 = .ok (.ldc2_w 425, 3) := by decide +kernel
theorem dX12_seen_19 : decode mX12_seen.2.1 19 = .ok (.invokestatic 225, 3) := by decide +kernel
theorem dX12_seen_22 : decode mX12_seen.2.1 22 = .ok (.ifCond .eq 20, 3) := by decide +kernel
theorem dX12_seen_25 : decode mX12_seen.2.1 25 = .ok (.aload_n 0, 1) := by decide +kernel
theorem dX12_seen_26 : decode mX12_seen.2.1 26 = .ok (.iload_n 3, 1) := by decide +kernel
theorem dX12_seen_27 : decode mX12_seen.2.1 27 = .ok (.invokevirtual 373, 3) := by decide +kernel
theorem dX12_seen_30 : decode mX12_seen.2.1 30 = .ok (.ifCond .eq 12, 3) := by decide +kernel
theorem dX12_seen_33 : decode mX12_seen.2.1 33 = .ok (.aload_n 0, 1) := by decide +kernel
theorem dX12_seen_34 : decode mX12_seen.2.1 34 = .ok (.getfield 310, 3) := by decide +kernel
theorem dX12_seen_37 : decode mX12_seen.2.1 37 = .ok (.bipush 10, 2) := by decide +kernel
theorem dX12_seen_39 : decode mX12_seen.2.1 39 = .ok (.if_icmp .ne 5, 3) := by decide +kernel
theorem dX12_seen_42 : decode mX12_seen.2.1 42 = .ok (.iconst (-1), 1) := by decide +kernel
theorem dX12_seen_43 : decode mX12_seen.2.1 43 = .ok (.ireturn, 1) := by decide +kernel
theorem dX12_seen_44 : decode mX12_seen.2.1 44 = .ok (.aload_n 0, 1) := by decide +kernel
theorem dX12_seen_45 : decode mX12_seen.2.1 45 = .ok (.getfield 89, 3) := by decide +kernel
theorem dX12_seen_48 : decode mX12_seen.2.1 48 = .ok (.iconst 3, 1) := by decide +kernel
theorem dX12_seen_49 : decode mX12_seen.2.1 49 = .ok (.aload_n 0, 1) := by decide +kernel
theorem dX12_seen_50 : decode mX12_seen.2.1 50 = .ok (.getfield 310, 3) := by decide +kernel
theorem dX12_seen_53 : decode mX12_seen.2.1 53 = .ok (.imul, 1) := by decide +kernel
theorem dX12_seen_54 : decode mX12_seen.2.1 54 = .ok (.iload_n 1, 1) := by decide +kernel
theorem dX12_seen_55 : decode mX12_seen.2.1 55 = .ok (.iastore, 1) := by decide +kernel
theorem dX12_seen_56 : decode mX12_seen.2.1 56 = .ok (.aload_n 0, 1) := by decide +kernel
theorem dX12_seen_57 : decode mX12_seen.2.1 57 = .ok (.getfield 89, 3) := by decide +kernel
theorem dX12_seen_60 : decode mX12_seen.2.1 60 = .ok (.iconst 3, 1) := by decide +kernel
theorem dX12_seen_61 : decode mX12_seen.2.1 61 = .ok (.aload_n 0, 1) := by decide +kernel
theorem dX12_seen_62 : decode mX12_seen.2.1 62 = .ok (.getfield 310, 3) := by decide +kernel
theorem dX12_seen_65 : decode mX12_seen.2.1 65 = .ok (.imul, 1) := by decide +kernel
theorem dX12_seen_66 : decode mX12_seen.2.1 66 = .ok (.iconst 1, 1) := by decide +kernel
theorem dX12_seen_67 : decode mX12_seen.2.1 67 = .ok (.iadd, 1) := by decide +kernel
theorem dX12_seen_68 : decode mX12_seen.2.1 68 = .ok (.iload_n 2, 1) := by decide +kernel
theorem dX12_seen_69 : decode mX12_seen.2.1 69 = .ok (.iastore, 1) := by decide +kernel
theorem dX12_seen_70 : decode mX12_seen.2.1 70 = .ok (.aload_n 0, 1) := by decide +kernel
theorem dX12_seen_71 : decode mX12_seen.2.1 71 = .ok (.getfield 89, 3) := by decide +kernel
theorem dX12_seen_74 : decode mX12_seen.2.1 74 = .ok (.iconst 3, 1) := by decide +kernel
theorem dX12_seen_75 : decode mX12_seen.2.1 75 = .ok (.aload_n 0, 1) := by decide +kernel
theorem dX12_seen_76 : decode mX12_seen.2.1 76 = .ok (.getfield 310, 3) := by decide +kernel
theorem dX12_seen_79 : decode mX12_seen.2.1 79 = .ok (.imul, 1) := by decide +kernel
theorem dX12_seen_80 : decode mX12_seen.2.1 80 = .ok (.iconst 2, 1) := by decide +kernel
theorem dX12_seen_81 : decode mX12_seen.2.1 81 = .ok (.iadd, 1) := by decide +kernel
theorem dX12_seen_82 : decode mX12_seen.2.1 82 = .ok (.iload_n 3, 1) := by decide +kernel
theorem dX12_seen_83 : decode mX12_seen.2.1 83 = .ok (.iastore, 1) := by decide +kernel
theorem dX12_seen_84 : decode mX12_seen.2.1 84 = .ok (.aload_n 0, 1) := by decide +kernel
theorem dX12_seen_85 : decode mX12_seen.2.1 85 = .ok (.dup, 1) := by decide +kernel
theorem dX12_seen_86 : decode mX12_seen.2.1 86 = .ok (.getfield 310, 3) := by decide +kernel
theorem dX12_seen_89 : decode mX12_seen.2.1 89 = .ok (.iconst 1, 1) := by decide +kernel
theorem dX12_seen_90 : decode mX12_seen.2.1 90 = .ok (.iadd, 1) := by decide +kernel
theorem dX12_seen_91 : decode mX12_seen.2.1 91 = .ok (.putfield 310, 3) := by decide +kernel
theorem dX12_seen_94 : decode mX12_seen.2.1 94 = .ok (.aload_n 0, 1) := by decide +kernel
theorem dX12_seen_95 : decode mX12_seen.2.1 95 = .ok (.getfield 310, 3) := by decide +kernel
theorem dX12_seen_98 : decode mX12_seen.2.1 98 = .ok (.ireturn, 1) := by decide +kernel
abbrev mX12_shares : gz_M := (yX12_shares, cX12_shares, 6, some .int)
theorem dX12_shares_0 : decode mX12_shares.2.1 0 = .ok (.aload_n 0, 1) := by decide +kernel
theorem dX12_shares_1 : decode mX12_shares.2.1 1 = .ok (.iconst 0, 1) := by decide +kernel
theorem dX12_shares_2 : decode mX12_shares.2.1 2 = .ok (.putfield 104, 3) := by decide +kernel
theorem dX12_shares_5 : decode mX12_shares.2.1 5 = .ok (.aload_n 0, 1) := by decide +kernel
theorem dX12_shares_6 : decode mX12_shares.2.1 6 = .ok (.iload_n 1, 1) := by decide +kernel
theorem dX12_shares_7 : decode mX12_shares.2.1 7 = .ok (.invokevirtual 325, 3) := by decide +kernel
theorem dX12_shares_10 : decode mX12_shares.2.1 10 = .ok (.ifCond .eq 15, 3) := by decide +kernel
theorem dX12_shares_13 : decode mX12_shares.2.1 13 = .ok (.iload_n 2, 1) := by decide +kernel
theorem dX12_shares_14 : decode mX12_shares.2.1 14 = .ok (.i2l, 1) := by decide +kernel
theorem dX12_shares_15 : decode mX12_shares.2.1 15 = .ok (.lconst 0, 1) := by decide +kernel
theorem dX12_shares_16 : decode mX12_shares.2.1 16 = .ok (.ldc2_w 497, 3) := by decide +kernel
theorem dX12_shares_19 : decode mX12_shares.2.1 19 = .ok (.invokestatic 225, 3) := by decide +kernel
theorem dX12_shares_22 : decode mX12_shares.2.1 22 = .ok (.ifCond .ne 5, 3) := by decide +kernel
theorem dX12_shares_25 : decode mX12_shares.2.1 25 = .ok (.iconst (-1), 1) := by decide +kernel
theorem dX12_shares_26 : decode mX12_shares.2.1 26 = .ok (.ireturn, 1) := by decide +kernel
theorem dX12_shares_27 : decode mX12_shares.2.1 27 = .ok (.lconst 0, 1) := by decide +kernel
theorem dX12_shares_28 : decode mX12_shares.2.1 28 = .ok (.lstore_n 3, 1) := by decide +kernel
theorem dX12_shares_29 : decode mX12_shares.2.1 29 = .ok (.iconst 0, 1) := by decide +kernel
theorem dX12_shares_30 : decode mX12_shares.2.1 30 = .ok (.istore 5, 2) := by decide +kernel
theorem dX12_shares_32 : decode mX12_shares.2.1 32 = .ok (.iload 5, 2) := by decide +kernel
theorem dX12_shares_34 : decode mX12_shares.2.1 34 = .ok (.aload_n 0, 1) := by decide +kernel
theorem dX12_shares_35 : decode mX12_shares.2.1 35 = .ok (.getfield 303, 3) := by decide +kernel
theorem dX12_shares_38 : decode mX12_shares.2.1 38 = .ok (.if_icmp .ge 27, 3) := by decide +kernel
theorem dX12_shares_41 : decode mX12_shares.2.1 41 = .ok (.lload_n 3, 1) := by decide +kernel
theorem dX12_shares_42 : decode mX12_shares.2.1 42 = .ok (.aload_n 0, 1) := by decide +kernel
theorem dX12_shares_43 : decode mX12_shares.2.1 43 = .ok (.getfield 64, 3) := by decide +kernel
theorem dX12_shares_46 : decode mX12_shares.2.1 46 = .ok (.bipush 30, 2) := by decide +kernel
theorem dX12_shares_48 : decode mX12_shares.2.1 48 = .ok (.iconst 4, 1) := by decide +kernel
theorem dX12_shares_49 : decode mX12_shares.2.1 49 = .ok (.iload 5, 2) := by decide +kernel
theorem dX12_shares_51 : decode mX12_shares.2.1 51 = .ok (.imul, 1) := by decide +kernel
theorem dX12_shares_52 : decode mX12_shares.2.1 52 = .ok (.iadd, 1) := by decide +kernel
theorem dX12_shares_53 : decode mX12_shares.2.1 53 = .ok (.iconst 2, 1) := by decide +kernel
theorem dX12_shares_54 : decode mX12_shares.2.1 54 = .ok (.iadd, 1) := by decide +kernel
theorem dX12_shares_55 : decode mX12_shares.2.1 55 = .ok (.iaload, 1) := by decide +kernel
theorem dX12_shares_56 : decode mX12_shares.2.1 56 = .ok (.i2l, 1) := by decide +kernel
theorem dX12_shares_57 : decode mX12_shares.2.1 57 = .ok (.ladd, 1) := by decide +kernel
theorem dX12_shares_58 : decode mX12_shares.2.1 58 = .ok (.lstore_n 3, 1) := by decide +kernel
theorem dX12_shares_59 : decode mX12_shares.2.1 59 = .ok (.iinc 5 1, 3) := by decide +kernel
theorem dX12_shares_62 : decode mX12_shares.2.1 62 = .ok (.goto (-30), 3) := by decide +kernel
theorem dX12_shares_65 : decode mX12_shares.2.1 65 = .ok (.lload_n 3, 1) := by decide +kernel
theorem dX12_shares_66 : decode mX12_shares.2.1 66 = .ok (.lconst 0, 1) := by decide +kernel
theorem dX12_shares_67 : decode mX12_shares.2.1 67 = .ok (.lcmp, 1) := by decide +kernel
theorem dX12_shares_68 : decode mX12_shares.2.1 68 = .ok (.ifCond .ne 7, 3) := by decide +kernel
theorem dX12_shares_71 : decode mX12_shares.2.1 71 = .ok (.iconst 0, 1) := by decide +kernel
theorem dX12_shares_72 : decode mX12_shares.2.1 72 = .ok (.goto 23, 3) := by decide +kernel
theorem dX12_shares_75 : decode mX12_shares.2.1 75 = .ok (.iload_n 2, 1) := by decide +kernel
theorem dX12_shares_76 : decode mX12_shares.2.1 76 = .ok (.i2l, 1) := by decide +kernel
theorem dX12_shares_77 : decode mX12_shares.2.1 77 = .ok (.aload_n 0, 1) := by decide +kernel
theorem dX12_shares_78 : decode mX12_shares.2.1 78 = .ok (.getfield 64, 3) := by decide +kernel
theorem dX12_shares_81 : decode mX12_shares.2.1 81 = .ok (.bipush 30, 2) := by decide +kernel
theorem dX12_shares_83 : decode mX12_shares.2.1 83 = .ok (.iconst 4, 1) := by decide +kernel
theorem dX12_shares_84 : decode mX12_shares.2.1 84 = .ok (.iload_n 1, 1) := by decide +kernel
theorem dX12_shares_85 : decode mX12_shares.2.1 85 = .ok (.imul, 1) := by decide +kernel
theorem dX12_shares_86 : decode mX12_shares.2.1 86 = .ok (.iadd, 1) := by decide +kernel
theorem dX12_shares_87 : decode mX12_shares.2.1 87 = .ok (.iconst 2, 1) := by decide +kernel
theorem dX12_shares_88 : decode mX12_shares.2.1 88 = .ok (.iadd, 1) := by decide +kernel
theorem dX12_shares_89 : decode mX12_shares.2.1 89 = .ok (.iaload, 1) := by decide +kernel
theorem dX12_shares_90 : decode mX12_shares.2.1 90 = .ok (.i2l, 1) := by decide +kernel
theorem dX12_shares_91 : decode mX12_shares.2.1 91 = .ok (.lmul, 1) := by decide +kernel
theorem dX12_shares_92 : decode mX12_shares.2.1 92 = .ok (.lload_n 3, 1) := by decide +kernel
theorem dX12_shares_93 : decode mX12_shares.2.1 93 = .ok (.ldiv, 1) := by decide +kernel
theorem dX12_shares_94 : decode mX12_shares.2.1 94 = .ok (.l2i, 1) := by decide +kernel
theorem dX12_shares_95 : decode mX12_shares.2.1 95 = .ok (.ireturn, 1) := by decide +kernel
abbrev mX12_shore : gz_M := (yX12_shore, cX12_shore, 3, some .int)
theorem dX12_shore_0 : decode mX12_shore.2.1 0 = .ok (.aload_n 0, 1) := by decide +kernel
theorem dX12_shore_1 : decode mX12_shore.2.1 1 = .ok (.iconst 0, 1) := by decide +kernel
theorem dX12_shore_2 : decode mX12_shore.2.1 2 = .ok (.putfield 104, 3) := by decide +kernel
theorem dX12_shore_5 : decode mX12_shore.2.1 5 = .ok (.aload_n 0, 1) := by decide +kernel
theorem dX12_shore_6 : decode mX12_shore.2.1 6 = .ok (.iload_n 1, 1) := by decide +kernel
theorem dX12_shore_7 : decode mX12_shore.2.1 7 = .ok (.invokevirtual 373, 3) := by decide +kernel
theorem dX12_shore_10 : decode mX12_shore.2.1 10 = .ok (.ifCond .eq 13, 3) := by decide +kernel
theorem dX12_shore_13 : decode mX12_shore.2.1 13 = .ok (.iload_n 2, 1) := by decide +kernel
theorem dX12_shore_14 : decode mX12_shore.2.1 14 = .ok (.i2l, 1) := by decide +kernel
theorem dX12_shore_15 : decode mX12_shore.2.1 15 = .ok (.lconst 0, 1) := by decide +kernel
theorem dX12_shore_16 : decode mX12_shore.2.1 16 = .ok (.lconst 1, 1) := by decide +kernel
theorem dX12_shore_17 : decode mX12_shore.2.1 17 = .ok (.invokestatic 225, 3) := by decide +kernel
theorem dX12_shore_20 : decode mX12_shore.2.1 20 = .ok (.ifCond .ne 5, 3) := by decide +kernel
theorem dX12_shore_23 : decode mX12_shore.2.1 23 = .ok (.iconst (-1), 1) := by decide +kernel
theorem dX12_shore_24 : decode mX12_shore.2.1 24 = .ok (.ireturn, 1) := by decide +kernel
theorem dX12_shore_25 : decode mX12_shore.2.1 25 = .ok (.iload_n 2, 1) := by decide +kernel
theorem dX12_shore_26 : decode mX12_shore.2.1 26 = .ok (.ifCond .ne 12, 3) := by decide +kernel
theorem dX12_shore_29 : decode mX12_shore.2.1 29 = .ok (.aload_n 0, 1) := by decide +kernel
theorem dX12_shore_30 : decode mX12_shore.2.1 30 = .ok (.getfield 64, 3) := by decide +kernel
theorem dX12_shore_33 : decode mX12_shore.2.1 33 = .ok (.iload_n 1, 1) := by decide +kernel
theorem dX12_shore_34 : decode mX12_shore.2.1 34 = .ok (.iaload, 1) := by decide +kernel
theorem dX12_shore_35 : decode mX12_shore.2.1 35 = .ok (.goto 20, 3) := by decide +kernel
theorem dX12_shore_38 : decode mX12_shore.2.1 38 = .ok (.aload_n 0, 1) := by decide +kernel
theorem dX12_shore_39 : decode mX12_shore.2.1 39 = .ok (.aload_n 0, 1) := by decide +kernel
theorem dX12_shore_40 : decode mX12_shore.2.1 40 = .ok (.getfield 64, 3) := by decide +kernel
theorem dX12_shore_43 : decode mX12_shore.2.1 43 = .ok (.iload_n 1, 1) := by decide +kernel
theorem dX12_shore_44 : decode mX12_shore.2.1 44 = .ok (.invokevirtual 331, 3) := by decide +kernel
theorem dX12_shore_47 : decode mX12_shore.2.1 47 = .ok (.ifCond .eq 7, 3) := by decide +kernel
theorem dX12_shore_50 : decode mX12_shore.2.1 50 = .ok (.iconst 1, 1) := by decide +kernel
theorem dX12_shore_51 : decode mX12_shore.2.1 51 = .ok (.goto 4, 3) := by decide +kernel
theorem dX12_shore_54 : decode mX12_shore.2.1 54 = .ok (.iconst 0, 1) := by decide +kernel
theorem dX12_shore_55 : decode mX12_shore.2.1 55 = .ok (.ireturn, 1) := by decide +kernel
abbrev mX12_spotOf : gz_M := (yX12_spotOf, cX12_spotOf, 3, some .int)
theorem dX12_spotOf_0 : decode mX12_spotOf.2.1 0 = .ok (.iconst 0, 1) := by decide +kernel
theorem dX12_spotOf_1 : decode mX12_spotOf.2.1 1 = .ok (.istore_n 2, 1) := by decide +kernel
theorem dX12_spotOf_2 : decode mX12_spotOf.2.1 2 = .ok (.iload_n 2, 1) := by decide +kernel
theorem dX12_spotOf_3 : decode mX12_spotOf.2.1 3 = .ok (.aload_n 0, 1) := by decide +kernel
theorem dX12_spotOf_4 : decode mX12_spotOf.2.1 4 = .ok (.invokevirtual 107, 3) := by decide +kernel
theorem dX12_spotOf_7 : decode mX12_spotOf.2.1 7 = .ok (.if_icmp .ge 20, 3) := by decide +kernel
theorem dX12_spotOf_10 : decode mX12_spotOf.2.1 10 = .ok (.aload_n 0, 1) := by decide +kernel
theorem dX12_spotOf_11 : decode mX12_spotOf.2.1 11 = .ok (.iload_n 2, 1) := by decide +kernel
theorem dX12_spotOf_12 : decode mX12_spotOf.2.1 12 = .ok (.invokevirtual 113, 3) := by decide +kernel
theorem dX12_spotOf_15 : decode mX12_spotOf.2.1 15 = .ok (.iload_n 1, 1) := by decide +kernel
theorem dX12_spotOf_16 : decode mX12_spotOf.2.1 16 = .ok (.if_icmp .ne 5, 3) := by decide +kernel
theorem dX12_spotOf_19 : decode mX12_spotOf.2.1 19 = .ok (.iload_n 2, 1) := by decide +kernel
theorem dX12_spotOf_20 : decode mX12_spotOf.2.1 20 = .ok (.ireturn, 1) := by decide +kernel
theorem dX12_spotOf_21 : decode mX12_spotOf.2.1 21 = .ok (.iinc 2 1, 3) := by decide +kernel
theorem dX12_spotOf_24 : decode mX12_spotOf.2.1 24 = .ok (.goto (-22), 3) := by decide +kernel
theorem dX12_spotOf_27 : decode mX12_spotOf.2.1 27 = .ok (.iconst (-1), 1) := by decide +kernel
theorem dX12_spotOf_28 : decode mX12_spotOf.2.1 28 = .ok (.ireturn, 1) := by decide +kernel
abbrev mX12_startOf : gz_M := (yX12_startOf, cX12_startOf, 2, some .int)
theorem dX12_startOf_0 : decode mX12_startOf.2.1 0 = .ok (.aload_n 0, 1) := by decide +kernel
theorem dX12_startOf_1 : decode mX12_startOf.2.1 1 = .ok (.getfield 37, 3) := by decide +kernel
theorem dX12_startOf_4 : decode mX12_startOf.2.1 4 = .ok (.iconst 0, 1) := by decide +kernel
theorem dX12_startOf_5 : decode mX12_startOf.2.1 5 = .ok (.iaload, 1) := by decide +kernel
theorem dX12_startOf_6 : decode mX12_startOf.2.1 6 = .ok (.aload_n 0, 1) := by decide +kernel
theorem dX12_startOf_7 : decode mX12_startOf.2.1 7 = .ok (.getfield 43, 3) := by decide +kernel
theorem dX12_startOf_10 : decode mX12_startOf.2.1 10 = .ok (.iconst 4, 1) := by decide +kernel
theorem dX12_startOf_11 : decode mX12_startOf.2.1 11 = .ok (.iload_n 1, 1) := by decide +kernel
theorem dX12_startOf_12 : decode mX12_startOf.2.1 12 = .ok (.imul, 1) := by decide +kernel
theorem dX12_startOf_13 : decode mX12_startOf.2.1 13 = .ok (.iconst 1, 1) := by decide +kernel
theorem dX12_startOf_14 : decode mX12_startOf.2.1 14 = .ok (.iadd, 1) := by decide +kernel
theorem dX12_startOf_15 : decode mX12_startOf.2.1 15 = .ok (.iaload, 1) := by decide +kernel
theorem dX12_startOf_16 : decode mX12_startOf.2.1 16 = .ok (.imul, 1) := by decide +kernel
theorem dX12_startOf_17 : decode mX12_startOf.2.1 17 = .ok (.aload_n 0, 1) := by decide +kernel
theorem dX12_startOf_18 : decode mX12_startOf.2.1 18 = .ok (.getfield 43, 3) := by decide +kernel
theorem dX12_startOf_21 : decode mX12_startOf.2.1 21 = .ok (.iconst 4, 1) := by decide +kernel
theorem dX12_startOf_22 : decode mX12_startOf.2.1 22 = .ok (.iload_n 1, 1) := by decide +kernel
theorem dX12_startOf_23 : decode mX12_startOf.2.1 23 = .ok (.imul, 1) := by decide +kernel
theorem dX12_startOf_24 : decode mX12_startOf.2.1 24 = .ok (.iaload, 1) := by decide +kernel
theorem dX12_startOf_25 : decode mX12_startOf.2.1 25 = .ok (.iadd, 1) := by decide +kernel
theorem dX12_startOf_26 : decode mX12_startOf.2.1 26 = .ok (.ireturn, 1) := by decide +kernel
abbrev mX12_starts : gz_M := (yX12_starts, cX12_starts, 4, none)
theorem dX12_starts_0 : decode mX12_starts.2.1 0 = .ok (.aload_n 0, 1) := by decide +kernel
theorem dX12_starts_1 : decode mX12_starts.2.1 1 = .ok (.aload_n 1, 1) := by decide +kernel
theorem dX12_starts_2 : decode mX12_starts.2.1 2 = .ok (.putfield 23, 3) := by decide +kernel
theorem dX12_starts_5 : decode mX12_starts.2.1 5 = .ok (.aload_n 0, 1) := by decide +kernel
theorem dX12_starts_6 : decode mX12_starts.2.1 6 = .ok (.iload_n 2, 1) := by decide +kernel
theorem dX12_starts_7 : decode mX12_starts.2.1 7 = .ok (.putfield 133, 3) := by decide +kernel
theorem dX12_starts_10 : decode mX12_starts.2.1 10 = .ok (.aload_n 0, 1) := by decide +kernel
theorem dX12_starts_11 : decode mX12_starts.2.1 11 = .ok (.iload_n 3, 1) := by decide +kernel
theorem dX12_starts_12 : decode mX12_starts.2.1 12 = .ok (.putfield 130, 3) := by decide +kernel
theorem dX12_starts_15 : decode mX12_starts.2.1 15 = .ok (.aload_n 0, 1) := by decide +kernel
theorem dX12_starts_16 : decode mX12_starts.2.1 16 = .ok (.iconst 0, 1) := by decide +kernel
theorem dX12_starts_17 : decode mX12_starts.2.1 17 = .ok (.putfield 127, 3) := by decide +kernel
theorem dX12_starts_20 : decode mX12_starts.2.1 20 = .ok (.aload_n 0, 1) := by decide +kernel
theorem dX12_starts_21 : decode mX12_starts.2.1 21 = .ok (.iconst (-1), 1) := by decide +kernel
theorem dX12_starts_22 : decode mX12_starts.2.1 22 = .ok (.putfield 136, 3) := by decide +kernel
theorem dX12_starts_25 : decode mX12_starts.2.1 25 = .ok (.return_, 1) := by decide +kernel
abbrev mX12_step : gz_M := (yX12_step, cX12_step, 4, some .int)
theorem dX12_step_0 : decode mX12_step.2.1 0 = .ok (.aload_n 0, 1) := by decide +kernel
theorem dX12_step_1 : decode mX12_step.2.1 1 = .ok (.iconst 0, 1) := by decide +kernel
theorem dX12_step_2 : decode mX12_step.2.1 2 = .ok (.putfield 104, 3) := by decide +kernel
theorem dX12_step_5 : decode mX12_step.2.1 5 = .ok (.aload_n 0, 1) := by decide +kernel
theorem dX12_step_6 : decode mX12_step.2.1 6 = .ok (.iload_n 1, 1) := by decide +kernel
theorem dX12_step_7 : decode mX12_step.2.1 7 = .ok (.invokevirtual 430, 3) := by decide +kernel
theorem dX12_step_10 : decode mX12_step.2.1 10 = .ok (.ifCond .eq 51, 3) := by decide +kernel
theorem dX12_step_13 : decode mX12_step.2.1 13 = .ok (.iload_n 2, 1) := by decide +kernel
theorem dX12_step_14 : decode mX12_step.2.1 14 = .ok (.i2l, 1) := by decide +kernel
theorem dX12_step_15 : decode mX12_step.2.1 15 = .ok (.lconst 0, 1) := by decide +kernel
theorem dX12_step_16 : decode mX12_step.2.1 16 = .ok (.aload_n 0, 1) := by decide +kernel
theorem dX12_step_17 : decode mX12_step.2.1 17 = .ok (.getfield 61, 3) := by decide +kernel
theorem dX12_step_20 : decode mX12_step.2.1 20 = .ok (.iload_n 1, 1) := by decide +kernel
theorem dX12_step_21 : decode mX12_step.2.1 21 = .ok (.iaload, 1) := by decide +kernel
theorem dX12_step_22 : decode mX12_step.2.1 22 = .ok (.iconst 1, 1) := by decide +kernel
theorem dX12_step_23 : decode mX12_step.2.1 23 = .ok (.isub, 1) := by decide +kernel
theorem dX12_step_24 : decode mX12_step.2.1 24 = .ok (.i2l, 1) := by decide +kernel
theorem dX12_step_25 : decode mX12_step.2.1 25 = .ok (.invokestatic 225, 3) := by decide +kernel
theorem dX12_step_28 : decode mX12_step.2.1 28 = .ok (.ifCond .eq 33, 3) := by decide +kernel
theorem dX12_step_31 : decode mX12_step.2.1 31 = .ok (.iload_n 3, 1) := by decide +kernel
theorem dX12_step_32 : decode mX12_step.2.1 32 = .ok (.i2l, 1) := by decide +kernel
theorem dX12_step_33 : decode mX12_step.2.1 33 = .ok (.lconst 0, 1) := by decide +kernel
theorem dX12_step_34 : decode mX12_step.2.1 34 = .ok (.ldc2_w 284, 3) := by decide +kernel
theorem dX12_step_37 : decode mX12_step.2.1 37 = .ok (.invokestatic 225, 3) := by decide +kernel
theorem dX12_step_40 : decode mX12_step.2.1 40 = .ok (.ifCond .eq 21, 3) := by decide +kernel
theorem dX12_step_43 : decode mX12_step.2.1 43 = .ok (.aload_n 0, 1) := by decide +kernel
theorem dX12_step_44 : decode mX12_step.2.1 44 = .ok (.getfield 58, 3) := by decide +kernel
theorem dX12_step_47 : decode mX12_step.2.1 47 = .ok (.iconst 3, 1) := by decide +kernel
theorem dX12_step_48 : decode mX12_step.2.1 48 = .ok (.bipush 16, 2) := by decide +kernel
theorem dX12_step_50 : decode mX12_step.2.1 50 = .ok (.iload_n 1, 1) := by decide +kernel
theorem dX12_step_51 : decode mX12_step.2.1 51 = .ok (.imul, 1) := by decide +kernel
theorem dX12_step_52 : decode mX12_step.2.1 52 = .ok (.iload_n 2, 1) := by decide +kernel
theorem dX12_step_53 : decode mX12_step.2.1 53 = .ok (.iadd, 1) := by decide +kernel
theorem dX12_step_54 : decode mX12_step.2.1 54 = .ok (.imul, 1) := by decide +kernel
theorem dX12_step_55 : decode mX12_step.2.1 55 = .ok (.iload_n 3, 1) := by decide +kernel
theorem dX12_step_56 : decode mX12_step.2.1 56 = .ok (.iadd, 1) := by decide +kernel
theorem dX12_step_57 : decode mX12_step.2.1 57 = .ok (.iaload, 1) := by decide +kernel
theorem dX12_step_58 : decode mX12_step.2.1 58 = .ok (.goto 6, 3) := by decide +kernel
theorem dX12_step_61 : decode mX12_step.2.1 61 = .ok (.ldc_w 433, 3) := by decide +kernel
theorem dX12_step_64 : decode mX12_step.2.1 64 = .ok (.ireturn, 1) := by decide +kernel
abbrev mX12_stone : gz_M := (yX12_stone, cX12_stone, 2, some .int)
theorem dX12_stone_0 : decode mX12_stone.2.1 0 = .ok (.aload_n 0, 1) := by decide +kernel
theorem dX12_stone_1 : decode mX12_stone.2.1 1 = .ok (.iconst 0, 1) := by decide +kernel
theorem dX12_stone_2 : decode mX12_stone.2.1 2 = .ok (.putfield 104, 3) := by decide +kernel
theorem dX12_stone_5 : decode mX12_stone.2.1 5 = .ok (.aload_n 0, 1) := by decide +kernel
theorem dX12_stone_6 : decode mX12_stone.2.1 6 = .ok (.iload_n 1, 1) := by decide +kernel
theorem dX12_stone_7 : decode mX12_stone.2.1 7 = .ok (.invokevirtual 373, 3) := by decide +kernel
theorem dX12_stone_10 : decode mX12_stone.2.1 10 = .ok (.ifCond .eq 36, 3) := by decide +kernel
theorem dX12_stone_13 : decode mX12_stone.2.1 13 = .ok (.aload_n 0, 1) := by decide +kernel
theorem dX12_stone_14 : decode mX12_stone.2.1 14 = .ok (.getfield 64, 3) := by decide +kernel
theorem dX12_stone_17 : decode mX12_stone.2.1 17 = .ok (.iload_n 1, 1) := by decide +kernel
theorem dX12_stone_18 : decode mX12_stone.2.1 18 = .ok (.iaload, 1) := by decide +kernel
theorem dX12_stone_19 : decode mX12_stone.2.1 19 = .ok (.iconst 1, 1) := by decide +kernel
theorem dX12_stone_20 : decode mX12_stone.2.1 20 = .ok (.if_icmp .gt 26, 3) := by decide +kernel
theorem dX12_stone_23 : decode mX12_stone.2.1 23 = .ok (.aload_n 0, 1) := by decide +kernel
theorem dX12_stone_24 : decode mX12_stone.2.1 24 = .ok (.aload_n 0, 1) := by decide +kernel
theorem dX12_stone_25 : decode mX12_stone.2.1 25 = .ok (.getfield 64, 3) := by decide +kernel
theorem dX12_stone_28 : decode mX12_stone.2.1 28 = .ok (.iload_n 1, 1) := by decide +kernel
theorem dX12_stone_29 : decode mX12_stone.2.1 29 = .ok (.invokevirtual 391, 3) := by decide +kernel
theorem dX12_stone_32 : decode mX12_stone.2.1 32 = .ok (.ifCond .ne 14, 3) := by decide +kernel
theorem dX12_stone_35 : decode mX12_stone.2.1 35 = .ok (.aload_n 0, 1) := by decide +kernel
theorem dX12_stone_36 : decode mX12_stone.2.1 36 = .ok (.getfield 64, 3) := by decide +kernel
theorem dX12_stone_39 : decode mX12_stone.2.1 39 = .ok (.bipush 48, 2) := by decide +kernel
theorem dX12_stone_41 : decode mX12_stone.2.1 41 = .ok (.iaload, 1) := by decide +kernel
theorem dX12_stone_42 : decode mX12_stone.2.1 42 = .ok (.iconst 2, 1) := by decide +kernel
theorem dX12_stone_43 : decode mX12_stone.2.1 43 = .ok (.if_icmp .ge 5, 3) := by decide +kernel
theorem dX12_stone_46 : decode mX12_stone.2.1 46 = .ok (.iconst (-1), 1) := by decide +kernel
theorem dX12_stone_47 : decode mX12_stone.2.1 47 = .ok (.ireturn, 1) := by decide +kernel
theorem dX12_stone_48 : decode mX12_stone.2.1 48 = .ok (.aload_n 0, 1) := by decide +kernel
theorem dX12_stone_49 : decode mX12_stone.2.1 49 = .ok (.invokevirtual 380, 3) := by decide +kernel
theorem dX12_stone_52 : decode mX12_stone.2.1 52 = .ok (.aload_n 0, 1) := by decide +kernel
theorem dX12_stone_53 : decode mX12_stone.2.1 53 = .ok (.getfield 64, 3) := by decide +kernel
theorem dX12_stone_56 : decode mX12_stone.2.1 56 = .ok (.bipush 48, 2) := by decide +kernel
theorem dX12_stone_58 : decode mX12_stone.2.1 58 = .ok (.dup2, 1) := by decide +kernel
theorem dX12_stone_59 : decode mX12_stone.2.1 59 = .ok (.iaload, 1) := by decide +kernel
theorem dX12_stone_60 : decode mX12_stone.2.1 60 = .ok (.iconst 2, 1) := by decide +kernel
theorem dX12_stone_61 : decode mX12_stone.2.1 61 = .ok (.isub, 1) := by decide +kernel
theorem dX12_stone_62 : decode mX12_stone.2.1 62 = .ok (.iastore, 1) := by decide +kernel
theorem dX12_stone_63 : decode mX12_stone.2.1 63 = .ok (.aload_n 0, 1) := by decide +kernel
theorem dX12_stone_64 : decode mX12_stone.2.1 64 = .ok (.getfield 64, 3) := by decide +kernel
theorem dX12_stone_67 : decode mX12_stone.2.1 67 = .ok (.iload_n 1, 1) := by decide +kernel
theorem dX12_stone_68 : decode mX12_stone.2.1 68 = .ok (.iconst 1, 1) := by decide +kernel
theorem dX12_stone_69 : decode mX12_stone.2.1 69 = .ok (.aload_n 0, 1) := by decide +kernel
theorem dX12_stone_70 : decode mX12_stone.2.1 70 = .ok (.getfield 64, 3) := by decide +kernel
theorem dX12_stone_73 : decode mX12_stone.2.1 73 = .ok (.iload_n 1, 1) := by decide +kernel
theorem dX12_stone_74 : decode mX12_stone.2.1 74 = .ok (.iaload, 1) := by decide +kernel
theorem dX12_stone_75 : decode mX12_stone.2.1 75 = .ok (.isub, 1) := by decide +kernel
theorem dX12_stone_76 : decode mX12_stone.2.1 76 = .ok (.iastore, 1) := by decide +kernel
theorem dX12_stone_77 : decode mX12_stone.2.1 77 = .ok (.aload_n 0, 1) := by decide +kernel
theorem dX12_stone_78 : decode mX12_stone.2.1 78 = .ok (.getfield 64, 3) := by decide +kernel
theorem dX12_stone_81 : decode mX12_stone.2.1 81 = .ok (.iload_n 1, 1) := by decide +kernel
theorem dX12_stone_82 : decode mX12_stone.2.1 82 = .ok (.iaload, 1) := by decide +kernel
theorem dX12_stone_83 : decode mX12_stone.2.1 83 = .ok (.ireturn, 1) := by decide +kernel
abbrev mX12_stones : gz_M := (yX12_stones, cX12_stones, 6, some .int)
theorem dX12_stones_0 : decode mX12_stones.2.1 0 = .ok (.aload_n 0, 1) := by decide +kernel
theorem dX12_stones_1 : decode mX12_stones.2.1 1 = .ok (.iconst 0, 1) := by decide +kernel
theorem dX12_stones_2 : decode mX12_stones.2.1 2 = .ok (.putfield 104, 3) := by decide +kernel
theorem dX12_stones_5 : decode mX12_stones.2.1 5 = .ok (.aload_n 0, 1) := by decide +kernel
theorem dX12_stones_6 : decode mX12_stones.2.1 6 = .ok (.iload_n 1, 1) := by decide +kernel
theorem dX12_stones_7 : decode mX12_stones.2.1 7 = .ok (.iload_n 2, 1) := by decide +kernel
theorem dX12_stones_8 : decode mX12_stones.2.1 8 = .ok (.invokevirtual 449, 3) := by decide +kernel
theorem dX12_stones_11 : decode mX12_stones.2.1 11 = .ok (.ifCond .eq 26, 3) := by decide +kernel
theorem dX12_stones_14 : decode mX12_stones.2.1 14 = .ok (.iload_n 3, 1) := by decide +kernel
theorem dX12_stones_15 : decode mX12_stones.2.1 15 = .ok (.i2l, 1) := by decide +kernel
theorem dX12_stones_16 : decode mX12_stones.2.1 16 = .ok (.lconst 1, 1) := by decide +kernel
theorem dX12_stones_17 : decode mX12_stones.2.1 17 = .ok (.ldc2_w 471, 3) := by decide +kernel
theorem dX12_stones_20 : decode mX12_stones.2.1 20 = .ok (.invokestatic 225, 3) := by decide +kernel
theorem dX12_stones_23 : decode mX12_stones.2.1 23 = .ok (.ifCond .eq 14, 3) := by decide +kernel
theorem dX12_stones_26 : decode mX12_stones.2.1 26 = .ok (.iload 4, 2) := by decide +kernel
theorem dX12_stones_28 : decode mX12_stones.2.1 28 = .ok (.i2l, 1) := by decide +kernel
theorem dX12_stones_29 : decode mX12_stones.2.1 29 = .ok (.lconst 0, 1) := by decide +kernel
theorem dX12_stones_30 : decode mX12_stones.2.1 30 = .ok (.lconst 1, 1) := by decide +kernel
theorem dX12_stones_31 : decode mX12_stones.2.1 31 = .ok (.invokestatic 225, 3) := by decide +kernel
theorem dX12_stones_34 : decode mX12_stones.2.1 34 = .ok (.ifCond .ne 5, 3) := by decide +kernel
theorem dX12_stones_37 : decode mX12_stones.2.1 37 = .ok (.iconst (-1), 1) := by decide +kernel
theorem dX12_stones_38 : decode mX12_stones.2.1 38 = .ok (.ireturn, 1) := by decide +kernel
theorem dX12_stones_39 : decode mX12_stones.2.1 39 = .ok (.aload_n 0, 1) := by decide +kernel
theorem dX12_stones_40 : decode mX12_stones.2.1 40 = .ok (.iload_n 1, 1) := by decide +kernel
theorem dX12_stones_41 : decode mX12_stones.2.1 41 = .ok (.iload_n 2, 1) := by decide +kernel
theorem dX12_stones_42 : decode mX12_stones.2.1 42 = .ok (.iload_n 3, 1) := by decide +kernel
theorem dX12_stones_43 : decode mX12_stones.2.1 43 = .ok (.invokevirtual 473, 3) := by decide +kernel
theorem dX12_stones_46 : decode mX12_stones.2.1 46 = .ok (.istore 5, 2) := by decide +kernel
theorem dX12_stones_48 : decode mX12_stones.2.1 48 = .ok (.iload 5, 2) := by decide +kernel
theorem dX12_stones_50 : decode mX12_stones.2.1 50 = .ok (.iconst (-1), 1) := by decide +kernel
theorem dX12_stones_51 : decode mX12_stones.2.1 51 = .ok (.if_icmp .ne 5, 3) := by decide +kernel
theorem dX12_stones_54 : decode mX12_stones.2.1 54 = .ok (.iconst (-1), 1) := by decide +kernel
theorem dX12_stones_55 : decode mX12_stones.2.1 55 = .ok (.ireturn, 1) := by decide +kernel
theorem dX12_stones_56 : decode mX12_stones.2.1 56 = .ok (.iload 4, 2) := by decide +kernel
theorem dX12_stones_58 : decode mX12_stones.2.1 58 = .ok (.ifCond .ne 10, 3) := by decide +kernel
theorem dX12_stones_61 : decode mX12_stones.2.1 61 = .ok (.iload 5, 2) := by decide +kernel
theorem dX12_stones_63 : decode mX12_stones.2.1 63 = .ok (.ldc_w 469, 3) := by decide +kernel
theorem dX12_stones_66 : decode mX12_stones.2.1 66 = .ok (.idiv, 1) := by decide +kernel
theorem dX12_stones_67 : decode mX12_stones.2.1 67 = .ok (.ireturn, 1) := by decide +kernel
theorem dX12_stones_68 : decode mX12_stones.2.1 68 = .ok (.iload 5, 2) := by decide +kernel
theorem dX12_stones_70 : decode mX12_stones.2.1 70 = .ok (.ifCond .ne 7, 3) := by decide +kernel
theorem dX12_stones_73 : decode mX12_stones.2.1 73 = .ok (.iconst (-1), 1) := by decide +kernel
theorem dX12_stones_74 : decode mX12_stones.2.1 74 = .ok (.goto 9, 3) := by decide +kernel
theorem dX12_stones_77 : decode mX12_stones.2.1 77 = .ok (.iload 5, 2) := by decide +kernel
theorem dX12_stones_79 : decode mX12_stones.2.1 79 = .ok (.ldc_w 469, 3) := by decide +kernel
theorem dX12_stones_82 : decode mX12_stones.2.1 82 = .ok (.irem, 1) := by decide +kernel
theorem dX12_stones_83 : decode mX12_stones.2.1 83 = .ok (.ireturn, 1) := by decide +kernel
abbrev mX12_stonesOf : gz_M := (yX12_stonesOf, cX12_stonesOf, 6, some .int)
theorem dX12_stonesOf_0 : decode mX12_stonesOf.2.1 0 = .ok (.aload_n 0, 1) := by decide +kernel
theorem dX12_stonesOf_1 : decode mX12_stonesOf.2.1 1 = .ok (.iload_n 1, 1) := by decide +kernel
theorem dX12_stonesOf_2 : decode mX12_stonesOf.2.1 2 = .ok (.iload_n 2, 1) := by decide +kernel
theorem dX12_stonesOf_3 : decode mX12_stonesOf.2.1 3 = .ok (.iload_n 3, 1) := by decide +kernel
theorem dX12_stonesOf_4 : decode mX12_stonesOf.2.1 4 = .ok (.iconst (-1), 1) := by decide +kernel
theorem dX12_stonesOf_5 : decode mX12_stonesOf.2.1 5 = .ok (.iconst (-1), 1) := by decide +kernel
theorem dX12_stonesOf_6 : decode mX12_stonesOf.2.1 6 = .ok (.invokevirtual 462, 3) := by decide +kernel
theorem dX12_stonesOf_9 : decode mX12_stonesOf.2.1 9 = .ok (.ifCond .eq 5, 3) := by decide +kernel
theorem dX12_stonesOf_12 : decode mX12_stonesOf.2.1 12 = .ok (.iconst 0, 1) := by decide +kernel
theorem dX12_stonesOf_13 : decode mX12_stonesOf.2.1 13 = .ok (.ireturn, 1) := by decide +kernel
theorem dX12_stonesOf_14 : decode mX12_stonesOf.2.1 14 = .ok (.iconst 0, 1) := by decide +kernel
theorem dX12_stonesOf_15 : decode mX12_stonesOf.2.1 15 = .ok (.istore 4, 2) := by decide +kernel
theorem dX12_stonesOf_17 : decode mX12_stonesOf.2.1 17 = .ok (.iload 4, 2) := by decide +kernel
theorem dX12_stonesOf_19 : decode mX12_stonesOf.2.1 19 = .ok (.aload_n 0, 1) := by decide +kernel
theorem dX12_stonesOf_20 : decode mX12_stonesOf.2.1 20 = .ok (.invokevirtual 319, 3) := by decide +kernel
theorem dX12_stonesOf_23 : decode mX12_stonesOf.2.1 23 = .ok (.if_icmp .ge 38, 3) := by decide +kernel
theorem dX12_stonesOf_26 : decode mX12_stonesOf.2.1 26 = .ok (.aload_n 0, 1) := by decide +kernel
theorem dX12_stonesOf_27 : decode mX12_stonesOf.2.1 27 = .ok (.iload 4, 2) := by decide +kernel
theorem dX12_stonesOf_29 : decode mX12_stonesOf.2.1 29 = .ok (.invokevirtual 466, 3) := by decide +kernel
theorem dX12_stonesOf_32 : decode mX12_stonesOf.2.1 32 = .ok (.ifCond .eq 23, 3) := by decide +kernel
theorem dX12_stonesOf_35 : decode mX12_stonesOf.2.1 35 = .ok (.aload_n 0, 1) := by decide +kernel
theorem dX12_stonesOf_36 : decode mX12_stonesOf.2.1 36 = .ok (.iload_n 1, 1) := by decide +kernel
theorem dX12_stonesOf_37 : decode mX12_stonesOf.2.1 37 = .ok (.iload_n 2, 1) := by decide +kernel
theorem dX12_stonesOf_38 : decode mX12_stonesOf.2.1 38 = .ok (.iload_n 3, 1) := by decide +kernel
theorem dX12_stonesOf_39 : decode mX12_stonesOf.2.1 39 = .ok (.iload 4, 2) := by decide +kernel
theorem dX12_stonesOf_41 : decode mX12_stonesOf.2.1 41 = .ok (.iconst (-1), 1) := by decide +kernel
theorem dX12_stonesOf_42 : decode mX12_stonesOf.2.1 42 = .ok (.invokevirtual 462, 3) := by decide +kernel
theorem dX12_stonesOf_45 : decode mX12_stonesOf.2.1 45 = .ok (.ifCond .eq 10, 3) := by decide +kernel
theorem dX12_stonesOf_48 : decode mX12_stonesOf.2.1 48 = .ok (.ldc_w 469, 3) := by decide +kernel
theorem dX12_stonesOf_51 : decode mX12_stonesOf.2.1 51 = .ok (.iload 4, 2) := by decide +kernel
theorem dX12_stonesOf_53 : decode mX12_stonesOf.2.1 53 = .ok (.iadd, 1) := by decide +kernel
theorem dX12_stonesOf_54 : decode mX12_stonesOf.2.1 54 = .ok (.ireturn, 1) := by decide +kernel
theorem dX12_stonesOf_55 : decode mX12_stonesOf.2.1 55 = .ok (.iinc 4 1, 3) := by decide +kernel
theorem dX12_stonesOf_58 : decode mX12_stonesOf.2.1 58 = .ok (.goto (-41), 3) := by decide +kernel
theorem dX12_stonesOf_61 : decode mX12_stonesOf.2.1 61 = .ok (.iconst 0, 1) := by decide +kernel
theorem dX12_stonesOf_62 : decode mX12_stonesOf.2.1 62 = .ok (.istore 4, 2) := by decide +kernel
theorem dX12_stonesOf_64 : decode mX12_stonesOf.2.1 64 = .ok (.iload 4, 2) := by decide +kernel
theorem dX12_stonesOf_66 : decode mX12_stonesOf.2.1 66 = .ok (.aload_n 0, 1) := by decide +kernel
theorem dX12_stonesOf_67 : decode mX12_stonesOf.2.1 67 = .ok (.invokevirtual 319, 3) := by decide +kernel
theorem dX12_stonesOf_70 : decode mX12_stonesOf.2.1 70 = .ok (.if_icmp .ge 75, 3) := by decide +kernel
theorem dX12_stonesOf_73 : decode mX12_stonesOf.2.1 73 = .ok (.iload 4, 2) := by decide +kernel
theorem dX12_stonesOf_75 : decode mX12_stonesOf.2.1 75 = .ok (.iconst 1, 1) := by decide +kernel
theorem dX12_stonesOf_76 : decode mX12_stonesOf.2.1 76 = .ok (.iadd, 1) := by decide +kernel
theorem dX12_stonesOf_77 : decode mX12_stonesOf.2.1 77 = .ok (.istore 5, 2) := by decide +kernel
theorem dX12_stonesOf_79 : decode mX12_stonesOf.2.1 79 = .ok (.iload 5, 2) := by decide +kernel
theorem dX12_stonesOf_81 : decode mX12_stonesOf.2.1 81 = .ok (.aload_n 0, 1) := by decide +kernel
theorem dX12_stonesOf_82 : decode mX12_stonesOf.2.1 82 = .ok (.invokevirtual 319, 3) := by decide +kernel
theorem dX12_stonesOf_85 : decode mX12_stonesOf.2.1 85 = .ok (.if_icmp .ge 54, 3) := by decide +kernel
theorem dX12_stonesOf_88 : decode mX12_stonesOf.2.1 88 = .ok (.aload_n 0, 1) := by decide +kernel
theorem dX12_stonesOf_89 : decode mX12_stonesOf.2.1 89 = .ok (.iload 4, 2) := by decide +kernel
theorem dX12_stonesOf_91 : decode mX12_stonesOf.2.1 91 = .ok (.invokevirtual 466, 3) := by decide +kernel
theorem dX12_stonesOf_94 : decode mX12_stonesOf.2.1 94 = .ok (.ifCond .eq 39, 3) := by decide +kernel
theorem dX12_stonesOf_97 : decode mX12_stonesOf.2.1 97 = .ok (.aload_n 0, 1) := by decide +kernel
theorem dX12_stonesOf_98 : decode mX12_stonesOf.2.1 98 = .ok (.iload 5, 2) := by decide +kernel
theorem dX12_stonesOf_100 : decode mX12_stonesOf.2.1 100 = .ok (.invokevirtual 466, 3) := by decide +kernel
theorem dX12_stonesOf_103 : decode mX12_stonesOf.2.1 103 = .ok (.ifCond .eq 30, 3) := by decide +kernel
theorem dX12_stonesOf_106 : decode mX12_stonesOf.2.1 106 = .ok (.aload_n 0, 1) := by decide +kernel
theorem dX12_stonesOf_107 : decode mX12_stonesOf.2.1 107 = .ok (.iload_n 1, 1) := by decide +kernel
theorem dX12_stonesOf_108 : decode mX12_stonesOf.2.1 108 = .ok (.iload_n 2, 1) := by decide +kernel
theorem dX12_stonesOf_109 : decode mX12_stonesOf.2.1 109 = .ok (.iload_n 3, 1) := by decide +kernel
theorem dX12_stonesOf_110 : decode mX12_stonesOf.2.1 110 = .ok (.iload 4, 2) := by decide +kernel
theorem dX12_stonesOf_112 : decode mX12_stonesOf.2.1 112 = .ok (.iload 5, 2) := by decide +kernel
theorem dX12_stonesOf_114 : decode mX12_stonesOf.2.1 114 = .ok (.invokevirtual 462, 3) := by decide +kernel
theorem dX12_stonesOf_117 : decode mX12_stonesOf.2.1 117 = .ok (.ifCond .eq 16, 3) := by decide +kernel
theorem dX12_stonesOf_120 : decode mX12_stonesOf.2.1 120 = .ok (.ldc_w 470, 3) := by decide +kernel
theorem dX12_stonesOf_123 : decode mX12_stonesOf.2.1 123 = .ok (.bipush 100, 2) := by decide +kernel
theorem dX12_stonesOf_125 : decode mX12_stonesOf.2.1 125 = .ok (.iload 4, 2) := by decide +kernel
theorem dX12_stonesOf_127 : decode mX12_stonesOf.2.1 127 = .ok (.imul, 1) := by decide +kernel
theorem dX12_stonesOf_128 : decode mX12_stonesOf.2.1 128 = .ok (.iadd, 1) := by decide +kernel
theorem dX12_stonesOf_129 : decode mX12_stonesOf.2.1 129 = .ok (.iload 5, 2) := by decide +kernel
theorem dX12_stonesOf_131 : decode mX12_stonesOf.2.1 131 = .ok (.iadd, 1) := by decide +kernel
theorem dX12_stonesOf_132 : decode mX12_stonesOf.2.1 132 = .ok (.ireturn, 1) := by decide +kernel
theorem dX12_stonesOf_133 : decode mX12_stonesOf.2.1 133 = .ok (.iinc 5 1, 3) := by decide +kernel
theorem dX12_stonesOf_136 : decode mX12_stonesOf.2.1 136 = .ok (.goto (-57), 3) := by decide +kernel
theorem dX12_stonesOf_139 : decode mX12_stonesOf.2.1 139 = .ok (.iinc 4 1, 3) := by decide +kernel
theorem dX12_stonesOf_142 : decode mX12_stonesOf.2.1 142 = .ok (.goto (-78), 3) := by decide +kernel
theorem dX12_stonesOf_145 : decode mX12_stonesOf.2.1 145 = .ok (.iconst (-1), 1) := by decide +kernel
theorem dX12_stonesOf_146 : decode mX12_stonesOf.2.1 146 = .ok (.ireturn, 1) := by decide +kernel
abbrev mX12_sum : gz_M := (yX12_sum, cX12_sum, 5, some .int)
theorem dX12_sum_0 : decode mX12_sum.2.1 0 = .ok (.aload_n 0, 1) := by decide +kernel
theorem dX12_sum_1 : decode mX12_sum.2.1 1 = .ok (.invokevirtual 186, 3) := by decide +kernel
theorem dX12_sum_4 : decode mX12_sum.2.1 4 = .ok (.istore_n 1, 1) := by decide +kernel
theorem dX12_sum_5 : decode mX12_sum.2.1 5 = .ok (.aload_n 0, 1) := by decide +kernel
theorem dX12_sum_6 : decode mX12_sum.2.1 6 = .ok (.getfield 136, 3) := by decide +kernel
theorem dX12_sum_9 : decode mX12_sum.2.1 9 = .ok (.iconst (-1), 1) := by decide +kernel
theorem dX12_sum_10 : decode mX12_sum.2.1 10 = .ok (.if_icmp .ne 74, 3) := by decide +kernel
theorem dX12_sum_13 : decode mX12_sum.2.1 13 = .ok (.aload_n 0, 1) := by decide +kernel
theorem dX12_sum_14 : decode mX12_sum.2.1 14 = .ok (.invokevirtual 146, 3) := by decide +kernel
theorem dX12_sum_17 : decode mX12_sum.2.1 17 = .ok (.bipush 43, 2) := by decide +kernel
theorem dX12_sum_19 : decode mX12_sum.2.1 19 = .ok (.if_icmp .eq 12, 3) := by decide +kernel
theorem dX12_sum_22 : decode mX12_sum.2.1 22 = .ok (.aload_n 0, 1) := by decide +kernel
theorem dX12_sum_23 : decode mX12_sum.2.1 23 = .ok (.invokevirtual 146, 3) := by decide +kernel
theorem dX12_sum_26 : decode mX12_sum.2.1 26 = .ok (.bipush 45, 2) := by decide +kernel
theorem dX12_sum_28 : decode mX12_sum.2.1 28 = .ok (.if_icmp .ne 56, 3) := by decide +kernel
theorem dX12_sum_31 : decode mX12_sum.2.1 31 = .ok (.aload_n 0, 1) := by decide +kernel
theorem dX12_sum_32 : decode mX12_sum.2.1 32 = .ok (.invokevirtual 146, 3) := by decide +kernel
theorem dX12_sum_35 : decode mX12_sum.2.1 35 = .ok (.bipush 43, 2) := by decide +kernel
theorem dX12_sum_37 : decode mX12_sum.2.1 37 = .ok (.if_icmp .ne 7, 3) := by decide +kernel
theorem dX12_sum_40 : decode mX12_sum.2.1 40 = .ok (.iconst 1, 1) := by decide +kernel
theorem dX12_sum_41 : decode mX12_sum.2.1 41 = .ok (.goto 4, 3) := by decide +kernel
theorem dX12_sum_44 : decode mX12_sum.2.1 44 = .ok (.iconst 0, 1) := by decide +kernel
theorem dX12_sum_45 : decode mX12_sum.2.1 45 = .ok (.istore_n 2, 1) := by decide +kernel
theorem dX12_sum_46 : decode mX12_sum.2.1 46 = .ok (.aload_n 0, 1) := by decide +kernel
theorem dX12_sum_47 : decode mX12_sum.2.1 47 = .ok (.dup, 1) := by decide +kernel
theorem dX12_sum_48 : decode mX12_sum.2.1 48 = .ok (.getfield 127, 3) := by decide +kernel
theorem dX12_sum_51 : decode mX12_sum.2.1 51 = .ok (.iconst 1, 1) := by decide +kernel
theorem dX12_sum_52 : decode mX12_sum.2.1 52 = .ok (.iadd, 1) := by decide +kernel
theorem dX12_sum_53 : decode mX12_sum.2.1 53 = .ok (.putfield 127, 3) := by decide +kernel
theorem dX12_sum_56 : decode mX12_sum.2.1 56 = .ok (.aload_n 0, 1) := by decide +kernel
theorem dX12_sum_57 : decode mX12_sum.2.1 57 = .ok (.invokevirtual 186, 3) := by decide +kernel
theorem dX12_sum_60 : decode mX12_sum.2.1 60 = .ok (.i2l, 1) := by decide +kernel
theorem dX12_sum_61 : decode mX12_sum.2.1 61 = .ok (.lstore_n 3, 1) := by decide +kernel
theorem dX12_sum_62 : decode mX12_sum.2.1 62 = .ok (.iload_n 2, 1) := by decide +kernel
theorem dX12_sum_63 : decode mX12_sum.2.1 63 = .ok (.ifCond .eq 10, 3) := by decide +kernel
theorem dX12_sum_66 : decode mX12_sum.2.1 66 = .ok (.iload_n 1, 1) := by decide +kernel
theorem dX12_sum_67 : decode mX12_sum.2.1 67 = .ok (.i2l, 1) := by decide +kernel
theorem dX12_sum_68 : decode mX12_sum.2.1 68 = .ok (.lload_n 3, 1) := by decide +kernel
theorem dX12_sum_69 : decode mX12_sum.2.1 69 = .ok (.ladd, 1) := by decide +kernel
theorem dX12_sum_70 : decode mX12_sum.2.1 70 = .ok (.goto 7, 3) := by decide +kernel
theorem dX12_sum_73 : decode mX12_sum.2.1 73 = .ok (.iload_n 1, 1) := by decide +kernel
theorem dX12_sum_74 : decode mX12_sum.2.1 74 = .ok (.i2l, 1) := by decide +kernel
theorem dX12_sum_75 : decode mX12_sum.2.1 75 = .ok (.lload_n 3, 1) := by decide +kernel
theorem dX12_sum_76 : decode mX12_sum.2.1 76 = .ok (.lsub, 1) := by decide +kernel
theorem dX12_sum_77 : decode mX12_sum.2.1 77 = .ok (.invokestatic 182, 3) := by decide +kernel
theorem dX12_sum_80 : decode mX12_sum.2.1 80 = .ok (.istore_n 1, 1) := by decide +kernel
theorem dX12_sum_81 : decode mX12_sum.2.1 81 = .ok (.goto (-76), 3) := by decide +kernel
theorem dX12_sum_84 : decode mX12_sum.2.1 84 = .ok (.iload_n 1, 1) := by decide +kernel
theorem dX12_sum_85 : decode mX12_sum.2.1 85 = .ok (.ireturn, 1) := by decide +kernel
abbrev mX12_sweep : gz_M := (yX12_sweep, cX12_sweep, 2, some .int)
theorem dX12_sweep_0 : decode mX12_sweep.2.1 0 = .ok (.aload_n 0, 1) := by decide +kernel
theorem dX12_sweep_1 : decode mX12_sweep.2.1 1 = .ok (.iconst 0, 1) := by decide +kernel
theorem dX12_sweep_2 : decode mX12_sweep.2.1 2 = .ok (.putfield 104, 3) := by decide +kernel
theorem dX12_sweep_5 : decode mX12_sweep.2.1 5 = .ok (.aload_n 0, 1) := by decide +kernel
theorem dX12_sweep_6 : decode mX12_sweep.2.1 6 = .ok (.aload_n 0, 1) := by decide +kernel
theorem dX12_sweep_7 : decode mX12_sweep.2.1 7 = .ok (.getfield 64, 3) := by decide +kernel
theorem dX12_sweep_10 : decode mX12_sweep.2.1 10 = .ok (.iload_n 1, 1) := by decide +kernel
theorem dX12_sweep_11 : decode mX12_sweep.2.1 11 = .ok (.invokevirtual 400, 3) := by decide +kernel
theorem dX12_sweep_14 : decode mX12_sweep.2.1 14 = .ok (.ifCond .ne 5, 3) := by decide +kernel
theorem dX12_sweep_17 : decode mX12_sweep.2.1 17 = .ok (.iconst (-1), 1) := by decide +kernel
theorem dX12_sweep_18 : decode mX12_sweep.2.1 18 = .ok (.ireturn, 1) := by decide +kernel
theorem dX12_sweep_19 : decode mX12_sweep.2.1 19 = .ok (.aload_n 0, 1) := by decide +kernel
theorem dX12_sweep_20 : decode mX12_sweep.2.1 20 = .ok (.invokevirtual 380, 3) := by decide +kernel
theorem dX12_sweep_23 : decode mX12_sweep.2.1 23 = .ok (.aload_n 0, 1) := by decide +kernel
theorem dX12_sweep_24 : decode mX12_sweep.2.1 24 = .ok (.aload_n 0, 1) := by decide +kernel
theorem dX12_sweep_25 : decode mX12_sweep.2.1 25 = .ok (.getfield 64, 3) := by decide +kernel
theorem dX12_sweep_28 : decode mX12_sweep.2.1 28 = .ok (.iload_n 1, 1) := by decide +kernel
theorem dX12_sweep_29 : decode mX12_sweep.2.1 29 = .ok (.invokevirtual 403, 3) := by decide +kernel
theorem dX12_sweep_32 : decode mX12_sweep.2.1 32 = .ok (.ireturn, 1) := by decide +kernel
abbrev mX12_sweeps : gz_M := (yX12_sweeps, cX12_sweeps, 5, some .int)
theorem dX12_sweeps_0 : decode mX12_sweeps.2.1 0 = .ok (.aload_n 0, 1) := by decide +kernel
theorem dX12_sweeps_1 : decode mX12_sweeps.2.1 1 = .ok (.aload_n 1, 1) := by decide +kernel
theorem dX12_sweeps_2 : decode mX12_sweeps.2.1 2 = .ok (.iload_n 2, 1) := by decide +kernel
theorem dX12_sweeps_3 : decode mX12_sweeps.2.1 3 = .ok (.invokevirtual 391, 3) := by decide +kernel
theorem dX12_sweeps_6 : decode mX12_sweeps.2.1 6 = .ok (.istore_n 3, 1) := by decide +kernel
theorem dX12_sweeps_7 : decode mX12_sweeps.2.1 7 = .ok (.aload_n 1, 1) := by decide +kernel
theorem dX12_sweeps_8 : decode mX12_sweeps.2.1 8 = .ok (.bipush 48, 2) := by decide +kernel
theorem dX12_sweeps_10 : decode mX12_sweeps.2.1 10 = .ok (.dup2, 1) := by decide +kernel
theorem dX12_sweeps_11 : decode mX12_sweeps.2.1 11 = .ok (.iaload, 1) := by decide +kernel
theorem dX12_sweeps_12 : decode mX12_sweeps.2.1 12 = .ok (.iconst 1, 1) := by decide +kernel
theorem dX12_sweeps_13 : decode mX12_sweeps.2.1 13 = .ok (.isub, 1) := by decide +kernel
theorem dX12_sweeps_14 : decode mX12_sweeps.2.1 14 = .ok (.iastore, 1) := by decide +kernel
theorem dX12_sweeps_15 : decode mX12_sweeps.2.1 15 = .ok (.iconst 0, 1) := by decide +kernel
theorem dX12_sweeps_16 : decode mX12_sweeps.2.1 16 = .ok (.istore 4, 2) := by decide +kernel
theorem dX12_sweeps_18 : decode mX12_sweeps.2.1 18 = .ok (.iload 4, 2) := by decide +kernel
theorem dX12_sweeps_20 : decode mX12_sweeps.2.1 20 = .ok (.aload_n 0, 1) := by decide +kernel
theorem dX12_sweeps_21 : decode mX12_sweeps.2.1 21 = .ok (.getfield 303, 3) := by decide +kernel
theorem dX12_sweeps_24 : decode mX12_sweeps.2.1 24 = .ok (.if_icmp .ge 30, 3) := by decide +kernel
theorem dX12_sweeps_27 : decode mX12_sweeps.2.1 27 = .ok (.iload_n 3, 1) := by decide +kernel
theorem dX12_sweeps_28 : decode mX12_sweeps.2.1 28 = .ok (.iload 4, 2) := by decide +kernel
theorem dX12_sweeps_30 : decode mX12_sweeps.2.1 30 = .ok (.invokestatic 237, 3) := by decide +kernel
theorem dX12_sweeps_33 : decode mX12_sweeps.2.1 33 = .ok (.ifCond .eq 15, 3) := by decide +kernel
theorem dX12_sweeps_36 : decode mX12_sweeps.2.1 36 = .ok (.aload_n 1, 1) := by decide +kernel
theorem dX12_sweeps_37 : decode mX12_sweeps.2.1 37 = .ok (.bipush 30, 2) := by decide +kernel
theorem dX12_sweeps_39 : decode mX12_sweeps.2.1 39 = .ok (.iconst 4, 1) := by decide +kernel
theorem dX12_sweeps_40 : decode mX12_sweeps.2.1 40 = .ok (.iload 4, 2) := by decide +kernel
theorem dX12_sweeps_42 : decode mX12_sweeps.2.1 42 = .ok (.imul, 1) := by decide +kernel
theorem dX12_sweeps_43 : decode mX12_sweeps.2.1 43 = .ok (.iadd, 1) := by decide +kernel
theorem dX12_sweeps_44 : decode mX12_sweeps.2.1 44 = .ok (.iconst 3, 1) := by decide +kernel
theorem dX12_sweeps_45 : decode mX12_sweeps.2.1 45 = .ok (.iadd, 1) := by decide +kernel
theorem dX12_sweeps_46 : decode mX12_sweeps.2.1 46 = .ok (.iconst 2, 1) := by decide +kernel
theorem dX12_sweeps_47 : decode mX12_sweeps.2.1 47 = .ok (.iastore, 1) := by decide +kernel
theorem dX12_sweeps_48 : decode mX12_sweeps.2.1 48 = .ok (.iinc 4 1, 3) := by decide +kernel
theorem dX12_sweeps_51 : decode mX12_sweeps.2.1 51 = .ok (.goto (-33), 3) := by decide +kernel
theorem dX12_sweeps_54 : decode mX12_sweeps.2.1 54 = .ok (.iload_n 3, 1) := by decide +kernel
theorem dX12_sweeps_55 : decode mX12_sweeps.2.1 55 = .ok (.invokestatic 395, 3) := by decide +kernel
theorem dX12_sweeps_58 : decode mX12_sweeps.2.1 58 = .ok (.ireturn, 1) := by decide +kernel
abbrev mX12_takes : gz_M := (yX12_takes, cX12_takes, 2, some .boolean)
theorem dX12_takes_0 : decode mX12_takes.2.1 0 = .ok (.aload_n 0, 1) := by decide +kernel
theorem dX12_takes_1 : decode mX12_takes.2.1 1 = .ok (.getfield 136, 3) := by decide +kernel
theorem dX12_takes_4 : decode mX12_takes.2.1 4 = .ok (.iconst (-1), 1) := by decide +kernel
theorem dX12_takes_5 : decode mX12_takes.2.1 5 = .ok (.if_icmp .ne 11, 3) := by decide +kernel
theorem dX12_takes_8 : decode mX12_takes.2.1 8 = .ok (.aload_n 0, 1) := by decide +kernel
theorem dX12_takes_9 : decode mX12_takes.2.1 9 = .ok (.invokevirtual 146, 3) := by decide +kernel
theorem dX12_takes_12 : decode mX12_takes.2.1 12 = .ok (.iload_n 1, 1) := by decide +kernel
theorem dX12_takes_13 : decode mX12_takes.2.1 13 = .ok (.if_icmp .eq 8, 3) := by decide +kernel
theorem dX12_takes_16 : decode mX12_takes.2.1 16 = .ok (.aload_n 0, 1) := by decide +kernel
theorem dX12_takes_17 : decode mX12_takes.2.1 17 = .ok (.invokevirtual 142, 3) := by decide +kernel
theorem dX12_takes_20 : decode mX12_takes.2.1 20 = .ok (.ireturn, 1) := by decide +kernel
theorem dX12_takes_21 : decode mX12_takes.2.1 21 = .ok (.aload_n 0, 1) := by decide +kernel
theorem dX12_takes_22 : decode mX12_takes.2.1 22 = .ok (.dup, 1) := by decide +kernel
theorem dX12_takes_23 : decode mX12_takes.2.1 23 = .ok (.getfield 127, 3) := by decide +kernel
theorem dX12_takes_26 : decode mX12_takes.2.1 26 = .ok (.iconst 1, 1) := by decide +kernel
theorem dX12_takes_27 : decode mX12_takes.2.1 27 = .ok (.iadd, 1) := by decide +kernel
theorem dX12_takes_28 : decode mX12_takes.2.1 28 = .ok (.putfield 127, 3) := by decide +kernel
theorem dX12_takes_31 : decode mX12_takes.2.1 31 = .ok (.iconst 1, 1) := by decide +kernel
theorem dX12_takes_32 : decode mX12_takes.2.1 32 = .ok (.ireturn, 1) := by decide +kernel
abbrev mX12_term : gz_M := (yX12_term, cX12_term, 5, some .int)
theorem dX12_term_0 : decode mX12_term.2.1 0 = .ok (.aload_n 0, 1) := by decide +kernel
theorem dX12_term_1 : decode mX12_term.2.1 1 = .ok (.invokevirtual 179, 3) := by decide +kernel
theorem dX12_term_4 : decode mX12_term.2.1 4 = .ok (.istore_n 1, 1) := by decide +kernel
theorem dX12_term_5 : decode mX12_term.2.1 5 = .ok (.aload_n 0, 1) := by decide +kernel
theorem dX12_term_6 : decode mX12_term.2.1 6 = .ok (.getfield 136, 3) := by decide +kernel
theorem dX12_term_9 : decode mX12_term.2.1 9 = .ok (.iconst (-1), 1) := by decide +kernel
theorem dX12_term_10 : decode mX12_term.2.1 10 = .ok (.if_icmp .ne 84, 3) := by decide +kernel
theorem dX12_term_13 : decode mX12_term.2.1 13 = .ok (.aload_n 0, 1) := by decide +kernel
theorem dX12_term_14 : decode mX12_term.2.1 14 = .ok (.invokevirtual 146, 3) := by decide +kernel
theorem dX12_term_17 : decode mX12_term.2.1 17 = .ok (.bipush 42, 2) := by decide +kernel
theorem dX12_term_19 : decode mX12_term.2.1 19 = .ok (.if_icmp .eq 12, 3) := by decide +kernel
theorem dX12_term_22 : decode mX12_term.2.1 22 = .ok (.aload_n 0, 1) := by decide +kernel
theorem dX12_term_23 : decode mX12_term.2.1 23 = .ok (.invokevirtual 146, 3) := by decide +kernel
theorem dX12_term_26 : decode mX12_term.2.1 26 = .ok (.bipush 47, 2) := by decide +kernel
theorem dX12_term_28 : decode mX12_term.2.1 28 = .ok (.if_icmp .ne 66, 3) := by decide +kernel
theorem dX12_term_31 : decode mX12_term.2.1 31 = .ok (.aload_n 0, 1) := by decide +kernel
theorem dX12_term_32 : decode mX12_term.2.1 32 = .ok (.invokevirtual 146, 3) := by decide +kernel
theorem dX12_term_35 : decode mX12_term.2.1 35 = .ok (.bipush 42, 2) := by decide +kernel
theorem dX12_term_37 : decode mX12_term.2.1 37 = .ok (.if_icmp .ne 7, 3) := by decide +kernel
theorem dX12_term_40 : decode mX12_term.2.1 40 = .ok (.iconst 1, 1) := by decide +kernel
theorem dX12_term_41 : decode mX12_term.2.1 41 = .ok (.goto 4, 3) := by decide +kernel
theorem dX12_term_44 : decode mX12_term.2.1 44 = .ok (.iconst 0, 1) := by decide +kernel
theorem dX12_term_45 : decode mX12_term.2.1 45 = .ok (.istore_n 2, 1) := by decide +kernel
theorem dX12_term_46 : decode mX12_term.2.1 46 = .ok (.aload_n 0, 1) := by decide +kernel
theorem dX12_term_47 : decode mX12_term.2.1 47 = .ok (.dup, 1) := by decide +kernel
theorem dX12_term_48 : decode mX12_term.2.1 48 = .ok (.getfield 127, 3) := by decide +kernel
theorem dX12_term_51 : decode mX12_term.2.1 51 = .ok (.iconst 1, 1) := by decide +kernel
theorem dX12_term_52 : decode mX12_term.2.1 52 = .ok (.iadd, 1) := by decide +kernel
theorem dX12_term_53 : decode mX12_term.2.1 53 = .ok (.putfield 127, 3) := by decide +kernel
theorem dX12_term_56 : decode mX12_term.2.1 56 = .ok (.aload_n 0, 1) := by decide +kernel
theorem dX12_term_57 : decode mX12_term.2.1 57 = .ok (.invokevirtual 179, 3) := by decide +kernel
theorem dX12_term_60 : decode mX12_term.2.1 60 = .ok (.i2l, 1) := by decide +kernel
theorem dX12_term_61 : decode mX12_term.2.1 61 = .ok (.lstore_n 3, 1) := by decide +kernel
theorem dX12_term_62 : decode mX12_term.2.1 62 = .ok (.iload_n 2, 1) := by decide +kernel
theorem dX12_term_63 : decode mX12_term.2.1 63 = .ok (.ifCond .eq 10, 3) := by decide +kernel
theorem dX12_term_66 : decode mX12_term.2.1 66 = .ok (.iload_n 1, 1) := by decide +kernel
theorem dX12_term_67 : decode mX12_term.2.1 67 = .ok (.i2l, 1) := by decide +kernel
theorem dX12_term_68 : decode mX12_term.2.1 68 = .ok (.lload_n 3, 1) := by decide +kernel
theorem dX12_term_69 : decode mX12_term.2.1 69 = .ok (.lmul, 1) := by decide +kernel
theorem dX12_term_70 : decode mX12_term.2.1 70 = .ok (.goto 17, 3) := by decide +kernel
theorem dX12_term_73 : decode mX12_term.2.1 73 = .ok (.lload_n 3, 1) := by decide +kernel
theorem dX12_term_74 : decode mX12_term.2.1 74 = .ok (.lconst 0, 1) := by decide +kernel
theorem dX12_term_75 : decode mX12_term.2.1 75 = .ok (.lcmp, 1) := by decide +kernel
theorem dX12_term_76 : decode mX12_term.2.1 76 = .ok (.ifCond .ne 7, 3) := by decide +kernel
theorem dX12_term_79 : decode mX12_term.2.1 79 = .ok (.lconst 0, 1) := by decide +kernel
theorem dX12_term_80 : decode mX12_term.2.1 80 = .ok (.goto 7, 3) := by decide +kernel
theorem dX12_term_83 : decode mX12_term.2.1 83 = .ok (.iload_n 1, 1) := by decide +kernel
theorem dX12_term_84 : decode mX12_term.2.1 84 = .ok (.i2l, 1) := by decide +kernel
theorem dX12_term_85 : decode mX12_term.2.1 85 = .ok (.lload_n 3, 1) := by decide +kernel
theorem dX12_term_86 : decode mX12_term.2.1 86 = .ok (.ldiv, 1) := by decide +kernel
theorem dX12_term_87 : decode mX12_term.2.1 87 = .ok (.invokestatic 182, 3) := by decide +kernel
theorem dX12_term_90 : decode mX12_term.2.1 90 = .ok (.istore_n 1, 1) := by decide +kernel
theorem dX12_term_91 : decode mX12_term.2.1 91 = .ok (.goto (-86), 3) := by decide +kernel
theorem dX12_term_94 : decode mX12_term.2.1 94 = .ok (.iload_n 1, 1) := by decide +kernel
theorem dX12_term_95 : decode mX12_term.2.1 95 = .ok (.ireturn, 1) := by decide +kernel
abbrev mX12_text : gz_M := (yX12_text, cX12_text, 4, some .int)
theorem dX12_text_0 : decode mX12_text.2.1 0 = .ok (.aload_n 0, 1) := by decide +kernel
theorem dX12_text_1 : decode mX12_text.2.1 1 = .ok (.iconst 0, 1) := by decide +kernel
theorem dX12_text_2 : decode mX12_text.2.1 2 = .ok (.putfield 104, 3) := by decide +kernel
theorem dX12_text_5 : decode mX12_text.2.1 5 = .ok (.iload_n 1, 1) := by decide +kernel
theorem dX12_text_6 : decode mX12_text.2.1 6 = .ok (.i2l, 1) := by decide +kernel
theorem dX12_text_7 : decode mX12_text.2.1 7 = .ok (.lconst 0, 1) := by decide +kernel
theorem dX12_text_8 : decode mX12_text.2.1 8 = .ok (.ldc2_w 284, 3) := by decide +kernel
theorem dX12_text_11 : decode mX12_text.2.1 11 = .ok (.invokestatic 225, 3) := by decide +kernel
theorem dX12_text_14 : decode mX12_text.2.1 14 = .ok (.ifCond .eq 38, 3) := by decide +kernel
theorem dX12_text_17 : decode mX12_text.2.1 17 = .ok (.iload_n 1, 1) := by decide +kernel
theorem dX12_text_18 : decode mX12_text.2.1 18 = .ok (.iconst 1, 1) := by decide +kernel
theorem dX12_text_19 : decode mX12_text.2.1 19 = .ok (.if_icmp .ne 11, 3) := by decide +kernel
theorem dX12_text_22 : decode mX12_text.2.1 22 = .ok (.aload_n 0, 1) := by decide +kernel
theorem dX12_text_23 : decode mX12_text.2.1 23 = .ok (.getfield 295, 3) := by decide +kernel
theorem dX12_text_26 : decode mX12_text.2.1 26 = .ok (.iconst 4, 1) := by decide +kernel
theorem dX12_text_27 : decode mX12_text.2.1 27 = .ok (.if_icmp .eq 25, 3) := by decide +kernel
theorem dX12_text_30 : decode mX12_text.2.1 30 = .ok (.iload_n 1, 1) := by decide +kernel
theorem dX12_text_31 : decode mX12_text.2.1 31 = .ok (.iconst 2, 1) := by decide +kernel
theorem dX12_text_32 : decode mX12_text.2.1 32 = .ok (.if_icmp .ne 11, 3) := by decide +kernel
theorem dX12_text_35 : decode mX12_text.2.1 35 = .ok (.aload_n 0, 1) := by decide +kernel
theorem dX12_text_36 : decode mX12_text.2.1 36 = .ok (.getfield 298, 3) := by decide +kernel
theorem dX12_text_39 : decode mX12_text.2.1 39 = .ok (.iconst 4, 1) := by decide +kernel
theorem dX12_text_40 : decode mX12_text.2.1 40 = .ok (.if_icmp .eq 12, 3) := by decide +kernel
theorem dX12_text_43 : decode mX12_text.2.1 43 = .ok (.aload_n 0, 1) := by decide +kernel
theorem dX12_text_44 : decode mX12_text.2.1 44 = .ok (.iload_n 1, 1) := by decide +kernel
theorem dX12_text_45 : decode mX12_text.2.1 45 = .ok (.invokevirtual 301, 3) := by decide +kernel
theorem dX12_text_48 : decode mX12_text.2.1 48 = .ok (.iconst (-1), 1) := by decide +kernel
theorem dX12_text_49 : decode mX12_text.2.1 49 = .ok (.if_icmp .eq 5, 3) := by decide +kernel
theorem dX12_text_52 : decode mX12_text.2.1 52 = .ok (.iconst (-1), 1) := by decide +kernel
theorem dX12_text_53 : decode mX12_text.2.1 53 = .ok (.ireturn, 1) := by decide +kernel
theorem dX12_text_54 : decode mX12_text.2.1 54 = .ok (.aload_n 0, 1) := by decide +kernel
theorem dX12_text_55 : decode mX12_text.2.1 55 = .ok (.getfield 117, 3) := by decide +kernel
theorem dX12_text_58 : decode mX12_text.2.1 58 = .ok (.istore_n 2, 1) := by decide +kernel
theorem dX12_text_59 : decode mX12_text.2.1 59 = .ok (.aload_n 0, 1) := by decide +kernel
theorem dX12_text_60 : decode mX12_text.2.1 60 = .ok (.iconst 0, 1) := by decide +kernel
theorem dX12_text_61 : decode mX12_text.2.1 61 = .ok (.putfield 117, 3) := by decide +kernel
theorem dX12_text_64 : decode mX12_text.2.1 64 = .ok (.iload_n 1, 1) := by decide +kernel
theorem dX12_text_65 : decode mX12_text.2.1 65 = .ok (.iconst 1, 1) := by decide +kernel
theorem dX12_text_66 : decode mX12_text.2.1 66 = .ok (.if_icmp .ne 64, 3) := by decide +kernel
theorem dX12_text_69 : decode mX12_text.2.1 69 = .ok (.iconst 0, 1) := by decide +kernel
theorem dX12_text_70 : decode mX12_text.2.1 70 = .ok (.istore_n 3, 1) := by decide +kernel
theorem dX12_text_71 : decode mX12_text.2.1 71 = .ok (.iload_n 3, 1) := by decide +kernel
theorem dX12_text_72 : decode mX12_text.2.1 72 = .ok (.iload_n 2, 1) := by decide +kernel
theorem dX12_text_73 : decode mX12_text.2.1 73 = .ok (.if_icmp .ge 30, 3) := by decide +kernel
theorem dX12_text_76 : decode mX12_text.2.1 76 = .ok (.aload_n 0, 1) := by decide +kernel
theorem dX12_text_77 : decode mX12_text.2.1 77 = .ok (.getfield 13, 3) := by decide +kernel
theorem dX12_text_80 : decode mX12_text.2.1 80 = .ok (.sipush 240, 3) := by decide +kernel
theorem dX12_text_83 : decode mX12_text.2.1 83 = .ok (.aload_n 0, 1) := by decide +kernel
theorem dX12_text_84 : decode mX12_text.2.1 84 = .ok (.getfield 295, 3) := by decide +kernel
theorem dX12_text_87 : decode mX12_text.2.1 87 = .ok (.imul, 1) := by decide +kernel
theorem dX12_text_88 : decode mX12_text.2.1 88 = .ok (.iload_n 3, 1) := by decide +kernel
theorem dX12_text_89 : decode mX12_text.2.1 89 = .ok (.iadd, 1) := by decide +kernel
theorem dX12_text_90 : decode mX12_text.2.1 90 = .ok (.aload_n 0, 1) := by decide +kernel
theorem dX12_text_91 : decode mX12_text.2.1 91 = .ok (.getfield 9, 3) := by decide +kernel
theorem dX12_text_94 : decode mX12_text.2.1 94 = .ok (.iload_n 3, 1) := by decide +kernel
theorem dX12_text_95 : decode mX12_text.2.1 95 = .ok (.baload, 1) := by decide +kernel
theorem dX12_text_96 : decode mX12_text.2.1 96 = .ok (.bastore, 1) := by decide +kernel
theorem dX12_text_97 : decode mX12_text.2.1 97 = .ok (.iinc 3 1, 3) := by decide +kernel
theorem dX12_text_100 : decode mX12_text.2.1 100 = .ok (.goto (-29), 3) := by decide +kernel
theorem dX12_text_103 : decode mX12_text.2.1 103 = .ok (.aload_n 0, 1) := by decide +kernel
theorem dX12_text_104 : decode mX12_text.2.1 104 = .ok (.getfield 16, 3) := by decide +kernel
theorem dX12_text_107 : decode mX12_text.2.1 107 = .ok (.aload_n 0, 1) := by decide +kernel
theorem dX12_text_108 : decode mX12_text.2.1 108 = .ok (.getfield 295, 3) := by decide +kernel
theorem dX12_text_111 : decode mX12_text.2.1 111 = .ok (.iload_n 2, 1) := by decide +kernel
theorem dX12_text_112 : decode mX12_text.2.1 112 = .ok (.iastore, 1) := by decide +kernel
theorem dX12_text_113 : decode mX12_text.2.1 113 = .ok (.aload_n 0, 1) := by decide +kernel
theorem dX12_text_114 : decode mX12_text.2.1 114 = .ok (.dup, 1) := by decide +kernel
theorem dX12_text_115 : decode mX12_text.2.1 115 = .ok (.getfield 295, 3) := by decide +kernel
theorem dX12_text_118 : decode mX12_text.2.1 118 = .ok (.iconst 1, 1) := by decide +kernel
theorem dX12_text_119 : decode mX12_text.2.1 119 = .ok (.iadd, 1) := by decide +kernel
theorem dX12_text_120 : decode mX12_text.2.1 120 = .ok (.putfield 295, 3) := by decide +kernel
theorem dX12_text_123 : decode mX12_text.2.1 123 = .ok (.aload_n 0, 1) := by decide +kernel
theorem dX12_text_124 : decode mX12_text.2.1 124 = .ok (.getfield 295, 3) := by decide +kernel
theorem dX12_text_127 : decode mX12_text.2.1 127 = .ok (.iconst 1, 1) := by decide +kernel
theorem dX12_text_128 : decode mX12_text.2.1 128 = .ok (.isub, 1) := by decide +kernel
theorem dX12_text_129 : decode mX12_text.2.1 129 = .ok (.ireturn, 1) := by decide +kernel
theorem dX12_text_130 : decode mX12_text.2.1 130 = .ok (.iload_n 1, 1) := by decide +kernel
theorem dX12_text_131 : decode mX12_text.2.1 131 = .ok (.iconst 2, 1) := by decide +kernel
theorem dX12_text_132 : decode mX12_text.2.1 132 = .ok (.if_icmp .ne 73, 3) := by decide +kernel
theorem dX12_text_135 : decode mX12_text.2.1 135 = .ok (.iconst 0, 1) := by decide +kernel
theorem dX12_text_136 : decode mX12_text.2.1 136 = .ok (.istore_n 3, 1) := by decide +kernel
theorem dX12_text_137 : decode mX12_text.2.1 137 = .ok (.iload_n 3, 1) := by decide +kernel
theorem dX12_text_138 : decode mX12_text.2.1 138 = .ok (.bipush 48, 2) := by decide +kernel
theorem dX12_text_140 : decode mX12_text.2.1 140 = .ok (.if_icmp .ge 33, 3) := by decide +kernel
theorem dX12_text_143 : decode mX12_text.2.1 143 = .ok (.aload_n 0, 1) := by decide +kernel
theorem dX12_text_144 : decode mX12_text.2.1 144 = .ok (.getfield 58, 3) := by decide +kernel
theorem dX12_text_147 : decode mX12_text.2.1 147 = .ok (.bipush 48, 2) := by decide +kernel
theorem dX12_text_149 : decode mX12_text.2.1 149 = .ok (.aload_n 0, 1) := by decide +kernel
theorem dX12_text_150 : decode mX12_text.2.1 150 = .ok (.getfield 298, 3) := by decide +kernel
theorem dX12_text_153 : decode mX12_text.2.1 153 = .ok (.imul, 1) := by decide +kernel
theorem dX12_text_154 : decode mX12_text.2.1 154 = .ok (.iload_n 3, 1) := by decide +kernel
theorem dX12_text_155 : decode mX12_text.2.1 155 = .ok (.iadd, 1) := by decide +kernel
theorem dX12_text_156 : decode mX12_text.2.1 156 = .ok (.aload_n 0, 1) := by decide +kernel
theorem dX12_text_157 : decode mX12_text.2.1 157 = .ok (.getfield 58, 3) := by decide +kernel
theorem dX12_text_160 : decode mX12_text.2.1 160 = .ok (.sipush 192, 3) := by decide +kernel
theorem dX12_text_163 : decode mX12_text.2.1 163 = .ok (.iload_n 3, 1) := by decide +kernel
theorem dX12_text_164 : decode mX12_text.2.1 164 = .ok (.iadd, 1) := by decide +kernel
theorem dX12_text_165 : decode mX12_text.2.1 165 = .ok (.iaload, 1) := by decide +kernel
theorem dX12_text_166 : decode mX12_text.2.1 166 = .ok (.iastore, 1) := by decide +kernel
theorem dX12_text_167 : decode mX12_text.2.1 167 = .ok (.iinc 3 1, 3) := by decide +kernel
theorem dX12_text_170 : decode mX12_text.2.1 170 = .ok (.goto (-33), 3) := by decide +kernel
theorem dX12_text_173 : decode mX12_text.2.1 173 = .ok (.aload_n 0, 1) := by decide +kernel
theorem dX12_text_174 : decode mX12_text.2.1 174 = .ok (.getfield 61, 3) := by decide +kernel
theorem dX12_text_177 : decode mX12_text.2.1 177 = .ok (.aload_n 0, 1) := by decide +kernel
theorem dX12_text_178 : decode mX12_text.2.1 178 = .ok (.getfield 298, 3) := by decide +kernel
theorem dX12_text_181 : decode mX12_text.2.1 181 = .ok (.aload_n 0, 1) := by decide +kernel
theorem dX12_text_182 : decode mX12_text.2.1 182 = .ok (.getfield 61, 3) := by decide +kernel
theorem dX12_text_185 : decode mX12_text.2.1 185 = .ok (.iconst 4, 1) := by decide +kernel
theorem dX12_text_186 : decode mX12_text.2.1 186 = .ok (.iaload, 1) := by decide +kernel
theorem dX12_text_187 : decode mX12_text.2.1 187 = .ok (.iastore, 1) := by decide +kernel
theorem dX12_text_188 : decode mX12_text.2.1 188 = .ok (.aload_n 0, 1) := by decide +kernel
theorem dX12_text_189 : decode mX12_text.2.1 189 = .ok (.dup, 1) := by decide +kernel
theorem dX12_text_190 : decode mX12_text.2.1 190 = .ok (.getfield 298, 3) := by decide +kernel
theorem dX12_text_193 : decode mX12_text.2.1 193 = .ok (.iconst 1, 1) := by decide +kernel
theorem dX12_text_194 : decode mX12_text.2.1 194 = .ok (.iadd, 1) := by decide +kernel
theorem dX12_text_195 : decode mX12_text.2.1 195 = .ok (.putfield 298, 3) := by decide +kernel
theorem dX12_text_198 : decode mX12_text.2.1 198 = .ok (.aload_n 0, 1) := by decide +kernel
theorem dX12_text_199 : decode mX12_text.2.1 199 = .ok (.getfield 298, 3) := by decide +kernel
theorem dX12_text_202 : decode mX12_text.2.1 202 = .ok (.iconst 1, 1) := by decide +kernel
theorem dX12_text_203 : decode mX12_text.2.1 203 = .ok (.isub, 1) := by decide +kernel
theorem dX12_text_204 : decode mX12_text.2.1 204 = .ok (.ireturn, 1) := by decide +kernel
theorem dX12_text_205 : decode mX12_text.2.1 205 = .ok (.aload_n 0, 1) := by decide +kernel
theorem dX12_text_206 : decode mX12_text.2.1 206 = .ok (.aload_n 0, 1) := by decide +kernel
theorem dX12_text_207 : decode mX12_text.2.1 207 = .ok (.getfield 256, 3) := by decide +kernel
theorem dX12_text_210 : decode mX12_text.2.1 210 = .ok (.putfield 303, 3) := by decide +kernel
theorem dX12_text_213 : decode mX12_text.2.1 213 = .ok (.iconst 0, 1) := by decide +kernel
theorem dX12_text_214 : decode mX12_text.2.1 214 = .ok (.istore_n 3, 1) := by decide +kernel
theorem dX12_text_215 : decode mX12_text.2.1 215 = .ok (.iload_n 3, 1) := by decide +kernel
theorem dX12_text_216 : decode mX12_text.2.1 216 = .ok (.iconst 4, 1) := by decide +kernel
theorem dX12_text_217 : decode mX12_text.2.1 217 = .ok (.if_icmp .ge 21, 3) := by decide +kernel
theorem dX12_text_220 : decode mX12_text.2.1 220 = .ok (.aload_n 0, 1) := by decide +kernel
theorem dX12_text_221 : decode mX12_text.2.1 221 = .ok (.getfield 37, 3) := by decide +kernel
theorem dX12_text_224 : decode mX12_text.2.1 224 = .ok (.iload_n 3, 1) := by decide +kernel
theorem dX12_text_225 : decode mX12_text.2.1 225 = .ok (.aload_n 0, 1) := by decide +kernel
theorem dX12_text_226 : decode mX12_text.2.1 226 = .ok (.getfield 40, 3) := by decide +kernel
theorem dX12_text_229 : decode mX12_text.2.1 229 = .ok (.iload_n 3, 1) := by decide +kernel
theorem dX12_text_230 : decode mX12_text.2.1 230 = .ok (.iaload, 1) := by decide +kernel
theorem dX12_text_231 : decode mX12_text.2.1 231 = .ok (.iastore, 1) := by decide +kernel
theorem dX12_text_232 : decode mX12_text.2.1 232 = .ok (.iinc 3 1, 3) := by decide +kernel
theorem dX12_text_235 : decode mX12_text.2.1 235 = .ok (.goto (-20), 3) := by decide +kernel
theorem dX12_text_238 : decode mX12_text.2.1 238 = .ok (.iconst 0, 1) := by decide +kernel
theorem dX12_text_239 : decode mX12_text.2.1 239 = .ok (.istore_n 3, 1) := by decide +kernel
theorem dX12_text_240 : decode mX12_text.2.1 240 = .ok (.iload_n 3, 1) := by decide +kernel
theorem dX12_text_241 : decode mX12_text.2.1 241 = .ok (.bipush 16, 2) := by decide +kernel
theorem dX12_text_243 : decode mX12_text.2.1 243 = .ok (.if_icmp .ge 21, 3) := by decide +kernel
theorem dX12_text_246 : decode mX12_text.2.1 246 = .ok (.aload_n 0, 1) := by decide +kernel
theorem dX12_text_247 : decode mX12_text.2.1 247 = .ok (.getfield 43, 3) := by decide +kernel
theorem dX12_text_250 : decode mX12_text.2.1 250 = .ok (.iload_n 3, 1) := by decide +kernel
theorem dX12_text_251 : decode mX12_text.2.1 251 = .ok (.aload_n 0, 1) := by decide +kernel
theorem dX12_text_252 : decode mX12_text.2.1 252 = .ok (.getfield 46, 3) := by decide +kernel
theorem dX12_text_255 : decode mX12_text.2.1 255 = .ok (.iload_n 3, 1) := by decide +kernel
theorem dX12_text_256 : decode mX12_text.2.1 256 = .ok (.iaload, 1) := by decide +kernel
theorem dX12_text_257 : decode mX12_text.2.1 257 = .ok (.iastore, 1) := by decide +kernel
theorem dX12_text_258 : decode mX12_text.2.1 258 = .ok (.iinc 3 1, 3) := by decide +kernel
theorem dX12_text_261 : decode mX12_text.2.1 261 = .ok (.goto (-21), 3) := by decide +kernel
theorem dX12_text_264 : decode mX12_text.2.1 264 = .ok (.iconst 0, 1) := by decide +kernel
theorem dX12_text_265 : decode mX12_text.2.1 265 = .ok (.istore_n 3, 1) := by decide +kernel
theorem dX12_text_266 : decode mX12_text.2.1 266 = .ok (.iload_n 3, 1) := by decide +kernel
theorem dX12_text_267 : decode mX12_text.2.1 267 = .ok (.bipush 30, 2) := by decide +kernel
theorem dX12_text_269 : decode mX12_text.2.1 269 = .ok (.if_icmp .ge 21, 3) := by decide +kernel
theorem dX12_text_272 : decode mX12_text.2.1 272 = .ok (.aload_n 0, 1) := by decide +kernel
theorem dX12_text_273 : decode mX12_text.2.1 273 = .ok (.getfield 49, 3) := by decide +kernel
theorem dX12_text_276 : decode mX12_text.2.1 276 = .ok (.iload_n 3, 1) := by decide +kernel
theorem dX12_text_277 : decode mX12_text.2.1 277 = .ok (.aload_n 0, 1) := by decide +kernel
theorem dX12_text_278 : decode mX12_text.2.1 278 = .ok (.getfield 52, 3) := by decide +kernel
theorem dX12_text_281 : decode mX12_text.2.1 281 = .ok (.iload_n 3, 1) := by decide +kernel
theorem dX12_text_282 : decode mX12_text.2.1 282 = .ok (.iaload, 1) := by decide +kernel
theorem dX12_text_283 : decode mX12_text.2.1 283 = .ok (.iastore, 1) := by decide +kernel
theorem dX12_text_284 : decode mX12_text.2.1 284 = .ok (.iinc 3 1, 3) := by decide +kernel
theorem dX12_text_287 : decode mX12_text.2.1 287 = .ok (.goto (-21), 3) := by decide +kernel
theorem dX12_text_290 : decode mX12_text.2.1 290 = .ok (.aload_n 0, 1) := by decide +kernel
theorem dX12_text_291 : decode mX12_text.2.1 291 = .ok (.aload_n 0, 1) := by decide +kernel
theorem dX12_text_292 : decode mX12_text.2.1 292 = .ok (.getfield 64, 3) := by decide +kernel
theorem dX12_text_295 : decode mX12_text.2.1 295 = .ok (.invokevirtual 306, 3) := by decide +kernel
theorem dX12_text_298 : decode mX12_text.2.1 298 = .ok (.aload_n 0, 1) := by decide +kernel
theorem dX12_text_299 : decode mX12_text.2.1 299 = .ok (.iconst 0, 1) := by decide +kernel
theorem dX12_text_300 : decode mX12_text.2.1 300 = .ok (.putfield 310, 3) := by decide +kernel
theorem dX12_text_303 : decode mX12_text.2.1 303 = .ok (.aload_n 0, 1) := by decide +kernel
theorem dX12_text_304 : decode mX12_text.2.1 304 = .ok (.iconst 0, 1) := by decide +kernel
theorem dX12_text_305 : decode mX12_text.2.1 305 = .ok (.putfield 313, 3) := by decide +kernel
theorem dX12_text_308 : decode mX12_text.2.1 308 = .ok (.aload_n 0, 1) := by decide +kernel
theorem dX12_text_309 : decode mX12_text.2.1 309 = .ok (.iconst 0, 1) := by decide +kernel
theorem dX12_text_310 : decode mX12_text.2.1 310 = .ok (.putfield 316, 3) := by decide +kernel
theorem dX12_text_313 : decode mX12_text.2.1 313 = .ok (.aload_n 0, 1) := by decide +kernel
theorem dX12_text_314 : decode mX12_text.2.1 314 = .ok (.invokevirtual 319, 3) := by decide +kernel
theorem dX12_text_317 : decode mX12_text.2.1 317 = .ok (.ireturn, 1) := by decide +kernel
abbrev mX12_thoseWho : gz_M := (yX12_thoseWho, cX12_thoseWho, 4, some .int)
theorem dX12_thoseWho_0 : decode mX12_thoseWho.2.1 0 = .ok (.iconst 0, 1) := by decide +kernel
theorem dX12_thoseWho_1 : decode mX12_thoseWho.2.1 1 = .ok (.istore_n 2, 1) := by decide +kernel
theorem dX12_thoseWho_2 : decode mX12_thoseWho.2.1 2 = .ok (.iconst 0, 1) := by decide +kernel
theorem dX12_thoseWho_3 : decode mX12_thoseWho.2.1 3 = .ok (.istore_n 3, 1) := by decide +kernel
theorem dX12_thoseWho_4 : decode mX12_thoseWho.2.1 4 = .ok (.iload_n 3, 1) := by decide +kernel
theorem dX12_thoseWho_5 : decode mX12_thoseWho.2.1 5 = .ok (.aload_n 0, 1) := by decide +kernel
theorem dX12_thoseWho_6 : decode mX12_thoseWho.2.1 6 = .ok (.getfield 303, 3) := by decide +kernel
theorem dX12_thoseWho_9 : decode mX12_thoseWho.2.1 9 = .ok (.if_icmp .ge 36, 3) := by decide +kernel
theorem dX12_thoseWho_12 : decode mX12_thoseWho.2.1 12 = .ok (.iload_n 2, 1) := by decide +kernel
theorem dX12_thoseWho_13 : decode mX12_thoseWho.2.1 13 = .ok (.aload_n 0, 1) := by decide +kernel
theorem dX12_thoseWho_14 : decode mX12_thoseWho.2.1 14 = .ok (.getfield 64, 3) := by decide +kernel
theorem dX12_thoseWho_17 : decode mX12_thoseWho.2.1 17 = .ok (.bipush 30, 2) := by decide +kernel
theorem dX12_thoseWho_19 : decode mX12_thoseWho.2.1 19 = .ok (.iconst 4, 1) := by decide +kernel
theorem dX12_thoseWho_20 : decode mX12_thoseWho.2.1 20 = .ok (.iload_n 3, 1) := by decide +kernel
theorem dX12_thoseWho_21 : decode mX12_thoseWho.2.1 21 = .ok (.imul, 1) := by decide +kernel
theorem dX12_thoseWho_22 : decode mX12_thoseWho.2.1 22 = .ok (.iadd, 1) := by decide +kernel
theorem dX12_thoseWho_23 : decode mX12_thoseWho.2.1 23 = .ok (.iconst 3, 1) := by decide +kernel
theorem dX12_thoseWho_24 : decode mX12_thoseWho.2.1 24 = .ok (.iadd, 1) := by decide +kernel
theorem dX12_thoseWho_25 : decode mX12_thoseWho.2.1 25 = .ok (.iaload, 1) := by decide +kernel
theorem dX12_thoseWho_26 : decode mX12_thoseWho.2.1 26 = .ok (.iload_n 1, 1) := by decide +kernel
theorem dX12_thoseWho_27 : decode mX12_thoseWho.2.1 27 = .ok (.if_icmp .ne 9, 3) := by decide +kernel
theorem dX12_thoseWho_30 : decode mX12_thoseWho.2.1 30 = .ok (.iconst 1, 1) := by decide +kernel
theorem dX12_thoseWho_31 : decode mX12_thoseWho.2.1 31 = .ok (.iload_n 3, 1) := by decide +kernel
theorem dX12_thoseWho_32 : decode mX12_thoseWho.2.1 32 = .ok (.ishl, 1) := by decide +kernel
theorem dX12_thoseWho_33 : decode mX12_thoseWho.2.1 33 = .ok (.goto 4, 3) := by decide +kernel
theorem dX12_thoseWho_36 : decode mX12_thoseWho.2.1 36 = .ok (.iconst 0, 1) := by decide +kernel
theorem dX12_thoseWho_37 : decode mX12_thoseWho.2.1 37 = .ok (.ior, 1) := by decide +kernel
theorem dX12_thoseWho_38 : decode mX12_thoseWho.2.1 38 = .ok (.istore_n 2, 1) := by decide +kernel
theorem dX12_thoseWho_39 : decode mX12_thoseWho.2.1 39 = .ok (.iinc 3 1, 3) := by decide +kernel
theorem dX12_thoseWho_42 : decode mX12_thoseWho.2.1 42 = .ok (.goto (-38), 3) := by decide +kernel
theorem dX12_thoseWho_45 : decode mX12_thoseWho.2.1 45 = .ok (.iload_n 2, 1) := by decide +kernel
theorem dX12_thoseWho_46 : decode mX12_thoseWho.2.1 46 = .ok (.ireturn, 1) := by decide +kernel
abbrev mX12_thrown : gz_M := (yX12_thrown, cX12_thrown, 1, some .int)
theorem dX12_thrown_0 : decode mX12_thrown.2.1 0 = .ok (.aload_n 0, 1) := by decide +kernel
theorem dX12_thrown_1 : decode mX12_thrown.2.1 1 = .ok (.getfield 104, 3) := by decide +kernel
theorem dX12_thrown_4 : decode mX12_thrown.2.1 4 = .ok (.ireturn, 1) := by decide +kernel
abbrev mX12_tide : gz_M := (yX12_tide, cX12_tide, 3, some .int)
theorem dX12_tide_0 : decode mX12_tide.2.1 0 = .ok (.aload_n 0, 1) := by decide +kernel
theorem dX12_tide_1 : decode mX12_tide.2.1 1 = .ok (.iconst 0, 1) := by decide +kernel
theorem dX12_tide_2 : decode mX12_tide.2.1 2 = .ok (.putfield 104, 3) := by decide +kernel
theorem dX12_tide_5 : decode mX12_tide.2.1 5 = .ok (.aload_n 0, 1) := by decide +kernel
theorem dX12_tide_6 : decode mX12_tide.2.1 6 = .ok (.getfield 303, 3) := by decide +kernel
theorem dX12_tide_9 : decode mX12_tide.2.1 9 = .ok (.ifCond .eq 15, 3) := by decide +kernel
theorem dX12_tide_12 : decode mX12_tide.2.1 12 = .ok (.aload_n 0, 1) := by decide +kernel
theorem dX12_tide_13 : decode mX12_tide.2.1 13 = .ok (.aload_n 0, 1) := by decide +kernel
theorem dX12_tide_14 : decode mX12_tide.2.1 14 = .ok (.getfield 64, 3) := by decide +kernel
theorem dX12_tide_17 : decode mX12_tide.2.1 17 = .ok (.iload_n 1, 1) := by decide +kernel
theorem dX12_tide_18 : decode mX12_tide.2.1 18 = .ok (.invokevirtual 388, 3) := by decide +kernel
theorem dX12_tide_21 : decode mX12_tide.2.1 21 = .ok (.ifCond .ne 5, 3) := by decide +kernel
theorem dX12_tide_24 : decode mX12_tide.2.1 24 = .ok (.iconst (-1), 1) := by decide +kernel
theorem dX12_tide_25 : decode mX12_tide.2.1 25 = .ok (.ireturn, 1) := by decide +kernel
theorem dX12_tide_26 : decode mX12_tide.2.1 26 = .ok (.aload_n 0, 1) := by decide +kernel
theorem dX12_tide_27 : decode mX12_tide.2.1 27 = .ok (.invokevirtual 380, 3) := by decide +kernel
theorem dX12_tide_30 : decode mX12_tide.2.1 30 = .ok (.aload_n 0, 1) := by decide +kernel
theorem dX12_tide_31 : decode mX12_tide.2.1 31 = .ok (.getfield 64, 3) := by decide +kernel
theorem dX12_tide_34 : decode mX12_tide.2.1 34 = .ok (.bipush 46, 2) := by decide +kernel
theorem dX12_tide_36 : decode mX12_tide.2.1 36 = .ok (.iaload, 1) := by decide +kernel
theorem dX12_tide_37 : decode mX12_tide.2.1 37 = .ok (.istore_n 2, 1) := by decide +kernel
theorem dX12_tide_38 : decode mX12_tide.2.1 38 = .ok (.aload_n 0, 1) := by decide +kernel
theorem dX12_tide_39 : decode mX12_tide.2.1 39 = .ok (.getfield 64, 3) := by decide +kernel
theorem dX12_tide_42 : decode mX12_tide.2.1 42 = .ok (.bipush 46, 2) := by decide +kernel
theorem dX12_tide_44 : decode mX12_tide.2.1 44 = .ok (.iload_n 1, 1) := by decide +kernel
theorem dX12_tide_45 : decode mX12_tide.2.1 45 = .ok (.iastore, 1) := by decide +kernel
theorem dX12_tide_46 : decode mX12_tide.2.1 46 = .ok (.iload_n 2, 1) := by decide +kernel
theorem dX12_tide_47 : decode mX12_tide.2.1 47 = .ok (.ireturn, 1) := by decide +kernel
abbrev mX12_turnOf : gz_M := (yX12_turnOf, cX12_turnOf, 7, some .int)
theorem dX12_turnOf_0 : decode mX12_turnOf.2.1 0 = .ok (.bipush 30, 2) := by decide +kernel
theorem dX12_turnOf_2 : decode mX12_turnOf.2.1 2 = .ok (.iconst 4, 1) := by decide +kernel
theorem dX12_turnOf_3 : decode mX12_turnOf.2.1 3 = .ok (.iload_n 2, 1) := by decide +kernel
theorem dX12_turnOf_4 : decode mX12_turnOf.2.1 4 = .ok (.imul, 1) := by decide +kernel
theorem dX12_turnOf_5 : decode mX12_turnOf.2.1 5 = .ok (.iadd, 1) := by decide +kernel
theorem dX12_turnOf_6 : decode mX12_turnOf.2.1 6 = .ok (.istore 4, 2) := by decide +kernel
theorem dX12_turnOf_8 : decode mX12_turnOf.2.1 8 = .ok (.aload_n 0, 1) := by decide +kernel
theorem dX12_turnOf_9 : decode mX12_turnOf.2.1 9 = .ok (.aload_n 1, 1) := by decide +kernel
theorem dX12_turnOf_10 : decode mX12_turnOf.2.1 10 = .ok (.aload_n 1, 1) := by decide +kernel
theorem dX12_turnOf_11 : decode mX12_turnOf.2.1 11 = .ok (.iload 4, 2) := by decide +kernel
theorem dX12_turnOf_13 : decode mX12_turnOf.2.1 13 = .ok (.iconst 0, 1) := by decide +kernel
theorem dX12_turnOf_14 : decode mX12_turnOf.2.1 14 = .ok (.iadd, 1) := by decide +kernel
theorem dX12_turnOf_15 : decode mX12_turnOf.2.1 15 = .ok (.iaload, 1) := by decide +kernel
theorem dX12_turnOf_16 : decode mX12_turnOf.2.1 16 = .ok (.aload_n 1, 1) := by decide +kernel
theorem dX12_turnOf_17 : decode mX12_turnOf.2.1 17 = .ok (.iload 4, 2) := by decide +kernel
theorem dX12_turnOf_19 : decode mX12_turnOf.2.1 19 = .ok (.iconst 1, 1) := by decide +kernel
theorem dX12_turnOf_20 : decode mX12_turnOf.2.1 20 = .ok (.iadd, 1) := by decide +kernel
theorem dX12_turnOf_21 : decode mX12_turnOf.2.1 21 = .ok (.iaload, 1) := by decide +kernel
theorem dX12_turnOf_22 : decode mX12_turnOf.2.1 22 = .ok (.invokevirtual 335, 3) := by decide +kernel
theorem dX12_turnOf_25 : decode mX12_turnOf.2.1 25 = .ok (.istore 5, 2) := by decide +kernel
theorem dX12_turnOf_27 : decode mX12_turnOf.2.1 27 = .ok (.aload_n 1, 1) := by decide +kernel
theorem dX12_turnOf_28 : decode mX12_turnOf.2.1 28 = .ok (.iload 4, 2) := by decide +kernel
theorem dX12_turnOf_30 : decode mX12_turnOf.2.1 30 = .ok (.iconst 1, 1) := by decide +kernel
theorem dX12_turnOf_31 : decode mX12_turnOf.2.1 31 = .ok (.iadd, 1) := by decide +kernel
theorem dX12_turnOf_32 : decode mX12_turnOf.2.1 32 = .ok (.iaload, 1) := by decide +kernel
theorem dX12_turnOf_33 : decode mX12_turnOf.2.1 33 = .ok (.iconst 1, 1) := by decide +kernel
theorem dX12_turnOf_34 : decode mX12_turnOf.2.1 34 = .ok (.iadd, 1) := by decide +kernel
theorem dX12_turnOf_35 : decode mX12_turnOf.2.1 35 = .ok (.iconst 4, 1) := by decide +kernel
theorem dX12_turnOf_36 : decode mX12_turnOf.2.1 36 = .ok (.irem, 1) := by decide +kernel
theorem dX12_turnOf_37 : decode mX12_turnOf.2.1 37 = .ok (.istore 6, 2) := by decide +kernel
theorem dX12_turnOf_39 : decode mX12_turnOf.2.1 39 = .ok (.aload_n 0, 1) := by decide +kernel
theorem dX12_turnOf_40 : decode mX12_turnOf.2.1 40 = .ok (.getfield 70, 3) := by decide +kernel
theorem dX12_turnOf_43 : decode mX12_turnOf.2.1 43 = .ok (.iconst (-1), 1) := by decide +kernel
theorem dX12_turnOf_44 : decode mX12_turnOf.2.1 44 = .ok (.if_icmp .ne 21, 3) := by decide +kernel
theorem dX12_turnOf_47 : decode mX12_turnOf.2.1 47 = .ok (.iload 5, 2) := by decide +kernel
theorem dX12_turnOf_49 : decode mX12_turnOf.2.1 49 = .ok (.iconst 1, 1) := by decide +kernel
theorem dX12_turnOf_50 : decode mX12_turnOf.2.1 50 = .ok (.if_icmp .ne 8, 3) := by decide +kernel
theorem dX12_turnOf_53 : decode mX12_turnOf.2.1 53 = .ok (.iload 6, 2) := by decide +kernel
theorem dX12_turnOf_55 : decode mX12_turnOf.2.1 55 = .ok (.goto 9, 3) := by decide +kernel
theorem dX12_turnOf_58 : decode mX12_turnOf.2.1 58 = .ok (.aload_n 1, 1) := by decide +kernel
theorem dX12_turnOf_59 : decode mX12_turnOf.2.1 59 = .ok (.iload 4, 2) := by decide +kernel
theorem dX12_turnOf_61 : decode mX12_turnOf.2.1 61 = .ok (.iconst 1, 1) := by decide +kernel
theorem dX12_turnOf_62 : decode mX12_turnOf.2.1 62 = .ok (.iadd, 1) := by decide +kernel
theorem dX12_turnOf_63 : decode mX12_turnOf.2.1 63 = .ok (.iaload, 1) := by decide +kernel
theorem dX12_turnOf_64 : decode mX12_turnOf.2.1 64 = .ok (.ireturn, 1) := by decide +kernel
theorem dX12_turnOf_65 : decode mX12_turnOf.2.1 65 = .ok (.aload_n 0, 1) := by decide +kernel
theorem dX12_turnOf_66 : decode mX12_turnOf.2.1 66 = .ok (.aload_n 1, 1) := by decide +kernel
theorem dX12_turnOf_67 : decode mX12_turnOf.2.1 67 = .ok (.iload 4, 2) := by decide +kernel
theorem dX12_turnOf_69 : decode mX12_turnOf.2.1 69 = .ok (.iconst 1, 1) := by decide +kernel
theorem dX12_turnOf_70 : decode mX12_turnOf.2.1 70 = .ok (.iadd, 1) := by decide +kernel
theorem dX12_turnOf_71 : decode mX12_turnOf.2.1 71 = .ok (.iaload, 1) := by decide +kernel
theorem dX12_turnOf_72 : decode mX12_turnOf.2.1 72 = .ok (.iload 5, 2) := by decide +kernel
theorem dX12_turnOf_74 : decode mX12_turnOf.2.1 74 = .ok (.aload_n 0, 1) := by decide +kernel
theorem dX12_turnOf_75 : decode mX12_turnOf.2.1 75 = .ok (.aload_n 1, 1) := by decide +kernel
theorem dX12_turnOf_76 : decode mX12_turnOf.2.1 76 = .ok (.aload_n 1, 1) := by decide +kernel
theorem dX12_turnOf_77 : decode mX12_turnOf.2.1 77 = .ok (.iload 4, 2) := by decide +kernel
theorem dX12_turnOf_79 : decode mX12_turnOf.2.1 79 = .ok (.iconst 0, 1) := by decide +kernel
theorem dX12_turnOf_80 : decode mX12_turnOf.2.1 80 = .ok (.iadd, 1) := by decide +kernel
theorem dX12_turnOf_81 : decode mX12_turnOf.2.1 81 = .ok (.iaload, 1) := by decide +kernel
theorem dX12_turnOf_82 : decode mX12_turnOf.2.1 82 = .ok (.iload 6, 2) := by decide +kernel
theorem dX12_turnOf_84 : decode mX12_turnOf.2.1 84 = .ok (.invokevirtual 335, 3) := by decide +kernel
theorem dX12_turnOf_87 : decode mX12_turnOf.2.1 87 = .ok (.iload_n 3, 1) := by decide +kernel
theorem dX12_turnOf_88 : decode mX12_turnOf.2.1 88 = .ok (.aload_n 1, 1) := by decide +kernel
theorem dX12_turnOf_89 : decode mX12_turnOf.2.1 89 = .ok (.iload 4, 2) := by decide +kernel
theorem dX12_turnOf_91 : decode mX12_turnOf.2.1 91 = .ok (.iconst 2, 1) := by decide +kernel
theorem dX12_turnOf_92 : decode mX12_turnOf.2.1 92 = .ok (.iadd, 1) := by decide +kernel
theorem dX12_turnOf_93 : decode mX12_turnOf.2.1 93 = .ok (.iaload, 1) := by decide +kernel
theorem dX12_turnOf_94 : decode mX12_turnOf.2.1 94 = .ok (.bipush 100, 2) := by decide +kernel
theorem dX12_turnOf_96 : decode mX12_turnOf.2.1 96 = .ok (.irem, 1) := by decide +kernel
theorem dX12_turnOf_97 : decode mX12_turnOf.2.1 97 = .ok (.aload_n 1, 1) := by decide +kernel
theorem dX12_turnOf_98 : decode mX12_turnOf.2.1 98 = .ok (.bipush 49, 2) := by decide +kernel
theorem dX12_turnOf_100 : decode mX12_turnOf.2.1 100 = .ok (.iaload, 1) := by decide +kernel
theorem dX12_turnOf_101 : decode mX12_turnOf.2.1 101 = .ok (.bipush 24, 2) := by decide +kernel
theorem dX12_turnOf_103 : decode mX12_turnOf.2.1 103 = .ok (.irem, 1) := by decide +kernel
theorem dX12_turnOf_104 : decode mX12_turnOf.2.1 104 = .ok (.invokevirtual 339, 3) := by decide +kernel
theorem dX12_turnOf_107 : decode mX12_turnOf.2.1 107 = .ok (.ireturn, 1) := by decide +kernel
abbrev mX12_undo : gz_M := (yX12_undo, cX12_undo, 2, some .int)
theorem dX12_undo_0 : decode mX12_undo.2.1 0 = .ok (.aload_n 0, 1) := by decide +kernel
theorem dX12_undo_1 : decode mX12_undo.2.1 1 = .ok (.iconst 0, 1) := by decide +kernel
theorem dX12_undo_2 : decode mX12_undo.2.1 2 = .ok (.putfield 104, 3) := by decide +kernel
theorem dX12_undo_5 : decode mX12_undo.2.1 5 = .ok (.aload_n 0, 1) := by decide +kernel
theorem dX12_undo_6 : decode mX12_undo.2.1 6 = .ok (.getfield 313, 3) := by decide +kernel
theorem dX12_undo_9 : decode mX12_undo.2.1 9 = .ok (.ifCond .ne 5, 3) := by decide +kernel
theorem dX12_undo_12 : decode mX12_undo.2.1 12 = .ok (.iconst (-1), 1) := by decide +kernel
theorem dX12_undo_13 : decode mX12_undo.2.1 13 = .ok (.ireturn, 1) := by decide +kernel
theorem dX12_undo_14 : decode mX12_undo.2.1 14 = .ok (.aload_n 0, 1) := by decide +kernel
theorem dX12_undo_15 : decode mX12_undo.2.1 15 = .ok (.dup, 1) := by decide +kernel
theorem dX12_undo_16 : decode mX12_undo.2.1 16 = .ok (.getfield 313, 3) := by decide +kernel
theorem dX12_undo_19 : decode mX12_undo.2.1 19 = .ok (.iconst 1, 1) := by decide +kernel
theorem dX12_undo_20 : decode mX12_undo.2.1 20 = .ok (.isub, 1) := by decide +kernel
theorem dX12_undo_21 : decode mX12_undo.2.1 21 = .ok (.putfield 313, 3) := by decide +kernel
theorem dX12_undo_24 : decode mX12_undo.2.1 24 = .ok (.iconst 0, 1) := by decide +kernel
theorem dX12_undo_25 : decode mX12_undo.2.1 25 = .ok (.istore_n 1, 1) := by decide +kernel
theorem dX12_undo_26 : decode mX12_undo.2.1 26 = .ok (.iload_n 1, 1) := by decide +kernel
theorem dX12_undo_27 : decode mX12_undo.2.1 27 = .ok (.sipush 231, 3) := by decide +kernel
theorem dX12_undo_30 : decode mX12_undo.2.1 30 = .ok (.if_icmp .ge 30, 3) := by decide +kernel
theorem dX12_undo_33 : decode mX12_undo.2.1 33 = .ok (.aload_n 0, 1) := by decide +kernel
theorem dX12_undo_34 : decode mX12_undo.2.1 34 = .ok (.getfield 64, 3) := by decide +kernel
theorem dX12_undo_37 : decode mX12_undo.2.1 37 = .ok (.iload_n 1, 1) := by decide +kernel
theorem dX12_undo_38 : decode mX12_undo.2.1 38 = .ok (.aload_n 0, 1) := by decide +kernel
theorem dX12_undo_39 : decode mX12_undo.2.1 39 = .ok (.getfield 83, 3) := by decide +kernel
theorem dX12_undo_42 : decode mX12_undo.2.1 42 = .ok (.sipush 231, 3) := by decide +kernel
theorem dX12_undo_45 : decode mX12_undo.2.1 45 = .ok (.aload_n 0, 1) := by decide +kernel
theorem dX12_undo_46 : decode mX12_undo.2.1 46 = .ok (.getfield 313, 3) := by decide +kernel
theorem dX12_undo_49 : decode mX12_undo.2.1 49 = .ok (.imul, 1) := by decide +kernel
theorem dX12_undo_50 : decode mX12_undo.2.1 50 = .ok (.iload_n 1, 1) := by decide +kernel
theorem dX12_undo_51 : decode mX12_undo.2.1 51 = .ok (.iadd, 1) := by decide +kernel
theorem dX12_undo_52 : decode mX12_undo.2.1 52 = .ok (.iaload, 1) := by decide +kernel
theorem dX12_undo_53 : decode mX12_undo.2.1 53 = .ok (.iastore, 1) := by decide +kernel
theorem dX12_undo_54 : decode mX12_undo.2.1 54 = .ok (.iinc 1 1, 3) := by decide +kernel
theorem dX12_undo_57 : decode mX12_undo.2.1 57 = .ok (.goto (-31), 3) := by decide +kernel
theorem dX12_undo_60 : decode mX12_undo.2.1 60 = .ok (.aload_n 0, 1) := by decide +kernel
theorem dX12_undo_61 : decode mX12_undo.2.1 61 = .ok (.getfield 313, 3) := by decide +kernel
theorem dX12_undo_64 : decode mX12_undo.2.1 64 = .ok (.ireturn, 1) := by decide +kernel
abbrev mX12_unit : gz_M := (yX12_unit, cX12_unit, 3, some .boolean)
theorem dX12_unit_0 : decode mX12_unit.2.1 0 = .ok (.aload_n 0, 1) := by decide +kernel
theorem dX12_unit_1 : decode mX12_unit.2.1 1 = .ok (.invokevirtual 146, 3) := by decide +kernel
theorem dX12_unit_4 : decode mX12_unit.2.1 4 = .ok (.istore_n 1, 1) := by decide +kernel
theorem dX12_unit_5 : decode mX12_unit.2.1 5 = .ok (.iload_n 1, 1) := by decide +kernel
theorem dX12_unit_6 : decode mX12_unit.2.1 6 = .ok (.bipush 33, 2) := by decide +kernel
theorem dX12_unit_8 : decode mX12_unit.2.1 8 = .ok (.if_icmp .ne 37, 3) := by decide +kernel
theorem dX12_unit_11 : decode mX12_unit.2.1 11 = .ok (.aload_n 0, 1) := by decide +kernel
theorem dX12_unit_12 : decode mX12_unit.2.1 12 = .ok (.invokevirtual 166, 3) := by decide +kernel
theorem dX12_unit_15 : decode mX12_unit.2.1 15 = .ok (.ifCond .ne 5, 3) := by decide +kernel
theorem dX12_unit_18 : decode mX12_unit.2.1 18 = .ok (.iconst 0, 1) := by decide +kernel
theorem dX12_unit_19 : decode mX12_unit.2.1 19 = .ok (.ireturn, 1) := by decide +kernel
theorem dX12_unit_20 : decode mX12_unit.2.1 20 = .ok (.aload_n 0, 1) := by decide +kernel
theorem dX12_unit_21 : decode mX12_unit.2.1 21 = .ok (.invokevirtual 192, 3) := by decide +kernel
theorem dX12_unit_24 : decode mX12_unit.2.1 24 = .ok (.istore_n 2, 1) := by decide +kernel
theorem dX12_unit_25 : decode mX12_unit.2.1 25 = .ok (.aload_n 0, 1) := by decide +kernel
theorem dX12_unit_26 : decode mX12_unit.2.1 26 = .ok (.dup, 1) := by decide +kernel
theorem dX12_unit_27 : decode mX12_unit.2.1 27 = .ok (.getfield 139, 3) := by decide +kernel
theorem dX12_unit_30 : decode mX12_unit.2.1 30 = .ok (.iconst 1, 1) := by decide +kernel
theorem dX12_unit_31 : decode mX12_unit.2.1 31 = .ok (.isub, 1) := by decide +kernel
theorem dX12_unit_32 : decode mX12_unit.2.1 32 = .ok (.putfield 139, 3) := by decide +kernel
theorem dX12_unit_35 : decode mX12_unit.2.1 35 = .ok (.iload_n 2, 1) := by decide +kernel
theorem dX12_unit_36 : decode mX12_unit.2.1 36 = .ok (.ifCond .ne 7, 3) := by decide +kernel
theorem dX12_unit_39 : decode mX12_unit.2.1 39 = .ok (.iconst 1, 1) := by decide +kernel
theorem dX12_unit_40 : decode mX12_unit.2.1 40 = .ok (.goto 4, 3) := by decide +kernel
theorem dX12_unit_43 : decode mX12_unit.2.1 43 = .ok (.iconst 0, 1) := by decide +kernel
theorem dX12_unit_44 : decode mX12_unit.2.1 44 = .ok (.ireturn, 1) := by decide +kernel
theorem dX12_unit_45 : decode mX12_unit.2.1 45 = .ok (.iload_n 1, 1) := by decide +kernel
theorem dX12_unit_46 : decode mX12_unit.2.1 46 = .ok (.bipush 40, 2) := by decide +kernel
theorem dX12_unit_48 : decode mX12_unit.2.1 48 = .ok (.if_icmp .ne 42, 3) := by decide +kernel
theorem dX12_unit_51 : decode mX12_unit.2.1 51 = .ok (.aload_n 0, 1) := by decide +kernel
theorem dX12_unit_52 : decode mX12_unit.2.1 52 = .ok (.invokevirtual 166, 3) := by decide +kernel
theorem dX12_unit_55 : decode mX12_unit.2.1 55 = .ok (.ifCond .ne 5, 3) := by decide +kernel
theorem dX12_unit_58 : decode mX12_unit.2.1 58 = .ok (.iconst 0, 1) := by decide +kernel
theorem dX12_unit_59 : decode mX12_unit.2.1 59 = .ok (.ireturn, 1) := by decide +kernel
theorem dX12_unit_60 : decode mX12_unit.2.1 60 = .ok (.aload_n 0, 1) := by decide +kernel
theorem dX12_unit_61 : decode mX12_unit.2.1 61 = .ok (.iconst 0, 1) := by decide +kernel
theorem dX12_unit_62 : decode mX12_unit.2.1 62 = .ok (.iconst 0, 1) := by decide +kernel
theorem dX12_unit_63 : decode mX12_unit.2.1 63 = .ok (.invokevirtual 195, 3) := by decide +kernel
theorem dX12_unit_66 : decode mX12_unit.2.1 66 = .ok (.istore_n 2, 1) := by decide +kernel
theorem dX12_unit_67 : decode mX12_unit.2.1 67 = .ok (.aload_n 0, 1) := by decide +kernel
theorem dX12_unit_68 : decode mX12_unit.2.1 68 = .ok (.bipush 41, 2) := by decide +kernel
theorem dX12_unit_70 : decode mX12_unit.2.1 70 = .ok (.invokevirtual 172, 3) := by decide +kernel
theorem dX12_unit_73 : decode mX12_unit.2.1 73 = .ok (.ifCond .ne 5, 3) := by decide +kernel
theorem dX12_unit_76 : decode mX12_unit.2.1 76 = .ok (.iconst 0, 1) := by decide +kernel
theorem dX12_unit_77 : decode mX12_unit.2.1 77 = .ok (.ireturn, 1) := by decide +kernel
theorem dX12_unit_78 : decode mX12_unit.2.1 78 = .ok (.aload_n 0, 1) := by decide +kernel
theorem dX12_unit_79 : decode mX12_unit.2.1 79 = .ok (.dup, 1) := by decide +kernel
theorem dX12_unit_80 : decode mX12_unit.2.1 80 = .ok (.getfield 139, 3) := by decide +kernel
theorem dX12_unit_83 : decode mX12_unit.2.1 83 = .ok (.iconst 1, 1) := by decide +kernel
theorem dX12_unit_84 : decode mX12_unit.2.1 84 = .ok (.isub, 1) := by decide +kernel
theorem dX12_unit_85 : decode mX12_unit.2.1 85 = .ok (.putfield 139, 3) := by decide +kernel
theorem dX12_unit_88 : decode mX12_unit.2.1 88 = .ok (.iload_n 2, 1) := by decide +kernel
theorem dX12_unit_89 : decode mX12_unit.2.1 89 = .ok (.ireturn, 1) := by decide +kernel
theorem dX12_unit_90 : decode mX12_unit.2.1 90 = .ok (.aload_n 0, 1) := by decide +kernel
theorem dX12_unit_91 : decode mX12_unit.2.1 91 = .ok (.iconst 0, 1) := by decide +kernel
theorem dX12_unit_92 : decode mX12_unit.2.1 92 = .ok (.iconst 0, 1) := by decide +kernel
theorem dX12_unit_93 : decode mX12_unit.2.1 93 = .ok (.invokevirtual 199, 3) := by decide +kernel
theorem dX12_unit_96 : decode mX12_unit.2.1 96 = .ok (.ireturn, 1) := by decide +kernel
abbrev mX12_usual : gz_M := (yX12_usual, cX12_usual, 2, some .int)
theorem dX12_usual_0 : decode mX12_usual.2.1 0 = .ok (.iload_n 0, 1) := by decide +kernel
theorem dX12_usual_1 : decode mX12_usual.2.1 1 = .ok (.bipush 115, 2) := by decide +kernel
theorem dX12_usual_3 : decode mX12_usual.2.1 3 = .ok (.if_icmp .ne 32, 3) := by decide +kernel
theorem dX12_usual_6 : decode mX12_usual.2.1 6 = .ok (.iload_n 1, 1) := by decide +kernel
theorem dX12_usual_7 : decode mX12_usual.2.1 7 = .ok (.ifCond .ne 7, 3) := by decide +kernel
theorem dX12_usual_10 : decode mX12_usual.2.1 10 = .ok (.iconst 5, 1) := by decide +kernel
theorem dX12_usual_11 : decode mX12_usual.2.1 11 = .ok (.goto 23, 3) := by decide +kernel
theorem dX12_usual_14 : decode mX12_usual.2.1 14 = .ok (.iload_n 1, 1) := by decide +kernel
theorem dX12_usual_15 : decode mX12_usual.2.1 15 = .ok (.iconst 1, 1) := by decide +kernel
theorem dX12_usual_16 : decode mX12_usual.2.1 16 = .ok (.if_icmp .ne 7, 3) := by decide +kernel
theorem dX12_usual_19 : decode mX12_usual.2.1 19 = .ok (.iconst 4, 1) := by decide +kernel
theorem dX12_usual_20 : decode mX12_usual.2.1 20 = .ok (.goto 14, 3) := by decide +kernel
theorem dX12_usual_23 : decode mX12_usual.2.1 23 = .ok (.iload_n 1, 1) := by decide +kernel
theorem dX12_usual_24 : decode mX12_usual.2.1 24 = .ok (.iconst 2, 1) := by decide +kernel
theorem dX12_usual_25 : decode mX12_usual.2.1 25 = .ok (.if_icmp .ne 7, 3) := by decide +kernel
theorem dX12_usual_28 : decode mX12_usual.2.1 28 = .ok (.iconst 0, 1) := by decide +kernel
theorem dX12_usual_29 : decode mX12_usual.2.1 29 = .ok (.goto 5, 3) := by decide +kernel
theorem dX12_usual_32 : decode mX12_usual.2.1 32 = .ok (.bipush 20, 2) := by decide +kernel
theorem dX12_usual_34 : decode mX12_usual.2.1 34 = .ok (.ireturn, 1) := by decide +kernel
theorem dX12_usual_35 : decode mX12_usual.2.1 35 = .ok (.iload_n 1, 1) := by decide +kernel
theorem dX12_usual_36 : decode mX12_usual.2.1 36 = .ok (.iconst 2, 1) := by decide +kernel
theorem dX12_usual_37 : decode mX12_usual.2.1 37 = .ok (.if_icmp .ge 7, 3) := by decide +kernel
theorem dX12_usual_40 : decode mX12_usual.2.1 40 = .ok (.iconst 0, 1) := by decide +kernel
theorem dX12_usual_41 : decode mX12_usual.2.1 41 = .ok (.goto 4, 3) := by decide +kernel
theorem dX12_usual_44 : decode mX12_usual.2.1 44 = .ok (.iconst 1, 1) := by decide +kernel
theorem dX12_usual_45 : decode mX12_usual.2.1 45 = .ok (.ireturn, 1) := by decide +kernel
abbrev mX12_way : gz_M := (yX12_way, cX12_way, 3, some .int)
theorem dX12_way_0 : decode mX12_way.2.1 0 = .ok (.aload_n 0, 1) := by decide +kernel
theorem dX12_way_1 : decode mX12_way.2.1 1 = .ok (.iconst 0, 1) := by decide +kernel
theorem dX12_way_2 : decode mX12_way.2.1 2 = .ok (.putfield 104, 3) := by decide +kernel
theorem dX12_way_5 : decode mX12_way.2.1 5 = .ok (.aload_n 0, 1) := by decide +kernel
theorem dX12_way_6 : decode mX12_way.2.1 6 = .ok (.iload_n 1, 1) := by decide +kernel
theorem dX12_way_7 : decode mX12_way.2.1 7 = .ok (.invokevirtual 373, 3) := by decide +kernel
theorem dX12_way_10 : decode mX12_way.2.1 10 = .ok (.ifCond .eq 11, 3) := by decide +kernel
theorem dX12_way_13 : decode mX12_way.2.1 13 = .ok (.aload_n 0, 1) := by decide +kernel
theorem dX12_way_14 : decode mX12_way.2.1 14 = .ok (.iload_n 2, 1) := by decide +kernel
theorem dX12_way_15 : decode mX12_way.2.1 15 = .ok (.invokevirtual 373, 3) := by decide +kernel
theorem dX12_way_18 : decode mX12_way.2.1 18 = .ok (.ifCond .ne 5, 3) := by decide +kernel
theorem dX12_way_21 : decode mX12_way.2.1 21 = .ok (.iconst (-1), 1) := by decide +kernel
theorem dX12_way_22 : decode mX12_way.2.1 22 = .ok (.ireturn, 1) := by decide +kernel
theorem dX12_way_23 : decode mX12_way.2.1 23 = .ok (.aload_n 0, 1) := by decide +kernel
theorem dX12_way_24 : decode mX12_way.2.1 24 = .ok (.iload_n 1, 1) := by decide +kernel
theorem dX12_way_25 : decode mX12_way.2.1 25 = .ok (.invokevirtual 459, 3) := by decide +kernel
theorem dX12_way_28 : decode mX12_way.2.1 28 = .ok (.aload_n 0, 1) := by decide +kernel
theorem dX12_way_29 : decode mX12_way.2.1 29 = .ok (.getfield 86, 3) := by decide +kernel
theorem dX12_way_32 : decode mX12_way.2.1 32 = .ok (.iload_n 2, 1) := by decide +kernel
theorem dX12_way_33 : decode mX12_way.2.1 33 = .ok (.iaload, 1) := by decide +kernel
theorem dX12_way_34 : decode mX12_way.2.1 34 = .ok (.ireturn, 1) := by decide +kernel
abbrev mX12_where : gz_M := (yX12_where, cX12_where, 5, some .int)
theorem dX12_where_0 : decode mX12_where.2.1 0 = .ok (.aload_n 0, 1) := by decide +kernel
theorem dX12_where_1 : decode mX12_where.2.1 1 = .ok (.iconst 0, 1) := by decide +kernel
theorem dX12_where_2 : decode mX12_where.2.1 2 = .ok (.putfield 104, 3) := by decide +kernel
theorem dX12_where_5 : decode mX12_where.2.1 5 = .ok (.aload_n 0, 1) := by decide +kernel
theorem dX12_where_6 : decode mX12_where.2.1 6 = .ok (.iload_n 1, 1) := by decide +kernel
theorem dX12_where_7 : decode mX12_where.2.1 7 = .ok (.invokevirtual 325, 3) := by decide +kernel
theorem dX12_where_10 : decode mX12_where.2.1 10 = .ok (.ifCond .eq 15, 3) := by decide +kernel
theorem dX12_where_13 : decode mX12_where.2.1 13 = .ok (.iload_n 2, 1) := by decide +kernel
theorem dX12_where_14 : decode mX12_where.2.1 14 = .ok (.i2l, 1) := by decide +kernel
theorem dX12_where_15 : decode mX12_where.2.1 15 = .ok (.lconst 0, 1) := by decide +kernel
theorem dX12_where_16 : decode mX12_where.2.1 16 = .ok (.ldc2_w 444, 3) := by decide +kernel
theorem dX12_where_19 : decode mX12_where.2.1 19 = .ok (.invokestatic 225, 3) := by decide +kernel
theorem dX12_where_22 : decode mX12_where.2.1 22 = .ok (.ifCond .ne 5, 3) := by decide +kernel
theorem dX12_where_25 : decode mX12_where.2.1 25 = .ok (.iconst (-1), 1) := by decide +kernel
theorem dX12_where_26 : decode mX12_where.2.1 26 = .ok (.ireturn, 1) := by decide +kernel
theorem dX12_where_27 : decode mX12_where.2.1 27 = .ok (.aload_n 0, 1) := by decide +kernel
theorem dX12_where_28 : decode mX12_where.2.1 28 = .ok (.getfield 64, 3) := by decide +kernel
theorem dX12_where_31 : decode mX12_where.2.1 31 = .ok (.aload_n 0, 1) := by decide +kernel
theorem dX12_where_32 : decode mX12_where.2.1 32 = .ok (.getfield 67, 3) := by decide +kernel
theorem dX12_where_35 : decode mX12_where.2.1 35 = .ok (.invokestatic 434, 3) := by decide +kernel
theorem dX12_where_38 : decode mX12_where.2.1 38 = .ok (.iconst 0, 1) := by decide +kernel
theorem dX12_where_39 : decode mX12_where.2.1 39 = .ok (.istore_n 3, 1) := by decide +kernel
theorem dX12_where_40 : decode mX12_where.2.1 40 = .ok (.iload_n 3, 1) := by decide +kernel
theorem dX12_where_41 : decode mX12_where.2.1 41 = .ok (.iload_n 2, 1) := by decide +kernel
theorem dX12_where_42 : decode mX12_where.2.1 42 = .ok (.if_icmp .ge 19, 3) := by decide +kernel
theorem dX12_where_45 : decode mX12_where.2.1 45 = .ok (.aload_n 0, 1) := by decide +kernel
theorem dX12_where_46 : decode mX12_where.2.1 46 = .ok (.aload_n 0, 1) := by decide +kernel
theorem dX12_where_47 : decode mX12_where.2.1 47 = .ok (.getfield 67, 3) := by decide +kernel
theorem dX12_where_50 : decode mX12_where.2.1 50 = .ok (.invokevirtual 367, 3) := by decide +kernel
theorem dX12_where_53 : decode mX12_where.2.1 53 = .ok (.istore 4, 2) := by decide +kernel
theorem dX12_where_55 : decode mX12_where.2.1 55 = .ok (.iinc 3 1, 3) := by decide +kernel
theorem dX12_where_58 : decode mX12_where.2.1 58 = .ok (.goto (-18), 3) := by decide +kernel
theorem dX12_where_61 : decode mX12_where.2.1 61 = .ok (.aload_n 0, 1) := by decide +kernel
theorem dX12_where_62 : decode mX12_where.2.1 62 = .ok (.getfield 67, 3) := by decide +kernel
theorem dX12_where_65 : decode mX12_where.2.1 65 = .ok (.bipush 30, 2) := by decide +kernel
theorem dX12_where_67 : decode mX12_where.2.1 67 = .ok (.iconst 4, 1) := by decide +kernel
theorem dX12_where_68 : decode mX12_where.2.1 68 = .ok (.iload_n 1, 1) := by decide +kernel
theorem dX12_where_69 : decode mX12_where.2.1 69 = .ok (.imul, 1) := by decide +kernel
theorem dX12_where_70 : decode mX12_where.2.1 70 = .ok (.iadd, 1) := by decide +kernel
theorem dX12_where_71 : decode mX12_where.2.1 71 = .ok (.iaload, 1) := by decide +kernel
theorem dX12_where_72 : decode mX12_where.2.1 72 = .ok (.ireturn, 1) := by decide +kernel
abbrev mX12_within : gz_M := (yX12_within, cX12_within, 2, some .int)
theorem dX12_within_0 : decode mX12_within.2.1 0 = .ok (.ldc2_w 149, 3) := by decide +kernel
theorem dX12_within_3 : decode mX12_within.2.1 3 = .ok (.ldc2_w 151, 3) := by decide +kernel
theorem dX12_within_6 : decode mX12_within.2.1 6 = .ok (.lload_n 0, 1) := by decide +kernel
theorem dX12_within_7 : decode mX12_within.2.1 7 = .ok (.invokestatic 153, 3) := by decide +kernel
theorem dX12_within_10 : decode mX12_within.2.1 10 = .ok (.invokestatic 159, 3) := by decide +kernel
theorem dX12_within_13 : decode mX12_within.2.1 13 = .ok (.l2i, 1) := by decide +kernel
theorem dX12_within_14 : decode mX12_within.2.1 14 = .ok (.ireturn, 1) := by decide +kernel
abbrev mX12_worthOf : gz_M := (yX12_worthOf, cX12_worthOf, 9, some .int)
theorem dX12_worthOf_0 : decode mX12_worthOf.2.1 0 = .ok (.iconst 1, 1) := by decide +kernel
theorem dX12_worthOf_1 : decode mX12_worthOf.2.1 1 = .ok (.aload_n 0, 1) := by decide +kernel
theorem dX12_worthOf_2 : decode mX12_worthOf.2.1 2 = .ok (.getfield 70, 3) := by decide +kernel
theorem dX12_worthOf_5 : decode mX12_worthOf.2.1 5 = .ok (.iadd, 1) := by decide +kernel
theorem dX12_worthOf_6 : decode mX12_worthOf.2.1 6 = .ok (.istore 7, 2) := by decide +kernel
theorem dX12_worthOf_8 : decode mX12_worthOf.2.1 8 = .ok (.iconst 4, 1) := by decide +kernel
theorem dX12_worthOf_9 : decode mX12_worthOf.2.1 9 = .ok (.iload 7, 2) := by decide +kernel
theorem dX12_worthOf_11 : decode mX12_worthOf.2.1 11 = .ok (.imul, 1) := by decide +kernel
theorem dX12_worthOf_12 : decode mX12_worthOf.2.1 12 = .ok (.iload_n 1, 1) := by decide +kernel
theorem dX12_worthOf_13 : decode mX12_worthOf.2.1 13 = .ok (.iadd, 1) := by decide +kernel
theorem dX12_worthOf_14 : decode mX12_worthOf.2.1 14 = .ok (.istore 7, 2) := by decide +kernel
theorem dX12_worthOf_16 : decode mX12_worthOf.2.1 16 = .ok (.iconst 4, 1) := by decide +kernel
theorem dX12_worthOf_17 : decode mX12_worthOf.2.1 17 = .ok (.iload 7, 2) := by decide +kernel
theorem dX12_worthOf_19 : decode mX12_worthOf.2.1 19 = .ok (.imul, 1) := by decide +kernel
theorem dX12_worthOf_20 : decode mX12_worthOf.2.1 20 = .ok (.iload_n 2, 1) := by decide +kernel
theorem dX12_worthOf_21 : decode mX12_worthOf.2.1 21 = .ok (.iadd, 1) := by decide +kernel
theorem dX12_worthOf_22 : decode mX12_worthOf.2.1 22 = .ok (.istore 7, 2) := by decide +kernel
theorem dX12_worthOf_24 : decode mX12_worthOf.2.1 24 = .ok (.iconst 4, 1) := by decide +kernel
theorem dX12_worthOf_25 : decode mX12_worthOf.2.1 25 = .ok (.iload 7, 2) := by decide +kernel
theorem dX12_worthOf_27 : decode mX12_worthOf.2.1 27 = .ok (.imul, 1) := by decide +kernel
theorem dX12_worthOf_28 : decode mX12_worthOf.2.1 28 = .ok (.iload_n 3, 1) := by decide +kernel
theorem dX12_worthOf_29 : decode mX12_worthOf.2.1 29 = .ok (.iadd, 1) := by decide +kernel
theorem dX12_worthOf_30 : decode mX12_worthOf.2.1 30 = .ok (.istore 7, 2) := by decide +kernel
theorem dX12_worthOf_32 : decode mX12_worthOf.2.1 32 = .ok (.iconst 5, 1) := by decide +kernel
theorem dX12_worthOf_33 : decode mX12_worthOf.2.1 33 = .ok (.iload 7, 2) := by decide +kernel
theorem dX12_worthOf_35 : decode mX12_worthOf.2.1 35 = .ok (.imul, 1) := by decide +kernel
theorem dX12_worthOf_36 : decode mX12_worthOf.2.1 36 = .ok (.iload 4, 2) := by decide +kernel
theorem dX12_worthOf_38 : decode mX12_worthOf.2.1 38 = .ok (.iadd, 1) := by decide +kernel
theorem dX12_worthOf_39 : decode mX12_worthOf.2.1 39 = .ok (.istore 7, 2) := by decide +kernel
theorem dX12_worthOf_41 : decode mX12_worthOf.2.1 41 = .ok (.bipush 100, 2) := by decide +kernel
theorem dX12_worthOf_43 : decode mX12_worthOf.2.1 43 = .ok (.iload 7, 2) := by decide +kernel
theorem dX12_worthOf_45 : decode mX12_worthOf.2.1 45 = .ok (.imul, 1) := by decide +kernel
theorem dX12_worthOf_46 : decode mX12_worthOf.2.1 46 = .ok (.iload 5, 2) := by decide +kernel
theorem dX12_worthOf_48 : decode mX12_worthOf.2.1 48 = .ok (.iadd, 1) := by decide +kernel
theorem dX12_worthOf_49 : decode mX12_worthOf.2.1 49 = .ok (.istore 7, 2) := by decide +kernel
theorem dX12_worthOf_51 : decode mX12_worthOf.2.1 51 = .ok (.bipush 24, 2) := by decide +kernel
theorem dX12_worthOf_53 : decode mX12_worthOf.2.1 53 = .ok (.iload 7, 2) := by decide +kernel
theorem dX12_worthOf_55 : decode mX12_worthOf.2.1 55 = .ok (.imul, 1) := by decide +kernel
theorem dX12_worthOf_56 : decode mX12_worthOf.2.1 56 = .ok (.iload 6, 2) := by decide +kernel
theorem dX12_worthOf_58 : decode mX12_worthOf.2.1 58 = .ok (.iadd, 1) := by decide +kernel
theorem dX12_worthOf_59 : decode mX12_worthOf.2.1 59 = .ok (.istore 7, 2) := by decide +kernel
theorem dX12_worthOf_61 : decode mX12_worthOf.2.1 61 = .ok (.iload 7, 2) := by decide +kernel
theorem dX12_worthOf_63 : decode mX12_worthOf.2.1 63 = .ok (.sipush 8191, 3) := by decide +kernel
theorem dX12_worthOf_66 : decode mX12_worthOf.2.1 66 = .ok (.irem, 1) := by decide +kernel
theorem dX12_worthOf_67 : decode mX12_worthOf.2.1 67 = .ok (.istore 8, 2) := by decide +kernel
theorem dX12_worthOf_69 : decode mX12_worthOf.2.1 69 = .ok (.aload_n 0, 1) := by decide +kernel
theorem dX12_worthOf_70 : decode mX12_worthOf.2.1 70 = .ok (.getfield 77, 3) := by decide +kernel
theorem dX12_worthOf_73 : decode mX12_worthOf.2.1 73 = .ok (.iload 8, 2) := by decide +kernel
theorem dX12_worthOf_75 : decode mX12_worthOf.2.1 75 = .ok (.iaload, 1) := by decide +kernel
theorem dX12_worthOf_76 : decode mX12_worthOf.2.1 76 = .ok (.iload 7, 2) := by decide +kernel
theorem dX12_worthOf_78 : decode mX12_worthOf.2.1 78 = .ok (.if_icmp .ne 11, 3) := by decide +kernel
theorem dX12_worthOf_81 : decode mX12_worthOf.2.1 81 = .ok (.aload_n 0, 1) := by decide +kernel
theorem dX12_worthOf_82 : decode mX12_worthOf.2.1 82 = .ok (.getfield 80, 3) := by decide +kernel
theorem dX12_worthOf_85 : decode mX12_worthOf.2.1 85 = .ok (.iload 8, 2) := by decide +kernel
theorem dX12_worthOf_87 : decode mX12_worthOf.2.1 87 = .ok (.iaload, 1) := by decide +kernel
theorem dX12_worthOf_88 : decode mX12_worthOf.2.1 88 = .ok (.ireturn, 1) := by decide +kernel
theorem dX12_worthOf_89 : decode mX12_worthOf.2.1 89 = .ok (.aload_n 0, 1) := by decide +kernel
theorem dX12_worthOf_90 : decode mX12_worthOf.2.1 90 = .ok (.getfield 20, 3) := by decide +kernel
theorem dX12_worthOf_93 : decode mX12_worthOf.2.1 93 = .ok (.bipush 98, 2) := by decide +kernel
theorem dX12_worthOf_95 : decode mX12_worthOf.2.1 95 = .ok (.iload_n 1, 1) := by decide +kernel
theorem dX12_worthOf_96 : decode mX12_worthOf.2.1 96 = .ok (.iastore, 1) := by decide +kernel
theorem dX12_worthOf_97 : decode mX12_worthOf.2.1 97 = .ok (.aload_n 0, 1) := by decide +kernel
theorem dX12_worthOf_98 : decode mX12_worthOf.2.1 98 = .ok (.getfield 20, 3) := by decide +kernel
theorem dX12_worthOf_101 : decode mX12_worthOf.2.1 101 = .ok (.bipush 97, 2) := by decide +kernel
theorem dX12_worthOf_103 : decode mX12_worthOf.2.1 103 = .ok (.iload_n 2, 1) := by decide +kernel
theorem dX12_worthOf_104 : decode mX12_worthOf.2.1 104 = .ok (.iastore, 1) := by decide +kernel
theorem dX12_worthOf_105 : decode mX12_worthOf.2.1 105 = .ok (.aload_n 0, 1) := by decide +kernel
theorem dX12_worthOf_106 : decode mX12_worthOf.2.1 106 = .ok (.getfield 20, 3) := by decide +kernel
theorem dX12_worthOf_109 : decode mX12_worthOf.2.1 109 = .ok (.bipush 114, 2) := by decide +kernel
theorem dX12_worthOf_111 : decode mX12_worthOf.2.1 111 = .ok (.iload_n 3, 1) := by decide +kernel
theorem dX12_worthOf_112 : decode mX12_worthOf.2.1 112 = .ok (.iastore, 1) := by decide +kernel
theorem dX12_worthOf_113 : decode mX12_worthOf.2.1 113 = .ok (.aload_n 0, 1) := by decide +kernel
theorem dX12_worthOf_114 : decode mX12_worthOf.2.1 114 = .ok (.getfield 20, 3) := by decide +kernel
theorem dX12_worthOf_117 : decode mX12_worthOf.2.1 117 = .ok (.bipush 112, 2) := by decide +kernel
theorem dX12_worthOf_119 : decode mX12_worthOf.2.1 119 = .ok (.iload 4, 2) := by decide +kernel
theorem dX12_worthOf_121 : decode mX12_worthOf.2.1 121 = .ok (.iastore, 1) := by decide +kernel
theorem dX12_worthOf_122 : decode mX12_worthOf.2.1 122 = .ok (.aload_n 0, 1) := by decide +kernel
theorem dX12_worthOf_123 : decode mX12_worthOf.2.1 123 = .ok (.getfield 20, 3) := by decide +kernel
theorem dX12_worthOf_126 : decode mX12_worthOf.2.1 126 = .ok (.bipush 110, 2) := by decide +kernel
theorem dX12_worthOf_128 : decode mX12_worthOf.2.1 128 = .ok (.iload 5, 2) := by decide +kernel
theorem dX12_worthOf_130 : decode mX12_worthOf.2.1 130 = .ok (.iastore, 1) := by decide +kernel
theorem dX12_worthOf_131 : decode mX12_worthOf.2.1 131 = .ok (.aload_n 0, 1) := by decide +kernel
theorem dX12_worthOf_132 : decode mX12_worthOf.2.1 132 = .ok (.getfield 20, 3) := by decide +kernel
theorem dX12_worthOf_135 : decode mX12_worthOf.2.1 135 = .ok (.bipush 116, 2) := by decide +kernel
theorem dX12_worthOf_137 : decode mX12_worthOf.2.1 137 = .ok (.iload 6, 2) := by decide +kernel
theorem dX12_worthOf_139 : decode mX12_worthOf.2.1 139 = .ok (.iastore, 1) := by decide +kernel
theorem dX12_worthOf_140 : decode mX12_worthOf.2.1 140 = .ok (.aload_n 0, 1) := by decide +kernel
theorem dX12_worthOf_141 : decode mX12_worthOf.2.1 141 = .ok (.aload_n 0, 1) := by decide +kernel
theorem dX12_worthOf_142 : decode mX12_worthOf.2.1 142 = .ok (.getfield 13, 3) := by decide +kernel
theorem dX12_worthOf_145 : decode mX12_worthOf.2.1 145 = .ok (.sipush 240, 3) := by decide +kernel
theorem dX12_worthOf_148 : decode mX12_worthOf.2.1 148 = .ok (.aload_n 0, 1) := by decide +kernel
theorem dX12_worthOf_149 : decode mX12_worthOf.2.1 149 = .ok (.getfield 70, 3) := by decide +kernel
theorem dX12_worthOf_152 : decode mX12_worthOf.2.1 152 = .ok (.imul, 1) := by decide +kernel
theorem dX12_worthOf_153 : decode mX12_worthOf.2.1 153 = .ok (.aload_n 0, 1) := by decide +kernel
theorem dX12_worthOf_154 : decode mX12_worthOf.2.1 154 = .ok (.getfield 16, 3) := by decide +kernel
theorem dX12_worthOf_157 : decode mX12_worthOf.2.1 157 = .ok (.aload_n 0, 1) := by decide +kernel
theorem dX12_worthOf_158 : decode mX12_worthOf.2.1 158 = .ok (.getfield 70, 3) := by decide +kernel
theorem dX12_worthOf_161 : decode mX12_worthOf.2.1 161 = .ok (.iaload, 1) := by decide +kernel
theorem dX12_worthOf_162 : decode mX12_worthOf.2.1 162 = .ok (.invokevirtual 289, 3) := by decide +kernel
theorem dX12_worthOf_165 : decode mX12_worthOf.2.1 165 = .ok (.aload_n 0, 1) := by decide +kernel
theorem dX12_worthOf_166 : decode mX12_worthOf.2.1 166 = .ok (.getfield 77, 3) := by decide +kernel
theorem dX12_worthOf_169 : decode mX12_worthOf.2.1 169 = .ok (.iload 8, 2) := by decide +kernel
theorem dX12_worthOf_171 : decode mX12_worthOf.2.1 171 = .ok (.iload 7, 2) := by decide +kernel
theorem dX12_worthOf_173 : decode mX12_worthOf.2.1 173 = .ok (.iastore, 1) := by decide +kernel
theorem dX12_worthOf_174 : decode mX12_worthOf.2.1 174 = .ok (.aload_n 0, 1) := by decide +kernel
theorem dX12_worthOf_175 : decode mX12_worthOf.2.1 175 = .ok (.getfield 80, 3) := by decide +kernel
theorem dX12_worthOf_178 : decode mX12_worthOf.2.1 178 = .ok (.iload 8, 2) := by decide +kernel
theorem dX12_worthOf_180 : decode mX12_worthOf.2.1 180 = .ok (.aload_n 0, 1) := by decide +kernel
theorem dX12_worthOf_181 : decode mX12_worthOf.2.1 181 = .ok (.getfield 212, 3) := by decide +kernel
theorem dX12_worthOf_184 : decode mX12_worthOf.2.1 184 = .ok (.iconst 4, 1) := by decide +kernel
theorem dX12_worthOf_185 : decode mX12_worthOf.2.1 185 = .ok (.irem, 1) := by decide +kernel
theorem dX12_worthOf_186 : decode mX12_worthOf.2.1 186 = .ok (.iconst 4, 1) := by decide +kernel
theorem dX12_worthOf_187 : decode mX12_worthOf.2.1 187 = .ok (.iadd, 1) := by decide +kernel
theorem dX12_worthOf_188 : decode mX12_worthOf.2.1 188 = .ok (.iconst 4, 1) := by decide +kernel
theorem dX12_worthOf_189 : decode mX12_worthOf.2.1 189 = .ok (.irem, 1) := by decide +kernel
theorem dX12_worthOf_190 : decode mX12_worthOf.2.1 190 = .ok (.iastore, 1) := by decide +kernel
theorem dX12_worthOf_191 : decode mX12_worthOf.2.1 191 = .ok (.aload_n 0, 1) := by decide +kernel
theorem dX12_worthOf_192 : decode mX12_worthOf.2.1 192 = .ok (.getfield 80, 3) := by decide +kernel
theorem dX12_worthOf_195 : decode mX12_worthOf.2.1 195 = .ok (.iload 8, 2) := by decide +kernel
theorem dX12_worthOf_197 : decode mX12_worthOf.2.1 197 = .ok (.iaload, 1) := by decide +kernel
theorem dX12_worthOf_198 : decode mX12_worthOf.2.1 198 = .ok (.ireturn, 1) := by decide +kernel
abbrev mX12_years : gz_M := (yX12_years, cX12_years, 7, some .int)
theorem dX12_years_0 : decode mX12_years.2.1 0 = .ok (.aload_n 0, 1) := by decide +kernel
theorem dX12_years_1 : decode mX12_years.2.1 1 = .ok (.iconst 0, 1) := by decide +kernel
theorem dX12_years_2 : decode mX12_years.2.1 2 = .ok (.putfield 104, 3) := by decide +kernel
theorem dX12_years_5 : decode mX12_years.2.1 5 = .ok (.aload_n 0, 1) := by decide +kernel
theorem dX12_years_6 : decode mX12_years.2.1 6 = .ok (.getfield 303, 3) := by decide +kernel
theorem dX12_years_9 : decode mX12_years.2.1 9 = .ok (.ifCond .eq 30, 3) := by decide +kernel
theorem dX12_years_12 : decode mX12_years.2.1 12 = .ok (.iload_n 1, 1) := by decide +kernel
theorem dX12_years_13 : decode mX12_years.2.1 13 = .ok (.i2l, 1) := by decide +kernel
theorem dX12_years_14 : decode mX12_years.2.1 14 = .ok (.lconst 1, 1) := by decide +kernel
theorem dX12_years_15 : decode mX12_years.2.1 15 = .ok (.ldc2_w 425, 3) := by decide +kernel
theorem dX12_years_18 : decode mX12_years.2.1 18 = .ok (.invokestatic 225, 3) := by decide +kernel
theorem dX12_years_21 : decode mX12_years.2.1 21 = .ok (.ifCond .eq 18, 3) := by decide +kernel
theorem dX12_years_24 : decode mX12_years.2.1 24 = .ok (.aload_n 0, 1) := by decide +kernel
theorem dX12_years_25 : decode mX12_years.2.1 25 = .ok (.getfield 64, 3) := by decide +kernel
theorem dX12_years_28 : decode mX12_years.2.1 28 = .ok (.bipush 49, 2) := by decide +kernel
theorem dX12_years_30 : decode mX12_years.2.1 30 = .ok (.iaload, 1) := by decide +kernel
theorem dX12_years_31 : decode mX12_years.2.1 31 = .ok (.iload_n 1, 1) := by decide +kernel
theorem dX12_years_32 : decode mX12_years.2.1 32 = .ok (.iadd, 1) := by decide +kernel
theorem dX12_years_33 : decode mX12_years.2.1 33 = .ok (.sipush 9999, 3) := by decide +kernel
theorem dX12_years_36 : decode mX12_years.2.1 36 = .ok (.if_icmp .le 5, 3) := by decide +kernel
theorem dX12_years_39 : decode mX12_years.2.1 39 = .ok (.iconst (-1), 1) := by decide +kernel
theorem dX12_years_40 : decode mX12_years.2.1 40 = .ok (.ireturn, 1) := by decide +kernel
theorem dX12_years_41 : decode mX12_years.2.1 41 = .ok (.aload_n 0, 1) := by decide +kernel
theorem dX12_years_42 : decode mX12_years.2.1 42 = .ok (.lload_n 2, 1) := by decide +kernel
theorem dX12_years_43 : decode mX12_years.2.1 43 = .ok (.putfield 417, 3) := by decide +kernel
theorem dX12_years_46 : decode mX12_years.2.1 46 = .ok (.iconst 0, 1) := by decide +kernel
theorem dX12_years_47 : decode mX12_years.2.1 47 = .ok (.istore 4, 2) := by decide +kernel
theorem dX12_years_49 : decode mX12_years.2.1 49 = .ok (.iload 4, 2) := by decide +kernel
theorem dX12_years_51 : decode mX12_years.2.1 51 = .ok (.iload_n 1, 1) := by decide +kernel
theorem dX12_years_52 : decode mX12_years.2.1 52 = .ok (.if_icmp .ge 93, 3) := by decide +kernel
theorem dX12_years_55 : decode mX12_years.2.1 55 = .ok (.aload_n 0, 1) := by decide +kernel
theorem dX12_years_56 : decode mX12_years.2.1 56 = .ok (.invokevirtual 380, 3) := by decide +kernel
theorem dX12_years_59 : decode mX12_years.2.1 59 = .ok (.aload_n 0, 1) := by decide +kernel
theorem dX12_years_60 : decode mX12_years.2.1 60 = .ok (.getfield 64, 3) := by decide +kernel
theorem dX12_years_63 : decode mX12_years.2.1 63 = .ok (.bipush 46, 2) := by decide +kernel
theorem dX12_years_65 : decode mX12_years.2.1 65 = .ok (.aload_n 0, 1) := by decide +kernel
theorem dX12_years_66 : decode mX12_years.2.1 66 = .ok (.bipush 6, 2) := by decide +kernel
theorem dX12_years_68 : decode mX12_years.2.1 68 = .ok (.invokevirtual 427, 3) := by decide +kernel
theorem dX12_years_71 : decode mX12_years.2.1 71 = .ok (.iastore, 1) := by decide +kernel
theorem dX12_years_72 : decode mX12_years.2.1 72 = .ok (.aload_n 0, 1) := by decide +kernel
theorem dX12_years_73 : decode mX12_years.2.1 73 = .ok (.bipush 10, 2) := by decide +kernel
theorem dX12_years_75 : decode mX12_years.2.1 75 = .ok (.invokevirtual 427, 3) := by decide +kernel
theorem dX12_years_78 : decode mX12_years.2.1 78 = .ok (.aload_n 0, 1) := by decide +kernel
theorem dX12_years_79 : decode mX12_years.2.1 79 = .ok (.getfield 74, 3) := by decide +kernel
theorem dX12_years_82 : decode mX12_years.2.1 82 = .ok (.if_icmp .ge 47, 3) := by decide +kernel
theorem dX12_years_85 : decode mX12_years.2.1 85 = .ok (.aload_n 0, 1) := by decide +kernel
theorem dX12_years_86 : decode mX12_years.2.1 86 = .ok (.aload_n 0, 1) := by decide +kernel
theorem dX12_years_87 : decode mX12_years.2.1 87 = .ok (.getfield 303, 3) := by decide +kernel
theorem dX12_years_90 : decode mX12_years.2.1 90 = .ok (.invokevirtual 427, 3) := by decide +kernel
theorem dX12_years_93 : decode mX12_years.2.1 93 = .ok (.istore 5, 2) := by decide +kernel
theorem dX12_years_95 : decode mX12_years.2.1 95 = .ok (.aload_n 0, 1) := by decide +kernel
theorem dX12_years_96 : decode mX12_years.2.1 96 = .ok (.iconst 4, 1) := by decide +kernel
theorem dX12_years_97 : decode mX12_years.2.1 97 = .ok (.invokevirtual 427, 3) := by decide +kernel
theorem dX12_years_100 : decode mX12_years.2.1 100 = .ok (.istore 6, 2) := by decide +kernel
theorem dX12_years_102 : decode mX12_years.2.1 102 = .ok (.aload_n 0, 1) := by decide +kernel
theorem dX12_years_103 : decode mX12_years.2.1 103 = .ok (.aload_n 0, 1) := by decide +kernel
theorem dX12_years_104 : decode mX12_years.2.1 104 = .ok (.getfield 64, 3) := by decide +kernel
theorem dX12_years_107 : decode mX12_years.2.1 107 = .ok (.iload 5, 2) := by decide +kernel
theorem dX12_years_109 : decode mX12_years.2.1 109 = .ok (.iload 6, 2) := by decide +kernel
theorem dX12_years_111 : decode mX12_years.2.1 111 = .ok (.invokevirtual 408, 3) := by decide +kernel
theorem dX12_years_114 : decode mX12_years.2.1 114 = .ok (.ifCond .eq 15, 3) := by decide +kernel
theorem dX12_years_117 : decode mX12_years.2.1 117 = .ok (.aload_n 0, 1) := by decide +kernel
theorem dX12_years_118 : decode mX12_years.2.1 118 = .ok (.aload_n 0, 1) := by decide +kernel
theorem dX12_years_119 : decode mX12_years.2.1 119 = .ok (.getfield 64, 3) := by decide +kernel
theorem dX12_years_122 : decode mX12_years.2.1 122 = .ok (.iload 5, 2) := by decide +kernel
theorem dX12_years_124 : decode mX12_years.2.1 124 = .ok (.iload 6, 2) := by decide +kernel
theorem dX12_years_126 : decode mX12_years.2.1 126 = .ok (.invokevirtual 412, 3) := by decide +kernel
theorem dX12_years_129 : decode mX12_years.2.1 129 = .ok (.aload_n 0, 1) := by decide +kernel
theorem dX12_years_130 : decode mX12_years.2.1 130 = .ok (.aload_n 0, 1) := by decide +kernel
theorem dX12_years_131 : decode mX12_years.2.1 131 = .ok (.getfield 64, 3) := by decide +kernel
theorem dX12_years_134 : decode mX12_years.2.1 134 = .ok (.invokevirtual 383, 3) := by decide +kernel
theorem dX12_years_137 : decode mX12_years.2.1 137 = .ok (.istore 5, 2) := by decide +kernel
theorem dX12_years_139 : decode mX12_years.2.1 139 = .ok (.iinc 4 1, 3) := by decide +kernel
theorem dX12_years_142 : decode mX12_years.2.1 142 = .ok (.goto (-93), 3) := by decide +kernel
theorem dX12_years_145 : decode mX12_years.2.1 145 = .ok (.aload_n 0, 1) := by decide +kernel
theorem dX12_years_146 : decode mX12_years.2.1 146 = .ok (.getfield 64, 3) := by decide +kernel
theorem dX12_years_149 : decode mX12_years.2.1 149 = .ok (.bipush 49, 2) := by decide +kernel
theorem dX12_years_151 : decode mX12_years.2.1 151 = .ok (.iaload, 1) := by decide +kernel
theorem dX12_years_152 : decode mX12_years.2.1 152 = .ok (.ireturn, 1) := by decide +kernel
