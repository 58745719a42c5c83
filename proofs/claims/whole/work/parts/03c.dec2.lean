abbrev mX10_lawfulLook : gz_M := (yX10_lawfulLook, cX10_lawfulLook, 6, some .int)
theorem dX10_lawfulLook_0 : decode mX10_lawfulLook.2.1 0 = .ok (.aload_n 1, 1) := by decide +kernel
theorem dX10_lawfulLook_1 : decode mX10_lawfulLook.2.1 1 = .ok (.getfield 26, 3) := by decide +kernel
theorem dX10_lawfulLook_4 : decode mX10_lawfulLook.2.1 4 = .ok (.bipush 34, 2) := by decide +kernel
theorem dX10_lawfulLook_6 : decode mX10_lawfulLook.2.1 6 = .ok (.iload_n 2, 1) := by decide +kernel
theorem dX10_lawfulLook_7 : decode mX10_lawfulLook.2.1 7 = .ok (.iadd, 1) := by decide +kernel
theorem dX10_lawfulLook_8 : decode mX10_lawfulLook.2.1 8 = .ok (.iaload, 1) := by decide +kernel
theorem dX10_lawfulLook_9 : decode mX10_lawfulLook.2.1 9 = .ok (.istore 5, 2) := by decide +kernel
theorem dX10_lawfulLook_11 : decode mX10_lawfulLook.2.1 11 = .ok (.aload_n 0, 1) := by decide +kernel
theorem dX10_lawfulLook_12 : decode mX10_lawfulLook.2.1 12 = .ok (.getfield 11, 3) := by decide +kernel
theorem dX10_lawfulLook_15 : decode mX10_lawfulLook.2.1 15 = .ok (.iconst 0, 1) := by decide +kernel
theorem dX10_lawfulLook_16 : decode mX10_lawfulLook.2.1 16 = .ok (.iload 5, 2) := by decide +kernel
theorem dX10_lawfulLook_18 : decode mX10_lawfulLook.2.1 18 = .ok (.iastore, 1) := by decide +kernel
theorem dX10_lawfulLook_19 : decode mX10_lawfulLook.2.1 19 = .ok (.aload_n 0, 1) := by decide +kernel
theorem dX10_lawfulLook_20 : decode mX10_lawfulLook.2.1 20 = .ok (.getfield 11, 3) := by decide +kernel
theorem dX10_lawfulLook_23 : decode mX10_lawfulLook.2.1 23 = .ok (.iconst 1, 1) := by decide +kernel
theorem dX10_lawfulLook_24 : decode mX10_lawfulLook.2.1 24 = .ok (.iload_n 3, 1) := by decide +kernel
theorem dX10_lawfulLook_25 : decode mX10_lawfulLook.2.1 25 = .ok (.iastore, 1) := by decide +kernel
theorem dX10_lawfulLook_26 : decode mX10_lawfulLook.2.1 26 = .ok (.aload_n 0, 1) := by decide +kernel
theorem dX10_lawfulLook_27 : decode mX10_lawfulLook.2.1 27 = .ok (.getfield 11, 3) := by decide +kernel
theorem dX10_lawfulLook_30 : decode mX10_lawfulLook.2.1 30 = .ok (.iconst 2, 1) := by decide +kernel
theorem dX10_lawfulLook_31 : decode mX10_lawfulLook.2.1 31 = .ok (.iload 4, 2) := by decide +kernel
theorem dX10_lawfulLook_33 : decode mX10_lawfulLook.2.1 33 = .ok (.iastore, 1) := by decide +kernel
theorem dX10_lawfulLook_34 : decode mX10_lawfulLook.2.1 34 = .ok (.aload_n 0, 1) := by decide +kernel
theorem dX10_lawfulLook_35 : decode mX10_lawfulLook.2.1 35 = .ok (.getfield 11, 3) := by decide +kernel
theorem dX10_lawfulLook_38 : decode mX10_lawfulLook.2.1 38 = .ok (.iconst 3, 1) := by decide +kernel
theorem dX10_lawfulLook_39 : decode mX10_lawfulLook.2.1 39 = .ok (.aload_n 1, 1) := by decide +kernel
theorem dX10_lawfulLook_40 : decode mX10_lawfulLook.2.1 40 = .ok (.getfield 26, 3) := by decide +kernel
theorem dX10_lawfulLook_43 : decode mX10_lawfulLook.2.1 43 = .ok (.bipush 50, 2) := by decide +kernel
theorem dX10_lawfulLook_45 : decode mX10_lawfulLook.2.1 45 = .ok (.iload_n 2, 1) := by decide +kernel
theorem dX10_lawfulLook_46 : decode mX10_lawfulLook.2.1 46 = .ok (.iadd, 1) := by decide +kernel
theorem dX10_lawfulLook_47 : decode mX10_lawfulLook.2.1 47 = .ok (.iaload, 1) := by decide +kernel
theorem dX10_lawfulLook_48 : decode mX10_lawfulLook.2.1 48 = .ok (.iastore, 1) := by decide +kernel
theorem dX10_lawfulLook_49 : decode mX10_lawfulLook.2.1 49 = .ok (.aload_n 0, 1) := by decide +kernel
theorem dX10_lawfulLook_50 : decode mX10_lawfulLook.2.1 50 = .ok (.getfield 11, 3) := by decide +kernel
theorem dX10_lawfulLook_53 : decode mX10_lawfulLook.2.1 53 = .ok (.iconst 4, 1) := by decide +kernel
theorem dX10_lawfulLook_54 : decode mX10_lawfulLook.2.1 54 = .ok (.aload_n 1, 1) := by decide +kernel
theorem dX10_lawfulLook_55 : decode mX10_lawfulLook.2.1 55 = .ok (.getfield 26, 3) := by decide +kernel
theorem dX10_lawfulLook_58 : decode mX10_lawfulLook.2.1 58 = .ok (.bipush 38, 2) := by decide +kernel
theorem dX10_lawfulLook_60 : decode mX10_lawfulLook.2.1 60 = .ok (.iload_n 2, 1) := by decide +kernel
theorem dX10_lawfulLook_61 : decode mX10_lawfulLook.2.1 61 = .ok (.iadd, 1) := by decide +kernel
theorem dX10_lawfulLook_62 : decode mX10_lawfulLook.2.1 62 = .ok (.iaload, 1) := by decide +kernel
theorem dX10_lawfulLook_63 : decode mX10_lawfulLook.2.1 63 = .ok (.bipush 100, 2) := by decide +kernel
theorem dX10_lawfulLook_65 : decode mX10_lawfulLook.2.1 65 = .ok (.irem, 1) := by decide +kernel
theorem dX10_lawfulLook_66 : decode mX10_lawfulLook.2.1 66 = .ok (.iastore, 1) := by decide +kernel
theorem dX10_lawfulLook_67 : decode mX10_lawfulLook.2.1 67 = .ok (.aload_n 0, 1) := by decide +kernel
theorem dX10_lawfulLook_68 : decode mX10_lawfulLook.2.1 68 = .ok (.getfield 11, 3) := by decide +kernel
theorem dX10_lawfulLook_71 : decode mX10_lawfulLook.2.1 71 = .ok (.iconst 5, 1) := by decide +kernel
theorem dX10_lawfulLook_72 : decode mX10_lawfulLook.2.1 72 = .ok (.aload_n 1, 1) := by decide +kernel
theorem dX10_lawfulLook_73 : decode mX10_lawfulLook.2.1 73 = .ok (.getfield 26, 3) := by decide +kernel
theorem dX10_lawfulLook_76 : decode mX10_lawfulLook.2.1 76 = .ok (.bipush 49, 2) := by decide +kernel
theorem dX10_lawfulLook_78 : decode mX10_lawfulLook.2.1 78 = .ok (.iaload, 1) := by decide +kernel
theorem dX10_lawfulLook_79 : decode mX10_lawfulLook.2.1 79 = .ok (.bipush 24, 2) := by decide +kernel
theorem dX10_lawfulLook_81 : decode mX10_lawfulLook.2.1 81 = .ok (.irem, 1) := by decide +kernel
theorem dX10_lawfulLook_82 : decode mX10_lawfulLook.2.1 82 = .ok (.iastore, 1) := by decide +kernel
theorem dX10_lawfulLook_83 : decode mX10_lawfulLook.2.1 83 = .ok (.aload_n 0, 1) := by decide +kernel
theorem dX10_lawfulLook_84 : decode mX10_lawfulLook.2.1 84 = .ok (.getfield 60, 3) := by decide +kernel
theorem dX10_lawfulLook_87 : decode mX10_lawfulLook.2.1 87 = .ok (.ifnonnull 8, 3) := by decide +kernel
theorem dX10_lawfulLook_90 : decode mX10_lawfulLook.2.1 90 = .ok (.iload 5, 2) := by decide +kernel
theorem dX10_lawfulLook_92 : decode mX10_lawfulLook.2.1 92 = .ok (.goto 22, 3) := by decide +kernel
theorem dX10_lawfulLook_95 : decode mX10_lawfulLook.2.1 95 = .ok (.aload_n 0, 1) := by decide +kernel
theorem dX10_lawfulLook_96 : decode mX10_lawfulLook.2.1 96 = .ok (.getfield 60, 3) := by decide +kernel
theorem dX10_lawfulLook_99 : decode mX10_lawfulLook.2.1 99 = .ok (.aload_n 0, 1) := by decide +kernel
theorem dX10_lawfulLook_100 : decode mX10_lawfulLook.2.1 100 = .ok (.getfield 11, 3) := by decide +kernel
theorem dX10_lawfulLook_103 : decode mX10_lawfulLook.2.1 103 = .ok (.aload_n 0, 1) := by decide +kernel
theorem dX10_lawfulLook_104 : decode mX10_lawfulLook.2.1 104 = .ok (.getfield 19, 3) := by decide +kernel
theorem dX10_lawfulLook_107 : decode mX10_lawfulLook.2.1 107 = .ok (.invokevirtual 71, 3) := by decide +kernel
theorem dX10_lawfulLook_110 : decode mX10_lawfulLook.2.1 110 = .ok (.iconst 4, 1) := by decide +kernel
theorem dX10_lawfulLook_111 : decode mX10_lawfulLook.2.1 111 = .ok (.invokestatic 75, 3) := by decide +kernel
theorem dX10_lawfulLook_114 : decode mX10_lawfulLook.2.1 114 = .ok (.ireturn, 1) := by decide +kernel
abbrev mX10_liesAhead : gz_M := (yX10_liesAhead, cX10_liesAhead, 5, some .int)
theorem dX10_liesAhead_0 : decode mX10_liesAhead.2.1 0 = .ok (.aload_n 1, 1) := by decide +kernel
theorem dX10_liesAhead_1 : decode mX10_liesAhead.2.1 1 = .ok (.aload_n 1, 1) := by decide +kernel
theorem dX10_liesAhead_2 : decode mX10_liesAhead.2.1 2 = .ok (.getfield 26, 3) := by decide +kernel
theorem dX10_liesAhead_5 : decode mX10_liesAhead.2.1 5 = .ok (.bipush 30, 2) := by decide +kernel
theorem dX10_liesAhead_7 : decode mX10_liesAhead.2.1 7 = .ok (.iload_n 2, 1) := by decide +kernel
theorem dX10_liesAhead_8 : decode mX10_liesAhead.2.1 8 = .ok (.iadd, 1) := by decide +kernel
theorem dX10_liesAhead_9 : decode mX10_liesAhead.2.1 9 = .ok (.iaload, 1) := by decide +kernel
theorem dX10_liesAhead_10 : decode mX10_liesAhead.2.1 10 = .ok (.iload_n 3, 1) := by decide +kernel
theorem dX10_liesAhead_11 : decode mX10_liesAhead.2.1 11 = .ok (.invokevirtual 68, 3) := by decide +kernel
theorem dX10_liesAhead_14 : decode mX10_liesAhead.2.1 14 = .ok (.istore 4, 2) := by decide +kernel
theorem dX10_liesAhead_16 : decode mX10_liesAhead.2.1 16 = .ok (.iload 4, 2) := by decide +kernel
theorem dX10_liesAhead_18 : decode mX10_liesAhead.2.1 18 = .ok (.iconst (-1), 1) := by decide +kernel
theorem dX10_liesAhead_19 : decode mX10_liesAhead.2.1 19 = .ok (.if_icmp .ne 5, 3) := by decide +kernel
theorem dX10_liesAhead_22 : decode mX10_liesAhead.2.1 22 = .ok (.iconst 1, 1) := by decide +kernel
theorem dX10_liesAhead_23 : decode mX10_liesAhead.2.1 23 = .ok (.ireturn, 1) := by decide +kernel
theorem dX10_liesAhead_24 : decode mX10_liesAhead.2.1 24 = .ok (.aload_n 0, 1) := by decide +kernel
theorem dX10_liesAhead_25 : decode mX10_liesAhead.2.1 25 = .ok (.dup, 1) := by decide +kernel
theorem dX10_liesAhead_26 : decode mX10_liesAhead.2.1 26 = .ok (.getfield 78, 3) := by decide +kernel
theorem dX10_liesAhead_29 : decode mX10_liesAhead.2.1 29 = .ok (.iconst 1, 1) := by decide +kernel
theorem dX10_liesAhead_30 : decode mX10_liesAhead.2.1 30 = .ok (.iload 4, 2) := by decide +kernel
theorem dX10_liesAhead_32 : decode mX10_liesAhead.2.1 32 = .ok (.ishl, 1) := by decide +kernel
theorem dX10_liesAhead_33 : decode mX10_liesAhead.2.1 33 = .ok (.ior, 1) := by decide +kernel
theorem dX10_liesAhead_34 : decode mX10_liesAhead.2.1 34 = .ok (.putfield 78, 3) := by decide +kernel
theorem dX10_liesAhead_37 : decode mX10_liesAhead.2.1 37 = .ok (.aload_n 1, 1) := by decide +kernel
theorem dX10_liesAhead_38 : decode mX10_liesAhead.2.1 38 = .ok (.iload 4, 2) := by decide +kernel
theorem dX10_liesAhead_40 : decode mX10_liesAhead.2.1 40 = .ok (.invokevirtual 81, 3) := by decide +kernel
theorem dX10_liesAhead_43 : decode mX10_liesAhead.2.1 43 = .ok (.ireturn, 1) := by decide +kernel
abbrev mX10_passHour : gz_M := (yX10_passHour, cX10_passHour, 4, some .int)
theorem dX10_passHour_0 : decode mX10_passHour.2.1 0 = .ok (.aload_n 0, 1) := by decide +kernel
theorem dX10_passHour_1 : decode mX10_passHour.2.1 1 = .ok (.iconst 0, 1) := by decide +kernel
theorem dX10_passHour_2 : decode mX10_passHour.2.1 2 = .ok (.putfield 22, 3) := by decide +kernel
theorem dX10_passHour_5 : decode mX10_passHour.2.1 5 = .ok (.iconst 0, 1) := by decide +kernel
theorem dX10_passHour_6 : decode mX10_passHour.2.1 6 = .ok (.istore_n 2, 1) := by decide +kernel
theorem dX10_passHour_7 : decode mX10_passHour.2.1 7 = .ok (.iload_n 2, 1) := by decide +kernel
theorem dX10_passHour_8 : decode mX10_passHour.2.1 8 = .ok (.aload_n 1, 1) := by decide +kernel
theorem dX10_passHour_9 : decode mX10_passHour.2.1 9 = .ok (.getfield 26, 3) := by decide +kernel
theorem dX10_passHour_12 : decode mX10_passHour.2.1 12 = .ok (.bipush 60, 2) := by decide +kernel
theorem dX10_passHour_14 : decode mX10_passHour.2.1 14 = .ok (.iaload, 1) := by decide +kernel
theorem dX10_passHour_15 : decode mX10_passHour.2.1 15 = .ok (.if_icmp .ge 101, 3) := by decide +kernel
theorem dX10_passHour_18 : decode mX10_passHour.2.1 18 = .ok (.aload_n 1, 1) := by decide +kernel
theorem dX10_passHour_19 : decode mX10_passHour.2.1 19 = .ok (.iload_n 2, 1) := by decide +kernel
theorem dX10_passHour_20 : decode mX10_passHour.2.1 20 = .ok (.invokevirtual 31, 3) := by decide +kernel
theorem dX10_passHour_23 : decode mX10_passHour.2.1 23 = .ok (.ifCond .ne 6, 3) := by decide +kernel
theorem dX10_passHour_26 : decode mX10_passHour.2.1 26 = .ok (.goto 84, 3) := by decide +kernel
theorem dX10_passHour_29 : decode mX10_passHour.2.1 29 = .ok (.aload_n 1, 1) := by decide +kernel
theorem dX10_passHour_30 : decode mX10_passHour.2.1 30 = .ok (.aload_n 1, 1) := by decide +kernel
theorem dX10_passHour_31 : decode mX10_passHour.2.1 31 = .ok (.getfield 26, 3) := by decide +kernel
theorem dX10_passHour_34 : decode mX10_passHour.2.1 34 = .ok (.bipush 30, 2) := by decide +kernel
theorem dX10_passHour_36 : decode mX10_passHour.2.1 36 = .ok (.iload_n 2, 1) := by decide +kernel
theorem dX10_passHour_37 : decode mX10_passHour.2.1 37 = .ok (.iadd, 1) := by decide +kernel
theorem dX10_passHour_38 : decode mX10_passHour.2.1 38 = .ok (.iaload, 1) := by decide +kernel
theorem dX10_passHour_39 : decode mX10_passHour.2.1 39 = .ok (.invokevirtual 35, 3) := by decide +kernel
theorem dX10_passHour_42 : decode mX10_passHour.2.1 42 = .ok (.ifCond .eq 13, 3) := by decide +kernel
theorem dX10_passHour_45 : decode mX10_passHour.2.1 45 = .ok (.aload_n 1, 1) := by decide +kernel
theorem dX10_passHour_46 : decode mX10_passHour.2.1 46 = .ok (.getfield 26, 3) := by decide +kernel
theorem dX10_passHour_49 : decode mX10_passHour.2.1 49 = .ok (.bipush 42, 2) := by decide +kernel
theorem dX10_passHour_51 : decode mX10_passHour.2.1 51 = .ok (.iload_n 2, 1) := by decide +kernel
theorem dX10_passHour_52 : decode mX10_passHour.2.1 52 = .ok (.iadd, 1) := by decide +kernel
theorem dX10_passHour_53 : decode mX10_passHour.2.1 53 = .ok (.iconst 2, 1) := by decide +kernel
theorem dX10_passHour_54 : decode mX10_passHour.2.1 54 = .ok (.iastore, 1) := by decide +kernel
theorem dX10_passHour_55 : decode mX10_passHour.2.1 55 = .ok (.iconst 0, 1) := by decide +kernel
theorem dX10_passHour_56 : decode mX10_passHour.2.1 56 = .ok (.istore_n 3, 1) := by decide +kernel
theorem dX10_passHour_57 : decode mX10_passHour.2.1 57 = .ok (.iload_n 3, 1) := by decide +kernel
theorem dX10_passHour_58 : decode mX10_passHour.2.1 58 = .ok (.aload_n 1, 1) := by decide +kernel
theorem dX10_passHour_59 : decode mX10_passHour.2.1 59 = .ok (.getfield 26, 3) := by decide +kernel
theorem dX10_passHour_62 : decode mX10_passHour.2.1 62 = .ok (.bipush 50, 2) := by decide +kernel
theorem dX10_passHour_64 : decode mX10_passHour.2.1 64 = .ok (.iload_n 2, 1) := by decide +kernel
theorem dX10_passHour_65 : decode mX10_passHour.2.1 65 = .ok (.iadd, 1) := by decide +kernel
theorem dX10_passHour_66 : decode mX10_passHour.2.1 66 = .ok (.iaload, 1) := by decide +kernel
theorem dX10_passHour_67 : decode mX10_passHour.2.1 67 = .ok (.if_icmp .ge 23, 3) := by decide +kernel
theorem dX10_passHour_70 : decode mX10_passHour.2.1 70 = .ok (.aload_n 1, 1) := by decide +kernel
theorem dX10_passHour_71 : decode mX10_passHour.2.1 71 = .ok (.iload_n 2, 1) := by decide +kernel
theorem dX10_passHour_72 : decode mX10_passHour.2.1 72 = .ok (.invokevirtual 31, 3) := by decide +kernel
theorem dX10_passHour_75 : decode mX10_passHour.2.1 75 = .ok (.ifCond .eq 15, 3) := by decide +kernel
theorem dX10_passHour_78 : decode mX10_passHour.2.1 78 = .ok (.aload_n 0, 1) := by decide +kernel
theorem dX10_passHour_79 : decode mX10_passHour.2.1 79 = .ok (.aload_n 1, 1) := by decide +kernel
theorem dX10_passHour_80 : decode mX10_passHour.2.1 80 = .ok (.iload_n 2, 1) := by decide +kernel
theorem dX10_passHour_81 : decode mX10_passHour.2.1 81 = .ok (.invokevirtual 38, 3) := by decide +kernel
theorem dX10_passHour_84 : decode mX10_passHour.2.1 84 = .ok (.iinc 3 1, 3) := by decide +kernel
theorem dX10_passHour_87 : decode mX10_passHour.2.1 87 = .ok (.goto (-30), 3) := by decide +kernel
theorem dX10_passHour_90 : decode mX10_passHour.2.1 90 = .ok (.aload_n 1, 1) := by decide +kernel
theorem dX10_passHour_91 : decode mX10_passHour.2.1 91 = .ok (.iload_n 2, 1) := by decide +kernel
theorem dX10_passHour_92 : decode mX10_passHour.2.1 92 = .ok (.invokevirtual 31, 3) := by decide +kernel
theorem dX10_passHour_95 : decode mX10_passHour.2.1 95 = .ok (.ifCond .ne 15, 3) := by decide +kernel
theorem dX10_passHour_98 : decode mX10_passHour.2.1 98 = .ok (.aload_n 0, 1) := by decide +kernel
theorem dX10_passHour_99 : decode mX10_passHour.2.1 99 = .ok (.dup, 1) := by decide +kernel
theorem dX10_passHour_100 : decode mX10_passHour.2.1 100 = .ok (.getfield 22, 3) := by decide +kernel
theorem dX10_passHour_103 : decode mX10_passHour.2.1 103 = .ok (.iconst 1, 1) := by decide +kernel
theorem dX10_passHour_104 : decode mX10_passHour.2.1 104 = .ok (.iload_n 2, 1) := by decide +kernel
theorem dX10_passHour_105 : decode mX10_passHour.2.1 105 = .ok (.ishl, 1) := by decide +kernel
theorem dX10_passHour_106 : decode mX10_passHour.2.1 106 = .ok (.ior, 1) := by decide +kernel
theorem dX10_passHour_107 : decode mX10_passHour.2.1 107 = .ok (.putfield 22, 3) := by decide +kernel
theorem dX10_passHour_110 : decode mX10_passHour.2.1 110 = .ok (.iinc 2 1, 3) := by decide +kernel
theorem dX10_passHour_113 : decode mX10_passHour.2.1 113 = .ok (.goto (-106), 3) := by decide +kernel
theorem dX10_passHour_116 : decode mX10_passHour.2.1 116 = .ok (.aload_n 0, 1) := by decide +kernel
theorem dX10_passHour_117 : decode mX10_passHour.2.1 117 = .ok (.aload_n 1, 1) := by decide +kernel
theorem dX10_passHour_118 : decode mX10_passHour.2.1 118 = .ok (.invokevirtual 42, 3) := by decide +kernel
theorem dX10_passHour_121 : decode mX10_passHour.2.1 121 = .ok (.istore_n 2, 1) := by decide +kernel
theorem dX10_passHour_122 : decode mX10_passHour.2.1 122 = .ok (.aload_n 1, 1) := by decide +kernel
theorem dX10_passHour_123 : decode mX10_passHour.2.1 123 = .ok (.getfield 26, 3) := by decide +kernel
theorem dX10_passHour_126 : decode mX10_passHour.2.1 126 = .ok (.bipush 47, 2) := by decide +kernel
theorem dX10_passHour_128 : decode mX10_passHour.2.1 128 = .ok (.sipush 9999, 3) := by decide +kernel
theorem dX10_passHour_131 : decode mX10_passHour.2.1 131 = .ok (.aload_n 1, 1) := by decide +kernel
theorem dX10_passHour_132 : decode mX10_passHour.2.1 132 = .ok (.getfield 26, 3) := by decide +kernel
theorem dX10_passHour_135 : decode mX10_passHour.2.1 135 = .ok (.bipush 47, 2) := by decide +kernel
theorem dX10_passHour_137 : decode mX10_passHour.2.1 137 = .ok (.iaload, 1) := by decide +kernel
theorem dX10_passHour_138 : decode mX10_passHour.2.1 138 = .ok (.iload_n 2, 1) := by decide +kernel
theorem dX10_passHour_139 : decode mX10_passHour.2.1 139 = .ok (.iadd, 1) := by decide +kernel
theorem dX10_passHour_140 : decode mX10_passHour.2.1 140 = .ok (.invokestatic 46, 3) := by decide +kernel
theorem dX10_passHour_143 : decode mX10_passHour.2.1 143 = .ok (.iastore, 1) := by decide +kernel
theorem dX10_passHour_144 : decode mX10_passHour.2.1 144 = .ok (.aload_n 1, 1) := by decide +kernel
theorem dX10_passHour_145 : decode mX10_passHour.2.1 145 = .ok (.getfield 26, 3) := by decide +kernel
theorem dX10_passHour_148 : decode mX10_passHour.2.1 148 = .ok (.bipush 49, 2) := by decide +kernel
theorem dX10_passHour_150 : decode mX10_passHour.2.1 150 = .ok (.dup2, 1) := by decide +kernel
theorem dX10_passHour_151 : decode mX10_passHour.2.1 151 = .ok (.iaload, 1) := by decide +kernel
theorem dX10_passHour_152 : decode mX10_passHour.2.1 152 = .ok (.iconst 1, 1) := by decide +kernel
theorem dX10_passHour_153 : decode mX10_passHour.2.1 153 = .ok (.iadd, 1) := by decide +kernel
theorem dX10_passHour_154 : decode mX10_passHour.2.1 154 = .ok (.iastore, 1) := by decide +kernel
theorem dX10_passHour_155 : decode mX10_passHour.2.1 155 = .ok (.iload_n 2, 1) := by decide +kernel
theorem dX10_passHour_156 : decode mX10_passHour.2.1 156 = .ok (.ireturn, 1) := by decide +kernel
abbrev mX10_takeStep : gz_M := (yX10_takeStep, cX10_takeStep, 7, none)
theorem dX10_takeStep_0 : decode mX10_takeStep.2.1 0 = .ok (.aload_n 1, 1) := by decide +kernel
theorem dX10_takeStep_1 : decode mX10_takeStep.2.1 1 = .ok (.getfield 26, 3) := by decide +kernel
theorem dX10_takeStep_4 : decode mX10_takeStep.2.1 4 = .ok (.bipush 34, 2) := by decide +kernel
theorem dX10_takeStep_6 : decode mX10_takeStep.2.1 6 = .ok (.iload_n 2, 1) := by decide +kernel
theorem dX10_takeStep_7 : decode mX10_takeStep.2.1 7 = .ok (.iadd, 1) := by decide +kernel
theorem dX10_takeStep_8 : decode mX10_takeStep.2.1 8 = .ok (.iaload, 1) := by decide +kernel
theorem dX10_takeStep_9 : decode mX10_takeStep.2.1 9 = .ok (.istore_n 3, 1) := by decide +kernel
theorem dX10_takeStep_10 : decode mX10_takeStep.2.1 10 = .ok (.iload_n 3, 1) := by decide +kernel
theorem dX10_takeStep_11 : decode mX10_takeStep.2.1 11 = .ok (.iconst 1, 1) := by decide +kernel
theorem dX10_takeStep_12 : decode mX10_takeStep.2.1 12 = .ok (.iadd, 1) := by decide +kernel
theorem dX10_takeStep_13 : decode mX10_takeStep.2.1 13 = .ok (.iconst 3, 1) := by decide +kernel
theorem dX10_takeStep_14 : decode mX10_takeStep.2.1 14 = .ok (.iand, 1) := by decide +kernel
theorem dX10_takeStep_15 : decode mX10_takeStep.2.1 15 = .ok (.istore 4, 2) := by decide +kernel
theorem dX10_takeStep_17 : decode mX10_takeStep.2.1 17 = .ok (.aload_n 0, 1) := by decide +kernel
theorem dX10_takeStep_18 : decode mX10_takeStep.2.1 18 = .ok (.aload_n 1, 1) := by decide +kernel
theorem dX10_takeStep_19 : decode mX10_takeStep.2.1 19 = .ok (.iload_n 2, 1) := by decide +kernel
theorem dX10_takeStep_20 : decode mX10_takeStep.2.1 20 = .ok (.iload_n 3, 1) := by decide +kernel
theorem dX10_takeStep_21 : decode mX10_takeStep.2.1 21 = .ok (.invokevirtual 56, 3) := by decide +kernel
theorem dX10_takeStep_24 : decode mX10_takeStep.2.1 24 = .ok (.istore 5, 2) := by decide +kernel
theorem dX10_takeStep_26 : decode mX10_takeStep.2.1 26 = .ok (.aload_n 0, 1) := by decide +kernel
theorem dX10_takeStep_27 : decode mX10_takeStep.2.1 27 = .ok (.getfield 60, 3) := by decide +kernel
theorem dX10_takeStep_30 : decode mX10_takeStep.2.1 30 = .ok (.ifnull 23, 3) := by decide +kernel
theorem dX10_takeStep_33 : decode mX10_takeStep.2.1 33 = .ok (.aload_n 0, 1) := by decide +kernel
theorem dX10_takeStep_34 : decode mX10_takeStep.2.1 34 = .ok (.aload_n 1, 1) := by decide +kernel
theorem dX10_takeStep_35 : decode mX10_takeStep.2.1 35 = .ok (.iload_n 2, 1) := by decide +kernel
theorem dX10_takeStep_36 : decode mX10_takeStep.2.1 36 = .ok (.iload 5, 2) := by decide +kernel
theorem dX10_takeStep_38 : decode mX10_takeStep.2.1 38 = .ok (.aload_n 0, 1) := by decide +kernel
theorem dX10_takeStep_39 : decode mX10_takeStep.2.1 39 = .ok (.aload_n 1, 1) := by decide +kernel
theorem dX10_takeStep_40 : decode mX10_takeStep.2.1 40 = .ok (.iload_n 2, 1) := by decide +kernel
theorem dX10_takeStep_41 : decode mX10_takeStep.2.1 41 = .ok (.iload 4, 2) := by decide +kernel
theorem dX10_takeStep_43 : decode mX10_takeStep.2.1 43 = .ok (.invokevirtual 56, 3) := by decide +kernel
theorem dX10_takeStep_46 : decode mX10_takeStep.2.1 46 = .ok (.invokevirtual 64, 3) := by decide +kernel
theorem dX10_takeStep_49 : decode mX10_takeStep.2.1 49 = .ok (.istore_n 3, 1) := by decide +kernel
theorem dX10_takeStep_50 : decode mX10_takeStep.2.1 50 = .ok (.goto 12, 3) := by decide +kernel
theorem dX10_takeStep_53 : decode mX10_takeStep.2.1 53 = .ok (.iload 5, 2) := by decide +kernel
theorem dX10_takeStep_55 : decode mX10_takeStep.2.1 55 = .ok (.iconst 1, 1) := by decide +kernel
theorem dX10_takeStep_56 : decode mX10_takeStep.2.1 56 = .ok (.if_icmp .ne 6, 3) := by decide +kernel
theorem dX10_takeStep_59 : decode mX10_takeStep.2.1 59 = .ok (.iload 4, 2) := by decide +kernel
theorem dX10_takeStep_61 : decode mX10_takeStep.2.1 61 = .ok (.istore_n 3, 1) := by decide +kernel
theorem dX10_takeStep_62 : decode mX10_takeStep.2.1 62 = .ok (.aload_n 1, 1) := by decide +kernel
theorem dX10_takeStep_63 : decode mX10_takeStep.2.1 63 = .ok (.getfield 26, 3) := by decide +kernel
theorem dX10_takeStep_66 : decode mX10_takeStep.2.1 66 = .ok (.bipush 34, 2) := by decide +kernel
theorem dX10_takeStep_68 : decode mX10_takeStep.2.1 68 = .ok (.iload_n 2, 1) := by decide +kernel
theorem dX10_takeStep_69 : decode mX10_takeStep.2.1 69 = .ok (.iadd, 1) := by decide +kernel
theorem dX10_takeStep_70 : decode mX10_takeStep.2.1 70 = .ok (.iload_n 3, 1) := by decide +kernel
theorem dX10_takeStep_71 : decode mX10_takeStep.2.1 71 = .ok (.iastore, 1) := by decide +kernel
theorem dX10_takeStep_72 : decode mX10_takeStep.2.1 72 = .ok (.aload_n 0, 1) := by decide +kernel
theorem dX10_takeStep_73 : decode mX10_takeStep.2.1 73 = .ok (.aload_n 1, 1) := by decide +kernel
theorem dX10_takeStep_74 : decode mX10_takeStep.2.1 74 = .ok (.iload_n 2, 1) := by decide +kernel
theorem dX10_takeStep_75 : decode mX10_takeStep.2.1 75 = .ok (.iload_n 3, 1) := by decide +kernel
theorem dX10_takeStep_76 : decode mX10_takeStep.2.1 76 = .ok (.invokevirtual 56, 3) := by decide +kernel
theorem dX10_takeStep_79 : decode mX10_takeStep.2.1 79 = .ok (.istore 6, 2) := by decide +kernel
theorem dX10_takeStep_81 : decode mX10_takeStep.2.1 81 = .ok (.iload 6, 2) := by decide +kernel
theorem dX10_takeStep_83 : decode mX10_takeStep.2.1 83 = .ok (.iconst 1, 1) := by decide +kernel
theorem dX10_takeStep_84 : decode mX10_takeStep.2.1 84 = .ok (.if_icmp .ne 4, 3) := by decide +kernel
theorem dX10_takeStep_87 : decode mX10_takeStep.2.1 87 = .ok (.return_, 1) := by decide +kernel
theorem dX10_takeStep_88 : decode mX10_takeStep.2.1 88 = .ok (.aload_n 1, 1) := by decide +kernel
theorem dX10_takeStep_89 : decode mX10_takeStep.2.1 89 = .ok (.getfield 26, 3) := by decide +kernel
theorem dX10_takeStep_92 : decode mX10_takeStep.2.1 92 = .ok (.bipush 30, 2) := by decide +kernel
theorem dX10_takeStep_94 : decode mX10_takeStep.2.1 94 = .ok (.iload_n 2, 1) := by decide +kernel
theorem dX10_takeStep_95 : decode mX10_takeStep.2.1 95 = .ok (.iadd, 1) := by decide +kernel
theorem dX10_takeStep_96 : decode mX10_takeStep.2.1 96 = .ok (.aload_n 1, 1) := by decide +kernel
theorem dX10_takeStep_97 : decode mX10_takeStep.2.1 97 = .ok (.aload_n 1, 1) := by decide +kernel
theorem dX10_takeStep_98 : decode mX10_takeStep.2.1 98 = .ok (.getfield 26, 3) := by decide +kernel
theorem dX10_takeStep_101 : decode mX10_takeStep.2.1 101 = .ok (.bipush 30, 2) := by decide +kernel
theorem dX10_takeStep_103 : decode mX10_takeStep.2.1 103 = .ok (.iload_n 2, 1) := by decide +kernel
theorem dX10_takeStep_104 : decode mX10_takeStep.2.1 104 = .ok (.iadd, 1) := by decide +kernel
theorem dX10_takeStep_105 : decode mX10_takeStep.2.1 105 = .ok (.iaload, 1) := by decide +kernel
theorem dX10_takeStep_106 : decode mX10_takeStep.2.1 106 = .ok (.iload_n 3, 1) := by decide +kernel
theorem dX10_takeStep_107 : decode mX10_takeStep.2.1 107 = .ok (.invokevirtual 68, 3) := by decide +kernel
theorem dX10_takeStep_110 : decode mX10_takeStep.2.1 110 = .ok (.iastore, 1) := by decide +kernel
theorem dX10_takeStep_111 : decode mX10_takeStep.2.1 111 = .ok (.aload_n 1, 1) := by decide +kernel
theorem dX10_takeStep_112 : decode mX10_takeStep.2.1 112 = .ok (.getfield 26, 3) := by decide +kernel
theorem dX10_takeStep_115 : decode mX10_takeStep.2.1 115 = .ok (.bipush 38, 2) := by decide +kernel
theorem dX10_takeStep_117 : decode mX10_takeStep.2.1 117 = .ok (.iload_n 2, 1) := by decide +kernel
theorem dX10_takeStep_118 : decode mX10_takeStep.2.1 118 = .ok (.iadd, 1) := by decide +kernel
theorem dX10_takeStep_119 : decode mX10_takeStep.2.1 119 = .ok (.dup2, 1) := by decide +kernel
theorem dX10_takeStep_120 : decode mX10_takeStep.2.1 120 = .ok (.iaload, 1) := by decide +kernel
theorem dX10_takeStep_121 : decode mX10_takeStep.2.1 121 = .ok (.iconst 1, 1) := by decide +kernel
theorem dX10_takeStep_122 : decode mX10_takeStep.2.1 122 = .ok (.iadd, 1) := by decide +kernel
theorem dX10_takeStep_123 : decode mX10_takeStep.2.1 123 = .ok (.iastore, 1) := by decide +kernel
theorem dX10_takeStep_124 : decode mX10_takeStep.2.1 124 = .ok (.iload 6, 2) := by decide +kernel
theorem dX10_takeStep_126 : decode mX10_takeStep.2.1 126 = .ok (.iconst 2, 1) := by decide +kernel
theorem dX10_takeStep_127 : decode mX10_takeStep.2.1 127 = .ok (.if_icmp .ne 16, 3) := by decide +kernel
theorem dX10_takeStep_130 : decode mX10_takeStep.2.1 130 = .ok (.aload_n 1, 1) := by decide +kernel
theorem dX10_takeStep_131 : decode mX10_takeStep.2.1 131 = .ok (.getfield 26, 3) := by decide +kernel
theorem dX10_takeStep_134 : decode mX10_takeStep.2.1 134 = .ok (.bipush 42, 2) := by decide +kernel
theorem dX10_takeStep_136 : decode mX10_takeStep.2.1 136 = .ok (.iload_n 2, 1) := by decide +kernel
theorem dX10_takeStep_137 : decode mX10_takeStep.2.1 137 = .ok (.iadd, 1) := by decide +kernel
theorem dX10_takeStep_138 : decode mX10_takeStep.2.1 138 = .ok (.iconst 2, 1) := by decide +kernel
theorem dX10_takeStep_139 : decode mX10_takeStep.2.1 139 = .ok (.iastore, 1) := by decide +kernel
theorem dX10_takeStep_140 : decode mX10_takeStep.2.1 140 = .ok (.goto 19, 3) := by decide +kernel
theorem dX10_takeStep_143 : decode mX10_takeStep.2.1 143 = .ok (.iload 6, 2) := by decide +kernel
theorem dX10_takeStep_145 : decode mX10_takeStep.2.1 145 = .ok (.iconst 3, 1) := by decide +kernel
theorem dX10_takeStep_146 : decode mX10_takeStep.2.1 146 = .ok (.if_icmp .ne 13, 3) := by decide +kernel
theorem dX10_takeStep_149 : decode mX10_takeStep.2.1 149 = .ok (.aload_n 1, 1) := by decide +kernel
theorem dX10_takeStep_150 : decode mX10_takeStep.2.1 150 = .ok (.getfield 26, 3) := by decide +kernel
theorem dX10_takeStep_153 : decode mX10_takeStep.2.1 153 = .ok (.bipush 42, 2) := by decide +kernel
theorem dX10_takeStep_155 : decode mX10_takeStep.2.1 155 = .ok (.iload_n 2, 1) := by decide +kernel
theorem dX10_takeStep_156 : decode mX10_takeStep.2.1 156 = .ok (.iadd, 1) := by decide +kernel
theorem dX10_takeStep_157 : decode mX10_takeStep.2.1 157 = .ok (.iconst 1, 1) := by decide +kernel
theorem dX10_takeStep_158 : decode mX10_takeStep.2.1 158 = .ok (.iastore, 1) := by decide +kernel
theorem dX10_takeStep_159 : decode mX10_takeStep.2.1 159 = .ok (.return_, 1) := by decide +kernel
abbrev mX10_turnThoseMet : gz_M := (yX10_turnThoseMet, cX10_turnThoseMet, 5, some .int)
theorem dX10_turnThoseMet_0 : decode mX10_turnThoseMet.2.1 0 = .ok (.iconst 0, 1) := by decide +kernel
theorem dX10_turnThoseMet_1 : decode mX10_turnThoseMet.2.1 1 = .ok (.istore_n 2, 1) := by decide +kernel
theorem dX10_turnThoseMet_2 : decode mX10_turnThoseMet.2.1 2 = .ok (.iconst 0, 1) := by decide +kernel
theorem dX10_turnThoseMet_3 : decode mX10_turnThoseMet.2.1 3 = .ok (.istore_n 3, 1) := by decide +kernel
theorem dX10_turnThoseMet_4 : decode mX10_turnThoseMet.2.1 4 = .ok (.iload_n 3, 1) := by decide +kernel
theorem dX10_turnThoseMet_5 : decode mX10_turnThoseMet.2.1 5 = .ok (.aload_n 1, 1) := by decide +kernel
theorem dX10_turnThoseMet_6 : decode mX10_turnThoseMet.2.1 6 = .ok (.getfield 26, 3) := by decide +kernel
theorem dX10_turnThoseMet_9 : decode mX10_turnThoseMet.2.1 9 = .ok (.bipush 60, 2) := by decide +kernel
theorem dX10_turnThoseMet_11 : decode mX10_turnThoseMet.2.1 11 = .ok (.iaload, 1) := by decide +kernel
theorem dX10_turnThoseMet_12 : decode mX10_turnThoseMet.2.1 12 = .ok (.if_icmp .ge 70, 3) := by decide +kernel
theorem dX10_turnThoseMet_15 : decode mX10_turnThoseMet.2.1 15 = .ok (.aload_n 1, 1) := by decide +kernel
theorem dX10_turnThoseMet_16 : decode mX10_turnThoseMet.2.1 16 = .ok (.iload_n 3, 1) := by decide +kernel
theorem dX10_turnThoseMet_17 : decode mX10_turnThoseMet.2.1 17 = .ok (.invokevirtual 31, 3) := by decide +kernel
theorem dX10_turnThoseMet_20 : decode mX10_turnThoseMet.2.1 20 = .ok (.ifCond .eq 56, 3) := by decide +kernel
theorem dX10_turnThoseMet_23 : decode mX10_turnThoseMet.2.1 23 = .ok (.aload_n 1, 1) := by decide +kernel
theorem dX10_turnThoseMet_24 : decode mX10_turnThoseMet.2.1 24 = .ok (.aload_n 1, 1) := by decide +kernel
theorem dX10_turnThoseMet_25 : decode mX10_turnThoseMet.2.1 25 = .ok (.getfield 26, 3) := by decide +kernel
theorem dX10_turnThoseMet_28 : decode mX10_turnThoseMet.2.1 28 = .ok (.bipush 30, 2) := by decide +kernel
theorem dX10_turnThoseMet_30 : decode mX10_turnThoseMet.2.1 30 = .ok (.iload_n 3, 1) := by decide +kernel
theorem dX10_turnThoseMet_31 : decode mX10_turnThoseMet.2.1 31 = .ok (.iadd, 1) := by decide +kernel
theorem dX10_turnThoseMet_32 : decode mX10_turnThoseMet.2.1 32 = .ok (.iaload, 1) := by decide +kernel
theorem dX10_turnThoseMet_33 : decode mX10_turnThoseMet.2.1 33 = .ok (.invokevirtual 52, 3) := by decide +kernel
theorem dX10_turnThoseMet_36 : decode mX10_turnThoseMet.2.1 36 = .ok (.iconst 1, 1) := by decide +kernel
theorem dX10_turnThoseMet_37 : decode mX10_turnThoseMet.2.1 37 = .ok (.isub, 1) := by decide +kernel
theorem dX10_turnThoseMet_38 : decode mX10_turnThoseMet.2.1 38 = .ok (.istore 4, 2) := by decide +kernel
theorem dX10_turnThoseMet_40 : decode mX10_turnThoseMet.2.1 40 = .ok (.iload_n 2, 1) := by decide +kernel
theorem dX10_turnThoseMet_41 : decode mX10_turnThoseMet.2.1 41 = .ok (.iload 4, 2) := by decide +kernel
theorem dX10_turnThoseMet_43 : decode mX10_turnThoseMet.2.1 43 = .ok (.iadd, 1) := by decide +kernel
theorem dX10_turnThoseMet_44 : decode mX10_turnThoseMet.2.1 44 = .ok (.istore_n 2, 1) := by decide +kernel
theorem dX10_turnThoseMet_45 : decode mX10_turnThoseMet.2.1 45 = .ok (.aload_n 1, 1) := by decide +kernel
theorem dX10_turnThoseMet_46 : decode mX10_turnThoseMet.2.1 46 = .ok (.getfield 26, 3) := by decide +kernel
theorem dX10_turnThoseMet_49 : decode mX10_turnThoseMet.2.1 49 = .ok (.bipush 34, 2) := by decide +kernel
theorem dX10_turnThoseMet_51 : decode mX10_turnThoseMet.2.1 51 = .ok (.iload_n 3, 1) := by decide +kernel
theorem dX10_turnThoseMet_52 : decode mX10_turnThoseMet.2.1 52 = .ok (.iadd, 1) := by decide +kernel
theorem dX10_turnThoseMet_53 : decode mX10_turnThoseMet.2.1 53 = .ok (.aload_n 1, 1) := by decide +kernel
theorem dX10_turnThoseMet_54 : decode mX10_turnThoseMet.2.1 54 = .ok (.getfield 26, 3) := by decide +kernel
theorem dX10_turnThoseMet_57 : decode mX10_turnThoseMet.2.1 57 = .ok (.bipush 34, 2) := by decide +kernel
theorem dX10_turnThoseMet_59 : decode mX10_turnThoseMet.2.1 59 = .ok (.iload_n 3, 1) := by decide +kernel
theorem dX10_turnThoseMet_60 : decode mX10_turnThoseMet.2.1 60 = .ok (.iadd, 1) := by decide +kernel
theorem dX10_turnThoseMet_61 : decode mX10_turnThoseMet.2.1 61 = .ok (.iaload, 1) := by decide +kernel
theorem dX10_turnThoseMet_62 : decode mX10_turnThoseMet.2.1 62 = .ok (.iload 4, 2) := by decide +kernel
theorem dX10_turnThoseMet_64 : decode mX10_turnThoseMet.2.1 64 = .ok (.ifCond .le 7, 3) := by decide +kernel
theorem dX10_turnThoseMet_67 : decode mX10_turnThoseMet.2.1 67 = .ok (.iconst 2, 1) := by decide +kernel
theorem dX10_turnThoseMet_68 : decode mX10_turnThoseMet.2.1 68 = .ok (.goto 4, 3) := by decide +kernel
theorem dX10_turnThoseMet_71 : decode mX10_turnThoseMet.2.1 71 = .ok (.iconst 0, 1) := by decide +kernel
theorem dX10_turnThoseMet_72 : decode mX10_turnThoseMet.2.1 72 = .ok (.iadd, 1) := by decide +kernel
theorem dX10_turnThoseMet_73 : decode mX10_turnThoseMet.2.1 73 = .ok (.iconst 3, 1) := by decide +kernel
theorem dX10_turnThoseMet_74 : decode mX10_turnThoseMet.2.1 74 = .ok (.iand, 1) := by decide +kernel
theorem dX10_turnThoseMet_75 : decode mX10_turnThoseMet.2.1 75 = .ok (.iastore, 1) := by decide +kernel
theorem dX10_turnThoseMet_76 : decode mX10_turnThoseMet.2.1 76 = .ok (.iinc 3 1, 3) := by decide +kernel
theorem dX10_turnThoseMet_79 : decode mX10_turnThoseMet.2.1 79 = .ok (.goto (-75), 3) := by decide +kernel
theorem dX10_turnThoseMet_82 : decode mX10_turnThoseMet.2.1 82 = .ok (.iload_n 2, 1) := by decide +kernel
theorem dX10_turnThoseMet_83 : decode mX10_turnThoseMet.2.1 83 = .ok (.iconst 2, 1) := by decide +kernel
theorem dX10_turnThoseMet_84 : decode mX10_turnThoseMet.2.1 84 = .ok (.idiv, 1) := by decide +kernel
theorem dX10_turnThoseMet_85 : decode mX10_turnThoseMet.2.1 85 = .ok (.ireturn, 1) := by decide +kernel
abbrev mX11_again : gz_M := (yX11_again, cX11_again, 2, some .int)
theorem dX11_again_0 : decode mX11_again.2.1 0 = .ok (.aload_n 0, 1) := by decide +kernel
theorem dX11_again_1 : decode mX11_again.2.1 1 = .ok (.getfield 58, 3) := by decide +kernel
theorem dX11_again_4 : decode mX11_again.2.1 4 = .ok (.iload_n 1, 1) := by decide +kernel
theorem dX11_again_5 : decode mX11_again.2.1 5 = .ok (.invokevirtual 166, 3) := by decide +kernel
theorem dX11_again_8 : decode mX11_again.2.1 8 = .ok (.ifCond .eq 14, 3) := by decide +kernel
theorem dX11_again_11 : decode mX11_again.2.1 11 = .ok (.aload_n 0, 1) := by decide +kernel
theorem dX11_again_12 : decode mX11_again.2.1 12 = .ok (.getfield 58, 3) := by decide +kernel
theorem dX11_again_15 : decode mX11_again.2.1 15 = .ok (.iload_n 1, 1) := by decide +kernel
theorem dX11_again_16 : decode mX11_again.2.1 16 = .ok (.invokevirtual 297, 3) := by decide +kernel
theorem dX11_again_19 : decode mX11_again.2.1 19 = .ok (.ifCond .ne 5, 3) := by decide +kernel
theorem dX11_again_22 : decode mX11_again.2.1 22 = .ok (.iconst (-1), 1) := by decide +kernel
theorem dX11_again_23 : decode mX11_again.2.1 23 = .ok (.ireturn, 1) := by decide +kernel
theorem dX11_again_24 : decode mX11_again.2.1 24 = .ok (.aload_n 0, 1) := by decide +kernel
theorem dX11_again_25 : decode mX11_again.2.1 25 = .ok (.getfield 83, 3) := by decide +kernel
theorem dX11_again_28 : decode mX11_again.2.1 28 = .ok (.iload_n 1, 1) := by decide +kernel
theorem dX11_again_29 : decode mX11_again.2.1 29 = .ok (.invokevirtual 300, 3) := by decide +kernel
theorem dX11_again_32 : decode mX11_again.2.1 32 = .ok (.ireturn, 1) := by decide +kernel
abbrev mX11_ahead : gz_M := (yX11_ahead, cX11_ahead, 2, some .int)
theorem dX11_ahead_0 : decode mX11_ahead.2.1 0 = .ok (.aload_n 0, 1) := by decide +kernel
theorem dX11_ahead_1 : decode mX11_ahead.2.1 1 = .ok (.getfield 58, 3) := by decide +kernel
theorem dX11_ahead_4 : decode mX11_ahead.2.1 4 = .ok (.iload_n 1, 1) := by decide +kernel
theorem dX11_ahead_5 : decode mX11_ahead.2.1 5 = .ok (.invokevirtual 166, 3) := by decide +kernel
theorem dX11_ahead_8 : decode mX11_ahead.2.1 8 = .ok (.ifCond .eq 36, 3) := by decide +kernel
theorem dX11_ahead_11 : decode mX11_ahead.2.1 11 = .ok (.aload_n 0, 1) := by decide +kernel
theorem dX11_ahead_12 : decode mX11_ahead.2.1 12 = .ok (.getfield 58, 3) := by decide +kernel
theorem dX11_ahead_15 : decode mX11_ahead.2.1 15 = .ok (.iload_n 1, 1) := by decide +kernel
theorem dX11_ahead_16 : decode mX11_ahead.2.1 16 = .ok (.invokevirtual 297, 3) := by decide +kernel
theorem dX11_ahead_19 : decode mX11_ahead.2.1 19 = .ok (.ifCond .eq 25, 3) := by decide +kernel
theorem dX11_ahead_22 : decode mX11_ahead.2.1 22 = .ok (.aload_n 0, 1) := by decide +kernel
theorem dX11_ahead_23 : decode mX11_ahead.2.1 23 = .ok (.getfield 58, 3) := by decide +kernel
theorem dX11_ahead_26 : decode mX11_ahead.2.1 26 = .ok (.aload_n 0, 1) := by decide +kernel
theorem dX11_ahead_27 : decode mX11_ahead.2.1 27 = .ok (.getfield 58, 3) := by decide +kernel
theorem dX11_ahead_30 : decode mX11_ahead.2.1 30 = .ok (.getfield 176, 3) := by decide +kernel
theorem dX11_ahead_33 : decode mX11_ahead.2.1 33 = .ok (.bipush 30, 2) := by decide +kernel
theorem dX11_ahead_35 : decode mX11_ahead.2.1 35 = .ok (.iload_n 1, 1) := by decide +kernel
theorem dX11_ahead_36 : decode mX11_ahead.2.1 36 = .ok (.iadd, 1) := by decide +kernel
theorem dX11_ahead_37 : decode mX11_ahead.2.1 37 = .ok (.iaload, 1) := by decide +kernel
theorem dX11_ahead_38 : decode mX11_ahead.2.1 38 = .ok (.invokevirtual 163, 3) := by decide +kernel
theorem dX11_ahead_41 : decode mX11_ahead.2.1 41 = .ok (.ifCond .eq 5, 3) := by decide +kernel
theorem dX11_ahead_44 : decode mX11_ahead.2.1 44 = .ok (.iconst (-1), 1) := by decide +kernel
theorem dX11_ahead_45 : decode mX11_ahead.2.1 45 = .ok (.ireturn, 1) := by decide +kernel
theorem dX11_ahead_46 : decode mX11_ahead.2.1 46 = .ok (.aload_n 0, 1) := by decide +kernel
theorem dX11_ahead_47 : decode mX11_ahead.2.1 47 = .ok (.getfield 61, 3) := by decide +kernel
theorem dX11_ahead_50 : decode mX11_ahead.2.1 50 = .ok (.aload_n 0, 1) := by decide +kernel
theorem dX11_ahead_51 : decode mX11_ahead.2.1 51 = .ok (.getfield 58, 3) := by decide +kernel
theorem dX11_ahead_54 : decode mX11_ahead.2.1 54 = .ok (.invokevirtual 146, 3) := by decide +kernel
theorem dX11_ahead_57 : decode mX11_ahead.2.1 57 = .ok (.aload_n 0, 1) := by decide +kernel
theorem dX11_ahead_58 : decode mX11_ahead.2.1 58 = .ok (.getfield 67, 3) := by decide +kernel
theorem dX11_ahead_61 : decode mX11_ahead.2.1 61 = .ok (.aload_n 0, 1) := by decide +kernel
theorem dX11_ahead_62 : decode mX11_ahead.2.1 62 = .ok (.getfield 61, 3) := by decide +kernel
theorem dX11_ahead_65 : decode mX11_ahead.2.1 65 = .ok (.iload_n 1, 1) := by decide +kernel
theorem dX11_ahead_66 : decode mX11_ahead.2.1 66 = .ok (.invokevirtual 362, 3) := by decide +kernel
theorem dX11_ahead_69 : decode mX11_ahead.2.1 69 = .ok (.aload_n 0, 1) := by decide +kernel
theorem dX11_ahead_70 : decode mX11_ahead.2.1 70 = .ok (.getfield 61, 3) := by decide +kernel
theorem dX11_ahead_73 : decode mX11_ahead.2.1 73 = .ok (.getfield 176, 3) := by decide +kernel
theorem dX11_ahead_76 : decode mX11_ahead.2.1 76 = .ok (.bipush 30, 2) := by decide +kernel
theorem dX11_ahead_78 : decode mX11_ahead.2.1 78 = .ok (.iload_n 1, 1) := by decide +kernel
theorem dX11_ahead_79 : decode mX11_ahead.2.1 79 = .ok (.iadd, 1) := by decide +kernel
theorem dX11_ahead_80 : decode mX11_ahead.2.1 80 = .ok (.iaload, 1) := by decide +kernel
theorem dX11_ahead_81 : decode mX11_ahead.2.1 81 = .ok (.ireturn, 1) := by decide +kernel
abbrev mX11_all : gz_M := (yX11_all, cX11_all, 2, some .int)
theorem dX11_all_0 : decode mX11_all.2.1 0 = .ok (.aload_n 0, 1) := by decide +kernel
theorem dX11_all_1 : decode mX11_all.2.1 1 = .ok (.getfield 58, 3) := by decide +kernel
theorem dX11_all_4 : decode mX11_all.2.1 4 = .ok (.invokevirtual 232, 3) := by decide +kernel
theorem dX11_all_7 : decode mX11_all.2.1 7 = .ok (.ifCond .ne 5, 3) := by decide +kernel
theorem dX11_all_10 : decode mX11_all.2.1 10 = .ok (.iconst (-1), 1) := by decide +kernel
theorem dX11_all_11 : decode mX11_all.2.1 11 = .ok (.ireturn, 1) := by decide +kernel
theorem dX11_all_12 : decode mX11_all.2.1 12 = .ok (.iload_n 1, 1) := by decide +kernel
theorem dX11_all_13 : decode mX11_all.2.1 13 = .ok (.tableswitch 145 0 9 #[55, 65, 75, 84, 93, 102, 113, 121, 129, 137], 55) := by decide +kernel
theorem dX11_all_68 : decode mX11_all.2.1 68 = .ok (.aload_n 0, 1) := by decide +kernel
theorem dX11_all_69 : decode mX11_all.2.1 69 = .ok (.getfield 58, 3) := by decide +kernel
theorem dX11_all_72 : decode mX11_all.2.1 72 = .ok (.bipush 38, 2) := by decide +kernel
theorem dX11_all_74 : decode mX11_all.2.1 74 = .ok (.invokevirtual 366, 3) := by decide +kernel
theorem dX11_all_77 : decode mX11_all.2.1 77 = .ok (.ireturn, 1) := by decide +kernel
theorem dX11_all_78 : decode mX11_all.2.1 78 = .ok (.aload_n 0, 1) := by decide +kernel
theorem dX11_all_79 : decode mX11_all.2.1 79 = .ok (.getfield 58, 3) := by decide +kernel
theorem dX11_all_82 : decode mX11_all.2.1 82 = .ok (.bipush 50, 2) := by decide +kernel
theorem dX11_all_84 : decode mX11_all.2.1 84 = .ok (.invokevirtual 366, 3) := by decide +kernel
theorem dX11_all_87 : decode mX11_all.2.1 87 = .ok (.ireturn, 1) := by decide +kernel
theorem dX11_all_88 : decode mX11_all.2.1 88 = .ok (.aload_n 0, 1) := by decide +kernel
theorem dX11_all_89 : decode mX11_all.2.1 89 = .ok (.getfield 58, 3) := by decide +kernel
theorem dX11_all_92 : decode mX11_all.2.1 92 = .ok (.iconst 0, 1) := by decide +kernel
theorem dX11_all_93 : decode mX11_all.2.1 93 = .ok (.invokevirtual 369, 3) := by decide +kernel
theorem dX11_all_96 : decode mX11_all.2.1 96 = .ok (.ireturn, 1) := by decide +kernel
theorem dX11_all_97 : decode mX11_all.2.1 97 = .ok (.aload_n 0, 1) := by decide +kernel
theorem dX11_all_98 : decode mX11_all.2.1 98 = .ok (.getfield 58, 3) := by decide +kernel
theorem dX11_all_101 : decode mX11_all.2.1 101 = .ok (.iconst 1, 1) := by decide +kernel
theorem dX11_all_102 : decode mX11_all.2.1 102 = .ok (.invokevirtual 369, 3) := by decide +kernel
theorem dX11_all_105 : decode mX11_all.2.1 105 = .ok (.ireturn, 1) := by decide +kernel
theorem dX11_all_106 : decode mX11_all.2.1 106 = .ok (.aload_n 0, 1) := by decide +kernel
theorem dX11_all_107 : decode mX11_all.2.1 107 = .ok (.getfield 58, 3) := by decide +kernel
theorem dX11_all_110 : decode mX11_all.2.1 110 = .ok (.iconst 2, 1) := by decide +kernel
theorem dX11_all_111 : decode mX11_all.2.1 111 = .ok (.invokevirtual 369, 3) := by decide +kernel
theorem dX11_all_114 : decode mX11_all.2.1 114 = .ok (.ireturn, 1) := by decide +kernel
theorem dX11_all_115 : decode mX11_all.2.1 115 = .ok (.aload_n 0, 1) := by decide +kernel
theorem dX11_all_116 : decode mX11_all.2.1 116 = .ok (.getfield 58, 3) := by decide +kernel
theorem dX11_all_119 : decode mX11_all.2.1 119 = .ok (.invokevirtual 372, 3) := by decide +kernel
theorem dX11_all_122 : decode mX11_all.2.1 122 = .ok (.invokestatic 323, 3) := by decide +kernel
theorem dX11_all_125 : decode mX11_all.2.1 125 = .ok (.ireturn, 1) := by decide +kernel
theorem dX11_all_126 : decode mX11_all.2.1 126 = .ok (.aload_n 0, 1) := by decide +kernel
theorem dX11_all_127 : decode mX11_all.2.1 127 = .ok (.getfield 58, 3) := by decide +kernel
theorem dX11_all_130 : decode mX11_all.2.1 130 = .ok (.invokevirtual 375, 3) := by decide +kernel
theorem dX11_all_133 : decode mX11_all.2.1 133 = .ok (.ireturn, 1) := by decide +kernel
theorem dX11_all_134 : decode mX11_all.2.1 134 = .ok (.aload_n 0, 1) := by decide +kernel
theorem dX11_all_135 : decode mX11_all.2.1 135 = .ok (.getfield 58, 3) := by decide +kernel
theorem dX11_all_138 : decode mX11_all.2.1 138 = .ok (.invokevirtual 378, 3) := by decide +kernel
theorem dX11_all_141 : decode mX11_all.2.1 141 = .ok (.ireturn, 1) := by decide +kernel
theorem dX11_all_142 : decode mX11_all.2.1 142 = .ok (.aload_n 0, 1) := by decide +kernel
theorem dX11_all_143 : decode mX11_all.2.1 143 = .ok (.getfield 58, 3) := by decide +kernel
theorem dX11_all_146 : decode mX11_all.2.1 146 = .ok (.invokevirtual 381, 3) := by decide +kernel
theorem dX11_all_149 : decode mX11_all.2.1 149 = .ok (.ireturn, 1) := by decide +kernel
theorem dX11_all_150 : decode mX11_all.2.1 150 = .ok (.aload_n 0, 1) := by decide +kernel
theorem dX11_all_151 : decode mX11_all.2.1 151 = .ok (.getfield 58, 3) := by decide +kernel
theorem dX11_all_154 : decode mX11_all.2.1 154 = .ok (.invokevirtual 384, 3) := by decide +kernel
theorem dX11_all_157 : decode mX11_all.2.1 157 = .ok (.ireturn, 1) := by decide +kernel
theorem dX11_all_158 : decode mX11_all.2.1 158 = .ok (.iconst (-1), 1) := by decide +kernel
theorem dX11_all_159 : decode mX11_all.2.1 159 = .ok (.ireturn, 1) := by decide +kernel
abbrev mX11_anew : gz_M := (yX11_anew, cX11_anew, 3, some .int)
theorem dX11_anew_0 : decode mX11_anew.2.1 0 = .ok (.aload_n 0, 1) := by decide +kernel
theorem dX11_anew_1 : decode mX11_anew.2.1 1 = .ok (.getfield 58, 3) := by decide +kernel
theorem dX11_anew_4 : decode mX11_anew.2.1 4 = .ok (.iload_n 1, 1) := by decide +kernel
theorem dX11_anew_5 : decode mX11_anew.2.1 5 = .ok (.iload_n 2, 1) := by decide +kernel
theorem dX11_anew_6 : decode mX11_anew.2.1 6 = .ok (.invokevirtual 221, 3) := by decide +kernel
theorem dX11_anew_9 : decode mX11_anew.2.1 9 = .ok (.ifCond .ne 5, 3) := by decide +kernel
theorem dX11_anew_12 : decode mX11_anew.2.1 12 = .ok (.iconst (-1), 1) := by decide +kernel
theorem dX11_anew_13 : decode mX11_anew.2.1 13 = .ok (.ireturn, 1) := by decide +kernel
theorem dX11_anew_14 : decode mX11_anew.2.1 14 = .ok (.aload_n 0, 1) := by decide +kernel
theorem dX11_anew_15 : decode mX11_anew.2.1 15 = .ok (.getfield 74, 3) := by decide +kernel
theorem dX11_anew_18 : decode mX11_anew.2.1 18 = .ok (.aload_n 0, 1) := by decide +kernel
theorem dX11_anew_19 : decode mX11_anew.2.1 19 = .ok (.getfield 58, 3) := by decide +kernel
theorem dX11_anew_22 : decode mX11_anew.2.1 22 = .ok (.invokevirtual 189, 3) := by decide +kernel
theorem dX11_anew_25 : decode mX11_anew.2.1 25 = .ok (.aload_n 0, 1) := by decide +kernel
theorem dX11_anew_26 : decode mX11_anew.2.1 26 = .ok (.getfield 58, 3) := by decide +kernel
theorem dX11_anew_29 : decode mX11_anew.2.1 29 = .ok (.iload_n 1, 1) := by decide +kernel
theorem dX11_anew_30 : decode mX11_anew.2.1 30 = .ok (.iload_n 2, 1) := by decide +kernel
theorem dX11_anew_31 : decode mX11_anew.2.1 31 = .ok (.invokevirtual 225, 3) := by decide +kernel
theorem dX11_anew_34 : decode mX11_anew.2.1 34 = .ok (.aload_n 0, 1) := by decide +kernel
theorem dX11_anew_35 : decode mX11_anew.2.1 35 = .ok (.getfield 58, 3) := by decide +kernel
theorem dX11_anew_38 : decode mX11_anew.2.1 38 = .ok (.getfield 176, 3) := by decide +kernel
theorem dX11_anew_41 : decode mX11_anew.2.1 41 = .ok (.bipush 30, 2) := by decide +kernel
theorem dX11_anew_43 : decode mX11_anew.2.1 43 = .ok (.iload_n 1, 1) := by decide +kernel
theorem dX11_anew_44 : decode mX11_anew.2.1 44 = .ok (.iadd, 1) := by decide +kernel
theorem dX11_anew_45 : decode mX11_anew.2.1 45 = .ok (.iaload, 1) := by decide +kernel
theorem dX11_anew_46 : decode mX11_anew.2.1 46 = .ok (.ireturn, 1) := by decide +kernel
abbrev mX11_ask : gz_M := (yX11_ask, cX11_ask, 2, some .int)
theorem dX11_ask_0 : decode mX11_ask.2.1 0 = .ok (.aload_n 0, 1) := by decide +kernel
theorem dX11_ask_1 : decode mX11_ask.2.1 1 = .ok (.getfield 58, 3) := by decide +kernel
theorem dX11_ask_4 : decode mX11_ask.2.1 4 = .ok (.iload_n 1, 1) := by decide +kernel
theorem dX11_ask_5 : decode mX11_ask.2.1 5 = .ok (.invokevirtual 166, 3) := by decide +kernel
theorem dX11_ask_8 : decode mX11_ask.2.1 8 = .ok (.ifCond .eq 21, 3) := by decide +kernel
theorem dX11_ask_11 : decode mX11_ask.2.1 11 = .ok (.aload_n 0, 1) := by decide +kernel
theorem dX11_ask_12 : decode mX11_ask.2.1 12 = .ok (.getfield 90, 3) := by decide +kernel
theorem dX11_ask_15 : decode mX11_ask.2.1 15 = .ok (.aload_n 0, 1) := by decide +kernel
theorem dX11_ask_16 : decode mX11_ask.2.1 16 = .ok (.getfield 90, 3) := by decide +kernel
theorem dX11_ask_19 : decode mX11_ask.2.1 19 = .ok (.iload_n 1, 1) := by decide +kernel
theorem dX11_ask_20 : decode mX11_ask.2.1 20 = .ok (.invokevirtual 320, 3) := by decide +kernel
theorem dX11_ask_23 : decode mX11_ask.2.1 23 = .ok (.invokevirtual 331, 3) := by decide +kernel
theorem dX11_ask_26 : decode mX11_ask.2.1 26 = .ok (.goto 4, 3) := by decide +kernel
theorem dX11_ask_29 : decode mX11_ask.2.1 29 = .ok (.iconst (-1), 1) := by decide +kernel
theorem dX11_ask_30 : decode mX11_ask.2.1 30 = .ok (.ireturn, 1) := by decide +kernel
abbrev mX11_back : gz_M := (yX11_back, cX11_back, 1, some .int)
theorem dX11_back_0 : decode mX11_back.2.1 0 = .ok (.aload_n 0, 1) := by decide +kernel
theorem dX11_back_1 : decode mX11_back.2.1 1 = .ok (.getfield 74, 3) := by decide +kernel
theorem dX11_back_4 : decode mX11_back.2.1 4 = .ok (.aload_n 0, 1) := by decide +kernel
theorem dX11_back_5 : decode mX11_back.2.1 5 = .ok (.getfield 58, 3) := by decide +kernel
theorem dX11_back_8 : decode mX11_back.2.1 8 = .ok (.invokevirtual 390, 3) := by decide +kernel
theorem dX11_back_11 : decode mX11_back.2.1 11 = .ok (.ifCond .eq 16, 3) := by decide +kernel
theorem dX11_back_14 : decode mX11_back.2.1 14 = .ok (.aload_n 0, 1) := by decide +kernel
theorem dX11_back_15 : decode mX11_back.2.1 15 = .ok (.getfield 58, 3) := by decide +kernel
theorem dX11_back_18 : decode mX11_back.2.1 18 = .ok (.getfield 176, 3) := by decide +kernel
theorem dX11_back_21 : decode mX11_back.2.1 21 = .ok (.bipush 49, 2) := by decide +kernel
theorem dX11_back_23 : decode mX11_back.2.1 23 = .ok (.iaload, 1) := by decide +kernel
theorem dX11_back_24 : decode mX11_back.2.1 24 = .ok (.goto 4, 3) := by decide +kernel
theorem dX11_back_27 : decode mX11_back.2.1 27 = .ok (.iconst (-1), 1) := by decide +kernel
theorem dX11_back_28 : decode mX11_back.2.1 28 = .ok (.ireturn, 1) := by decide +kernel
abbrev mX11_children : gz_M := (yX11_children, cX11_children, 2, some .boolean)
theorem dX11_children_0 : decode mX11_children.2.1 0 = .ok (.iload_n 1, 1) := by decide +kernel
theorem dX11_children_1 : decode mX11_children.2.1 1 = .ok (.ifCond .lt 17, 3) := by decide +kernel
theorem dX11_children_4 : decode mX11_children.2.1 4 = .ok (.iload_n 1, 1) := by decide +kernel
theorem dX11_children_5 : decode mX11_children.2.1 5 = .ok (.bipush 9, 2) := by decide +kernel
theorem dX11_children_7 : decode mX11_children.2.1 7 = .ok (.if_icmp .gt 11, 3) := by decide +kernel
theorem dX11_children_10 : decode mX11_children.2.1 10 = .ok (.iload_n 1, 1) := by decide +kernel
theorem dX11_children_11 : decode mX11_children.2.1 11 = .ok (.aload_n 0, 1) := by decide +kernel
theorem dX11_children_12 : decode mX11_children.2.1 12 = .ok (.getfield 98, 3) := by decide +kernel
theorem dX11_children_15 : decode mX11_children.2.1 15 = .ok (.if_icmp .ne 5, 3) := by decide +kernel
theorem dX11_children_18 : decode mX11_children.2.1 18 = .ok (.iconst 0, 1) := by decide +kernel
theorem dX11_children_19 : decode mX11_children.2.1 19 = .ok (.ireturn, 1) := by decide +kernel
theorem dX11_children_20 : decode mX11_children.2.1 20 = .ok (.aload_n 0, 1) := by decide +kernel
theorem dX11_children_21 : decode mX11_children.2.1 21 = .ok (.iload_n 1, 1) := by decide +kernel
theorem dX11_children_22 : decode mX11_children.2.1 22 = .ok (.putfield 98, 3) := by decide +kernel
theorem dX11_children_25 : decode mX11_children.2.1 25 = .ok (.iconst 1, 1) := by decide +kernel
theorem dX11_children_26 : decode mX11_children.2.1 26 = .ok (.ireturn, 1) := by decide +kernel
abbrev mX11_count : gz_M := (yX11_count, cX11_count, 2, some .int)
theorem dX11_count_0 : decode mX11_count.2.1 0 = .ok (.iload_n 1, 1) := by decide +kernel
theorem dX11_count_1 : decode mX11_count.2.1 1 = .ok (.tableswitch 186 0 13 #[71, 79, 90, 95, 100, 108, 113, 124, 135, 146, 157, 162, 170, 178], 71) := by decide +kernel
theorem dX11_count_72 : decode mX11_count.2.1 72 = .ok (.aload_n 0, 1) := by decide +kernel
theorem dX11_count_73 : decode mX11_count.2.1 73 = .ok (.getfield 58, 3) := by decide +kernel
theorem dX11_count_76 : decode mX11_count.2.1 76 = .ok (.invokevirtual 153, 3) := by decide +kernel
theorem dX11_count_79 : decode mX11_count.2.1 79 = .ok (.ireturn, 1) := by decide +kernel
theorem dX11_count_80 : decode mX11_count.2.1 80 = .ok (.aload_n 0, 1) := by decide +kernel
theorem dX11_count_81 : decode mX11_count.2.1 81 = .ok (.getfield 58, 3) := by decide +kernel
theorem dX11_count_84 : decode mX11_count.2.1 84 = .ok (.getfield 176, 3) := by decide +kernel
theorem dX11_count_87 : decode mX11_count.2.1 87 = .ok (.bipush 60, 2) := by decide +kernel
theorem dX11_count_89 : decode mX11_count.2.1 89 = .ok (.iaload, 1) := by decide +kernel
theorem dX11_count_90 : decode mX11_count.2.1 90 = .ok (.ireturn, 1) := by decide +kernel
theorem dX11_count_91 : decode mX11_count.2.1 91 = .ok (.aload_n 0, 1) := by decide +kernel
theorem dX11_count_92 : decode mX11_count.2.1 92 = .ok (.getfield 129, 3) := by decide +kernel
theorem dX11_count_95 : decode mX11_count.2.1 95 = .ok (.ireturn, 1) := by decide +kernel
theorem dX11_count_96 : decode mX11_count.2.1 96 = .ok (.aload_n 0, 1) := by decide +kernel
theorem dX11_count_97 : decode mX11_count.2.1 97 = .ok (.getfield 136, 3) := by decide +kernel
theorem dX11_count_100 : decode mX11_count.2.1 100 = .ok (.ireturn, 1) := by decide +kernel
theorem dX11_count_101 : decode mX11_count.2.1 101 = .ok (.aload_n 0, 1) := by decide +kernel
theorem dX11_count_102 : decode mX11_count.2.1 102 = .ok (.getfield 10, 3) := by decide +kernel
theorem dX11_count_105 : decode mX11_count.2.1 105 = .ok (.getfield 105, 3) := by decide +kernel
theorem dX11_count_108 : decode mX11_count.2.1 108 = .ok (.ireturn, 1) := by decide +kernel
theorem dX11_count_109 : decode mX11_count.2.1 109 = .ok (.aload_n 0, 1) := by decide +kernel
theorem dX11_count_110 : decode mX11_count.2.1 110 = .ok (.getfield 94, 3) := by decide +kernel
theorem dX11_count_113 : decode mX11_count.2.1 113 = .ok (.ireturn, 1) := by decide +kernel
theorem dX11_count_114 : decode mX11_count.2.1 114 = .ok (.aload_n 0, 1) := by decide +kernel
theorem dX11_count_115 : decode mX11_count.2.1 115 = .ok (.getfield 58, 3) := by decide +kernel
theorem dX11_count_118 : decode mX11_count.2.1 118 = .ok (.getfield 176, 3) := by decide +kernel
theorem dX11_count_121 : decode mX11_count.2.1 121 = .ok (.bipush 49, 2) := by decide +kernel
theorem dX11_count_123 : decode mX11_count.2.1 123 = .ok (.iaload, 1) := by decide +kernel
theorem dX11_count_124 : decode mX11_count.2.1 124 = .ok (.ireturn, 1) := by decide +kernel
theorem dX11_count_125 : decode mX11_count.2.1 125 = .ok (.aload_n 0, 1) := by decide +kernel
theorem dX11_count_126 : decode mX11_count.2.1 126 = .ok (.getfield 58, 3) := by decide +kernel
theorem dX11_count_129 : decode mX11_count.2.1 129 = .ok (.getfield 176, 3) := by decide +kernel
theorem dX11_count_132 : decode mX11_count.2.1 132 = .ok (.bipush 48, 2) := by decide +kernel
theorem dX11_count_134 : decode mX11_count.2.1 134 = .ok (.iaload, 1) := by decide +kernel
theorem dX11_count_135 : decode mX11_count.2.1 135 = .ok (.ireturn, 1) := by decide +kernel
theorem dX11_count_136 : decode mX11_count.2.1 136 = .ok (.aload_n 0, 1) := by decide +kernel
theorem dX11_count_137 : decode mX11_count.2.1 137 = .ok (.getfield 58, 3) := by decide +kernel
theorem dX11_count_140 : decode mX11_count.2.1 140 = .ok (.getfield 176, 3) := by decide +kernel
theorem dX11_count_143 : decode mX11_count.2.1 143 = .ok (.bipush 46, 2) := by decide +kernel
theorem dX11_count_145 : decode mX11_count.2.1 145 = .ok (.iaload, 1) := by decide +kernel
theorem dX11_count_146 : decode mX11_count.2.1 146 = .ok (.ireturn, 1) := by decide +kernel
theorem dX11_count_147 : decode mX11_count.2.1 147 = .ok (.aload_n 0, 1) := by decide +kernel
theorem dX11_count_148 : decode mX11_count.2.1 148 = .ok (.getfield 58, 3) := by decide +kernel
theorem dX11_count_151 : decode mX11_count.2.1 151 = .ok (.getfield 176, 3) := by decide +kernel
theorem dX11_count_154 : decode mX11_count.2.1 154 = .ok (.bipush 47, 2) := by decide +kernel
theorem dX11_count_156 : decode mX11_count.2.1 156 = .ok (.iaload, 1) := by decide +kernel
theorem dX11_count_157 : decode mX11_count.2.1 157 = .ok (.ireturn, 1) := by decide +kernel
theorem dX11_count_158 : decode mX11_count.2.1 158 = .ok (.aload_n 0, 1) := by decide +kernel
theorem dX11_count_159 : decode mX11_count.2.1 159 = .ok (.getfield 98, 3) := by decide +kernel
theorem dX11_count_162 : decode mX11_count.2.1 162 = .ok (.ireturn, 1) := by decide +kernel
theorem dX11_count_163 : decode mX11_count.2.1 163 = .ok (.aload_n 0, 1) := by decide +kernel
theorem dX11_count_164 : decode mX11_count.2.1 164 = .ok (.getfield 90, 3) := by decide +kernel
theorem dX11_count_167 : decode mX11_count.2.1 167 = .ok (.getfield 319, 3) := by decide +kernel
theorem dX11_count_170 : decode mX11_count.2.1 170 = .ok (.ireturn, 1) := by decide +kernel
theorem dX11_count_171 : decode mX11_count.2.1 171 = .ok (.aload_n 0, 1) := by decide +kernel
theorem dX11_count_172 : decode mX11_count.2.1 172 = .ok (.getfield 58, 3) := by decide +kernel
theorem dX11_count_175 : decode mX11_count.2.1 175 = .ok (.invokestatic 256, 3) := by decide +kernel
theorem dX11_count_178 : decode mX11_count.2.1 178 = .ok (.ireturn, 1) := by decide +kernel
theorem dX11_count_179 : decode mX11_count.2.1 179 = .ok (.aload_n 0, 1) := by decide +kernel
theorem dX11_count_180 : decode mX11_count.2.1 180 = .ok (.getfield 74, 3) := by decide +kernel
theorem dX11_count_183 : decode mX11_count.2.1 183 = .ok (.getfield 253, 3) := by decide +kernel
theorem dX11_count_186 : decode mX11_count.2.1 186 = .ok (.ireturn, 1) := by decide +kernel
theorem dX11_count_187 : decode mX11_count.2.1 187 = .ok (.ldc_w 270, 3) := by decide +kernel
theorem dX11_count_190 : decode mX11_count.2.1 190 = .ok (.ireturn, 1) := by decide +kernel
abbrev mX11_draw : gz_M := (yX11_draw, cX11_draw, 2, some .int)
theorem dX11_draw_0 : decode mX11_draw.2.1 0 = .ok (.aload_n 0, 1) := by decide +kernel
theorem dX11_draw_1 : decode mX11_draw.2.1 1 = .ok (.aload_n 0, 1) := by decide +kernel
theorem dX11_draw_2 : decode mX11_draw.2.1 2 = .ok (.getfield 235, 3) := by decide +kernel
theorem dX11_draw_5 : decode mX11_draw.2.1 5 = .ok (.ldc2_w 245, 3) := by decide +kernel
theorem dX11_draw_8 : decode mX11_draw.2.1 8 = .ok (.lmul, 1) := by decide +kernel
theorem dX11_draw_9 : decode mX11_draw.2.1 9 = .ok (.ldc2_w 247, 3) := by decide +kernel
theorem dX11_draw_12 : decode mX11_draw.2.1 12 = .ok (.ladd, 1) := by decide +kernel
theorem dX11_draw_13 : decode mX11_draw.2.1 13 = .ok (.putfield 235, 3) := by decide +kernel
theorem dX11_draw_16 : decode mX11_draw.2.1 16 = .ok (.iload_n 1, 1) := by decide +kernel
theorem dX11_draw_17 : decode mX11_draw.2.1 17 = .ok (.iconst 1, 1) := by decide +kernel
theorem dX11_draw_18 : decode mX11_draw.2.1 18 = .ok (.if_icmp .ge 7, 3) := by decide +kernel
theorem dX11_draw_21 : decode mX11_draw.2.1 21 = .ok (.iconst 0, 1) := by decide +kernel
theorem dX11_draw_22 : decode mX11_draw.2.1 22 = .ok (.goto 14, 3) := by decide +kernel
theorem dX11_draw_25 : decode mX11_draw.2.1 25 = .ok (.aload_n 0, 1) := by decide +kernel
theorem dX11_draw_26 : decode mX11_draw.2.1 26 = .ok (.getfield 235, 3) := by decide +kernel
theorem dX11_draw_29 : decode mX11_draw.2.1 29 = .ok (.bipush 33, 2) := by decide +kernel
theorem dX11_draw_31 : decode mX11_draw.2.1 31 = .ok (.lushr, 1) := by decide +kernel
theorem dX11_draw_32 : decode mX11_draw.2.1 32 = .ok (.iload_n 1, 1) := by decide +kernel
theorem dX11_draw_33 : decode mX11_draw.2.1 33 = .ok (.i2l, 1) := by decide +kernel
theorem dX11_draw_34 : decode mX11_draw.2.1 34 = .ok (.lrem, 1) := by decide +kernel
theorem dX11_draw_35 : decode mX11_draw.2.1 35 = .ok (.l2i, 1) := by decide +kernel
theorem dX11_draw_36 : decode mX11_draw.2.1 36 = .ok (.ireturn, 1) := by decide +kernel
abbrev mX11_end : gz_M := (yX11_end, cX11_end, 2, some .boolean)
theorem dX11_end_0 : decode mX11_end.2.1 0 = .ok (.iload_n 1, 1) := by decide +kernel
theorem dX11_end_1 : decode mX11_end.2.1 1 = .ok (.ifCond .lt 14, 3) := by decide +kernel
theorem dX11_end_4 : decode mX11_end.2.1 4 = .ok (.iload_n 1, 1) := by decide +kernel
theorem dX11_end_5 : decode mX11_end.2.1 5 = .ok (.aload_n 0, 1) := by decide +kernel
theorem dX11_end_6 : decode mX11_end.2.1 6 = .ok (.getfield 10, 3) := by decide +kernel
theorem dX11_end_9 : decode mX11_end.2.1 9 = .ok (.getfield 105, 3) := by decide +kernel
theorem dX11_end_12 : decode mX11_end.2.1 12 = .ok (.if_icmp .le 5, 3) := by decide +kernel
theorem dX11_end_15 : decode mX11_end.2.1 15 = .ok (.iconst 0, 1) := by decide +kernel
theorem dX11_end_16 : decode mX11_end.2.1 16 = .ok (.ireturn, 1) := by decide +kernel
theorem dX11_end_17 : decode mX11_end.2.1 17 = .ok (.aload_n 0, 1) := by decide +kernel
theorem dX11_end_18 : decode mX11_end.2.1 18 = .ok (.getfield 10, 3) := by decide +kernel
theorem dX11_end_21 : decode mX11_end.2.1 21 = .ok (.iload_n 1, 1) := by decide +kernel
theorem dX11_end_22 : decode mX11_end.2.1 22 = .ok (.putfield 105, 3) := by decide +kernel
theorem dX11_end_25 : decode mX11_end.2.1 25 = .ok (.iconst 1, 1) := by decide +kernel
theorem dX11_end_26 : decode mX11_end.2.1 26 = .ok (.ireturn, 1) := by decide +kernel
abbrev mX11_ends : gz_M := (yX11_ends, cX11_ends, 3, some .int)
theorem dX11_ends_0 : decode mX11_ends.2.1 0 = .ok (.aload_n 0, 1) := by decide +kernel
theorem dX11_ends_1 : decode mX11_ends.2.1 1 = .ok (.getfield 58, 3) := by decide +kernel
theorem dX11_ends_4 : decode mX11_ends.2.1 4 = .ok (.iload_n 1, 1) := by decide +kernel
theorem dX11_ends_5 : decode mX11_ends.2.1 5 = .ok (.invokevirtual 166, 3) := by decide +kernel
theorem dX11_ends_8 : decode mX11_ends.2.1 8 = .ok (.ifCond .eq 12, 3) := by decide +kernel
theorem dX11_ends_11 : decode mX11_ends.2.1 11 = .ok (.iload_n 2, 1) := by decide +kernel
theorem dX11_ends_12 : decode mX11_ends.2.1 12 = .ok (.ifCond .lt 8, 3) := by decide +kernel
theorem dX11_ends_15 : decode mX11_ends.2.1 15 = .ok (.iload_n 2, 1) := by decide +kernel
theorem dX11_ends_16 : decode mX11_ends.2.1 16 = .ok (.iconst 1, 1) := by decide +kernel
theorem dX11_ends_17 : decode mX11_ends.2.1 17 = .ok (.if_icmp .le 5, 3) := by decide +kernel
theorem dX11_ends_20 : decode mX11_ends.2.1 20 = .ok (.iconst (-1), 1) := by decide +kernel
theorem dX11_ends_21 : decode mX11_ends.2.1 21 = .ok (.ireturn, 1) := by decide +kernel
theorem dX11_ends_22 : decode mX11_ends.2.1 22 = .ok (.aload_n 0, 1) := by decide +kernel
theorem dX11_ends_23 : decode mX11_ends.2.1 23 = .ok (.getfield 83, 3) := by decide +kernel
theorem dX11_ends_26 : decode mX11_ends.2.1 26 = .ok (.iload_n 1, 1) := by decide +kernel
theorem dX11_ends_27 : decode mX11_ends.2.1 27 = .ok (.iload_n 2, 1) := by decide +kernel
theorem dX11_ends_28 : decode mX11_ends.2.1 28 = .ok (.invokevirtual 294, 3) := by decide +kernel
theorem dX11_ends_31 : decode mX11_ends.2.1 31 = .ok (.ireturn, 1) := by decide +kernel
abbrev mX11_eveningOf : gz_M := (yX11_eveningOf, cX11_eveningOf, 2, some (.object "PrintsGoOn$Evening"))
theorem dX11_eveningOf_0 : decode mX11_eveningOf.2.1 0 = .ok (.iload_n 1, 1) := by decide +kernel
theorem dX11_eveningOf_1 : decode mX11_eveningOf.2.1 1 = .ok (.ifCond .lt 20, 3) := by decide +kernel
theorem dX11_eveningOf_4 : decode mX11_eveningOf.2.1 4 = .ok (.iload_n 1, 1) := by decide +kernel
theorem dX11_eveningOf_5 : decode mX11_eveningOf.2.1 5 = .ok (.aload_n 0, 1) := by decide +kernel
theorem dX11_eveningOf_6 : decode mX11_eveningOf.2.1 6 = .ok (.getfield 136, 3) := by decide +kernel
theorem dX11_eveningOf_9 : decode mX11_eveningOf.2.1 9 = .ok (.if_icmp .ge 12, 3) := by decide +kernel
theorem dX11_eveningOf_12 : decode mX11_eveningOf.2.1 12 = .ok (.aload_n 0, 1) := by decide +kernel
theorem dX11_eveningOf_13 : decode mX11_eveningOf.2.1 13 = .ok (.getfield 47, 3) := by decide +kernel
theorem dX11_eveningOf_16 : decode mX11_eveningOf.2.1 16 = .ok (.iload_n 1, 1) := by decide +kernel
theorem dX11_eveningOf_17 : decode mX11_eveningOf.2.1 17 = .ok (.aaload, 1) := by decide +kernel
theorem dX11_eveningOf_18 : decode mX11_eveningOf.2.1 18 = .ok (.goto 4, 3) := by decide +kernel
theorem dX11_eveningOf_21 : decode mX11_eveningOf.2.1 21 = .ok (.aconst_null, 1) := by decide +kernel
theorem dX11_eveningOf_22 : decode mX11_eveningOf.2.1 22 = .ok (.areturn, 1) := by decide +kernel
abbrev mX11_fault : gz_M := (yX11_fault, cX11_fault, 2, some .int)
theorem dX11_fault_0 : decode mX11_fault.2.1 0 = .ok (.iload_n 1, 1) := by decide +kernel
theorem dX11_fault_1 : decode mX11_fault.2.1 1 = .ok (.tableswitch 93 0 2 #[27, 49, 71], 27) := by decide +kernel
theorem dX11_fault_28 : decode mX11_fault.2.1 28 = .ok (.aload_n 0, 1) := by decide +kernel
theorem dX11_fault_29 : decode mX11_fault.2.1 29 = .ok (.getfield 21, 3) := by decide +kernel
theorem dX11_fault_32 : decode mX11_fault.2.1 32 = .ok (.invokevirtual 112, 3) := by decide +kernel
theorem dX11_fault_35 : decode mX11_fault.2.1 35 = .ok (.ifCond .eq 7, 3) := by decide +kernel
theorem dX11_fault_38 : decode mX11_fault.2.1 38 = .ok (.iconst (-1), 1) := by decide +kernel
theorem dX11_fault_39 : decode mX11_fault.2.1 39 = .ok (.goto 10, 3) := by decide +kernel
theorem dX11_fault_42 : decode mX11_fault.2.1 42 = .ok (.aload_n 0, 1) := by decide +kernel
theorem dX11_fault_43 : decode mX11_fault.2.1 43 = .ok (.getfield 10, 3) := by decide +kernel
theorem dX11_fault_46 : decode mX11_fault.2.1 46 = .ok (.getfield 116, 3) := by decide +kernel
theorem dX11_fault_49 : decode mX11_fault.2.1 49 = .ok (.ireturn, 1) := by decide +kernel
theorem dX11_fault_50 : decode mX11_fault.2.1 50 = .ok (.aload_n 0, 1) := by decide +kernel
theorem dX11_fault_51 : decode mX11_fault.2.1 51 = .ok (.getfield 28, 3) := by decide +kernel
theorem dX11_fault_54 : decode mX11_fault.2.1 54 = .ok (.invokevirtual 119, 3) := by decide +kernel
theorem dX11_fault_57 : decode mX11_fault.2.1 57 = .ok (.ifCond .eq 7, 3) := by decide +kernel
theorem dX11_fault_60 : decode mX11_fault.2.1 60 = .ok (.iconst (-1), 1) := by decide +kernel
theorem dX11_fault_61 : decode mX11_fault.2.1 61 = .ok (.goto 10, 3) := by decide +kernel
theorem dX11_fault_64 : decode mX11_fault.2.1 64 = .ok (.aload_n 0, 1) := by decide +kernel
theorem dX11_fault_65 : decode mX11_fault.2.1 65 = .ok (.getfield 10, 3) := by decide +kernel
theorem dX11_fault_68 : decode mX11_fault.2.1 68 = .ok (.getfield 116, 3) := by decide +kernel
theorem dX11_fault_71 : decode mX11_fault.2.1 71 = .ok (.ireturn, 1) := by decide +kernel
theorem dX11_fault_72 : decode mX11_fault.2.1 72 = .ok (.aload_n 0, 1) := by decide +kernel
theorem dX11_fault_73 : decode mX11_fault.2.1 73 = .ok (.getfield 35, 3) := by decide +kernel
theorem dX11_fault_76 : decode mX11_fault.2.1 76 = .ok (.invokevirtual 122, 3) := by decide +kernel
theorem dX11_fault_79 : decode mX11_fault.2.1 79 = .ok (.ifCond .eq 7, 3) := by decide +kernel
theorem dX11_fault_82 : decode mX11_fault.2.1 82 = .ok (.iconst (-1), 1) := by decide +kernel
theorem dX11_fault_83 : decode mX11_fault.2.1 83 = .ok (.goto 10, 3) := by decide +kernel
theorem dX11_fault_86 : decode mX11_fault.2.1 86 = .ok (.aload_n 0, 1) := by decide +kernel
theorem dX11_fault_87 : decode mX11_fault.2.1 87 = .ok (.getfield 10, 3) := by decide +kernel
theorem dX11_fault_90 : decode mX11_fault.2.1 90 = .ok (.getfield 116, 3) := by decide +kernel
theorem dX11_fault_93 : decode mX11_fault.2.1 93 = .ok (.ireturn, 1) := by decide +kernel
theorem dX11_fault_94 : decode mX11_fault.2.1 94 = .ok (.bipush (-2), 2) := by decide +kernel
theorem dX11_fault_96 : decode mX11_fault.2.1 96 = .ok (.ireturn, 1) := by decide +kernel
abbrev mX11_feed : gz_M := (yX11_feed, cX11_feed, 7, some .int)
theorem dX11_feed_0 : decode mX11_feed.2.1 0 = .ok (.iload_n 1, 1) := by decide +kernel
theorem dX11_feed_1 : decode mX11_feed.2.1 1 = .ok (.invokestatic 101, 3) := by decide +kernel
theorem dX11_feed_4 : decode mX11_feed.2.1 4 = .ok (.iload_n 2, 1) := by decide +kernel
theorem dX11_feed_5 : decode mX11_feed.2.1 5 = .ok (.invokestatic 101, 3) := by decide +kernel
theorem dX11_feed_8 : decode mX11_feed.2.1 8 = .ok (.iadd, 1) := by decide +kernel
theorem dX11_feed_9 : decode mX11_feed.2.1 9 = .ok (.iload_n 3, 1) := by decide +kernel
theorem dX11_feed_10 : decode mX11_feed.2.1 10 = .ok (.invokestatic 101, 3) := by decide +kernel
theorem dX11_feed_13 : decode mX11_feed.2.1 13 = .ok (.iadd, 1) := by decide +kernel
theorem dX11_feed_14 : decode mX11_feed.2.1 14 = .ok (.iload 4, 2) := by decide +kernel
theorem dX11_feed_16 : decode mX11_feed.2.1 16 = .ok (.invokestatic 101, 3) := by decide +kernel
theorem dX11_feed_19 : decode mX11_feed.2.1 19 = .ok (.iadd, 1) := by decide +kernel
theorem dX11_feed_20 : decode mX11_feed.2.1 20 = .ok (.iload 5, 2) := by decide +kernel
theorem dX11_feed_22 : decode mX11_feed.2.1 22 = .ok (.invokestatic 101, 3) := by decide +kernel
theorem dX11_feed_25 : decode mX11_feed.2.1 25 = .ok (.iadd, 1) := by decide +kernel
theorem dX11_feed_26 : decode mX11_feed.2.1 26 = .ok (.istore 6, 2) := by decide +kernel
theorem dX11_feed_28 : decode mX11_feed.2.1 28 = .ok (.aload_n 0, 1) := by decide +kernel
theorem dX11_feed_29 : decode mX11_feed.2.1 29 = .ok (.getfield 10, 3) := by decide +kernel
theorem dX11_feed_32 : decode mX11_feed.2.1 32 = .ok (.getfield 105, 3) := by decide +kernel
theorem dX11_feed_35 : decode mX11_feed.2.1 35 = .ok (.iload 6, 2) := by decide +kernel
theorem dX11_feed_37 : decode mX11_feed.2.1 37 = .ok (.iadd, 1) := by decide +kernel
theorem dX11_feed_38 : decode mX11_feed.2.1 38 = .ok (.sipush 240, 3) := by decide +kernel
theorem dX11_feed_41 : decode mX11_feed.2.1 41 = .ok (.if_icmp .le 5, 3) := by decide +kernel
theorem dX11_feed_44 : decode mX11_feed.2.1 44 = .ok (.iconst (-1), 1) := by decide +kernel
theorem dX11_feed_45 : decode mX11_feed.2.1 45 = .ok (.ireturn, 1) := by decide +kernel
theorem dX11_feed_46 : decode mX11_feed.2.1 46 = .ok (.aload_n 0, 1) := by decide +kernel
theorem dX11_feed_47 : decode mX11_feed.2.1 47 = .ok (.getfield 10, 3) := by decide +kernel
theorem dX11_feed_50 : decode mX11_feed.2.1 50 = .ok (.iload_n 1, 1) := by decide +kernel
theorem dX11_feed_51 : decode mX11_feed.2.1 51 = .ok (.invokevirtual 108, 3) := by decide +kernel
theorem dX11_feed_54 : decode mX11_feed.2.1 54 = .ok (.aload_n 0, 1) := by decide +kernel
theorem dX11_feed_55 : decode mX11_feed.2.1 55 = .ok (.getfield 10, 3) := by decide +kernel
theorem dX11_feed_58 : decode mX11_feed.2.1 58 = .ok (.iload_n 2, 1) := by decide +kernel
theorem dX11_feed_59 : decode mX11_feed.2.1 59 = .ok (.invokevirtual 108, 3) := by decide +kernel
theorem dX11_feed_62 : decode mX11_feed.2.1 62 = .ok (.aload_n 0, 1) := by decide +kernel
theorem dX11_feed_63 : decode mX11_feed.2.1 63 = .ok (.getfield 10, 3) := by decide +kernel
theorem dX11_feed_66 : decode mX11_feed.2.1 66 = .ok (.iload_n 3, 1) := by decide +kernel
theorem dX11_feed_67 : decode mX11_feed.2.1 67 = .ok (.invokevirtual 108, 3) := by decide +kernel
theorem dX11_feed_70 : decode mX11_feed.2.1 70 = .ok (.aload_n 0, 1) := by decide +kernel
theorem dX11_feed_71 : decode mX11_feed.2.1 71 = .ok (.getfield 10, 3) := by decide +kernel
theorem dX11_feed_74 : decode mX11_feed.2.1 74 = .ok (.iload 4, 2) := by decide +kernel
theorem dX11_feed_76 : decode mX11_feed.2.1 76 = .ok (.invokevirtual 108, 3) := by decide +kernel
theorem dX11_feed_79 : decode mX11_feed.2.1 79 = .ok (.aload_n 0, 1) := by decide +kernel
theorem dX11_feed_80 : decode mX11_feed.2.1 80 = .ok (.getfield 10, 3) := by decide +kernel
theorem dX11_feed_83 : decode mX11_feed.2.1 83 = .ok (.iload 5, 2) := by decide +kernel
theorem dX11_feed_85 : decode mX11_feed.2.1 85 = .ok (.invokevirtual 108, 3) := by decide +kernel
theorem dX11_feed_88 : decode mX11_feed.2.1 88 = .ok (.aload_n 0, 1) := by decide +kernel
theorem dX11_feed_89 : decode mX11_feed.2.1 89 = .ok (.getfield 10, 3) := by decide +kernel
theorem dX11_feed_92 : decode mX11_feed.2.1 92 = .ok (.getfield 105, 3) := by decide +kernel
theorem dX11_feed_95 : decode mX11_feed.2.1 95 = .ok (.ireturn, 1) := by decide +kernel
abbrev mX11_fits : gz_M := (yX11_fits, cX11_fits, 4, some .int)
theorem dX11_fits_0 : decode mX11_fits.2.1 0 = .ok (.aload_n 0, 1) := by decide +kernel
theorem dX11_fits_1 : decode mX11_fits.2.1 1 = .ok (.getfield 58, 3) := by decide +kernel
theorem dX11_fits_4 : decode mX11_fits.2.1 4 = .ok (.iload_n 1, 1) := by decide +kernel
theorem dX11_fits_5 : decode mX11_fits.2.1 5 = .ok (.invokevirtual 166, 3) := by decide +kernel
theorem dX11_fits_8 : decode mX11_fits.2.1 8 = .ok (.ifCond .ne 5, 3) := by decide +kernel
theorem dX11_fits_11 : decode mX11_fits.2.1 11 = .ok (.iconst (-1), 1) := by decide +kernel
theorem dX11_fits_12 : decode mX11_fits.2.1 12 = .ok (.ireturn, 1) := by decide +kernel
theorem dX11_fits_13 : decode mX11_fits.2.1 13 = .ok (.aload_n 0, 1) := by decide +kernel
theorem dX11_fits_14 : decode mX11_fits.2.1 14 = .ok (.getfield 90, 3) := by decide +kernel
theorem dX11_fits_17 : decode mX11_fits.2.1 17 = .ok (.iload_n 1, 1) := by decide +kernel
theorem dX11_fits_18 : decode mX11_fits.2.1 18 = .ok (.invokevirtual 320, 3) := by decide +kernel
theorem dX11_fits_21 : decode mX11_fits.2.1 21 = .ok (.istore_n 3, 1) := by decide +kernel
theorem dX11_fits_22 : decode mX11_fits.2.1 22 = .ok (.iload_n 2, 1) := by decide +kernel
theorem dX11_fits_23 : decode mX11_fits.2.1 23 = .ok (.iconst (-1), 1) := by decide +kernel
theorem dX11_fits_24 : decode mX11_fits.2.1 24 = .ok (.if_icmp .ne 10, 3) := by decide +kernel
theorem dX11_fits_27 : decode mX11_fits.2.1 27 = .ok (.iload_n 3, 1) := by decide +kernel
theorem dX11_fits_28 : decode mX11_fits.2.1 28 = .ok (.invokestatic 323, 3) := by decide +kernel
theorem dX11_fits_31 : decode mX11_fits.2.1 31 = .ok (.goto 12, 3) := by decide +kernel
theorem dX11_fits_34 : decode mX11_fits.2.1 34 = .ok (.aload_n 0, 1) := by decide +kernel
theorem dX11_fits_35 : decode mX11_fits.2.1 35 = .ok (.getfield 90, 3) := by decide +kernel
theorem dX11_fits_38 : decode mX11_fits.2.1 38 = .ok (.iload_n 3, 1) := by decide +kernel
theorem dX11_fits_39 : decode mX11_fits.2.1 39 = .ok (.iload_n 2, 1) := by decide +kernel
theorem dX11_fits_40 : decode mX11_fits.2.1 40 = .ok (.invokevirtual 328, 3) := by decide +kernel
theorem dX11_fits_43 : decode mX11_fits.2.1 43 = .ok (.ireturn, 1) := by decide +kernel
abbrev mX11_game : gz_M := (yX11_game, cX11_game, 6, some .int)
theorem dX11_game_0 : decode mX11_game.2.1 0 = .ok (.aload_n 0, 1) := by decide +kernel
theorem dX11_game_1 : decode mX11_game.2.1 1 = .ok (.getfield 58, 3) := by decide +kernel
theorem dX11_game_4 : decode mX11_game.2.1 4 = .ok (.iload_n 1, 1) := by decide +kernel
theorem dX11_game_5 : decode mX11_game.2.1 5 = .ok (.iload_n 2, 1) := by decide +kernel
theorem dX11_game_6 : decode mX11_game.2.1 6 = .ok (.invokevirtual 334, 3) := by decide +kernel
theorem dX11_game_9 : decode mX11_game.2.1 9 = .ok (.ifCond .eq 14, 3) := by decide +kernel
theorem dX11_game_12 : decode mX11_game.2.1 12 = .ok (.iload 5, 2) := by decide +kernel
theorem dX11_game_14 : decode mX11_game.2.1 14 = .ok (.ifCond .lt 9, 3) := by decide +kernel
theorem dX11_game_17 : decode mX11_game.2.1 17 = .ok (.iload 5, 2) := by decide +kernel
theorem dX11_game_19 : decode mX11_game.2.1 19 = .ok (.iconst 1, 1) := by decide +kernel
theorem dX11_game_20 : decode mX11_game.2.1 20 = .ok (.if_icmp .le 7, 3) := by decide +kernel
theorem dX11_game_23 : decode mX11_game.2.1 23 = .ok (.ldc_w 270, 3) := by decide +kernel
theorem dX11_game_26 : decode mX11_game.2.1 26 = .ok (.ireturn, 1) := by decide +kernel
theorem dX11_game_27 : decode mX11_game.2.1 27 = .ok (.iload_n 3, 1) := by decide +kernel
theorem dX11_game_28 : decode mX11_game.2.1 28 = .ok (.invokestatic 337, 3) := by decide +kernel
theorem dX11_game_31 : decode mX11_game.2.1 31 = .ok (.ifCond .eq 11, 3) := by decide +kernel
theorem dX11_game_34 : decode mX11_game.2.1 34 = .ok (.iload 4, 2) := by decide +kernel
theorem dX11_game_36 : decode mX11_game.2.1 36 = .ok (.invokestatic 337, 3) := by decide +kernel
theorem dX11_game_39 : decode mX11_game.2.1 39 = .ok (.ifCond .ne 7, 3) := by decide +kernel
theorem dX11_game_42 : decode mX11_game.2.1 42 = .ok (.ldc_w 270, 3) := by decide +kernel
theorem dX11_game_45 : decode mX11_game.2.1 45 = .ok (.ireturn, 1) := by decide +kernel
theorem dX11_game_46 : decode mX11_game.2.1 46 = .ok (.aload_n 0, 1) := by decide +kernel
theorem dX11_game_47 : decode mX11_game.2.1 47 = .ok (.getfield 83, 3) := by decide +kernel
theorem dX11_game_50 : decode mX11_game.2.1 50 = .ok (.iload_n 1, 1) := by decide +kernel
theorem dX11_game_51 : decode mX11_game.2.1 51 = .ok (.iload_n 2, 1) := by decide +kernel
theorem dX11_game_52 : decode mX11_game.2.1 52 = .ok (.iload_n 3, 1) := by decide +kernel
theorem dX11_game_53 : decode mX11_game.2.1 53 = .ok (.iload 4, 2) := by decide +kernel
theorem dX11_game_55 : decode mX11_game.2.1 55 = .ok (.invokevirtual 340, 3) := by decide +kernel
theorem dX11_game_58 : decode mX11_game.2.1 58 = .ok (.iload 5, 2) := by decide +kernel
theorem dX11_game_60 : decode mX11_game.2.1 60 = .ok (.ifCond .ne 13, 3) := by decide +kernel
theorem dX11_game_63 : decode mX11_game.2.1 63 = .ok (.aload_n 0, 1) := by decide +kernel
theorem dX11_game_64 : decode mX11_game.2.1 64 = .ok (.getfield 83, 3) := by decide +kernel
theorem dX11_game_67 : decode mX11_game.2.1 67 = .ok (.getfield 343, 3) := by decide +kernel
theorem dX11_game_70 : decode mX11_game.2.1 70 = .ok (.goto 10, 3) := by decide +kernel
theorem dX11_game_73 : decode mX11_game.2.1 73 = .ok (.aload_n 0, 1) := by decide +kernel
theorem dX11_game_74 : decode mX11_game.2.1 74 = .ok (.getfield 83, 3) := by decide +kernel
theorem dX11_game_77 : decode mX11_game.2.1 77 = .ok (.getfield 346, 3) := by decide +kernel
theorem dX11_game_80 : decode mX11_game.2.1 80 = .ok (.ireturn, 1) := by decide +kernel
abbrev mX11_give : gz_M := (yX11_give, cX11_give, 2, some .int)
theorem dX11_give_0 : decode mX11_give.2.1 0 = .ok (.aload_n 0, 1) := by decide +kernel
theorem dX11_give_1 : decode mX11_give.2.1 1 = .ok (.getfield 58, 3) := by decide +kernel
theorem dX11_give_4 : decode mX11_give.2.1 4 = .ok (.iload_n 1, 1) := by decide +kernel
theorem dX11_give_5 : decode mX11_give.2.1 5 = .ok (.invokevirtual 229, 3) := by decide +kernel
theorem dX11_give_8 : decode mX11_give.2.1 8 = .ok (.ifCond .ne 5, 3) := by decide +kernel
theorem dX11_give_11 : decode mX11_give.2.1 11 = .ok (.iconst (-1), 1) := by decide +kernel
theorem dX11_give_12 : decode mX11_give.2.1 12 = .ok (.ireturn, 1) := by decide +kernel
theorem dX11_give_13 : decode mX11_give.2.1 13 = .ok (.aload_n 0, 1) := by decide +kernel
theorem dX11_give_14 : decode mX11_give.2.1 14 = .ok (.getfield 74, 3) := by decide +kernel
theorem dX11_give_17 : decode mX11_give.2.1 17 = .ok (.aload_n 0, 1) := by decide +kernel
theorem dX11_give_18 : decode mX11_give.2.1 18 = .ok (.getfield 58, 3) := by decide +kernel
theorem dX11_give_21 : decode mX11_give.2.1 21 = .ok (.invokevirtual 189, 3) := by decide +kernel
theorem dX11_give_24 : decode mX11_give.2.1 24 = .ok (.aload_n 0, 1) := by decide +kernel
theorem dX11_give_25 : decode mX11_give.2.1 25 = .ok (.getfield 58, 3) := by decide +kernel
theorem dX11_give_28 : decode mX11_give.2.1 28 = .ok (.getfield 176, 3) := by decide +kernel
theorem dX11_give_31 : decode mX11_give.2.1 31 = .ok (.bipush 48, 2) := by decide +kernel
theorem dX11_give_33 : decode mX11_give.2.1 33 = .ok (.dup2, 1) := by decide +kernel
theorem dX11_give_34 : decode mX11_give.2.1 34 = .ok (.iaload, 1) := by decide +kernel
theorem dX11_give_35 : decode mX11_give.2.1 35 = .ok (.iload_n 1, 1) := by decide +kernel
theorem dX11_give_36 : decode mX11_give.2.1 36 = .ok (.iadd, 1) := by decide +kernel
theorem dX11_give_37 : decode mX11_give.2.1 37 = .ok (.iastore, 1) := by decide +kernel
theorem dX11_give_38 : decode mX11_give.2.1 38 = .ok (.aload_n 0, 1) := by decide +kernel
theorem dX11_give_39 : decode mX11_give.2.1 39 = .ok (.getfield 58, 3) := by decide +kernel
theorem dX11_give_42 : decode mX11_give.2.1 42 = .ok (.getfield 176, 3) := by decide +kernel
theorem dX11_give_45 : decode mX11_give.2.1 45 = .ok (.bipush 48, 2) := by decide +kernel
theorem dX11_give_47 : decode mX11_give.2.1 47 = .ok (.iaload, 1) := by decide +kernel
theorem dX11_give_48 : decode mX11_give.2.1 48 = .ok (.ireturn, 1) := by decide +kernel
abbrev mX11_hour : gz_M := (yX11_hour, cX11_hour, 1, some .int)
theorem dX11_hour_0 : decode mX11_hour.2.1 0 = .ok (.aload_n 0, 1) := by decide +kernel
theorem dX11_hour_1 : decode mX11_hour.2.1 1 = .ok (.getfield 58, 3) := by decide +kernel
theorem dX11_hour_4 : decode mX11_hour.2.1 4 = .ok (.invokevirtual 186, 3) := by decide +kernel
theorem dX11_hour_7 : decode mX11_hour.2.1 7 = .ok (.ifCond .ne 5, 3) := by decide +kernel
theorem dX11_hour_10 : decode mX11_hour.2.1 10 = .ok (.iconst (-1), 1) := by decide +kernel
theorem dX11_hour_11 : decode mX11_hour.2.1 11 = .ok (.ireturn, 1) := by decide +kernel
theorem dX11_hour_12 : decode mX11_hour.2.1 12 = .ok (.aload_n 0, 1) := by decide +kernel
theorem dX11_hour_13 : decode mX11_hour.2.1 13 = .ok (.getfield 74, 3) := by decide +kernel
theorem dX11_hour_16 : decode mX11_hour.2.1 16 = .ok (.aload_n 0, 1) := by decide +kernel
theorem dX11_hour_17 : decode mX11_hour.2.1 17 = .ok (.getfield 58, 3) := by decide +kernel
theorem dX11_hour_20 : decode mX11_hour.2.1 20 = .ok (.invokevirtual 189, 3) := by decide +kernel
theorem dX11_hour_23 : decode mX11_hour.2.1 23 = .ok (.aload_n 0, 1) := by decide +kernel
theorem dX11_hour_24 : decode mX11_hour.2.1 24 = .ok (.invokevirtual 192, 3) := by decide +kernel
theorem dX11_hour_27 : decode mX11_hour.2.1 27 = .ok (.ireturn, 1) := by decide +kernel
abbrev mX11_image : gz_M := (yX11_image, cX11_image, 1, some .int)
theorem dX11_image_0 : decode mX11_image.2.1 0 = .ok (.aload_n 0, 1) := by decide +kernel
theorem dX11_image_1 : decode mX11_image.2.1 1 = .ok (.getfield 58, 3) := by decide +kernel
theorem dX11_image_4 : decode mX11_image.2.1 4 = .ok (.invokevirtual 232, 3) := by decide +kernel
theorem dX11_image_7 : decode mX11_image.2.1 7 = .ok (.ifCond .ne 5, 3) := by decide +kernel
theorem dX11_image_10 : decode mX11_image.2.1 10 = .ok (.iconst (-1), 1) := by decide +kernel
theorem dX11_image_11 : decode mX11_image.2.1 11 = .ok (.ireturn, 1) := by decide +kernel
theorem dX11_image_12 : decode mX11_image.2.1 12 = .ok (.aload_n 0, 1) := by decide +kernel
theorem dX11_image_13 : decode mX11_image.2.1 13 = .ok (.getfield 74, 3) := by decide +kernel
theorem dX11_image_16 : decode mX11_image.2.1 16 = .ok (.aload_n 0, 1) := by decide +kernel
theorem dX11_image_17 : decode mX11_image.2.1 17 = .ok (.getfield 58, 3) := by decide +kernel
theorem dX11_image_20 : decode mX11_image.2.1 20 = .ok (.invokevirtual 387, 3) := by decide +kernel
theorem dX11_image_23 : decode mX11_image.2.1 23 = .ok (.aload_n 0, 1) := by decide +kernel
theorem dX11_image_24 : decode mX11_image.2.1 24 = .ok (.getfield 58, 3) := by decide +kernel
theorem dX11_image_27 : decode mX11_image.2.1 27 = .ok (.getfield 176, 3) := by decide +kernel
theorem dX11_image_30 : decode mX11_image.2.1 30 = .ok (.bipush 49, 2) := by decide +kernel
theorem dX11_image_32 : decode mX11_image.2.1 32 = .ok (.iaload, 1) := by decide +kernel
theorem dX11_image_33 : decode mX11_image.2.1 33 = .ok (.ireturn, 1) := by decide +kernel
abbrev mX11_law : gz_M := (yX11_law, cX11_law, 2, some .boolean)
theorem dX11_law_0 : decode mX11_law.2.1 0 = .ok (.iload_n 1, 1) := by decide +kernel
theorem dX11_law_1 : decode mX11_law.2.1 1 = .ok (.iconst (-1), 1) := by decide +kernel
theorem dX11_law_2 : decode mX11_law.2.1 2 = .ok (.if_icmp .lt 11, 3) := by decide +kernel
theorem dX11_law_5 : decode mX11_law.2.1 5 = .ok (.iload_n 1, 1) := by decide +kernel
theorem dX11_law_6 : decode mX11_law.2.1 6 = .ok (.aload_n 0, 1) := by decide +kernel
theorem dX11_law_7 : decode mX11_law.2.1 7 = .ok (.getfield 129, 3) := by decide +kernel
theorem dX11_law_10 : decode mX11_law.2.1 10 = .ok (.if_icmp .lt 5, 3) := by decide +kernel
theorem dX11_law_13 : decode mX11_law.2.1 13 = .ok (.iconst 0, 1) := by decide +kernel
theorem dX11_law_14 : decode mX11_law.2.1 14 = .ok (.ireturn, 1) := by decide +kernel
theorem dX11_law_15 : decode mX11_law.2.1 15 = .ok (.aload_n 0, 1) := by decide +kernel
theorem dX11_law_16 : decode mX11_law.2.1 16 = .ok (.iload_n 1, 1) := by decide +kernel
theorem dX11_law_17 : decode mX11_law.2.1 17 = .ok (.putfield 94, 3) := by decide +kernel
theorem dX11_law_20 : decode mX11_law.2.1 20 = .ok (.aload_n 0, 1) := by decide +kernel
theorem dX11_law_21 : decode mX11_law.2.1 21 = .ok (.getfield 67, 3) := by decide +kernel
theorem dX11_law_24 : decode mX11_law.2.1 24 = .ok (.iload_n 1, 1) := by decide +kernel
theorem dX11_law_25 : decode mX11_law.2.1 25 = .ok (.iconst (-1), 1) := by decide +kernel
theorem dX11_law_26 : decode mX11_law.2.1 26 = .ok (.if_icmp .ne 7, 3) := by decide +kernel
theorem dX11_law_29 : decode mX11_law.2.1 29 = .ok (.aconst_null, 1) := by decide +kernel
theorem dX11_law_30 : decode mX11_law.2.1 30 = .ok (.goto 9, 3) := by decide +kernel
theorem dX11_law_33 : decode mX11_law.2.1 33 = .ok (.aload_n 0, 1) := by decide +kernel
theorem dX11_law_34 : decode mX11_law.2.1 34 = .ok (.getfield 41, 3) := by decide +kernel
theorem dX11_law_37 : decode mX11_law.2.1 37 = .ok (.iload_n 1, 1) := by decide +kernel
theorem dX11_law_38 : decode mX11_law.2.1 38 = .ok (.aaload, 1) := by decide +kernel
theorem dX11_law_39 : decode mX11_law.2.1 39 = .ok (.putfield 182, 3) := by decide +kernel
theorem dX11_law_42 : decode mX11_law.2.1 42 = .ok (.iconst 1, 1) := by decide +kernel
theorem dX11_law_43 : decode mX11_law.2.1 43 = .ok (.ireturn, 1) := by decide +kernel
abbrev mX11_log : gz_M := (yX11_log, cX11_log, 3, some .int)
theorem dX11_log_0 : decode mX11_log.2.1 0 = .ok (.iload_n 1, 1) := by decide +kernel
theorem dX11_log_1 : decode mX11_log.2.1 1 = .ok (.ifCond .lt 23, 3) := by decide +kernel
theorem dX11_log_4 : decode mX11_log.2.1 4 = .ok (.iload_n 1, 1) := by decide +kernel
theorem dX11_log_5 : decode mX11_log.2.1 5 = .ok (.aload_n 0, 1) := by decide +kernel
theorem dX11_log_6 : decode mX11_log.2.1 6 = .ok (.getfield 58, 3) := by decide +kernel
theorem dX11_log_9 : decode mX11_log.2.1 9 = .ok (.invokestatic 256, 3) := by decide +kernel
theorem dX11_log_12 : decode mX11_log.2.1 12 = .ok (.if_icmp .ge 12, 3) := by decide +kernel
theorem dX11_log_15 : decode mX11_log.2.1 15 = .ok (.iload_n 2, 1) := by decide +kernel
theorem dX11_log_16 : decode mX11_log.2.1 16 = .ok (.ifCond .lt 8, 3) := by decide +kernel
theorem dX11_log_19 : decode mX11_log.2.1 19 = .ok (.iload_n 2, 1) := by decide +kernel
theorem dX11_log_20 : decode mX11_log.2.1 20 = .ok (.iconst 2, 1) := by decide +kernel
theorem dX11_log_21 : decode mX11_log.2.1 21 = .ok (.if_icmp .le 5, 3) := by decide +kernel
theorem dX11_log_24 : decode mX11_log.2.1 24 = .ok (.iconst (-1), 1) := by decide +kernel
theorem dX11_log_25 : decode mX11_log.2.1 25 = .ok (.ireturn, 1) := by decide +kernel
theorem dX11_log_26 : decode mX11_log.2.1 26 = .ok (.aload_n 0, 1) := by decide +kernel
theorem dX11_log_27 : decode mX11_log.2.1 27 = .ok (.getfield 74, 3) := by decide +kernel
theorem dX11_log_30 : decode mX11_log.2.1 30 = .ok (.aload_n 0, 1) := by decide +kernel
theorem dX11_log_31 : decode mX11_log.2.1 31 = .ok (.getfield 58, 3) := by decide +kernel
theorem dX11_log_34 : decode mX11_log.2.1 34 = .ok (.getfield 176, 3) := by decide +kernel
theorem dX11_log_37 : decode mX11_log.2.1 37 = .ok (.bipush 49, 2) := by decide +kernel
theorem dX11_log_39 : decode mX11_log.2.1 39 = .ok (.iaload, 1) := by decide +kernel
theorem dX11_log_40 : decode mX11_log.2.1 40 = .ok (.iconst 1, 1) := by decide +kernel
theorem dX11_log_41 : decode mX11_log.2.1 41 = .ok (.isub, 1) := by decide +kernel
theorem dX11_log_42 : decode mX11_log.2.1 42 = .ok (.iload_n 1, 1) := by decide +kernel
theorem dX11_log_43 : decode mX11_log.2.1 43 = .ok (.isub, 1) := by decide +kernel
theorem dX11_log_44 : decode mX11_log.2.1 44 = .ok (.iload_n 2, 1) := by decide +kernel
theorem dX11_log_45 : decode mX11_log.2.1 45 = .ok (.invokevirtual 259, 3) := by decide +kernel
theorem dX11_log_48 : decode mX11_log.2.1 48 = .ok (.ireturn, 1) := by decide +kernel
abbrev mX11_meet : gz_M := (yX11_meet, cX11_meet, 3, some .int)
theorem dX11_meet_0 : decode mX11_meet.2.1 0 = .ok (.aload_n 0, 1) := by decide +kernel
theorem dX11_meet_1 : decode mX11_meet.2.1 1 = .ok (.getfield 58, 3) := by decide +kernel
theorem dX11_meet_4 : decode mX11_meet.2.1 4 = .ok (.iload_n 1, 1) := by decide +kernel
theorem dX11_meet_5 : decode mX11_meet.2.1 5 = .ok (.iload_n 2, 1) := by decide +kernel
theorem dX11_meet_6 : decode mX11_meet.2.1 6 = .ok (.invokevirtual 288, 3) := by decide +kernel
theorem dX11_meet_9 : decode mX11_meet.2.1 9 = .ok (.ifCond .eq 15, 3) := by decide +kernel
theorem dX11_meet_12 : decode mX11_meet.2.1 12 = .ok (.aload_n 0, 1) := by decide +kernel
theorem dX11_meet_13 : decode mX11_meet.2.1 13 = .ok (.getfield 83, 3) := by decide +kernel
theorem dX11_meet_16 : decode mX11_meet.2.1 16 = .ok (.iload_n 1, 1) := by decide +kernel
theorem dX11_meet_17 : decode mX11_meet.2.1 17 = .ok (.iload_n 2, 1) := by decide +kernel
theorem dX11_meet_18 : decode mX11_meet.2.1 18 = .ok (.invokevirtual 291, 3) := by decide +kernel
theorem dX11_meet_21 : decode mX11_meet.2.1 21 = .ok (.goto 4, 3) := by decide +kernel
theorem dX11_meet_24 : decode mX11_meet.2.1 24 = .ok (.iconst (-1), 1) := by decide +kernel
theorem dX11_meet_25 : decode mX11_meet.2.1 25 = .ok (.ireturn, 1) := by decide +kernel
abbrev mX11_odds : gz_M := (yX11_odds, cX11_odds, 5, some .int)
theorem dX11_odds_0 : decode mX11_odds.2.1 0 = .ok (.aload_n 0, 1) := by decide +kernel
theorem dX11_odds_1 : decode mX11_odds.2.1 1 = .ok (.getfield 58, 3) := by decide +kernel
theorem dX11_odds_4 : decode mX11_odds.2.1 4 = .ok (.iload_n 1, 1) := by decide +kernel
theorem dX11_odds_5 : decode mX11_odds.2.1 5 = .ok (.invokevirtual 166, 3) := by decide +kernel
theorem dX11_odds_8 : decode mX11_odds.2.1 8 = .ok (.ifCond .eq 14, 3) := by decide +kernel
theorem dX11_odds_11 : decode mX11_odds.2.1 11 = .ok (.aload_n 0, 1) := by decide +kernel
theorem dX11_odds_12 : decode mX11_odds.2.1 12 = .ok (.getfield 58, 3) := by decide +kernel
theorem dX11_odds_15 : decode mX11_odds.2.1 15 = .ok (.iload_n 2, 1) := by decide +kernel
theorem dX11_odds_16 : decode mX11_odds.2.1 16 = .ok (.invokevirtual 156, 3) := by decide +kernel
theorem dX11_odds_19 : decode mX11_odds.2.1 19 = .ok (.ifCond .ne 5, 3) := by decide +kernel
theorem dX11_odds_22 : decode mX11_odds.2.1 22 = .ok (.iconst (-1), 1) := by decide +kernel
theorem dX11_odds_23 : decode mX11_odds.2.1 23 = .ok (.ireturn, 1) := by decide +kernel
theorem dX11_odds_24 : decode mX11_odds.2.1 24 = .ok (.iload_n 3, 1) := by decide +kernel
theorem dX11_odds_25 : decode mX11_odds.2.1 25 = .ok (.ifCond .lt 21, 3) := by decide +kernel
theorem dX11_odds_28 : decode mX11_odds.2.1 28 = .ok (.iload_n 3, 1) := by decide +kernel
theorem dX11_odds_29 : decode mX11_odds.2.1 29 = .ok (.bipush 6, 2) := by decide +kernel
theorem dX11_odds_31 : decode mX11_odds.2.1 31 = .ok (.if_icmp .gt 15, 3) := by decide +kernel
theorem dX11_odds_34 : decode mX11_odds.2.1 34 = .ok (.iload 4, 2) := by decide +kernel
theorem dX11_odds_36 : decode mX11_odds.2.1 36 = .ok (.ifCond .lt 10, 3) := by decide +kernel
theorem dX11_odds_39 : decode mX11_odds.2.1 39 = .ok (.iload 4, 2) := by decide +kernel
theorem dX11_odds_41 : decode mX11_odds.2.1 41 = .ok (.bipush 100, 2) := by decide +kernel
theorem dX11_odds_43 : decode mX11_odds.2.1 43 = .ok (.if_icmp .le 5, 3) := by decide +kernel
theorem dX11_odds_46 : decode mX11_odds.2.1 46 = .ok (.iconst (-1), 1) := by decide +kernel
theorem dX11_odds_47 : decode mX11_odds.2.1 47 = .ok (.ireturn, 1) := by decide +kernel
theorem dX11_odds_48 : decode mX11_odds.2.1 48 = .ok (.aload_n 0, 1) := by decide +kernel
theorem dX11_odds_49 : decode mX11_odds.2.1 49 = .ok (.getfield 83, 3) := by decide +kernel
theorem dX11_odds_52 : decode mX11_odds.2.1 52 = .ok (.iload_n 1, 1) := by decide +kernel
theorem dX11_odds_53 : decode mX11_odds.2.1 53 = .ok (.iload_n 2, 1) := by decide +kernel
theorem dX11_odds_54 : decode mX11_odds.2.1 54 = .ok (.iload_n 3, 1) := by decide +kernel
theorem dX11_odds_55 : decode mX11_odds.2.1 55 = .ok (.iload 4, 2) := by decide +kernel
theorem dX11_odds_57 : decode mX11_odds.2.1 57 = .ok (.invokevirtual 355, 3) := by decide +kernel
theorem dX11_odds_60 : decode mX11_odds.2.1 60 = .ok (.ireturn, 1) := by decide +kernel
abbrev mX11_passNow : gz_M := (yX11_passNow, cX11_passNow, 2, some .int)
theorem dX11_passNow_0 : decode mX11_passNow.2.1 0 = .ok (.aload_n 0, 1) := by decide +kernel
theorem dX11_passNow_1 : decode mX11_passNow.2.1 1 = .ok (.getfield 67, 3) := by decide +kernel
theorem dX11_passNow_4 : decode mX11_passNow.2.1 4 = .ok (.aload_n 0, 1) := by decide +kernel
theorem dX11_passNow_5 : decode mX11_passNow.2.1 5 = .ok (.getfield 58, 3) := by decide +kernel
theorem dX11_passNow_8 : decode mX11_passNow.2.1 8 = .ok (.invokevirtual 195, 3) := by decide +kernel
theorem dX11_passNow_11 : decode mX11_passNow.2.1 11 = .ok (.istore_n 1, 1) := by decide +kernel
theorem dX11_passNow_12 : decode mX11_passNow.2.1 12 = .ok (.aload_n 0, 1) := by decide +kernel
theorem dX11_passNow_13 : decode mX11_passNow.2.1 13 = .ok (.getfield 74, 3) := by decide +kernel
theorem dX11_passNow_16 : decode mX11_passNow.2.1 16 = .ok (.aload_n 0, 1) := by decide +kernel
theorem dX11_passNow_17 : decode mX11_passNow.2.1 17 = .ok (.getfield 58, 3) := by decide +kernel
theorem dX11_passNow_20 : decode mX11_passNow.2.1 20 = .ok (.getfield 176, 3) := by decide +kernel
theorem dX11_passNow_23 : decode mX11_passNow.2.1 23 = .ok (.bipush 49, 2) := by decide +kernel
theorem dX11_passNow_25 : decode mX11_passNow.2.1 25 = .ok (.iaload, 1) := by decide +kernel
theorem dX11_passNow_26 : decode mX11_passNow.2.1 26 = .ok (.iload_n 1, 1) := by decide +kernel
theorem dX11_passNow_27 : decode mX11_passNow.2.1 27 = .ok (.aload_n 0, 1) := by decide +kernel
theorem dX11_passNow_28 : decode mX11_passNow.2.1 28 = .ok (.getfield 67, 3) := by decide +kernel
theorem dX11_passNow_31 : decode mX11_passNow.2.1 31 = .ok (.getfield 199, 3) := by decide +kernel
theorem dX11_passNow_34 : decode mX11_passNow.2.1 34 = .ok (.aload_n 0, 1) := by decide +kernel
theorem dX11_passNow_35 : decode mX11_passNow.2.1 35 = .ok (.getfield 58, 3) := by decide +kernel
theorem dX11_passNow_38 : decode mX11_passNow.2.1 38 = .ok (.getfield 176, 3) := by decide +kernel
theorem dX11_passNow_41 : decode mX11_passNow.2.1 41 = .ok (.bipush 46, 2) := by decide +kernel
theorem dX11_passNow_43 : decode mX11_passNow.2.1 43 = .ok (.iaload, 1) := by decide +kernel
theorem dX11_passNow_44 : decode mX11_passNow.2.1 44 = .ok (.invokevirtual 202, 3) := by decide +kernel
theorem dX11_passNow_47 : decode mX11_passNow.2.1 47 = .ok (.iload_n 1, 1) := by decide +kernel
theorem dX11_passNow_48 : decode mX11_passNow.2.1 48 = .ok (.ireturn, 1) := by decide +kernel
abbrev mX11_perform : gz_M := (yX11_perform, cX11_perform, 4, some .int)
theorem dX11_perform_0 : decode mX11_perform.2.1 0 = .ok (.aload_n 0, 1) := by decide +kernel
theorem dX11_perform_1 : decode mX11_perform.2.1 1 = .ok (.iload_n 1, 1) := by decide +kernel
theorem dX11_perform_2 : decode mX11_perform.2.1 2 = .ok (.invokevirtual 263, 3) := by decide +kernel
theorem dX11_perform_5 : decode mX11_perform.2.1 5 = .ok (.astore_n 2, 1) := by decide +kernel
theorem dX11_perform_6 : decode mX11_perform.2.1 6 = .ok (.aload_n 2, 1) := by decide +kernel
theorem dX11_perform_7 : decode mX11_perform.2.1 7 = .ok (.ifnull 13, 3) := by decide +kernel
theorem dX11_perform_10 : decode mX11_perform.2.1 10 = .ok (.aload_n 0, 1) := by decide +kernel
theorem dX11_perform_11 : decode mX11_perform.2.1 11 = .ok (.getfield 58, 3) := by decide +kernel
theorem dX11_perform_14 : decode mX11_perform.2.1 14 = .ok (.invokevirtual 232, 3) := by decide +kernel
theorem dX11_perform_17 : decode mX11_perform.2.1 17 = .ok (.ifCond .ne 5, 3) := by decide +kernel
theorem dX11_perform_20 : decode mX11_perform.2.1 20 = .ok (.iconst (-1), 1) := by decide +kernel
theorem dX11_perform_21 : decode mX11_perform.2.1 21 = .ok (.ireturn, 1) := by decide +kernel
theorem dX11_perform_22 : decode mX11_perform.2.1 22 = .ok (.iconst 0, 1) := by decide +kernel
theorem dX11_perform_23 : decode mX11_perform.2.1 23 = .ok (.istore_n 3, 1) := by decide +kernel
theorem dX11_perform_24 : decode mX11_perform.2.1 24 = .ok (.iload_n 3, 1) := by decide +kernel
theorem dX11_perform_25 : decode mX11_perform.2.1 25 = .ok (.aload_n 2, 1) := by decide +kernel
theorem dX11_perform_26 : decode mX11_perform.2.1 26 = .ok (.getfield 267, 3) := by decide +kernel
theorem dX11_perform_29 : decode mX11_perform.2.1 29 = .ok (.if_icmp .ge 59, 3) := by decide +kernel
theorem dX11_perform_32 : decode mX11_perform.2.1 32 = .ok (.aload_n 2, 1) := by decide +kernel
theorem dX11_perform_33 : decode mX11_perform.2.1 33 = .ok (.iload_n 3, 1) := by decide +kernel
theorem dX11_perform_34 : decode mX11_perform.2.1 34 = .ok (.aload_n 0, 1) := by decide +kernel
theorem dX11_perform_35 : decode mX11_perform.2.1 35 = .ok (.getfield 58, 3) := by decide +kernel
theorem dX11_perform_38 : decode mX11_perform.2.1 38 = .ok (.invokevirtual 274, 3) := by decide +kernel
theorem dX11_perform_41 : decode mX11_perform.2.1 41 = .ok (.ifCond .ne 5, 3) := by decide +kernel
theorem dX11_perform_44 : decode mX11_perform.2.1 44 = .ok (.iload_n 3, 1) := by decide +kernel
theorem dX11_perform_45 : decode mX11_perform.2.1 45 = .ok (.ireturn, 1) := by decide +kernel
theorem dX11_perform_46 : decode mX11_perform.2.1 46 = .ok (.aload_n 0, 1) := by decide +kernel
theorem dX11_perform_47 : decode mX11_perform.2.1 47 = .ok (.getfield 74, 3) := by decide +kernel
theorem dX11_perform_50 : decode mX11_perform.2.1 50 = .ok (.aload_n 0, 1) := by decide +kernel
theorem dX11_perform_51 : decode mX11_perform.2.1 51 = .ok (.getfield 58, 3) := by decide +kernel
theorem dX11_perform_54 : decode mX11_perform.2.1 54 = .ok (.invokevirtual 189, 3) := by decide +kernel
theorem dX11_perform_57 : decode mX11_perform.2.1 57 = .ok (.aload_n 2, 1) := by decide +kernel
theorem dX11_perform_58 : decode mX11_perform.2.1 58 = .ok (.iload_n 3, 1) := by decide +kernel
theorem dX11_perform_59 : decode mX11_perform.2.1 59 = .ok (.invokevirtual 278, 3) := by decide +kernel
theorem dX11_perform_62 : decode mX11_perform.2.1 62 = .ok (.ifCond .eq 11, 3) := by decide +kernel
theorem dX11_perform_65 : decode mX11_perform.2.1 65 = .ok (.aload_n 0, 1) := by decide +kernel
theorem dX11_perform_66 : decode mX11_perform.2.1 66 = .ok (.invokevirtual 192, 3) := by decide +kernel
theorem dX11_perform_69 : decode mX11_perform.2.1 69 = .ok (.pop, 1) := by decide +kernel
theorem dX11_perform_70 : decode mX11_perform.2.1 70 = .ok (.goto 12, 3) := by decide +kernel
theorem dX11_perform_73 : decode mX11_perform.2.1 73 = .ok (.aload_n 2, 1) := by decide +kernel
theorem dX11_perform_74 : decode mX11_perform.2.1 74 = .ok (.iload_n 3, 1) := by decide +kernel
theorem dX11_perform_75 : decode mX11_perform.2.1 75 = .ok (.aload_n 0, 1) := by decide +kernel
theorem dX11_perform_76 : decode mX11_perform.2.1 76 = .ok (.getfield 58, 3) := by decide +kernel
theorem dX11_perform_79 : decode mX11_perform.2.1 79 = .ok (.invokevirtual 281, 3) := by decide +kernel
theorem dX11_perform_82 : decode mX11_perform.2.1 82 = .ok (.iinc 3 1, 3) := by decide +kernel
theorem dX11_perform_85 : decode mX11_perform.2.1 85 = .ok (.goto (-61), 3) := by decide +kernel
theorem dX11_perform_88 : decode mX11_perform.2.1 88 = .ok (.aload_n 2, 1) := by decide +kernel
theorem dX11_perform_89 : decode mX11_perform.2.1 89 = .ok (.getfield 267, 3) := by decide +kernel
theorem dX11_perform_92 : decode mX11_perform.2.1 92 = .ok (.ireturn, 1) := by decide +kernel
abbrev mX11_rests : gz_M := (yX11_rests, cX11_rests, 5, some .int)
theorem dX11_rests_0 : decode mX11_rests.2.1 0 = .ok (.aload_n 0, 1) := by decide +kernel
theorem dX11_rests_1 : decode mX11_rests.2.1 1 = .ok (.getfield 58, 3) := by decide +kernel
theorem dX11_rests_4 : decode mX11_rests.2.1 4 = .ok (.iload_n 1, 1) := by decide +kernel
theorem dX11_rests_5 : decode mX11_rests.2.1 5 = .ok (.iload_n 2, 1) := by decide +kernel
theorem dX11_rests_6 : decode mX11_rests.2.1 6 = .ok (.invokevirtual 334, 3) := by decide +kernel
theorem dX11_rests_9 : decode mX11_rests.2.1 9 = .ok (.ifCond .ne 5, 3) := by decide +kernel
theorem dX11_rests_12 : decode mX11_rests.2.1 12 = .ok (.iconst (-1), 1) := by decide +kernel
theorem dX11_rests_13 : decode mX11_rests.2.1 13 = .ok (.ireturn, 1) := by decide +kernel
theorem dX11_rests_14 : decode mX11_rests.2.1 14 = .ok (.aload_n 0, 1) := by decide +kernel
theorem dX11_rests_15 : decode mX11_rests.2.1 15 = .ok (.getfield 83, 3) := by decide +kernel
theorem dX11_rests_18 : decode mX11_rests.2.1 18 = .ok (.iload_n 1, 1) := by decide +kernel
theorem dX11_rests_19 : decode mX11_rests.2.1 19 = .ok (.iload_n 2, 1) := by decide +kernel
theorem dX11_rests_20 : decode mX11_rests.2.1 20 = .ok (.invokevirtual 349, 3) := by decide +kernel
theorem dX11_rests_23 : decode mX11_rests.2.1 23 = .ok (.istore 4, 2) := by decide +kernel
theorem dX11_rests_25 : decode mX11_rests.2.1 25 = .ok (.iload_n 3, 1) := by decide +kernel
theorem dX11_rests_26 : decode mX11_rests.2.1 26 = .ok (.iconst (-1), 1) := by decide +kernel
theorem dX11_rests_27 : decode mX11_rests.2.1 27 = .ok (.if_icmp .ne 11, 3) := by decide +kernel
theorem dX11_rests_30 : decode mX11_rests.2.1 30 = .ok (.iload 4, 2) := by decide +kernel
theorem dX11_rests_32 : decode mX11_rests.2.1 32 = .ok (.invokestatic 323, 3) := by decide +kernel
theorem dX11_rests_35 : decode mX11_rests.2.1 35 = .ok (.goto 13, 3) := by decide +kernel
theorem dX11_rests_38 : decode mX11_rests.2.1 38 = .ok (.aload_n 0, 1) := by decide +kernel
theorem dX11_rests_39 : decode mX11_rests.2.1 39 = .ok (.getfield 83, 3) := by decide +kernel
theorem dX11_rests_42 : decode mX11_rests.2.1 42 = .ok (.iload 4, 2) := by decide +kernel
theorem dX11_rests_44 : decode mX11_rests.2.1 44 = .ok (.iload_n 3, 1) := by decide +kernel
theorem dX11_rests_45 : decode mX11_rests.2.1 45 = .ok (.invokevirtual 352, 3) := by decide +kernel
theorem dX11_rests_48 : decode mX11_rests.2.1 48 = .ok (.ireturn, 1) := by decide +kernel
abbrev mX11_run : gz_M := (yX11_run, cX11_run, 6, some .int)
theorem dX11_run_0 : decode mX11_run.2.1 0 = .ok (.aload_n 0, 1) := by decide +kernel
theorem dX11_run_1 : decode mX11_run.2.1 1 = .ok (.iload_n 1, 1) := by decide +kernel
theorem dX11_run_2 : decode mX11_run.2.1 2 = .ok (.invokevirtual 263, 3) := by decide +kernel
theorem dX11_run_5 : decode mX11_run.2.1 5 = .ok (.astore_n 3, 1) := by decide +kernel
theorem dX11_run_6 : decode mX11_run.2.1 6 = .ok (.aload_n 3, 1) := by decide +kernel
theorem dX11_run_7 : decode mX11_run.2.1 7 = .ok (.ifnull 22, 3) := by decide +kernel
theorem dX11_run_10 : decode mX11_run.2.1 10 = .ok (.aload_n 0, 1) := by decide +kernel
theorem dX11_run_11 : decode mX11_run.2.1 11 = .ok (.getfield 58, 3) := by decide +kernel
theorem dX11_run_14 : decode mX11_run.2.1 14 = .ok (.invokevirtual 232, 3) := by decide +kernel
theorem dX11_run_17 : decode mX11_run.2.1 17 = .ok (.ifCond .eq 12, 3) := by decide +kernel
theorem dX11_run_20 : decode mX11_run.2.1 20 = .ok (.iload_n 2, 1) := by decide +kernel
theorem dX11_run_21 : decode mX11_run.2.1 21 = .ok (.ifCond .lt 8, 3) := by decide +kernel
theorem dX11_run_24 : decode mX11_run.2.1 24 = .ok (.iload_n 2, 1) := by decide +kernel
theorem dX11_run_25 : decode mX11_run.2.1 25 = .ok (.iconst 1, 1) := by decide +kernel
theorem dX11_run_26 : decode mX11_run.2.1 26 = .ok (.if_icmp .le 7, 3) := by decide +kernel
theorem dX11_run_29 : decode mX11_run.2.1 29 = .ok (.ldc_w 270, 3) := by decide +kernel
theorem dX11_run_32 : decode mX11_run.2.1 32 = .ok (.ireturn, 1) := by decide +kernel
theorem dX11_run_33 : decode mX11_run.2.1 33 = .ok (.aload_n 0, 1) := by decide +kernel
theorem dX11_run_34 : decode mX11_run.2.1 34 = .ok (.getfield 61, 3) := by decide +kernel
theorem dX11_run_37 : decode mX11_run.2.1 37 = .ok (.aload_n 0, 1) := by decide +kernel
theorem dX11_run_38 : decode mX11_run.2.1 38 = .ok (.getfield 58, 3) := by decide +kernel
theorem dX11_run_41 : decode mX11_run.2.1 41 = .ok (.invokevirtual 146, 3) := by decide +kernel
theorem dX11_run_44 : decode mX11_run.2.1 44 = .ok (.iconst 0, 1) := by decide +kernel
theorem dX11_run_45 : decode mX11_run.2.1 45 = .ok (.istore 4, 2) := by decide +kernel
theorem dX11_run_47 : decode mX11_run.2.1 47 = .ok (.iconst 0, 1) := by decide +kernel
theorem dX11_run_48 : decode mX11_run.2.1 48 = .ok (.istore 5, 2) := by decide +kernel
theorem dX11_run_50 : decode mX11_run.2.1 50 = .ok (.iload 5, 2) := by decide +kernel
theorem dX11_run_52 : decode mX11_run.2.1 52 = .ok (.aload_n 3, 1) := by decide +kernel
theorem dX11_run_53 : decode mX11_run.2.1 53 = .ok (.getfield 267, 3) := by decide +kernel
theorem dX11_run_56 : decode mX11_run.2.1 56 = .ok (.if_icmp .ge 72, 3) := by decide +kernel
theorem dX11_run_59 : decode mX11_run.2.1 59 = .ok (.aload_n 3, 1) := by decide +kernel
theorem dX11_run_60 : decode mX11_run.2.1 60 = .ok (.iload 5, 2) := by decide +kernel
theorem dX11_run_62 : decode mX11_run.2.1 62 = .ok (.aload_n 0, 1) := by decide +kernel
theorem dX11_run_63 : decode mX11_run.2.1 63 = .ok (.getfield 61, 3) := by decide +kernel
theorem dX11_run_66 : decode mX11_run.2.1 66 = .ok (.invokevirtual 274, 3) := by decide +kernel
theorem dX11_run_69 : decode mX11_run.2.1 69 = .ok (.ifCond .ne 15, 3) := by decide +kernel
theorem dX11_run_72 : decode mX11_run.2.1 72 = .ok (.iload_n 2, 1) := by decide +kernel
theorem dX11_run_73 : decode mX11_run.2.1 73 = .ok (.ifCond .ne 8, 3) := by decide +kernel
theorem dX11_run_76 : decode mX11_run.2.1 76 = .ok (.iload 5, 2) := by decide +kernel
theorem dX11_run_78 : decode mX11_run.2.1 78 = .ok (.goto 5, 3) := by decide +kernel
theorem dX11_run_81 : decode mX11_run.2.1 81 = .ok (.iload 4, 2) := by decide +kernel
theorem dX11_run_83 : decode mX11_run.2.1 83 = .ok (.ireturn, 1) := by decide +kernel
theorem dX11_run_84 : decode mX11_run.2.1 84 = .ok (.aload_n 3, 1) := by decide +kernel
theorem dX11_run_85 : decode mX11_run.2.1 85 = .ok (.iload 5, 2) := by decide +kernel
theorem dX11_run_87 : decode mX11_run.2.1 87 = .ok (.invokevirtual 278, 3) := by decide +kernel
theorem dX11_run_90 : decode mX11_run.2.1 90 = .ok (.ifCond .eq 22, 3) := by decide +kernel
theorem dX11_run_93 : decode mX11_run.2.1 93 = .ok (.iload 4, 2) := by decide +kernel
theorem dX11_run_95 : decode mX11_run.2.1 95 = .ok (.aload_n 0, 1) := by decide +kernel
theorem dX11_run_96 : decode mX11_run.2.1 96 = .ok (.getfield 67, 3) := by decide +kernel
theorem dX11_run_99 : decode mX11_run.2.1 99 = .ok (.aload_n 0, 1) := by decide +kernel
theorem dX11_run_100 : decode mX11_run.2.1 100 = .ok (.getfield 61, 3) := by decide +kernel
theorem dX11_run_103 : decode mX11_run.2.1 103 = .ok (.invokevirtual 195, 3) := by decide +kernel
theorem dX11_run_106 : decode mX11_run.2.1 106 = .ok (.iadd, 1) := by decide +kernel
theorem dX11_run_107 : decode mX11_run.2.1 107 = .ok (.istore 4, 2) := by decide +kernel
theorem dX11_run_109 : decode mX11_run.2.1 109 = .ok (.goto 13, 3) := by decide +kernel
theorem dX11_run_112 : decode mX11_run.2.1 112 = .ok (.aload_n 3, 1) := by decide +kernel
theorem dX11_run_113 : decode mX11_run.2.1 113 = .ok (.iload 5, 2) := by decide +kernel
theorem dX11_run_115 : decode mX11_run.2.1 115 = .ok (.aload_n 0, 1) := by decide +kernel
theorem dX11_run_116 : decode mX11_run.2.1 116 = .ok (.getfield 61, 3) := by decide +kernel
theorem dX11_run_119 : decode mX11_run.2.1 119 = .ok (.invokevirtual 281, 3) := by decide +kernel
theorem dX11_run_122 : decode mX11_run.2.1 122 = .ok (.iinc 5 1, 3) := by decide +kernel
theorem dX11_run_125 : decode mX11_run.2.1 125 = .ok (.goto (-75), 3) := by decide +kernel
theorem dX11_run_128 : decode mX11_run.2.1 128 = .ok (.iload_n 2, 1) := by decide +kernel
theorem dX11_run_129 : decode mX11_run.2.1 129 = .ok (.ifCond .ne 7, 3) := by decide +kernel
theorem dX11_run_132 : decode mX11_run.2.1 132 = .ok (.iconst (-1), 1) := by decide +kernel
theorem dX11_run_133 : decode mX11_run.2.1 133 = .ok (.goto 5, 3) := by decide +kernel
theorem dX11_run_136 : decode mX11_run.2.1 136 = .ok (.iload 4, 2) := by decide +kernel
theorem dX11_run_138 : decode mX11_run.2.1 138 = .ok (.ireturn, 1) := by decide +kernel
abbrev mX11_seen : gz_M := (yX11_seen, cX11_seen, 4, some .int)
theorem dX11_seen_0 : decode mX11_seen.2.1 0 = .ok (.aload_n 0, 1) := by decide +kernel
theorem dX11_seen_1 : decode mX11_seen.2.1 1 = .ok (.getfield 58, 3) := by decide +kernel
theorem dX11_seen_4 : decode mX11_seen.2.1 4 = .ok (.iload_n 1, 1) := by decide +kernel
theorem dX11_seen_5 : decode mX11_seen.2.1 5 = .ok (.invokevirtual 166, 3) := by decide +kernel
theorem dX11_seen_8 : decode mX11_seen.2.1 8 = .ok (.ifCond .eq 24, 3) := by decide +kernel
theorem dX11_seen_11 : decode mX11_seen.2.1 11 = .ok (.aload_n 0, 1) := by decide +kernel
theorem dX11_seen_12 : decode mX11_seen.2.1 12 = .ok (.getfield 58, 3) := by decide +kernel
theorem dX11_seen_15 : decode mX11_seen.2.1 15 = .ok (.iload_n 3, 1) := by decide +kernel
theorem dX11_seen_16 : decode mX11_seen.2.1 16 = .ok (.invokevirtual 156, 3) := by decide +kernel
theorem dX11_seen_19 : decode mX11_seen.2.1 19 = .ok (.ifCond .eq 13, 3) := by decide +kernel
theorem dX11_seen_22 : decode mX11_seen.2.1 22 = .ok (.iload_n 2, 1) := by decide +kernel
theorem dX11_seen_23 : decode mX11_seen.2.1 23 = .ok (.ifCond .lt 9, 3) := by decide +kernel
theorem dX11_seen_26 : decode mX11_seen.2.1 26 = .ok (.iload_n 2, 1) := by decide +kernel
theorem dX11_seen_27 : decode mX11_seen.2.1 27 = .ok (.bipush 30, 2) := by decide +kernel
theorem dX11_seen_29 : decode mX11_seen.2.1 29 = .ok (.if_icmp .le 5, 3) := by decide +kernel
theorem dX11_seen_32 : decode mX11_seen.2.1 32 = .ok (.iconst (-1), 1) := by decide +kernel
theorem dX11_seen_33 : decode mX11_seen.2.1 33 = .ok (.ireturn, 1) := by decide +kernel
theorem dX11_seen_34 : decode mX11_seen.2.1 34 = .ok (.aload_n 0, 1) := by decide +kernel
theorem dX11_seen_35 : decode mX11_seen.2.1 35 = .ok (.getfield 90, 3) := by decide +kernel
theorem dX11_seen_38 : decode mX11_seen.2.1 38 = .ok (.iload_n 1, 1) := by decide +kernel
theorem dX11_seen_39 : decode mX11_seen.2.1 39 = .ok (.iload_n 2, 1) := by decide +kernel
theorem dX11_seen_40 : decode mX11_seen.2.1 40 = .ok (.iload_n 3, 1) := by decide +kernel
theorem dX11_seen_41 : decode mX11_seen.2.1 41 = .ok (.invokevirtual 317, 3) := by decide +kernel
theorem dX11_seen_44 : decode mX11_seen.2.1 44 = .ok (.ifCond .eq 13, 3) := by decide +kernel
theorem dX11_seen_47 : decode mX11_seen.2.1 47 = .ok (.aload_n 0, 1) := by decide +kernel
theorem dX11_seen_48 : decode mX11_seen.2.1 48 = .ok (.getfield 90, 3) := by decide +kernel
theorem dX11_seen_51 : decode mX11_seen.2.1 51 = .ok (.getfield 319, 3) := by decide +kernel
theorem dX11_seen_54 : decode mX11_seen.2.1 54 = .ok (.goto 4, 3) := by decide +kernel
theorem dX11_seen_57 : decode mX11_seen.2.1 57 = .ok (.iconst (-1), 1) := by decide +kernel
theorem dX11_seen_58 : decode mX11_seen.2.1 58 = .ok (.ireturn, 1) := by decide +kernel
abbrev mX11_shares : gz_M := (yX11_shares, cX11_shares, 4, some .int)
theorem dX11_shares_0 : decode mX11_shares.2.1 0 = .ok (.aload_n 0, 1) := by decide +kernel
theorem dX11_shares_1 : decode mX11_shares.2.1 1 = .ok (.getfield 58, 3) := by decide +kernel
theorem dX11_shares_4 : decode mX11_shares.2.1 4 = .ok (.iload_n 1, 1) := by decide +kernel
theorem dX11_shares_5 : decode mX11_shares.2.1 5 = .ok (.invokevirtual 166, 3) := by decide +kernel
theorem dX11_shares_8 : decode mX11_shares.2.1 8 = .ok (.ifCond .eq 14, 3) := by decide +kernel
theorem dX11_shares_11 : decode mX11_shares.2.1 11 = .ok (.iload_n 2, 1) := by decide +kernel
theorem dX11_shares_12 : decode mX11_shares.2.1 12 = .ok (.ifCond .lt 10, 3) := by decide +kernel
theorem dX11_shares_15 : decode mX11_shares.2.1 15 = .ok (.iload_n 2, 1) := by decide +kernel
theorem dX11_shares_16 : decode mX11_shares.2.1 16 = .ok (.sipush 999, 3) := by decide +kernel
theorem dX11_shares_19 : decode mX11_shares.2.1 19 = .ok (.if_icmp .le 5, 3) := by decide +kernel
theorem dX11_shares_22 : decode mX11_shares.2.1 22 = .ok (.iconst (-1), 1) := by decide +kernel
theorem dX11_shares_23 : decode mX11_shares.2.1 23 = .ok (.ireturn, 1) := by decide +kernel
theorem dX11_shares_24 : decode mX11_shares.2.1 24 = .ok (.aload_n 0, 1) := by decide +kernel
theorem dX11_shares_25 : decode mX11_shares.2.1 25 = .ok (.getfield 58, 3) := by decide +kernel
theorem dX11_shares_28 : decode mX11_shares.2.1 28 = .ok (.invokevirtual 359, 3) := by decide +kernel
theorem dX11_shares_31 : decode mX11_shares.2.1 31 = .ok (.istore_n 3, 1) := by decide +kernel
theorem dX11_shares_32 : decode mX11_shares.2.1 32 = .ok (.iload_n 3, 1) := by decide +kernel
theorem dX11_shares_33 : decode mX11_shares.2.1 33 = .ok (.iconst 1, 1) := by decide +kernel
theorem dX11_shares_34 : decode mX11_shares.2.1 34 = .ok (.if_icmp .ge 7, 3) := by decide +kernel
theorem dX11_shares_37 : decode mX11_shares.2.1 37 = .ok (.iconst 0, 1) := by decide +kernel
theorem dX11_shares_38 : decode mX11_shares.2.1 38 = .ok (.goto 19, 3) := by decide +kernel
theorem dX11_shares_41 : decode mX11_shares.2.1 41 = .ok (.iload_n 2, 1) := by decide +kernel
theorem dX11_shares_42 : decode mX11_shares.2.1 42 = .ok (.aload_n 0, 1) := by decide +kernel
theorem dX11_shares_43 : decode mX11_shares.2.1 43 = .ok (.getfield 58, 3) := by decide +kernel
theorem dX11_shares_46 : decode mX11_shares.2.1 46 = .ok (.getfield 176, 3) := by decide +kernel
theorem dX11_shares_49 : decode mX11_shares.2.1 49 = .ok (.bipush 38, 2) := by decide +kernel
theorem dX11_shares_51 : decode mX11_shares.2.1 51 = .ok (.iload_n 1, 1) := by decide +kernel
theorem dX11_shares_52 : decode mX11_shares.2.1 52 = .ok (.iadd, 1) := by decide +kernel
theorem dX11_shares_53 : decode mX11_shares.2.1 53 = .ok (.iaload, 1) := by decide +kernel
theorem dX11_shares_54 : decode mX11_shares.2.1 54 = .ok (.imul, 1) := by decide +kernel
theorem dX11_shares_55 : decode mX11_shares.2.1 55 = .ok (.iload_n 3, 1) := by decide +kernel
theorem dX11_shares_56 : decode mX11_shares.2.1 56 = .ok (.idiv, 1) := by decide +kernel
theorem dX11_shares_57 : decode mX11_shares.2.1 57 = .ok (.ireturn, 1) := by decide +kernel
abbrev mX11_shore : gz_M := (yX11_shore, cX11_shore, 3, some .int)
theorem dX11_shore_0 : decode mX11_shore.2.1 0 = .ok (.aload_n 0, 1) := by decide +kernel
theorem dX11_shore_1 : decode mX11_shore.2.1 1 = .ok (.getfield 58, 3) := by decide +kernel
theorem dX11_shore_4 : decode mX11_shore.2.1 4 = .ok (.iload_n 1, 1) := by decide +kernel
theorem dX11_shore_5 : decode mX11_shore.2.1 5 = .ok (.invokevirtual 156, 3) := by decide +kernel
theorem dX11_shore_8 : decode mX11_shore.2.1 8 = .ok (.ifCond .ne 5, 3) := by decide +kernel
theorem dX11_shore_11 : decode mX11_shore.2.1 11 = .ok (.iconst (-1), 1) := by decide +kernel
theorem dX11_shore_12 : decode mX11_shore.2.1 12 = .ok (.ireturn, 1) := by decide +kernel
theorem dX11_shore_13 : decode mX11_shore.2.1 13 = .ok (.iload_n 2, 1) := by decide +kernel
theorem dX11_shore_14 : decode mX11_shore.2.1 14 = .ok (.ifCond .ne 12, 3) := by decide +kernel
theorem dX11_shore_17 : decode mX11_shore.2.1 17 = .ok (.aload_n 0, 1) := by decide +kernel
theorem dX11_shore_18 : decode mX11_shore.2.1 18 = .ok (.getfield 58, 3) := by decide +kernel
theorem dX11_shore_21 : decode mX11_shore.2.1 21 = .ok (.iload_n 1, 1) := by decide +kernel
theorem dX11_shore_22 : decode mX11_shore.2.1 22 = .ok (.invokevirtual 160, 3) := by decide +kernel
theorem dX11_shore_25 : decode mX11_shore.2.1 25 = .ok (.ireturn, 1) := by decide +kernel
theorem dX11_shore_26 : decode mX11_shore.2.1 26 = .ok (.iload_n 2, 1) := by decide +kernel
theorem dX11_shore_27 : decode mX11_shore.2.1 27 = .ok (.iconst 1, 1) := by decide +kernel
theorem dX11_shore_28 : decode mX11_shore.2.1 28 = .ok (.if_icmp .ne 20, 3) := by decide +kernel
theorem dX11_shore_31 : decode mX11_shore.2.1 31 = .ok (.aload_n 0, 1) := by decide +kernel
theorem dX11_shore_32 : decode mX11_shore.2.1 32 = .ok (.getfield 58, 3) := by decide +kernel
theorem dX11_shore_35 : decode mX11_shore.2.1 35 = .ok (.iload_n 1, 1) := by decide +kernel
theorem dX11_shore_36 : decode mX11_shore.2.1 36 = .ok (.invokevirtual 163, 3) := by decide +kernel
theorem dX11_shore_39 : decode mX11_shore.2.1 39 = .ok (.ifCond .eq 7, 3) := by decide +kernel
theorem dX11_shore_42 : decode mX11_shore.2.1 42 = .ok (.iconst 1, 1) := by decide +kernel
theorem dX11_shore_43 : decode mX11_shore.2.1 43 = .ok (.goto 4, 3) := by decide +kernel
theorem dX11_shore_46 : decode mX11_shore.2.1 46 = .ok (.iconst 0, 1) := by decide +kernel
theorem dX11_shore_47 : decode mX11_shore.2.1 47 = .ok (.ireturn, 1) := by decide +kernel
theorem dX11_shore_48 : decode mX11_shore.2.1 48 = .ok (.iconst (-1), 1) := by decide +kernel
theorem dX11_shore_49 : decode mX11_shore.2.1 49 = .ok (.ireturn, 1) := by decide +kernel
abbrev mX11_step : gz_M := (yX11_step, cX11_step, 5, some .int)
theorem dX11_step_0 : decode mX11_step.2.1 0 = .ok (.aload_n 0, 1) := by decide +kernel
theorem dX11_step_1 : decode mX11_step.2.1 1 = .ok (.iload_n 1, 1) := by decide +kernel
theorem dX11_step_2 : decode mX11_step.2.1 2 = .ok (.invokevirtual 263, 3) := by decide +kernel
theorem dX11_step_5 : decode mX11_step.2.1 5 = .ok (.astore 4, 2) := by decide +kernel
theorem dX11_step_7 : decode mX11_step.2.1 7 = .ok (.aload 4, 2) := by decide +kernel
theorem dX11_step_9 : decode mX11_step.2.1 9 = .ok (.ifnull 25, 3) := by decide +kernel
theorem dX11_step_12 : decode mX11_step.2.1 12 = .ok (.iload_n 2, 1) := by decide +kernel
theorem dX11_step_13 : decode mX11_step.2.1 13 = .ok (.ifCond .lt 21, 3) := by decide +kernel
theorem dX11_step_16 : decode mX11_step.2.1 16 = .ok (.iload_n 2, 1) := by decide +kernel
theorem dX11_step_17 : decode mX11_step.2.1 17 = .ok (.aload 4, 2) := by decide +kernel
theorem dX11_step_19 : decode mX11_step.2.1 19 = .ok (.getfield 267, 3) := by decide +kernel
theorem dX11_step_22 : decode mX11_step.2.1 22 = .ok (.if_icmp .ge 12, 3) := by decide +kernel
theorem dX11_step_25 : decode mX11_step.2.1 25 = .ok (.iload_n 3, 1) := by decide +kernel
theorem dX11_step_26 : decode mX11_step.2.1 26 = .ok (.ifCond .lt 8, 3) := by decide +kernel
theorem dX11_step_29 : decode mX11_step.2.1 29 = .ok (.iload_n 3, 1) := by decide +kernel
theorem dX11_step_30 : decode mX11_step.2.1 30 = .ok (.iconst 2, 1) := by decide +kernel
theorem dX11_step_31 : decode mX11_step.2.1 31 = .ok (.if_icmp .le 7, 3) := by decide +kernel
theorem dX11_step_34 : decode mX11_step.2.1 34 = .ok (.ldc_w 270, 3) := by decide +kernel
theorem dX11_step_37 : decode mX11_step.2.1 37 = .ok (.ireturn, 1) := by decide +kernel
theorem dX11_step_38 : decode mX11_step.2.1 38 = .ok (.aload 4, 2) := by decide +kernel
theorem dX11_step_40 : decode mX11_step.2.1 40 = .ok (.iload_n 2, 1) := by decide +kernel
theorem dX11_step_41 : decode mX11_step.2.1 41 = .ok (.iload_n 3, 1) := by decide +kernel
theorem dX11_step_42 : decode mX11_step.2.1 42 = .ok (.invokevirtual 271, 3) := by decide +kernel
theorem dX11_step_45 : decode mX11_step.2.1 45 = .ok (.ireturn, 1) := by decide +kernel
abbrev mX11_stone : gz_M := (yX11_stone, cX11_stone, 2, some .int)
theorem dX11_stone_0 : decode mX11_stone.2.1 0 = .ok (.aload_n 0, 1) := by decide +kernel
theorem dX11_stone_1 : decode mX11_stone.2.1 1 = .ok (.getfield 58, 3) := by decide +kernel
theorem dX11_stone_4 : decode mX11_stone.2.1 4 = .ok (.iload_n 1, 1) := by decide +kernel
theorem dX11_stone_5 : decode mX11_stone.2.1 5 = .ok (.invokevirtual 209, 3) := by decide +kernel
theorem dX11_stone_8 : decode mX11_stone.2.1 8 = .ok (.ifCond .ne 5, 3) := by decide +kernel
theorem dX11_stone_11 : decode mX11_stone.2.1 11 = .ok (.iconst (-1), 1) := by decide +kernel
theorem dX11_stone_12 : decode mX11_stone.2.1 12 = .ok (.ireturn, 1) := by decide +kernel
theorem dX11_stone_13 : decode mX11_stone.2.1 13 = .ok (.aload_n 0, 1) := by decide +kernel
theorem dX11_stone_14 : decode mX11_stone.2.1 14 = .ok (.getfield 74, 3) := by decide +kernel
theorem dX11_stone_17 : decode mX11_stone.2.1 17 = .ok (.aload_n 0, 1) := by decide +kernel
theorem dX11_stone_18 : decode mX11_stone.2.1 18 = .ok (.getfield 58, 3) := by decide +kernel
theorem dX11_stone_21 : decode mX11_stone.2.1 21 = .ok (.invokevirtual 189, 3) := by decide +kernel
theorem dX11_stone_24 : decode mX11_stone.2.1 24 = .ok (.aload_n 0, 1) := by decide +kernel
theorem dX11_stone_25 : decode mX11_stone.2.1 25 = .ok (.getfield 58, 3) := by decide +kernel
theorem dX11_stone_28 : decode mX11_stone.2.1 28 = .ok (.iload_n 1, 1) := by decide +kernel
theorem dX11_stone_29 : decode mX11_stone.2.1 29 = .ok (.invokevirtual 212, 3) := by decide +kernel
theorem dX11_stone_32 : decode mX11_stone.2.1 32 = .ok (.aload_n 0, 1) := by decide +kernel
theorem dX11_stone_33 : decode mX11_stone.2.1 33 = .ok (.getfield 58, 3) := by decide +kernel
theorem dX11_stone_36 : decode mX11_stone.2.1 36 = .ok (.iload_n 1, 1) := by decide +kernel
theorem dX11_stone_37 : decode mX11_stone.2.1 37 = .ok (.invokevirtual 160, 3) := by decide +kernel
theorem dX11_stone_40 : decode mX11_stone.2.1 40 = .ok (.ireturn, 1) := by decide +kernel
abbrev mX11_stones : gz_M := (yX11_stones, cX11_stones, 7, some .int)
theorem dX11_stones_0 : decode mX11_stones.2.1 0 = .ok (.aload_n 0, 1) := by decide +kernel
theorem dX11_stones_1 : decode mX11_stones.2.1 1 = .ok (.getfield 58, 3) := by decide +kernel
theorem dX11_stones_4 : decode mX11_stones.2.1 4 = .ok (.iload_n 1, 1) := by decide +kernel
theorem dX11_stones_5 : decode mX11_stones.2.1 5 = .ok (.iload_n 2, 1) := by decide +kernel
theorem dX11_stones_6 : decode mX11_stones.2.1 6 = .ok (.invokevirtual 288, 3) := by decide +kernel
theorem dX11_stones_9 : decode mX11_stones.2.1 9 = .ok (.ifCond .eq 25, 3) := by decide +kernel
theorem dX11_stones_12 : decode mX11_stones.2.1 12 = .ok (.iload_n 3, 1) := by decide +kernel
theorem dX11_stones_13 : decode mX11_stones.2.1 13 = .ok (.iconst 1, 1) := by decide +kernel
theorem dX11_stones_14 : decode mX11_stones.2.1 14 = .ok (.if_icmp .lt 20, 3) := by decide +kernel
theorem dX11_stones_17 : decode mX11_stones.2.1 17 = .ok (.iload_n 3, 1) := by decide +kernel
theorem dX11_stones_18 : decode mX11_stones.2.1 18 = .ok (.bipush 20, 2) := by decide +kernel
theorem dX11_stones_20 : decode mX11_stones.2.1 20 = .ok (.if_icmp .gt 14, 3) := by decide +kernel
theorem dX11_stones_23 : decode mX11_stones.2.1 23 = .ok (.iload 4, 2) := by decide +kernel
theorem dX11_stones_25 : decode mX11_stones.2.1 25 = .ok (.ifCond .lt 9, 3) := by decide +kernel
theorem dX11_stones_28 : decode mX11_stones.2.1 28 = .ok (.iload 4, 2) := by decide +kernel
theorem dX11_stones_30 : decode mX11_stones.2.1 30 = .ok (.iconst 1, 1) := by decide +kernel
theorem dX11_stones_31 : decode mX11_stones.2.1 31 = .ok (.if_icmp .le 5, 3) := by decide +kernel
theorem dX11_stones_34 : decode mX11_stones.2.1 34 = .ok (.iconst (-1), 1) := by decide +kernel
theorem dX11_stones_35 : decode mX11_stones.2.1 35 = .ok (.ireturn, 1) := by decide +kernel
theorem dX11_stones_36 : decode mX11_stones.2.1 36 = .ok (.aload_n 0, 1) := by decide +kernel
theorem dX11_stones_37 : decode mX11_stones.2.1 37 = .ok (.getfield 83, 3) := by decide +kernel
theorem dX11_stones_40 : decode mX11_stones.2.1 40 = .ok (.iload_n 1, 1) := by decide +kernel
theorem dX11_stones_41 : decode mX11_stones.2.1 41 = .ok (.iload_n 2, 1) := by decide +kernel
theorem dX11_stones_42 : decode mX11_stones.2.1 42 = .ok (.iload_n 3, 1) := by decide +kernel
theorem dX11_stones_43 : decode mX11_stones.2.1 43 = .ok (.invokevirtual 306, 3) := by decide +kernel
theorem dX11_stones_46 : decode mX11_stones.2.1 46 = .ok (.ifCond .eq 14, 3) := by decide +kernel
theorem dX11_stones_49 : decode mX11_stones.2.1 49 = .ok (.iload 4, 2) := by decide +kernel
theorem dX11_stones_51 : decode mX11_stones.2.1 51 = .ok (.ifCond .ne 7, 3) := by decide +kernel
theorem dX11_stones_54 : decode mX11_stones.2.1 54 = .ok (.iconst 0, 1) := by decide +kernel
theorem dX11_stones_55 : decode mX11_stones.2.1 55 = .ok (.goto 4, 3) := by decide +kernel
theorem dX11_stones_58 : decode mX11_stones.2.1 58 = .ok (.iconst (-1), 1) := by decide +kernel
theorem dX11_stones_59 : decode mX11_stones.2.1 59 = .ok (.ireturn, 1) := by decide +kernel
theorem dX11_stones_60 : decode mX11_stones.2.1 60 = .ok (.aload_n 0, 1) := by decide +kernel
theorem dX11_stones_61 : decode mX11_stones.2.1 61 = .ok (.getfield 83, 3) := by decide +kernel
theorem dX11_stones_64 : decode mX11_stones.2.1 64 = .ok (.iload_n 1, 1) := by decide +kernel
theorem dX11_stones_65 : decode mX11_stones.2.1 65 = .ok (.iload_n 2, 1) := by decide +kernel
theorem dX11_stones_66 : decode mX11_stones.2.1 66 = .ok (.iload_n 3, 1) := by decide +kernel
theorem dX11_stones_67 : decode mX11_stones.2.1 67 = .ok (.invokevirtual 310, 3) := by decide +kernel
theorem dX11_stones_70 : decode mX11_stones.2.1 70 = .ok (.istore 5, 2) := by decide +kernel
theorem dX11_stones_72 : decode mX11_stones.2.1 72 = .ok (.iconst 1, 1) := by decide +kernel
theorem dX11_stones_73 : decode mX11_stones.2.1 73 = .ok (.istore 6, 2) := by decide +kernel
theorem dX11_stones_75 : decode mX11_stones.2.1 75 = .ok (.iload 5, 2) := by decide +kernel
theorem dX11_stones_77 : decode mX11_stones.2.1 77 = .ok (.iconst (-1), 1) := by decide +kernel
theorem dX11_stones_78 : decode mX11_stones.2.1 78 = .ok (.if_icmp .ne 18, 3) := by decide +kernel
theorem dX11_stones_81 : decode mX11_stones.2.1 81 = .ok (.aload_n 0, 1) := by decide +kernel
theorem dX11_stones_82 : decode mX11_stones.2.1 82 = .ok (.getfield 83, 3) := by decide +kernel
theorem dX11_stones_85 : decode mX11_stones.2.1 85 = .ok (.iload_n 1, 1) := by decide +kernel
theorem dX11_stones_86 : decode mX11_stones.2.1 86 = .ok (.iload_n 2, 1) := by decide +kernel
theorem dX11_stones_87 : decode mX11_stones.2.1 87 = .ok (.iload_n 3, 1) := by decide +kernel
theorem dX11_stones_88 : decode mX11_stones.2.1 88 = .ok (.invokevirtual 314, 3) := by decide +kernel
theorem dX11_stones_91 : decode mX11_stones.2.1 91 = .ok (.istore 5, 2) := by decide +kernel
theorem dX11_stones_93 : decode mX11_stones.2.1 93 = .ok (.iconst 2, 1) := by decide +kernel
theorem dX11_stones_94 : decode mX11_stones.2.1 94 = .ok (.istore 6, 2) := by decide +kernel
theorem dX11_stones_96 : decode mX11_stones.2.1 96 = .ok (.iload 4, 2) := by decide +kernel
theorem dX11_stones_98 : decode mX11_stones.2.1 98 = .ok (.iconst 1, 1) := by decide +kernel
theorem dX11_stones_99 : decode mX11_stones.2.1 99 = .ok (.if_icmp .eq 9, 3) := by decide +kernel
theorem dX11_stones_102 : decode mX11_stones.2.1 102 = .ok (.iload 5, 2) := by decide +kernel
theorem dX11_stones_104 : decode mX11_stones.2.1 104 = .ok (.iconst (-1), 1) := by decide +kernel
theorem dX11_stones_105 : decode mX11_stones.2.1 105 = .ok (.if_icmp .ne 8, 3) := by decide +kernel
theorem dX11_stones_108 : decode mX11_stones.2.1 108 = .ok (.iload 5, 2) := by decide +kernel
theorem dX11_stones_110 : decode mX11_stones.2.1 110 = .ok (.goto 5, 3) := by decide +kernel
theorem dX11_stones_113 : decode mX11_stones.2.1 113 = .ok (.iload 6, 2) := by decide +kernel
theorem dX11_stones_115 : decode mX11_stones.2.1 115 = .ok (.ireturn, 1) := by decide +kernel
abbrev mX11_sweep : gz_M := (yX11_sweep, cX11_sweep, 2, some .int)
theorem dX11_sweep_0 : decode mX11_sweep.2.1 0 = .ok (.aload_n 0, 1) := by decide +kernel
theorem dX11_sweep_1 : decode mX11_sweep.2.1 1 = .ok (.getfield 58, 3) := by decide +kernel
theorem dX11_sweep_4 : decode mX11_sweep.2.1 4 = .ok (.iload_n 1, 1) := by decide +kernel
theorem dX11_sweep_5 : decode mX11_sweep.2.1 5 = .ok (.invokevirtual 215, 3) := by decide +kernel
theorem dX11_sweep_8 : decode mX11_sweep.2.1 8 = .ok (.ifCond .ne 5, 3) := by decide +kernel
theorem dX11_sweep_11 : decode mX11_sweep.2.1 11 = .ok (.iconst (-1), 1) := by decide +kernel
theorem dX11_sweep_12 : decode mX11_sweep.2.1 12 = .ok (.ireturn, 1) := by decide +kernel
theorem dX11_sweep_13 : decode mX11_sweep.2.1 13 = .ok (.aload_n 0, 1) := by decide +kernel
theorem dX11_sweep_14 : decode mX11_sweep.2.1 14 = .ok (.getfield 74, 3) := by decide +kernel
theorem dX11_sweep_17 : decode mX11_sweep.2.1 17 = .ok (.aload_n 0, 1) := by decide +kernel
theorem dX11_sweep_18 : decode mX11_sweep.2.1 18 = .ok (.getfield 58, 3) := by decide +kernel
theorem dX11_sweep_21 : decode mX11_sweep.2.1 21 = .ok (.invokevirtual 189, 3) := by decide +kernel
theorem dX11_sweep_24 : decode mX11_sweep.2.1 24 = .ok (.aload_n 0, 1) := by decide +kernel
theorem dX11_sweep_25 : decode mX11_sweep.2.1 25 = .ok (.getfield 58, 3) := by decide +kernel
theorem dX11_sweep_28 : decode mX11_sweep.2.1 28 = .ok (.iload_n 1, 1) := by decide +kernel
theorem dX11_sweep_29 : decode mX11_sweep.2.1 29 = .ok (.invokevirtual 218, 3) := by decide +kernel
theorem dX11_sweep_32 : decode mX11_sweep.2.1 32 = .ok (.ireturn, 1) := by decide +kernel
abbrev mX11_takeShore : gz_M := (yX11_takeShore, cX11_takeShore, 1, some .int)
theorem dX11_takeShore_0 : decode mX11_takeShore.2.1 0 = .ok (.aload_n 0, 1) := by decide +kernel
theorem dX11_takeShore_1 : decode mX11_takeShore.2.1 1 = .ok (.getfield 21, 3) := by decide +kernel
theorem dX11_takeShore_4 : decode mX11_takeShore.2.1 4 = .ok (.aload_n 0, 1) := by decide +kernel
theorem dX11_takeShore_5 : decode mX11_takeShore.2.1 5 = .ok (.getfield 54, 3) := by decide +kernel
theorem dX11_takeShore_8 : decode mX11_takeShore.2.1 8 = .ok (.invokevirtual 142, 3) := by decide +kernel
theorem dX11_takeShore_11 : decode mX11_takeShore.2.1 11 = .ok (.aload_n 0, 1) := by decide +kernel
theorem dX11_takeShore_12 : decode mX11_takeShore.2.1 12 = .ok (.getfield 58, 3) := by decide +kernel
theorem dX11_takeShore_15 : decode mX11_takeShore.2.1 15 = .ok (.aload_n 0, 1) := by decide +kernel
theorem dX11_takeShore_16 : decode mX11_takeShore.2.1 16 = .ok (.getfield 54, 3) := by decide +kernel
theorem dX11_takeShore_19 : decode mX11_takeShore.2.1 19 = .ok (.invokevirtual 146, 3) := by decide +kernel
theorem dX11_takeShore_22 : decode mX11_takeShore.2.1 22 = .ok (.aload_n 0, 1) := by decide +kernel
theorem dX11_takeShore_23 : decode mX11_takeShore.2.1 23 = .ok (.getfield 74, 3) := by decide +kernel
theorem dX11_takeShore_26 : decode mX11_takeShore.2.1 26 = .ok (.invokevirtual 149, 3) := by decide +kernel
theorem dX11_takeShore_29 : decode mX11_takeShore.2.1 29 = .ok (.aload_n 0, 1) := by decide +kernel
theorem dX11_takeShore_30 : decode mX11_takeShore.2.1 30 = .ok (.getfield 90, 3) := by decide +kernel
theorem dX11_takeShore_33 : decode mX11_takeShore.2.1 33 = .ok (.invokevirtual 152, 3) := by decide +kernel
theorem dX11_takeShore_36 : decode mX11_takeShore.2.1 36 = .ok (.aload_n 0, 1) := by decide +kernel
theorem dX11_takeShore_37 : decode mX11_takeShore.2.1 37 = .ok (.getfield 58, 3) := by decide +kernel
theorem dX11_takeShore_40 : decode mX11_takeShore.2.1 40 = .ok (.invokevirtual 153, 3) := by decide +kernel
theorem dX11_takeShore_43 : decode mX11_takeShore.2.1 43 = .ok (.ireturn, 1) := by decide +kernel
abbrev mX11_tide : gz_M := (yX11_tide, cX11_tide, 3, some .int)
theorem dX11_tide_0 : decode mX11_tide.2.1 0 = .ok (.aload_n 0, 1) := by decide +kernel
theorem dX11_tide_1 : decode mX11_tide.2.1 1 = .ok (.getfield 58, 3) := by decide +kernel
theorem dX11_tide_4 : decode mX11_tide.2.1 4 = .ok (.iload_n 1, 1) := by decide +kernel
theorem dX11_tide_5 : decode mX11_tide.2.1 5 = .ok (.invokevirtual 206, 3) := by decide +kernel
theorem dX11_tide_8 : decode mX11_tide.2.1 8 = .ok (.ifCond .ne 5, 3) := by decide +kernel
theorem dX11_tide_11 : decode mX11_tide.2.1 11 = .ok (.iconst (-1), 1) := by decide +kernel
theorem dX11_tide_12 : decode mX11_tide.2.1 12 = .ok (.ireturn, 1) := by decide +kernel
theorem dX11_tide_13 : decode mX11_tide.2.1 13 = .ok (.aload_n 0, 1) := by decide +kernel
theorem dX11_tide_14 : decode mX11_tide.2.1 14 = .ok (.getfield 58, 3) := by decide +kernel
theorem dX11_tide_17 : decode mX11_tide.2.1 17 = .ok (.getfield 176, 3) := by decide +kernel
theorem dX11_tide_20 : decode mX11_tide.2.1 20 = .ok (.bipush 46, 2) := by decide +kernel
theorem dX11_tide_22 : decode mX11_tide.2.1 22 = .ok (.iaload, 1) := by decide +kernel
theorem dX11_tide_23 : decode mX11_tide.2.1 23 = .ok (.istore_n 2, 1) := by decide +kernel
theorem dX11_tide_24 : decode mX11_tide.2.1 24 = .ok (.aload_n 0, 1) := by decide +kernel
theorem dX11_tide_25 : decode mX11_tide.2.1 25 = .ok (.getfield 74, 3) := by decide +kernel
theorem dX11_tide_28 : decode mX11_tide.2.1 28 = .ok (.aload_n 0, 1) := by decide +kernel
theorem dX11_tide_29 : decode mX11_tide.2.1 29 = .ok (.getfield 58, 3) := by decide +kernel
theorem dX11_tide_32 : decode mX11_tide.2.1 32 = .ok (.invokevirtual 189, 3) := by decide +kernel
theorem dX11_tide_35 : decode mX11_tide.2.1 35 = .ok (.aload_n 0, 1) := by decide +kernel
theorem dX11_tide_36 : decode mX11_tide.2.1 36 = .ok (.getfield 58, 3) := by decide +kernel
theorem dX11_tide_39 : decode mX11_tide.2.1 39 = .ok (.getfield 176, 3) := by decide +kernel
theorem dX11_tide_42 : decode mX11_tide.2.1 42 = .ok (.bipush 46, 2) := by decide +kernel
theorem dX11_tide_44 : decode mX11_tide.2.1 44 = .ok (.iload_n 1, 1) := by decide +kernel
theorem dX11_tide_45 : decode mX11_tide.2.1 45 = .ok (.iastore, 1) := by decide +kernel
theorem dX11_tide_46 : decode mX11_tide.2.1 46 = .ok (.iload_n 2, 1) := by decide +kernel
theorem dX11_tide_47 : decode mX11_tide.2.1 47 = .ok (.ireturn, 1) := by decide +kernel
abbrev mX11_undo : gz_M := (yX11_undo, cX11_undo, 1, some .int)
theorem dX11_undo_0 : decode mX11_undo.2.1 0 = .ok (.aload_n 0, 1) := by decide +kernel
theorem dX11_undo_1 : decode mX11_undo.2.1 1 = .ok (.getfield 74, 3) := by decide +kernel
theorem dX11_undo_4 : decode mX11_undo.2.1 4 = .ok (.aload_n 0, 1) := by decide +kernel
theorem dX11_undo_5 : decode mX11_undo.2.1 5 = .ok (.getfield 58, 3) := by decide +kernel
theorem dX11_undo_8 : decode mX11_undo.2.1 8 = .ok (.invokevirtual 249, 3) := by decide +kernel
theorem dX11_undo_11 : decode mX11_undo.2.1 11 = .ok (.ifCond .eq 13, 3) := by decide +kernel
theorem dX11_undo_14 : decode mX11_undo.2.1 14 = .ok (.aload_n 0, 1) := by decide +kernel
theorem dX11_undo_15 : decode mX11_undo.2.1 15 = .ok (.getfield 74, 3) := by decide +kernel
theorem dX11_undo_18 : decode mX11_undo.2.1 18 = .ok (.getfield 253, 3) := by decide +kernel
theorem dX11_undo_21 : decode mX11_undo.2.1 21 = .ok (.goto 4, 3) := by decide +kernel
theorem dX11_undo_24 : decode mX11_undo.2.1 24 = .ok (.iconst (-1), 1) := by decide +kernel
theorem dX11_undo_25 : decode mX11_undo.2.1 25 = .ok (.ireturn, 1) := by decide +kernel
abbrev mX11_way : gz_M := (yX11_way, cX11_way, 3, some .int)
theorem dX11_way_0 : decode mX11_way.2.1 0 = .ok (.aload_n 0, 1) := by decide +kernel
theorem dX11_way_1 : decode mX11_way.2.1 1 = .ok (.getfield 58, 3) := by decide +kernel
theorem dX11_way_4 : decode mX11_way.2.1 4 = .ok (.iload_n 1, 1) := by decide +kernel
theorem dX11_way_5 : decode mX11_way.2.1 5 = .ok (.invokevirtual 156, 3) := by decide +kernel
theorem dX11_way_8 : decode mX11_way.2.1 8 = .ok (.ifCond .eq 26, 3) := by decide +kernel
theorem dX11_way_11 : decode mX11_way.2.1 11 = .ok (.aload_n 0, 1) := by decide +kernel
theorem dX11_way_12 : decode mX11_way.2.1 12 = .ok (.getfield 58, 3) := by decide +kernel
theorem dX11_way_15 : decode mX11_way.2.1 15 = .ok (.iload_n 2, 1) := by decide +kernel
theorem dX11_way_16 : decode mX11_way.2.1 16 = .ok (.invokevirtual 156, 3) := by decide +kernel
theorem dX11_way_19 : decode mX11_way.2.1 19 = .ok (.ifCond .eq 15, 3) := by decide +kernel
theorem dX11_way_22 : decode mX11_way.2.1 22 = .ok (.aload_n 0, 1) := by decide +kernel
theorem dX11_way_23 : decode mX11_way.2.1 23 = .ok (.getfield 58, 3) := by decide +kernel
theorem dX11_way_26 : decode mX11_way.2.1 26 = .ok (.iload_n 1, 1) := by decide +kernel
theorem dX11_way_27 : decode mX11_way.2.1 27 = .ok (.iload_n 2, 1) := by decide +kernel
theorem dX11_way_28 : decode mX11_way.2.1 28 = .ok (.invokevirtual 303, 3) := by decide +kernel
theorem dX11_way_31 : decode mX11_way.2.1 31 = .ok (.goto 4, 3) := by decide +kernel
theorem dX11_way_34 : decode mX11_way.2.1 34 = .ok (.iconst (-1), 1) := by decide +kernel
theorem dX11_way_35 : decode mX11_way.2.1 35 = .ok (.ireturn, 1) := by decide +kernel
abbrev mX11_where : gz_M := (yX11_where, cX11_where, 3, some .int)
theorem dX11_where_0 : decode mX11_where.2.1 0 = .ok (.aload_n 0, 1) := by decide +kernel
theorem dX11_where_1 : decode mX11_where.2.1 1 = .ok (.getfield 58, 3) := by decide +kernel
theorem dX11_where_4 : decode mX11_where.2.1 4 = .ok (.iload_n 1, 1) := by decide +kernel
theorem dX11_where_5 : decode mX11_where.2.1 5 = .ok (.invokevirtual 166, 3) := by decide +kernel
theorem dX11_where_8 : decode mX11_where.2.1 8 = .ok (.ifCond .eq 13, 3) := by decide +kernel
theorem dX11_where_11 : decode mX11_where.2.1 11 = .ok (.iload_n 2, 1) := by decide +kernel
theorem dX11_where_12 : decode mX11_where.2.1 12 = .ok (.ifCond .lt 9, 3) := by decide +kernel
theorem dX11_where_15 : decode mX11_where.2.1 15 = .ok (.iload_n 2, 1) := by decide +kernel
theorem dX11_where_16 : decode mX11_where.2.1 16 = .ok (.bipush 99, 2) := by decide +kernel
theorem dX11_where_18 : decode mX11_where.2.1 18 = .ok (.if_icmp .le 5, 3) := by decide +kernel
theorem dX11_where_21 : decode mX11_where.2.1 21 = .ok (.iconst (-1), 1) := by decide +kernel
theorem dX11_where_22 : decode mX11_where.2.1 22 = .ok (.ireturn, 1) := by decide +kernel
theorem dX11_where_23 : decode mX11_where.2.1 23 = .ok (.aload_n 0, 1) := by decide +kernel
theorem dX11_where_24 : decode mX11_where.2.1 24 = .ok (.getfield 83, 3) := by decide +kernel
theorem dX11_where_27 : decode mX11_where.2.1 27 = .ok (.iload_n 1, 1) := by decide +kernel
theorem dX11_where_28 : decode mX11_where.2.1 28 = .ok (.iload_n 2, 1) := by decide +kernel
theorem dX11_where_29 : decode mX11_where.2.1 29 = .ok (.invokevirtual 285, 3) := by decide +kernel
theorem dX11_where_32 : decode mX11_where.2.1 32 = .ok (.ireturn, 1) := by decide +kernel
abbrev mX11_years : gz_M := (yX11_years, cX11_years, 7, some .int)
theorem dX11_years_0 : decode mX11_years.2.1 0 = .ok (.aload_n 0, 1) := by decide +kernel
theorem dX11_years_1 : decode mX11_years.2.1 1 = .ok (.getfield 58, 3) := by decide +kernel
theorem dX11_years_4 : decode mX11_years.2.1 4 = .ok (.invokevirtual 232, 3) := by decide +kernel
theorem dX11_years_7 : decode mX11_years.2.1 7 = .ok (.ifCond .eq 32, 3) := by decide +kernel
theorem dX11_years_10 : decode mX11_years.2.1 10 = .ok (.iload_n 1, 1) := by decide +kernel
theorem dX11_years_11 : decode mX11_years.2.1 11 = .ok (.iconst 1, 1) := by decide +kernel
theorem dX11_years_12 : decode mX11_years.2.1 12 = .ok (.if_icmp .lt 27, 3) := by decide +kernel
theorem dX11_years_15 : decode mX11_years.2.1 15 = .ok (.iload_n 1, 1) := by decide +kernel
theorem dX11_years_16 : decode mX11_years.2.1 16 = .ok (.bipush 30, 2) := by decide +kernel
theorem dX11_years_18 : decode mX11_years.2.1 18 = .ok (.if_icmp .gt 21, 3) := by decide +kernel
theorem dX11_years_21 : decode mX11_years.2.1 21 = .ok (.aload_n 0, 1) := by decide +kernel
theorem dX11_years_22 : decode mX11_years.2.1 22 = .ok (.getfield 58, 3) := by decide +kernel
theorem dX11_years_25 : decode mX11_years.2.1 25 = .ok (.getfield 176, 3) := by decide +kernel
theorem dX11_years_28 : decode mX11_years.2.1 28 = .ok (.bipush 49, 2) := by decide +kernel
theorem dX11_years_30 : decode mX11_years.2.1 30 = .ok (.iaload, 1) := by decide +kernel
theorem dX11_years_31 : decode mX11_years.2.1 31 = .ok (.iload_n 1, 1) := by decide +kernel
theorem dX11_years_32 : decode mX11_years.2.1 32 = .ok (.iadd, 1) := by decide +kernel
theorem dX11_years_33 : decode mX11_years.2.1 33 = .ok (.sipush 9999, 3) := by decide +kernel
theorem dX11_years_36 : decode mX11_years.2.1 36 = .ok (.if_icmp .le 5, 3) := by decide +kernel
theorem dX11_years_39 : decode mX11_years.2.1 39 = .ok (.iconst (-1), 1) := by decide +kernel
theorem dX11_years_40 : decode mX11_years.2.1 40 = .ok (.ireturn, 1) := by decide +kernel
theorem dX11_years_41 : decode mX11_years.2.1 41 = .ok (.aload_n 0, 1) := by decide +kernel
theorem dX11_years_42 : decode mX11_years.2.1 42 = .ok (.lload_n 2, 1) := by decide +kernel
theorem dX11_years_43 : decode mX11_years.2.1 43 = .ok (.putfield 235, 3) := by decide +kernel
theorem dX11_years_46 : decode mX11_years.2.1 46 = .ok (.iconst 0, 1) := by decide +kernel
theorem dX11_years_47 : decode mX11_years.2.1 47 = .ok (.istore 4, 2) := by decide +kernel
theorem dX11_years_49 : decode mX11_years.2.1 49 = .ok (.iload 4, 2) := by decide +kernel
theorem dX11_years_51 : decode mX11_years.2.1 51 = .ok (.iload_n 1, 1) := by decide +kernel
theorem dX11_years_52 : decode mX11_years.2.1 52 = .ok (.if_icmp .ge 112, 3) := by decide +kernel
theorem dX11_years_55 : decode mX11_years.2.1 55 = .ok (.aload_n 0, 1) := by decide +kernel
theorem dX11_years_56 : decode mX11_years.2.1 56 = .ok (.getfield 74, 3) := by decide +kernel
theorem dX11_years_59 : decode mX11_years.2.1 59 = .ok (.aload_n 0, 1) := by decide +kernel
theorem dX11_years_60 : decode mX11_years.2.1 60 = .ok (.getfield 58, 3) := by decide +kernel
theorem dX11_years_63 : decode mX11_years.2.1 63 = .ok (.invokevirtual 189, 3) := by decide +kernel
theorem dX11_years_66 : decode mX11_years.2.1 66 = .ok (.aload_n 0, 1) := by decide +kernel
theorem dX11_years_67 : decode mX11_years.2.1 67 = .ok (.getfield 58, 3) := by decide +kernel
theorem dX11_years_70 : decode mX11_years.2.1 70 = .ok (.getfield 176, 3) := by decide +kernel
theorem dX11_years_73 : decode mX11_years.2.1 73 = .ok (.bipush 46, 2) := by decide +kernel
theorem dX11_years_75 : decode mX11_years.2.1 75 = .ok (.aload_n 0, 1) := by decide +kernel
theorem dX11_years_76 : decode mX11_years.2.1 76 = .ok (.bipush 6, 2) := by decide +kernel
theorem dX11_years_78 : decode mX11_years.2.1 78 = .ok (.invokevirtual 239, 3) := by decide +kernel
theorem dX11_years_81 : decode mX11_years.2.1 81 = .ok (.iastore, 1) := by decide +kernel
theorem dX11_years_82 : decode mX11_years.2.1 82 = .ok (.aload_n 0, 1) := by decide +kernel
theorem dX11_years_83 : decode mX11_years.2.1 83 = .ok (.bipush 10, 2) := by decide +kernel
theorem dX11_years_85 : decode mX11_years.2.1 85 = .ok (.invokevirtual 239, 3) := by decide +kernel
theorem dX11_years_88 : decode mX11_years.2.1 88 = .ok (.aload_n 0, 1) := by decide +kernel
theorem dX11_years_89 : decode mX11_years.2.1 89 = .ok (.getfield 98, 3) := by decide +kernel
theorem dX11_years_92 : decode mX11_years.2.1 92 = .ok (.if_icmp .ge 61, 3) := by decide +kernel
theorem dX11_years_95 : decode mX11_years.2.1 95 = .ok (.aload_n 0, 1) := by decide +kernel
theorem dX11_years_96 : decode mX11_years.2.1 96 = .ok (.aload_n 0, 1) := by decide +kernel
theorem dX11_years_97 : decode mX11_years.2.1 97 = .ok (.getfield 58, 3) := by decide +kernel
theorem dX11_years_100 : decode mX11_years.2.1 100 = .ok (.getfield 176, 3) := by decide +kernel
theorem dX11_years_103 : decode mX11_years.2.1 103 = .ok (.bipush 60, 2) := by decide +kernel
theorem dX11_years_105 : decode mX11_years.2.1 105 = .ok (.iaload, 1) := by decide +kernel
theorem dX11_years_106 : decode mX11_years.2.1 106 = .ok (.invokevirtual 239, 3) := by decide +kernel
theorem dX11_years_109 : decode mX11_years.2.1 109 = .ok (.istore 5, 2) := by decide +kernel
theorem dX11_years_111 : decode mX11_years.2.1 111 = .ok (.aload_n 0, 1) := by decide +kernel
theorem dX11_years_112 : decode mX11_years.2.1 112 = .ok (.iconst 4, 1) := by decide +kernel
theorem dX11_years_113 : decode mX11_years.2.1 113 = .ok (.invokevirtual 239, 3) := by decide +kernel
theorem dX11_years_116 : decode mX11_years.2.1 116 = .ok (.istore 6, 2) := by decide +kernel
theorem dX11_years_118 : decode mX11_years.2.1 118 = .ok (.aload_n 0, 1) := by decide +kernel
theorem dX11_years_119 : decode mX11_years.2.1 119 = .ok (.getfield 58, 3) := by decide +kernel
theorem dX11_years_122 : decode mX11_years.2.1 122 = .ok (.aload_n 0, 1) := by decide +kernel
theorem dX11_years_123 : decode mX11_years.2.1 123 = .ok (.getfield 58, 3) := by decide +kernel
theorem dX11_years_126 : decode mX11_years.2.1 126 = .ok (.getfield 176, 3) := by decide +kernel
theorem dX11_years_129 : decode mX11_years.2.1 129 = .ok (.bipush 54, 2) := by decide +kernel
theorem dX11_years_131 : decode mX11_years.2.1 131 = .ok (.iload 5, 2) := by decide +kernel
theorem dX11_years_133 : decode mX11_years.2.1 133 = .ok (.iadd, 1) := by decide +kernel
theorem dX11_years_134 : decode mX11_years.2.1 134 = .ok (.iaload, 1) := by decide +kernel
theorem dX11_years_135 : decode mX11_years.2.1 135 = .ok (.invokevirtual 160, 3) := by decide +kernel
theorem dX11_years_138 : decode mX11_years.2.1 138 = .ok (.iconst 1, 1) := by decide +kernel
theorem dX11_years_139 : decode mX11_years.2.1 139 = .ok (.if_icmp .eq 14, 3) := by decide +kernel
theorem dX11_years_142 : decode mX11_years.2.1 142 = .ok (.aload_n 0, 1) := by decide +kernel
theorem dX11_years_143 : decode mX11_years.2.1 143 = .ok (.getfield 58, 3) := by decide +kernel
theorem dX11_years_146 : decode mX11_years.2.1 146 = .ok (.iload 5, 2) := by decide +kernel
theorem dX11_years_148 : decode mX11_years.2.1 148 = .ok (.iload 6, 2) := by decide +kernel
theorem dX11_years_150 : decode mX11_years.2.1 150 = .ok (.invokevirtual 242, 3) := by decide +kernel
theorem dX11_years_153 : decode mX11_years.2.1 153 = .ok (.aload_n 0, 1) := by decide +kernel
theorem dX11_years_154 : decode mX11_years.2.1 154 = .ok (.invokevirtual 192, 3) := by decide +kernel
theorem dX11_years_157 : decode mX11_years.2.1 157 = .ok (.pop, 1) := by decide +kernel
theorem dX11_years_158 : decode mX11_years.2.1 158 = .ok (.iinc 4 1, 3) := by decide +kernel
theorem dX11_years_161 : decode mX11_years.2.1 161 = .ok (.goto (-112), 3) := by decide +kernel
theorem dX11_years_164 : decode mX11_years.2.1 164 = .ok (.aload_n 0, 1) := by decide +kernel
theorem dX11_years_165 : decode mX11_years.2.1 165 = .ok (.getfield 58, 3) := by decide +kernel
theorem dX11_years_168 : decode mX11_years.2.1 168 = .ok (.getfield 176, 3) := by decide +kernel
theorem dX11_years_171 : decode mX11_years.2.1 171 = .ok (.bipush 49, 2) := by decide +kernel
theorem dX11_years_173 : decode mX11_years.2.1 173 = .ok (.iaload, 1) := by decide +kernel
theorem dX11_years_174 : decode mX11_years.2.1 174 = .ok (.ireturn, 1) := by decide +kernel
abbrev mX1_putStep : gz_M := (yX1_putStep, cX1_putStep, 5, some .boolean)
theorem dX1_putStep_0 : decode mX1_putStep.2.1 0 = .ok (.aload_n 0, 1) := by decide +kernel
theorem dX1_putStep_1 : decode mX1_putStep.2.1 1 = .ok (.getfield 11, 3) := by decide +kernel
theorem dX1_putStep_4 : decode mX1_putStep.2.1 4 = .ok (.iload_n 1, 1) := by decide +kernel
theorem dX1_putStep_5 : decode mX1_putStep.2.1 5 = .ok (.iload_n 2, 1) := by decide +kernel
theorem dX1_putStep_6 : decode mX1_putStep.2.1 6 = .ok (.iastore, 1) := by decide +kernel
theorem dX1_putStep_7 : decode mX1_putStep.2.1 7 = .ok (.aload_n 0, 1) := by decide +kernel
theorem dX1_putStep_8 : decode mX1_putStep.2.1 8 = .ok (.getfield 11, 3) := by decide +kernel
theorem dX1_putStep_11 : decode mX1_putStep.2.1 11 = .ok (.iload_n 1, 1) := by decide +kernel
theorem dX1_putStep_12 : decode mX1_putStep.2.1 12 = .ok (.iconst 1, 1) := by decide +kernel
theorem dX1_putStep_13 : decode mX1_putStep.2.1 13 = .ok (.iadd, 1) := by decide +kernel
theorem dX1_putStep_14 : decode mX1_putStep.2.1 14 = .ok (.iload_n 3, 1) := by decide +kernel
theorem dX1_putStep_15 : decode mX1_putStep.2.1 15 = .ok (.iastore, 1) := by decide +kernel
theorem dX1_putStep_16 : decode mX1_putStep.2.1 16 = .ok (.aload_n 0, 1) := by decide +kernel
theorem dX1_putStep_17 : decode mX1_putStep.2.1 17 = .ok (.getfield 11, 3) := by decide +kernel
theorem dX1_putStep_20 : decode mX1_putStep.2.1 20 = .ok (.iload_n 1, 1) := by decide +kernel
theorem dX1_putStep_21 : decode mX1_putStep.2.1 21 = .ok (.iconst 2, 1) := by decide +kernel
theorem dX1_putStep_22 : decode mX1_putStep.2.1 22 = .ok (.iadd, 1) := by decide +kernel
theorem dX1_putStep_23 : decode mX1_putStep.2.1 23 = .ok (.iload 4, 2) := by decide +kernel
theorem dX1_putStep_25 : decode mX1_putStep.2.1 25 = .ok (.iastore, 1) := by decide +kernel
theorem dX1_putStep_26 : decode mX1_putStep.2.1 26 = .ok (.iconst 1, 1) := by decide +kernel
theorem dX1_putStep_27 : decode mX1_putStep.2.1 27 = .ok (.ireturn, 1) := by decide +kernel
abbrev mX1_readDigits : gz_M := (yX1_readDigits, cX1_readDigits, 5, some .boolean)
theorem dX1_readDigits_0 : decode mX1_readDigits.2.1 0 = .ok (.aload_n 0, 1) := by decide +kernel
theorem dX1_readDigits_1 : decode mX1_readDigits.2.1 1 = .ok (.getfield 17, 3) := by decide +kernel
theorem dX1_readDigits_4 : decode mX1_readDigits.2.1 4 = .ok (.dup, 1) := by decide +kernel
theorem dX1_readDigits_5 : decode mX1_readDigits.2.1 5 = .ok (.getfield 50, 3) := by decide +kernel
theorem dX1_readDigits_8 : decode mX1_readDigits.2.1 8 = .ok (.iconst 1, 1) := by decide +kernel
theorem dX1_readDigits_9 : decode mX1_readDigits.2.1 9 = .ok (.iadd, 1) := by decide +kernel
theorem dX1_readDigits_10 : decode mX1_readDigits.2.1 10 = .ok (.putfield 50, 3) := by decide +kernel
theorem dX1_readDigits_13 : decode mX1_readDigits.2.1 13 = .ok (.aload_n 0, 1) := by decide +kernel
theorem dX1_readDigits_14 : decode mX1_readDigits.2.1 14 = .ok (.getfield 17, 3) := by decide +kernel
theorem dX1_readDigits_17 : decode mX1_readDigits.2.1 17 = .ok (.invokevirtual 64, 3) := by decide +kernel
theorem dX1_readDigits_20 : decode mX1_readDigits.2.1 20 = .ok (.ifCond .ne 5, 3) := by decide +kernel
theorem dX1_readDigits_23 : decode mX1_readDigits.2.1 23 = .ok (.iconst 0, 1) := by decide +kernel
theorem dX1_readDigits_24 : decode mX1_readDigits.2.1 24 = .ok (.ireturn, 1) := by decide +kernel
theorem dX1_readDigits_25 : decode mX1_readDigits.2.1 25 = .ok (.aload_n 0, 1) := by decide +kernel
theorem dX1_readDigits_26 : decode mX1_readDigits.2.1 26 = .ok (.getfield 17, 3) := by decide +kernel
theorem dX1_readDigits_29 : decode mX1_readDigits.2.1 29 = .ok (.getfield 68, 3) := by decide +kernel
theorem dX1_readDigits_32 : decode mX1_readDigits.2.1 32 = .ok (.istore 4, 2) := by decide +kernel
theorem dX1_readDigits_34 : decode mX1_readDigits.2.1 34 = .ok (.iload_n 3, 1) := by decide +kernel
theorem dX1_readDigits_35 : decode mX1_readDigits.2.1 35 = .ok (.ifCond .ne 13, 3) := by decide +kernel
theorem dX1_readDigits_38 : decode mX1_readDigits.2.1 38 = .ok (.aload_n 0, 1) := by decide +kernel
theorem dX1_readDigits_39 : decode mX1_readDigits.2.1 39 = .ok (.iload_n 1, 1) := by decide +kernel
theorem dX1_readDigits_40 : decode mX1_readDigits.2.1 40 = .ok (.iload_n 2, 1) := by decide +kernel
theorem dX1_readDigits_41 : decode mX1_readDigits.2.1 41 = .ok (.iload 4, 2) := by decide +kernel
theorem dX1_readDigits_43 : decode mX1_readDigits.2.1 43 = .ok (.iconst (-1), 1) := by decide +kernel
theorem dX1_readDigits_44 : decode mX1_readDigits.2.1 44 = .ok (.invokevirtual 56, 3) := by decide +kernel
theorem dX1_readDigits_47 : decode mX1_readDigits.2.1 47 = .ok (.ireturn, 1) := by decide +kernel
theorem dX1_readDigits_48 : decode mX1_readDigits.2.1 48 = .ok (.aload_n 0, 1) := by decide +kernel
theorem dX1_readDigits_49 : decode mX1_readDigits.2.1 49 = .ok (.getfield 17, 3) := by decide +kernel
theorem dX1_readDigits_52 : decode mX1_readDigits.2.1 52 = .ok (.invokevirtual 64, 3) := by decide +kernel
theorem dX1_readDigits_55 : decode mX1_readDigits.2.1 55 = .ok (.ifCond .ne 5, 3) := by decide +kernel
theorem dX1_readDigits_58 : decode mX1_readDigits.2.1 58 = .ok (.iconst 0, 1) := by decide +kernel
theorem dX1_readDigits_59 : decode mX1_readDigits.2.1 59 = .ok (.ireturn, 1) := by decide +kernel
theorem dX1_readDigits_60 : decode mX1_readDigits.2.1 60 = .ok (.iload_n 2, 1) := by decide +kernel
theorem dX1_readDigits_61 : decode mX1_readDigits.2.1 61 = .ok (.iconst 3, 1) := by decide +kernel
theorem dX1_readDigits_62 : decode mX1_readDigits.2.1 62 = .ok (.if_icmp .ne 24, 3) := by decide +kernel
theorem dX1_readDigits_65 : decode mX1_readDigits.2.1 65 = .ok (.aload_n 0, 1) := by decide +kernel
theorem dX1_readDigits_66 : decode mX1_readDigits.2.1 66 = .ok (.iload_n 1, 1) := by decide +kernel
theorem dX1_readDigits_67 : decode mX1_readDigits.2.1 67 = .ok (.iload_n 2, 1) := by decide +kernel
theorem dX1_readDigits_68 : decode mX1_readDigits.2.1 68 = .ok (.iload 4, 2) := by decide +kernel
theorem dX1_readDigits_70 : decode mX1_readDigits.2.1 70 = .ok (.bipush 10, 2) := by decide +kernel
theorem dX1_readDigits_72 : decode mX1_readDigits.2.1 72 = .ok (.imul, 1) := by decide +kernel
theorem dX1_readDigits_73 : decode mX1_readDigits.2.1 73 = .ok (.aload_n 0, 1) := by decide +kernel
theorem dX1_readDigits_74 : decode mX1_readDigits.2.1 74 = .ok (.getfield 17, 3) := by decide +kernel
theorem dX1_readDigits_77 : decode mX1_readDigits.2.1 77 = .ok (.getfield 68, 3) := by decide +kernel
theorem dX1_readDigits_80 : decode mX1_readDigits.2.1 80 = .ok (.iadd, 1) := by decide +kernel
theorem dX1_readDigits_81 : decode mX1_readDigits.2.1 81 = .ok (.iconst (-1), 1) := by decide +kernel
theorem dX1_readDigits_82 : decode mX1_readDigits.2.1 82 = .ok (.invokevirtual 56, 3) := by decide +kernel
theorem dX1_readDigits_85 : decode mX1_readDigits.2.1 85 = .ok (.ireturn, 1) := by decide +kernel
theorem dX1_readDigits_86 : decode mX1_readDigits.2.1 86 = .ok (.aload_n 0, 1) := by decide +kernel
theorem dX1_readDigits_87 : decode mX1_readDigits.2.1 87 = .ok (.iload_n 1, 1) := by decide +kernel
theorem dX1_readDigits_88 : decode mX1_readDigits.2.1 88 = .ok (.iload_n 2, 1) := by decide +kernel
theorem dX1_readDigits_89 : decode mX1_readDigits.2.1 89 = .ok (.iload 4, 2) := by decide +kernel
theorem dX1_readDigits_91 : decode mX1_readDigits.2.1 91 = .ok (.aload_n 0, 1) := by decide +kernel
theorem dX1_readDigits_92 : decode mX1_readDigits.2.1 92 = .ok (.getfield 17, 3) := by decide +kernel
theorem dX1_readDigits_95 : decode mX1_readDigits.2.1 95 = .ok (.getfield 68, 3) := by decide +kernel
theorem dX1_readDigits_98 : decode mX1_readDigits.2.1 98 = .ok (.invokevirtual 56, 3) := by decide +kernel
theorem dX1_readDigits_101 : decode mX1_readDigits.2.1 101 = .ok (.ireturn, 1) := by decide +kernel
abbrev mX1_readEvening : gz_M := (yX1_readEvening, cX1_readEvening, 2, some .boolean)
theorem dX1_readEvening_0 : decode mX1_readEvening.2.1 0 = .ok (.aload_n 0, 1) := by decide +kernel
theorem dX1_readEvening_1 : decode mX1_readEvening.2.1 1 = .ok (.getfield 17, 3) := by decide +kernel
theorem dX1_readEvening_4 : decode mX1_readEvening.2.1 4 = .ok (.invokevirtual 34, 3) := by decide +kernel
theorem dX1_readEvening_7 : decode mX1_readEvening.2.1 7 = .ok (.aload_n 0, 1) := by decide +kernel
theorem dX1_readEvening_8 : decode mX1_readEvening.2.1 8 = .ok (.iconst 0, 1) := by decide +kernel
theorem dX1_readEvening_9 : decode mX1_readEvening.2.1 9 = .ok (.putfield 21, 3) := by decide +kernel
theorem dX1_readEvening_12 : decode mX1_readEvening.2.1 12 = .ok (.iconst 0, 1) := by decide +kernel
theorem dX1_readEvening_13 : decode mX1_readEvening.2.1 13 = .ok (.istore_n 1, 1) := by decide +kernel
theorem dX1_readEvening_14 : decode mX1_readEvening.2.1 14 = .ok (.iload_n 1, 1) := by decide +kernel
theorem dX1_readEvening_15 : decode mX1_readEvening.2.1 15 = .ok (.bipush 16, 2) := by decide +kernel
theorem dX1_readEvening_17 : decode mX1_readEvening.2.1 17 = .ok (.if_icmp .ge 80, 3) := by decide +kernel
theorem dX1_readEvening_20 : decode mX1_readEvening.2.1 20 = .ok (.aload_n 0, 1) := by decide +kernel
theorem dX1_readEvening_21 : decode mX1_readEvening.2.1 21 = .ok (.iload_n 1, 1) := by decide +kernel
theorem dX1_readEvening_22 : decode mX1_readEvening.2.1 22 = .ok (.iconst 3, 1) := by decide +kernel
theorem dX1_readEvening_23 : decode mX1_readEvening.2.1 23 = .ok (.imul, 1) := by decide +kernel
theorem dX1_readEvening_24 : decode mX1_readEvening.2.1 24 = .ok (.invokevirtual 39, 3) := by decide +kernel
theorem dX1_readEvening_27 : decode mX1_readEvening.2.1 27 = .ok (.ifCond .ne 5, 3) := by decide +kernel
theorem dX1_readEvening_30 : decode mX1_readEvening.2.1 30 = .ok (.iconst 0, 1) := by decide +kernel
theorem dX1_readEvening_31 : decode mX1_readEvening.2.1 31 = .ok (.ireturn, 1) := by decide +kernel
theorem dX1_readEvening_32 : decode mX1_readEvening.2.1 32 = .ok (.aload_n 0, 1) := by decide +kernel
theorem dX1_readEvening_33 : decode mX1_readEvening.2.1 33 = .ok (.dup, 1) := by decide +kernel
theorem dX1_readEvening_34 : decode mX1_readEvening.2.1 34 = .ok (.getfield 21, 3) := by decide +kernel
theorem dX1_readEvening_37 : decode mX1_readEvening.2.1 37 = .ok (.iconst 1, 1) := by decide +kernel
theorem dX1_readEvening_38 : decode mX1_readEvening.2.1 38 = .ok (.iadd, 1) := by decide +kernel
theorem dX1_readEvening_39 : decode mX1_readEvening.2.1 39 = .ok (.putfield 21, 3) := by decide +kernel
theorem dX1_readEvening_42 : decode mX1_readEvening.2.1 42 = .ok (.aload_n 0, 1) := by decide +kernel
theorem dX1_readEvening_43 : decode mX1_readEvening.2.1 43 = .ok (.getfield 17, 3) := by decide +kernel
theorem dX1_readEvening_46 : decode mX1_readEvening.2.1 46 = .ok (.invokevirtual 43, 3) := by decide +kernel
theorem dX1_readEvening_49 : decode mX1_readEvening.2.1 49 = .ok (.iconst (-1), 1) := by decide +kernel
theorem dX1_readEvening_50 : decode mX1_readEvening.2.1 50 = .ok (.if_icmp .ne 5, 3) := by decide +kernel
theorem dX1_readEvening_53 : decode mX1_readEvening.2.1 53 = .ok (.iconst 1, 1) := by decide +kernel
theorem dX1_readEvening_54 : decode mX1_readEvening.2.1 54 = .ok (.ireturn, 1) := by decide +kernel
theorem dX1_readEvening_55 : decode mX1_readEvening.2.1 55 = .ok (.aload_n 0, 1) := by decide +kernel
theorem dX1_readEvening_56 : decode mX1_readEvening.2.1 56 = .ok (.getfield 21, 3) := by decide +kernel
theorem dX1_readEvening_59 : decode mX1_readEvening.2.1 59 = .ok (.bipush 16, 2) := by decide +kernel
theorem dX1_readEvening_61 : decode mX1_readEvening.2.1 61 = .ok (.if_icmp .eq 15, 3) := by decide +kernel
theorem dX1_readEvening_64 : decode mX1_readEvening.2.1 64 = .ok (.aload_n 0, 1) := by decide +kernel
theorem dX1_readEvening_65 : decode mX1_readEvening.2.1 65 = .ok (.getfield 17, 3) := by decide +kernel
theorem dX1_readEvening_68 : decode mX1_readEvening.2.1 68 = .ok (.bipush 59, 2) := by decide +kernel
theorem dX1_readEvening_70 : decode mX1_readEvening.2.1 70 = .ok (.invokevirtual 47, 3) := by decide +kernel
theorem dX1_readEvening_73 : decode mX1_readEvening.2.1 73 = .ok (.ifCond .ne 18, 3) := by decide +kernel
theorem dX1_readEvening_76 : decode mX1_readEvening.2.1 76 = .ok (.aload_n 0, 1) := by decide +kernel
theorem dX1_readEvening_77 : decode mX1_readEvening.2.1 77 = .ok (.getfield 17, 3) := by decide +kernel
theorem dX1_readEvening_80 : decode mX1_readEvening.2.1 80 = .ok (.aload_n 0, 1) := by decide +kernel
theorem dX1_readEvening_81 : decode mX1_readEvening.2.1 81 = .ok (.getfield 17, 3) := by decide +kernel
theorem dX1_readEvening_84 : decode mX1_readEvening.2.1 84 = .ok (.getfield 50, 3) := by decide +kernel
theorem dX1_readEvening_87 : decode mX1_readEvening.2.1 87 = .ok (.invokevirtual 53, 3) := by decide +kernel
theorem dX1_readEvening_90 : decode mX1_readEvening.2.1 90 = .ok (.ireturn, 1) := by decide +kernel
theorem dX1_readEvening_91 : decode mX1_readEvening.2.1 91 = .ok (.iinc 1 1, 3) := by decide +kernel
theorem dX1_readEvening_94 : decode mX1_readEvening.2.1 94 = .ok (.goto (-80), 3) := by decide +kernel
theorem dX1_readEvening_97 : decode mX1_readEvening.2.1 97 = .ok (.aload_n 0, 1) := by decide +kernel
theorem dX1_readEvening_98 : decode mX1_readEvening.2.1 98 = .ok (.getfield 17, 3) := by decide +kernel
theorem dX1_readEvening_101 : decode mX1_readEvening.2.1 101 = .ok (.aload_n 0, 1) := by decide +kernel
theorem dX1_readEvening_102 : decode mX1_readEvening.2.1 102 = .ok (.getfield 17, 3) := by decide +kernel
theorem dX1_readEvening_105 : decode mX1_readEvening.2.1 105 = .ok (.getfield 50, 3) := by decide +kernel
theorem dX1_readEvening_108 : decode mX1_readEvening.2.1 108 = .ok (.invokevirtual 53, 3) := by decide +kernel
theorem dX1_readEvening_111 : decode mX1_readEvening.2.1 111 = .ok (.ireturn, 1) := by decide +kernel
abbrev mX1_readStep : gz_M := (yX1_readStep, cX1_readStep, 2, some .boolean)
theorem dX1_readStep_0 : decode mX1_readStep.2.1 0 = .ok (.aload_n 0, 1) := by decide +kernel
theorem dX1_readStep_1 : decode mX1_readStep.2.1 1 = .ok (.getfield 17, 3) := by decide +kernel
theorem dX1_readStep_4 : decode mX1_readStep.2.1 4 = .ok (.invokevirtual 43, 3) := by decide +kernel
theorem dX1_readStep_7 : decode mX1_readStep.2.1 7 = .ok (.lookupswitch 87 #[(103, 63), (104, 41), (115, 79), (116, 71)], 41) := by decide +kernel
theorem dX1_readStep_48 : decode mX1_readStep.2.1 48 = .ok (.aload_n 0, 1) := by decide +kernel
theorem dX1_readStep_49 : decode mX1_readStep.2.1 49 = .ok (.getfield 17, 3) := by decide +kernel
theorem dX1_readStep_52 : decode mX1_readStep.2.1 52 = .ok (.dup, 1) := by decide +kernel
theorem dX1_readStep_53 : decode mX1_readStep.2.1 53 = .ok (.getfield 50, 3) := by decide +kernel
theorem dX1_readStep_56 : decode mX1_readStep.2.1 56 = .ok (.iconst 1, 1) := by decide +kernel
theorem dX1_readStep_57 : decode mX1_readStep.2.1 57 = .ok (.iadd, 1) := by decide +kernel
theorem dX1_readStep_58 : decode mX1_readStep.2.1 58 = .ok (.putfield 50, 3) := by decide +kernel
theorem dX1_readStep_61 : decode mX1_readStep.2.1 61 = .ok (.aload_n 0, 1) := by decide +kernel
theorem dX1_readStep_62 : decode mX1_readStep.2.1 62 = .ok (.iload_n 1, 1) := by decide +kernel
theorem dX1_readStep_63 : decode mX1_readStep.2.1 63 = .ok (.iconst 0, 1) := by decide +kernel
theorem dX1_readStep_64 : decode mX1_readStep.2.1 64 = .ok (.iconst (-1), 1) := by decide +kernel
theorem dX1_readStep_65 : decode mX1_readStep.2.1 65 = .ok (.iconst (-1), 1) := by decide +kernel
theorem dX1_readStep_66 : decode mX1_readStep.2.1 66 = .ok (.invokevirtual 56, 3) := by decide +kernel
theorem dX1_readStep_69 : decode mX1_readStep.2.1 69 = .ok (.ireturn, 1) := by decide +kernel
theorem dX1_readStep_70 : decode mX1_readStep.2.1 70 = .ok (.aload_n 0, 1) := by decide +kernel
theorem dX1_readStep_71 : decode mX1_readStep.2.1 71 = .ok (.iload_n 1, 1) := by decide +kernel
theorem dX1_readStep_72 : decode mX1_readStep.2.1 72 = .ok (.iconst 1, 1) := by decide +kernel
theorem dX1_readStep_73 : decode mX1_readStep.2.1 73 = .ok (.iconst 1, 1) := by decide +kernel
theorem dX1_readStep_74 : decode mX1_readStep.2.1 74 = .ok (.invokevirtual 60, 3) := by decide +kernel
theorem dX1_readStep_77 : decode mX1_readStep.2.1 77 = .ok (.ireturn, 1) := by decide +kernel
theorem dX1_readStep_78 : decode mX1_readStep.2.1 78 = .ok (.aload_n 0, 1) := by decide +kernel
theorem dX1_readStep_79 : decode mX1_readStep.2.1 79 = .ok (.iload_n 1, 1) := by decide +kernel
theorem dX1_readStep_80 : decode mX1_readStep.2.1 80 = .ok (.iconst 2, 1) := by decide +kernel
theorem dX1_readStep_81 : decode mX1_readStep.2.1 81 = .ok (.iconst 0, 1) := by decide +kernel
theorem dX1_readStep_82 : decode mX1_readStep.2.1 82 = .ok (.invokevirtual 60, 3) := by decide +kernel
theorem dX1_readStep_85 : decode mX1_readStep.2.1 85 = .ok (.ireturn, 1) := by decide +kernel
theorem dX1_readStep_86 : decode mX1_readStep.2.1 86 = .ok (.aload_n 0, 1) := by decide +kernel
theorem dX1_readStep_87 : decode mX1_readStep.2.1 87 = .ok (.iload_n 1, 1) := by decide +kernel
theorem dX1_readStep_88 : decode mX1_readStep.2.1 88 = .ok (.iconst 3, 1) := by decide +kernel
theorem dX1_readStep_89 : decode mX1_readStep.2.1 89 = .ok (.iconst 1, 1) := by decide +kernel
theorem dX1_readStep_90 : decode mX1_readStep.2.1 90 = .ok (.invokevirtual 60, 3) := by decide +kernel
theorem dX1_readStep_93 : decode mX1_readStep.2.1 93 = .ok (.ireturn, 1) := by decide +kernel
theorem dX1_readStep_94 : decode mX1_readStep.2.1 94 = .ok (.aload_n 0, 1) := by decide +kernel
theorem dX1_readStep_95 : decode mX1_readStep.2.1 95 = .ok (.getfield 17, 3) := by decide +kernel
theorem dX1_readStep_98 : decode mX1_readStep.2.1 98 = .ok (.aload_n 0, 1) := by decide +kernel
theorem dX1_readStep_99 : decode mX1_readStep.2.1 99 = .ok (.getfield 17, 3) := by decide +kernel
theorem dX1_readStep_102 : decode mX1_readStep.2.1 102 = .ok (.getfield 50, 3) := by decide +kernel
theorem dX1_readStep_105 : decode mX1_readStep.2.1 105 = .ok (.invokevirtual 53, 3) := by decide +kernel
theorem dX1_readStep_108 : decode mX1_readStep.2.1 108 = .ok (.ireturn, 1) := by decide +kernel
abbrev mX2_apartAnyway : gz_M := (yX2_apartAnyway, cX2_apartAnyway, 5, some .boolean)
theorem dX2_apartAnyway_0 : decode mX2_apartAnyway.2.1 0 = .ok (.aload_n 0, 1) := by decide +kernel
theorem dX2_apartAnyway_1 : decode mX2_apartAnyway.2.1 1 = .ok (.iload_n 1, 1) := by decide +kernel
theorem dX2_apartAnyway_2 : decode mX2_apartAnyway.2.1 2 = .ok (.iload_n 2, 1) := by decide +kernel
theorem dX2_apartAnyway_3 : decode mX2_apartAnyway.2.1 3 = .ok (.iload_n 3, 1) := by decide +kernel
theorem dX2_apartAnyway_4 : decode mX2_apartAnyway.2.1 4 = .ok (.iconst (-1), 1) := by decide +kernel
theorem dX2_apartAnyway_5 : decode mX2_apartAnyway.2.1 5 = .ok (.iconst (-1), 1) := by decide +kernel
theorem dX2_apartAnyway_6 : decode mX2_apartAnyway.2.1 6 = .ok (.invokevirtual 58, 3) := by decide +kernel
theorem dX2_apartAnyway_9 : decode mX2_apartAnyway.2.1 9 = .ok (.istore 4, 2) := by decide +kernel
theorem dX2_apartAnyway_11 : decode mX2_apartAnyway.2.1 11 = .ok (.aload_n 0, 1) := by decide +kernel
theorem dX2_apartAnyway_12 : decode mX2_apartAnyway.2.1 12 = .ok (.aload_n 0, 1) := by decide +kernel
theorem dX2_apartAnyway_13 : decode mX2_apartAnyway.2.1 13 = .ok (.getfield 30, 3) := by decide +kernel
theorem dX2_apartAnyway_16 : decode mX2_apartAnyway.2.1 16 = .ok (.getfield 62, 3) := by decide +kernel
theorem dX2_apartAnyway_19 : decode mX2_apartAnyway.2.1 19 = .ok (.putfield 66, 3) := by decide +kernel
theorem dX2_apartAnyway_22 : decode mX2_apartAnyway.2.1 22 = .ok (.iload 4, 2) := by decide +kernel
theorem dX2_apartAnyway_24 : decode mX2_apartAnyway.2.1 24 = .ok (.ireturn, 1) := by decide +kernel
abbrev mX2_cellBehind : gz_M := (yX2_cellBehind, cX2_cellBehind, 4, some .int)
theorem dX2_cellBehind_0 : decode mX2_cellBehind.2.1 0 = .ok (.aload_n 0, 1) := by decide +kernel
theorem dX2_cellBehind_1 : decode mX2_cellBehind.2.1 1 = .ok (.getfield 27, 3) := by decide +kernel
theorem dX2_cellBehind_4 : decode mX2_cellBehind.2.1 4 = .ok (.aload_n 0, 1) := by decide +kernel
theorem dX2_cellBehind_5 : decode mX2_cellBehind.2.1 5 = .ok (.getfield 23, 3) := by decide +kernel
theorem dX2_cellBehind_8 : decode mX2_cellBehind.2.1 8 = .ok (.invokevirtual 34, 3) := by decide +kernel
theorem dX2_cellBehind_11 : decode mX2_cellBehind.2.1 11 = .ok (.iconst 0, 1) := by decide +kernel
theorem dX2_cellBehind_12 : decode mX2_cellBehind.2.1 12 = .ok (.istore_n 3, 1) := by decide +kernel
theorem dX2_cellBehind_13 : decode mX2_cellBehind.2.1 13 = .ok (.iload_n 3, 1) := by decide +kernel
theorem dX2_cellBehind_14 : decode mX2_cellBehind.2.1 14 = .ok (.iload_n 2, 1) := by decide +kernel
theorem dX2_cellBehind_15 : decode mX2_cellBehind.2.1 15 = .ok (.if_icmp .ge 21, 3) := by decide +kernel
theorem dX2_cellBehind_18 : decode mX2_cellBehind.2.1 18 = .ok (.aload_n 0, 1) := by decide +kernel
theorem dX2_cellBehind_19 : decode mX2_cellBehind.2.1 19 = .ok (.getfield 30, 3) := by decide +kernel
theorem dX2_cellBehind_22 : decode mX2_cellBehind.2.1 22 = .ok (.aload_n 0, 1) := by decide +kernel
theorem dX2_cellBehind_23 : decode mX2_cellBehind.2.1 23 = .ok (.getfield 27, 3) := by decide +kernel
theorem dX2_cellBehind_26 : decode mX2_cellBehind.2.1 26 = .ok (.invokevirtual 38, 3) := by decide +kernel
theorem dX2_cellBehind_29 : decode mX2_cellBehind.2.1 29 = .ok (.pop, 1) := by decide +kernel
theorem dX2_cellBehind_30 : decode mX2_cellBehind.2.1 30 = .ok (.iinc 3 1, 3) := by decide +kernel
theorem dX2_cellBehind_33 : decode mX2_cellBehind.2.1 33 = .ok (.goto (-20), 3) := by decide +kernel
theorem dX2_cellBehind_36 : decode mX2_cellBehind.2.1 36 = .ok (.aload_n 0, 1) := by decide +kernel
theorem dX2_cellBehind_37 : decode mX2_cellBehind.2.1 37 = .ok (.getfield 27, 3) := by decide +kernel
theorem dX2_cellBehind_40 : decode mX2_cellBehind.2.1 40 = .ok (.getfield 44, 3) := by decide +kernel
theorem dX2_cellBehind_43 : decode mX2_cellBehind.2.1 43 = .ok (.bipush 30, 2) := by decide +kernel
theorem dX2_cellBehind_45 : decode mX2_cellBehind.2.1 45 = .ok (.iload_n 1, 1) := by decide +kernel
theorem dX2_cellBehind_46 : decode mX2_cellBehind.2.1 46 = .ok (.iadd, 1) := by decide +kernel
theorem dX2_cellBehind_47 : decode mX2_cellBehind.2.1 47 = .ok (.iaload, 1) := by decide +kernel
theorem dX2_cellBehind_48 : decode mX2_cellBehind.2.1 48 = .ok (.ireturn, 1) := by decide +kernel
abbrev mX2_endOf : gz_M := (yX2_endOf, cX2_endOf, 4, some .int)
theorem dX2_endOf_0 : decode mX2_endOf.2.1 0 = .ok (.aload_n 0, 1) := by decide +kernel
theorem dX2_endOf_1 : decode mX2_endOf.2.1 1 = .ok (.getfield 27, 3) := by decide +kernel
theorem dX2_endOf_4 : decode mX2_endOf.2.1 4 = .ok (.aload_n 0, 1) := by decide +kernel
theorem dX2_endOf_5 : decode mX2_endOf.2.1 5 = .ok (.getfield 23, 3) := by decide +kernel
theorem dX2_endOf_8 : decode mX2_endOf.2.1 8 = .ok (.invokevirtual 34, 3) := by decide +kernel
theorem dX2_endOf_11 : decode mX2_endOf.2.1 11 = .ok (.iconst 0, 1) := by decide +kernel
theorem dX2_endOf_12 : decode mX2_endOf.2.1 12 = .ok (.istore_n 3, 1) := by decide +kernel
theorem dX2_endOf_13 : decode mX2_endOf.2.1 13 = .ok (.iload_n 3, 1) := by decide +kernel
theorem dX2_endOf_14 : decode mX2_endOf.2.1 14 = .ok (.bipush 99, 2) := by decide +kernel
theorem dX2_endOf_16 : decode mX2_endOf.2.1 16 = .ok (.if_icmp .gt 53, 3) := by decide +kernel
theorem dX2_endOf_19 : decode mX2_endOf.2.1 19 = .ok (.aload_n 0, 1) := by decide +kernel
theorem dX2_endOf_20 : decode mX2_endOf.2.1 20 = .ok (.getfield 27, 3) := by decide +kernel
theorem dX2_endOf_23 : decode mX2_endOf.2.1 23 = .ok (.iload_n 1, 1) := by decide +kernel
theorem dX2_endOf_24 : decode mX2_endOf.2.1 24 = .ok (.invokevirtual 51, 3) := by decide +kernel
theorem dX2_endOf_27 : decode mX2_endOf.2.1 27 = .ok (.ifCond .ne 24, 3) := by decide +kernel
theorem dX2_endOf_30 : decode mX2_endOf.2.1 30 = .ok (.iload_n 2, 1) := by decide +kernel
theorem dX2_endOf_31 : decode mX2_endOf.2.1 31 = .ok (.ifCond .ne 7, 3) := by decide +kernel
theorem dX2_endOf_34 : decode mX2_endOf.2.1 34 = .ok (.iload_n 3, 1) := by decide +kernel
theorem dX2_endOf_35 : decode mX2_endOf.2.1 35 = .ok (.goto 15, 3) := by decide +kernel
theorem dX2_endOf_38 : decode mX2_endOf.2.1 38 = .ok (.aload_n 0, 1) := by decide +kernel
theorem dX2_endOf_39 : decode mX2_endOf.2.1 39 = .ok (.getfield 27, 3) := by decide +kernel
theorem dX2_endOf_42 : decode mX2_endOf.2.1 42 = .ok (.getfield 44, 3) := by decide +kernel
theorem dX2_endOf_45 : decode mX2_endOf.2.1 45 = .ok (.bipush 42, 2) := by decide +kernel
theorem dX2_endOf_47 : decode mX2_endOf.2.1 47 = .ok (.iload_n 1, 1) := by decide +kernel
theorem dX2_endOf_48 : decode mX2_endOf.2.1 48 = .ok (.iadd, 1) := by decide +kernel
theorem dX2_endOf_49 : decode mX2_endOf.2.1 49 = .ok (.iaload, 1) := by decide +kernel
theorem dX2_endOf_50 : decode mX2_endOf.2.1 50 = .ok (.ireturn, 1) := by decide +kernel
theorem dX2_endOf_51 : decode mX2_endOf.2.1 51 = .ok (.aload_n 0, 1) := by decide +kernel
theorem dX2_endOf_52 : decode mX2_endOf.2.1 52 = .ok (.getfield 30, 3) := by decide +kernel
theorem dX2_endOf_55 : decode mX2_endOf.2.1 55 = .ok (.aload_n 0, 1) := by decide +kernel
theorem dX2_endOf_56 : decode mX2_endOf.2.1 56 = .ok (.getfield 27, 3) := by decide +kernel
theorem dX2_endOf_59 : decode mX2_endOf.2.1 59 = .ok (.invokevirtual 38, 3) := by decide +kernel
theorem dX2_endOf_62 : decode mX2_endOf.2.1 62 = .ok (.pop, 1) := by decide +kernel
theorem dX2_endOf_63 : decode mX2_endOf.2.1 63 = .ok (.iinc 3 1, 3) := by decide +kernel
theorem dX2_endOf_66 : decode mX2_endOf.2.1 66 = .ok (.goto (-53), 3) := by decide +kernel
theorem dX2_endOf_69 : decode mX2_endOf.2.1 69 = .ok (.iconst (-1), 1) := by decide +kernel
theorem dX2_endOf_70 : decode mX2_endOf.2.1 70 = .ok (.ireturn, 1) := by decide +kernel
abbrev mX2_firstMeeting : gz_M := (yX2_firstMeeting, cX2_firstMeeting, 4, some .int)
theorem dX2_firstMeeting_0 : decode mX2_firstMeeting.2.1 0 = .ok (.aload_n 0, 1) := by decide +kernel
theorem dX2_firstMeeting_1 : decode mX2_firstMeeting.2.1 1 = .ok (.getfield 27, 3) := by decide +kernel
theorem dX2_firstMeeting_4 : decode mX2_firstMeeting.2.1 4 = .ok (.aload_n 0, 1) := by decide +kernel
theorem dX2_firstMeeting_5 : decode mX2_firstMeeting.2.1 5 = .ok (.getfield 23, 3) := by decide +kernel
theorem dX2_firstMeeting_8 : decode mX2_firstMeeting.2.1 8 = .ok (.invokevirtual 34, 3) := by decide +kernel
theorem dX2_firstMeeting_11 : decode mX2_firstMeeting.2.1 11 = .ok (.iconst 1, 1) := by decide +kernel
theorem dX2_firstMeeting_12 : decode mX2_firstMeeting.2.1 12 = .ok (.istore_n 3, 1) := by decide +kernel
theorem dX2_firstMeeting_13 : decode mX2_firstMeeting.2.1 13 = .ok (.iload_n 3, 1) := by decide +kernel
theorem dX2_firstMeeting_14 : decode mX2_firstMeeting.2.1 14 = .ok (.bipush 99, 2) := by decide +kernel
theorem dX2_firstMeeting_16 : decode mX2_firstMeeting.2.1 16 = .ok (.if_icmp .gt 35, 3) := by decide +kernel
theorem dX2_firstMeeting_19 : decode mX2_firstMeeting.2.1 19 = .ok (.aload_n 0, 1) := by decide +kernel
theorem dX2_firstMeeting_20 : decode mX2_firstMeeting.2.1 20 = .ok (.getfield 30, 3) := by decide +kernel
theorem dX2_firstMeeting_23 : decode mX2_firstMeeting.2.1 23 = .ok (.aload_n 0, 1) := by decide +kernel
theorem dX2_firstMeeting_24 : decode mX2_firstMeeting.2.1 24 = .ok (.getfield 27, 3) := by decide +kernel
theorem dX2_firstMeeting_27 : decode mX2_firstMeeting.2.1 27 = .ok (.invokevirtual 38, 3) := by decide +kernel
theorem dX2_firstMeeting_30 : decode mX2_firstMeeting.2.1 30 = .ok (.pop, 1) := by decide +kernel
theorem dX2_firstMeeting_31 : decode mX2_firstMeeting.2.1 31 = .ok (.aload_n 0, 1) := by decide +kernel
theorem dX2_firstMeeting_32 : decode mX2_firstMeeting.2.1 32 = .ok (.getfield 27, 3) := by decide +kernel
theorem dX2_firstMeeting_35 : decode mX2_firstMeeting.2.1 35 = .ok (.iload_n 1, 1) := by decide +kernel
theorem dX2_firstMeeting_36 : decode mX2_firstMeeting.2.1 36 = .ok (.iload_n 2, 1) := by decide +kernel
theorem dX2_firstMeeting_37 : decode mX2_firstMeeting.2.1 37 = .ok (.invokevirtual 47, 3) := by decide +kernel
theorem dX2_firstMeeting_40 : decode mX2_firstMeeting.2.1 40 = .ok (.ifCond .eq 5, 3) := by decide +kernel
theorem dX2_firstMeeting_43 : decode mX2_firstMeeting.2.1 43 = .ok (.iload_n 3, 1) := by decide +kernel
theorem dX2_firstMeeting_44 : decode mX2_firstMeeting.2.1 44 = .ok (.ireturn, 1) := by decide +kernel
theorem dX2_firstMeeting_45 : decode mX2_firstMeeting.2.1 45 = .ok (.iinc 3 1, 3) := by decide +kernel
theorem dX2_firstMeeting_48 : decode mX2_firstMeeting.2.1 48 = .ok (.goto (-35), 3) := by decide +kernel
theorem dX2_firstMeeting_51 : decode mX2_firstMeeting.2.1 51 = .ok (.iconst (-1), 1) := by decide +kernel
theorem dX2_firstMeeting_52 : decode mX2_firstMeeting.2.1 52 = .ok (.ireturn, 1) := by decide +kernel
abbrev mX2_isFree : gz_M := (yX2_isFree, cX2_isFree, 2, some .boolean)
theorem dX2_isFree_0 : decode mX2_isFree.2.1 0 = .ok (.aload_n 0, 1) := by decide +kernel
theorem dX2_isFree_1 : decode mX2_isFree.2.1 1 = .ok (.getfield 23, 3) := by decide +kernel
theorem dX2_isFree_4 : decode mX2_isFree.2.1 4 = .ok (.iload_n 1, 1) := by decide +kernel
theorem dX2_isFree_5 : decode mX2_isFree.2.1 5 = .ok (.invokevirtual 76, 3) := by decide +kernel
theorem dX2_isFree_8 : decode mX2_isFree.2.1 8 = .ok (.ifCond .ne 18, 3) := by decide +kernel
theorem dX2_isFree_11 : decode mX2_isFree.2.1 11 = .ok (.aload_n 0, 1) := by decide +kernel
theorem dX2_isFree_12 : decode mX2_isFree.2.1 12 = .ok (.getfield 23, 3) := by decide +kernel
theorem dX2_isFree_15 : decode mX2_isFree.2.1 15 = .ok (.iload_n 1, 1) := by decide +kernel
theorem dX2_isFree_16 : decode mX2_isFree.2.1 16 = .ok (.invokevirtual 80, 3) := by decide +kernel
theorem dX2_isFree_19 : decode mX2_isFree.2.1 19 = .ok (.ifCond .ne 7, 3) := by decide +kernel
theorem dX2_isFree_22 : decode mX2_isFree.2.1 22 = .ok (.iconst 1, 1) := by decide +kernel
theorem dX2_isFree_23 : decode mX2_isFree.2.1 23 = .ok (.goto 4, 3) := by decide +kernel
theorem dX2_isFree_26 : decode mX2_isFree.2.1 26 = .ok (.iconst 0, 1) := by decide +kernel
theorem dX2_isFree_27 : decode mX2_isFree.2.1 27 = .ok (.ireturn, 1) := by decide +kernel
abbrev mX2_isRest : gz_M := (yX2_isRest, cX2_isRest, 4, some .boolean)
theorem dX2_isRest_0 : decode mX2_isRest.2.1 0 = .ok (.iconst 0, 1) := by decide +kernel
theorem dX2_isRest_1 : decode mX2_isRest.2.1 1 = .ok (.istore_n 3, 1) := by decide +kernel
theorem dX2_isRest_2 : decode mX2_isRest.2.1 2 = .ok (.iload_n 3, 1) := by decide +kernel
theorem dX2_isRest_3 : decode mX2_isRest.2.1 3 = .ok (.iconst 4, 1) := by decide +kernel
theorem dX2_isRest_4 : decode mX2_isRest.2.1 4 = .ok (.if_icmp .ge 57, 3) := by decide +kernel
theorem dX2_isRest_7 : decode mX2_isRest.2.1 7 = .ok (.aload_n 0, 1) := by decide +kernel
theorem dX2_isRest_8 : decode mX2_isRest.2.1 8 = .ok (.getfield 17, 3) := by decide +kernel
theorem dX2_isRest_11 : decode mX2_isRest.2.1 11 = .ok (.iload_n 3, 1) := by decide +kernel
theorem dX2_isRest_12 : decode mX2_isRest.2.1 12 = .ok (.iconst 4, 1) := by decide +kernel
theorem dX2_isRest_13 : decode mX2_isRest.2.1 13 = .ok (.imul, 1) := by decide +kernel
theorem dX2_isRest_14 : decode mX2_isRest.2.1 14 = .ok (.iload_n 2, 1) := by decide +kernel
theorem dX2_isRest_15 : decode mX2_isRest.2.1 15 = .ok (.iadd, 1) := by decide +kernel
theorem dX2_isRest_16 : decode mX2_isRest.2.1 16 = .ok (.iaload, 1) := by decide +kernel
theorem dX2_isRest_17 : decode mX2_isRest.2.1 17 = .ok (.aload_n 0, 1) := by decide +kernel
theorem dX2_isRest_18 : decode mX2_isRest.2.1 18 = .ok (.getfield 17, 3) := by decide +kernel
theorem dX2_isRest_21 : decode mX2_isRest.2.1 21 = .ok (.iload_n 1, 1) := by decide +kernel
theorem dX2_isRest_22 : decode mX2_isRest.2.1 22 = .ok (.iconst 4, 1) := by decide +kernel
theorem dX2_isRest_23 : decode mX2_isRest.2.1 23 = .ok (.imul, 1) := by decide +kernel
theorem dX2_isRest_24 : decode mX2_isRest.2.1 24 = .ok (.iload_n 2, 1) := by decide +kernel
theorem dX2_isRest_25 : decode mX2_isRest.2.1 25 = .ok (.iadd, 1) := by decide +kernel
theorem dX2_isRest_26 : decode mX2_isRest.2.1 26 = .ok (.iaload, 1) := by decide +kernel
theorem dX2_isRest_27 : decode mX2_isRest.2.1 27 = .ok (.if_icmp .gt 26, 3) := by decide +kernel
theorem dX2_isRest_30 : decode mX2_isRest.2.1 30 = .ok (.aload_n 0, 1) := by decide +kernel
theorem dX2_isRest_31 : decode mX2_isRest.2.1 31 = .ok (.getfield 20, 3) := by decide +kernel
theorem dX2_isRest_34 : decode mX2_isRest.2.1 34 = .ok (.iload_n 1, 1) := by decide +kernel
theorem dX2_isRest_35 : decode mX2_isRest.2.1 35 = .ok (.iconst 4, 1) := by decide +kernel
theorem dX2_isRest_36 : decode mX2_isRest.2.1 36 = .ok (.imul, 1) := by decide +kernel
theorem dX2_isRest_37 : decode mX2_isRest.2.1 37 = .ok (.iload_n 3, 1) := by decide +kernel
theorem dX2_isRest_38 : decode mX2_isRest.2.1 38 = .ok (.iadd, 1) := by decide +kernel
theorem dX2_isRest_39 : decode mX2_isRest.2.1 39 = .ok (.iaload, 1) := by decide +kernel
theorem dX2_isRest_40 : decode mX2_isRest.2.1 40 = .ok (.aload_n 0, 1) := by decide +kernel
theorem dX2_isRest_41 : decode mX2_isRest.2.1 41 = .ok (.getfield 20, 3) := by decide +kernel
theorem dX2_isRest_44 : decode mX2_isRest.2.1 44 = .ok (.iload_n 1, 1) := by decide +kernel
theorem dX2_isRest_45 : decode mX2_isRest.2.1 45 = .ok (.iconst 4, 1) := by decide +kernel
theorem dX2_isRest_46 : decode mX2_isRest.2.1 46 = .ok (.imul, 1) := by decide +kernel
theorem dX2_isRest_47 : decode mX2_isRest.2.1 47 = .ok (.iload_n 2, 1) := by decide +kernel
theorem dX2_isRest_48 : decode mX2_isRest.2.1 48 = .ok (.iadd, 1) := by decide +kernel
theorem dX2_isRest_49 : decode mX2_isRest.2.1 49 = .ok (.iaload, 1) := by decide +kernel
theorem dX2_isRest_50 : decode mX2_isRest.2.1 50 = .ok (.if_icmp .le 5, 3) := by decide +kernel
theorem dX2_isRest_53 : decode mX2_isRest.2.1 53 = .ok (.iconst 0, 1) := by decide +kernel
theorem dX2_isRest_54 : decode mX2_isRest.2.1 54 = .ok (.ireturn, 1) := by decide +kernel
theorem dX2_isRest_55 : decode mX2_isRest.2.1 55 = .ok (.iinc 3 1, 3) := by decide +kernel
theorem dX2_isRest_58 : decode mX2_isRest.2.1 58 = .ok (.goto (-56), 3) := by decide +kernel
theorem dX2_isRest_61 : decode mX2_isRest.2.1 61 = .ok (.iconst 1, 1) := by decide +kernel
theorem dX2_isRest_62 : decode mX2_isRest.2.1 62 = .ok (.ireturn, 1) := by decide +kernel
abbrev mX2_keepsApart : gz_M := (yX2_keepsApart, cX2_keepsApart, 7, some .boolean)
theorem dX2_keepsApart_0 : decode mX2_keepsApart.2.1 0 = .ok (.aload_n 0, 1) := by decide +kernel
theorem dX2_keepsApart_1 : decode mX2_keepsApart.2.1 1 = .ok (.getfield 27, 3) := by decide +kernel
theorem dX2_keepsApart_4 : decode mX2_keepsApart.2.1 4 = .ok (.aload_n 0, 1) := by decide +kernel
theorem dX2_keepsApart_5 : decode mX2_keepsApart.2.1 5 = .ok (.getfield 23, 3) := by decide +kernel
theorem dX2_keepsApart_8 : decode mX2_keepsApart.2.1 8 = .ok (.invokevirtual 34, 3) := by decide +kernel
theorem dX2_keepsApart_11 : decode mX2_keepsApart.2.1 11 = .ok (.aload_n 0, 1) := by decide +kernel
theorem dX2_keepsApart_12 : decode mX2_keepsApart.2.1 12 = .ok (.iload 4, 2) := by decide +kernel
theorem dX2_keepsApart_14 : decode mX2_keepsApart.2.1 14 = .ok (.invokevirtual 83, 3) := by decide +kernel
theorem dX2_keepsApart_17 : decode mX2_keepsApart.2.1 17 = .ok (.aload_n 0, 1) := by decide +kernel
theorem dX2_keepsApart_18 : decode mX2_keepsApart.2.1 18 = .ok (.iload 5, 2) := by decide +kernel
theorem dX2_keepsApart_20 : decode mX2_keepsApart.2.1 20 = .ok (.invokevirtual 83, 3) := by decide +kernel
theorem dX2_keepsApart_23 : decode mX2_keepsApart.2.1 23 = .ok (.aload_n 0, 1) := by decide +kernel
theorem dX2_keepsApart_24 : decode mX2_keepsApart.2.1 24 = .ok (.getfield 30, 3) := by decide +kernel
theorem dX2_keepsApart_27 : decode mX2_keepsApart.2.1 27 = .ok (.iconst 0, 1) := by decide +kernel
theorem dX2_keepsApart_28 : decode mX2_keepsApart.2.1 28 = .ok (.putfield 62, 3) := by decide +kernel
theorem dX2_keepsApart_31 : decode mX2_keepsApart.2.1 31 = .ok (.iconst 0, 1) := by decide +kernel
theorem dX2_keepsApart_32 : decode mX2_keepsApart.2.1 32 = .ok (.istore 6, 2) := by decide +kernel
theorem dX2_keepsApart_34 : decode mX2_keepsApart.2.1 34 = .ok (.iload 6, 2) := by decide +kernel
theorem dX2_keepsApart_36 : decode mX2_keepsApart.2.1 36 = .ok (.iload_n 3, 1) := by decide +kernel
theorem dX2_keepsApart_37 : decode mX2_keepsApart.2.1 37 = .ok (.if_icmp .ge 35, 3) := by decide +kernel
theorem dX2_keepsApart_40 : decode mX2_keepsApart.2.1 40 = .ok (.aload_n 0, 1) := by decide +kernel
theorem dX2_keepsApart_41 : decode mX2_keepsApart.2.1 41 = .ok (.getfield 30, 3) := by decide +kernel
theorem dX2_keepsApart_44 : decode mX2_keepsApart.2.1 44 = .ok (.aload_n 0, 1) := by decide +kernel
theorem dX2_keepsApart_45 : decode mX2_keepsApart.2.1 45 = .ok (.getfield 27, 3) := by decide +kernel
theorem dX2_keepsApart_48 : decode mX2_keepsApart.2.1 48 = .ok (.invokevirtual 38, 3) := by decide +kernel
theorem dX2_keepsApart_51 : decode mX2_keepsApart.2.1 51 = .ok (.pop, 1) := by decide +kernel
theorem dX2_keepsApart_52 : decode mX2_keepsApart.2.1 52 = .ok (.aload_n 0, 1) := by decide +kernel
theorem dX2_keepsApart_53 : decode mX2_keepsApart.2.1 53 = .ok (.getfield 27, 3) := by decide +kernel
theorem dX2_keepsApart_56 : decode mX2_keepsApart.2.1 56 = .ok (.iload_n 1, 1) := by decide +kernel
theorem dX2_keepsApart_57 : decode mX2_keepsApart.2.1 57 = .ok (.iload_n 2, 1) := by decide +kernel
theorem dX2_keepsApart_58 : decode mX2_keepsApart.2.1 58 = .ok (.invokevirtual 47, 3) := by decide +kernel
theorem dX2_keepsApart_61 : decode mX2_keepsApart.2.1 61 = .ok (.ifCond .eq 5, 3) := by decide +kernel
theorem dX2_keepsApart_64 : decode mX2_keepsApart.2.1 64 = .ok (.iconst 0, 1) := by decide +kernel
theorem dX2_keepsApart_65 : decode mX2_keepsApart.2.1 65 = .ok (.ireturn, 1) := by decide +kernel
theorem dX2_keepsApart_66 : decode mX2_keepsApart.2.1 66 = .ok (.iinc 6 1, 3) := by decide +kernel
theorem dX2_keepsApart_69 : decode mX2_keepsApart.2.1 69 = .ok (.goto (-35), 3) := by decide +kernel
theorem dX2_keepsApart_72 : decode mX2_keepsApart.2.1 72 = .ok (.iconst 1, 1) := by decide +kernel
theorem dX2_keepsApart_73 : decode mX2_keepsApart.2.1 73 = .ok (.ireturn, 1) := by decide +kernel
abbrev mX2_layRock : gz_M := (yX2_layRock, cX2_layRock, 2, none)
theorem dX2_layRock_0 : decode mX2_layRock.2.1 0 = .ok (.iload_n 1, 1) := by decide +kernel
theorem dX2_layRock_1 : decode mX2_layRock.2.1 1 = .ok (.iconst (-1), 1) := by decide +kernel
theorem dX2_layRock_2 : decode mX2_layRock.2.1 2 = .ok (.if_icmp .eq 15, 3) := by decide +kernel
theorem dX2_layRock_5 : decode mX2_layRock.2.1 5 = .ok (.aload_n 0, 1) := by decide +kernel
theorem dX2_layRock_6 : decode mX2_layRock.2.1 6 = .ok (.getfield 27, 3) := by decide +kernel
theorem dX2_layRock_9 : decode mX2_layRock.2.1 9 = .ok (.getfield 44, 3) := by decide +kernel
theorem dX2_layRock_12 : decode mX2_layRock.2.1 12 = .ok (.iconst 0, 1) := by decide +kernel
theorem dX2_layRock_13 : decode mX2_layRock.2.1 13 = .ok (.iload_n 1, 1) := by decide +kernel
theorem dX2_layRock_14 : decode mX2_layRock.2.1 14 = .ok (.iadd, 1) := by decide +kernel
theorem dX2_layRock_15 : decode mX2_layRock.2.1 15 = .ok (.iconst 1, 1) := by decide +kernel
theorem dX2_layRock_16 : decode mX2_layRock.2.1 16 = .ok (.iastore, 1) := by decide +kernel
theorem dX2_layRock_17 : decode mX2_layRock.2.1 17 = .ok (.return_, 1) := by decide +kernel
abbrev mX2_nthBit : gz_M := (yX2_nthBit, cX2_nthBit, 4, some .int)
theorem dX2_nthBit_0 : decode mX2_nthBit.2.1 0 = .ok (.iload_n 1, 1) := by decide +kernel
theorem dX2_nthBit_1 : decode mX2_nthBit.2.1 1 = .ok (.istore_n 2, 1) := by decide +kernel
theorem dX2_nthBit_2 : decode mX2_nthBit.2.1 2 = .ok (.iconst 0, 1) := by decide +kernel
theorem dX2_nthBit_3 : decode mX2_nthBit.2.1 3 = .ok (.istore_n 3, 1) := by decide +kernel
theorem dX2_nthBit_4 : decode mX2_nthBit.2.1 4 = .ok (.iload_n 3, 1) := by decide +kernel
theorem dX2_nthBit_5 : decode mX2_nthBit.2.1 5 = .ok (.bipush 16, 2) := by decide +kernel
theorem dX2_nthBit_7 : decode mX2_nthBit.2.1 7 = .ok (.if_icmp .ge 30, 3) := by decide +kernel
theorem dX2_nthBit_10 : decode mX2_nthBit.2.1 10 = .ok (.iload_n 2, 1) := by decide +kernel
theorem dX2_nthBit_11 : decode mX2_nthBit.2.1 11 = .ok (.ifCond .lt 26, 3) := by decide +kernel
theorem dX2_nthBit_14 : decode mX2_nthBit.2.1 14 = .ok (.iload_n 0, 1) := by decide +kernel
theorem dX2_nthBit_15 : decode mX2_nthBit.2.1 15 = .ok (.iload_n 3, 1) := by decide +kernel
theorem dX2_nthBit_16 : decode mX2_nthBit.2.1 16 = .ok (.ishr, 1) := by decide +kernel
theorem dX2_nthBit_17 : decode mX2_nthBit.2.1 17 = .ok (.iconst 1, 1) := by decide +kernel
theorem dX2_nthBit_18 : decode mX2_nthBit.2.1 18 = .ok (.iand, 1) := by decide +kernel
theorem dX2_nthBit_19 : decode mX2_nthBit.2.1 19 = .ok (.ifCond .eq 12, 3) := by decide +kernel
theorem dX2_nthBit_22 : decode mX2_nthBit.2.1 22 = .ok (.iload_n 2, 1) := by decide +kernel
theorem dX2_nthBit_23 : decode mX2_nthBit.2.1 23 = .ok (.ifCond .ne 5, 3) := by decide +kernel
theorem dX2_nthBit_26 : decode mX2_nthBit.2.1 26 = .ok (.iload_n 3, 1) := by decide +kernel
theorem dX2_nthBit_27 : decode mX2_nthBit.2.1 27 = .ok (.ireturn, 1) := by decide +kernel
theorem dX2_nthBit_28 : decode mX2_nthBit.2.1 28 = .ok (.iinc 2 (-1), 3) := by decide +kernel
theorem dX2_nthBit_31 : decode mX2_nthBit.2.1 31 = .ok (.iinc 3 1, 3) := by decide +kernel
theorem dX2_nthBit_34 : decode mX2_nthBit.2.1 34 = .ok (.goto (-30), 3) := by decide +kernel
theorem dX2_nthBit_37 : decode mX2_nthBit.2.1 37 = .ok (.iconst (-1), 1) := by decide +kernel
theorem dX2_nthBit_38 : decode mX2_nthBit.2.1 38 = .ok (.ireturn, 1) := by decide +kernel
abbrev mX2_oneStone : gz_M := (yX2_oneStone, cX2_oneStone, 5, some .int)
theorem dX2_oneStone_0 : decode mX2_oneStone.2.1 0 = .ok (.iconst 0, 1) := by decide +kernel
theorem dX2_oneStone_1 : decode mX2_oneStone.2.1 1 = .ok (.istore 4, 2) := by decide +kernel
theorem dX2_oneStone_3 : decode mX2_oneStone.2.1 3 = .ok (.iload 4, 2) := by decide +kernel
theorem dX2_oneStone_5 : decode mX2_oneStone.2.1 5 = .ok (.aload_n 0, 1) := by decide +kernel
theorem dX2_oneStone_6 : decode mX2_oneStone.2.1 6 = .ok (.getfield 23, 3) := by decide +kernel
theorem dX2_oneStone_9 : decode mX2_oneStone.2.1 9 = .ok (.invokevirtual 69, 3) := by decide +kernel
theorem dX2_oneStone_12 : decode mX2_oneStone.2.1 12 = .ok (.if_icmp .ge 68, 3) := by decide +kernel
theorem dX2_oneStone_15 : decode mX2_oneStone.2.1 15 = .ok (.aload_n 0, 1) := by decide +kernel
theorem dX2_oneStone_16 : decode mX2_oneStone.2.1 16 = .ok (.getfield 11, 3) := by decide +kernel
theorem dX2_oneStone_19 : decode mX2_oneStone.2.1 19 = .ok (.iload 4, 2) := by decide +kernel
theorem dX2_oneStone_21 : decode mX2_oneStone.2.1 21 = .ok (.iconst (-1), 1) := by decide +kernel
theorem dX2_oneStone_22 : decode mX2_oneStone.2.1 22 = .ok (.iastore, 1) := by decide +kernel
theorem dX2_oneStone_23 : decode mX2_oneStone.2.1 23 = .ok (.aload_n 0, 1) := by decide +kernel
theorem dX2_oneStone_24 : decode mX2_oneStone.2.1 24 = .ok (.getfield 66, 3) := by decide +kernel
theorem dX2_oneStone_27 : decode mX2_oneStone.2.1 27 = .ok (.iload 4, 2) := by decide +kernel
theorem dX2_oneStone_29 : decode mX2_oneStone.2.1 29 = .ok (.ishr, 1) := by decide +kernel
theorem dX2_oneStone_30 : decode mX2_oneStone.2.1 30 = .ok (.iconst 1, 1) := by decide +kernel
theorem dX2_oneStone_31 : decode mX2_oneStone.2.1 31 = .ok (.iand, 1) := by decide +kernel
theorem dX2_oneStone_32 : decode mX2_oneStone.2.1 32 = .ok (.ifCond .eq 42, 3) := by decide +kernel
theorem dX2_oneStone_35 : decode mX2_oneStone.2.1 35 = .ok (.aload_n 0, 1) := by decide +kernel
theorem dX2_oneStone_36 : decode mX2_oneStone.2.1 36 = .ok (.iload 4, 2) := by decide +kernel
theorem dX2_oneStone_38 : decode mX2_oneStone.2.1 38 = .ok (.invokevirtual 73, 3) := by decide +kernel
theorem dX2_oneStone_41 : decode mX2_oneStone.2.1 41 = .ok (.ifCond .eq 33, 3) := by decide +kernel
theorem dX2_oneStone_44 : decode mX2_oneStone.2.1 44 = .ok (.aload_n 0, 1) := by decide +kernel
theorem dX2_oneStone_45 : decode mX2_oneStone.2.1 45 = .ok (.iload_n 1, 1) := by decide +kernel
theorem dX2_oneStone_46 : decode mX2_oneStone.2.1 46 = .ok (.iload_n 2, 1) := by decide +kernel
theorem dX2_oneStone_47 : decode mX2_oneStone.2.1 47 = .ok (.iload_n 3, 1) := by decide +kernel
theorem dX2_oneStone_48 : decode mX2_oneStone.2.1 48 = .ok (.iload 4, 2) := by decide +kernel
theorem dX2_oneStone_50 : decode mX2_oneStone.2.1 50 = .ok (.iconst (-1), 1) := by decide +kernel
theorem dX2_oneStone_51 : decode mX2_oneStone.2.1 51 = .ok (.invokevirtual 58, 3) := by decide +kernel
theorem dX2_oneStone_54 : decode mX2_oneStone.2.1 54 = .ok (.ifCond .eq 6, 3) := by decide +kernel
theorem dX2_oneStone_57 : decode mX2_oneStone.2.1 57 = .ok (.iload 4, 2) := by decide +kernel
theorem dX2_oneStone_59 : decode mX2_oneStone.2.1 59 = .ok (.ireturn, 1) := by decide +kernel
theorem dX2_oneStone_60 : decode mX2_oneStone.2.1 60 = .ok (.aload_n 0, 1) := by decide +kernel
theorem dX2_oneStone_61 : decode mX2_oneStone.2.1 61 = .ok (.getfield 11, 3) := by decide +kernel
theorem dX2_oneStone_64 : decode mX2_oneStone.2.1 64 = .ok (.iload 4, 2) := by decide +kernel
theorem dX2_oneStone_66 : decode mX2_oneStone.2.1 66 = .ok (.aload_n 0, 1) := by decide +kernel
theorem dX2_oneStone_67 : decode mX2_oneStone.2.1 67 = .ok (.getfield 30, 3) := by decide +kernel
theorem dX2_oneStone_70 : decode mX2_oneStone.2.1 70 = .ok (.getfield 62, 3) := by decide +kernel
theorem dX2_oneStone_73 : decode mX2_oneStone.2.1 73 = .ok (.iastore, 1) := by decide +kernel
theorem dX2_oneStone_74 : decode mX2_oneStone.2.1 74 = .ok (.iinc 4 1, 3) := by decide +kernel
theorem dX2_oneStone_77 : decode mX2_oneStone.2.1 77 = .ok (.goto (-74), 3) := by decide +kernel
theorem dX2_oneStone_80 : decode mX2_oneStone.2.1 80 = .ok (.iconst (-1), 1) := by decide +kernel
theorem dX2_oneStone_81 : decode mX2_oneStone.2.1 81 = .ok (.ireturn, 1) := by decide +kernel
abbrev mX2_partsOf : gz_M := (yX2_partsOf, cX2_partsOf, 8, some .int)
theorem dX2_partsOf_0 : decode mX2_partsOf.2.1 0 = .ok (.aload_n 0, 1) := by decide +kernel
theorem dX2_partsOf_1 : decode mX2_partsOf.2.1 1 = .ok (.getfield 27, 3) := by decide +kernel
theorem dX2_partsOf_4 : decode mX2_partsOf.2.1 4 = .ok (.aload_n 0, 1) := by decide +kernel
theorem dX2_partsOf_5 : decode mX2_partsOf.2.1 5 = .ok (.getfield 23, 3) := by decide +kernel
theorem dX2_partsOf_8 : decode mX2_partsOf.2.1 8 = .ok (.invokevirtual 34, 3) := by decide +kernel
theorem dX2_partsOf_11 : decode mX2_partsOf.2.1 11 = .ok (.ldc 113, 2) := by decide +kernel
theorem dX2_partsOf_13 : decode mX2_partsOf.2.1 13 = .ok (.istore 5, 2) := by decide +kernel
theorem dX2_partsOf_15 : decode mX2_partsOf.2.1 15 = .ok (.iconst 0, 1) := by decide +kernel
theorem dX2_partsOf_16 : decode mX2_partsOf.2.1 16 = .ok (.istore 6, 2) := by decide +kernel
theorem dX2_partsOf_18 : decode mX2_partsOf.2.1 18 = .ok (.iload 6, 2) := by decide +kernel
theorem dX2_partsOf_20 : decode mX2_partsOf.2.1 20 = .ok (.iload_n 3, 1) := by decide +kernel
theorem dX2_partsOf_21 : decode mX2_partsOf.2.1 21 = .ok (.if_icmp .ge 106, 3) := by decide +kernel
theorem dX2_partsOf_24 : decode mX2_partsOf.2.1 24 = .ok (.iload 5, 2) := by decide +kernel
theorem dX2_partsOf_26 : decode mX2_partsOf.2.1 26 = .ok (.ifCond .le 101, 3) := by decide +kernel
theorem dX2_partsOf_29 : decode mX2_partsOf.2.1 29 = .ok (.aload_n 0, 1) := by decide +kernel
theorem dX2_partsOf_30 : decode mX2_partsOf.2.1 30 = .ok (.getfield 27, 3) := by decide +kernel
theorem dX2_partsOf_33 : decode mX2_partsOf.2.1 33 = .ok (.iload_n 2, 1) := by decide +kernel
theorem dX2_partsOf_34 : decode mX2_partsOf.2.1 34 = .ok (.invokevirtual 51, 3) := by decide +kernel
theorem dX2_partsOf_37 : decode mX2_partsOf.2.1 37 = .ok (.ifCond .eq 18, 3) := by decide +kernel
theorem dX2_partsOf_40 : decode mX2_partsOf.2.1 40 = .ok (.iload 5, 2) := by decide +kernel
theorem dX2_partsOf_42 : decode mX2_partsOf.2.1 42 = .ok (.i2l, 1) := by decide +kernel
theorem dX2_partsOf_43 : decode mX2_partsOf.2.1 43 = .ok (.iload 4, 2) := by decide +kernel
theorem dX2_partsOf_45 : decode mX2_partsOf.2.1 45 = .ok (.i2l, 1) := by decide +kernel
theorem dX2_partsOf_46 : decode mX2_partsOf.2.1 46 = .ok (.lmul, 1) := by decide +kernel
theorem dX2_partsOf_47 : decode mX2_partsOf.2.1 47 = .ok (.ldc2_w 114, 3) := by decide +kernel
theorem dX2_partsOf_50 : decode mX2_partsOf.2.1 50 = .ok (.ldiv, 1) := by decide +kernel
theorem dX2_partsOf_51 : decode mX2_partsOf.2.1 51 = .ok (.l2i, 1) := by decide +kernel
theorem dX2_partsOf_52 : decode mX2_partsOf.2.1 52 = .ok (.goto 4, 3) := by decide +kernel
theorem dX2_partsOf_55 : decode mX2_partsOf.2.1 55 = .ok (.iconst 0, 1) := by decide +kernel
theorem dX2_partsOf_56 : decode mX2_partsOf.2.1 56 = .ok (.istore 7, 2) := by decide +kernel
theorem dX2_partsOf_58 : decode mX2_partsOf.2.1 58 = .ok (.iload_n 1, 1) := by decide +kernel
theorem dX2_partsOf_59 : decode mX2_partsOf.2.1 59 = .ok (.iload 6, 2) := by decide +kernel
theorem dX2_partsOf_61 : decode mX2_partsOf.2.1 61 = .ok (.ishr, 1) := by decide +kernel
theorem dX2_partsOf_62 : decode mX2_partsOf.2.1 62 = .ok (.iconst 1, 1) := by decide +kernel
theorem dX2_partsOf_63 : decode mX2_partsOf.2.1 63 = .ok (.iand, 1) := by decide +kernel
theorem dX2_partsOf_64 : decode mX2_partsOf.2.1 64 = .ok (.ifCond .eq 38, 3) := by decide +kernel
theorem dX2_partsOf_67 : decode mX2_partsOf.2.1 67 = .ok (.iload 7, 2) := by decide +kernel
theorem dX2_partsOf_69 : decode mX2_partsOf.2.1 69 = .ok (.istore 5, 2) := by decide +kernel
theorem dX2_partsOf_71 : decode mX2_partsOf.2.1 71 = .ok (.aload_n 0, 1) := by decide +kernel
theorem dX2_partsOf_72 : decode mX2_partsOf.2.1 72 = .ok (.getfield 27, 3) := by decide +kernel
theorem dX2_partsOf_75 : decode mX2_partsOf.2.1 75 = .ok (.getfield 44, 3) := by decide +kernel
theorem dX2_partsOf_78 : decode mX2_partsOf.2.1 78 = .ok (.bipush 34, 2) := by decide +kernel
theorem dX2_partsOf_80 : decode mX2_partsOf.2.1 80 = .ok (.iload_n 2, 1) := by decide +kernel
theorem dX2_partsOf_81 : decode mX2_partsOf.2.1 81 = .ok (.iadd, 1) := by decide +kernel
theorem dX2_partsOf_82 : decode mX2_partsOf.2.1 82 = .ok (.aload_n 0, 1) := by decide +kernel
theorem dX2_partsOf_83 : decode mX2_partsOf.2.1 83 = .ok (.getfield 27, 3) := by decide +kernel
theorem dX2_partsOf_86 : decode mX2_partsOf.2.1 86 = .ok (.getfield 44, 3) := by decide +kernel
theorem dX2_partsOf_89 : decode mX2_partsOf.2.1 89 = .ok (.bipush 34, 2) := by decide +kernel
theorem dX2_partsOf_91 : decode mX2_partsOf.2.1 91 = .ok (.iload_n 2, 1) := by decide +kernel
theorem dX2_partsOf_92 : decode mX2_partsOf.2.1 92 = .ok (.iadd, 1) := by decide +kernel
theorem dX2_partsOf_93 : decode mX2_partsOf.2.1 93 = .ok (.iaload, 1) := by decide +kernel
theorem dX2_partsOf_94 : decode mX2_partsOf.2.1 94 = .ok (.iconst 1, 1) := by decide +kernel
theorem dX2_partsOf_95 : decode mX2_partsOf.2.1 95 = .ok (.iadd, 1) := by decide +kernel
theorem dX2_partsOf_96 : decode mX2_partsOf.2.1 96 = .ok (.iconst 3, 1) := by decide +kernel
theorem dX2_partsOf_97 : decode mX2_partsOf.2.1 97 = .ok (.iand, 1) := by decide +kernel
theorem dX2_partsOf_98 : decode mX2_partsOf.2.1 98 = .ok (.iastore, 1) := by decide +kernel
theorem dX2_partsOf_99 : decode mX2_partsOf.2.1 99 = .ok (.goto 10, 3) := by decide +kernel
theorem dX2_partsOf_102 : decode mX2_partsOf.2.1 102 = .ok (.iload 5, 2) := by decide +kernel
theorem dX2_partsOf_104 : decode mX2_partsOf.2.1 104 = .ok (.iload 7, 2) := by decide +kernel
theorem dX2_partsOf_106 : decode mX2_partsOf.2.1 106 = .ok (.isub, 1) := by decide +kernel
theorem dX2_partsOf_107 : decode mX2_partsOf.2.1 107 = .ok (.istore 5, 2) := by decide +kernel
theorem dX2_partsOf_109 : decode mX2_partsOf.2.1 109 = .ok (.aload_n 0, 1) := by decide +kernel
theorem dX2_partsOf_110 : decode mX2_partsOf.2.1 110 = .ok (.getfield 30, 3) := by decide +kernel
theorem dX2_partsOf_113 : decode mX2_partsOf.2.1 113 = .ok (.aload_n 0, 1) := by decide +kernel
theorem dX2_partsOf_114 : decode mX2_partsOf.2.1 114 = .ok (.getfield 27, 3) := by decide +kernel
theorem dX2_partsOf_117 : decode mX2_partsOf.2.1 117 = .ok (.invokevirtual 38, 3) := by decide +kernel
theorem dX2_partsOf_120 : decode mX2_partsOf.2.1 120 = .ok (.pop, 1) := by decide +kernel
theorem dX2_partsOf_121 : decode mX2_partsOf.2.1 121 = .ok (.iinc 6 1, 3) := by decide +kernel
theorem dX2_partsOf_124 : decode mX2_partsOf.2.1 124 = .ok (.goto (-106), 3) := by decide +kernel
theorem dX2_partsOf_127 : decode mX2_partsOf.2.1 127 = .ok (.iload 5, 2) := by decide +kernel
theorem dX2_partsOf_129 : decode mX2_partsOf.2.1 129 = .ok (.ireturn, 1) := by decide +kernel
abbrev mX2_partsOn : gz_M := (yX2_partsOn, cX2_partsOn, 8, some .int)
theorem dX2_partsOn_0 : decode mX2_partsOn.2.1 0 = .ok (.iconst 0, 1) := by decide +kernel
theorem dX2_partsOn_1 : decode mX2_partsOn.2.1 1 = .ok (.istore 5, 2) := by decide +kernel
theorem dX2_partsOn_3 : decode mX2_partsOn.2.1 3 = .ok (.iconst 0, 1) := by decide +kernel
theorem dX2_partsOn_4 : decode mX2_partsOn.2.1 4 = .ok (.istore 6, 2) := by decide +kernel
theorem dX2_partsOn_6 : decode mX2_partsOn.2.1 6 = .ok (.iload 6, 2) := by decide +kernel
theorem dX2_partsOn_8 : decode mX2_partsOn.2.1 8 = .ok (.iconst 1, 1) := by decide +kernel
theorem dX2_partsOn_9 : decode mX2_partsOn.2.1 9 = .ok (.iload_n 3, 1) := by decide +kernel
theorem dX2_partsOn_10 : decode mX2_partsOn.2.1 10 = .ok (.ishl, 1) := by decide +kernel
theorem dX2_partsOn_11 : decode mX2_partsOn.2.1 11 = .ok (.if_icmp .ge 44, 3) := by decide +kernel
theorem dX2_partsOn_14 : decode mX2_partsOn.2.1 14 = .ok (.aload_n 0, 1) := by decide +kernel
theorem dX2_partsOn_15 : decode mX2_partsOn.2.1 15 = .ok (.iload 6, 2) := by decide +kernel
theorem dX2_partsOn_17 : decode mX2_partsOn.2.1 17 = .ok (.iload_n 1, 1) := by decide +kernel
theorem dX2_partsOn_18 : decode mX2_partsOn.2.1 18 = .ok (.iload_n 3, 1) := by decide +kernel
theorem dX2_partsOn_19 : decode mX2_partsOn.2.1 19 = .ok (.iload 4, 2) := by decide +kernel
theorem dX2_partsOn_21 : decode mX2_partsOn.2.1 21 = .ok (.invokevirtual 109, 3) := by decide +kernel
theorem dX2_partsOn_24 : decode mX2_partsOn.2.1 24 = .ok (.istore 7, 2) := by decide +kernel
theorem dX2_partsOn_26 : decode mX2_partsOn.2.1 26 = .ok (.aload_n 0, 1) := by decide +kernel
theorem dX2_partsOn_27 : decode mX2_partsOn.2.1 27 = .ok (.getfield 27, 3) := by decide +kernel
theorem dX2_partsOn_30 : decode mX2_partsOn.2.1 30 = .ok (.getfield 44, 3) := by decide +kernel
theorem dX2_partsOn_33 : decode mX2_partsOn.2.1 33 = .ok (.bipush 30, 2) := by decide +kernel
theorem dX2_partsOn_35 : decode mX2_partsOn.2.1 35 = .ok (.iload_n 1, 1) := by decide +kernel
theorem dX2_partsOn_36 : decode mX2_partsOn.2.1 36 = .ok (.iadd, 1) := by decide +kernel
theorem dX2_partsOn_37 : decode mX2_partsOn.2.1 37 = .ok (.iaload, 1) := by decide +kernel
theorem dX2_partsOn_38 : decode mX2_partsOn.2.1 38 = .ok (.iload_n 2, 1) := by decide +kernel
theorem dX2_partsOn_39 : decode mX2_partsOn.2.1 39 = .ok (.if_icmp .ne 10, 3) := by decide +kernel
theorem dX2_partsOn_42 : decode mX2_partsOn.2.1 42 = .ok (.iload 5, 2) := by decide +kernel
theorem dX2_partsOn_44 : decode mX2_partsOn.2.1 44 = .ok (.iload 7, 2) := by decide +kernel
theorem dX2_partsOn_46 : decode mX2_partsOn.2.1 46 = .ok (.iadd, 1) := by decide +kernel
theorem dX2_partsOn_47 : decode mX2_partsOn.2.1 47 = .ok (.istore 5, 2) := by decide +kernel
theorem dX2_partsOn_49 : decode mX2_partsOn.2.1 49 = .ok (.iinc 6 1, 3) := by decide +kernel
theorem dX2_partsOn_52 : decode mX2_partsOn.2.1 52 = .ok (.goto (-46), 3) := by decide +kernel
theorem dX2_partsOn_55 : decode mX2_partsOn.2.1 55 = .ok (.iload 5, 2) := by decide +kernel
theorem dX2_partsOn_57 : decode mX2_partsOn.2.1 57 = .ok (.ireturn, 1) := by decide +kernel
abbrev mX2_play : gz_M := (yX2_play, cX2_play, 9, none)
theorem dX2_play_0 : decode mX2_play.2.1 0 = .ok (.aload_n 0, 1) := by decide +kernel
theorem dX2_play_1 : decode mX2_play.2.1 1 = .ok (.getfield 27, 3) := by decide +kernel
theorem dX2_play_4 : decode mX2_play.2.1 4 = .ok (.aload_n 0, 1) := by decide +kernel
theorem dX2_play_5 : decode mX2_play.2.1 5 = .ok (.getfield 23, 3) := by decide +kernel
theorem dX2_play_8 : decode mX2_play.2.1 8 = .ok (.invokevirtual 34, 3) := by decide +kernel
theorem dX2_play_11 : decode mX2_play.2.1 11 = .ok (.aload_n 0, 1) := by decide +kernel
theorem dX2_play_12 : decode mX2_play.2.1 12 = .ok (.getfield 27, 3) := by decide +kernel
theorem dX2_play_15 : decode mX2_play.2.1 15 = .ok (.getfield 44, 3) := by decide +kernel
theorem dX2_play_18 : decode mX2_play.2.1 18 = .ok (.bipush 34, 2) := by decide +kernel
theorem dX2_play_20 : decode mX2_play.2.1 20 = .ok (.iload_n 1, 1) := by decide +kernel
theorem dX2_play_21 : decode mX2_play.2.1 21 = .ok (.iadd, 1) := by decide +kernel
theorem dX2_play_22 : decode mX2_play.2.1 22 = .ok (.iload_n 3, 1) := by decide +kernel
theorem dX2_play_23 : decode mX2_play.2.1 23 = .ok (.iastore, 1) := by decide +kernel
theorem dX2_play_24 : decode mX2_play.2.1 24 = .ok (.aload_n 0, 1) := by decide +kernel
theorem dX2_play_25 : decode mX2_play.2.1 25 = .ok (.getfield 27, 3) := by decide +kernel
theorem dX2_play_28 : decode mX2_play.2.1 28 = .ok (.getfield 44, 3) := by decide +kernel
theorem dX2_play_31 : decode mX2_play.2.1 31 = .ok (.bipush 34, 2) := by decide +kernel
theorem dX2_play_33 : decode mX2_play.2.1 33 = .ok (.iload_n 2, 1) := by decide +kernel
theorem dX2_play_34 : decode mX2_play.2.1 34 = .ok (.iadd, 1) := by decide +kernel
theorem dX2_play_35 : decode mX2_play.2.1 35 = .ok (.iload 4, 2) := by decide +kernel
theorem dX2_play_37 : decode mX2_play.2.1 37 = .ok (.iastore, 1) := by decide +kernel
theorem dX2_play_38 : decode mX2_play.2.1 38 = .ok (.iconst 0, 1) := by decide +kernel
theorem dX2_play_39 : decode mX2_play.2.1 39 = .ok (.istore 5, 2) := by decide +kernel
theorem dX2_play_41 : decode mX2_play.2.1 41 = .ok (.iconst 0, 1) := by decide +kernel
theorem dX2_play_42 : decode mX2_play.2.1 42 = .ok (.istore 6, 2) := by decide +kernel
theorem dX2_play_44 : decode mX2_play.2.1 44 = .ok (.iconst 0, 1) := by decide +kernel
theorem dX2_play_45 : decode mX2_play.2.1 45 = .ok (.istore 7, 2) := by decide +kernel
theorem dX2_play_47 : decode mX2_play.2.1 47 = .ok (.iconst 0, 1) := by decide +kernel
theorem dX2_play_48 : decode mX2_play.2.1 48 = .ok (.istore 8, 2) := by decide +kernel
theorem dX2_play_50 : decode mX2_play.2.1 50 = .ok (.iload 8, 2) := by decide +kernel
theorem dX2_play_52 : decode mX2_play.2.1 52 = .ok (.bipush 6, 2) := by decide +kernel
theorem dX2_play_54 : decode mX2_play.2.1 54 = .ok (.if_icmp .ge 74, 3) := by decide +kernel
theorem dX2_play_57 : decode mX2_play.2.1 57 = .ok (.aload_n 0, 1) := by decide +kernel
theorem dX2_play_58 : decode mX2_play.2.1 58 = .ok (.getfield 30, 3) := by decide +kernel
theorem dX2_play_61 : decode mX2_play.2.1 61 = .ok (.aload_n 0, 1) := by decide +kernel
theorem dX2_play_62 : decode mX2_play.2.1 62 = .ok (.getfield 27, 3) := by decide +kernel
theorem dX2_play_65 : decode mX2_play.2.1 65 = .ok (.invokevirtual 38, 3) := by decide +kernel
theorem dX2_play_68 : decode mX2_play.2.1 68 = .ok (.pop, 1) := by decide +kernel
theorem dX2_play_69 : decode mX2_play.2.1 69 = .ok (.iload 5, 2) := by decide +kernel
theorem dX2_play_71 : decode mX2_play.2.1 71 = .ok (.iconst 1, 1) := by decide +kernel
theorem dX2_play_72 : decode mX2_play.2.1 72 = .ok (.aload_n 0, 1) := by decide +kernel
theorem dX2_play_73 : decode mX2_play.2.1 73 = .ok (.getfield 27, 3) := by decide +kernel
theorem dX2_play_76 : decode mX2_play.2.1 76 = .ok (.getfield 44, 3) := by decide +kernel
theorem dX2_play_79 : decode mX2_play.2.1 79 = .ok (.bipush 30, 2) := by decide +kernel
theorem dX2_play_81 : decode mX2_play.2.1 81 = .ok (.iload_n 1, 1) := by decide +kernel
theorem dX2_play_82 : decode mX2_play.2.1 82 = .ok (.iadd, 1) := by decide +kernel
theorem dX2_play_83 : decode mX2_play.2.1 83 = .ok (.iaload, 1) := by decide +kernel
theorem dX2_play_84 : decode mX2_play.2.1 84 = .ok (.ishl, 1) := by decide +kernel
theorem dX2_play_85 : decode mX2_play.2.1 85 = .ok (.ior, 1) := by decide +kernel
theorem dX2_play_86 : decode mX2_play.2.1 86 = .ok (.istore 5, 2) := by decide +kernel
theorem dX2_play_88 : decode mX2_play.2.1 88 = .ok (.iload 6, 2) := by decide +kernel
theorem dX2_play_90 : decode mX2_play.2.1 90 = .ok (.iconst 1, 1) := by decide +kernel
theorem dX2_play_91 : decode mX2_play.2.1 91 = .ok (.aload_n 0, 1) := by decide +kernel
theorem dX2_play_92 : decode mX2_play.2.1 92 = .ok (.getfield 27, 3) := by decide +kernel
theorem dX2_play_95 : decode mX2_play.2.1 95 = .ok (.getfield 44, 3) := by decide +kernel
theorem dX2_play_98 : decode mX2_play.2.1 98 = .ok (.bipush 30, 2) := by decide +kernel
theorem dX2_play_100 : decode mX2_play.2.1 100 = .ok (.iload_n 2, 1) := by decide +kernel
theorem dX2_play_101 : decode mX2_play.2.1 101 = .ok (.iadd, 1) := by decide +kernel
theorem dX2_play_102 : decode mX2_play.2.1 102 = .ok (.iaload, 1) := by decide +kernel
theorem dX2_play_103 : decode mX2_play.2.1 103 = .ok (.ishl, 1) := by decide +kernel
theorem dX2_play_104 : decode mX2_play.2.1 104 = .ok (.ior, 1) := by decide +kernel
theorem dX2_play_105 : decode mX2_play.2.1 105 = .ok (.istore 6, 2) := by decide +kernel
theorem dX2_play_107 : decode mX2_play.2.1 107 = .ok (.aload_n 0, 1) := by decide +kernel
theorem dX2_play_108 : decode mX2_play.2.1 108 = .ok (.getfield 27, 3) := by decide +kernel
theorem dX2_play_111 : decode mX2_play.2.1 111 = .ok (.iload_n 1, 1) := by decide +kernel
theorem dX2_play_112 : decode mX2_play.2.1 112 = .ok (.iload_n 2, 1) := by decide +kernel
theorem dX2_play_113 : decode mX2_play.2.1 113 = .ok (.invokevirtual 47, 3) := by decide +kernel
theorem dX2_play_116 : decode mX2_play.2.1 116 = .ok (.ifCond .eq 6, 3) := by decide +kernel
theorem dX2_play_119 : decode mX2_play.2.1 119 = .ok (.iconst 3, 1) := by decide +kernel
theorem dX2_play_120 : decode mX2_play.2.1 120 = .ok (.istore 7, 2) := by decide +kernel
theorem dX2_play_122 : decode mX2_play.2.1 122 = .ok (.iinc 8 1, 3) := by decide +kernel
theorem dX2_play_125 : decode mX2_play.2.1 125 = .ok (.goto (-75), 3) := by decide +kernel
theorem dX2_play_128 : decode mX2_play.2.1 128 = .ok (.aload_n 0, 1) := by decide +kernel
theorem dX2_play_129 : decode mX2_play.2.1 129 = .ok (.iload 5, 2) := by decide +kernel
theorem dX2_play_131 : decode mX2_play.2.1 131 = .ok (.iconst 1, 1) := by decide +kernel
theorem dX2_play_132 : decode mX2_play.2.1 132 = .ok (.aload_n 0, 1) := by decide +kernel
theorem dX2_play_133 : decode mX2_play.2.1 133 = .ok (.getfield 23, 3) := by decide +kernel
theorem dX2_play_136 : decode mX2_play.2.1 136 = .ok (.getfield 44, 3) := by decide +kernel
theorem dX2_play_139 : decode mX2_play.2.1 139 = .ok (.bipush 30, 2) := by decide +kernel
theorem dX2_play_141 : decode mX2_play.2.1 141 = .ok (.iload_n 1, 1) := by decide +kernel
theorem dX2_play_142 : decode mX2_play.2.1 142 = .ok (.iadd, 1) := by decide +kernel
theorem dX2_play_143 : decode mX2_play.2.1 143 = .ok (.iaload, 1) := by decide +kernel
theorem dX2_play_144 : decode mX2_play.2.1 144 = .ok (.ishl, 1) := by decide +kernel
theorem dX2_play_145 : decode mX2_play.2.1 145 = .ok (.iconst (-1), 1) := by decide +kernel
theorem dX2_play_146 : decode mX2_play.2.1 146 = .ok (.ixor, 1) := by decide +kernel
theorem dX2_play_147 : decode mX2_play.2.1 147 = .ok (.iand, 1) := by decide +kernel
theorem dX2_play_148 : decode mX2_play.2.1 148 = .ok (.invokestatic 87, 3) := by decide +kernel
theorem dX2_play_151 : decode mX2_play.2.1 151 = .ok (.iload 7, 2) := by decide +kernel
theorem dX2_play_153 : decode mX2_play.2.1 153 = .ok (.isub, 1) := by decide +kernel
theorem dX2_play_154 : decode mX2_play.2.1 154 = .ok (.putfield 92, 3) := by decide +kernel
theorem dX2_play_157 : decode mX2_play.2.1 157 = .ok (.aload_n 0, 1) := by decide +kernel
theorem dX2_play_158 : decode mX2_play.2.1 158 = .ok (.iload 6, 2) := by decide +kernel
theorem dX2_play_160 : decode mX2_play.2.1 160 = .ok (.iconst 1, 1) := by decide +kernel
theorem dX2_play_161 : decode mX2_play.2.1 161 = .ok (.aload_n 0, 1) := by decide +kernel
theorem dX2_play_162 : decode mX2_play.2.1 162 = .ok (.getfield 23, 3) := by decide +kernel
theorem dX2_play_165 : decode mX2_play.2.1 165 = .ok (.getfield 44, 3) := by decide +kernel
theorem dX2_play_168 : decode mX2_play.2.1 168 = .ok (.bipush 30, 2) := by decide +kernel
theorem dX2_play_170 : decode mX2_play.2.1 170 = .ok (.iload_n 2, 1) := by decide +kernel
theorem dX2_play_171 : decode mX2_play.2.1 171 = .ok (.iadd, 1) := by decide +kernel
theorem dX2_play_172 : decode mX2_play.2.1 172 = .ok (.iaload, 1) := by decide +kernel
theorem dX2_play_173 : decode mX2_play.2.1 173 = .ok (.ishl, 1) := by decide +kernel
theorem dX2_play_174 : decode mX2_play.2.1 174 = .ok (.iconst (-1), 1) := by decide +kernel
theorem dX2_play_175 : decode mX2_play.2.1 175 = .ok (.ixor, 1) := by decide +kernel
theorem dX2_play_176 : decode mX2_play.2.1 176 = .ok (.iand, 1) := by decide +kernel
theorem dX2_play_177 : decode mX2_play.2.1 177 = .ok (.invokestatic 87, 3) := by decide +kernel
theorem dX2_play_180 : decode mX2_play.2.1 180 = .ok (.iload 7, 2) := by decide +kernel
theorem dX2_play_182 : decode mX2_play.2.1 182 = .ok (.isub, 1) := by decide +kernel
theorem dX2_play_183 : decode mX2_play.2.1 183 = .ok (.putfield 95, 3) := by decide +kernel
theorem dX2_play_186 : decode mX2_play.2.1 186 = .ok (.return_, 1) := by decide +kernel
abbrev mX2_rest : gz_M := (yX2_rest, cX2_rest, 4, some .int)
theorem dX2_rest_0 : decode mX2_rest.2.1 0 = .ok (.iload_n 1, 1) := by decide +kernel
theorem dX2_rest_1 : decode mX2_rest.2.1 1 = .ok (.iload_n 2, 1) := by decide +kernel
theorem dX2_rest_2 : decode mX2_rest.2.1 2 = .ok (.invokestatic 105, 3) := by decide +kernel
theorem dX2_rest_5 : decode mX2_rest.2.1 5 = .ok (.istore_n 3, 1) := by decide +kernel
theorem dX2_rest_6 : decode mX2_rest.2.1 6 = .ok (.iload_n 3, 1) := by decide +kernel
theorem dX2_rest_7 : decode mX2_rest.2.1 7 = .ok (.iconst (-1), 1) := by decide +kernel
theorem dX2_rest_8 : decode mX2_rest.2.1 8 = .ok (.if_icmp .ne 7, 3) := by decide +kernel
theorem dX2_rest_11 : decode mX2_rest.2.1 11 = .ok (.iconst (-1), 1) := by decide +kernel
theorem dX2_rest_12 : decode mX2_rest.2.1 12 = .ok (.goto 13, 3) := by decide +kernel
theorem dX2_rest_15 : decode mX2_rest.2.1 15 = .ok (.iload_n 3, 1) := by decide +kernel
theorem dX2_rest_16 : decode mX2_rest.2.1 16 = .ok (.iconst 4, 1) := by decide +kernel
theorem dX2_rest_17 : decode mX2_rest.2.1 17 = .ok (.idiv, 1) := by decide +kernel
theorem dX2_rest_18 : decode mX2_rest.2.1 18 = .ok (.bipush 10, 2) := by decide +kernel
theorem dX2_rest_20 : decode mX2_rest.2.1 20 = .ok (.imul, 1) := by decide +kernel
theorem dX2_rest_21 : decode mX2_rest.2.1 21 = .ok (.iload_n 3, 1) := by decide +kernel
theorem dX2_rest_22 : decode mX2_rest.2.1 22 = .ok (.iconst 4, 1) := by decide +kernel
theorem dX2_rest_23 : decode mX2_rest.2.1 23 = .ok (.irem, 1) := by decide +kernel
theorem dX2_rest_24 : decode mX2_rest.2.1 24 = .ok (.iadd, 1) := by decide +kernel
theorem dX2_rest_25 : decode mX2_rest.2.1 25 = .ok (.ireturn, 1) := by decide +kernel
abbrev mX2_restsOf : gz_M := (yX2_restsOf, cX2_restsOf, 5, some .int)
theorem dX2_restsOf_0 : decode mX2_restsOf.2.1 0 = .ok (.iconst 0, 1) := by decide +kernel
theorem dX2_restsOf_1 : decode mX2_restsOf.2.1 1 = .ok (.istore_n 3, 1) := by decide +kernel
theorem dX2_restsOf_2 : decode mX2_restsOf.2.1 2 = .ok (.iload_n 3, 1) := by decide +kernel
theorem dX2_restsOf_3 : decode mX2_restsOf.2.1 3 = .ok (.bipush 16, 2) := by decide +kernel
theorem dX2_restsOf_5 : decode mX2_restsOf.2.1 5 = .ok (.if_icmp .ge 41, 3) := by decide +kernel
theorem dX2_restsOf_8 : decode mX2_restsOf.2.1 8 = .ok (.aload_n 0, 1) := by decide +kernel
theorem dX2_restsOf_9 : decode mX2_restsOf.2.1 9 = .ok (.iload_n 1, 1) := by decide +kernel
theorem dX2_restsOf_10 : decode mX2_restsOf.2.1 10 = .ok (.iload_n 2, 1) := by decide +kernel
theorem dX2_restsOf_11 : decode mX2_restsOf.2.1 11 = .ok (.iload_n 3, 1) := by decide +kernel
theorem dX2_restsOf_12 : decode mX2_restsOf.2.1 12 = .ok (.iconst 4, 1) := by decide +kernel
theorem dX2_restsOf_13 : decode mX2_restsOf.2.1 13 = .ok (.idiv, 1) := by decide +kernel
theorem dX2_restsOf_14 : decode mX2_restsOf.2.1 14 = .ok (.iload_n 3, 1) := by decide +kernel
theorem dX2_restsOf_15 : decode mX2_restsOf.2.1 15 = .ok (.iconst 4, 1) := by decide +kernel
theorem dX2_restsOf_16 : decode mX2_restsOf.2.1 16 = .ok (.irem, 1) := by decide +kernel
theorem dX2_restsOf_17 : decode mX2_restsOf.2.1 17 = .ok (.invokevirtual 98, 3) := by decide +kernel
theorem dX2_restsOf_20 : decode mX2_restsOf.2.1 20 = .ok (.aload_n 0, 1) := by decide +kernel
theorem dX2_restsOf_21 : decode mX2_restsOf.2.1 21 = .ok (.getfield 17, 3) := by decide +kernel
theorem dX2_restsOf_24 : decode mX2_restsOf.2.1 24 = .ok (.iload_n 3, 1) := by decide +kernel
theorem dX2_restsOf_25 : decode mX2_restsOf.2.1 25 = .ok (.aload_n 0, 1) := by decide +kernel
theorem dX2_restsOf_26 : decode mX2_restsOf.2.1 26 = .ok (.getfield 92, 3) := by decide +kernel
theorem dX2_restsOf_29 : decode mX2_restsOf.2.1 29 = .ok (.iastore, 1) := by decide +kernel
theorem dX2_restsOf_30 : decode mX2_restsOf.2.1 30 = .ok (.aload_n 0, 1) := by decide +kernel
theorem dX2_restsOf_31 : decode mX2_restsOf.2.1 31 = .ok (.getfield 20, 3) := by decide +kernel
theorem dX2_restsOf_34 : decode mX2_restsOf.2.1 34 = .ok (.iload_n 3, 1) := by decide +kernel
theorem dX2_restsOf_35 : decode mX2_restsOf.2.1 35 = .ok (.aload_n 0, 1) := by decide +kernel
theorem dX2_restsOf_36 : decode mX2_restsOf.2.1 36 = .ok (.getfield 95, 3) := by decide +kernel
theorem dX2_restsOf_39 : decode mX2_restsOf.2.1 39 = .ok (.iastore, 1) := by decide +kernel
theorem dX2_restsOf_40 : decode mX2_restsOf.2.1 40 = .ok (.iinc 3 1, 3) := by decide +kernel
theorem dX2_restsOf_43 : decode mX2_restsOf.2.1 43 = .ok (.goto (-41), 3) := by decide +kernel
theorem dX2_restsOf_46 : decode mX2_restsOf.2.1 46 = .ok (.iconst 0, 1) := by decide +kernel
theorem dX2_restsOf_47 : decode mX2_restsOf.2.1 47 = .ok (.istore_n 3, 1) := by decide +kernel
theorem dX2_restsOf_48 : decode mX2_restsOf.2.1 48 = .ok (.iconst 0, 1) := by decide +kernel
theorem dX2_restsOf_49 : decode mX2_restsOf.2.1 49 = .ok (.istore 4, 2) := by decide +kernel
theorem dX2_restsOf_51 : decode mX2_restsOf.2.1 51 = .ok (.iload 4, 2) := by decide +kernel
theorem dX2_restsOf_53 : decode mX2_restsOf.2.1 53 = .ok (.bipush 16, 2) := by decide +kernel
theorem dX2_restsOf_55 : decode mX2_restsOf.2.1 55 = .ok (.if_icmp .ge 31, 3) := by decide +kernel
theorem dX2_restsOf_58 : decode mX2_restsOf.2.1 58 = .ok (.aload_n 0, 1) := by decide +kernel
theorem dX2_restsOf_59 : decode mX2_restsOf.2.1 59 = .ok (.iload 4, 2) := by decide +kernel
theorem dX2_restsOf_61 : decode mX2_restsOf.2.1 61 = .ok (.iconst 4, 1) := by decide +kernel
theorem dX2_restsOf_62 : decode mX2_restsOf.2.1 62 = .ok (.idiv, 1) := by decide +kernel
theorem dX2_restsOf_63 : decode mX2_restsOf.2.1 63 = .ok (.iload 4, 2) := by decide +kernel
theorem dX2_restsOf_65 : decode mX2_restsOf.2.1 65 = .ok (.iconst 4, 1) := by decide +kernel
theorem dX2_restsOf_66 : decode mX2_restsOf.2.1 66 = .ok (.irem, 1) := by decide +kernel
theorem dX2_restsOf_67 : decode mX2_restsOf.2.1 67 = .ok (.invokevirtual 102, 3) := by decide +kernel
theorem dX2_restsOf_70 : decode mX2_restsOf.2.1 70 = .ok (.ifCond .eq 10, 3) := by decide +kernel
theorem dX2_restsOf_73 : decode mX2_restsOf.2.1 73 = .ok (.iload_n 3, 1) := by decide +kernel
theorem dX2_restsOf_74 : decode mX2_restsOf.2.1 74 = .ok (.iconst 1, 1) := by decide +kernel
theorem dX2_restsOf_75 : decode mX2_restsOf.2.1 75 = .ok (.iload 4, 2) := by decide +kernel
theorem dX2_restsOf_77 : decode mX2_restsOf.2.1 77 = .ok (.ishl, 1) := by decide +kernel
theorem dX2_restsOf_78 : decode mX2_restsOf.2.1 78 = .ok (.ior, 1) := by decide +kernel
theorem dX2_restsOf_79 : decode mX2_restsOf.2.1 79 = .ok (.istore_n 3, 1) := by decide +kernel
theorem dX2_restsOf_80 : decode mX2_restsOf.2.1 80 = .ok (.iinc 4 1, 3) := by decide +kernel
theorem dX2_restsOf_83 : decode mX2_restsOf.2.1 83 = .ok (.goto (-32), 3) := by decide +kernel
theorem dX2_restsOf_86 : decode mX2_restsOf.2.1 86 = .ok (.iload_n 3, 1) := by decide +kernel
theorem dX2_restsOf_87 : decode mX2_restsOf.2.1 87 = .ok (.ireturn, 1) := by decide +kernel
abbrev mX2_sameAgain : gz_M := (yX2_sameAgain, cX2_sameAgain, 3, some .int)
theorem dX2_sameAgain_0 : decode mX2_sameAgain.2.1 0 = .ok (.aload_n 0, 1) := by decide +kernel
theorem dX2_sameAgain_1 : decode mX2_sameAgain.2.1 1 = .ok (.getfield 27, 3) := by decide +kernel
theorem dX2_sameAgain_4 : decode mX2_sameAgain.2.1 4 = .ok (.aload_n 0, 1) := by decide +kernel
theorem dX2_sameAgain_5 : decode mX2_sameAgain.2.1 5 = .ok (.getfield 23, 3) := by decide +kernel
theorem dX2_sameAgain_8 : decode mX2_sameAgain.2.1 8 = .ok (.invokevirtual 34, 3) := by decide +kernel
theorem dX2_sameAgain_11 : decode mX2_sameAgain.2.1 11 = .ok (.iconst 1, 1) := by decide +kernel
theorem dX2_sameAgain_12 : decode mX2_sameAgain.2.1 12 = .ok (.istore_n 2, 1) := by decide +kernel
theorem dX2_sameAgain_13 : decode mX2_sameAgain.2.1 13 = .ok (.iload_n 2, 1) := by decide +kernel
theorem dX2_sameAgain_14 : decode mX2_sameAgain.2.1 14 = .ok (.bipush 99, 2) := by decide +kernel
theorem dX2_sameAgain_16 : decode mX2_sameAgain.2.1 16 = .ok (.if_icmp .gt 73, 3) := by decide +kernel
theorem dX2_sameAgain_19 : decode mX2_sameAgain.2.1 19 = .ok (.aload_n 0, 1) := by decide +kernel
theorem dX2_sameAgain_20 : decode mX2_sameAgain.2.1 20 = .ok (.getfield 30, 3) := by decide +kernel
theorem dX2_sameAgain_23 : decode mX2_sameAgain.2.1 23 = .ok (.aload_n 0, 1) := by decide +kernel
theorem dX2_sameAgain_24 : decode mX2_sameAgain.2.1 24 = .ok (.getfield 27, 3) := by decide +kernel
theorem dX2_sameAgain_27 : decode mX2_sameAgain.2.1 27 = .ok (.invokevirtual 38, 3) := by decide +kernel
theorem dX2_sameAgain_30 : decode mX2_sameAgain.2.1 30 = .ok (.pop, 1) := by decide +kernel
theorem dX2_sameAgain_31 : decode mX2_sameAgain.2.1 31 = .ok (.aload_n 0, 1) := by decide +kernel
theorem dX2_sameAgain_32 : decode mX2_sameAgain.2.1 32 = .ok (.getfield 27, 3) := by decide +kernel
theorem dX2_sameAgain_35 : decode mX2_sameAgain.2.1 35 = .ok (.iload_n 1, 1) := by decide +kernel
theorem dX2_sameAgain_36 : decode mX2_sameAgain.2.1 36 = .ok (.aload_n 0, 1) := by decide +kernel
theorem dX2_sameAgain_37 : decode mX2_sameAgain.2.1 37 = .ok (.getfield 23, 3) := by decide +kernel
theorem dX2_sameAgain_40 : decode mX2_sameAgain.2.1 40 = .ok (.getfield 44, 3) := by decide +kernel
theorem dX2_sameAgain_43 : decode mX2_sameAgain.2.1 43 = .ok (.bipush 30, 2) := by decide +kernel
theorem dX2_sameAgain_45 : decode mX2_sameAgain.2.1 45 = .ok (.iload_n 1, 1) := by decide +kernel
theorem dX2_sameAgain_46 : decode mX2_sameAgain.2.1 46 = .ok (.iadd, 1) := by decide +kernel
theorem dX2_sameAgain_47 : decode mX2_sameAgain.2.1 47 = .ok (.iaload, 1) := by decide +kernel
theorem dX2_sameAgain_48 : decode mX2_sameAgain.2.1 48 = .ok (.invokevirtual 55, 3) := by decide +kernel
theorem dX2_sameAgain_51 : decode mX2_sameAgain.2.1 51 = .ok (.ifCond .eq 32, 3) := by decide +kernel
theorem dX2_sameAgain_54 : decode mX2_sameAgain.2.1 54 = .ok (.aload_n 0, 1) := by decide +kernel
theorem dX2_sameAgain_55 : decode mX2_sameAgain.2.1 55 = .ok (.getfield 27, 3) := by decide +kernel
theorem dX2_sameAgain_58 : decode mX2_sameAgain.2.1 58 = .ok (.getfield 44, 3) := by decide +kernel
theorem dX2_sameAgain_61 : decode mX2_sameAgain.2.1 61 = .ok (.bipush 34, 2) := by decide +kernel
theorem dX2_sameAgain_63 : decode mX2_sameAgain.2.1 63 = .ok (.iload_n 1, 1) := by decide +kernel
theorem dX2_sameAgain_64 : decode mX2_sameAgain.2.1 64 = .ok (.iadd, 1) := by decide +kernel
theorem dX2_sameAgain_65 : decode mX2_sameAgain.2.1 65 = .ok (.iaload, 1) := by decide +kernel
theorem dX2_sameAgain_66 : decode mX2_sameAgain.2.1 66 = .ok (.aload_n 0, 1) := by decide +kernel
theorem dX2_sameAgain_67 : decode mX2_sameAgain.2.1 67 = .ok (.getfield 23, 3) := by decide +kernel
theorem dX2_sameAgain_70 : decode mX2_sameAgain.2.1 70 = .ok (.getfield 44, 3) := by decide +kernel
theorem dX2_sameAgain_73 : decode mX2_sameAgain.2.1 73 = .ok (.bipush 34, 2) := by decide +kernel
theorem dX2_sameAgain_75 : decode mX2_sameAgain.2.1 75 = .ok (.iload_n 1, 1) := by decide +kernel
theorem dX2_sameAgain_76 : decode mX2_sameAgain.2.1 76 = .ok (.iadd, 1) := by decide +kernel
theorem dX2_sameAgain_77 : decode mX2_sameAgain.2.1 77 = .ok (.iaload, 1) := by decide +kernel
theorem dX2_sameAgain_78 : decode mX2_sameAgain.2.1 78 = .ok (.if_icmp .ne 5, 3) := by decide +kernel
theorem dX2_sameAgain_81 : decode mX2_sameAgain.2.1 81 = .ok (.iload_n 2, 1) := by decide +kernel
theorem dX2_sameAgain_82 : decode mX2_sameAgain.2.1 82 = .ok (.ireturn, 1) := by decide +kernel
theorem dX2_sameAgain_83 : decode mX2_sameAgain.2.1 83 = .ok (.iinc 2 1, 3) := by decide +kernel
theorem dX2_sameAgain_86 : decode mX2_sameAgain.2.1 86 = .ok (.goto (-73), 3) := by decide +kernel
theorem dX2_sameAgain_89 : decode mX2_sameAgain.2.1 89 = .ok (.iconst (-1), 1) := by decide +kernel
theorem dX2_sameAgain_90 : decode mX2_sameAgain.2.1 90 = .ok (.ireturn, 1) := by decide +kernel
abbrev mX2_twoStones : gz_M := (yX2_twoStones, cX2_twoStones, 7, some .int)
theorem dX2_twoStones_0 : decode mX2_twoStones.2.1 0 = .ok (.iconst 0, 1) := by decide +kernel
theorem dX2_twoStones_1 : decode mX2_twoStones.2.1 1 = .ok (.istore 4, 2) := by decide +kernel
theorem dX2_twoStones_3 : decode mX2_twoStones.2.1 3 = .ok (.iload 4, 2) := by decide +kernel
theorem dX2_twoStones_5 : decode mX2_twoStones.2.1 5 = .ok (.aload_n 0, 1) := by decide +kernel
theorem dX2_twoStones_6 : decode mX2_twoStones.2.1 6 = .ok (.getfield 23, 3) := by decide +kernel
theorem dX2_twoStones_9 : decode mX2_twoStones.2.1 9 = .ok (.invokevirtual 69, 3) := by decide +kernel
theorem dX2_twoStones_12 : decode mX2_twoStones.2.1 12 = .ok (.if_icmp .ge 138, 3) := by decide +kernel
theorem dX2_twoStones_15 : decode mX2_twoStones.2.1 15 = .ok (.iload 4, 2) := by decide +kernel
theorem dX2_twoStones_17 : decode mX2_twoStones.2.1 17 = .ok (.iconst 1, 1) := by decide +kernel
theorem dX2_twoStones_18 : decode mX2_twoStones.2.1 18 = .ok (.iadd, 1) := by decide +kernel
theorem dX2_twoStones_19 : decode mX2_twoStones.2.1 19 = .ok (.istore 5, 2) := by decide +kernel
theorem dX2_twoStones_21 : decode mX2_twoStones.2.1 21 = .ok (.iload 5, 2) := by decide +kernel
theorem dX2_twoStones_23 : decode mX2_twoStones.2.1 23 = .ok (.aload_n 0, 1) := by decide +kernel
theorem dX2_twoStones_24 : decode mX2_twoStones.2.1 24 = .ok (.getfield 23, 3) := by decide +kernel
theorem dX2_twoStones_27 : decode mX2_twoStones.2.1 27 = .ok (.invokevirtual 69, 3) := by decide +kernel
theorem dX2_twoStones_30 : decode mX2_twoStones.2.1 30 = .ok (.if_icmp .ge 114, 3) := by decide +kernel
theorem dX2_twoStones_33 : decode mX2_twoStones.2.1 33 = .ok (.aload_n 0, 1) := by decide +kernel
theorem dX2_twoStones_34 : decode mX2_twoStones.2.1 34 = .ok (.getfield 66, 3) := by decide +kernel
theorem dX2_twoStones_37 : decode mX2_twoStones.2.1 37 = .ok (.iload 4, 2) := by decide +kernel
theorem dX2_twoStones_39 : decode mX2_twoStones.2.1 39 = .ok (.ishr, 1) := by decide +kernel
theorem dX2_twoStones_40 : decode mX2_twoStones.2.1 40 = .ok (.iconst 1, 1) := by decide +kernel
theorem dX2_twoStones_41 : decode mX2_twoStones.2.1 41 = .ok (.iand, 1) := by decide +kernel
theorem dX2_twoStones_42 : decode mX2_twoStones.2.1 42 = .ok (.aload_n 0, 1) := by decide +kernel
theorem dX2_twoStones_43 : decode mX2_twoStones.2.1 43 = .ok (.getfield 66, 3) := by decide +kernel
theorem dX2_twoStones_46 : decode mX2_twoStones.2.1 46 = .ok (.iload 5, 2) := by decide +kernel
theorem dX2_twoStones_48 : decode mX2_twoStones.2.1 48 = .ok (.ishr, 1) := by decide +kernel
theorem dX2_twoStones_49 : decode mX2_twoStones.2.1 49 = .ok (.iconst 1, 1) := by decide +kernel
theorem dX2_twoStones_50 : decode mX2_twoStones.2.1 50 = .ok (.iand, 1) := by decide +kernel
theorem dX2_twoStones_51 : decode mX2_twoStones.2.1 51 = .ok (.ior, 1) := by decide +kernel
theorem dX2_twoStones_52 : decode mX2_twoStones.2.1 52 = .ok (.ifCond .eq 37, 3) := by decide +kernel
theorem dX2_twoStones_55 : decode mX2_twoStones.2.1 55 = .ok (.aload_n 0, 1) := by decide +kernel
theorem dX2_twoStones_56 : decode mX2_twoStones.2.1 56 = .ok (.getfield 11, 3) := by decide +kernel
theorem dX2_twoStones_59 : decode mX2_twoStones.2.1 59 = .ok (.iload 4, 2) := by decide +kernel
theorem dX2_twoStones_61 : decode mX2_twoStones.2.1 61 = .ok (.iaload, 1) := by decide +kernel
theorem dX2_twoStones_62 : decode mX2_twoStones.2.1 62 = .ok (.iload 5, 2) := by decide +kernel
theorem dX2_twoStones_64 : decode mX2_twoStones.2.1 64 = .ok (.ishr, 1) := by decide +kernel
theorem dX2_twoStones_65 : decode mX2_twoStones.2.1 65 = .ok (.iconst 1, 1) := by decide +kernel
theorem dX2_twoStones_66 : decode mX2_twoStones.2.1 66 = .ok (.iand, 1) := by decide +kernel
theorem dX2_twoStones_67 : decode mX2_twoStones.2.1 67 = .ok (.ifCond .eq 22, 3) := by decide +kernel
theorem dX2_twoStones_70 : decode mX2_twoStones.2.1 70 = .ok (.aload_n 0, 1) := by decide +kernel
theorem dX2_twoStones_71 : decode mX2_twoStones.2.1 71 = .ok (.getfield 11, 3) := by decide +kernel
theorem dX2_twoStones_74 : decode mX2_twoStones.2.1 74 = .ok (.iload 5, 2) := by decide +kernel
theorem dX2_twoStones_76 : decode mX2_twoStones.2.1 76 = .ok (.iaload, 1) := by decide +kernel
theorem dX2_twoStones_77 : decode mX2_twoStones.2.1 77 = .ok (.iload 4, 2) := by decide +kernel
theorem dX2_twoStones_79 : decode mX2_twoStones.2.1 79 = .ok (.ishr, 1) := by decide +kernel
theorem dX2_twoStones_80 : decode mX2_twoStones.2.1 80 = .ok (.iconst 1, 1) := by decide +kernel
theorem dX2_twoStones_81 : decode mX2_twoStones.2.1 81 = .ok (.iand, 1) := by decide +kernel
theorem dX2_twoStones_82 : decode mX2_twoStones.2.1 82 = .ok (.ifCond .eq 7, 3) := by decide +kernel
theorem dX2_twoStones_85 : decode mX2_twoStones.2.1 85 = .ok (.iconst 1, 1) := by decide +kernel
theorem dX2_twoStones_86 : decode mX2_twoStones.2.1 86 = .ok (.goto 4, 3) := by decide +kernel
theorem dX2_twoStones_89 : decode mX2_twoStones.2.1 89 = .ok (.iconst 0, 1) := by decide +kernel
theorem dX2_twoStones_90 : decode mX2_twoStones.2.1 90 = .ok (.istore 6, 2) := by decide +kernel
theorem dX2_twoStones_92 : decode mX2_twoStones.2.1 92 = .ok (.iload 6, 2) := by decide +kernel
theorem dX2_twoStones_94 : decode mX2_twoStones.2.1 94 = .ok (.ifCond .eq 44, 3) := by decide +kernel
theorem dX2_twoStones_97 : decode mX2_twoStones.2.1 97 = .ok (.aload_n 0, 1) := by decide +kernel
theorem dX2_twoStones_98 : decode mX2_twoStones.2.1 98 = .ok (.iload 4, 2) := by decide +kernel
theorem dX2_twoStones_100 : decode mX2_twoStones.2.1 100 = .ok (.invokevirtual 73, 3) := by decide +kernel
theorem dX2_twoStones_103 : decode mX2_twoStones.2.1 103 = .ok (.ifCond .eq 35, 3) := by decide +kernel
theorem dX2_twoStones_106 : decode mX2_twoStones.2.1 106 = .ok (.aload_n 0, 1) := by decide +kernel
theorem dX2_twoStones_107 : decode mX2_twoStones.2.1 107 = .ok (.iload 5, 2) := by decide +kernel
theorem dX2_twoStones_109 : decode mX2_twoStones.2.1 109 = .ok (.invokevirtual 73, 3) := by decide +kernel
theorem dX2_twoStones_112 : decode mX2_twoStones.2.1 112 = .ok (.ifCond .eq 26, 3) := by decide +kernel
theorem dX2_twoStones_115 : decode mX2_twoStones.2.1 115 = .ok (.aload_n 0, 1) := by decide +kernel
theorem dX2_twoStones_116 : decode mX2_twoStones.2.1 116 = .ok (.iload_n 1, 1) := by decide +kernel
theorem dX2_twoStones_117 : decode mX2_twoStones.2.1 117 = .ok (.iload_n 2, 1) := by decide +kernel
theorem dX2_twoStones_118 : decode mX2_twoStones.2.1 118 = .ok (.iload_n 3, 1) := by decide +kernel
theorem dX2_twoStones_119 : decode mX2_twoStones.2.1 119 = .ok (.iload 4, 2) := by decide +kernel
theorem dX2_twoStones_121 : decode mX2_twoStones.2.1 121 = .ok (.iload 5, 2) := by decide +kernel
theorem dX2_twoStones_123 : decode mX2_twoStones.2.1 123 = .ok (.invokevirtual 58, 3) := by decide +kernel
theorem dX2_twoStones_126 : decode mX2_twoStones.2.1 126 = .ok (.ifCond .eq 12, 3) := by decide +kernel
theorem dX2_twoStones_129 : decode mX2_twoStones.2.1 129 = .ok (.iload 4, 2) := by decide +kernel
theorem dX2_twoStones_131 : decode mX2_twoStones.2.1 131 = .ok (.bipush 100, 2) := by decide +kernel
theorem dX2_twoStones_133 : decode mX2_twoStones.2.1 133 = .ok (.imul, 1) := by decide +kernel
theorem dX2_twoStones_134 : decode mX2_twoStones.2.1 134 = .ok (.iload 5, 2) := by decide +kernel
theorem dX2_twoStones_136 : decode mX2_twoStones.2.1 136 = .ok (.iadd, 1) := by decide +kernel
theorem dX2_twoStones_137 : decode mX2_twoStones.2.1 137 = .ok (.ireturn, 1) := by decide +kernel
theorem dX2_twoStones_138 : decode mX2_twoStones.2.1 138 = .ok (.iinc 5 1, 3) := by decide +kernel
theorem dX2_twoStones_141 : decode mX2_twoStones.2.1 141 = .ok (.goto (-120), 3) := by decide +kernel
theorem dX2_twoStones_144 : decode mX2_twoStones.2.1 144 = .ok (.iinc 4 1, 3) := by decide +kernel
theorem dX2_twoStones_147 : decode mX2_twoStones.2.1 147 = .ok (.goto (-144), 3) := by decide +kernel
theorem dX2_twoStones_150 : decode mX2_twoStones.2.1 150 = .ok (.iconst (-1), 1) := by decide +kernel
theorem dX2_twoStones_151 : decode mX2_twoStones.2.1 151 = .ok (.ireturn, 1) := by decide +kernel
abbrev mX4_comparing : gz_M := (yX4_comparing, cX4_comparing, 1, some .int)
theorem dX4_comparing_0 : decode mX4_comparing.2.1 0 = .ok (.iload_n 0, 1) := by decide +kernel
theorem dX4_comparing_1 : decode mX4_comparing.2.1 1 = .ok (.tableswitch 36 60 62 #[30, 27, 33], 27) := by decide +kernel
theorem dX4_comparing_28 : decode mX4_comparing.2.1 28 = .ok (.bipush (-15), 2) := by decide +kernel
theorem dX4_comparing_30 : decode mX4_comparing.2.1 30 = .ok (.ireturn, 1) := by decide +kernel
theorem dX4_comparing_31 : decode mX4_comparing.2.1 31 = .ok (.bipush (-16), 2) := by decide +kernel
theorem dX4_comparing_33 : decode mX4_comparing.2.1 33 = .ok (.ireturn, 1) := by decide +kernel
theorem dX4_comparing_34 : decode mX4_comparing.2.1 34 = .ok (.bipush (-17), 2) := by decide +kernel
theorem dX4_comparing_36 : decode mX4_comparing.2.1 36 = .ok (.ireturn, 1) := by decide +kernel
theorem dX4_comparing_37 : decode mX4_comparing.2.1 37 = .ok (.iconst (-1), 1) := by decide +kernel
theorem dX4_comparing_38 : decode mX4_comparing.2.1 38 = .ok (.ireturn, 1) := by decide +kernel
abbrev mX4_joining : gz_M := (yX4_joining, cX4_joining, 1, some .int)
theorem dX4_joining_0 : decode mX4_joining.2.1 0 = .ok (.iload_n 0, 1) := by decide +kernel
theorem dX4_joining_1 : decode mX4_joining.2.1 1 = .ok (.tableswitch 51 42 47 #[45, 39, 51, 42, 51, 48], 39) := by decide +kernel
theorem dX4_joining_40 : decode mX4_joining.2.1 40 = .ok (.bipush (-11), 2) := by decide +kernel
theorem dX4_joining_42 : decode mX4_joining.2.1 42 = .ok (.ireturn, 1) := by decide +kernel
theorem dX4_joining_43 : decode mX4_joining.2.1 43 = .ok (.bipush (-12), 2) := by decide +kernel
theorem dX4_joining_45 : decode mX4_joining.2.1 45 = .ok (.ireturn, 1) := by decide +kernel
theorem dX4_joining_46 : decode mX4_joining.2.1 46 = .ok (.bipush (-13), 2) := by decide +kernel
theorem dX4_joining_48 : decode mX4_joining.2.1 48 = .ok (.ireturn, 1) := by decide +kernel
theorem dX4_joining_49 : decode mX4_joining.2.1 49 = .ok (.bipush (-14), 2) := by decide +kernel
theorem dX4_joining_51 : decode mX4_joining.2.1 51 = .ok (.ireturn, 1) := by decide +kernel
theorem dX4_joining_52 : decode mX4_joining.2.1 52 = .ok (.iconst (-1), 1) := by decide +kernel
theorem dX4_joining_53 : decode mX4_joining.2.1 53 = .ok (.ireturn, 1) := by decide +kernel
abbrev mX4_put : gz_M := (yX4_put, cX4_put, 2, none)
theorem dX4_put_0 : decode mX4_put.2.1 0 = .ok (.aload_n 0, 1) := by decide +kernel
theorem dX4_put_1 : decode mX4_put.2.1 1 = .ok (.getfield 23, 3) := by decide +kernel
theorem dX4_put_4 : decode mX4_put.2.1 4 = .ok (.aload_n 0, 1) := by decide +kernel
theorem dX4_put_5 : decode mX4_put.2.1 5 = .ok (.getfield 11, 3) := by decide +kernel
theorem dX4_put_8 : decode mX4_put.2.1 8 = .ok (.arraylength, 1) := by decide +kernel
theorem dX4_put_9 : decode mX4_put.2.1 9 = .ok (.if_icmp .ge 23, 3) := by decide +kernel
theorem dX4_put_12 : decode mX4_put.2.1 12 = .ok (.aload_n 0, 1) := by decide +kernel
theorem dX4_put_13 : decode mX4_put.2.1 13 = .ok (.getfield 11, 3) := by decide +kernel
theorem dX4_put_16 : decode mX4_put.2.1 16 = .ok (.aload_n 0, 1) := by decide +kernel
theorem dX4_put_17 : decode mX4_put.2.1 17 = .ok (.getfield 23, 3) := by decide +kernel
theorem dX4_put_20 : decode mX4_put.2.1 20 = .ok (.iload_n 1, 1) := by decide +kernel
theorem dX4_put_21 : decode mX4_put.2.1 21 = .ok (.iastore, 1) := by decide +kernel
theorem dX4_put_22 : decode mX4_put.2.1 22 = .ok (.aload_n 0, 1) := by decide +kernel
theorem dX4_put_23 : decode mX4_put.2.1 23 = .ok (.dup, 1) := by decide +kernel
theorem dX4_put_24 : decode mX4_put.2.1 24 = .ok (.getfield 23, 3) := by decide +kernel
theorem dX4_put_27 : decode mX4_put.2.1 27 = .ok (.iconst 1, 1) := by decide +kernel
theorem dX4_put_28 : decode mX4_put.2.1 28 = .ok (.iadd, 1) := by decide +kernel
theorem dX4_put_29 : decode mX4_put.2.1 29 = .ok (.putfield 23, 3) := by decide +kernel
theorem dX4_put_32 : decode mX4_put.2.1 32 = .ok (.return_, 1) := by decide +kernel
abbrev mX4_readAtom : gz_M := (yX4_readAtom, cX4_readAtom, 4, some .boolean)
theorem dX4_readAtom_0 : decode mX4_readAtom.2.1 0 = .ok (.aload_n 0, 1) := by decide +kernel
theorem dX4_readAtom_1 : decode mX4_readAtom.2.1 1 = .ok (.getfield 17, 3) := by decide +kernel
theorem dX4_readAtom_4 : decode mX4_readAtom.2.1 4 = .ok (.invokevirtual 51, 3) := by decide +kernel
theorem dX4_readAtom_7 : decode mX4_readAtom.2.1 7 = .ok (.istore_n 2, 1) := by decide +kernel
theorem dX4_readAtom_8 : decode mX4_readAtom.2.1 8 = .ok (.iload_n 2, 1) := by decide +kernel
theorem dX4_readAtom_9 : decode mX4_readAtom.2.1 9 = .ok (.bipush 48, 2) := by decide +kernel
theorem dX4_readAtom_11 : decode mX4_readAtom.2.1 11 = .ok (.if_icmp .lt 31, 3) := by decide +kernel
theorem dX4_readAtom_14 : decode mX4_readAtom.2.1 14 = .ok (.iload_n 2, 1) := by decide +kernel
theorem dX4_readAtom_15 : decode mX4_readAtom.2.1 15 = .ok (.bipush 57, 2) := by decide +kernel
theorem dX4_readAtom_17 : decode mX4_readAtom.2.1 17 = .ok (.if_icmp .gt 25, 3) := by decide +kernel
theorem dX4_readAtom_20 : decode mX4_readAtom.2.1 20 = .ok (.aload_n 0, 1) := by decide +kernel
theorem dX4_readAtom_21 : decode mX4_readAtom.2.1 21 = .ok (.getfield 17, 3) := by decide +kernel
theorem dX4_readAtom_24 : decode mX4_readAtom.2.1 24 = .ok (.iconst 4, 1) := by decide +kernel
theorem dX4_readAtom_25 : decode mX4_readAtom.2.1 25 = .ok (.invokevirtual 87, 3) := by decide +kernel
theorem dX4_readAtom_28 : decode mX4_readAtom.2.1 28 = .ok (.istore_n 3, 1) := by decide +kernel
theorem dX4_readAtom_29 : decode mX4_readAtom.2.1 29 = .ok (.aload_n 0, 1) := by decide +kernel
theorem dX4_readAtom_30 : decode mX4_readAtom.2.1 30 = .ok (.aload_n 0, 1) := by decide +kernel
theorem dX4_readAtom_31 : decode mX4_readAtom.2.1 31 = .ok (.getfield 17, 3) := by decide +kernel
theorem dX4_readAtom_34 : decode mX4_readAtom.2.1 34 = .ok (.getfield 90, 3) := by decide +kernel
theorem dX4_readAtom_37 : decode mX4_readAtom.2.1 37 = .ok (.invokevirtual 47, 3) := by decide +kernel
theorem dX4_readAtom_40 : decode mX4_readAtom.2.1 40 = .ok (.iload_n 3, 1) := by decide +kernel
theorem dX4_readAtom_41 : decode mX4_readAtom.2.1 41 = .ok (.ireturn, 1) := by decide +kernel
theorem dX4_readAtom_42 : decode mX4_readAtom.2.1 42 = .ok (.iload_n 2, 1) := by decide +kernel
theorem dX4_readAtom_43 : decode mX4_readAtom.2.1 43 = .ok (.bipush 91, 2) := by decide +kernel
theorem dX4_readAtom_45 : decode mX4_readAtom.2.1 45 = .ok (.if_icmp .ne 50, 3) := by decide +kernel
theorem dX4_readAtom_48 : decode mX4_readAtom.2.1 48 = .ok (.iload_n 1, 1) := by decide +kernel
theorem dX4_readAtom_49 : decode mX4_readAtom.2.1 49 = .ok (.bipush 6, 2) := by decide +kernel
theorem dX4_readAtom_51 : decode mX4_readAtom.2.1 51 = .ok (.if_icmp .ge 44, 3) := by decide +kernel
theorem dX4_readAtom_54 : decode mX4_readAtom.2.1 54 = .ok (.aload_n 0, 1) := by decide +kernel
theorem dX4_readAtom_55 : decode mX4_readAtom.2.1 55 = .ok (.getfield 17, 3) := by decide +kernel
theorem dX4_readAtom_58 : decode mX4_readAtom.2.1 58 = .ok (.dup, 1) := by decide +kernel
theorem dX4_readAtom_59 : decode mX4_readAtom.2.1 59 = .ok (.getfield 55, 3) := by decide +kernel
theorem dX4_readAtom_62 : decode mX4_readAtom.2.1 62 = .ok (.iconst 1, 1) := by decide +kernel
theorem dX4_readAtom_63 : decode mX4_readAtom.2.1 63 = .ok (.iadd, 1) := by decide +kernel
theorem dX4_readAtom_64 : decode mX4_readAtom.2.1 64 = .ok (.putfield 55, 3) := by decide +kernel
theorem dX4_readAtom_67 : decode mX4_readAtom.2.1 67 = .ok (.aload_n 0, 1) := by decide +kernel
theorem dX4_readAtom_68 : decode mX4_readAtom.2.1 68 = .ok (.iload_n 1, 1) := by decide +kernel
theorem dX4_readAtom_69 : decode mX4_readAtom.2.1 69 = .ok (.iconst 1, 1) := by decide +kernel
theorem dX4_readAtom_70 : decode mX4_readAtom.2.1 70 = .ok (.iadd, 1) := by decide +kernel
theorem dX4_readAtom_71 : decode mX4_readAtom.2.1 71 = .ok (.invokevirtual 61, 3) := by decide +kernel
theorem dX4_readAtom_74 : decode mX4_readAtom.2.1 74 = .ok (.ifCond .eq 19, 3) := by decide +kernel
theorem dX4_readAtom_77 : decode mX4_readAtom.2.1 77 = .ok (.aload_n 0, 1) := by decide +kernel
theorem dX4_readAtom_78 : decode mX4_readAtom.2.1 78 = .ok (.getfield 17, 3) := by decide +kernel
theorem dX4_readAtom_81 : decode mX4_readAtom.2.1 81 = .ok (.bipush 93, 2) := by decide +kernel
theorem dX4_readAtom_83 : decode mX4_readAtom.2.1 83 = .ok (.invokevirtual 39, 3) := by decide +kernel
theorem dX4_readAtom_86 : decode mX4_readAtom.2.1 86 = .ok (.ifCond .eq 7, 3) := by decide +kernel
theorem dX4_readAtom_89 : decode mX4_readAtom.2.1 89 = .ok (.iconst 1, 1) := by decide +kernel
theorem dX4_readAtom_90 : decode mX4_readAtom.2.1 90 = .ok (.goto 4, 3) := by decide +kernel
theorem dX4_readAtom_93 : decode mX4_readAtom.2.1 93 = .ok (.iconst 0, 1) := by decide +kernel
theorem dX4_readAtom_94 : decode mX4_readAtom.2.1 94 = .ok (.ireturn, 1) := by decide +kernel
theorem dX4_readAtom_95 : decode mX4_readAtom.2.1 95 = .ok (.iload_n 2, 1) := by decide +kernel
theorem dX4_readAtom_96 : decode mX4_readAtom.2.1 96 = .ok (.invokestatic 93, 3) := by decide +kernel
theorem dX4_readAtom_99 : decode mX4_readAtom.2.1 99 = .ok (.istore_n 3, 1) := by decide +kernel
theorem dX4_readAtom_100 : decode mX4_readAtom.2.1 100 = .ok (.iload_n 3, 1) := by decide +kernel
theorem dX4_readAtom_101 : decode mX4_readAtom.2.1 101 = .ok (.iconst (-1), 1) := by decide +kernel
theorem dX4_readAtom_102 : decode mX4_readAtom.2.1 102 = .ok (.if_icmp .ne 18, 3) := by decide +kernel
theorem dX4_readAtom_105 : decode mX4_readAtom.2.1 105 = .ok (.aload_n 0, 1) := by decide +kernel
theorem dX4_readAtom_106 : decode mX4_readAtom.2.1 106 = .ok (.getfield 17, 3) := by decide +kernel
theorem dX4_readAtom_109 : decode mX4_readAtom.2.1 109 = .ok (.aload_n 0, 1) := by decide +kernel
theorem dX4_readAtom_110 : decode mX4_readAtom.2.1 110 = .ok (.getfield 17, 3) := by decide +kernel
theorem dX4_readAtom_113 : decode mX4_readAtom.2.1 113 = .ok (.getfield 55, 3) := by decide +kernel
theorem dX4_readAtom_116 : decode mX4_readAtom.2.1 116 = .ok (.invokevirtual 58, 3) := by decide +kernel
theorem dX4_readAtom_119 : decode mX4_readAtom.2.1 119 = .ok (.ireturn, 1) := by decide +kernel
theorem dX4_readAtom_120 : decode mX4_readAtom.2.1 120 = .ok (.aload_n 0, 1) := by decide +kernel
theorem dX4_readAtom_121 : decode mX4_readAtom.2.1 121 = .ok (.getfield 17, 3) := by decide +kernel
theorem dX4_readAtom_124 : decode mX4_readAtom.2.1 124 = .ok (.dup, 1) := by decide +kernel
theorem dX4_readAtom_125 : decode mX4_readAtom.2.1 125 = .ok (.getfield 55, 3) := by decide +kernel
theorem dX4_readAtom_128 : decode mX4_readAtom.2.1 128 = .ok (.iconst 1, 1) := by decide +kernel
theorem dX4_readAtom_129 : decode mX4_readAtom.2.1 129 = .ok (.iadd, 1) := by decide +kernel
theorem dX4_readAtom_130 : decode mX4_readAtom.2.1 130 = .ok (.putfield 55, 3) := by decide +kernel
theorem dX4_readAtom_133 : decode mX4_readAtom.2.1 133 = .ok (.aload_n 0, 1) := by decide +kernel
theorem dX4_readAtom_134 : decode mX4_readAtom.2.1 134 = .ok (.iconst (-1), 1) := by decide +kernel
theorem dX4_readAtom_135 : decode mX4_readAtom.2.1 135 = .ok (.iload_n 3, 1) := by decide +kernel
theorem dX4_readAtom_136 : decode mX4_readAtom.2.1 136 = .ok (.isub, 1) := by decide +kernel
theorem dX4_readAtom_137 : decode mX4_readAtom.2.1 137 = .ok (.invokevirtual 47, 3) := by decide +kernel
theorem dX4_readAtom_140 : decode mX4_readAtom.2.1 140 = .ok (.iconst 1, 1) := by decide +kernel
theorem dX4_readAtom_141 : decode mX4_readAtom.2.1 141 = .ok (.ireturn, 1) := by decide +kernel
abbrev mX4_readClause : gz_M := (yX4_readClause, cX4_readClause, 3, some .boolean)
theorem dX4_readClause_0 : decode mX4_readClause.2.1 0 = .ok (.aload_n 0, 1) := by decide +kernel
theorem dX4_readClause_1 : decode mX4_readClause.2.1 1 = .ok (.getfield 17, 3) := by decide +kernel
theorem dX4_readClause_4 : decode mX4_readClause.2.1 4 = .ok (.invokevirtual 51, 3) := by decide +kernel
theorem dX4_readClause_7 : decode mX4_readClause.2.1 7 = .ok (.istore_n 1, 1) := by decide +kernel
theorem dX4_readClause_8 : decode mX4_readClause.2.1 8 = .ok (.iload_n 1, 1) := by decide +kernel
theorem dX4_readClause_9 : decode mX4_readClause.2.1 9 = .ok (.bipush 33, 2) := by decide +kernel
theorem dX4_readClause_11 : decode mX4_readClause.2.1 11 = .ok (.if_icmp .eq 13, 3) := by decide +kernel
theorem dX4_readClause_14 : decode mX4_readClause.2.1 14 = .ok (.iload_n 1, 1) := by decide +kernel
theorem dX4_readClause_15 : decode mX4_readClause.2.1 15 = .ok (.bipush 40, 2) := by decide +kernel
theorem dX4_readClause_17 : decode mX4_readClause.2.1 17 = .ok (.if_icmp .eq 7, 3) := by decide +kernel
theorem dX4_readClause_20 : decode mX4_readClause.2.1 20 = .ok (.iconst 1, 1) := by decide +kernel
theorem dX4_readClause_21 : decode mX4_readClause.2.1 21 = .ok (.goto 4, 3) := by decide +kernel
theorem dX4_readClause_24 : decode mX4_readClause.2.1 24 = .ok (.iconst 0, 1) := by decide +kernel
theorem dX4_readClause_25 : decode mX4_readClause.2.1 25 = .ok (.istore_n 2, 1) := by decide +kernel
theorem dX4_readClause_26 : decode mX4_readClause.2.1 26 = .ok (.iload_n 2, 1) := by decide +kernel
theorem dX4_readClause_27 : decode mX4_readClause.2.1 27 = .ok (.ifCond .eq 13, 3) := by decide +kernel
theorem dX4_readClause_30 : decode mX4_readClause.2.1 30 = .ok (.aload_n 0, 1) := by decide +kernel
theorem dX4_readClause_31 : decode mX4_readClause.2.1 31 = .ok (.iconst 0, 1) := by decide +kernel
theorem dX4_readClause_32 : decode mX4_readClause.2.1 32 = .ok (.invokevirtual 61, 3) := by decide +kernel
theorem dX4_readClause_35 : decode mX4_readClause.2.1 35 = .ok (.ifCond .ne 5, 3) := by decide +kernel
theorem dX4_readClause_38 : decode mX4_readClause.2.1 38 = .ok (.iconst 0, 1) := by decide +kernel
theorem dX4_readClause_39 : decode mX4_readClause.2.1 39 = .ok (.ireturn, 1) := by decide +kernel
theorem dX4_readClause_40 : decode mX4_readClause.2.1 40 = .ok (.iload_n 2, 1) := by decide +kernel
theorem dX4_readClause_41 : decode mX4_readClause.2.1 41 = .ok (.ifCond .eq 19, 3) := by decide +kernel
theorem dX4_readClause_44 : decode mX4_readClause.2.1 44 = .ok (.aload_n 0, 1) := by decide +kernel
theorem dX4_readClause_45 : decode mX4_readClause.2.1 45 = .ok (.getfield 17, 3) := by decide +kernel
theorem dX4_readClause_48 : decode mX4_readClause.2.1 48 = .ok (.invokevirtual 51, 3) := by decide +kernel
theorem dX4_readClause_51 : decode mX4_readClause.2.1 51 = .ok (.invokestatic 64, 3) := by decide +kernel
theorem dX4_readClause_54 : decode mX4_readClause.2.1 54 = .ok (.iconst (-1), 1) := by decide +kernel
theorem dX4_readClause_55 : decode mX4_readClause.2.1 55 = .ok (.if_icmp .ne 5, 3) := by decide +kernel
theorem dX4_readClause_58 : decode mX4_readClause.2.1 58 = .ok (.iconst 1, 1) := by decide +kernel
theorem dX4_readClause_59 : decode mX4_readClause.2.1 59 = .ok (.ireturn, 1) := by decide +kernel
theorem dX4_readClause_60 : decode mX4_readClause.2.1 60 = .ok (.aload_n 0, 1) := by decide +kernel
theorem dX4_readClause_61 : decode mX4_readClause.2.1 61 = .ok (.iconst 0, 1) := by decide +kernel
theorem dX4_readClause_62 : decode mX4_readClause.2.1 62 = .ok (.iload_n 2, 1) := by decide +kernel
theorem dX4_readClause_63 : decode mX4_readClause.2.1 63 = .ok (.invokevirtual 68, 3) := by decide +kernel
theorem dX4_readClause_66 : decode mX4_readClause.2.1 66 = .ok (.ifCond .eq 15, 3) := by decide +kernel
theorem dX4_readClause_69 : decode mX4_readClause.2.1 69 = .ok (.aload_n 0, 1) := by decide +kernel
theorem dX4_readClause_70 : decode mX4_readClause.2.1 70 = .ok (.getfield 17, 3) := by decide +kernel
theorem dX4_readClause_73 : decode mX4_readClause.2.1 73 = .ok (.bipush 63, 2) := by decide +kernel
theorem dX4_readClause_75 : decode mX4_readClause.2.1 75 = .ok (.invokevirtual 39, 3) := by decide +kernel
theorem dX4_readClause_78 : decode mX4_readClause.2.1 78 = .ok (.ifCond .ne 5, 3) := by decide +kernel
theorem dX4_readClause_81 : decode mX4_readClause.2.1 81 = .ok (.iconst 0, 1) := by decide +kernel
theorem dX4_readClause_82 : decode mX4_readClause.2.1 82 = .ok (.ireturn, 1) := by decide +kernel
theorem dX4_readClause_83 : decode mX4_readClause.2.1 83 = .ok (.aload_n 0, 1) := by decide +kernel
theorem dX4_readClause_84 : decode mX4_readClause.2.1 84 = .ok (.bipush (-21), 2) := by decide +kernel
theorem dX4_readClause_86 : decode mX4_readClause.2.1 86 = .ok (.invokevirtual 47, 3) := by decide +kernel
theorem dX4_readClause_89 : decode mX4_readClause.2.1 89 = .ok (.aload_n 0, 1) := by decide +kernel
theorem dX4_readClause_90 : decode mX4_readClause.2.1 90 = .ok (.iconst 0, 1) := by decide +kernel
theorem dX4_readClause_91 : decode mX4_readClause.2.1 91 = .ok (.invokevirtual 61, 3) := by decide +kernel
theorem dX4_readClause_94 : decode mX4_readClause.2.1 94 = .ok (.ireturn, 1) := by decide +kernel
abbrev mX4_readCompared : gz_M := (yX4_readCompared, cX4_readCompared, 4, some .boolean)
theorem dX4_readCompared_0 : decode mX4_readCompared.2.1 0 = .ok (.aload_n 0, 1) := by decide +kernel
theorem dX4_readCompared_1 : decode mX4_readCompared.2.1 1 = .ok (.getfield 17, 3) := by decide +kernel
theorem dX4_readCompared_4 : decode mX4_readCompared.2.1 4 = .ok (.invokevirtual 51, 3) := by decide +kernel
theorem dX4_readCompared_7 : decode mX4_readCompared.2.1 7 = .ok (.invokestatic 64, 3) := by decide +kernel
theorem dX4_readCompared_10 : decode mX4_readCompared.2.1 10 = .ok (.istore_n 2, 1) := by decide +kernel
theorem dX4_readCompared_11 : decode mX4_readCompared.2.1 11 = .ok (.iload_n 2, 1) := by decide +kernel
theorem dX4_readCompared_12 : decode mX4_readCompared.2.1 12 = .ok (.iconst (-1), 1) := by decide +kernel
theorem dX4_readCompared_13 : decode mX4_readCompared.2.1 13 = .ok (.if_icmp .ne 18, 3) := by decide +kernel
theorem dX4_readCompared_16 : decode mX4_readCompared.2.1 16 = .ok (.aload_n 0, 1) := by decide +kernel
theorem dX4_readCompared_17 : decode mX4_readCompared.2.1 17 = .ok (.getfield 17, 3) := by decide +kernel
theorem dX4_readCompared_20 : decode mX4_readCompared.2.1 20 = .ok (.aload_n 0, 1) := by decide +kernel
theorem dX4_readCompared_21 : decode mX4_readCompared.2.1 21 = .ok (.getfield 17, 3) := by decide +kernel
theorem dX4_readCompared_24 : decode mX4_readCompared.2.1 24 = .ok (.getfield 55, 3) := by decide +kernel
theorem dX4_readCompared_27 : decode mX4_readCompared.2.1 27 = .ok (.invokevirtual 58, 3) := by decide +kernel
theorem dX4_readCompared_30 : decode mX4_readCompared.2.1 30 = .ok (.ireturn, 1) := by decide +kernel
theorem dX4_readCompared_31 : decode mX4_readCompared.2.1 31 = .ok (.aload_n 0, 1) := by decide +kernel
theorem dX4_readCompared_32 : decode mX4_readCompared.2.1 32 = .ok (.getfield 17, 3) := by decide +kernel
theorem dX4_readCompared_35 : decode mX4_readCompared.2.1 35 = .ok (.dup, 1) := by decide +kernel
theorem dX4_readCompared_36 : decode mX4_readCompared.2.1 36 = .ok (.getfield 55, 3) := by decide +kernel
theorem dX4_readCompared_39 : decode mX4_readCompared.2.1 39 = .ok (.iconst 1, 1) := by decide +kernel
theorem dX4_readCompared_40 : decode mX4_readCompared.2.1 40 = .ok (.iadd, 1) := by decide +kernel
theorem dX4_readCompared_41 : decode mX4_readCompared.2.1 41 = .ok (.putfield 55, 3) := by decide +kernel
theorem dX4_readCompared_44 : decode mX4_readCompared.2.1 44 = .ok (.aload_n 0, 1) := by decide +kernel
theorem dX4_readCompared_45 : decode mX4_readCompared.2.1 45 = .ok (.iload_n 1, 1) := by decide +kernel
theorem dX4_readCompared_46 : decode mX4_readCompared.2.1 46 = .ok (.invokevirtual 61, 3) := by decide +kernel
theorem dX4_readCompared_49 : decode mX4_readCompared.2.1 49 = .ok (.istore_n 3, 1) := by decide +kernel
theorem dX4_readCompared_50 : decode mX4_readCompared.2.1 50 = .ok (.aload_n 0, 1) := by decide +kernel
theorem dX4_readCompared_51 : decode mX4_readCompared.2.1 51 = .ok (.iload_n 2, 1) := by decide +kernel
theorem dX4_readCompared_52 : decode mX4_readCompared.2.1 52 = .ok (.invokevirtual 47, 3) := by decide +kernel
theorem dX4_readCompared_55 : decode mX4_readCompared.2.1 55 = .ok (.iload_n 3, 1) := by decide +kernel
theorem dX4_readCompared_56 : decode mX4_readCompared.2.1 56 = .ok (.ireturn, 1) := by decide +kernel
abbrev mX4_readCondition : gz_M := (yX4_readCondition, cX4_readCondition, 6, some .boolean)
theorem dX4_readCondition_0 : decode mX4_readCondition.2.1 0 = .ok (.iconst 0, 1) := by decide +kernel
theorem dX4_readCondition_1 : decode mX4_readCondition.2.1 1 = .ok (.istore_n 3, 1) := by decide +kernel
theorem dX4_readCondition_2 : decode mX4_readCondition.2.1 2 = .ok (.iload_n 3, 1) := by decide +kernel
theorem dX4_readCondition_3 : decode mX4_readCondition.2.1 3 = .ok (.sipush 240, 3) := by decide +kernel
theorem dX4_readCondition_6 : decode mX4_readCondition.2.1 6 = .ok (.if_icmp .ge 109, 3) := by decide +kernel
theorem dX4_readCondition_9 : decode mX4_readCondition.2.1 9 = .ok (.iload_n 3, 1) := by decide +kernel
theorem dX4_readCondition_10 : decode mX4_readCondition.2.1 10 = .ok (.ifCond .ne 15, 3) := by decide +kernel
theorem dX4_readCondition_13 : decode mX4_readCondition.2.1 13 = .ok (.iload_n 2, 1) := by decide +kernel
theorem dX4_readCondition_14 : decode mX4_readCondition.2.1 14 = .ok (.ifCond .eq 11, 3) := by decide +kernel
theorem dX4_readCondition_17 : decode mX4_readCondition.2.1 17 = .ok (.aload_n 0, 1) := by decide +kernel
theorem dX4_readCondition_18 : decode mX4_readCondition.2.1 18 = .ok (.iload_n 1, 1) := by decide +kernel
theorem dX4_readCondition_19 : decode mX4_readCondition.2.1 19 = .ok (.invokevirtual 72, 3) := by decide +kernel
theorem dX4_readCondition_22 : decode mX4_readCondition.2.1 22 = .ok (.goto 8, 3) := by decide +kernel
theorem dX4_readCondition_25 : decode mX4_readCondition.2.1 25 = .ok (.aload_n 0, 1) := by decide +kernel
theorem dX4_readCondition_26 : decode mX4_readCondition.2.1 26 = .ok (.iload_n 1, 1) := by decide +kernel
theorem dX4_readCondition_27 : decode mX4_readCondition.2.1 27 = .ok (.invokevirtual 75, 3) := by decide +kernel
theorem dX4_readCondition_30 : decode mX4_readCondition.2.1 30 = .ok (.istore 4, 2) := by decide +kernel
theorem dX4_readCondition_32 : decode mX4_readCondition.2.1 32 = .ok (.iconst 0, 1) := by decide +kernel
theorem dX4_readCondition_33 : decode mX4_readCondition.2.1 33 = .ok (.istore 5, 2) := by decide +kernel
theorem dX4_readCondition_35 : decode mX4_readCondition.2.1 35 = .ok (.iload 5, 2) := by decide +kernel
theorem dX4_readCondition_37 : decode mX4_readCondition.2.1 37 = .ok (.sipush 240, 3) := by decide +kernel
theorem dX4_readCondition_40 : decode mX4_readCondition.2.1 40 = .ok (.if_icmp .ge 39, 3) := by decide +kernel
theorem dX4_readCondition_43 : decode mX4_readCondition.2.1 43 = .ok (.iload 4, 2) := by decide +kernel
theorem dX4_readCondition_45 : decode mX4_readCondition.2.1 45 = .ok (.ifCond .eq 34, 3) := by decide +kernel
theorem dX4_readCondition_48 : decode mX4_readCondition.2.1 48 = .ok (.aload_n 0, 1) := by decide +kernel
theorem dX4_readCondition_49 : decode mX4_readCondition.2.1 49 = .ok (.getfield 17, 3) := by decide +kernel
theorem dX4_readCondition_52 : decode mX4_readCondition.2.1 52 = .ok (.bipush 38, 2) := by decide +kernel
theorem dX4_readCondition_54 : decode mX4_readCondition.2.1 54 = .ok (.invokevirtual 78, 3) := by decide +kernel
theorem dX4_readCondition_57 : decode mX4_readCondition.2.1 57 = .ok (.ifCond .eq 22, 3) := by decide +kernel
theorem dX4_readCondition_60 : decode mX4_readCondition.2.1 60 = .ok (.aload_n 0, 1) := by decide +kernel
theorem dX4_readCondition_61 : decode mX4_readCondition.2.1 61 = .ok (.iload_n 1, 1) := by decide +kernel
theorem dX4_readCondition_62 : decode mX4_readCondition.2.1 62 = .ok (.invokevirtual 75, 3) := by decide +kernel
theorem dX4_readCondition_65 : decode mX4_readCondition.2.1 65 = .ok (.istore 4, 2) := by decide +kernel
theorem dX4_readCondition_67 : decode mX4_readCondition.2.1 67 = .ok (.aload_n 0, 1) := by decide +kernel
theorem dX4_readCondition_68 : decode mX4_readCondition.2.1 68 = .ok (.bipush (-18), 2) := by decide +kernel
theorem dX4_readCondition_70 : decode mX4_readCondition.2.1 70 = .ok (.invokevirtual 47, 3) := by decide +kernel
theorem dX4_readCondition_73 : decode mX4_readCondition.2.1 73 = .ok (.iinc 5 1, 3) := by decide +kernel
theorem dX4_readCondition_76 : decode mX4_readCondition.2.1 76 = .ok (.goto (-41), 3) := by decide +kernel
theorem dX4_readCondition_79 : decode mX4_readCondition.2.1 79 = .ok (.iload_n 3, 1) := by decide +kernel
theorem dX4_readCondition_80 : decode mX4_readCondition.2.1 80 = .ok (.ifCond .le 9, 3) := by decide +kernel
theorem dX4_readCondition_83 : decode mX4_readCondition.2.1 83 = .ok (.aload_n 0, 1) := by decide +kernel
theorem dX4_readCondition_84 : decode mX4_readCondition.2.1 84 = .ok (.bipush (-19), 2) := by decide +kernel
theorem dX4_readCondition_86 : decode mX4_readCondition.2.1 86 = .ok (.invokevirtual 47, 3) := by decide +kernel
theorem dX4_readCondition_89 : decode mX4_readCondition.2.1 89 = .ok (.iload 4, 2) := by decide +kernel
theorem dX4_readCondition_91 : decode mX4_readCondition.2.1 91 = .ok (.ifCond .eq 15, 3) := by decide +kernel
theorem dX4_readCondition_94 : decode mX4_readCondition.2.1 94 = .ok (.aload_n 0, 1) := by decide +kernel
theorem dX4_readCondition_95 : decode mX4_readCondition.2.1 95 = .ok (.getfield 17, 3) := by decide +kernel
theorem dX4_readCondition_98 : decode mX4_readCondition.2.1 98 = .ok (.bipush 124, 2) := by decide +kernel
theorem dX4_readCondition_100 : decode mX4_readCondition.2.1 100 = .ok (.invokevirtual 78, 3) := by decide +kernel
theorem dX4_readCondition_103 : decode mX4_readCondition.2.1 103 = .ok (.ifCond .ne 6, 3) := by decide +kernel
theorem dX4_readCondition_106 : decode mX4_readCondition.2.1 106 = .ok (.iload 4, 2) := by decide +kernel
theorem dX4_readCondition_108 : decode mX4_readCondition.2.1 108 = .ok (.ireturn, 1) := by decide +kernel
theorem dX4_readCondition_109 : decode mX4_readCondition.2.1 109 = .ok (.iinc 3 1, 3) := by decide +kernel
theorem dX4_readCondition_112 : decode mX4_readCondition.2.1 112 = .ok (.goto (-110), 3) := by decide +kernel
theorem dX4_readCondition_115 : decode mX4_readCondition.2.1 115 = .ok (.aload_n 0, 1) := by decide +kernel
theorem dX4_readCondition_116 : decode mX4_readCondition.2.1 116 = .ok (.getfield 17, 3) := by decide +kernel
theorem dX4_readCondition_119 : decode mX4_readCondition.2.1 119 = .ok (.aload_n 0, 1) := by decide +kernel
theorem dX4_readCondition_120 : decode mX4_readCondition.2.1 120 = .ok (.getfield 17, 3) := by decide +kernel
theorem dX4_readCondition_123 : decode mX4_readCondition.2.1 123 = .ok (.getfield 55, 3) := by decide +kernel
theorem dX4_readCondition_126 : decode mX4_readCondition.2.1 126 = .ok (.invokevirtual 58, 3) := by decide +kernel
theorem dX4_readCondition_129 : decode mX4_readCondition.2.1 129 = .ok (.ireturn, 1) := by decide +kernel
abbrev mX4_readLaw : gz_M := (yX4_readLaw, cX4_readLaw, 2, some .boolean)
theorem dX4_readLaw_0 : decode mX4_readLaw.2.1 0 = .ok (.aload_n 0, 1) := by decide +kernel
theorem dX4_readLaw_1 : decode mX4_readLaw.2.1 1 = .ok (.getfield 17, 3) := by decide +kernel
theorem dX4_readLaw_4 : decode mX4_readLaw.2.1 4 = .ok (.invokevirtual 36, 3) := by decide +kernel
theorem dX4_readLaw_7 : decode mX4_readLaw.2.1 7 = .ok (.aload_n 0, 1) := by decide +kernel
theorem dX4_readLaw_8 : decode mX4_readLaw.2.1 8 = .ok (.iconst 0, 1) := by decide +kernel
theorem dX4_readLaw_9 : decode mX4_readLaw.2.1 9 = .ok (.putfield 23, 3) := by decide +kernel
theorem dX4_readLaw_12 : decode mX4_readLaw.2.1 12 = .ok (.iconst 0, 1) := by decide +kernel
theorem dX4_readLaw_13 : decode mX4_readLaw.2.1 13 = .ok (.istore_n 1, 1) := by decide +kernel
theorem dX4_readLaw_14 : decode mX4_readLaw.2.1 14 = .ok (.iload_n 1, 1) := by decide +kernel
theorem dX4_readLaw_15 : decode mX4_readLaw.2.1 15 = .ok (.sipush 240, 3) := by decide +kernel
theorem dX4_readLaw_18 : decode mX4_readLaw.2.1 18 = .ok (.if_icmp .gt 75, 3) := by decide +kernel
theorem dX4_readLaw_21 : decode mX4_readLaw.2.1 21 = .ok (.aload_n 0, 1) := by decide +kernel
theorem dX4_readLaw_22 : decode mX4_readLaw.2.1 22 = .ok (.getfield 17, 3) := by decide +kernel
theorem dX4_readLaw_25 : decode mX4_readLaw.2.1 25 = .ok (.bipush 121, 2) := by decide +kernel
theorem dX4_readLaw_27 : decode mX4_readLaw.2.1 27 = .ok (.invokevirtual 39, 3) := by decide +kernel
theorem dX4_readLaw_30 : decode mX4_readLaw.2.1 30 = .ok (.ifCond .eq 22, 3) := by decide +kernel
theorem dX4_readLaw_33 : decode mX4_readLaw.2.1 33 = .ok (.aload_n 0, 1) := by decide +kernel
theorem dX4_readLaw_34 : decode mX4_readLaw.2.1 34 = .ok (.getfield 17, 3) := by decide +kernel
theorem dX4_readLaw_37 : decode mX4_readLaw.2.1 37 = .ok (.bipush 58, 2) := by decide +kernel
theorem dX4_readLaw_39 : decode mX4_readLaw.2.1 39 = .ok (.invokevirtual 39, 3) := by decide +kernel
theorem dX4_readLaw_42 : decode mX4_readLaw.2.1 42 = .ok (.ifCond .eq 10, 3) := by decide +kernel
theorem dX4_readLaw_45 : decode mX4_readLaw.2.1 45 = .ok (.aload_n 0, 1) := by decide +kernel
theorem dX4_readLaw_46 : decode mX4_readLaw.2.1 46 = .ok (.invokevirtual 43, 3) := by decide +kernel
theorem dX4_readLaw_49 : decode mX4_readLaw.2.1 49 = .ok (.ifCond .ne 5, 3) := by decide +kernel
theorem dX4_readLaw_52 : decode mX4_readLaw.2.1 52 = .ok (.iconst 0, 1) := by decide +kernel
theorem dX4_readLaw_53 : decode mX4_readLaw.2.1 53 = .ok (.ireturn, 1) := by decide +kernel
theorem dX4_readLaw_54 : decode mX4_readLaw.2.1 54 = .ok (.aload_n 0, 1) := by decide +kernel
theorem dX4_readLaw_55 : decode mX4_readLaw.2.1 55 = .ok (.bipush (-22), 2) := by decide +kernel
theorem dX4_readLaw_57 : decode mX4_readLaw.2.1 57 = .ok (.invokevirtual 47, 3) := by decide +kernel
theorem dX4_readLaw_60 : decode mX4_readLaw.2.1 60 = .ok (.aload_n 0, 1) := by decide +kernel
theorem dX4_readLaw_61 : decode mX4_readLaw.2.1 61 = .ok (.getfield 17, 3) := by decide +kernel
theorem dX4_readLaw_64 : decode mX4_readLaw.2.1 64 = .ok (.invokevirtual 51, 3) := by decide +kernel
theorem dX4_readLaw_67 : decode mX4_readLaw.2.1 67 = .ok (.iconst (-1), 1) := by decide +kernel
theorem dX4_readLaw_68 : decode mX4_readLaw.2.1 68 = .ok (.if_icmp .ne 5, 3) := by decide +kernel
theorem dX4_readLaw_71 : decode mX4_readLaw.2.1 71 = .ok (.iconst 1, 1) := by decide +kernel
theorem dX4_readLaw_72 : decode mX4_readLaw.2.1 72 = .ok (.ireturn, 1) := by decide +kernel
theorem dX4_readLaw_73 : decode mX4_readLaw.2.1 73 = .ok (.aload_n 0, 1) := by decide +kernel
theorem dX4_readLaw_74 : decode mX4_readLaw.2.1 74 = .ok (.getfield 17, 3) := by decide +kernel
theorem dX4_readLaw_77 : decode mX4_readLaw.2.1 77 = .ok (.bipush 59, 2) := by decide +kernel
theorem dX4_readLaw_79 : decode mX4_readLaw.2.1 79 = .ok (.invokevirtual 39, 3) := by decide +kernel
theorem dX4_readLaw_82 : decode mX4_readLaw.2.1 82 = .ok (.ifCond .ne 5, 3) := by decide +kernel
theorem dX4_readLaw_85 : decode mX4_readLaw.2.1 85 = .ok (.iconst 0, 1) := by decide +kernel
theorem dX4_readLaw_86 : decode mX4_readLaw.2.1 86 = .ok (.ireturn, 1) := by decide +kernel
theorem dX4_readLaw_87 : decode mX4_readLaw.2.1 87 = .ok (.iinc 1 1, 3) := by decide +kernel
theorem dX4_readLaw_90 : decode mX4_readLaw.2.1 90 = .ok (.goto (-76), 3) := by decide +kernel
theorem dX4_readLaw_93 : decode mX4_readLaw.2.1 93 = .ok (.aload_n 0, 1) := by decide +kernel
theorem dX4_readLaw_94 : decode mX4_readLaw.2.1 94 = .ok (.getfield 17, 3) := by decide +kernel
theorem dX4_readLaw_97 : decode mX4_readLaw.2.1 97 = .ok (.aload_n 0, 1) := by decide +kernel
theorem dX4_readLaw_98 : decode mX4_readLaw.2.1 98 = .ok (.getfield 17, 3) := by decide +kernel
theorem dX4_readLaw_101 : decode mX4_readLaw.2.1 101 = .ok (.getfield 55, 3) := by decide +kernel
theorem dX4_readLaw_104 : decode mX4_readLaw.2.1 104 = .ok (.invokevirtual 58, 3) := by decide +kernel
theorem dX4_readLaw_107 : decode mX4_readLaw.2.1 107 = .ok (.ireturn, 1) := by decide +kernel
abbrev mX4_readSum : gz_M := (yX4_readSum, cX4_readSum, 7, some .boolean)
theorem dX4_readSum_0 : decode mX4_readSum.2.1 0 = .ok (.iconst (-1), 1) := by decide +kernel
theorem dX4_readSum_1 : decode mX4_readSum.2.1 1 = .ok (.istore_n 2, 1) := by decide +kernel
theorem dX4_readSum_2 : decode mX4_readSum.2.1 2 = .ok (.iconst 0, 1) := by decide +kernel
theorem dX4_readSum_3 : decode mX4_readSum.2.1 3 = .ok (.istore_n 3, 1) := by decide +kernel
theorem dX4_readSum_4 : decode mX4_readSum.2.1 4 = .ok (.iload_n 3, 1) := by decide +kernel
theorem dX4_readSum_5 : decode mX4_readSum.2.1 5 = .ok (.sipush 240, 3) := by decide +kernel
theorem dX4_readSum_8 : decode mX4_readSum.2.1 8 = .ok (.if_icmp .ge 142, 3) := by decide +kernel
theorem dX4_readSum_11 : decode mX4_readSum.2.1 11 = .ok (.aload_n 0, 1) := by decide +kernel
theorem dX4_readSum_12 : decode mX4_readSum.2.1 12 = .ok (.iload_n 1, 1) := by decide +kernel
theorem dX4_readSum_13 : decode mX4_readSum.2.1 13 = .ok (.invokevirtual 81, 3) := by decide +kernel
theorem dX4_readSum_16 : decode mX4_readSum.2.1 16 = .ok (.istore 4, 2) := by decide +kernel
theorem dX4_readSum_18 : decode mX4_readSum.2.1 18 = .ok (.aload_n 0, 1) := by decide +kernel
theorem dX4_readSum_19 : decode mX4_readSum.2.1 19 = .ok (.getfield 17, 3) := by decide +kernel
theorem dX4_readSum_22 : decode mX4_readSum.2.1 22 = .ok (.invokevirtual 51, 3) := by decide +kernel
theorem dX4_readSum_25 : decode mX4_readSum.2.1 25 = .ok (.invokestatic 84, 3) := by decide +kernel
theorem dX4_readSum_28 : decode mX4_readSum.2.1 28 = .ok (.istore 5, 2) := by decide +kernel
theorem dX4_readSum_30 : decode mX4_readSum.2.1 30 = .ok (.iconst 0, 1) := by decide +kernel
theorem dX4_readSum_31 : decode mX4_readSum.2.1 31 = .ok (.istore 6, 2) := by decide +kernel
theorem dX4_readSum_33 : decode mX4_readSum.2.1 33 = .ok (.iload 6, 2) := by decide +kernel
theorem dX4_readSum_35 : decode mX4_readSum.2.1 35 = .ok (.sipush 240, 3) := by decide +kernel
theorem dX4_readSum_38 : decode mX4_readSum.2.1 38 = .ok (.if_icmp .ge 66, 3) := by decide +kernel
theorem dX4_readSum_41 : decode mX4_readSum.2.1 41 = .ok (.iload 4, 2) := by decide +kernel
theorem dX4_readSum_43 : decode mX4_readSum.2.1 43 = .ok (.ifCond .eq 61, 3) := by decide +kernel
theorem dX4_readSum_46 : decode mX4_readSum.2.1 46 = .ok (.iload 5, 2) := by decide +kernel
theorem dX4_readSum_48 : decode mX4_readSum.2.1 48 = .ok (.bipush (-13), 2) := by decide +kernel
theorem dX4_readSum_50 : decode mX4_readSum.2.1 50 = .ok (.if_icmp .eq 10, 3) := by decide +kernel
theorem dX4_readSum_53 : decode mX4_readSum.2.1 53 = .ok (.iload 5, 2) := by decide +kernel
theorem dX4_readSum_55 : decode mX4_readSum.2.1 55 = .ok (.bipush (-14), 2) := by decide +kernel
theorem dX4_readSum_57 : decode mX4_readSum.2.1 57 = .ok (.if_icmp .ne 47, 3) := by decide +kernel
theorem dX4_readSum_60 : decode mX4_readSum.2.1 60 = .ok (.aload_n 0, 1) := by decide +kernel
theorem dX4_readSum_61 : decode mX4_readSum.2.1 61 = .ok (.getfield 17, 3) := by decide +kernel
theorem dX4_readSum_64 : decode mX4_readSum.2.1 64 = .ok (.dup, 1) := by decide +kernel
theorem dX4_readSum_65 : decode mX4_readSum.2.1 65 = .ok (.getfield 55, 3) := by decide +kernel
theorem dX4_readSum_68 : decode mX4_readSum.2.1 68 = .ok (.iconst 1, 1) := by decide +kernel
theorem dX4_readSum_69 : decode mX4_readSum.2.1 69 = .ok (.iadd, 1) := by decide +kernel
theorem dX4_readSum_70 : decode mX4_readSum.2.1 70 = .ok (.putfield 55, 3) := by decide +kernel
theorem dX4_readSum_73 : decode mX4_readSum.2.1 73 = .ok (.aload_n 0, 1) := by decide +kernel
theorem dX4_readSum_74 : decode mX4_readSum.2.1 74 = .ok (.iload_n 1, 1) := by decide +kernel
theorem dX4_readSum_75 : decode mX4_readSum.2.1 75 = .ok (.invokevirtual 81, 3) := by decide +kernel
theorem dX4_readSum_78 : decode mX4_readSum.2.1 78 = .ok (.istore 4, 2) := by decide +kernel
theorem dX4_readSum_80 : decode mX4_readSum.2.1 80 = .ok (.aload_n 0, 1) := by decide +kernel
theorem dX4_readSum_81 : decode mX4_readSum.2.1 81 = .ok (.iload 5, 2) := by decide +kernel
theorem dX4_readSum_83 : decode mX4_readSum.2.1 83 = .ok (.invokevirtual 47, 3) := by decide +kernel
theorem dX4_readSum_86 : decode mX4_readSum.2.1 86 = .ok (.aload_n 0, 1) := by decide +kernel
theorem dX4_readSum_87 : decode mX4_readSum.2.1 87 = .ok (.getfield 17, 3) := by decide +kernel
theorem dX4_readSum_90 : decode mX4_readSum.2.1 90 = .ok (.invokevirtual 51, 3) := by decide +kernel
theorem dX4_readSum_93 : decode mX4_readSum.2.1 93 = .ok (.invokestatic 84, 3) := by decide +kernel
theorem dX4_readSum_96 : decode mX4_readSum.2.1 96 = .ok (.istore 5, 2) := by decide +kernel
theorem dX4_readSum_98 : decode mX4_readSum.2.1 98 = .ok (.iinc 6 1, 3) := by decide +kernel
theorem dX4_readSum_101 : decode mX4_readSum.2.1 101 = .ok (.goto (-68), 3) := by decide +kernel
theorem dX4_readSum_104 : decode mX4_readSum.2.1 104 = .ok (.iload_n 2, 1) := by decide +kernel
theorem dX4_readSum_105 : decode mX4_readSum.2.1 105 = .ok (.iconst (-1), 1) := by decide +kernel
theorem dX4_readSum_106 : decode mX4_readSum.2.1 106 = .ok (.if_icmp .eq 8, 3) := by decide +kernel
theorem dX4_readSum_109 : decode mX4_readSum.2.1 109 = .ok (.aload_n 0, 1) := by decide +kernel
theorem dX4_readSum_110 : decode mX4_readSum.2.1 110 = .ok (.iload_n 2, 1) := by decide +kernel
theorem dX4_readSum_111 : decode mX4_readSum.2.1 111 = .ok (.invokevirtual 47, 3) := by decide +kernel
theorem dX4_readSum_114 : decode mX4_readSum.2.1 114 = .ok (.iload 4, 2) := by decide +kernel
theorem dX4_readSum_116 : decode mX4_readSum.2.1 116 = .ok (.ifCond .eq 9, 3) := by decide +kernel
theorem dX4_readSum_119 : decode mX4_readSum.2.1 119 = .ok (.iload 5, 2) := by decide +kernel
theorem dX4_readSum_121 : decode mX4_readSum.2.1 121 = .ok (.iconst (-1), 1) := by decide +kernel
theorem dX4_readSum_122 : decode mX4_readSum.2.1 122 = .ok (.if_icmp .ne 6, 3) := by decide +kernel
theorem dX4_readSum_125 : decode mX4_readSum.2.1 125 = .ok (.iload 4, 2) := by decide +kernel
theorem dX4_readSum_127 : decode mX4_readSum.2.1 127 = .ok (.ireturn, 1) := by decide +kernel
theorem dX4_readSum_128 : decode mX4_readSum.2.1 128 = .ok (.aload_n 0, 1) := by decide +kernel
theorem dX4_readSum_129 : decode mX4_readSum.2.1 129 = .ok (.getfield 17, 3) := by decide +kernel
theorem dX4_readSum_132 : decode mX4_readSum.2.1 132 = .ok (.dup, 1) := by decide +kernel
theorem dX4_readSum_133 : decode mX4_readSum.2.1 133 = .ok (.getfield 55, 3) := by decide +kernel
theorem dX4_readSum_136 : decode mX4_readSum.2.1 136 = .ok (.iconst 1, 1) := by decide +kernel
theorem dX4_readSum_137 : decode mX4_readSum.2.1 137 = .ok (.iadd, 1) := by decide +kernel
theorem dX4_readSum_138 : decode mX4_readSum.2.1 138 = .ok (.putfield 55, 3) := by decide +kernel
theorem dX4_readSum_141 : decode mX4_readSum.2.1 141 = .ok (.iload 5, 2) := by decide +kernel
theorem dX4_readSum_143 : decode mX4_readSum.2.1 143 = .ok (.istore_n 2, 1) := by decide +kernel
theorem dX4_readSum_144 : decode mX4_readSum.2.1 144 = .ok (.iinc 3 1, 3) := by decide +kernel
theorem dX4_readSum_147 : decode mX4_readSum.2.1 147 = .ok (.goto (-143), 3) := by decide +kernel
theorem dX4_readSum_150 : decode mX4_readSum.2.1 150 = .ok (.aload_n 0, 1) := by decide +kernel
theorem dX4_readSum_151 : decode mX4_readSum.2.1 151 = .ok (.getfield 17, 3) := by decide +kernel
theorem dX4_readSum_154 : decode mX4_readSum.2.1 154 = .ok (.aload_n 0, 1) := by decide +kernel
theorem dX4_readSum_155 : decode mX4_readSum.2.1 155 = .ok (.getfield 17, 3) := by decide +kernel
theorem dX4_readSum_158 : decode mX4_readSum.2.1 158 = .ok (.getfield 55, 3) := by decide +kernel
theorem dX4_readSum_161 : decode mX4_readSum.2.1 161 = .ok (.invokevirtual 58, 3) := by decide +kernel
theorem dX4_readSum_164 : decode mX4_readSum.2.1 164 = .ok (.ireturn, 1) := by decide +kernel
abbrev mX4_readUnit : gz_M := (yX4_readUnit, cX4_readUnit, 4, some .boolean)
theorem dX4_readUnit_0 : decode mX4_readUnit.2.1 0 = .ok (.aload_n 0, 1) := by decide +kernel
theorem dX4_readUnit_1 : decode mX4_readUnit.2.1 1 = .ok (.getfield 17, 3) := by decide +kernel
theorem dX4_readUnit_4 : decode mX4_readUnit.2.1 4 = .ok (.invokevirtual 51, 3) := by decide +kernel
theorem dX4_readUnit_7 : decode mX4_readUnit.2.1 7 = .ok (.istore_n 2, 1) := by decide +kernel
theorem dX4_readUnit_8 : decode mX4_readUnit.2.1 8 = .ok (.iload_n 2, 1) := by decide +kernel
theorem dX4_readUnit_9 : decode mX4_readUnit.2.1 9 = .ok (.bipush 33, 2) := by decide +kernel
theorem dX4_readUnit_11 : decode mX4_readUnit.2.1 11 = .ok (.if_icmp .eq 31, 3) := by decide +kernel
theorem dX4_readUnit_14 : decode mX4_readUnit.2.1 14 = .ok (.iload_n 2, 1) := by decide +kernel
theorem dX4_readUnit_15 : decode mX4_readUnit.2.1 15 = .ok (.bipush 40, 2) := by decide +kernel
theorem dX4_readUnit_17 : decode mX4_readUnit.2.1 17 = .ok (.if_icmp .eq 25, 3) := by decide +kernel
theorem dX4_readUnit_20 : decode mX4_readUnit.2.1 20 = .ok (.aload_n 0, 1) := by decide +kernel
theorem dX4_readUnit_21 : decode mX4_readUnit.2.1 21 = .ok (.iload_n 1, 1) := by decide +kernel
theorem dX4_readUnit_22 : decode mX4_readUnit.2.1 22 = .ok (.invokevirtual 61, 3) := by decide +kernel
theorem dX4_readUnit_25 : decode mX4_readUnit.2.1 25 = .ok (.ifCond .eq 15, 3) := by decide +kernel
theorem dX4_readUnit_28 : decode mX4_readUnit.2.1 28 = .ok (.aload_n 0, 1) := by decide +kernel
theorem dX4_readUnit_29 : decode mX4_readUnit.2.1 29 = .ok (.iload_n 1, 1) := by decide +kernel
theorem dX4_readUnit_30 : decode mX4_readUnit.2.1 30 = .ok (.invokevirtual 72, 3) := by decide +kernel
theorem dX4_readUnit_33 : decode mX4_readUnit.2.1 33 = .ok (.ifCond .eq 7, 3) := by decide +kernel
theorem dX4_readUnit_36 : decode mX4_readUnit.2.1 36 = .ok (.iconst 1, 1) := by decide +kernel
theorem dX4_readUnit_37 : decode mX4_readUnit.2.1 37 = .ok (.goto 4, 3) := by decide +kernel
theorem dX4_readUnit_40 : decode mX4_readUnit.2.1 40 = .ok (.iconst 0, 1) := by decide +kernel
theorem dX4_readUnit_41 : decode mX4_readUnit.2.1 41 = .ok (.ireturn, 1) := by decide +kernel
theorem dX4_readUnit_42 : decode mX4_readUnit.2.1 42 = .ok (.iload_n 1, 1) := by decide +kernel
theorem dX4_readUnit_43 : decode mX4_readUnit.2.1 43 = .ok (.bipush 6, 2) := by decide +kernel
theorem dX4_readUnit_45 : decode mX4_readUnit.2.1 45 = .ok (.if_icmp .lt 18, 3) := by decide +kernel
theorem dX4_readUnit_48 : decode mX4_readUnit.2.1 48 = .ok (.aload_n 0, 1) := by decide +kernel
theorem dX4_readUnit_49 : decode mX4_readUnit.2.1 49 = .ok (.getfield 17, 3) := by decide +kernel
theorem dX4_readUnit_52 : decode mX4_readUnit.2.1 52 = .ok (.aload_n 0, 1) := by decide +kernel
theorem dX4_readUnit_53 : decode mX4_readUnit.2.1 53 = .ok (.getfield 17, 3) := by decide +kernel
theorem dX4_readUnit_56 : decode mX4_readUnit.2.1 56 = .ok (.getfield 55, 3) := by decide +kernel
theorem dX4_readUnit_59 : decode mX4_readUnit.2.1 59 = .ok (.invokevirtual 58, 3) := by decide +kernel
theorem dX4_readUnit_62 : decode mX4_readUnit.2.1 62 = .ok (.ireturn, 1) := by decide +kernel
theorem dX4_readUnit_63 : decode mX4_readUnit.2.1 63 = .ok (.aload_n 0, 1) := by decide +kernel
theorem dX4_readUnit_64 : decode mX4_readUnit.2.1 64 = .ok (.getfield 17, 3) := by decide +kernel
theorem dX4_readUnit_67 : decode mX4_readUnit.2.1 67 = .ok (.dup, 1) := by decide +kernel
theorem dX4_readUnit_68 : decode mX4_readUnit.2.1 68 = .ok (.getfield 55, 3) := by decide +kernel
theorem dX4_readUnit_71 : decode mX4_readUnit.2.1 71 = .ok (.iconst 1, 1) := by decide +kernel
theorem dX4_readUnit_72 : decode mX4_readUnit.2.1 72 = .ok (.iadd, 1) := by decide +kernel
theorem dX4_readUnit_73 : decode mX4_readUnit.2.1 73 = .ok (.putfield 55, 3) := by decide +kernel
theorem dX4_readUnit_76 : decode mX4_readUnit.2.1 76 = .ok (.iload_n 2, 1) := by decide +kernel
theorem dX4_readUnit_77 : decode mX4_readUnit.2.1 77 = .ok (.bipush 40, 2) := by decide +kernel
theorem dX4_readUnit_79 : decode mX4_readUnit.2.1 79 = .ok (.if_icmp .ne 32, 3) := by decide +kernel
theorem dX4_readUnit_82 : decode mX4_readUnit.2.1 82 = .ok (.aload_n 0, 1) := by decide +kernel
theorem dX4_readUnit_83 : decode mX4_readUnit.2.1 83 = .ok (.iload_n 1, 1) := by decide +kernel
theorem dX4_readUnit_84 : decode mX4_readUnit.2.1 84 = .ok (.iconst 1, 1) := by decide +kernel
theorem dX4_readUnit_85 : decode mX4_readUnit.2.1 85 = .ok (.iadd, 1) := by decide +kernel
theorem dX4_readUnit_86 : decode mX4_readUnit.2.1 86 = .ok (.iconst 0, 1) := by decide +kernel
theorem dX4_readUnit_87 : decode mX4_readUnit.2.1 87 = .ok (.invokevirtual 68, 3) := by decide +kernel
theorem dX4_readUnit_90 : decode mX4_readUnit.2.1 90 = .ok (.ifCond .eq 19, 3) := by decide +kernel
theorem dX4_readUnit_93 : decode mX4_readUnit.2.1 93 = .ok (.aload_n 0, 1) := by decide +kernel
theorem dX4_readUnit_94 : decode mX4_readUnit.2.1 94 = .ok (.getfield 17, 3) := by decide +kernel
theorem dX4_readUnit_97 : decode mX4_readUnit.2.1 97 = .ok (.bipush 41, 2) := by decide +kernel
theorem dX4_readUnit_99 : decode mX4_readUnit.2.1 99 = .ok (.invokevirtual 39, 3) := by decide +kernel
theorem dX4_readUnit_102 : decode mX4_readUnit.2.1 102 = .ok (.ifCond .eq 7, 3) := by decide +kernel
theorem dX4_readUnit_105 : decode mX4_readUnit.2.1 105 = .ok (.iconst 1, 1) := by decide +kernel
theorem dX4_readUnit_106 : decode mX4_readUnit.2.1 106 = .ok (.goto 4, 3) := by decide +kernel
theorem dX4_readUnit_109 : decode mX4_readUnit.2.1 109 = .ok (.iconst 0, 1) := by decide +kernel
theorem dX4_readUnit_110 : decode mX4_readUnit.2.1 110 = .ok (.ireturn, 1) := by decide +kernel
theorem dX4_readUnit_111 : decode mX4_readUnit.2.1 111 = .ok (.aload_n 0, 1) := by decide +kernel
theorem dX4_readUnit_112 : decode mX4_readUnit.2.1 112 = .ok (.iload_n 1, 1) := by decide +kernel
theorem dX4_readUnit_113 : decode mX4_readUnit.2.1 113 = .ok (.iconst 1, 1) := by decide +kernel
theorem dX4_readUnit_114 : decode mX4_readUnit.2.1 114 = .ok (.iadd, 1) := by decide +kernel
theorem dX4_readUnit_115 : decode mX4_readUnit.2.1 115 = .ok (.invokevirtual 75, 3) := by decide +kernel
theorem dX4_readUnit_118 : decode mX4_readUnit.2.1 118 = .ok (.istore_n 3, 1) := by decide +kernel
theorem dX4_readUnit_119 : decode mX4_readUnit.2.1 119 = .ok (.aload_n 0, 1) := by decide +kernel
theorem dX4_readUnit_120 : decode mX4_readUnit.2.1 120 = .ok (.bipush (-20), 2) := by decide +kernel
theorem dX4_readUnit_122 : decode mX4_readUnit.2.1 122 = .ok (.invokevirtual 47, 3) := by decide +kernel
theorem dX4_readUnit_125 : decode mX4_readUnit.2.1 125 = .ok (.iload_n 3, 1) := by decide +kernel
theorem dX4_readUnit_126 : decode mX4_readUnit.2.1 126 = .ok (.ireturn, 1) := by decide +kernel
abbrev mX7_agrees : gz_M := (yX7_agrees, cX7_agrees, 2, some .boolean)
theorem dX7_agrees_0 : decode mX7_agrees.2.1 0 = .ok (.aload_n 0, 1) := by decide +kernel
theorem dX7_agrees_1 : decode mX7_agrees.2.1 1 = .ok (.getfield 65, 3) := by decide +kernel
theorem dX7_agrees_4 : decode mX7_agrees.2.1 4 = .ok (.iconst 1, 1) := by decide +kernel
theorem dX7_agrees_5 : decode mX7_agrees.2.1 5 = .ok (.if_icmp .lt 16, 3) := by decide +kernel
theorem dX7_agrees_8 : decode mX7_agrees.2.1 8 = .ok (.aload_n 0, 1) := by decide +kernel
theorem dX7_agrees_9 : decode mX7_agrees.2.1 9 = .ok (.getfield 62, 3) := by decide +kernel
theorem dX7_agrees_12 : decode mX7_agrees.2.1 12 = .ok (.aload_n 0, 1) := by decide +kernel
theorem dX7_agrees_13 : decode mX7_agrees.2.1 13 = .ok (.getfield 11, 3) := by decide +kernel
theorem dX7_agrees_16 : decode mX7_agrees.2.1 16 = .ok (.iconst 1, 1) := by decide +kernel
theorem dX7_agrees_17 : decode mX7_agrees.2.1 17 = .ok (.iaload, 1) := by decide +kernel
theorem dX7_agrees_18 : decode mX7_agrees.2.1 18 = .ok (.if_icmp .le 5, 3) := by decide +kernel
theorem dX7_agrees_21 : decode mX7_agrees.2.1 21 = .ok (.iconst 0, 1) := by decide +kernel
theorem dX7_agrees_22 : decode mX7_agrees.2.1 22 = .ok (.ireturn, 1) := by decide +kernel
theorem dX7_agrees_23 : decode mX7_agrees.2.1 23 = .ok (.iconst 0, 1) := by decide +kernel
theorem dX7_agrees_24 : decode mX7_agrees.2.1 24 = .ok (.istore_n 1, 1) := by decide +kernel
theorem dX7_agrees_25 : decode mX7_agrees.2.1 25 = .ok (.iload_n 1, 1) := by decide +kernel
theorem dX7_agrees_26 : decode mX7_agrees.2.1 26 = .ok (.aload_n 0, 1) := by decide +kernel
theorem dX7_agrees_27 : decode mX7_agrees.2.1 27 = .ok (.getfield 62, 3) := by decide +kernel
theorem dX7_agrees_30 : decode mX7_agrees.2.1 30 = .ok (.if_icmp .ge 26, 3) := by decide +kernel
theorem dX7_agrees_33 : decode mX7_agrees.2.1 33 = .ok (.aload_n 0, 1) := by decide +kernel
theorem dX7_agrees_34 : decode mX7_agrees.2.1 34 = .ok (.getfield 21, 3) := by decide +kernel
theorem dX7_agrees_37 : decode mX7_agrees.2.1 37 = .ok (.iload_n 1, 1) := by decide +kernel
theorem dX7_agrees_38 : decode mX7_agrees.2.1 38 = .ok (.iaload, 1) := by decide +kernel
theorem dX7_agrees_39 : decode mX7_agrees.2.1 39 = .ok (.aload_n 0, 1) := by decide +kernel
theorem dX7_agrees_40 : decode mX7_agrees.2.1 40 = .ok (.getfield 11, 3) := by decide +kernel
theorem dX7_agrees_43 : decode mX7_agrees.2.1 43 = .ok (.iconst 0, 1) := by decide +kernel
theorem dX7_agrees_44 : decode mX7_agrees.2.1 44 = .ok (.iaload, 1) := by decide +kernel
theorem dX7_agrees_45 : decode mX7_agrees.2.1 45 = .ok (.if_icmp .le 5, 3) := by decide +kernel
theorem dX7_agrees_48 : decode mX7_agrees.2.1 48 = .ok (.iconst 0, 1) := by decide +kernel
theorem dX7_agrees_49 : decode mX7_agrees.2.1 49 = .ok (.ireturn, 1) := by decide +kernel
theorem dX7_agrees_50 : decode mX7_agrees.2.1 50 = .ok (.iinc 1 1, 3) := by decide +kernel
theorem dX7_agrees_53 : decode mX7_agrees.2.1 53 = .ok (.goto (-28), 3) := by decide +kernel
theorem dX7_agrees_56 : decode mX7_agrees.2.1 56 = .ok (.iconst 0, 1) := by decide +kernel
theorem dX7_agrees_57 : decode mX7_agrees.2.1 57 = .ok (.istore_n 1, 1) := by decide +kernel
theorem dX7_agrees_58 : decode mX7_agrees.2.1 58 = .ok (.iload_n 1, 1) := by decide +kernel
theorem dX7_agrees_59 : decode mX7_agrees.2.1 59 = .ok (.aload_n 0, 1) := by decide +kernel
theorem dX7_agrees_60 : decode mX7_agrees.2.1 60 = .ok (.getfield 65, 3) := by decide +kernel
theorem dX7_agrees_63 : decode mX7_agrees.2.1 63 = .ok (.if_icmp .ge 47, 3) := by decide +kernel
theorem dX7_agrees_66 : decode mX7_agrees.2.1 66 = .ok (.aload_n 0, 1) := by decide +kernel
theorem dX7_agrees_67 : decode mX7_agrees.2.1 67 = .ok (.getfield 15, 3) := by decide +kernel
theorem dX7_agrees_70 : decode mX7_agrees.2.1 70 = .ok (.iload_n 1, 1) := by decide +kernel
theorem dX7_agrees_71 : decode mX7_agrees.2.1 71 = .ok (.iconst 4, 1) := by decide +kernel
theorem dX7_agrees_72 : decode mX7_agrees.2.1 72 = .ok (.imul, 1) := by decide +kernel
theorem dX7_agrees_73 : decode mX7_agrees.2.1 73 = .ok (.iaload, 1) := by decide +kernel
theorem dX7_agrees_74 : decode mX7_agrees.2.1 74 = .ok (.aload_n 0, 1) := by decide +kernel
theorem dX7_agrees_75 : decode mX7_agrees.2.1 75 = .ok (.getfield 11, 3) := by decide +kernel
theorem dX7_agrees_78 : decode mX7_agrees.2.1 78 = .ok (.iconst 0, 1) := by decide +kernel
theorem dX7_agrees_79 : decode mX7_agrees.2.1 79 = .ok (.iaload, 1) := by decide +kernel
theorem dX7_agrees_80 : decode mX7_agrees.2.1 80 = .ok (.if_icmp .ge 22, 3) := by decide +kernel
theorem dX7_agrees_83 : decode mX7_agrees.2.1 83 = .ok (.aload_n 0, 1) := by decide +kernel
theorem dX7_agrees_84 : decode mX7_agrees.2.1 84 = .ok (.getfield 15, 3) := by decide +kernel
theorem dX7_agrees_87 : decode mX7_agrees.2.1 87 = .ok (.iload_n 1, 1) := by decide +kernel
theorem dX7_agrees_88 : decode mX7_agrees.2.1 88 = .ok (.iconst 4, 1) := by decide +kernel
theorem dX7_agrees_89 : decode mX7_agrees.2.1 89 = .ok (.imul, 1) := by decide +kernel
theorem dX7_agrees_90 : decode mX7_agrees.2.1 90 = .ok (.iconst 1, 1) := by decide +kernel
theorem dX7_agrees_91 : decode mX7_agrees.2.1 91 = .ok (.iadd, 1) := by decide +kernel
theorem dX7_agrees_92 : decode mX7_agrees.2.1 92 = .ok (.iaload, 1) := by decide +kernel
theorem dX7_agrees_93 : decode mX7_agrees.2.1 93 = .ok (.aload_n 0, 1) := by decide +kernel
theorem dX7_agrees_94 : decode mX7_agrees.2.1 94 = .ok (.getfield 11, 3) := by decide +kernel
theorem dX7_agrees_97 : decode mX7_agrees.2.1 97 = .ok (.iconst 1, 1) := by decide +kernel
theorem dX7_agrees_98 : decode mX7_agrees.2.1 98 = .ok (.iaload, 1) := by decide +kernel
theorem dX7_agrees_99 : decode mX7_agrees.2.1 99 = .ok (.if_icmp .lt 5, 3) := by decide +kernel
theorem dX7_agrees_102 : decode mX7_agrees.2.1 102 = .ok (.iconst 0, 1) := by decide +kernel
theorem dX7_agrees_103 : decode mX7_agrees.2.1 103 = .ok (.ireturn, 1) := by decide +kernel
theorem dX7_agrees_104 : decode mX7_agrees.2.1 104 = .ok (.iinc 1 1, 3) := by decide +kernel
theorem dX7_agrees_107 : decode mX7_agrees.2.1 107 = .ok (.goto (-49), 3) := by decide +kernel
theorem dX7_agrees_110 : decode mX7_agrees.2.1 110 = .ok (.iconst 1, 1) := by decide +kernel
theorem dX7_agrees_111 : decode mX7_agrees.2.1 111 = .ok (.ireturn, 1) := by decide +kernel
abbrev mX7_clear : gz_M := (yX7_clear, cX7_clear, 2, none)
theorem dX7_clear_0 : decode mX7_clear.2.1 0 = .ok (.aload_n 0, 1) := by decide +kernel
theorem dX7_clear_1 : decode mX7_clear.2.1 1 = .ok (.getfield 24, 3) := by decide +kernel
theorem dX7_clear_4 : decode mX7_clear.2.1 4 = .ok (.invokevirtual 55, 3) := by decide +kernel
theorem dX7_clear_7 : decode mX7_clear.2.1 7 = .ok (.aload_n 0, 1) := by decide +kernel
theorem dX7_clear_8 : decode mX7_clear.2.1 8 = .ok (.iconst 0, 1) := by decide +kernel
theorem dX7_clear_9 : decode mX7_clear.2.1 9 = .ok (.putfield 58, 3) := by decide +kernel
theorem dX7_clear_12 : decode mX7_clear.2.1 12 = .ok (.aload_n 0, 1) := by decide +kernel
theorem dX7_clear_13 : decode mX7_clear.2.1 13 = .ok (.iconst 0, 1) := by decide +kernel
theorem dX7_clear_14 : decode mX7_clear.2.1 14 = .ok (.putfield 62, 3) := by decide +kernel
theorem dX7_clear_17 : decode mX7_clear.2.1 17 = .ok (.aload_n 0, 1) := by decide +kernel
theorem dX7_clear_18 : decode mX7_clear.2.1 18 = .ok (.iconst 0, 1) := by decide +kernel
theorem dX7_clear_19 : decode mX7_clear.2.1 19 = .ok (.putfield 65, 3) := by decide +kernel
theorem dX7_clear_22 : decode mX7_clear.2.1 22 = .ok (.aload_n 0, 1) := by decide +kernel
theorem dX7_clear_23 : decode mX7_clear.2.1 23 = .ok (.getfield 18, 3) := by decide +kernel
theorem dX7_clear_26 : decode mX7_clear.2.1 26 = .ok (.iconst 0, 1) := by decide +kernel
theorem dX7_clear_27 : decode mX7_clear.2.1 27 = .ok (.invokestatic 70, 3) := by decide +kernel
theorem dX7_clear_30 : decode mX7_clear.2.1 30 = .ok (.aload_n 0, 1) := by decide +kernel
theorem dX7_clear_31 : decode mX7_clear.2.1 31 = .ok (.getfield 21, 3) := by decide +kernel
theorem dX7_clear_34 : decode mX7_clear.2.1 34 = .ok (.iconst 0, 1) := by decide +kernel
theorem dX7_clear_35 : decode mX7_clear.2.1 35 = .ok (.invokestatic 70, 3) := by decide +kernel
theorem dX7_clear_38 : decode mX7_clear.2.1 38 = .ok (.iconst 0, 1) := by decide +kernel
theorem dX7_clear_39 : decode mX7_clear.2.1 39 = .ok (.istore_n 1, 1) := by decide +kernel
theorem dX7_clear_40 : decode mX7_clear.2.1 40 = .ok (.iload_n 1, 1) := by decide +kernel
theorem dX7_clear_41 : decode mX7_clear.2.1 41 = .ok (.iconst 4, 1) := by decide +kernel
theorem dX7_clear_42 : decode mX7_clear.2.1 42 = .ok (.if_icmp .ge 24, 3) := by decide +kernel
theorem dX7_clear_45 : decode mX7_clear.2.1 45 = .ok (.aload_n 0, 1) := by decide +kernel
theorem dX7_clear_46 : decode mX7_clear.2.1 46 = .ok (.getfield 11, 3) := by decide +kernel
theorem dX7_clear_49 : decode mX7_clear.2.1 49 = .ok (.iload_n 1, 1) := by decide +kernel
theorem dX7_clear_50 : decode mX7_clear.2.1 50 = .ok (.getstatic 76, 3) := by decide +kernel
theorem dX7_clear_53 : decode mX7_clear.2.1 53 = .ok (.iload_n 1, 1) := by decide +kernel
theorem dX7_clear_54 : decode mX7_clear.2.1 54 = .ok (.iconst 4, 1) := by decide +kernel
theorem dX7_clear_55 : decode mX7_clear.2.1 55 = .ok (.imul, 1) := by decide +kernel
theorem dX7_clear_56 : decode mX7_clear.2.1 56 = .ok (.iconst 3, 1) := by decide +kernel
theorem dX7_clear_57 : decode mX7_clear.2.1 57 = .ok (.iadd, 1) := by decide +kernel
theorem dX7_clear_58 : decode mX7_clear.2.1 58 = .ok (.iaload, 1) := by decide +kernel
theorem dX7_clear_59 : decode mX7_clear.2.1 59 = .ok (.iastore, 1) := by decide +kernel
theorem dX7_clear_60 : decode mX7_clear.2.1 60 = .ok (.iinc 1 1, 3) := by decide +kernel
theorem dX7_clear_63 : decode mX7_clear.2.1 63 = .ok (.goto (-23), 3) := by decide +kernel
theorem dX7_clear_66 : decode mX7_clear.2.1 66 = .ok (.return_, 1) := by decide +kernel
abbrev mX7_endsClause : gz_M := (yX7_endsClause, cX7_endsClause, 2, some .boolean)
theorem dX7_endsClause_0 : decode mX7_endsClause.2.1 0 = .ok (.aload_n 0, 1) := by decide +kernel
theorem dX7_endsClause_1 : decode mX7_endsClause.2.1 1 = .ok (.getfield 24, 3) := by decide +kernel
theorem dX7_endsClause_4 : decode mX7_endsClause.2.1 4 = .ok (.invokevirtual 35, 3) := by decide +kernel
theorem dX7_endsClause_7 : decode mX7_endsClause.2.1 7 = .ok (.istore_n 1, 1) := by decide +kernel
theorem dX7_endsClause_8 : decode mX7_endsClause.2.1 8 = .ok (.iload_n 1, 1) := by decide +kernel
theorem dX7_endsClause_9 : decode mX7_endsClause.2.1 9 = .ok (.bipush 59, 2) := by decide +kernel
theorem dX7_endsClause_11 : decode mX7_endsClause.2.1 11 = .ok (.if_icmp .eq 25, 3) := by decide +kernel
theorem dX7_endsClause_14 : decode mX7_endsClause.2.1 14 = .ok (.iload_n 1, 1) := by decide +kernel
theorem dX7_endsClause_15 : decode mX7_endsClause.2.1 15 = .ok (.iconst (-1), 1) := by decide +kernel
theorem dX7_endsClause_16 : decode mX7_endsClause.2.1 16 = .ok (.if_icmp .eq 20, 3) := by decide +kernel
theorem dX7_endsClause_19 : decode mX7_endsClause.2.1 19 = .ok (.aload_n 0, 1) := by decide +kernel
theorem dX7_endsClause_20 : decode mX7_endsClause.2.1 20 = .ok (.getfield 24, 3) := by decide +kernel
theorem dX7_endsClause_23 : decode mX7_endsClause.2.1 23 = .ok (.aload_n 0, 1) := by decide +kernel
theorem dX7_endsClause_24 : decode mX7_endsClause.2.1 24 = .ok (.getfield 24, 3) := by decide +kernel
theorem dX7_endsClause_27 : decode mX7_endsClause.2.1 27 = .ok (.getfield 44, 3) := by decide +kernel
theorem dX7_endsClause_30 : decode mX7_endsClause.2.1 30 = .ok (.invokevirtual 48, 3) := by decide +kernel
theorem dX7_endsClause_33 : decode mX7_endsClause.2.1 33 = .ok (.ifCond .eq 7, 3) := by decide +kernel
theorem dX7_endsClause_36 : decode mX7_endsClause.2.1 36 = .ok (.iconst 1, 1) := by decide +kernel
theorem dX7_endsClause_37 : decode mX7_endsClause.2.1 37 = .ok (.goto 4, 3) := by decide +kernel
theorem dX7_endsClause_40 : decode mX7_endsClause.2.1 40 = .ok (.iconst 0, 1) := by decide +kernel
theorem dX7_endsClause_41 : decode mX7_endsClause.2.1 41 = .ok (.ireturn, 1) := by decide +kernel
abbrev mX7_itemOf : gz_M := (yX7_itemOf, cX7_itemOf, 3, some .int)
theorem dX7_itemOf_0 : decode mX7_itemOf.2.1 0 = .ok (.iconst 0, 1) := by decide +kernel
theorem dX7_itemOf_1 : decode mX7_itemOf.2.1 1 = .ok (.istore_n 2, 1) := by decide +kernel
theorem dX7_itemOf_2 : decode mX7_itemOf.2.1 2 = .ok (.iload_n 2, 1) := by decide +kernel
theorem dX7_itemOf_3 : decode mX7_itemOf.2.1 3 = .ok (.iconst 4, 1) := by decide +kernel
theorem dX7_itemOf_4 : decode mX7_itemOf.2.1 4 = .ok (.if_icmp .ge 20, 3) := by decide +kernel
theorem dX7_itemOf_7 : decode mX7_itemOf.2.1 7 = .ok (.aload_n 0, 1) := by decide +kernel
theorem dX7_itemOf_8 : decode mX7_itemOf.2.1 8 = .ok (.iload_n 2, 1) := by decide +kernel
theorem dX7_itemOf_9 : decode mX7_itemOf.2.1 9 = .ok (.iconst 4, 1) := by decide +kernel
theorem dX7_itemOf_10 : decode mX7_itemOf.2.1 10 = .ok (.imul, 1) := by decide +kernel
theorem dX7_itemOf_11 : decode mX7_itemOf.2.1 11 = .ok (.iaload, 1) := by decide +kernel
theorem dX7_itemOf_12 : decode mX7_itemOf.2.1 12 = .ok (.iload_n 1, 1) := by decide +kernel
theorem dX7_itemOf_13 : decode mX7_itemOf.2.1 13 = .ok (.if_icmp .ne 5, 3) := by decide +kernel
theorem dX7_itemOf_16 : decode mX7_itemOf.2.1 16 = .ok (.iload_n 2, 1) := by decide +kernel
theorem dX7_itemOf_17 : decode mX7_itemOf.2.1 17 = .ok (.ireturn, 1) := by decide +kernel
theorem dX7_itemOf_18 : decode mX7_itemOf.2.1 18 = .ok (.iinc 2 1, 3) := by decide +kernel
theorem dX7_itemOf_21 : decode mX7_itemOf.2.1 21 = .ok (.goto (-19), 3) := by decide +kernel
theorem dX7_itemOf_24 : decode mX7_itemOf.2.1 24 = .ok (.iconst (-1), 1) := by decide +kernel
theorem dX7_itemOf_25 : decode mX7_itemOf.2.1 25 = .ok (.ireturn, 1) := by decide +kernel
abbrev mX7_readClause : gz_M := (yX7_readClause, cX7_readClause, 2, some .boolean)
theorem dX7_readClause_0 : decode mX7_readClause.2.1 0 = .ok (.aload_n 0, 1) := by decide +kernel
theorem dX7_readClause_1 : decode mX7_readClause.2.1 1 = .ok (.getfield 24, 3) := by decide +kernel
theorem dX7_readClause_4 : decode mX7_readClause.2.1 4 = .ok (.invokevirtual 35, 3) := by decide +kernel
theorem dX7_readClause_7 : decode mX7_readClause.2.1 7 = .ok (.istore_n 1, 1) := by decide +kernel
theorem dX7_readClause_8 : decode mX7_readClause.2.1 8 = .ok (.iload_n 1, 1) := by decide +kernel
theorem dX7_readClause_9 : decode mX7_readClause.2.1 9 = .ok (.bipush 115, 2) := by decide +kernel
theorem dX7_readClause_11 : decode mX7_readClause.2.1 11 = .ok (.if_icmp .ne 41, 3) := by decide +kernel
theorem dX7_readClause_14 : decode mX7_readClause.2.1 14 = .ok (.aload_n 0, 1) := by decide +kernel
theorem dX7_readClause_15 : decode mX7_readClause.2.1 15 = .ok (.getfield 58, 3) := by decide +kernel
theorem dX7_readClause_18 : decode mX7_readClause.2.1 18 = .ok (.ifCond .ne 34, 3) := by decide +kernel
theorem dX7_readClause_21 : decode mX7_readClause.2.1 21 = .ok (.aload_n 0, 1) := by decide +kernel
theorem dX7_readClause_22 : decode mX7_readClause.2.1 22 = .ok (.getfield 24, 3) := by decide +kernel
theorem dX7_readClause_25 : decode mX7_readClause.2.1 25 = .ok (.dup, 1) := by decide +kernel
theorem dX7_readClause_26 : decode mX7_readClause.2.1 26 = .ok (.getfield 44, 3) := by decide +kernel
theorem dX7_readClause_29 : decode mX7_readClause.2.1 29 = .ok (.iconst 1, 1) := by decide +kernel
theorem dX7_readClause_30 : decode mX7_readClause.2.1 30 = .ok (.iadd, 1) := by decide +kernel
theorem dX7_readClause_31 : decode mX7_readClause.2.1 31 = .ok (.putfield 44, 3) := by decide +kernel
theorem dX7_readClause_34 : decode mX7_readClause.2.1 34 = .ok (.aload_n 0, 1) := by decide +kernel
theorem dX7_readClause_35 : decode mX7_readClause.2.1 35 = .ok (.iconst 1, 1) := by decide +kernel
theorem dX7_readClause_36 : decode mX7_readClause.2.1 36 = .ok (.putfield 58, 3) := by decide +kernel
theorem dX7_readClause_39 : decode mX7_readClause.2.1 39 = .ok (.aload_n 0, 1) := by decide +kernel
theorem dX7_readClause_40 : decode mX7_readClause.2.1 40 = .ok (.getstatic 76, 3) := by decide +kernel
theorem dX7_readClause_43 : decode mX7_readClause.2.1 43 = .ok (.aload_n 0, 1) := by decide +kernel
theorem dX7_readClause_44 : decode mX7_readClause.2.1 44 = .ok (.getfield 11, 3) := by decide +kernel
theorem dX7_readClause_47 : decode mX7_readClause.2.1 47 = .ok (.iconst 0, 1) := by decide +kernel
theorem dX7_readClause_48 : decode mX7_readClause.2.1 48 = .ok (.invokevirtual 79, 3) := by decide +kernel
theorem dX7_readClause_51 : decode mX7_readClause.2.1 51 = .ok (.ireturn, 1) := by decide +kernel
theorem dX7_readClause_52 : decode mX7_readClause.2.1 52 = .ok (.iload_n 1, 1) := by decide +kernel
theorem dX7_readClause_53 : decode mX7_readClause.2.1 53 = .ok (.bipush 114, 2) := by decide +kernel
theorem dX7_readClause_55 : decode mX7_readClause.2.1 55 = .ok (.if_icmp .ne 45, 3) := by decide +kernel
theorem dX7_readClause_58 : decode mX7_readClause.2.1 58 = .ok (.aload_n 0, 1) := by decide +kernel
theorem dX7_readClause_59 : decode mX7_readClause.2.1 59 = .ok (.getfield 62, 3) := by decide +kernel
theorem dX7_readClause_62 : decode mX7_readClause.2.1 62 = .ok (.iconst 5, 1) := by decide +kernel
theorem dX7_readClause_63 : decode mX7_readClause.2.1 63 = .ok (.if_icmp .ge 37, 3) := by decide +kernel
theorem dX7_readClause_66 : decode mX7_readClause.2.1 66 = .ok (.aload_n 0, 1) := by decide +kernel
theorem dX7_readClause_67 : decode mX7_readClause.2.1 67 = .ok (.getfield 24, 3) := by decide +kernel
theorem dX7_readClause_70 : decode mX7_readClause.2.1 70 = .ok (.dup, 1) := by decide +kernel
theorem dX7_readClause_71 : decode mX7_readClause.2.1 71 = .ok (.getfield 44, 3) := by decide +kernel
theorem dX7_readClause_74 : decode mX7_readClause.2.1 74 = .ok (.iconst 1, 1) := by decide +kernel
theorem dX7_readClause_75 : decode mX7_readClause.2.1 75 = .ok (.iadd, 1) := by decide +kernel
theorem dX7_readClause_76 : decode mX7_readClause.2.1 76 = .ok (.putfield 44, 3) := by decide +kernel
theorem dX7_readClause_79 : decode mX7_readClause.2.1 79 = .ok (.aload_n 0, 1) := by decide +kernel
theorem dX7_readClause_80 : decode mX7_readClause.2.1 80 = .ok (.dup, 1) := by decide +kernel
theorem dX7_readClause_81 : decode mX7_readClause.2.1 81 = .ok (.getfield 62, 3) := by decide +kernel
theorem dX7_readClause_84 : decode mX7_readClause.2.1 84 = .ok (.iconst 1, 1) := by decide +kernel
theorem dX7_readClause_85 : decode mX7_readClause.2.1 85 = .ok (.iadd, 1) := by decide +kernel
theorem dX7_readClause_86 : decode mX7_readClause.2.1 86 = .ok (.putfield 62, 3) := by decide +kernel
theorem dX7_readClause_89 : decode mX7_readClause.2.1 89 = .ok (.aload_n 0, 1) := by decide +kernel
theorem dX7_readClause_90 : decode mX7_readClause.2.1 90 = .ok (.aload_n 0, 1) := by decide +kernel
theorem dX7_readClause_91 : decode mX7_readClause.2.1 91 = .ok (.getfield 62, 3) := by decide +kernel
theorem dX7_readClause_94 : decode mX7_readClause.2.1 94 = .ok (.iconst 1, 1) := by decide +kernel
theorem dX7_readClause_95 : decode mX7_readClause.2.1 95 = .ok (.isub, 1) := by decide +kernel
theorem dX7_readClause_96 : decode mX7_readClause.2.1 96 = .ok (.invokevirtual 83, 3) := by decide +kernel
theorem dX7_readClause_99 : decode mX7_readClause.2.1 99 = .ok (.ireturn, 1) := by decide +kernel
theorem dX7_readClause_100 : decode mX7_readClause.2.1 100 = .ok (.iload_n 1, 1) := by decide +kernel
theorem dX7_readClause_101 : decode mX7_readClause.2.1 101 = .ok (.bipush 103, 2) := by decide +kernel
theorem dX7_readClause_103 : decode mX7_readClause.2.1 103 = .ok (.if_icmp .ne 54, 3) := by decide +kernel
theorem dX7_readClause_106 : decode mX7_readClause.2.1 106 = .ok (.aload_n 0, 1) := by decide +kernel
theorem dX7_readClause_107 : decode mX7_readClause.2.1 107 = .ok (.getfield 65, 3) := by decide +kernel
theorem dX7_readClause_110 : decode mX7_readClause.2.1 110 = .ok (.iconst 4, 1) := by decide +kernel
theorem dX7_readClause_111 : decode mX7_readClause.2.1 111 = .ok (.if_icmp .ge 46, 3) := by decide +kernel
theorem dX7_readClause_114 : decode mX7_readClause.2.1 114 = .ok (.aload_n 0, 1) := by decide +kernel
theorem dX7_readClause_115 : decode mX7_readClause.2.1 115 = .ok (.getfield 24, 3) := by decide +kernel
theorem dX7_readClause_118 : decode mX7_readClause.2.1 118 = .ok (.dup, 1) := by decide +kernel
theorem dX7_readClause_119 : decode mX7_readClause.2.1 119 = .ok (.getfield 44, 3) := by decide +kernel
theorem dX7_readClause_122 : decode mX7_readClause.2.1 122 = .ok (.iconst 1, 1) := by decide +kernel
theorem dX7_readClause_123 : decode mX7_readClause.2.1 123 = .ok (.iadd, 1) := by decide +kernel
theorem dX7_readClause_124 : decode mX7_readClause.2.1 124 = .ok (.putfield 44, 3) := by decide +kernel
theorem dX7_readClause_127 : decode mX7_readClause.2.1 127 = .ok (.aload_n 0, 1) := by decide +kernel
theorem dX7_readClause_128 : decode mX7_readClause.2.1 128 = .ok (.dup, 1) := by decide +kernel
theorem dX7_readClause_129 : decode mX7_readClause.2.1 129 = .ok (.getfield 65, 3) := by decide +kernel
theorem dX7_readClause_132 : decode mX7_readClause.2.1 132 = .ok (.iconst 1, 1) := by decide +kernel
theorem dX7_readClause_133 : decode mX7_readClause.2.1 133 = .ok (.iadd, 1) := by decide +kernel
theorem dX7_readClause_134 : decode mX7_readClause.2.1 134 = .ok (.putfield 65, 3) := by decide +kernel
theorem dX7_readClause_137 : decode mX7_readClause.2.1 137 = .ok (.aload_n 0, 1) := by decide +kernel
theorem dX7_readClause_138 : decode mX7_readClause.2.1 138 = .ok (.getstatic 86, 3) := by decide +kernel
theorem dX7_readClause_141 : decode mX7_readClause.2.1 141 = .ok (.aload_n 0, 1) := by decide +kernel
theorem dX7_readClause_142 : decode mX7_readClause.2.1 142 = .ok (.getfield 15, 3) := by decide +kernel
theorem dX7_readClause_145 : decode mX7_readClause.2.1 145 = .ok (.aload_n 0, 1) := by decide +kernel
theorem dX7_readClause_146 : decode mX7_readClause.2.1 146 = .ok (.getfield 65, 3) := by decide +kernel
theorem dX7_readClause_149 : decode mX7_readClause.2.1 149 = .ok (.iconst 1, 1) := by decide +kernel
theorem dX7_readClause_150 : decode mX7_readClause.2.1 150 = .ok (.isub, 1) := by decide +kernel
theorem dX7_readClause_151 : decode mX7_readClause.2.1 151 = .ok (.iconst 4, 1) := by decide +kernel
theorem dX7_readClause_152 : decode mX7_readClause.2.1 152 = .ok (.imul, 1) := by decide +kernel
theorem dX7_readClause_153 : decode mX7_readClause.2.1 153 = .ok (.invokevirtual 79, 3) := by decide +kernel
theorem dX7_readClause_156 : decode mX7_readClause.2.1 156 = .ok (.ireturn, 1) := by decide +kernel
theorem dX7_readClause_157 : decode mX7_readClause.2.1 157 = .ok (.aload_n 0, 1) := by decide +kernel
theorem dX7_readClause_158 : decode mX7_readClause.2.1 158 = .ok (.getfield 24, 3) := by decide +kernel
theorem dX7_readClause_161 : decode mX7_readClause.2.1 161 = .ok (.aload_n 0, 1) := by decide +kernel
theorem dX7_readClause_162 : decode mX7_readClause.2.1 162 = .ok (.getfield 24, 3) := by decide +kernel
theorem dX7_readClause_165 : decode mX7_readClause.2.1 165 = .ok (.getfield 44, 3) := by decide +kernel
theorem dX7_readClause_168 : decode mX7_readClause.2.1 168 = .ok (.invokevirtual 48, 3) := by decide +kernel
theorem dX7_readClause_171 : decode mX7_readClause.2.1 171 = .ok (.ireturn, 1) := by decide +kernel
abbrev mX7_readItems : gz_M := (yX7_readItems, cX7_readItems, 7, some .boolean)
theorem dX7_readItems_0 : decode mX7_readItems.2.1 0 = .ok (.iconst 0, 1) := by decide +kernel
theorem dX7_readItems_1 : decode mX7_readItems.2.1 1 = .ok (.istore 4, 2) := by decide +kernel
theorem dX7_readItems_3 : decode mX7_readItems.2.1 3 = .ok (.iload 4, 2) := by decide +kernel
theorem dX7_readItems_5 : decode mX7_readItems.2.1 5 = .ok (.iconst 4, 1) := by decide +kernel
theorem dX7_readItems_6 : decode mX7_readItems.2.1 6 = .ok (.if_icmp .ge 23, 3) := by decide +kernel
theorem dX7_readItems_9 : decode mX7_readItems.2.1 9 = .ok (.aload_n 2, 1) := by decide +kernel
theorem dX7_readItems_10 : decode mX7_readItems.2.1 10 = .ok (.iload_n 3, 1) := by decide +kernel
theorem dX7_readItems_11 : decode mX7_readItems.2.1 11 = .ok (.iload 4, 2) := by decide +kernel
theorem dX7_readItems_13 : decode mX7_readItems.2.1 13 = .ok (.iadd, 1) := by decide +kernel
theorem dX7_readItems_14 : decode mX7_readItems.2.1 14 = .ok (.aload_n 1, 1) := by decide +kernel
theorem dX7_readItems_15 : decode mX7_readItems.2.1 15 = .ok (.iload 4, 2) := by decide +kernel
theorem dX7_readItems_17 : decode mX7_readItems.2.1 17 = .ok (.iconst 4, 1) := by decide +kernel
theorem dX7_readItems_18 : decode mX7_readItems.2.1 18 = .ok (.imul, 1) := by decide +kernel
theorem dX7_readItems_19 : decode mX7_readItems.2.1 19 = .ok (.iconst 3, 1) := by decide +kernel
theorem dX7_readItems_20 : decode mX7_readItems.2.1 20 = .ok (.iadd, 1) := by decide +kernel
theorem dX7_readItems_21 : decode mX7_readItems.2.1 21 = .ok (.iaload, 1) := by decide +kernel
theorem dX7_readItems_22 : decode mX7_readItems.2.1 22 = .ok (.iastore, 1) := by decide +kernel
theorem dX7_readItems_23 : decode mX7_readItems.2.1 23 = .ok (.iinc 4 1, 3) := by decide +kernel
theorem dX7_readItems_26 : decode mX7_readItems.2.1 26 = .ok (.goto (-23), 3) := by decide +kernel
theorem dX7_readItems_29 : decode mX7_readItems.2.1 29 = .ok (.iconst 0, 1) := by decide +kernel
theorem dX7_readItems_30 : decode mX7_readItems.2.1 30 = .ok (.istore 4, 2) := by decide +kernel
theorem dX7_readItems_32 : decode mX7_readItems.2.1 32 = .ok (.iconst 0, 1) := by decide +kernel
theorem dX7_readItems_33 : decode mX7_readItems.2.1 33 = .ok (.istore 5, 2) := by decide +kernel
theorem dX7_readItems_35 : decode mX7_readItems.2.1 35 = .ok (.iload 5, 2) := by decide +kernel
theorem dX7_readItems_37 : decode mX7_readItems.2.1 37 = .ok (.iconst 4, 1) := by decide +kernel
theorem dX7_readItems_38 : decode mX7_readItems.2.1 38 = .ok (.if_icmp .ge 144, 3) := by decide +kernel
theorem dX7_readItems_41 : decode mX7_readItems.2.1 41 = .ok (.aload_n 1, 1) := by decide +kernel
theorem dX7_readItems_42 : decode mX7_readItems.2.1 42 = .ok (.aload_n 0, 1) := by decide +kernel
theorem dX7_readItems_43 : decode mX7_readItems.2.1 43 = .ok (.getfield 24, 3) := by decide +kernel
theorem dX7_readItems_46 : decode mX7_readItems.2.1 46 = .ok (.invokevirtual 35, 3) := by decide +kernel
theorem dX7_readItems_49 : decode mX7_readItems.2.1 49 = .ok (.invokestatic 89, 3) := by decide +kernel
theorem dX7_readItems_52 : decode mX7_readItems.2.1 52 = .ok (.istore 6, 2) := by decide +kernel
theorem dX7_readItems_54 : decode mX7_readItems.2.1 54 = .ok (.iload 6, 2) := by decide +kernel
theorem dX7_readItems_56 : decode mX7_readItems.2.1 56 = .ok (.iconst (-1), 1) := by decide +kernel
theorem dX7_readItems_57 : decode mX7_readItems.2.1 57 = .ok (.if_icmp .eq 13, 3) := by decide +kernel
theorem dX7_readItems_60 : decode mX7_readItems.2.1 60 = .ok (.iload 4, 2) := by decide +kernel
theorem dX7_readItems_62 : decode mX7_readItems.2.1 62 = .ok (.iload 6, 2) := by decide +kernel
theorem dX7_readItems_64 : decode mX7_readItems.2.1 64 = .ok (.ishr, 1) := by decide +kernel
theorem dX7_readItems_65 : decode mX7_readItems.2.1 65 = .ok (.iconst 1, 1) := by decide +kernel
theorem dX7_readItems_66 : decode mX7_readItems.2.1 66 = .ok (.iand, 1) := by decide +kernel
theorem dX7_readItems_67 : decode mX7_readItems.2.1 67 = .ok (.ifCond .eq 8, 3) := by decide +kernel
theorem dX7_readItems_70 : decode mX7_readItems.2.1 70 = .ok (.aload_n 0, 1) := by decide +kernel
theorem dX7_readItems_71 : decode mX7_readItems.2.1 71 = .ok (.invokevirtual 93, 3) := by decide +kernel
theorem dX7_readItems_74 : decode mX7_readItems.2.1 74 = .ok (.ireturn, 1) := by decide +kernel
theorem dX7_readItems_75 : decode mX7_readItems.2.1 75 = .ok (.iload 4, 2) := by decide +kernel
theorem dX7_readItems_77 : decode mX7_readItems.2.1 77 = .ok (.iconst 1, 1) := by decide +kernel
theorem dX7_readItems_78 : decode mX7_readItems.2.1 78 = .ok (.iload 6, 2) := by decide +kernel
theorem dX7_readItems_80 : decode mX7_readItems.2.1 80 = .ok (.ishl, 1) := by decide +kernel
theorem dX7_readItems_81 : decode mX7_readItems.2.1 81 = .ok (.ior, 1) := by decide +kernel
theorem dX7_readItems_82 : decode mX7_readItems.2.1 82 = .ok (.istore 4, 2) := by decide +kernel
theorem dX7_readItems_84 : decode mX7_readItems.2.1 84 = .ok (.aload_n 0, 1) := by decide +kernel
theorem dX7_readItems_85 : decode mX7_readItems.2.1 85 = .ok (.getfield 24, 3) := by decide +kernel
theorem dX7_readItems_88 : decode mX7_readItems.2.1 88 = .ok (.dup, 1) := by decide +kernel
theorem dX7_readItems_89 : decode mX7_readItems.2.1 89 = .ok (.getfield 44, 3) := by decide +kernel
theorem dX7_readItems_92 : decode mX7_readItems.2.1 92 = .ok (.iconst 1, 1) := by decide +kernel
theorem dX7_readItems_93 : decode mX7_readItems.2.1 93 = .ok (.iadd, 1) := by decide +kernel
theorem dX7_readItems_94 : decode mX7_readItems.2.1 94 = .ok (.putfield 44, 3) := by decide +kernel
theorem dX7_readItems_97 : decode mX7_readItems.2.1 97 = .ok (.aload_n 0, 1) := by decide +kernel
theorem dX7_readItems_98 : decode mX7_readItems.2.1 98 = .ok (.getfield 24, 3) := by decide +kernel
theorem dX7_readItems_101 : decode mX7_readItems.2.1 101 = .ok (.iconst 2, 1) := by decide +kernel
theorem dX7_readItems_102 : decode mX7_readItems.2.1 102 = .ok (.invokevirtual 96, 3) := by decide +kernel
theorem dX7_readItems_105 : decode mX7_readItems.2.1 105 = .ok (.ifCond .ne 5, 3) := by decide +kernel
theorem dX7_readItems_108 : decode mX7_readItems.2.1 108 = .ok (.iconst 0, 1) := by decide +kernel
theorem dX7_readItems_109 : decode mX7_readItems.2.1 109 = .ok (.ireturn, 1) := by decide +kernel
theorem dX7_readItems_110 : decode mX7_readItems.2.1 110 = .ok (.aload_n 0, 1) := by decide +kernel
theorem dX7_readItems_111 : decode mX7_readItems.2.1 111 = .ok (.getfield 24, 3) := by decide +kernel
theorem dX7_readItems_114 : decode mX7_readItems.2.1 114 = .ok (.getfield 99, 3) := by decide +kernel
theorem dX7_readItems_117 : decode mX7_readItems.2.1 117 = .ok (.aload_n 1, 1) := by decide +kernel
theorem dX7_readItems_118 : decode mX7_readItems.2.1 118 = .ok (.iload 6, 2) := by decide +kernel
theorem dX7_readItems_120 : decode mX7_readItems.2.1 120 = .ok (.iconst 4, 1) := by decide +kernel
theorem dX7_readItems_121 : decode mX7_readItems.2.1 121 = .ok (.imul, 1) := by decide +kernel
theorem dX7_readItems_122 : decode mX7_readItems.2.1 122 = .ok (.iconst 1, 1) := by decide +kernel
theorem dX7_readItems_123 : decode mX7_readItems.2.1 123 = .ok (.iadd, 1) := by decide +kernel
theorem dX7_readItems_124 : decode mX7_readItems.2.1 124 = .ok (.iaload, 1) := by decide +kernel
theorem dX7_readItems_125 : decode mX7_readItems.2.1 125 = .ok (.if_icmp .lt 21, 3) := by decide +kernel
theorem dX7_readItems_128 : decode mX7_readItems.2.1 128 = .ok (.aload_n 0, 1) := by decide +kernel
theorem dX7_readItems_129 : decode mX7_readItems.2.1 129 = .ok (.getfield 24, 3) := by decide +kernel
theorem dX7_readItems_132 : decode mX7_readItems.2.1 132 = .ok (.getfield 99, 3) := by decide +kernel
theorem dX7_readItems_135 : decode mX7_readItems.2.1 135 = .ok (.aload_n 1, 1) := by decide +kernel
theorem dX7_readItems_136 : decode mX7_readItems.2.1 136 = .ok (.iload 6, 2) := by decide +kernel
theorem dX7_readItems_138 : decode mX7_readItems.2.1 138 = .ok (.iconst 4, 1) := by decide +kernel
theorem dX7_readItems_139 : decode mX7_readItems.2.1 139 = .ok (.imul, 1) := by decide +kernel
theorem dX7_readItems_140 : decode mX7_readItems.2.1 140 = .ok (.iconst 2, 1) := by decide +kernel
theorem dX7_readItems_141 : decode mX7_readItems.2.1 141 = .ok (.iadd, 1) := by decide +kernel
theorem dX7_readItems_142 : decode mX7_readItems.2.1 142 = .ok (.iaload, 1) := by decide +kernel
theorem dX7_readItems_143 : decode mX7_readItems.2.1 143 = .ok (.if_icmp .le 20, 3) := by decide +kernel
theorem dX7_readItems_146 : decode mX7_readItems.2.1 146 = .ok (.aload_n 0, 1) := by decide +kernel
theorem dX7_readItems_147 : decode mX7_readItems.2.1 147 = .ok (.getfield 24, 3) := by decide +kernel
theorem dX7_readItems_150 : decode mX7_readItems.2.1 150 = .ok (.aload_n 0, 1) := by decide +kernel
theorem dX7_readItems_151 : decode mX7_readItems.2.1 151 = .ok (.getfield 24, 3) := by decide +kernel
theorem dX7_readItems_154 : decode mX7_readItems.2.1 154 = .ok (.getfield 44, 3) := by decide +kernel
theorem dX7_readItems_157 : decode mX7_readItems.2.1 157 = .ok (.iconst 1, 1) := by decide +kernel
theorem dX7_readItems_158 : decode mX7_readItems.2.1 158 = .ok (.isub, 1) := by decide +kernel
theorem dX7_readItems_159 : decode mX7_readItems.2.1 159 = .ok (.invokevirtual 48, 3) := by decide +kernel
theorem dX7_readItems_162 : decode mX7_readItems.2.1 162 = .ok (.ireturn, 1) := by decide +kernel
theorem dX7_readItems_163 : decode mX7_readItems.2.1 163 = .ok (.aload_n 2, 1) := by decide +kernel
theorem dX7_readItems_164 : decode mX7_readItems.2.1 164 = .ok (.iload_n 3, 1) := by decide +kernel
theorem dX7_readItems_165 : decode mX7_readItems.2.1 165 = .ok (.iload 6, 2) := by decide +kernel
theorem dX7_readItems_167 : decode mX7_readItems.2.1 167 = .ok (.iadd, 1) := by decide +kernel
theorem dX7_readItems_168 : decode mX7_readItems.2.1 168 = .ok (.aload_n 0, 1) := by decide +kernel
theorem dX7_readItems_169 : decode mX7_readItems.2.1 169 = .ok (.getfield 24, 3) := by decide +kernel
theorem dX7_readItems_172 : decode mX7_readItems.2.1 172 = .ok (.getfield 99, 3) := by decide +kernel
theorem dX7_readItems_175 : decode mX7_readItems.2.1 175 = .ok (.iastore, 1) := by decide +kernel
theorem dX7_readItems_176 : decode mX7_readItems.2.1 176 = .ok (.iinc 5 1, 3) := by decide +kernel
theorem dX7_readItems_179 : decode mX7_readItems.2.1 179 = .ok (.goto (-144), 3) := by decide +kernel
theorem dX7_readItems_182 : decode mX7_readItems.2.1 182 = .ok (.iconst 1, 1) := by decide +kernel
theorem dX7_readItems_183 : decode mX7_readItems.2.1 183 = .ok (.ireturn, 1) := by decide +kernel
abbrev mX7_readRow : gz_M := (yX7_readRow, cX7_readRow, 4, some .boolean)
theorem dX7_readRow_0 : decode mX7_readRow.2.1 0 = .ok (.iconst 0, 1) := by decide +kernel
theorem dX7_readRow_1 : decode mX7_readRow.2.1 1 = .ok (.istore_n 2, 1) := by decide +kernel
theorem dX7_readRow_2 : decode mX7_readRow.2.1 2 = .ok (.iload_n 2, 1) := by decide +kernel
theorem dX7_readRow_3 : decode mX7_readRow.2.1 3 = .ok (.bipush 6, 2) := by decide +kernel
theorem dX7_readRow_5 : decode mX7_readRow.2.1 5 = .ok (.if_icmp .ge 78, 3) := by decide +kernel
theorem dX7_readRow_8 : decode mX7_readRow.2.1 8 = .ok (.aload_n 0, 1) := by decide +kernel
theorem dX7_readRow_9 : decode mX7_readRow.2.1 9 = .ok (.getfield 24, 3) := by decide +kernel
theorem dX7_readRow_12 : decode mX7_readRow.2.1 12 = .ok (.invokevirtual 102, 3) := by decide +kernel
theorem dX7_readRow_15 : decode mX7_readRow.2.1 15 = .ok (.istore_n 3, 1) := by decide +kernel
theorem dX7_readRow_16 : decode mX7_readRow.2.1 16 = .ok (.iload_n 3, 1) := by decide +kernel
theorem dX7_readRow_17 : decode mX7_readRow.2.1 17 = .ok (.iconst (-1), 1) := by decide +kernel
theorem dX7_readRow_18 : decode mX7_readRow.2.1 18 = .ok (.if_icmp .ne 5, 3) := by decide +kernel
theorem dX7_readRow_21 : decode mX7_readRow.2.1 21 = .ok (.iconst 1, 1) := by decide +kernel
theorem dX7_readRow_22 : decode mX7_readRow.2.1 22 = .ok (.ireturn, 1) := by decide +kernel
theorem dX7_readRow_23 : decode mX7_readRow.2.1 23 = .ok (.iload_n 3, 1) := by decide +kernel
theorem dX7_readRow_24 : decode mX7_readRow.2.1 24 = .ok (.iconst 3, 1) := by decide +kernel
theorem dX7_readRow_25 : decode mX7_readRow.2.1 25 = .ok (.if_icmp .le 18, 3) := by decide +kernel
theorem dX7_readRow_28 : decode mX7_readRow.2.1 28 = .ok (.aload_n 0, 1) := by decide +kernel
theorem dX7_readRow_29 : decode mX7_readRow.2.1 29 = .ok (.getfield 24, 3) := by decide +kernel
theorem dX7_readRow_32 : decode mX7_readRow.2.1 32 = .ok (.aload_n 0, 1) := by decide +kernel
theorem dX7_readRow_33 : decode mX7_readRow.2.1 33 = .ok (.getfield 24, 3) := by decide +kernel
theorem dX7_readRow_36 : decode mX7_readRow.2.1 36 = .ok (.getfield 44, 3) := by decide +kernel
theorem dX7_readRow_39 : decode mX7_readRow.2.1 39 = .ok (.invokevirtual 48, 3) := by decide +kernel
theorem dX7_readRow_42 : decode mX7_readRow.2.1 42 = .ok (.ireturn, 1) := by decide +kernel
theorem dX7_readRow_43 : decode mX7_readRow.2.1 43 = .ok (.aload_n 0, 1) := by decide +kernel
theorem dX7_readRow_44 : decode mX7_readRow.2.1 44 = .ok (.getfield 24, 3) := by decide +kernel
theorem dX7_readRow_47 : decode mX7_readRow.2.1 47 = .ok (.dup, 1) := by decide +kernel
theorem dX7_readRow_48 : decode mX7_readRow.2.1 48 = .ok (.getfield 44, 3) := by decide +kernel
theorem dX7_readRow_51 : decode mX7_readRow.2.1 51 = .ok (.iconst 1, 1) := by decide +kernel
theorem dX7_readRow_52 : decode mX7_readRow.2.1 52 = .ok (.iadd, 1) := by decide +kernel
theorem dX7_readRow_53 : decode mX7_readRow.2.1 53 = .ok (.putfield 44, 3) := by decide +kernel
theorem dX7_readRow_56 : decode mX7_readRow.2.1 56 = .ok (.aload_n 0, 1) := by decide +kernel
theorem dX7_readRow_57 : decode mX7_readRow.2.1 57 = .ok (.getfield 18, 3) := by decide +kernel
theorem dX7_readRow_60 : decode mX7_readRow.2.1 60 = .ok (.iload_n 1, 1) := by decide +kernel
theorem dX7_readRow_61 : decode mX7_readRow.2.1 61 = .ok (.bipush 6, 2) := by decide +kernel
theorem dX7_readRow_63 : decode mX7_readRow.2.1 63 = .ok (.imul, 1) := by decide +kernel
theorem dX7_readRow_64 : decode mX7_readRow.2.1 64 = .ok (.iload_n 2, 1) := by decide +kernel
theorem dX7_readRow_65 : decode mX7_readRow.2.1 65 = .ok (.iadd, 1) := by decide +kernel
theorem dX7_readRow_66 : decode mX7_readRow.2.1 66 = .ok (.iload_n 3, 1) := by decide +kernel
theorem dX7_readRow_67 : decode mX7_readRow.2.1 67 = .ok (.iastore, 1) := by decide +kernel
theorem dX7_readRow_68 : decode mX7_readRow.2.1 68 = .ok (.aload_n 0, 1) := by decide +kernel
theorem dX7_readRow_69 : decode mX7_readRow.2.1 69 = .ok (.getfield 21, 3) := by decide +kernel
theorem dX7_readRow_72 : decode mX7_readRow.2.1 72 = .ok (.iload_n 1, 1) := by decide +kernel
theorem dX7_readRow_73 : decode mX7_readRow.2.1 73 = .ok (.iload_n 2, 1) := by decide +kernel
theorem dX7_readRow_74 : decode mX7_readRow.2.1 74 = .ok (.iconst 1, 1) := by decide +kernel
theorem dX7_readRow_75 : decode mX7_readRow.2.1 75 = .ok (.iadd, 1) := by decide +kernel
theorem dX7_readRow_76 : decode mX7_readRow.2.1 76 = .ok (.iastore, 1) := by decide +kernel
theorem dX7_readRow_77 : decode mX7_readRow.2.1 77 = .ok (.iinc 2 1, 3) := by decide +kernel
theorem dX7_readRow_80 : decode mX7_readRow.2.1 80 = .ok (.goto (-78), 3) := by decide +kernel
theorem dX7_readRow_83 : decode mX7_readRow.2.1 83 = .ok (.iconst 1, 1) := by decide +kernel
theorem dX7_readRow_84 : decode mX7_readRow.2.1 84 = .ok (.ireturn, 1) := by decide +kernel
abbrev mX7_readShore : gz_M := (yX7_readShore, cX7_readShore, 2, some .boolean)
theorem dX7_readShore_0 : decode mX7_readShore.2.1 0 = .ok (.aload_n 0, 1) := by decide +kernel
theorem dX7_readShore_1 : decode mX7_readShore.2.1 1 = .ok (.invokevirtual 28, 3) := by decide +kernel
theorem dX7_readShore_4 : decode mX7_readShore.2.1 4 = .ok (.iconst 0, 1) := by decide +kernel
theorem dX7_readShore_5 : decode mX7_readShore.2.1 5 = .ok (.istore_n 1, 1) := by decide +kernel
theorem dX7_readShore_6 : decode mX7_readShore.2.1 6 = .ok (.iload_n 1, 1) := by decide +kernel
theorem dX7_readShore_7 : decode mX7_readShore.2.1 7 = .ok (.bipush 10, 2) := by decide +kernel
theorem dX7_readShore_9 : decode mX7_readShore.2.1 9 = .ok (.if_icmp .gt 73, 3) := by decide +kernel
theorem dX7_readShore_12 : decode mX7_readShore.2.1 12 = .ok (.aload_n 0, 1) := by decide +kernel
theorem dX7_readShore_13 : decode mX7_readShore.2.1 13 = .ok (.invokevirtual 31, 3) := by decide +kernel
theorem dX7_readShore_16 : decode mX7_readShore.2.1 16 = .ok (.ifCond .ne 5, 3) := by decide +kernel
theorem dX7_readShore_19 : decode mX7_readShore.2.1 19 = .ok (.iconst 0, 1) := by decide +kernel
theorem dX7_readShore_20 : decode mX7_readShore.2.1 20 = .ok (.ireturn, 1) := by decide +kernel
theorem dX7_readShore_21 : decode mX7_readShore.2.1 21 = .ok (.aload_n 0, 1) := by decide +kernel
theorem dX7_readShore_22 : decode mX7_readShore.2.1 22 = .ok (.getfield 24, 3) := by decide +kernel
theorem dX7_readShore_25 : decode mX7_readShore.2.1 25 = .ok (.invokevirtual 35, 3) := by decide +kernel
theorem dX7_readShore_28 : decode mX7_readShore.2.1 28 = .ok (.iconst (-1), 1) := by decide +kernel
theorem dX7_readShore_29 : decode mX7_readShore.2.1 29 = .ok (.if_icmp .ne 33, 3) := by decide +kernel
theorem dX7_readShore_32 : decode mX7_readShore.2.1 32 = .ok (.aload_n 0, 1) := by decide +kernel
theorem dX7_readShore_33 : decode mX7_readShore.2.1 33 = .ok (.invokevirtual 41, 3) := by decide +kernel
theorem dX7_readShore_36 : decode mX7_readShore.2.1 36 = .ok (.ifCond .ne 20, 3) := by decide +kernel
theorem dX7_readShore_39 : decode mX7_readShore.2.1 39 = .ok (.aload_n 0, 1) := by decide +kernel
theorem dX7_readShore_40 : decode mX7_readShore.2.1 40 = .ok (.getfield 24, 3) := by decide +kernel
theorem dX7_readShore_43 : decode mX7_readShore.2.1 43 = .ok (.aload_n 0, 1) := by decide +kernel
theorem dX7_readShore_44 : decode mX7_readShore.2.1 44 = .ok (.getfield 24, 3) := by decide +kernel
theorem dX7_readShore_47 : decode mX7_readShore.2.1 47 = .ok (.getfield 44, 3) := by decide +kernel
theorem dX7_readShore_50 : decode mX7_readShore.2.1 50 = .ok (.invokevirtual 48, 3) := by decide +kernel
theorem dX7_readShore_53 : decode mX7_readShore.2.1 53 = .ok (.ifCond .eq 7, 3) := by decide +kernel
theorem dX7_readShore_56 : decode mX7_readShore.2.1 56 = .ok (.iconst 1, 1) := by decide +kernel
theorem dX7_readShore_57 : decode mX7_readShore.2.1 57 = .ok (.goto 4, 3) := by decide +kernel
theorem dX7_readShore_60 : decode mX7_readShore.2.1 60 = .ok (.iconst 0, 1) := by decide +kernel
theorem dX7_readShore_61 : decode mX7_readShore.2.1 61 = .ok (.ireturn, 1) := by decide +kernel
theorem dX7_readShore_62 : decode mX7_readShore.2.1 62 = .ok (.aload_n 0, 1) := by decide +kernel
theorem dX7_readShore_63 : decode mX7_readShore.2.1 63 = .ok (.getfield 24, 3) := by decide +kernel
theorem dX7_readShore_66 : decode mX7_readShore.2.1 66 = .ok (.bipush 59, 2) := by decide +kernel
theorem dX7_readShore_68 : decode mX7_readShore.2.1 68 = .ok (.invokevirtual 52, 3) := by decide +kernel
theorem dX7_readShore_71 : decode mX7_readShore.2.1 71 = .ok (.ifCond .ne 5, 3) := by decide +kernel
theorem dX7_readShore_74 : decode mX7_readShore.2.1 74 = .ok (.iconst 0, 1) := by decide +kernel
theorem dX7_readShore_75 : decode mX7_readShore.2.1 75 = .ok (.ireturn, 1) := by decide +kernel
theorem dX7_readShore_76 : decode mX7_readShore.2.1 76 = .ok (.iinc 1 1, 3) := by decide +kernel
theorem dX7_readShore_79 : decode mX7_readShore.2.1 79 = .ok (.goto (-73), 3) := by decide +kernel
theorem dX7_readShore_82 : decode mX7_readShore.2.1 82 = .ok (.aload_n 0, 1) := by decide +kernel
theorem dX7_readShore_83 : decode mX7_readShore.2.1 83 = .ok (.getfield 24, 3) := by decide +kernel
theorem dX7_readShore_86 : decode mX7_readShore.2.1 86 = .ok (.aload_n 0, 1) := by decide +kernel
theorem dX7_readShore_87 : decode mX7_readShore.2.1 87 = .ok (.getfield 24, 3) := by decide +kernel
theorem dX7_readShore_90 : decode mX7_readShore.2.1 90 = .ok (.getfield 44, 3) := by decide +kernel
theorem dX7_readShore_93 : decode mX7_readShore.2.1 93 = .ok (.invokevirtual 48, 3) := by decide +kernel
theorem dX7_readShore_96 : decode mX7_readShore.2.1 96 = .ok (.ireturn, 1) := by decide +kernel
abbrev mX7_tell : gz_M := (yX7_tell, cX7_tell, 6, none)
theorem dX7_tell_0 : decode mX7_tell.2.1 0 = .ok (.aload_n 1, 1) := by decide +kernel
theorem dX7_tell_1 : decode mX7_tell.2.1 1 = .ok (.getfield 105, 3) := by decide +kernel
theorem dX7_tell_4 : decode mX7_tell.2.1 4 = .ok (.iconst 0, 1) := by decide +kernel
theorem dX7_tell_5 : decode mX7_tell.2.1 5 = .ok (.invokestatic 70, 3) := by decide +kernel
theorem dX7_tell_8 : decode mX7_tell.2.1 8 = .ok (.aload_n 0, 1) := by decide +kernel
theorem dX7_tell_9 : decode mX7_tell.2.1 9 = .ok (.getfield 11, 3) := by decide +kernel
theorem dX7_tell_12 : decode mX7_tell.2.1 12 = .ok (.iconst 0, 1) := by decide +kernel
theorem dX7_tell_13 : decode mX7_tell.2.1 13 = .ok (.iaload, 1) := by decide +kernel
theorem dX7_tell_14 : decode mX7_tell.2.1 14 = .ok (.istore_n 2, 1) := by decide +kernel
theorem dX7_tell_15 : decode mX7_tell.2.1 15 = .ok (.aload_n 0, 1) := by decide +kernel
theorem dX7_tell_16 : decode mX7_tell.2.1 16 = .ok (.getfield 11, 3) := by decide +kernel
theorem dX7_tell_19 : decode mX7_tell.2.1 19 = .ok (.iconst 1, 1) := by decide +kernel
theorem dX7_tell_20 : decode mX7_tell.2.1 20 = .ok (.iaload, 1) := by decide +kernel
theorem dX7_tell_21 : decode mX7_tell.2.1 21 = .ok (.istore_n 3, 1) := by decide +kernel
theorem dX7_tell_22 : decode mX7_tell.2.1 22 = .ok (.aload_n 1, 1) := by decide +kernel
theorem dX7_tell_23 : decode mX7_tell.2.1 23 = .ok (.getfield 105, 3) := by decide +kernel
theorem dX7_tell_26 : decode mX7_tell.2.1 26 = .ok (.bipush 58, 2) := by decide +kernel
theorem dX7_tell_28 : decode mX7_tell.2.1 28 = .ok (.iload_n 2, 1) := by decide +kernel
theorem dX7_tell_29 : decode mX7_tell.2.1 29 = .ok (.iastore, 1) := by decide +kernel
theorem dX7_tell_30 : decode mX7_tell.2.1 30 = .ok (.aload_n 1, 1) := by decide +kernel
theorem dX7_tell_31 : decode mX7_tell.2.1 31 = .ok (.getfield 105, 3) := by decide +kernel
theorem dX7_tell_34 : decode mX7_tell.2.1 34 = .ok (.bipush 59, 2) := by decide +kernel
theorem dX7_tell_36 : decode mX7_tell.2.1 36 = .ok (.iload_n 3, 1) := by decide +kernel
theorem dX7_tell_37 : decode mX7_tell.2.1 37 = .ok (.iastore, 1) := by decide +kernel
theorem dX7_tell_38 : decode mX7_tell.2.1 38 = .ok (.aload_n 1, 1) := by decide +kernel
theorem dX7_tell_39 : decode mX7_tell.2.1 39 = .ok (.getfield 105, 3) := by decide +kernel
theorem dX7_tell_42 : decode mX7_tell.2.1 42 = .ok (.bipush 46, 2) := by decide +kernel
theorem dX7_tell_44 : decode mX7_tell.2.1 44 = .ok (.aload_n 0, 1) := by decide +kernel
theorem dX7_tell_45 : decode mX7_tell.2.1 45 = .ok (.getfield 11, 3) := by decide +kernel
theorem dX7_tell_48 : decode mX7_tell.2.1 48 = .ok (.iconst 2, 1) := by decide +kernel
theorem dX7_tell_49 : decode mX7_tell.2.1 49 = .ok (.iaload, 1) := by decide +kernel
theorem dX7_tell_50 : decode mX7_tell.2.1 50 = .ok (.iastore, 1) := by decide +kernel
theorem dX7_tell_51 : decode mX7_tell.2.1 51 = .ok (.aload_n 1, 1) := by decide +kernel
theorem dX7_tell_52 : decode mX7_tell.2.1 52 = .ok (.getfield 105, 3) := by decide +kernel
theorem dX7_tell_55 : decode mX7_tell.2.1 55 = .ok (.bipush 48, 2) := by decide +kernel
theorem dX7_tell_57 : decode mX7_tell.2.1 57 = .ok (.aload_n 0, 1) := by decide +kernel
theorem dX7_tell_58 : decode mX7_tell.2.1 58 = .ok (.getfield 11, 3) := by decide +kernel
theorem dX7_tell_61 : decode mX7_tell.2.1 61 = .ok (.iconst 3, 1) := by decide +kernel
theorem dX7_tell_62 : decode mX7_tell.2.1 62 = .ok (.iaload, 1) := by decide +kernel
theorem dX7_tell_63 : decode mX7_tell.2.1 63 = .ok (.iastore, 1) := by decide +kernel
theorem dX7_tell_64 : decode mX7_tell.2.1 64 = .ok (.aload_n 1, 1) := by decide +kernel
theorem dX7_tell_65 : decode mX7_tell.2.1 65 = .ok (.getfield 105, 3) := by decide +kernel
theorem dX7_tell_68 : decode mX7_tell.2.1 68 = .ok (.bipush 60, 2) := by decide +kernel
theorem dX7_tell_70 : decode mX7_tell.2.1 70 = .ok (.aload_n 0, 1) := by decide +kernel
theorem dX7_tell_71 : decode mX7_tell.2.1 71 = .ok (.getfield 65, 3) := by decide +kernel
theorem dX7_tell_74 : decode mX7_tell.2.1 74 = .ok (.iastore, 1) := by decide +kernel
theorem dX7_tell_75 : decode mX7_tell.2.1 75 = .ok (.iconst 0, 1) := by decide +kernel
theorem dX7_tell_76 : decode mX7_tell.2.1 76 = .ok (.istore 4, 2) := by decide +kernel
theorem dX7_tell_78 : decode mX7_tell.2.1 78 = .ok (.iload 4, 2) := by decide +kernel
theorem dX7_tell_80 : decode mX7_tell.2.1 80 = .ok (.iload_n 3, 1) := by decide +kernel
theorem dX7_tell_81 : decode mX7_tell.2.1 81 = .ok (.if_icmp .ge 51, 3) := by decide +kernel
theorem dX7_tell_84 : decode mX7_tell.2.1 84 = .ok (.iconst 0, 1) := by decide +kernel
theorem dX7_tell_85 : decode mX7_tell.2.1 85 = .ok (.istore 5, 2) := by decide +kernel
theorem dX7_tell_87 : decode mX7_tell.2.1 87 = .ok (.iload 5, 2) := by decide +kernel
theorem dX7_tell_89 : decode mX7_tell.2.1 89 = .ok (.iload_n 2, 1) := by decide +kernel
theorem dX7_tell_90 : decode mX7_tell.2.1 90 = .ok (.if_icmp .ge 36, 3) := by decide +kernel
theorem dX7_tell_93 : decode mX7_tell.2.1 93 = .ok (.aload_n 1, 1) := by decide +kernel
theorem dX7_tell_94 : decode mX7_tell.2.1 94 = .ok (.getfield 105, 3) := by decide +kernel
theorem dX7_tell_97 : decode mX7_tell.2.1 97 = .ok (.iconst 0, 1) := by decide +kernel
theorem dX7_tell_98 : decode mX7_tell.2.1 98 = .ok (.iload 4, 2) := by decide +kernel
theorem dX7_tell_100 : decode mX7_tell.2.1 100 = .ok (.iload_n 2, 1) := by decide +kernel
theorem dX7_tell_101 : decode mX7_tell.2.1 101 = .ok (.imul, 1) := by decide +kernel
theorem dX7_tell_102 : decode mX7_tell.2.1 102 = .ok (.iadd, 1) := by decide +kernel
theorem dX7_tell_103 : decode mX7_tell.2.1 103 = .ok (.iload 5, 2) := by decide +kernel
theorem dX7_tell_105 : decode mX7_tell.2.1 105 = .ok (.iadd, 1) := by decide +kernel
theorem dX7_tell_106 : decode mX7_tell.2.1 106 = .ok (.aload_n 0, 1) := by decide +kernel
theorem dX7_tell_107 : decode mX7_tell.2.1 107 = .ok (.getfield 18, 3) := by decide +kernel
theorem dX7_tell_110 : decode mX7_tell.2.1 110 = .ok (.iload 4, 2) := by decide +kernel
theorem dX7_tell_112 : decode mX7_tell.2.1 112 = .ok (.bipush 6, 2) := by decide +kernel
theorem dX7_tell_114 : decode mX7_tell.2.1 114 = .ok (.imul, 1) := by decide +kernel
theorem dX7_tell_115 : decode mX7_tell.2.1 115 = .ok (.iload 5, 2) := by decide +kernel
theorem dX7_tell_117 : decode mX7_tell.2.1 117 = .ok (.iadd, 1) := by decide +kernel
theorem dX7_tell_118 : decode mX7_tell.2.1 118 = .ok (.iaload, 1) := by decide +kernel
theorem dX7_tell_119 : decode mX7_tell.2.1 119 = .ok (.iastore, 1) := by decide +kernel
theorem dX7_tell_120 : decode mX7_tell.2.1 120 = .ok (.iinc 5 1, 3) := by decide +kernel
theorem dX7_tell_123 : decode mX7_tell.2.1 123 = .ok (.goto (-36), 3) := by decide +kernel
theorem dX7_tell_126 : decode mX7_tell.2.1 126 = .ok (.iinc 4 1, 3) := by decide +kernel
theorem dX7_tell_129 : decode mX7_tell.2.1 129 = .ok (.goto (-51), 3) := by decide +kernel
theorem dX7_tell_132 : decode mX7_tell.2.1 132 = .ok (.iconst 0, 1) := by decide +kernel
theorem dX7_tell_133 : decode mX7_tell.2.1 133 = .ok (.istore 4, 2) := by decide +kernel
theorem dX7_tell_135 : decode mX7_tell.2.1 135 = .ok (.iload 4, 2) := by decide +kernel
theorem dX7_tell_137 : decode mX7_tell.2.1 137 = .ok (.aload_n 0, 1) := by decide +kernel
theorem dX7_tell_138 : decode mX7_tell.2.1 138 = .ok (.getfield 65, 3) := by decide +kernel
theorem dX7_tell_141 : decode mX7_tell.2.1 141 = .ok (.if_icmp .ge 100, 3) := by decide +kernel
theorem dX7_tell_144 : decode mX7_tell.2.1 144 = .ok (.aload_n 0, 1) := by decide +kernel
theorem dX7_tell_145 : decode mX7_tell.2.1 145 = .ok (.getfield 15, 3) := by decide +kernel
theorem dX7_tell_148 : decode mX7_tell.2.1 148 = .ok (.iload 4, 2) := by decide +kernel
theorem dX7_tell_150 : decode mX7_tell.2.1 150 = .ok (.iconst 4, 1) := by decide +kernel
theorem dX7_tell_151 : decode mX7_tell.2.1 151 = .ok (.imul, 1) := by decide +kernel
theorem dX7_tell_152 : decode mX7_tell.2.1 152 = .ok (.iconst 1, 1) := by decide +kernel
theorem dX7_tell_153 : decode mX7_tell.2.1 153 = .ok (.iadd, 1) := by decide +kernel
theorem dX7_tell_154 : decode mX7_tell.2.1 154 = .ok (.iaload, 1) := by decide +kernel
theorem dX7_tell_155 : decode mX7_tell.2.1 155 = .ok (.iload_n 2, 1) := by decide +kernel
theorem dX7_tell_156 : decode mX7_tell.2.1 156 = .ok (.imul, 1) := by decide +kernel
theorem dX7_tell_157 : decode mX7_tell.2.1 157 = .ok (.aload_n 0, 1) := by decide +kernel
theorem dX7_tell_158 : decode mX7_tell.2.1 158 = .ok (.getfield 15, 3) := by decide +kernel
theorem dX7_tell_161 : decode mX7_tell.2.1 161 = .ok (.iload 4, 2) := by decide +kernel
theorem dX7_tell_163 : decode mX7_tell.2.1 163 = .ok (.iconst 4, 1) := by decide +kernel
theorem dX7_tell_164 : decode mX7_tell.2.1 164 = .ok (.imul, 1) := by decide +kernel
theorem dX7_tell_165 : decode mX7_tell.2.1 165 = .ok (.iaload, 1) := by decide +kernel
theorem dX7_tell_166 : decode mX7_tell.2.1 166 = .ok (.iadd, 1) := by decide +kernel
theorem dX7_tell_167 : decode mX7_tell.2.1 167 = .ok (.istore 5, 2) := by decide +kernel
theorem dX7_tell_169 : decode mX7_tell.2.1 169 = .ok (.aload_n 1, 1) := by decide +kernel
theorem dX7_tell_170 : decode mX7_tell.2.1 170 = .ok (.getfield 105, 3) := by decide +kernel
theorem dX7_tell_173 : decode mX7_tell.2.1 173 = .ok (.bipush 54, 2) := by decide +kernel
theorem dX7_tell_175 : decode mX7_tell.2.1 175 = .ok (.iload 4, 2) := by decide +kernel
theorem dX7_tell_177 : decode mX7_tell.2.1 177 = .ok (.iadd, 1) := by decide +kernel
theorem dX7_tell_178 : decode mX7_tell.2.1 178 = .ok (.iload 5, 2) := by decide +kernel
theorem dX7_tell_180 : decode mX7_tell.2.1 180 = .ok (.iastore, 1) := by decide +kernel
theorem dX7_tell_181 : decode mX7_tell.2.1 181 = .ok (.aload_n 1, 1) := by decide +kernel
theorem dX7_tell_182 : decode mX7_tell.2.1 182 = .ok (.getfield 105, 3) := by decide +kernel
theorem dX7_tell_185 : decode mX7_tell.2.1 185 = .ok (.bipush 30, 2) := by decide +kernel
theorem dX7_tell_187 : decode mX7_tell.2.1 187 = .ok (.iload 4, 2) := by decide +kernel
theorem dX7_tell_189 : decode mX7_tell.2.1 189 = .ok (.iadd, 1) := by decide +kernel
theorem dX7_tell_190 : decode mX7_tell.2.1 190 = .ok (.iload 5, 2) := by decide +kernel
theorem dX7_tell_192 : decode mX7_tell.2.1 192 = .ok (.iastore, 1) := by decide +kernel
theorem dX7_tell_193 : decode mX7_tell.2.1 193 = .ok (.aload_n 1, 1) := by decide +kernel
theorem dX7_tell_194 : decode mX7_tell.2.1 194 = .ok (.getfield 105, 3) := by decide +kernel
theorem dX7_tell_197 : decode mX7_tell.2.1 197 = .ok (.bipush 34, 2) := by decide +kernel
theorem dX7_tell_199 : decode mX7_tell.2.1 199 = .ok (.iload 4, 2) := by decide +kernel
theorem dX7_tell_201 : decode mX7_tell.2.1 201 = .ok (.iadd, 1) := by decide +kernel
theorem dX7_tell_202 : decode mX7_tell.2.1 202 = .ok (.aload_n 0, 1) := by decide +kernel
theorem dX7_tell_203 : decode mX7_tell.2.1 203 = .ok (.getfield 15, 3) := by decide +kernel
theorem dX7_tell_206 : decode mX7_tell.2.1 206 = .ok (.iload 4, 2) := by decide +kernel
theorem dX7_tell_208 : decode mX7_tell.2.1 208 = .ok (.iconst 4, 1) := by decide +kernel
theorem dX7_tell_209 : decode mX7_tell.2.1 209 = .ok (.imul, 1) := by decide +kernel
theorem dX7_tell_210 : decode mX7_tell.2.1 210 = .ok (.iconst 2, 1) := by decide +kernel
theorem dX7_tell_211 : decode mX7_tell.2.1 211 = .ok (.iadd, 1) := by decide +kernel
theorem dX7_tell_212 : decode mX7_tell.2.1 212 = .ok (.iaload, 1) := by decide +kernel
theorem dX7_tell_213 : decode mX7_tell.2.1 213 = .ok (.iastore, 1) := by decide +kernel
theorem dX7_tell_214 : decode mX7_tell.2.1 214 = .ok (.aload_n 1, 1) := by decide +kernel
theorem dX7_tell_215 : decode mX7_tell.2.1 215 = .ok (.getfield 105, 3) := by decide +kernel
theorem dX7_tell_218 : decode mX7_tell.2.1 218 = .ok (.bipush 50, 2) := by decide +kernel
theorem dX7_tell_220 : decode mX7_tell.2.1 220 = .ok (.iload 4, 2) := by decide +kernel
theorem dX7_tell_222 : decode mX7_tell.2.1 222 = .ok (.iadd, 1) := by decide +kernel
theorem dX7_tell_223 : decode mX7_tell.2.1 223 = .ok (.aload_n 0, 1) := by decide +kernel
theorem dX7_tell_224 : decode mX7_tell.2.1 224 = .ok (.getfield 15, 3) := by decide +kernel
theorem dX7_tell_227 : decode mX7_tell.2.1 227 = .ok (.iload 4, 2) := by decide +kernel
theorem dX7_tell_229 : decode mX7_tell.2.1 229 = .ok (.iconst 4, 1) := by decide +kernel
theorem dX7_tell_230 : decode mX7_tell.2.1 230 = .ok (.imul, 1) := by decide +kernel
theorem dX7_tell_231 : decode mX7_tell.2.1 231 = .ok (.iconst 3, 1) := by decide +kernel
theorem dX7_tell_232 : decode mX7_tell.2.1 232 = .ok (.iadd, 1) := by decide +kernel
theorem dX7_tell_233 : decode mX7_tell.2.1 233 = .ok (.iaload, 1) := by decide +kernel
theorem dX7_tell_234 : decode mX7_tell.2.1 234 = .ok (.iastore, 1) := by decide +kernel
theorem dX7_tell_235 : decode mX7_tell.2.1 235 = .ok (.iinc 4 1, 3) := by decide +kernel
theorem dX7_tell_238 : decode mX7_tell.2.1 238 = .ok (.goto (-103), 3) := by decide +kernel
theorem dX7_tell_241 : decode mX7_tell.2.1 241 = .ok (.return_, 1) := by decide +kernel
abbrev mX8_add : gz_M := (yX8_add, cX8_add, 4, some .boolean)
theorem dX8_add_0 : decode mX8_add.2.1 0 = .ok (.aload_n 0, 1) := by decide +kernel
theorem dX8_add_1 : decode mX8_add.2.1 1 = .ok (.getfield 40, 3) := by decide +kernel
theorem dX8_add_4 : decode mX8_add.2.1 4 = .ok (.bipush 10, 2) := by decide +kernel
theorem dX8_add_6 : decode mX8_add.2.1 6 = .ok (.if_icmp .lt 5, 3) := by decide +kernel
theorem dX8_add_9 : decode mX8_add.2.1 9 = .ok (.iconst 0, 1) := by decide +kernel
theorem dX8_add_10 : decode mX8_add.2.1 10 = .ok (.ireturn, 1) := by decide +kernel
theorem dX8_add_11 : decode mX8_add.2.1 11 = .ok (.aload_n 0, 1) := by decide +kernel
theorem dX8_add_12 : decode mX8_add.2.1 12 = .ok (.getfield 11, 3) := by decide +kernel
theorem dX8_add_15 : decode mX8_add.2.1 15 = .ok (.aload_n 0, 1) := by decide +kernel
theorem dX8_add_16 : decode mX8_add.2.1 16 = .ok (.getfield 40, 3) := by decide +kernel
theorem dX8_add_19 : decode mX8_add.2.1 19 = .ok (.iload_n 1, 1) := by decide +kernel
theorem dX8_add_20 : decode mX8_add.2.1 20 = .ok (.iastore, 1) := by decide +kernel
theorem dX8_add_21 : decode mX8_add.2.1 21 = .ok (.aload_n 0, 1) := by decide +kernel
theorem dX8_add_22 : decode mX8_add.2.1 22 = .ok (.getfield 15, 3) := by decide +kernel
theorem dX8_add_25 : decode mX8_add.2.1 25 = .ok (.aload_n 0, 1) := by decide +kernel
theorem dX8_add_26 : decode mX8_add.2.1 26 = .ok (.getfield 40, 3) := by decide +kernel
theorem dX8_add_29 : decode mX8_add.2.1 29 = .ok (.iload_n 2, 1) := by decide +kernel
theorem dX8_add_30 : decode mX8_add.2.1 30 = .ok (.iastore, 1) := by decide +kernel
theorem dX8_add_31 : decode mX8_add.2.1 31 = .ok (.aload_n 0, 1) := by decide +kernel
theorem dX8_add_32 : decode mX8_add.2.1 32 = .ok (.getfield 18, 3) := by decide +kernel
theorem dX8_add_35 : decode mX8_add.2.1 35 = .ok (.aload_n 0, 1) := by decide +kernel
theorem dX8_add_36 : decode mX8_add.2.1 36 = .ok (.getfield 40, 3) := by decide +kernel
theorem dX8_add_39 : decode mX8_add.2.1 39 = .ok (.iload_n 3, 1) := by decide +kernel
theorem dX8_add_40 : decode mX8_add.2.1 40 = .ok (.iastore, 1) := by decide +kernel
theorem dX8_add_41 : decode mX8_add.2.1 41 = .ok (.aload_n 0, 1) := by decide +kernel
theorem dX8_add_42 : decode mX8_add.2.1 42 = .ok (.dup, 1) := by decide +kernel
theorem dX8_add_43 : decode mX8_add.2.1 43 = .ok (.getfield 40, 3) := by decide +kernel
theorem dX8_add_46 : decode mX8_add.2.1 46 = .ok (.iconst 1, 1) := by decide +kernel
theorem dX8_add_47 : decode mX8_add.2.1 47 = .ok (.iadd, 1) := by decide +kernel
theorem dX8_add_48 : decode mX8_add.2.1 48 = .ok (.putfield 40, 3) := by decide +kernel
theorem dX8_add_51 : decode mX8_add.2.1 51 = .ok (.iconst 1, 1) := by decide +kernel
theorem dX8_add_52 : decode mX8_add.2.1 52 = .ok (.ireturn, 1) := by decide +kernel
abbrev mX8_agrees : gz_M := (yX8_agrees, cX8_agrees, 4, some .boolean)
theorem dX8_agrees_0 : decode mX8_agrees.2.1 0 = .ok (.iconst 0, 1) := by decide +kernel
theorem dX8_agrees_1 : decode mX8_agrees.2.1 1 = .ok (.istore_n 3, 1) := by decide +kernel
theorem dX8_agrees_2 : decode mX8_agrees.2.1 2 = .ok (.iload_n 3, 1) := by decide +kernel
theorem dX8_agrees_3 : decode mX8_agrees.2.1 3 = .ok (.aload_n 0, 1) := by decide +kernel
theorem dX8_agrees_4 : decode mX8_agrees.2.1 4 = .ok (.getfield 40, 3) := by decide +kernel
theorem dX8_agrees_7 : decode mX8_agrees.2.1 7 = .ok (.if_icmp .ge 46, 3) := by decide +kernel
theorem dX8_agrees_10 : decode mX8_agrees.2.1 10 = .ok (.aload_n 0, 1) := by decide +kernel
theorem dX8_agrees_11 : decode mX8_agrees.2.1 11 = .ok (.getfield 11, 3) := by decide +kernel
theorem dX8_agrees_14 : decode mX8_agrees.2.1 14 = .ok (.iload_n 3, 1) := by decide +kernel
theorem dX8_agrees_15 : decode mX8_agrees.2.1 15 = .ok (.iaload, 1) := by decide +kernel
theorem dX8_agrees_16 : decode mX8_agrees.2.1 16 = .ok (.iload_n 1, 1) := by decide +kernel
theorem dX8_agrees_17 : decode mX8_agrees.2.1 17 = .ok (.if_icmp .ne 30, 3) := by decide +kernel
theorem dX8_agrees_20 : decode mX8_agrees.2.1 20 = .ok (.aload_n 0, 1) := by decide +kernel
theorem dX8_agrees_21 : decode mX8_agrees.2.1 21 = .ok (.getfield 21, 3) := by decide +kernel
theorem dX8_agrees_24 : decode mX8_agrees.2.1 24 = .ok (.iload_n 2, 1) := by decide +kernel
theorem dX8_agrees_25 : decode mX8_agrees.2.1 25 = .ok (.bipush 31, 2) := by decide +kernel
theorem dX8_agrees_27 : decode mX8_agrees.2.1 27 = .ok (.imul, 1) := by decide +kernel
theorem dX8_agrees_28 : decode mX8_agrees.2.1 28 = .ok (.aload_n 0, 1) := by decide +kernel
theorem dX8_agrees_29 : decode mX8_agrees.2.1 29 = .ok (.getfield 15, 3) := by decide +kernel
theorem dX8_agrees_32 : decode mX8_agrees.2.1 32 = .ok (.iload_n 3, 1) := by decide +kernel
theorem dX8_agrees_33 : decode mX8_agrees.2.1 33 = .ok (.iaload, 1) := by decide +kernel
theorem dX8_agrees_34 : decode mX8_agrees.2.1 34 = .ok (.iadd, 1) := by decide +kernel
theorem dX8_agrees_35 : decode mX8_agrees.2.1 35 = .ok (.iaload, 1) := by decide +kernel
theorem dX8_agrees_36 : decode mX8_agrees.2.1 36 = .ok (.aload_n 0, 1) := by decide +kernel
theorem dX8_agrees_37 : decode mX8_agrees.2.1 37 = .ok (.getfield 18, 3) := by decide +kernel
theorem dX8_agrees_40 : decode mX8_agrees.2.1 40 = .ok (.iload_n 3, 1) := by decide +kernel
theorem dX8_agrees_41 : decode mX8_agrees.2.1 41 = .ok (.iaload, 1) := by decide +kernel
theorem dX8_agrees_42 : decode mX8_agrees.2.1 42 = .ok (.if_icmp .eq 5, 3) := by decide +kernel
theorem dX8_agrees_45 : decode mX8_agrees.2.1 45 = .ok (.iconst 0, 1) := by decide +kernel
theorem dX8_agrees_46 : decode mX8_agrees.2.1 46 = .ok (.ireturn, 1) := by decide +kernel
theorem dX8_agrees_47 : decode mX8_agrees.2.1 47 = .ok (.iinc 3 1, 3) := by decide +kernel
theorem dX8_agrees_50 : decode mX8_agrees.2.1 50 = .ok (.goto (-48), 3) := by decide +kernel
theorem dX8_agrees_53 : decode mX8_agrees.2.1 53 = .ok (.iconst 1, 1) := by decide +kernel
theorem dX8_agrees_54 : decode mX8_agrees.2.1 54 = .ok (.ireturn, 1) := by decide +kernel
abbrev mX8_bestHour : gz_M := (yX8_bestHour, cX8_bestHour, 6, some .int)
theorem dX8_bestHour_0 : decode mX8_bestHour.2.1 0 = .ok (.iconst (-1), 1) := by decide +kernel
theorem dX8_bestHour_1 : decode mX8_bestHour.2.1 1 = .ok (.istore_n 2, 1) := by decide +kernel
theorem dX8_bestHour_2 : decode mX8_bestHour.2.1 2 = .ok (.bipush 17, 2) := by decide +kernel
theorem dX8_bestHour_4 : decode mX8_bestHour.2.1 4 = .ok (.istore_n 3, 1) := by decide +kernel
theorem dX8_bestHour_5 : decode mX8_bestHour.2.1 5 = .ok (.iconst 1, 1) := by decide +kernel
theorem dX8_bestHour_6 : decode mX8_bestHour.2.1 6 = .ok (.istore 4, 2) := by decide +kernel
theorem dX8_bestHour_8 : decode mX8_bestHour.2.1 8 = .ok (.iload_n 1, 1) := by decide +kernel
theorem dX8_bestHour_9 : decode mX8_bestHour.2.1 9 = .ok (.ifCond .eq 37, 3) := by decide +kernel
theorem dX8_bestHour_12 : decode mX8_bestHour.2.1 12 = .ok (.iload 4, 2) := by decide +kernel
theorem dX8_bestHour_14 : decode mX8_bestHour.2.1 14 = .ok (.bipush 30, 2) := by decide +kernel
theorem dX8_bestHour_16 : decode mX8_bestHour.2.1 16 = .ok (.if_icmp .gt 30, 3) := by decide +kernel
theorem dX8_bestHour_19 : decode mX8_bestHour.2.1 19 = .ok (.aload_n 0, 1) := by decide +kernel
theorem dX8_bestHour_20 : decode mX8_bestHour.2.1 20 = .ok (.iload_n 1, 1) := by decide +kernel
theorem dX8_bestHour_21 : decode mX8_bestHour.2.1 21 = .ok (.iload 4, 2) := by decide +kernel
theorem dX8_bestHour_23 : decode mX8_bestHour.2.1 23 = .ok (.invokevirtual 71, 3) := by decide +kernel
theorem dX8_bestHour_26 : decode mX8_bestHour.2.1 26 = .ok (.istore 5, 2) := by decide +kernel
theorem dX8_bestHour_28 : decode mX8_bestHour.2.1 28 = .ok (.iload 5, 2) := by decide +kernel
theorem dX8_bestHour_30 : decode mX8_bestHour.2.1 30 = .ok (.iload_n 3, 1) := by decide +kernel
theorem dX8_bestHour_31 : decode mX8_bestHour.2.1 31 = .ok (.if_icmp .ge 9, 3) := by decide +kernel
theorem dX8_bestHour_34 : decode mX8_bestHour.2.1 34 = .ok (.iload 5, 2) := by decide +kernel
theorem dX8_bestHour_36 : decode mX8_bestHour.2.1 36 = .ok (.istore_n 3, 1) := by decide +kernel
theorem dX8_bestHour_37 : decode mX8_bestHour.2.1 37 = .ok (.iload 4, 2) := by decide +kernel
theorem dX8_bestHour_39 : decode mX8_bestHour.2.1 39 = .ok (.istore_n 2, 1) := by decide +kernel
theorem dX8_bestHour_40 : decode mX8_bestHour.2.1 40 = .ok (.iinc 4 1, 3) := by decide +kernel
theorem dX8_bestHour_43 : decode mX8_bestHour.2.1 43 = .ok (.goto (-35), 3) := by decide +kernel
theorem dX8_bestHour_46 : decode mX8_bestHour.2.1 46 = .ok (.iload_n 2, 1) := by decide +kernel
theorem dX8_bestHour_47 : decode mX8_bestHour.2.1 47 = .ok (.ireturn, 1) := by decide +kernel
abbrev mX8_fit : gz_M := (yX8_fit, cX8_fit, 4, some .int)
theorem dX8_fit_0 : decode mX8_fit.2.1 0 = .ok (.iload_n 1, 1) := by decide +kernel
theorem dX8_fit_1 : decode mX8_fit.2.1 1 = .ok (.iload_n 2, 1) := by decide +kernel
theorem dX8_fit_2 : decode mX8_fit.2.1 2 = .ok (.invokestatic 65, 3) := by decide +kernel
theorem dX8_fit_5 : decode mX8_fit.2.1 5 = .ok (.istore_n 3, 1) := by decide +kernel
theorem dX8_fit_6 : decode mX8_fit.2.1 6 = .ok (.iload_n 3, 1) := by decide +kernel
theorem dX8_fit_7 : decode mX8_fit.2.1 7 = .ok (.iconst (-1), 1) := by decide +kernel
theorem dX8_fit_8 : decode mX8_fit.2.1 8 = .ok (.if_icmp .ne 7, 3) := by decide +kernel
theorem dX8_fit_11 : decode mX8_fit.2.1 11 = .ok (.iconst (-1), 1) := by decide +kernel
theorem dX8_fit_12 : decode mX8_fit.2.1 12 = .ok (.goto 15, 3) := by decide +kernel
theorem dX8_fit_15 : decode mX8_fit.2.1 15 = .ok (.iload_n 3, 1) := by decide +kernel
theorem dX8_fit_16 : decode mX8_fit.2.1 16 = .ok (.iconst 4, 1) := by decide +kernel
theorem dX8_fit_17 : decode mX8_fit.2.1 17 = .ok (.idiv, 1) := by decide +kernel
theorem dX8_fit_18 : decode mX8_fit.2.1 18 = .ok (.iconst 1, 1) := by decide +kernel
theorem dX8_fit_19 : decode mX8_fit.2.1 19 = .ok (.iadd, 1) := by decide +kernel
theorem dX8_fit_20 : decode mX8_fit.2.1 20 = .ok (.bipush 10, 2) := by decide +kernel
theorem dX8_fit_22 : decode mX8_fit.2.1 22 = .ok (.imul, 1) := by decide +kernel
theorem dX8_fit_23 : decode mX8_fit.2.1 23 = .ok (.iload_n 3, 1) := by decide +kernel
theorem dX8_fit_24 : decode mX8_fit.2.1 24 = .ok (.iconst 4, 1) := by decide +kernel
theorem dX8_fit_25 : decode mX8_fit.2.1 25 = .ok (.irem, 1) := by decide +kernel
theorem dX8_fit_26 : decode mX8_fit.2.1 26 = .ok (.iadd, 1) := by decide +kernel
theorem dX8_fit_27 : decode mX8_fit.2.1 27 = .ok (.ireturn, 1) := by decide +kernel
abbrev mX8_fitting : gz_M := (yX8_fitting, cX8_fitting, 4, some .int)
theorem dX8_fitting_0 : decode mX8_fitting.2.1 0 = .ok (.iconst 0, 1) := by decide +kernel
theorem dX8_fitting_1 : decode mX8_fitting.2.1 1 = .ok (.istore_n 2, 1) := by decide +kernel
theorem dX8_fitting_2 : decode mX8_fitting.2.1 2 = .ok (.iconst 0, 1) := by decide +kernel
theorem dX8_fitting_3 : decode mX8_fitting.2.1 3 = .ok (.istore_n 3, 1) := by decide +kernel
theorem dX8_fitting_4 : decode mX8_fitting.2.1 4 = .ok (.iload_n 3, 1) := by decide +kernel
theorem dX8_fitting_5 : decode mX8_fitting.2.1 5 = .ok (.bipush 16, 2) := by decide +kernel
theorem dX8_fitting_7 : decode mX8_fitting.2.1 7 = .ok (.if_icmp .ge 30, 3) := by decide +kernel
theorem dX8_fitting_10 : decode mX8_fitting.2.1 10 = .ok (.aload_n 0, 1) := by decide +kernel
theorem dX8_fitting_11 : decode mX8_fitting.2.1 11 = .ok (.iload_n 1, 1) := by decide +kernel
theorem dX8_fitting_12 : decode mX8_fitting.2.1 12 = .ok (.iload_n 3, 1) := by decide +kernel
theorem dX8_fitting_13 : decode mX8_fitting.2.1 13 = .ok (.invokevirtual 44, 3) := by decide +kernel
theorem dX8_fitting_16 : decode mX8_fitting.2.1 16 = .ok (.aload_n 0, 1) := by decide +kernel
theorem dX8_fitting_17 : decode mX8_fitting.2.1 17 = .ok (.iload_n 1, 1) := by decide +kernel
theorem dX8_fitting_18 : decode mX8_fitting.2.1 18 = .ok (.iload_n 3, 1) := by decide +kernel
theorem dX8_fitting_19 : decode mX8_fitting.2.1 19 = .ok (.invokevirtual 48, 3) := by decide +kernel
theorem dX8_fitting_22 : decode mX8_fitting.2.1 22 = .ok (.ifCond .eq 9, 3) := by decide +kernel
theorem dX8_fitting_25 : decode mX8_fitting.2.1 25 = .ok (.iload_n 2, 1) := by decide +kernel
theorem dX8_fitting_26 : decode mX8_fitting.2.1 26 = .ok (.iconst 1, 1) := by decide +kernel
theorem dX8_fitting_27 : decode mX8_fitting.2.1 27 = .ok (.iload_n 3, 1) := by decide +kernel
theorem dX8_fitting_28 : decode mX8_fitting.2.1 28 = .ok (.ishl, 1) := by decide +kernel
theorem dX8_fitting_29 : decode mX8_fitting.2.1 29 = .ok (.ior, 1) := by decide +kernel
theorem dX8_fitting_30 : decode mX8_fitting.2.1 30 = .ok (.istore_n 2, 1) := by decide +kernel
theorem dX8_fitting_31 : decode mX8_fitting.2.1 31 = .ok (.iinc 3 1, 3) := by decide +kernel
theorem dX8_fitting_34 : decode mX8_fitting.2.1 34 = .ok (.goto (-30), 3) := by decide +kernel
theorem dX8_fitting_37 : decode mX8_fitting.2.1 37 = .ok (.iload_n 2, 1) := by decide +kernel
theorem dX8_fitting_38 : decode mX8_fitting.2.1 38 = .ok (.ireturn, 1) := by decide +kernel
abbrev mX8_forget : gz_M := (yX8_forget, cX8_forget, 1, none)
theorem dX8_forget_0 : decode mX8_forget.2.1 0 = .ok (.aload_n 0, 1) := by decide +kernel
theorem dX8_forget_1 : decode mX8_forget.2.1 1 = .ok (.iconst 0, 1) := by decide +kernel
theorem dX8_forget_2 : decode mX8_forget.2.1 2 = .ok (.putfield 40, 3) := by decide +kernel
theorem dX8_forget_5 : decode mX8_forget.2.1 5 = .ok (.return_, 1) := by decide +kernel
abbrev mX8_mostAlike : gz_M := (yX8_mostAlike, cX8_mostAlike, 6, some .int)
theorem dX8_mostAlike_0 : decode mX8_mostAlike.2.1 0 = .ok (.aload_n 0, 1) := by decide +kernel
theorem dX8_mostAlike_1 : decode mX8_mostAlike.2.1 1 = .ok (.getfield 26, 3) := by decide +kernel
theorem dX8_mostAlike_4 : decode mX8_mostAlike.2.1 4 = .ok (.iconst 0, 1) := by decide +kernel
theorem dX8_mostAlike_5 : decode mX8_mostAlike.2.1 5 = .ok (.invokestatic 74, 3) := by decide +kernel
theorem dX8_mostAlike_8 : decode mX8_mostAlike.2.1 8 = .ok (.iconst 0, 1) := by decide +kernel
theorem dX8_mostAlike_9 : decode mX8_mostAlike.2.1 9 = .ok (.istore_n 3, 1) := by decide +kernel
theorem dX8_mostAlike_10 : decode mX8_mostAlike.2.1 10 = .ok (.iconst 0, 1) := by decide +kernel
theorem dX8_mostAlike_11 : decode mX8_mostAlike.2.1 11 = .ok (.istore 4, 2) := by decide +kernel
theorem dX8_mostAlike_13 : decode mX8_mostAlike.2.1 13 = .ok (.iload 4, 2) := by decide +kernel
theorem dX8_mostAlike_15 : decode mX8_mostAlike.2.1 15 = .ok (.bipush 16, 2) := by decide +kernel
theorem dX8_mostAlike_17 : decode mX8_mostAlike.2.1 17 = .ok (.if_icmp .ge 55, 3) := by decide +kernel
theorem dX8_mostAlike_20 : decode mX8_mostAlike.2.1 20 = .ok (.iload_n 1, 1) := by decide +kernel
theorem dX8_mostAlike_21 : decode mX8_mostAlike.2.1 21 = .ok (.iload 4, 2) := by decide +kernel
theorem dX8_mostAlike_23 : decode mX8_mostAlike.2.1 23 = .ok (.ishr, 1) := by decide +kernel
theorem dX8_mostAlike_24 : decode mX8_mostAlike.2.1 24 = .ok (.iconst 1, 1) := by decide +kernel
theorem dX8_mostAlike_25 : decode mX8_mostAlike.2.1 25 = .ok (.iand, 1) := by decide +kernel
theorem dX8_mostAlike_26 : decode mX8_mostAlike.2.1 26 = .ok (.ifCond .eq 40, 3) := by decide +kernel
theorem dX8_mostAlike_29 : decode mX8_mostAlike.2.1 29 = .ok (.aload_n 0, 1) := by decide +kernel
theorem dX8_mostAlike_30 : decode mX8_mostAlike.2.1 30 = .ok (.getfield 21, 3) := by decide +kernel
theorem dX8_mostAlike_33 : decode mX8_mostAlike.2.1 33 = .ok (.iload 4, 2) := by decide +kernel
theorem dX8_mostAlike_35 : decode mX8_mostAlike.2.1 35 = .ok (.bipush 31, 2) := by decide +kernel
theorem dX8_mostAlike_37 : decode mX8_mostAlike.2.1 37 = .ok (.imul, 1) := by decide +kernel
theorem dX8_mostAlike_38 : decode mX8_mostAlike.2.1 38 = .ok (.iload_n 2, 1) := by decide +kernel
theorem dX8_mostAlike_39 : decode mX8_mostAlike.2.1 39 = .ok (.iadd, 1) := by decide +kernel
theorem dX8_mostAlike_40 : decode mX8_mostAlike.2.1 40 = .ok (.iaload, 1) := by decide +kernel
theorem dX8_mostAlike_41 : decode mX8_mostAlike.2.1 41 = .ok (.istore 5, 2) := by decide +kernel
theorem dX8_mostAlike_43 : decode mX8_mostAlike.2.1 43 = .ok (.aload_n 0, 1) := by decide +kernel
theorem dX8_mostAlike_44 : decode mX8_mostAlike.2.1 44 = .ok (.getfield 26, 3) := by decide +kernel
theorem dX8_mostAlike_47 : decode mX8_mostAlike.2.1 47 = .ok (.iload 5, 2) := by decide +kernel
theorem dX8_mostAlike_49 : decode mX8_mostAlike.2.1 49 = .ok (.dup2, 1) := by decide +kernel
theorem dX8_mostAlike_50 : decode mX8_mostAlike.2.1 50 = .ok (.iaload, 1) := by decide +kernel
theorem dX8_mostAlike_51 : decode mX8_mostAlike.2.1 51 = .ok (.iconst 1, 1) := by decide +kernel
theorem dX8_mostAlike_52 : decode mX8_mostAlike.2.1 52 = .ok (.iadd, 1) := by decide +kernel
theorem dX8_mostAlike_53 : decode mX8_mostAlike.2.1 53 = .ok (.iastore, 1) := by decide +kernel
theorem dX8_mostAlike_54 : decode mX8_mostAlike.2.1 54 = .ok (.iload_n 3, 1) := by decide +kernel
theorem dX8_mostAlike_55 : decode mX8_mostAlike.2.1 55 = .ok (.aload_n 0, 1) := by decide +kernel
theorem dX8_mostAlike_56 : decode mX8_mostAlike.2.1 56 = .ok (.getfield 26, 3) := by decide +kernel
theorem dX8_mostAlike_59 : decode mX8_mostAlike.2.1 59 = .ok (.iload 5, 2) := by decide +kernel
theorem dX8_mostAlike_61 : decode mX8_mostAlike.2.1 61 = .ok (.iaload, 1) := by decide +kernel
theorem dX8_mostAlike_62 : decode mX8_mostAlike.2.1 62 = .ok (.invokestatic 80, 3) := by decide +kernel
theorem dX8_mostAlike_65 : decode mX8_mostAlike.2.1 65 = .ok (.istore_n 3, 1) := by decide +kernel
theorem dX8_mostAlike_66 : decode mX8_mostAlike.2.1 66 = .ok (.iinc 4 1, 3) := by decide +kernel
theorem dX8_mostAlike_69 : decode mX8_mostAlike.2.1 69 = .ok (.goto (-56), 3) := by decide +kernel
theorem dX8_mostAlike_72 : decode mX8_mostAlike.2.1 72 = .ok (.iload_n 3, 1) := by decide +kernel
theorem dX8_mostAlike_73 : decode mX8_mostAlike.2.1 73 = .ok (.ireturn, 1) := by decide +kernel
abbrev mX8_trace : gz_M := (yX8_trace, cX8_trace, 4, none)
theorem dX8_trace_0 : decode mX8_trace.2.1 0 = .ok (.aload_n 0, 1) := by decide +kernel
theorem dX8_trace_1 : decode mX8_trace.2.1 1 = .ok (.getfield 33, 3) := by decide +kernel
theorem dX8_trace_4 : decode mX8_trace.2.1 4 = .ok (.aload_n 0, 1) := by decide +kernel
theorem dX8_trace_5 : decode mX8_trace.2.1 5 = .ok (.getfield 29, 3) := by decide +kernel
theorem dX8_trace_8 : decode mX8_trace.2.1 8 = .ok (.invokevirtual 52, 3) := by decide +kernel
theorem dX8_trace_11 : decode mX8_trace.2.1 11 = .ok (.iconst 0, 1) := by decide +kernel
theorem dX8_trace_12 : decode mX8_trace.2.1 12 = .ok (.istore_n 3, 1) := by decide +kernel
theorem dX8_trace_13 : decode mX8_trace.2.1 13 = .ok (.iload_n 3, 1) := by decide +kernel
theorem dX8_trace_14 : decode mX8_trace.2.1 14 = .ok (.aload_n 0, 1) := by decide +kernel
theorem dX8_trace_15 : decode mX8_trace.2.1 15 = .ok (.getfield 33, 3) := by decide +kernel
theorem dX8_trace_18 : decode mX8_trace.2.1 18 = .ok (.getfield 56, 3) := by decide +kernel
theorem dX8_trace_21 : decode mX8_trace.2.1 21 = .ok (.bipush 60, 2) := by decide +kernel
theorem dX8_trace_23 : decode mX8_trace.2.1 23 = .ok (.iaload, 1) := by decide +kernel
theorem dX8_trace_24 : decode mX8_trace.2.1 24 = .ok (.if_icmp .ge 31, 3) := by decide +kernel
theorem dX8_trace_27 : decode mX8_trace.2.1 27 = .ok (.aload_n 0, 1) := by decide +kernel
theorem dX8_trace_28 : decode mX8_trace.2.1 28 = .ok (.getfield 33, 3) := by decide +kernel
theorem dX8_trace_31 : decode mX8_trace.2.1 31 = .ok (.getfield 56, 3) := by decide +kernel
theorem dX8_trace_34 : decode mX8_trace.2.1 34 = .ok (.bipush 42, 2) := by decide +kernel
theorem dX8_trace_36 : decode mX8_trace.2.1 36 = .ok (.iload_n 3, 1) := by decide +kernel
theorem dX8_trace_37 : decode mX8_trace.2.1 37 = .ok (.iadd, 1) := by decide +kernel
theorem dX8_trace_38 : decode mX8_trace.2.1 38 = .ok (.iload_n 3, 1) := by decide +kernel
theorem dX8_trace_39 : decode mX8_trace.2.1 39 = .ok (.iload_n 1, 1) := by decide +kernel
theorem dX8_trace_40 : decode mX8_trace.2.1 40 = .ok (.if_icmp .ne 7, 3) := by decide +kernel
theorem dX8_trace_43 : decode mX8_trace.2.1 43 = .ok (.iconst 0, 1) := by decide +kernel
theorem dX8_trace_44 : decode mX8_trace.2.1 44 = .ok (.goto 4, 3) := by decide +kernel
theorem dX8_trace_47 : decode mX8_trace.2.1 47 = .ok (.iconst 2, 1) := by decide +kernel
theorem dX8_trace_48 : decode mX8_trace.2.1 48 = .ok (.iastore, 1) := by decide +kernel
theorem dX8_trace_49 : decode mX8_trace.2.1 49 = .ok (.iinc 3 1, 3) := by decide +kernel
theorem dX8_trace_52 : decode mX8_trace.2.1 52 = .ok (.goto (-39), 3) := by decide +kernel
theorem dX8_trace_55 : decode mX8_trace.2.1 55 = .ok (.aload_n 0, 1) := by decide +kernel
theorem dX8_trace_56 : decode mX8_trace.2.1 56 = .ok (.getfield 33, 3) := by decide +kernel
theorem dX8_trace_59 : decode mX8_trace.2.1 59 = .ok (.getfield 56, 3) := by decide +kernel
theorem dX8_trace_62 : decode mX8_trace.2.1 62 = .ok (.bipush 34, 2) := by decide +kernel
theorem dX8_trace_64 : decode mX8_trace.2.1 64 = .ok (.iload_n 1, 1) := by decide +kernel
theorem dX8_trace_65 : decode mX8_trace.2.1 65 = .ok (.iadd, 1) := by decide +kernel
theorem dX8_trace_66 : decode mX8_trace.2.1 66 = .ok (.iload_n 2, 1) := by decide +kernel
theorem dX8_trace_67 : decode mX8_trace.2.1 67 = .ok (.iconst 4, 1) := by decide +kernel
theorem dX8_trace_68 : decode mX8_trace.2.1 68 = .ok (.irem, 1) := by decide +kernel
theorem dX8_trace_69 : decode mX8_trace.2.1 69 = .ok (.iastore, 1) := by decide +kernel
theorem dX8_trace_70 : decode mX8_trace.2.1 70 = .ok (.aload_n 0, 1) := by decide +kernel
theorem dX8_trace_71 : decode mX8_trace.2.1 71 = .ok (.getfield 33, 3) := by decide +kernel
theorem dX8_trace_74 : decode mX8_trace.2.1 74 = .ok (.getfield 56, 3) := by decide +kernel
theorem dX8_trace_77 : decode mX8_trace.2.1 77 = .ok (.bipush 50, 2) := by decide +kernel
theorem dX8_trace_79 : decode mX8_trace.2.1 79 = .ok (.iload_n 1, 1) := by decide +kernel
theorem dX8_trace_80 : decode mX8_trace.2.1 80 = .ok (.iadd, 1) := by decide +kernel
theorem dX8_trace_81 : decode mX8_trace.2.1 81 = .ok (.iload_n 2, 1) := by decide +kernel
theorem dX8_trace_82 : decode mX8_trace.2.1 82 = .ok (.iconst 4, 1) := by decide +kernel
theorem dX8_trace_83 : decode mX8_trace.2.1 83 = .ok (.idiv, 1) := by decide +kernel
theorem dX8_trace_84 : decode mX8_trace.2.1 84 = .ok (.iconst 1, 1) := by decide +kernel
theorem dX8_trace_85 : decode mX8_trace.2.1 85 = .ok (.iadd, 1) := by decide +kernel
theorem dX8_trace_86 : decode mX8_trace.2.1 86 = .ok (.iastore, 1) := by decide +kernel
theorem dX8_trace_87 : decode mX8_trace.2.1 87 = .ok (.iconst 0, 1) := by decide +kernel
theorem dX8_trace_88 : decode mX8_trace.2.1 88 = .ok (.istore_n 3, 1) := by decide +kernel
theorem dX8_trace_89 : decode mX8_trace.2.1 89 = .ok (.iload_n 3, 1) := by decide +kernel
theorem dX8_trace_90 : decode mX8_trace.2.1 90 = .ok (.bipush 31, 2) := by decide +kernel
theorem dX8_trace_92 : decode mX8_trace.2.1 92 = .ok (.if_icmp .ge 44, 3) := by decide +kernel
theorem dX8_trace_95 : decode mX8_trace.2.1 95 = .ok (.aload_n 0, 1) := by decide +kernel
theorem dX8_trace_96 : decode mX8_trace.2.1 96 = .ok (.getfield 21, 3) := by decide +kernel
theorem dX8_trace_99 : decode mX8_trace.2.1 99 = .ok (.iload_n 2, 1) := by decide +kernel
theorem dX8_trace_100 : decode mX8_trace.2.1 100 = .ok (.bipush 31, 2) := by decide +kernel
theorem dX8_trace_102 : decode mX8_trace.2.1 102 = .ok (.imul, 1) := by decide +kernel
theorem dX8_trace_103 : decode mX8_trace.2.1 103 = .ok (.iload_n 3, 1) := by decide +kernel
theorem dX8_trace_104 : decode mX8_trace.2.1 104 = .ok (.iadd, 1) := by decide +kernel
theorem dX8_trace_105 : decode mX8_trace.2.1 105 = .ok (.aload_n 0, 1) := by decide +kernel
theorem dX8_trace_106 : decode mX8_trace.2.1 106 = .ok (.getfield 33, 3) := by decide +kernel
theorem dX8_trace_109 : decode mX8_trace.2.1 109 = .ok (.getfield 56, 3) := by decide +kernel
theorem dX8_trace_112 : decode mX8_trace.2.1 112 = .ok (.bipush 30, 2) := by decide +kernel
theorem dX8_trace_114 : decode mX8_trace.2.1 114 = .ok (.iload_n 1, 1) := by decide +kernel
theorem dX8_trace_115 : decode mX8_trace.2.1 115 = .ok (.iadd, 1) := by decide +kernel
theorem dX8_trace_116 : decode mX8_trace.2.1 116 = .ok (.iaload, 1) := by decide +kernel
theorem dX8_trace_117 : decode mX8_trace.2.1 117 = .ok (.iastore, 1) := by decide +kernel
theorem dX8_trace_118 : decode mX8_trace.2.1 118 = .ok (.aload_n 0, 1) := by decide +kernel
theorem dX8_trace_119 : decode mX8_trace.2.1 119 = .ok (.getfield 36, 3) := by decide +kernel
theorem dX8_trace_122 : decode mX8_trace.2.1 122 = .ok (.aload_n 0, 1) := by decide +kernel
theorem dX8_trace_123 : decode mX8_trace.2.1 123 = .ok (.getfield 33, 3) := by decide +kernel
theorem dX8_trace_126 : decode mX8_trace.2.1 126 = .ok (.invokevirtual 59, 3) := by decide +kernel
theorem dX8_trace_129 : decode mX8_trace.2.1 129 = .ok (.pop, 1) := by decide +kernel
theorem dX8_trace_130 : decode mX8_trace.2.1 130 = .ok (.iinc 3 1, 3) := by decide +kernel
theorem dX8_trace_133 : decode mX8_trace.2.1 133 = .ok (.goto (-44), 3) := by decide +kernel
theorem dX8_trace_136 : decode mX8_trace.2.1 136 = .ok (.return_, 1) := by decide +kernel
