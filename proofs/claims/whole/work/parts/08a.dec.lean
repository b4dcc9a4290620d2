/-! what stands at each place of the methods -/
theorem dX0_read_0 : decode cX0_read 0 = .ok (.aload_n 1, 1) := by decide +kernel
theorem dX0_read_1 : decode cX0_read 1 = .ok (.invokevirtual 9, 3) := by decide +kernel
theorem dX0_read_4 : decode cX0_read 4 = .ok (.aload_n 0, 1) := by decide +kernel
theorem dX0_read_5 : decode cX0_read 5 = .ok (.invokevirtual 14, 3) := by decide +kernel
theorem dX0_read_8 : decode cX0_read 8 = .ok (.iconst 0, 1) := by decide +kernel
theorem dX0_read_9 : decode cX0_read 9 = .ok (.istore_n 2, 1) := by decide +kernel
theorem dX0_read_10 : decode cX0_read 10 = .ok (.aload_n 0, 1) := by decide +kernel
theorem dX0_read_11 : decode cX0_read 11 = .ok (.invokevirtual 19, 3) := by decide +kernel
theorem dX0_read_14 : decode cX0_read 14 = .ok (.aload_n 0, 1) := by decide +kernel
theorem dX0_read_15 : decode cX0_read 15 = .ok (.getfield 22, 3) := by decide +kernel
theorem dX0_read_18 : decode cX0_read 18 = .ok (.istore_n 3, 1) := by decide +kernel
theorem dX0_read_19 : decode cX0_read 19 = .ok (.aload_n 0, 1) := by decide +kernel
theorem dX0_read_20 : decode cX0_read 20 = .ok (.ldc 28, 2) := by decide +kernel
theorem dX0_read_22 : decode cX0_read 22 = .ok (.invokevirtual 30, 3) := by decide +kernel
theorem dX0_read_25 : decode cX0_read 25 = .ok (.istore 4, 2) := by decide +kernel
theorem dX0_read_27 : decode cX0_read 27 = .ok (.iload 4, 2) := by decide +kernel
theorem dX0_read_29 : decode cX0_read 29 = .ok (.iconst (-1), 1) := by decide +kernel
theorem dX0_read_30 : decode cX0_read 30 = .ok (.if_icmp .ne 12, 3) := by decide +kernel
theorem dX0_read_33 : decode cX0_read 33 = .ok (.aload_n 0, 1) := by decide +kernel
theorem dX0_read_34 : decode cX0_read 34 = .ok (.iload_n 3, 1) := by decide +kernel
theorem dX0_read_35 : decode cX0_read 35 = .ok (.iconst 0, 1) := by decide +kernel
theorem dX0_read_36 : decode cX0_read 36 = .ok (.invokevirtual 34, 3) := by decide +kernel
theorem dX0_read_39 : decode cX0_read 39 = .ok (.goto 34, 3) := by decide +kernel
theorem dX0_read_42 : decode cX0_read 42 = .ok (.iload_n 2, 1) := by decide +kernel
theorem dX0_read_43 : decode cX0_read 43 = .ok (.bipush 40, 2) := by decide +kernel
theorem dX0_read_45 : decode cX0_read 45 = .ok (.if_icmp .eq 12, 3) := by decide +kernel
theorem dX0_read_48 : decode cX0_read 48 = .ok (.aload_n 1, 1) := by decide +kernel
theorem dX0_read_49 : decode cX0_read 49 = .ok (.iload 4, 2) := by decide +kernel
theorem dX0_read_51 : decode cX0_read 51 = .ok (.invokestatic 38, 3) := by decide +kernel
theorem dX0_read_54 : decode cX0_read 54 = .ok (.ifCond .ne 12, 3) := by decide +kernel
theorem dX0_read_57 : decode cX0_read 57 = .ok (.aload_n 0, 1) := by decide +kernel
theorem dX0_read_58 : decode cX0_read 58 = .ok (.iload_n 3, 1) := by decide +kernel
theorem dX0_read_59 : decode cX0_read 59 = .ok (.iconst 4, 1) := by decide +kernel
theorem dX0_read_60 : decode cX0_read 60 = .ok (.invokevirtual 34, 3) := by decide +kernel
theorem dX0_read_63 : decode cX0_read 63 = .ok (.goto 10, 3) := by decide +kernel
theorem dX0_read_66 : decode cX0_read 66 = .ok (.aload_n 0, 1) := by decide +kernel
theorem dX0_read_67 : decode cX0_read 67 = .ok (.aload_n 1, 1) := by decide +kernel
theorem dX0_read_68 : decode cX0_read 68 = .ok (.iload 4, 2) := by decide +kernel
theorem dX0_read_70 : decode cX0_read 70 = .ok (.invokestatic 42, 3) := by decide +kernel
theorem dX0_read_73 : decode cX0_read 73 = .ok (.iinc 2 1, 3) := by decide +kernel
theorem dX0_read_76 : decode cX0_read 76 = .ok (.iload_n 2, 1) := by decide +kernel
theorem dX0_read_77 : decode cX0_read 77 = .ok (.bipush 40, 2) := by decide +kernel
theorem dX0_read_79 : decode cX0_read 79 = .ok (.if_icmp .gt 10, 3) := by decide +kernel
theorem dX0_read_82 : decode cX0_read 82 = .ok (.aload_n 0, 1) := by decide +kernel
theorem dX0_read_83 : decode cX0_read 83 = .ok (.invokevirtual 46, 3) := by decide +kernel
theorem dX0_read_86 : decode cX0_read 86 = .ok (.ifCond .ne (-76), 3) := by decide +kernel
theorem dX0_read_89 : decode cX0_read 89 = .ok (.aload_n 0, 1) := by decide +kernel
theorem dX0_read_90 : decode cX0_read 90 = .ok (.getfield 50, 3) := by decide +kernel
theorem dX0_read_93 : decode cX0_read 93 = .ok (.ifCond .ne 7, 3) := by decide +kernel
theorem dX0_read_96 : decode cX0_read 96 = .ok (.iconst 1, 1) := by decide +kernel
theorem dX0_read_97 : decode cX0_read 97 = .ok (.goto 4, 3) := by decide +kernel
theorem dX0_read_100 : decode cX0_read 100 = .ok (.iconst 0, 1) := by decide +kernel
theorem dX0_read_101 : decode cX0_read 101 = .ok (.ireturn, 1) := by decide +kernel
theorem dX0_mayCome_0 : decode cX0_mayCome 0 = .ok (.iload_n 1, 1) := by decide +kernel
theorem dX0_mayCome_1 : decode cX0_mayCome 1 = .ok (.ifCond .eq 10, 3) := by decide +kernel
theorem dX0_mayCome_4 : decode cX0_mayCome 4 = .ok (.aload_n 0, 1) := by decide +kernel
theorem dX0_mayCome_5 : decode cX0_mayCome 5 = .ok (.getfield 53, 3) := by decide +kernel
theorem dX0_mayCome_8 : decode cX0_mayCome 8 = .ok (.ifCond .ne 20, 3) := by decide +kernel
theorem dX0_mayCome_11 : decode cX0_mayCome 11 = .ok (.iload_n 1, 1) := by decide +kernel
theorem dX0_mayCome_12 : decode cX0_mayCome 12 = .ok (.ifCond .ne 14, 3) := by decide +kernel
theorem dX0_mayCome_15 : decode cX0_mayCome 15 = .ok (.aload_n 0, 1) := by decide +kernel
theorem dX0_mayCome_16 : decode cX0_mayCome 16 = .ok (.getfield 53, 3) := by decide +kernel
theorem dX0_mayCome_19 : decode cX0_mayCome 19 = .ok (.ifCond .ne 7, 3) := by decide +kernel
theorem dX0_mayCome_22 : decode cX0_mayCome 22 = .ok (.iconst 1, 1) := by decide +kernel
theorem dX0_mayCome_23 : decode cX0_mayCome 23 = .ok (.goto 4, 3) := by decide +kernel
theorem dX0_mayCome_26 : decode cX0_mayCome 26 = .ok (.iconst 0, 1) := by decide +kernel
theorem dX0_mayCome_27 : decode cX0_mayCome 27 = .ok (.ireturn, 1) := by decide +kernel
theorem dX0_mayCome_28 : decode cX0_mayCome 28 = .ok (.iload_n 1, 1) := by decide +kernel
theorem dX0_mayCome_29 : decode cX0_mayCome 29 = .ok (.iconst 1, 1) := by decide +kernel
theorem dX0_mayCome_30 : decode cX0_mayCome 30 = .ok (.if_icmp .ne 18, 3) := by decide +kernel
theorem dX0_mayCome_33 : decode cX0_mayCome 33 = .ok (.aload_n 0, 1) := by decide +kernel
theorem dX0_mayCome_34 : decode cX0_mayCome 34 = .ok (.getfield 56, 3) := by decide +kernel
theorem dX0_mayCome_37 : decode cX0_mayCome 37 = .ok (.bipush 6, 2) := by decide +kernel
theorem dX0_mayCome_39 : decode cX0_mayCome 39 = .ok (.if_icmp .ge 7, 3) := by decide +kernel
theorem dX0_mayCome_42 : decode cX0_mayCome 42 = .ok (.iconst 1, 1) := by decide +kernel
theorem dX0_mayCome_43 : decode cX0_mayCome 43 = .ok (.goto 4, 3) := by decide +kernel
theorem dX0_mayCome_46 : decode cX0_mayCome 46 = .ok (.iconst 0, 1) := by decide +kernel
theorem dX0_mayCome_47 : decode cX0_mayCome 47 = .ok (.ireturn, 1) := by decide +kernel
theorem dX0_mayCome_48 : decode cX0_mayCome 48 = .ok (.iload_n 1, 1) := by decide +kernel
theorem dX0_mayCome_49 : decode cX0_mayCome 49 = .ok (.iconst 2, 1) := by decide +kernel
theorem dX0_mayCome_50 : decode cX0_mayCome 50 = .ok (.if_icmp .ne 19, 3) := by decide +kernel
theorem dX0_mayCome_53 : decode cX0_mayCome 53 = .ok (.aload_n 0, 1) := by decide +kernel
theorem dX0_mayCome_54 : decode cX0_mayCome 54 = .ok (.getfield 59, 3) := by decide +kernel
theorem dX0_mayCome_57 : decode cX0_mayCome 57 = .ok (.iconst 3, 1) := by decide +kernel
theorem dX0_mayCome_58 : decode cX0_mayCome 58 = .ok (.if_icmp .ge 7, 3) := by decide +kernel
theorem dX0_mayCome_61 : decode cX0_mayCome 61 = .ok (.iconst 1, 1) := by decide +kernel
theorem dX0_mayCome_62 : decode cX0_mayCome 62 = .ok (.goto 21, 3) := by decide +kernel
theorem dX0_mayCome_65 : decode cX0_mayCome 65 = .ok (.iconst 0, 1) := by decide +kernel
theorem dX0_mayCome_66 : decode cX0_mayCome 66 = .ok (.goto 17, 3) := by decide +kernel
theorem dX0_mayCome_69 : decode cX0_mayCome 69 = .ok (.aload_n 0, 1) := by decide +kernel
theorem dX0_mayCome_70 : decode cX0_mayCome 70 = .ok (.getfield 62, 3) := by decide +kernel
theorem dX0_mayCome_73 : decode cX0_mayCome 73 = .ok (.bipush 8, 2) := by decide +kernel
theorem dX0_mayCome_75 : decode cX0_mayCome 75 = .ok (.if_icmp .ge 7, 3) := by decide +kernel
theorem dX0_mayCome_78 : decode cX0_mayCome 78 = .ok (.iconst 1, 1) := by decide +kernel
theorem dX0_mayCome_79 : decode cX0_mayCome 79 = .ok (.goto 4, 3) := by decide +kernel
theorem dX0_mayCome_82 : decode cX0_mayCome 82 = .ok (.iconst 0, 1) := by decide +kernel
theorem dX0_mayCome_83 : decode cX0_mayCome 83 = .ok (.ireturn, 1) := by decide +kernel
theorem dX0_readClause_0 : decode cX0_readClause 0 = .ok (.iload_n 2, 1) := by decide +kernel
theorem dX0_readClause_1 : decode cX0_readClause 1 = .ok (.ifCond .ne 17, 3) := by decide +kernel
theorem dX0_readClause_4 : decode cX0_readClause 4 = .ok (.aload_n 1, 1) := by decide +kernel
theorem dX0_readClause_5 : decode cX0_readClause 5 = .ok (.aload_n 0, 1) := by decide +kernel
theorem dX0_readClause_6 : decode cX0_readClause 6 = .ok (.iconst 2, 1) := by decide +kernel
theorem dX0_readClause_7 : decode cX0_readClause 7 = .ok (.bipush 30, 2) := by decide +kernel
theorem dX0_readClause_9 : decode cX0_readClause 9 = .ok (.invokevirtual 65, 3) := by decide +kernel
theorem dX0_readClause_12 : decode cX0_readClause 12 = .ok (.putfield 53, 3) := by decide +kernel
theorem dX0_readClause_15 : decode cX0_readClause 15 = .ok (.goto 127, 3) := by decide +kernel
theorem dX0_readClause_18 : decode cX0_readClause 18 = .ok (.iload_n 2, 1) := by decide +kernel
theorem dX0_readClause_19 : decode cX0_readClause 19 = .ok (.iconst 1, 1) := by decide +kernel
theorem dX0_readClause_20 : decode cX0_readClause 20 = .ok (.if_icmp .ne 34, 3) := by decide +kernel
theorem dX0_readClause_23 : decode cX0_readClause 23 = .ok (.aload_n 0, 1) := by decide +kernel
theorem dX0_readClause_24 : decode cX0_readClause 24 = .ok (.iconst 0, 1) := by decide +kernel
theorem dX0_readClause_25 : decode cX0_readClause 25 = .ok (.aload_n 1, 1) := by decide +kernel
theorem dX0_readClause_26 : decode cX0_readClause 26 = .ok (.getfield 53, 3) := by decide +kernel
theorem dX0_readClause_29 : decode cX0_readClause 29 = .ok (.iconst 1, 1) := by decide +kernel
theorem dX0_readClause_30 : decode cX0_readClause 30 = .ok (.isub, 1) := by decide +kernel
theorem dX0_readClause_31 : decode cX0_readClause 31 = .ok (.invokevirtual 65, 3) := by decide +kernel
theorem dX0_readClause_34 : decode cX0_readClause 34 = .ok (.istore_n 3, 1) := by decide +kernel
theorem dX0_readClause_35 : decode cX0_readClause 35 = .ok (.aload_n 0, 1) := by decide +kernel
theorem dX0_readClause_36 : decode cX0_readClause 36 = .ok (.iconst 0, 1) := by decide +kernel
theorem dX0_readClause_37 : decode cX0_readClause 37 = .ok (.bipush 50, 2) := by decide +kernel
theorem dX0_readClause_39 : decode cX0_readClause 39 = .ok (.invokevirtual 65, 3) := by decide +kernel
theorem dX0_readClause_42 : decode cX0_readClause 42 = .ok (.istore 4, 2) := by decide +kernel
theorem dX0_readClause_44 : decode cX0_readClause 44 = .ok (.aload_n 1, 1) := by decide +kernel
theorem dX0_readClause_45 : decode cX0_readClause 45 = .ok (.iload_n 3, 1) := by decide +kernel
theorem dX0_readClause_46 : decode cX0_readClause 46 = .ok (.iload 4, 2) := by decide +kernel
theorem dX0_readClause_48 : decode cX0_readClause 48 = .ok (.invokevirtual 69, 3) := by decide +kernel
theorem dX0_readClause_51 : decode cX0_readClause 51 = .ok (.goto 91, 3) := by decide +kernel
theorem dX0_readClause_54 : decode cX0_readClause 54 = .ok (.iload_n 2, 1) := by decide +kernel
theorem dX0_readClause_55 : decode cX0_readClause 55 = .ok (.iconst 2, 1) := by decide +kernel
theorem dX0_readClause_56 : decode cX0_readClause 56 = .ok (.if_icmp .ne 45, 3) := by decide +kernel
theorem dX0_readClause_59 : decode cX0_readClause 59 = .ok (.aload_n 0, 1) := by decide +kernel
theorem dX0_readClause_60 : decode cX0_readClause 60 = .ok (.iconst 0, 1) := by decide +kernel
theorem dX0_readClause_61 : decode cX0_readClause 61 = .ok (.aload_n 1, 1) := by decide +kernel
theorem dX0_readClause_62 : decode cX0_readClause 62 = .ok (.getfield 53, 3) := by decide +kernel
theorem dX0_readClause_65 : decode cX0_readClause 65 = .ok (.iconst 1, 1) := by decide +kernel
theorem dX0_readClause_66 : decode cX0_readClause 66 = .ok (.isub, 1) := by decide +kernel
theorem dX0_readClause_67 : decode cX0_readClause 67 = .ok (.invokevirtual 65, 3) := by decide +kernel
theorem dX0_readClause_70 : decode cX0_readClause 70 = .ok (.istore_n 3, 1) := by decide +kernel
theorem dX0_readClause_71 : decode cX0_readClause 71 = .ok (.aload_n 0, 1) := by decide +kernel
theorem dX0_readClause_72 : decode cX0_readClause 72 = .ok (.iconst 1, 1) := by decide +kernel
theorem dX0_readClause_73 : decode cX0_readClause 73 = .ok (.bipush 9, 2) := by decide +kernel
theorem dX0_readClause_75 : decode cX0_readClause 75 = .ok (.invokevirtual 65, 3) := by decide +kernel
theorem dX0_readClause_78 : decode cX0_readClause 78 = .ok (.istore 4, 2) := by decide +kernel
theorem dX0_readClause_80 : decode cX0_readClause 80 = .ok (.aload_n 0, 1) := by decide +kernel
theorem dX0_readClause_81 : decode cX0_readClause 81 = .ok (.iconst 1, 1) := by decide +kernel
theorem dX0_readClause_82 : decode cX0_readClause 82 = .ok (.bipush 9, 2) := by decide +kernel
theorem dX0_readClause_84 : decode cX0_readClause 84 = .ok (.invokevirtual 65, 3) := by decide +kernel
theorem dX0_readClause_87 : decode cX0_readClause 87 = .ok (.istore 5, 2) := by decide +kernel
theorem dX0_readClause_89 : decode cX0_readClause 89 = .ok (.aload_n 1, 1) := by decide +kernel
theorem dX0_readClause_90 : decode cX0_readClause 90 = .ok (.iload_n 3, 1) := by decide +kernel
theorem dX0_readClause_91 : decode cX0_readClause 91 = .ok (.iload 4, 2) := by decide +kernel
theorem dX0_readClause_93 : decode cX0_readClause 93 = .ok (.iload 5, 2) := by decide +kernel
theorem dX0_readClause_95 : decode cX0_readClause 95 = .ok (.invokevirtual 72, 3) := by decide +kernel
theorem dX0_readClause_98 : decode cX0_readClause 98 = .ok (.goto 44, 3) := by decide +kernel
theorem dX0_readClause_101 : decode cX0_readClause 101 = .ok (.aload_n 0, 1) := by decide +kernel
theorem dX0_readClause_102 : decode cX0_readClause 102 = .ok (.iconst 0, 1) := by decide +kernel
theorem dX0_readClause_103 : decode cX0_readClause 103 = .ok (.aload_n 1, 1) := by decide +kernel
theorem dX0_readClause_104 : decode cX0_readClause 104 = .ok (.getfield 56, 3) := by decide +kernel
theorem dX0_readClause_107 : decode cX0_readClause 107 = .ok (.iconst 1, 1) := by decide +kernel
theorem dX0_readClause_108 : decode cX0_readClause 108 = .ok (.isub, 1) := by decide +kernel
theorem dX0_readClause_109 : decode cX0_readClause 109 = .ok (.invokevirtual 65, 3) := by decide +kernel
theorem dX0_readClause_112 : decode cX0_readClause 112 = .ok (.istore_n 3, 1) := by decide +kernel
theorem dX0_readClause_113 : decode cX0_readClause 113 = .ok (.aload_n 0, 1) := by decide +kernel
theorem dX0_readClause_114 : decode cX0_readClause 114 = .ok (.iconst 1, 1) := by decide +kernel
theorem dX0_readClause_115 : decode cX0_readClause 115 = .ok (.bipush 30, 2) := by decide +kernel
theorem dX0_readClause_117 : decode cX0_readClause 117 = .ok (.invokevirtual 65, 3) := by decide +kernel
theorem dX0_readClause_120 : decode cX0_readClause 120 = .ok (.istore 4, 2) := by decide +kernel
theorem dX0_readClause_122 : decode cX0_readClause 122 = .ok (.aload_n 0, 1) := by decide +kernel
theorem dX0_readClause_123 : decode cX0_readClause 123 = .ok (.iconst 0, 1) := by decide +kernel
theorem dX0_readClause_124 : decode cX0_readClause 124 = .ok (.iload 4, 2) := by decide +kernel
theorem dX0_readClause_126 : decode cX0_readClause 126 = .ok (.iconst 1, 1) := by decide +kernel
theorem dX0_readClause_127 : decode cX0_readClause 127 = .ok (.isub, 1) := by decide +kernel
theorem dX0_readClause_128 : decode cX0_readClause 128 = .ok (.invokevirtual 65, 3) := by decide +kernel
theorem dX0_readClause_131 : decode cX0_readClause 131 = .ok (.istore 5, 2) := by decide +kernel
theorem dX0_readClause_133 : decode cX0_readClause 133 = .ok (.aload_n 1, 1) := by decide +kernel
theorem dX0_readClause_134 : decode cX0_readClause 134 = .ok (.iload_n 3, 1) := by decide +kernel
theorem dX0_readClause_135 : decode cX0_readClause 135 = .ok (.iload 4, 2) := by decide +kernel
theorem dX0_readClause_137 : decode cX0_readClause 137 = .ok (.iload 5, 2) := by decide +kernel
theorem dX0_readClause_139 : decode cX0_readClause 139 = .ok (.invokevirtual 76, 3) := by decide +kernel
theorem dX0_readClause_142 : decode cX0_readClause 142 = .ok (.return_, 1) := by decide +kernel
theorem dX1_clear_0 : decode cX1_clear 0 = .ok (.aload_n 0, 1) := by decide +kernel
theorem dX1_clear_1 : decode cX1_clear 1 = .ok (.iconst 0, 1) := by decide +kernel
theorem dX1_clear_2 : decode cX1_clear 2 = .ok (.putfield 19, 3) := by decide +kernel
theorem dX1_clear_5 : decode cX1_clear 5 = .ok (.aload_n 0, 1) := by decide +kernel
theorem dX1_clear_6 : decode cX1_clear 6 = .ok (.iconst 0, 1) := by decide +kernel
theorem dX1_clear_7 : decode cX1_clear 7 = .ok (.putfield 23, 3) := by decide +kernel
theorem dX1_clear_10 : decode cX1_clear 10 = .ok (.return_, 1) := by decide +kernel
theorem dX1_add_0 : decode cX1_add 0 = .ok (.aload_n 0, 1) := by decide +kernel
theorem dX1_add_1 : decode cX1_add 1 = .ok (.getfield 19, 3) := by decide +kernel
theorem dX1_add_4 : decode cX1_add 4 = .ok (.aload_n 0, 1) := by decide +kernel
theorem dX1_add_5 : decode cX1_add 5 = .ok (.getfield 11, 3) := by decide +kernel
theorem dX1_add_8 : decode cX1_add 8 = .ok (.arraylength, 1) := by decide +kernel
theorem dX1_add_9 : decode cX1_add 9 = .ok (.if_icmp .ge 23, 3) := by decide +kernel
theorem dX1_add_12 : decode cX1_add 12 = .ok (.aload_n 0, 1) := by decide +kernel
theorem dX1_add_13 : decode cX1_add 13 = .ok (.getfield 11, 3) := by decide +kernel
theorem dX1_add_16 : decode cX1_add 16 = .ok (.aload_n 0, 1) := by decide +kernel
theorem dX1_add_17 : decode cX1_add 17 = .ok (.getfield 19, 3) := by decide +kernel
theorem dX1_add_20 : decode cX1_add 20 = .ok (.iload_n 1, 1) := by decide +kernel
theorem dX1_add_21 : decode cX1_add 21 = .ok (.iastore, 1) := by decide +kernel
theorem dX1_add_22 : decode cX1_add 22 = .ok (.aload_n 0, 1) := by decide +kernel
theorem dX1_add_23 : decode cX1_add 23 = .ok (.dup, 1) := by decide +kernel
theorem dX1_add_24 : decode cX1_add 24 = .ok (.getfield 19, 3) := by decide +kernel
theorem dX1_add_27 : decode cX1_add 27 = .ok (.iconst 1, 1) := by decide +kernel
theorem dX1_add_28 : decode cX1_add 28 = .ok (.iadd, 1) := by decide +kernel
theorem dX1_add_29 : decode cX1_add 29 = .ok (.putfield 19, 3) := by decide +kernel
theorem dX1_add_32 : decode cX1_add 32 = .ok (.return_, 1) := by decide +kernel
theorem dX1_valueFor_0 : decode cX1_valueFor 0 = .ok (.iconst 0, 1) := by decide +kernel
theorem dX1_valueFor_1 : decode cX1_valueFor 1 = .ok (.istore 5, 2) := by decide +kernel
theorem dX1_valueFor_3 : decode cX1_valueFor 3 = .ok (.iconst 0, 1) := by decide +kernel
theorem dX1_valueFor_4 : decode cX1_valueFor 4 = .ok (.istore 6, 2) := by decide +kernel
theorem dX1_valueFor_6 : decode cX1_valueFor 6 = .ok (.iload 6, 2) := by decide +kernel
theorem dX1_valueFor_8 : decode cX1_valueFor 8 = .ok (.aload_n 0, 1) := by decide +kernel
theorem dX1_valueFor_9 : decode cX1_valueFor 9 = .ok (.getfield 19, 3) := by decide +kernel
theorem dX1_valueFor_12 : decode cX1_valueFor 12 = .ok (.if_icmp .ge 230, 3) := by decide +kernel
theorem dX1_valueFor_15 : decode cX1_valueFor 15 = .ok (.iload 6, 2) := by decide +kernel
theorem dX1_valueFor_17 : decode cX1_valueFor 17 = .ok (.aload_n 0, 1) := by decide +kernel
theorem dX1_valueFor_18 : decode cX1_valueFor 18 = .ok (.getfield 11, 3) := by decide +kernel
theorem dX1_valueFor_21 : decode cX1_valueFor 21 = .ok (.arraylength, 1) := by decide +kernel
theorem dX1_valueFor_22 : decode cX1_valueFor 22 = .ok (.if_icmp .ge 220, 3) := by decide +kernel
theorem dX1_valueFor_25 : decode cX1_valueFor 25 = .ok (.aload_n 0, 1) := by decide +kernel
theorem dX1_valueFor_26 : decode cX1_valueFor 26 = .ok (.getfield 11, 3) := by decide +kernel
theorem dX1_valueFor_29 : decode cX1_valueFor 29 = .ok (.iload 6, 2) := by decide +kernel
theorem dX1_valueFor_31 : decode cX1_valueFor 31 = .ok (.iaload, 1) := by decide +kernel
theorem dX1_valueFor_32 : decode cX1_valueFor 32 = .ok (.istore 7, 2) := by decide +kernel
theorem dX1_valueFor_34 : decode cX1_valueFor 34 = .ok (.iload 7, 2) := by decide +kernel
theorem dX1_valueFor_36 : decode cX1_valueFor 36 = .ok (.ldc 26, 2) := by decide +kernel
theorem dX1_valueFor_38 : decode cX1_valueFor 38 = .ok (.if_icmp .ge 51, 3) := by decide +kernel
theorem dX1_valueFor_41 : decode cX1_valueFor 41 = .ok (.iload 5, 2) := by decide +kernel
theorem dX1_valueFor_43 : decode cX1_valueFor 43 = .ok (.bipush 64, 2) := by decide +kernel
theorem dX1_valueFor_45 : decode cX1_valueFor 45 = .ok (.if_icmp .lt 5, 3) := by decide +kernel
theorem dX1_valueFor_48 : decode cX1_valueFor 48 = .ok (.lconst 0, 1) := by decide +kernel
theorem dX1_valueFor_49 : decode cX1_valueFor 49 = .ok (.lreturn, 1) := by decide +kernel
theorem dX1_valueFor_50 : decode cX1_valueFor 50 = .ok (.aload_n 0, 1) := by decide +kernel
theorem dX1_valueFor_51 : decode cX1_valueFor 51 = .ok (.getfield 15, 3) := by decide +kernel
theorem dX1_valueFor_54 : decode cX1_valueFor 54 = .ok (.iload 5, 2) := by decide +kernel
theorem dX1_valueFor_56 : decode cX1_valueFor 56 = .ok (.iload 7, 2) := by decide +kernel
theorem dX1_valueFor_58 : decode cX1_valueFor 58 = .ok (.ldc 27, 2) := by decide +kernel
theorem dX1_valueFor_60 : decode cX1_valueFor 60 = .ok (.if_icmp .ge 9, 3) := by decide +kernel
theorem dX1_valueFor_63 : decode cX1_valueFor 63 = .ok (.iload 7, 2) := by decide +kernel
theorem dX1_valueFor_65 : decode cX1_valueFor 65 = .ok (.i2l, 1) := by decide +kernel
theorem dX1_valueFor_66 : decode cX1_valueFor 66 = .ok (.goto 16, 3) := by decide +kernel
theorem dX1_valueFor_69 : decode cX1_valueFor 69 = .ok (.aload_n 2, 1) := by decide +kernel
theorem dX1_valueFor_70 : decode cX1_valueFor 70 = .ok (.aload_n 1, 1) := by decide +kernel
theorem dX1_valueFor_71 : decode cX1_valueFor 71 = .ok (.iload 7, 2) := by decide +kernel
theorem dX1_valueFor_73 : decode cX1_valueFor 73 = .ok (.ldc 27, 2) := by decide +kernel
theorem dX1_valueFor_75 : decode cX1_valueFor 75 = .ok (.isub, 1) := by decide +kernel
theorem dX1_valueFor_76 : decode cX1_valueFor 76 = .ok (.iload_n 3, 1) := by decide +kernel
theorem dX1_valueFor_77 : decode cX1_valueFor 77 = .ok (.iload 4, 2) := by decide +kernel
theorem dX1_valueFor_79 : decode cX1_valueFor 79 = .ok (.invokevirtual 28, 3) := by decide +kernel
theorem dX1_valueFor_82 : decode cX1_valueFor 82 = .ok (.lastore, 1) := by decide +kernel
theorem dX1_valueFor_83 : decode cX1_valueFor 83 = .ok (.iinc 5 1, 3) := by decide +kernel
theorem dX1_valueFor_86 : decode cX1_valueFor 86 = .ok (.goto 150, 3) := by decide +kernel
theorem dX1_valueFor_89 : decode cX1_valueFor 89 = .ok (.iload 7, 2) := by decide +kernel
theorem dX1_valueFor_91 : decode cX1_valueFor 91 = .ok (.ldc 34, 2) := by decide +kernel
theorem dX1_valueFor_93 : decode cX1_valueFor 93 = .ok (.if_icmp .ne 22, 3) := by decide +kernel
theorem dX1_valueFor_96 : decode cX1_valueFor 96 = .ok (.iload 5, 2) := by decide +kernel
theorem dX1_valueFor_98 : decode cX1_valueFor 98 = .ok (.ifCond .le 15, 3) := by decide +kernel
theorem dX1_valueFor_101 : decode cX1_valueFor 101 = .ok (.aload_n 0, 1) := by decide +kernel
theorem dX1_valueFor_102 : decode cX1_valueFor 102 = .ok (.getfield 15, 3) := by decide +kernel
theorem dX1_valueFor_105 : decode cX1_valueFor 105 = .ok (.iload 5, 2) := by decide +kernel
theorem dX1_valueFor_107 : decode cX1_valueFor 107 = .ok (.iconst 1, 1) := by decide +kernel
theorem dX1_valueFor_108 : decode cX1_valueFor 108 = .ok (.isub, 1) := by decide +kernel
theorem dX1_valueFor_109 : decode cX1_valueFor 109 = .ok (.laload, 1) := by decide +kernel
theorem dX1_valueFor_110 : decode cX1_valueFor 110 = .ok (.goto 4, 3) := by decide +kernel
theorem dX1_valueFor_113 : decode cX1_valueFor 113 = .ok (.lconst 0, 1) := by decide +kernel
theorem dX1_valueFor_114 : decode cX1_valueFor 114 = .ok (.lreturn, 1) := by decide +kernel
theorem dX1_valueFor_115 : decode cX1_valueFor 115 = .ok (.iload 7, 2) := by decide +kernel
theorem dX1_valueFor_117 : decode cX1_valueFor 117 = .ok (.ldc 35, 2) := by decide +kernel
theorem dX1_valueFor_119 : decode cX1_valueFor 119 = .ok (.if_icmp .ne 39, 3) := by decide +kernel
theorem dX1_valueFor_122 : decode cX1_valueFor 122 = .ok (.iload 5, 2) := by decide +kernel
theorem dX1_valueFor_124 : decode cX1_valueFor 124 = .ok (.ifCond .le 112, 3) := by decide +kernel
theorem dX1_valueFor_127 : decode cX1_valueFor 127 = .ok (.aload_n 0, 1) := by decide +kernel
theorem dX1_valueFor_128 : decode cX1_valueFor 128 = .ok (.getfield 15, 3) := by decide +kernel
theorem dX1_valueFor_131 : decode cX1_valueFor 131 = .ok (.iload 5, 2) := by decide +kernel
theorem dX1_valueFor_133 : decode cX1_valueFor 133 = .ok (.iconst 1, 1) := by decide +kernel
theorem dX1_valueFor_134 : decode cX1_valueFor 134 = .ok (.isub, 1) := by decide +kernel
theorem dX1_valueFor_135 : decode cX1_valueFor 135 = .ok (.aload_n 0, 1) := by decide +kernel
theorem dX1_valueFor_136 : decode cX1_valueFor 136 = .ok (.getfield 15, 3) := by decide +kernel
theorem dX1_valueFor_139 : decode cX1_valueFor 139 = .ok (.iload 5, 2) := by decide +kernel
theorem dX1_valueFor_141 : decode cX1_valueFor 141 = .ok (.iconst 1, 1) := by decide +kernel
theorem dX1_valueFor_142 : decode cX1_valueFor 142 = .ok (.isub, 1) := by decide +kernel
theorem dX1_valueFor_143 : decode cX1_valueFor 143 = .ok (.laload, 1) := by decide +kernel
theorem dX1_valueFor_144 : decode cX1_valueFor 144 = .ok (.lconst 0, 1) := by decide +kernel
theorem dX1_valueFor_145 : decode cX1_valueFor 145 = .ok (.lcmp, 1) := by decide +kernel
theorem dX1_valueFor_146 : decode cX1_valueFor 146 = .ok (.ifCond .ne 7, 3) := by decide +kernel
theorem dX1_valueFor_149 : decode cX1_valueFor 149 = .ok (.lconst 1, 1) := by decide +kernel
theorem dX1_valueFor_150 : decode cX1_valueFor 150 = .ok (.goto 4, 3) := by decide +kernel
theorem dX1_valueFor_153 : decode cX1_valueFor 153 = .ok (.lconst 0, 1) := by decide +kernel
theorem dX1_valueFor_154 : decode cX1_valueFor 154 = .ok (.lastore, 1) := by decide +kernel
theorem dX1_valueFor_155 : decode cX1_valueFor 155 = .ok (.goto 81, 3) := by decide +kernel
theorem dX1_valueFor_158 : decode cX1_valueFor 158 = .ok (.iload 5, 2) := by decide +kernel
theorem dX1_valueFor_160 : decode cX1_valueFor 160 = .ok (.iconst 2, 1) := by decide +kernel
theorem dX1_valueFor_161 : decode cX1_valueFor 161 = .ok (.if_icmp .ge 5, 3) := by decide +kernel
theorem dX1_valueFor_164 : decode cX1_valueFor 164 = .ok (.lconst 0, 1) := by decide +kernel
theorem dX1_valueFor_165 : decode cX1_valueFor 165 = .ok (.lreturn, 1) := by decide +kernel
theorem dX1_valueFor_166 : decode cX1_valueFor 166 = .ok (.iload 7, 2) := by decide +kernel
theorem dX1_valueFor_168 : decode cX1_valueFor 168 = .ok (.ldc 36, 2) := by decide +kernel
theorem dX1_valueFor_170 : decode cX1_valueFor 170 = .ok (.if_icmp .ne 33, 3) := by decide +kernel
theorem dX1_valueFor_173 : decode cX1_valueFor 173 = .ok (.aload_n 0, 1) := by decide +kernel
theorem dX1_valueFor_174 : decode cX1_valueFor 174 = .ok (.getfield 15, 3) := by decide +kernel
theorem dX1_valueFor_177 : decode cX1_valueFor 177 = .ok (.iload 5, 2) := by decide +kernel
theorem dX1_valueFor_179 : decode cX1_valueFor 179 = .ok (.iconst 1, 1) := by decide +kernel
theorem dX1_valueFor_180 : decode cX1_valueFor 180 = .ok (.isub, 1) := by decide +kernel
theorem dX1_valueFor_181 : decode cX1_valueFor 181 = .ok (.laload, 1) := by decide +kernel
theorem dX1_valueFor_182 : decode cX1_valueFor 182 = .ok (.lconst 0, 1) := by decide +kernel
theorem dX1_valueFor_183 : decode cX1_valueFor 183 = .ok (.lcmp, 1) := by decide +kernel
theorem dX1_valueFor_184 : decode cX1_valueFor 184 = .ok (.ifCond .eq 13, 3) := by decide +kernel
theorem dX1_valueFor_187 : decode cX1_valueFor 187 = .ok (.aload_n 0, 1) := by decide +kernel
theorem dX1_valueFor_188 : decode cX1_valueFor 188 = .ok (.getfield 15, 3) := by decide +kernel
theorem dX1_valueFor_191 : decode cX1_valueFor 191 = .ok (.iload 5, 2) := by decide +kernel
theorem dX1_valueFor_193 : decode cX1_valueFor 193 = .ok (.iconst 2, 1) := by decide +kernel
theorem dX1_valueFor_194 : decode cX1_valueFor 194 = .ok (.isub, 1) := by decide +kernel
theorem dX1_valueFor_195 : decode cX1_valueFor 195 = .ok (.laload, 1) := by decide +kernel
theorem dX1_valueFor_196 : decode cX1_valueFor 196 = .ok (.lreturn, 1) := by decide +kernel
theorem dX1_valueFor_197 : decode cX1_valueFor 197 = .ok (.iinc 5 (-2), 3) := by decide +kernel
theorem dX1_valueFor_200 : decode cX1_valueFor 200 = .ok (.goto 36, 3) := by decide +kernel
theorem dX1_valueFor_203 : decode cX1_valueFor 203 = .ok (.iinc 5 (-1), 3) := by decide +kernel
theorem dX1_valueFor_206 : decode cX1_valueFor 206 = .ok (.aload_n 0, 1) := by decide +kernel
theorem dX1_valueFor_207 : decode cX1_valueFor 207 = .ok (.getfield 15, 3) := by decide +kernel
theorem dX1_valueFor_210 : decode cX1_valueFor 210 = .ok (.iload 5, 2) := by decide +kernel
theorem dX1_valueFor_212 : decode cX1_valueFor 212 = .ok (.iconst 1, 1) := by decide +kernel
theorem dX1_valueFor_213 : decode cX1_valueFor 213 = .ok (.isub, 1) := by decide +kernel
theorem dX1_valueFor_214 : decode cX1_valueFor 214 = .ok (.iload 7, 2) := by decide +kernel
theorem dX1_valueFor_216 : decode cX1_valueFor 216 = .ok (.aload_n 0, 1) := by decide +kernel
theorem dX1_valueFor_217 : decode cX1_valueFor 217 = .ok (.getfield 15, 3) := by decide +kernel
theorem dX1_valueFor_220 : decode cX1_valueFor 220 = .ok (.iload 5, 2) := by decide +kernel
theorem dX1_valueFor_222 : decode cX1_valueFor 222 = .ok (.iconst 1, 1) := by decide +kernel
theorem dX1_valueFor_223 : decode cX1_valueFor 223 = .ok (.isub, 1) := by decide +kernel
theorem dX1_valueFor_224 : decode cX1_valueFor 224 = .ok (.laload, 1) := by decide +kernel
theorem dX1_valueFor_225 : decode cX1_valueFor 225 = .ok (.aload_n 0, 1) := by decide +kernel
theorem dX1_valueFor_226 : decode cX1_valueFor 226 = .ok (.getfield 15, 3) := by decide +kernel
theorem dX1_valueFor_229 : decode cX1_valueFor 229 = .ok (.iload 5, 2) := by decide +kernel
theorem dX1_valueFor_231 : decode cX1_valueFor 231 = .ok (.laload, 1) := by decide +kernel
theorem dX1_valueFor_232 : decode cX1_valueFor 232 = .ok (.invokestatic 37, 3) := by decide +kernel
theorem dX1_valueFor_235 : decode cX1_valueFor 235 = .ok (.lastore, 1) := by decide +kernel
theorem dX1_valueFor_236 : decode cX1_valueFor 236 = .ok (.iinc 6 1, 3) := by decide +kernel
theorem dX1_valueFor_239 : decode cX1_valueFor 239 = .ok (.goto (-233), 3) := by decide +kernel
theorem dX1_valueFor_242 : decode cX1_valueFor 242 = .ok (.lconst 0, 1) := by decide +kernel
theorem dX1_valueFor_243 : decode cX1_valueFor 243 = .ok (.lreturn, 1) := by decide +kernel
theorem dX1_joined_0 : decode cX1_joined 0 = .ok (.iload_n 0, 1) := by decide +kernel
theorem dX1_joined_1 : decode cX1_joined 1 = .ok (.tableswitch 177 200000 200010 #[59, 63, 67, 71, 85, 99, 111, 123, 135, 147, 159], 59) := by decide +kernel
theorem dX1_joined_60 : decode cX1_joined 60 = .ok (.lload_n 1, 1) := by decide +kernel
theorem dX1_joined_61 : decode cX1_joined 61 = .ok (.lload_n 3, 1) := by decide +kernel
theorem dX1_joined_62 : decode cX1_joined 62 = .ok (.ladd, 1) := by decide +kernel
theorem dX1_joined_63 : decode cX1_joined 63 = .ok (.lreturn, 1) := by decide +kernel
theorem dX1_joined_64 : decode cX1_joined 64 = .ok (.lload_n 1, 1) := by decide +kernel
theorem dX1_joined_65 : decode cX1_joined 65 = .ok (.lload_n 3, 1) := by decide +kernel
theorem dX1_joined_66 : decode cX1_joined 66 = .ok (.lsub, 1) := by decide +kernel
theorem dX1_joined_67 : decode cX1_joined 67 = .ok (.lreturn, 1) := by decide +kernel
theorem dX1_joined_68 : decode cX1_joined 68 = .ok (.lload_n 1, 1) := by decide +kernel
theorem dX1_joined_69 : decode cX1_joined 69 = .ok (.lload_n 3, 1) := by decide +kernel
theorem dX1_joined_70 : decode cX1_joined 70 = .ok (.lmul, 1) := by decide +kernel
theorem dX1_joined_71 : decode cX1_joined 71 = .ok (.lreturn, 1) := by decide +kernel
theorem dX1_joined_72 : decode cX1_joined 72 = .ok (.lload_n 3, 1) := by decide +kernel
theorem dX1_joined_73 : decode cX1_joined 73 = .ok (.lconst 0, 1) := by decide +kernel
theorem dX1_joined_74 : decode cX1_joined 74 = .ok (.lcmp, 1) := by decide +kernel
theorem dX1_joined_75 : decode cX1_joined 75 = .ok (.ifCond .ne 7, 3) := by decide +kernel
theorem dX1_joined_78 : decode cX1_joined 78 = .ok (.lconst 0, 1) := by decide +kernel
theorem dX1_joined_79 : decode cX1_joined 79 = .ok (.goto 6, 3) := by decide +kernel
theorem dX1_joined_82 : decode cX1_joined 82 = .ok (.lload_n 1, 1) := by decide +kernel
theorem dX1_joined_83 : decode cX1_joined 83 = .ok (.lload_n 3, 1) := by decide +kernel
theorem dX1_joined_84 : decode cX1_joined 84 = .ok (.ldiv, 1) := by decide +kernel
theorem dX1_joined_85 : decode cX1_joined 85 = .ok (.lreturn, 1) := by decide +kernel
theorem dX1_joined_86 : decode cX1_joined 86 = .ok (.lload_n 3, 1) := by decide +kernel
theorem dX1_joined_87 : decode cX1_joined 87 = .ok (.lconst 0, 1) := by decide +kernel
theorem dX1_joined_88 : decode cX1_joined 88 = .ok (.lcmp, 1) := by decide +kernel
theorem dX1_joined_89 : decode cX1_joined 89 = .ok (.ifCond .ne 7, 3) := by decide +kernel
theorem dX1_joined_92 : decode cX1_joined 92 = .ok (.lconst 0, 1) := by decide +kernel
theorem dX1_joined_93 : decode cX1_joined 93 = .ok (.goto 6, 3) := by decide +kernel
theorem dX1_joined_96 : decode cX1_joined 96 = .ok (.lload_n 1, 1) := by decide +kernel
theorem dX1_joined_97 : decode cX1_joined 97 = .ok (.lload_n 3, 1) := by decide +kernel
theorem dX1_joined_98 : decode cX1_joined 98 = .ok (.lrem, 1) := by decide +kernel
theorem dX1_joined_99 : decode cX1_joined 99 = .ok (.lreturn, 1) := by decide +kernel
theorem dX1_joined_100 : decode cX1_joined 100 = .ok (.lload_n 1, 1) := by decide +kernel
theorem dX1_joined_101 : decode cX1_joined 101 = .ok (.lload_n 3, 1) := by decide +kernel
theorem dX1_joined_102 : decode cX1_joined 102 = .ok (.lcmp, 1) := by decide +kernel
theorem dX1_joined_103 : decode cX1_joined 103 = .ok (.ifCond .ge 7, 3) := by decide +kernel
theorem dX1_joined_106 : decode cX1_joined 106 = .ok (.lconst 1, 1) := by decide +kernel
theorem dX1_joined_107 : decode cX1_joined 107 = .ok (.goto 4, 3) := by decide +kernel
theorem dX1_joined_110 : decode cX1_joined 110 = .ok (.lconst 0, 1) := by decide +kernel
theorem dX1_joined_111 : decode cX1_joined 111 = .ok (.lreturn, 1) := by decide +kernel
theorem dX1_joined_112 : decode cX1_joined 112 = .ok (.lload_n 1, 1) := by decide +kernel
theorem dX1_joined_113 : decode cX1_joined 113 = .ok (.lload_n 3, 1) := by decide +kernel
theorem dX1_joined_114 : decode cX1_joined 114 = .ok (.lcmp, 1) := by decide +kernel
theorem dX1_joined_115 : decode cX1_joined 115 = .ok (.ifCond .gt 7, 3) := by decide +kernel
theorem dX1_joined_118 : decode cX1_joined 118 = .ok (.lconst 1, 1) := by decide +kernel
theorem dX1_joined_119 : decode cX1_joined 119 = .ok (.goto 4, 3) := by decide +kernel
theorem dX1_joined_122 : decode cX1_joined 122 = .ok (.lconst 0, 1) := by decide +kernel
theorem dX1_joined_123 : decode cX1_joined 123 = .ok (.lreturn, 1) := by decide +kernel
theorem dX1_joined_124 : decode cX1_joined 124 = .ok (.lload_n 1, 1) := by decide +kernel
theorem dX1_joined_125 : decode cX1_joined 125 = .ok (.lload_n 3, 1) := by decide +kernel
theorem dX1_joined_126 : decode cX1_joined 126 = .ok (.lcmp, 1) := by decide +kernel
theorem dX1_joined_127 : decode cX1_joined 127 = .ok (.ifCond .ne 7, 3) := by decide +kernel
theorem dX1_joined_130 : decode cX1_joined 130 = .ok (.lconst 1, 1) := by decide +kernel
theorem dX1_joined_131 : decode cX1_joined 131 = .ok (.goto 4, 3) := by decide +kernel
theorem dX1_joined_134 : decode cX1_joined 134 = .ok (.lconst 0, 1) := by decide +kernel
theorem dX1_joined_135 : decode cX1_joined 135 = .ok (.lreturn, 1) := by decide +kernel
theorem dX1_joined_136 : decode cX1_joined 136 = .ok (.lload_n 1, 1) := by decide +kernel
theorem dX1_joined_137 : decode cX1_joined 137 = .ok (.lload_n 3, 1) := by decide +kernel
theorem dX1_joined_138 : decode cX1_joined 138 = .ok (.lcmp, 1) := by decide +kernel
theorem dX1_joined_139 : decode cX1_joined 139 = .ok (.ifCond .lt 7, 3) := by decide +kernel
theorem dX1_joined_142 : decode cX1_joined 142 = .ok (.lconst 1, 1) := by decide +kernel
theorem dX1_joined_143 : decode cX1_joined 143 = .ok (.goto 4, 3) := by decide +kernel
theorem dX1_joined_146 : decode cX1_joined 146 = .ok (.lconst 0, 1) := by decide +kernel
theorem dX1_joined_147 : decode cX1_joined 147 = .ok (.lreturn, 1) := by decide +kernel
theorem dX1_joined_148 : decode cX1_joined 148 = .ok (.lload_n 1, 1) := by decide +kernel
theorem dX1_joined_149 : decode cX1_joined 149 = .ok (.lload_n 3, 1) := by decide +kernel
theorem dX1_joined_150 : decode cX1_joined 150 = .ok (.lcmp, 1) := by decide +kernel
theorem dX1_joined_151 : decode cX1_joined 151 = .ok (.ifCond .le 7, 3) := by decide +kernel
theorem dX1_joined_154 : decode cX1_joined 154 = .ok (.lconst 1, 1) := by decide +kernel
theorem dX1_joined_155 : decode cX1_joined 155 = .ok (.goto 4, 3) := by decide +kernel
theorem dX1_joined_158 : decode cX1_joined 158 = .ok (.lconst 0, 1) := by decide +kernel
theorem dX1_joined_159 : decode cX1_joined 159 = .ok (.lreturn, 1) := by decide +kernel
theorem dX1_joined_160 : decode cX1_joined 160 = .ok (.lload_n 1, 1) := by decide +kernel
theorem dX1_joined_161 : decode cX1_joined 161 = .ok (.lconst 0, 1) := by decide +kernel
theorem dX1_joined_162 : decode cX1_joined 162 = .ok (.lcmp, 1) := by decide +kernel
theorem dX1_joined_163 : decode cX1_joined 163 = .ok (.ifCond .eq 13, 3) := by decide +kernel
theorem dX1_joined_166 : decode cX1_joined 166 = .ok (.lload_n 3, 1) := by decide +kernel
theorem dX1_joined_167 : decode cX1_joined 167 = .ok (.lconst 0, 1) := by decide +kernel
theorem dX1_joined_168 : decode cX1_joined 168 = .ok (.lcmp, 1) := by decide +kernel
theorem dX1_joined_169 : decode cX1_joined 169 = .ok (.ifCond .eq 7, 3) := by decide +kernel
theorem dX1_joined_172 : decode cX1_joined 172 = .ok (.lconst 1, 1) := by decide +kernel
theorem dX1_joined_173 : decode cX1_joined 173 = .ok (.goto 4, 3) := by decide +kernel
theorem dX1_joined_176 : decode cX1_joined 176 = .ok (.lconst 0, 1) := by decide +kernel
theorem dX1_joined_177 : decode cX1_joined 177 = .ok (.lreturn, 1) := by decide +kernel
theorem dX1_joined_178 : decode cX1_joined 178 = .ok (.lload_n 1, 1) := by decide +kernel
theorem dX1_joined_179 : decode cX1_joined 179 = .ok (.lconst 0, 1) := by decide +kernel
theorem dX1_joined_180 : decode cX1_joined 180 = .ok (.lcmp, 1) := by decide +kernel
theorem dX1_joined_181 : decode cX1_joined 181 = .ok (.ifCond .ne 9, 3) := by decide +kernel
theorem dX1_joined_184 : decode cX1_joined 184 = .ok (.lload_n 3, 1) := by decide +kernel
theorem dX1_joined_185 : decode cX1_joined 185 = .ok (.lconst 0, 1) := by decide +kernel
theorem dX1_joined_186 : decode cX1_joined 186 = .ok (.lcmp, 1) := by decide +kernel
theorem dX1_joined_187 : decode cX1_joined 187 = .ok (.ifCond .eq 7, 3) := by decide +kernel
theorem dX1_joined_190 : decode cX1_joined 190 = .ok (.lconst 1, 1) := by decide +kernel
theorem dX1_joined_191 : decode cX1_joined 191 = .ok (.goto 4, 3) := by decide +kernel
theorem dX1_joined_194 : decode cX1_joined 194 = .ok (.lconst 0, 1) := by decide +kernel
theorem dX1_joined_195 : decode cX1_joined 195 = .ok (.lreturn, 1) := by decide +kernel
theorem dX2_read_0 : decode cX2_read 0 = .ok (.aload_n 1, 1) := by decide +kernel
theorem dX2_read_1 : decode cX2_read 1 = .ok (.invokevirtual 9, 3) := by decide +kernel
theorem dX2_read_4 : decode cX2_read 4 = .ok (.aload_n 0, 1) := by decide +kernel
theorem dX2_read_5 : decode cX2_read 5 = .ok (.invokevirtual 14, 3) := by decide +kernel
theorem dX2_read_8 : decode cX2_read 8 = .ok (.iconst 0, 1) := by decide +kernel
theorem dX2_read_9 : decode cX2_read 9 = .ok (.istore_n 2, 1) := by decide +kernel
theorem dX2_read_10 : decode cX2_read 10 = .ok (.aload_n 0, 1) := by decide +kernel
theorem dX2_read_11 : decode cX2_read 11 = .ok (.invokevirtual 19, 3) := by decide +kernel
theorem dX2_read_14 : decode cX2_read 14 = .ok (.aload_n 0, 1) := by decide +kernel
theorem dX2_read_15 : decode cX2_read 15 = .ok (.getfield 22, 3) := by decide +kernel
theorem dX2_read_18 : decode cX2_read 18 = .ok (.istore_n 3, 1) := by decide +kernel
theorem dX2_read_19 : decode cX2_read 19 = .ok (.aload_n 0, 1) := by decide +kernel
theorem dX2_read_20 : decode cX2_read 20 = .ok (.ldc 26, 2) := by decide +kernel
theorem dX2_read_22 : decode cX2_read 22 = .ok (.invokevirtual 28, 3) := by decide +kernel
theorem dX2_read_25 : decode cX2_read 25 = .ok (.iconst (-1), 1) := by decide +kernel
theorem dX2_read_26 : decode cX2_read 26 = .ok (.if_icmp .ne 12, 3) := by decide +kernel
theorem dX2_read_29 : decode cX2_read 29 = .ok (.aload_n 0, 1) := by decide +kernel
theorem dX2_read_30 : decode cX2_read 30 = .ok (.iload_n 3, 1) := by decide +kernel
theorem dX2_read_31 : decode cX2_read 31 = .ok (.iconst 0, 1) := by decide +kernel
theorem dX2_read_32 : decode cX2_read 32 = .ok (.invokevirtual 32, 3) := by decide +kernel
theorem dX2_read_35 : decode cX2_read 35 = .ok (.goto 61, 3) := by decide +kernel
theorem dX2_read_38 : decode cX2_read 38 = .ok (.iload_n 2, 1) := by decide +kernel
theorem dX2_read_39 : decode cX2_read 39 = .ok (.bipush 12, 2) := by decide +kernel
theorem dX2_read_41 : decode cX2_read 41 = .ok (.if_icmp .ne 12, 3) := by decide +kernel
theorem dX2_read_44 : decode cX2_read 44 = .ok (.aload_n 0, 1) := by decide +kernel
theorem dX2_read_45 : decode cX2_read 45 = .ok (.iload_n 3, 1) := by decide +kernel
theorem dX2_read_46 : decode cX2_read 46 = .ok (.iconst 4, 1) := by decide +kernel
theorem dX2_read_47 : decode cX2_read 47 = .ok (.invokevirtual 32, 3) := by decide +kernel
theorem dX2_read_50 : decode cX2_read 50 = .ok (.goto 46, 3) := by decide +kernel
theorem dX2_read_53 : decode cX2_read 53 = .ok (.aload_n 0, 1) := by decide +kernel
theorem dX2_read_54 : decode cX2_read 54 = .ok (.aload_n 1, 1) := by decide +kernel
theorem dX2_read_55 : decode cX2_read 55 = .ok (.invokestatic 38, 3) := by decide +kernel
theorem dX2_read_58 : decode cX2_read 58 = .ok (.aload_n 0, 1) := by decide +kernel
theorem dX2_read_59 : decode cX2_read 59 = .ok (.getfield 42, 3) := by decide +kernel
theorem dX2_read_62 : decode cX2_read 62 = .ok (.ifCond .ne 28, 3) := by decide +kernel
theorem dX2_read_65 : decode cX2_read 65 = .ok (.aload_n 0, 1) := by decide +kernel
theorem dX2_read_66 : decode cX2_read 66 = .ok (.ldc 45, 2) := by decide +kernel
theorem dX2_read_68 : decode cX2_read 68 = .ok (.invokevirtual 28, 3) := by decide +kernel
theorem dX2_read_71 : decode cX2_read 71 = .ok (.iconst (-1), 1) := by decide +kernel
theorem dX2_read_72 : decode cX2_read 72 = .ok (.if_icmp .eq 18, 3) := by decide +kernel
theorem dX2_read_75 : decode cX2_read 75 = .ok (.aload_n 0, 1) := by decide +kernel
theorem dX2_read_76 : decode cX2_read 76 = .ok (.aload_n 1, 1) := by decide +kernel
theorem dX2_read_77 : decode cX2_read 77 = .ok (.iconst 0, 1) := by decide +kernel
theorem dX2_read_78 : decode cX2_read 78 = .ok (.invokestatic 47, 3) := by decide +kernel
theorem dX2_read_81 : decode cX2_read 81 = .ok (.aload_n 1, 1) := by decide +kernel
theorem dX2_read_82 : decode cX2_read 82 = .ok (.ldc 51, 2) := by decide +kernel
theorem dX2_read_84 : decode cX2_read 84 = .ok (.invokevirtual 52, 3) := by decide +kernel
theorem dX2_read_87 : decode cX2_read 87 = .ok (.goto 9, 3) := by decide +kernel
theorem dX2_read_90 : decode cX2_read 90 = .ok (.aload_n 1, 1) := by decide +kernel
theorem dX2_read_91 : decode cX2_read 91 = .ok (.ldc 56, 2) := by decide +kernel
theorem dX2_read_93 : decode cX2_read 93 = .ok (.invokevirtual 52, 3) := by decide +kernel
theorem dX2_read_96 : decode cX2_read 96 = .ok (.iinc 2 1, 3) := by decide +kernel
theorem dX2_read_99 : decode cX2_read 99 = .ok (.iload_n 2, 1) := by decide +kernel
theorem dX2_read_100 : decode cX2_read 100 = .ok (.bipush 12, 2) := by decide +kernel
theorem dX2_read_102 : decode cX2_read 102 = .ok (.if_icmp .gt 10, 3) := by decide +kernel
theorem dX2_read_105 : decode cX2_read 105 = .ok (.aload_n 0, 1) := by decide +kernel
theorem dX2_read_106 : decode cX2_read 106 = .ok (.invokevirtual 57, 3) := by decide +kernel
theorem dX2_read_109 : decode cX2_read 109 = .ok (.ifCond .ne (-99), 3) := by decide +kernel
theorem dX2_read_112 : decode cX2_read 112 = .ok (.aload_n 0, 1) := by decide +kernel
theorem dX2_read_113 : decode cX2_read 113 = .ok (.getfield 42, 3) := by decide +kernel
theorem dX2_read_116 : decode cX2_read 116 = .ok (.ifCond .ne 7, 3) := by decide +kernel
theorem dX2_read_119 : decode cX2_read 119 = .ok (.iconst 1, 1) := by decide +kernel
theorem dX2_read_120 : decode cX2_read 120 = .ok (.goto 4, 3) := by decide +kernel
theorem dX2_read_123 : decode cX2_read 123 = .ok (.iconst 0, 1) := by decide +kernel
theorem dX2_read_124 : decode cX2_read 124 = .ok (.ireturn, 1) := by decide +kernel
theorem dX2_readTest_0 : decode cX2_readTest 0 = .ok (.aload_n 0, 1) := by decide +kernel
theorem dX2_readTest_1 : decode cX2_readTest 1 = .ok (.aload_n 1, 1) := by decide +kernel
theorem dX2_readTest_2 : decode cX2_readTest 2 = .ok (.iload_n 2, 1) := by decide +kernel
theorem dX2_readTest_3 : decode cX2_readTest 3 = .ok (.invokestatic 61, 3) := by decide +kernel
theorem dX2_readTest_6 : decode cX2_readTest 6 = .ok (.iconst 0, 1) := by decide +kernel
theorem dX2_readTest_7 : decode cX2_readTest 7 = .ok (.istore_n 3, 1) := by decide +kernel
theorem dX2_readTest_8 : decode cX2_readTest 8 = .ok (.iconst 0, 1) := by decide +kernel
theorem dX2_readTest_9 : decode cX2_readTest 9 = .ok (.istore 4, 2) := by decide +kernel
theorem dX2_readTest_11 : decode cX2_readTest 11 = .ok (.iload 4, 2) := by decide +kernel
theorem dX2_readTest_13 : decode cX2_readTest 13 = .ok (.sipush 400, 3) := by decide +kernel
theorem dX2_readTest_16 : decode cX2_readTest 16 = .ok (.if_icmp .ge 82, 3) := by decide +kernel
theorem dX2_readTest_19 : decode cX2_readTest 19 = .ok (.aload_n 0, 1) := by decide +kernel
theorem dX2_readTest_20 : decode cX2_readTest 20 = .ok (.getfield 42, 3) := by decide +kernel
theorem dX2_readTest_23 : decode cX2_readTest 23 = .ok (.ifCond .ne 75, 3) := by decide +kernel
theorem dX2_readTest_26 : decode cX2_readTest 26 = .ok (.aload_n 0, 1) := by decide +kernel
theorem dX2_readTest_27 : decode cX2_readTest 27 = .ok (.ldc 64, 2) := by decide +kernel
theorem dX2_readTest_29 : decode cX2_readTest 29 = .ok (.invokevirtual 28, 3) := by decide +kernel
theorem dX2_readTest_32 : decode cX2_readTest 32 = .ok (.istore 5, 2) := by decide +kernel
theorem dX2_readTest_34 : decode cX2_readTest 34 = .ok (.iload 5, 2) := by decide +kernel
theorem dX2_readTest_36 : decode cX2_readTest 36 = .ok (.iconst (-1), 1) := by decide +kernel
theorem dX2_readTest_37 : decode cX2_readTest 37 = .ok (.if_icmp .ne 6, 3) := by decide +kernel
theorem dX2_readTest_40 : decode cX2_readTest 40 = .ok (.goto 58, 3) := by decide +kernel
theorem dX2_readTest_43 : decode cX2_readTest 43 = .ok (.iload 5, 2) := by decide +kernel
theorem dX2_readTest_45 : decode cX2_readTest 45 = .ok (.iconst 1, 1) := by decide +kernel
theorem dX2_readTest_46 : decode cX2_readTest 46 = .ok (.if_icmp .ne 13, 3) := by decide +kernel
theorem dX2_readTest_49 : decode cX2_readTest 49 = .ok (.iload_n 3, 1) := by decide +kernel
theorem dX2_readTest_50 : decode cX2_readTest 50 = .ok (.ifCond .eq 9, 3) := by decide +kernel
theorem dX2_readTest_53 : decode cX2_readTest 53 = .ok (.aload_n 1, 1) := by decide +kernel
theorem dX2_readTest_54 : decode cX2_readTest 54 = .ok (.ldc 66, 2) := by decide +kernel
theorem dX2_readTest_56 : decode cX2_readTest 56 = .ok (.invokevirtual 52, 3) := by decide +kernel
theorem dX2_readTest_59 : decode cX2_readTest 59 = .ok (.iload_n 3, 1) := by decide +kernel
theorem dX2_readTest_60 : decode cX2_readTest 60 = .ok (.ifCond .ne 9, 3) := by decide +kernel
theorem dX2_readTest_63 : decode cX2_readTest 63 = .ok (.iload 5, 2) := by decide +kernel
theorem dX2_readTest_65 : decode cX2_readTest 65 = .ok (.iconst 1, 1) := by decide +kernel
theorem dX2_readTest_66 : decode cX2_readTest 66 = .ok (.if_icmp .ne 7, 3) := by decide +kernel
theorem dX2_readTest_69 : decode cX2_readTest 69 = .ok (.iconst 1, 1) := by decide +kernel
theorem dX2_readTest_70 : decode cX2_readTest 70 = .ok (.goto 4, 3) := by decide +kernel
theorem dX2_readTest_73 : decode cX2_readTest 73 = .ok (.iconst 0, 1) := by decide +kernel
theorem dX2_readTest_74 : decode cX2_readTest 74 = .ok (.istore_n 3, 1) := by decide +kernel
theorem dX2_readTest_75 : decode cX2_readTest 75 = .ok (.aload_n 0, 1) := by decide +kernel
theorem dX2_readTest_76 : decode cX2_readTest 76 = .ok (.aload_n 1, 1) := by decide +kernel
theorem dX2_readTest_77 : decode cX2_readTest 77 = .ok (.iload_n 2, 1) := by decide +kernel
theorem dX2_readTest_78 : decode cX2_readTest 78 = .ok (.invokestatic 61, 3) := by decide +kernel
theorem dX2_readTest_81 : decode cX2_readTest 81 = .ok (.iload 5, 2) := by decide +kernel
theorem dX2_readTest_83 : decode cX2_readTest 83 = .ok (.ifCond .ne 9, 3) := by decide +kernel
theorem dX2_readTest_86 : decode cX2_readTest 86 = .ok (.aload_n 1, 1) := by decide +kernel
theorem dX2_readTest_87 : decode cX2_readTest 87 = .ok (.ldc 67, 2) := by decide +kernel
theorem dX2_readTest_89 : decode cX2_readTest 89 = .ok (.invokevirtual 52, 3) := by decide +kernel
theorem dX2_readTest_92 : decode cX2_readTest 92 = .ok (.iinc 4 1, 3) := by decide +kernel
theorem dX2_readTest_95 : decode cX2_readTest 95 = .ok (.goto (-84), 3) := by decide +kernel
theorem dX2_readTest_98 : decode cX2_readTest 98 = .ok (.iload_n 3, 1) := by decide +kernel
theorem dX2_readTest_99 : decode cX2_readTest 99 = .ok (.ifCond .eq 9, 3) := by decide +kernel
theorem dX2_readTest_102 : decode cX2_readTest 102 = .ok (.aload_n 1, 1) := by decide +kernel
theorem dX2_readTest_103 : decode cX2_readTest 103 = .ok (.ldc 66, 2) := by decide +kernel
theorem dX2_readTest_105 : decode cX2_readTest 105 = .ok (.invokevirtual 52, 3) := by decide +kernel
theorem dX2_readTest_108 : decode cX2_readTest 108 = .ok (.return_, 1) := by decide +kernel
theorem dX2_readFact_0 : decode cX2_readFact 0 = .ok (.aload_n 0, 1) := by decide +kernel
theorem dX2_readFact_1 : decode cX2_readFact 1 = .ok (.invokevirtual 19, 3) := by decide +kernel
theorem dX2_readFact_4 : decode cX2_readFact 4 = .ok (.aload_n 0, 1) := by decide +kernel
theorem dX2_readFact_5 : decode cX2_readFact 5 = .ok (.getfield 22, 3) := by decide +kernel
theorem dX2_readFact_8 : decode cX2_readFact 8 = .ok (.istore_n 3, 1) := by decide +kernel
theorem dX2_readFact_9 : decode cX2_readFact 9 = .ok (.aload_n 0, 1) := by decide +kernel
theorem dX2_readFact_10 : decode cX2_readFact 10 = .ok (.ldc 68, 2) := by decide +kernel
theorem dX2_readFact_12 : decode cX2_readFact 12 = .ok (.invokevirtual 70, 3) := by decide +kernel
theorem dX2_readFact_15 : decode cX2_readFact 15 = .ok (.ifCond .ne 7, 3) := by decide +kernel
theorem dX2_readFact_18 : decode cX2_readFact 18 = .ok (.iconst 1, 1) := by decide +kernel
theorem dX2_readFact_19 : decode cX2_readFact 19 = .ok (.goto 4, 3) := by decide +kernel
theorem dX2_readFact_22 : decode cX2_readFact 22 = .ok (.iconst 0, 1) := by decide +kernel
theorem dX2_readFact_23 : decode cX2_readFact 23 = .ok (.istore 4, 2) := by decide +kernel
theorem dX2_readFact_25 : decode cX2_readFact 25 = .ok (.iload 4, 2) := by decide +kernel
theorem dX2_readFact_27 : decode cX2_readFact 27 = .ok (.ifCond .ne 16, 3) := by decide +kernel
theorem dX2_readFact_30 : decode cX2_readFact 30 = .ok (.aload_n 0, 1) := by decide +kernel
theorem dX2_readFact_31 : decode cX2_readFact 31 = .ok (.ldc 73, 2) := by decide +kernel
theorem dX2_readFact_33 : decode cX2_readFact 33 = .ok (.invokevirtual 28, 3) := by decide +kernel
theorem dX2_readFact_36 : decode cX2_readFact 36 = .ok (.ifCond .ne 7, 3) := by decide +kernel
theorem dX2_readFact_39 : decode cX2_readFact 39 = .ok (.iconst 1, 1) := by decide +kernel
theorem dX2_readFact_40 : decode cX2_readFact 40 = .ok (.goto 4, 3) := by decide +kernel
theorem dX2_readFact_43 : decode cX2_readFact 43 = .ok (.iconst 0, 1) := by decide +kernel
theorem dX2_readFact_44 : decode cX2_readFact 44 = .ok (.istore 5, 2) := by decide +kernel
theorem dX2_readFact_46 : decode cX2_readFact 46 = .ok (.iload 4, 2) := by decide +kernel
theorem dX2_readFact_48 : decode cX2_readFact 48 = .ok (.ifCond .ne 8, 3) := by decide +kernel
theorem dX2_readFact_51 : decode cX2_readFact 51 = .ok (.iload 5, 2) := by decide +kernel
theorem dX2_readFact_53 : decode cX2_readFact 53 = .ok (.ifCond .eq 18, 3) := by decide +kernel
theorem dX2_readFact_56 : decode cX2_readFact 56 = .ok (.iload_n 2, 1) := by decide +kernel
theorem dX2_readFact_57 : decode cX2_readFact 57 = .ok (.bipush 10, 2) := by decide +kernel
theorem dX2_readFact_59 : decode cX2_readFact 59 = .ok (.if_icmp .lt 12, 3) := by decide +kernel
theorem dX2_readFact_62 : decode cX2_readFact 62 = .ok (.aload_n 0, 1) := by decide +kernel
theorem dX2_readFact_63 : decode cX2_readFact 63 = .ok (.iload_n 3, 1) := by decide +kernel
theorem dX2_readFact_64 : decode cX2_readFact 64 = .ok (.iconst 2, 1) := by decide +kernel
theorem dX2_readFact_65 : decode cX2_readFact 65 = .ok (.invokevirtual 32, 3) := by decide +kernel
theorem dX2_readFact_68 : decode cX2_readFact 68 = .ok (.goto 83, 3) := by decide +kernel
theorem dX2_readFact_71 : decode cX2_readFact 71 = .ok (.iload 4, 2) := by decide +kernel
theorem dX2_readFact_73 : decode cX2_readFact 73 = .ok (.ifCond .eq 33, 3) := by decide +kernel
theorem dX2_readFact_76 : decode cX2_readFact 76 = .ok (.aload_n 0, 1) := by decide +kernel
theorem dX2_readFact_77 : decode cX2_readFact 77 = .ok (.aload_n 1, 1) := by decide +kernel
theorem dX2_readFact_78 : decode cX2_readFact 78 = .ok (.iload_n 2, 1) := by decide +kernel
theorem dX2_readFact_79 : decode cX2_readFact 79 = .ok (.iconst 1, 1) := by decide +kernel
theorem dX2_readFact_80 : decode cX2_readFact 80 = .ok (.iadd, 1) := by decide +kernel
theorem dX2_readFact_81 : decode cX2_readFact 81 = .ok (.invokestatic 47, 3) := by decide +kernel
theorem dX2_readFact_84 : decode cX2_readFact 84 = .ok (.aload_n 0, 1) := by decide +kernel
theorem dX2_readFact_85 : decode cX2_readFact 85 = .ok (.ldc 75, 2) := by decide +kernel
theorem dX2_readFact_87 : decode cX2_readFact 87 = .ok (.invokevirtual 70, 3) := by decide +kernel
theorem dX2_readFact_90 : decode cX2_readFact 90 = .ok (.iconst (-1), 1) := by decide +kernel
theorem dX2_readFact_91 : decode cX2_readFact 91 = .ok (.if_icmp .ne 60, 3) := by decide +kernel
theorem dX2_readFact_94 : decode cX2_readFact 94 = .ok (.aload_n 0, 1) := by decide +kernel
theorem dX2_readFact_95 : decode cX2_readFact 95 = .ok (.aload_n 0, 1) := by decide +kernel
theorem dX2_readFact_96 : decode cX2_readFact 96 = .ok (.getfield 22, 3) := by decide +kernel
theorem dX2_readFact_99 : decode cX2_readFact 99 = .ok (.iconst 0, 1) := by decide +kernel
theorem dX2_readFact_100 : decode cX2_readFact 100 = .ok (.invokevirtual 32, 3) := by decide +kernel
theorem dX2_readFact_103 : decode cX2_readFact 103 = .ok (.goto 48, 3) := by decide +kernel
theorem dX2_readFact_106 : decode cX2_readFact 106 = .ok (.iload 5, 2) := by decide +kernel
theorem dX2_readFact_108 : decode cX2_readFact 108 = .ok (.ifCond .eq 20, 3) := by decide +kernel
theorem dX2_readFact_111 : decode cX2_readFact 111 = .ok (.aload_n 0, 1) := by decide +kernel
theorem dX2_readFact_112 : decode cX2_readFact 112 = .ok (.aload_n 1, 1) := by decide +kernel
theorem dX2_readFact_113 : decode cX2_readFact 113 = .ok (.iload_n 2, 1) := by decide +kernel
theorem dX2_readFact_114 : decode cX2_readFact 114 = .ok (.iconst 1, 1) := by decide +kernel
theorem dX2_readFact_115 : decode cX2_readFact 115 = .ok (.iadd, 1) := by decide +kernel
theorem dX2_readFact_116 : decode cX2_readFact 116 = .ok (.invokestatic 61, 3) := by decide +kernel
theorem dX2_readFact_119 : decode cX2_readFact 119 = .ok (.aload_n 1, 1) := by decide +kernel
theorem dX2_readFact_120 : decode cX2_readFact 120 = .ok (.ldc 77, 2) := by decide +kernel
theorem dX2_readFact_122 : decode cX2_readFact 122 = .ok (.invokevirtual 52, 3) := by decide +kernel
theorem dX2_readFact_125 : decode cX2_readFact 125 = .ok (.goto 26, 3) := by decide +kernel
theorem dX2_readFact_128 : decode cX2_readFact 128 = .ok (.aload_n 0, 1) := by decide +kernel
theorem dX2_readFact_129 : decode cX2_readFact 129 = .ok (.aload_n 1, 1) := by decide +kernel
theorem dX2_readFact_130 : decode cX2_readFact 130 = .ok (.invokestatic 38, 3) := by decide +kernel
theorem dX2_readFact_133 : decode cX2_readFact 133 = .ok (.aload_n 0, 1) := by decide +kernel
theorem dX2_readFact_134 : decode cX2_readFact 134 = .ok (.aload_n 1, 1) := by decide +kernel
theorem dX2_readFact_135 : decode cX2_readFact 135 = .ok (.invokestatic 78, 3) := by decide +kernel
theorem dX2_readFact_138 : decode cX2_readFact 138 = .ok (.istore 6, 2) := by decide +kernel
theorem dX2_readFact_140 : decode cX2_readFact 140 = .ok (.aload_n 0, 1) := by decide +kernel
theorem dX2_readFact_141 : decode cX2_readFact 141 = .ok (.aload_n 1, 1) := by decide +kernel
theorem dX2_readFact_142 : decode cX2_readFact 142 = .ok (.invokestatic 38, 3) := by decide +kernel
theorem dX2_readFact_145 : decode cX2_readFact 145 = .ok (.aload_n 1, 1) := by decide +kernel
theorem dX2_readFact_146 : decode cX2_readFact 146 = .ok (.iload 6, 2) := by decide +kernel
theorem dX2_readFact_148 : decode cX2_readFact 148 = .ok (.invokevirtual 52, 3) := by decide +kernel
theorem dX2_readFact_151 : decode cX2_readFact 151 = .ok (.return_, 1) := by decide +kernel
theorem dX2_readComparison_0 : decode cX2_readComparison 0 = .ok (.aload_n 0, 1) := by decide +kernel
theorem dX2_readComparison_1 : decode cX2_readComparison 1 = .ok (.invokevirtual 19, 3) := by decide +kernel
theorem dX2_readComparison_4 : decode cX2_readComparison 4 = .ok (.aload_n 0, 1) := by decide +kernel
theorem dX2_readComparison_5 : decode cX2_readComparison 5 = .ok (.getfield 22, 3) := by decide +kernel
theorem dX2_readComparison_8 : decode cX2_readComparison 8 = .ok (.istore_n 2, 1) := by decide +kernel
theorem dX2_readComparison_9 : decode cX2_readComparison 9 = .ok (.aload_n 0, 1) := by decide +kernel
theorem dX2_readComparison_10 : decode cX2_readComparison 10 = .ok (.ldc 82, 2) := by decide +kernel
theorem dX2_readComparison_12 : decode cX2_readComparison 12 = .ok (.invokevirtual 70, 3) := by decide +kernel
theorem dX2_readComparison_15 : decode cX2_readComparison 15 = .ok (.istore_n 3, 1) := by decide +kernel
theorem dX2_readComparison_16 : decode cX2_readComparison 16 = .ok (.iload_n 3, 1) := by decide +kernel
theorem dX2_readComparison_17 : decode cX2_readComparison 17 = .ok (.iconst (-1), 1) := by decide +kernel
theorem dX2_readComparison_18 : decode cX2_readComparison 18 = .ok (.if_icmp .ne 12, 3) := by decide +kernel
theorem dX2_readComparison_21 : decode cX2_readComparison 21 = .ok (.aload_n 0, 1) := by decide +kernel
theorem dX2_readComparison_22 : decode cX2_readComparison 22 = .ok (.iload_n 2, 1) := by decide +kernel
theorem dX2_readComparison_23 : decode cX2_readComparison 23 = .ok (.iconst 0, 1) := by decide +kernel
theorem dX2_readComparison_24 : decode cX2_readComparison 24 = .ok (.invokevirtual 32, 3) := by decide +kernel
theorem dX2_readComparison_27 : decode cX2_readComparison 27 = .ok (.goto 9, 3) := by decide +kernel
theorem dX2_readComparison_30 : decode cX2_readComparison 30 = .ok (.aload_n 0, 1) := by decide +kernel
theorem dX2_readComparison_31 : decode cX2_readComparison 31 = .ok (.aload_n 1, 1) := by decide +kernel
theorem dX2_readComparison_32 : decode cX2_readComparison 32 = .ok (.iload_n 2, 1) := by decide +kernel
theorem dX2_readComparison_33 : decode cX2_readComparison 33 = .ok (.invokestatic 84, 3) := by decide +kernel
theorem dX2_readComparison_36 : decode cX2_readComparison 36 = .ok (.iload_n 3, 1) := by decide +kernel
theorem dX2_readComparison_37 : decode cX2_readComparison 37 = .ok (.ifCond .ne 20, 3) := by decide +kernel
theorem dX2_readComparison_40 : decode cX2_readComparison 40 = .ok (.aload_n 0, 1) := by decide +kernel
theorem dX2_readComparison_41 : decode cX2_readComparison 41 = .ok (.bipush 61, 2) := by decide +kernel
theorem dX2_readComparison_43 : decode cX2_readComparison 43 = .ok (.invokevirtual 87, 3) := by decide +kernel
theorem dX2_readComparison_46 : decode cX2_readComparison 46 = .ok (.ifCond .eq 8, 3) := by decide +kernel
theorem dX2_readComparison_49 : decode cX2_readComparison 49 = .ok (.ldc 91, 2) := by decide +kernel
theorem dX2_readComparison_51 : decode cX2_readComparison 51 = .ok (.goto 5, 3) := by decide +kernel
theorem dX2_readComparison_54 : decode cX2_readComparison 54 = .ok (.ldc 92, 2) := by decide +kernel
theorem dX2_readComparison_56 : decode cX2_readComparison 56 = .ok (.ireturn, 1) := by decide +kernel
theorem dX2_readComparison_57 : decode cX2_readComparison 57 = .ok (.iload_n 3, 1) := by decide +kernel
theorem dX2_readComparison_58 : decode cX2_readComparison 58 = .ok (.iconst 1, 1) := by decide +kernel
theorem dX2_readComparison_59 : decode cX2_readComparison 59 = .ok (.if_icmp .ne 6, 3) := by decide +kernel
theorem dX2_readComparison_62 : decode cX2_readComparison 62 = .ok (.ldc 93, 2) := by decide +kernel
theorem dX2_readComparison_64 : decode cX2_readComparison 64 = .ok (.ireturn, 1) := by decide +kernel
theorem dX2_readComparison_65 : decode cX2_readComparison 65 = .ok (.aload_n 0, 1) := by decide +kernel
theorem dX2_readComparison_66 : decode cX2_readComparison 66 = .ok (.bipush 61, 2) := by decide +kernel
theorem dX2_readComparison_68 : decode cX2_readComparison 68 = .ok (.invokevirtual 87, 3) := by decide +kernel
theorem dX2_readComparison_71 : decode cX2_readComparison 71 = .ok (.ifCond .eq 8, 3) := by decide +kernel
theorem dX2_readComparison_74 : decode cX2_readComparison 74 = .ok (.ldc 94, 2) := by decide +kernel
theorem dX2_readComparison_76 : decode cX2_readComparison 76 = .ok (.goto 5, 3) := by decide +kernel
theorem dX2_readComparison_79 : decode cX2_readComparison 79 = .ok (.ldc 95, 2) := by decide +kernel
theorem dX2_readComparison_81 : decode cX2_readComparison 81 = .ok (.ireturn, 1) := by decide +kernel
theorem dX2_readSum_0 : decode cX2_readSum 0 = .ok (.aload_n 0, 1) := by decide +kernel
theorem dX2_readSum_1 : decode cX2_readSum 1 = .ok (.aload_n 1, 1) := by decide +kernel
theorem dX2_readSum_2 : decode cX2_readSum 2 = .ok (.invokestatic 96, 3) := by decide +kernel
theorem dX2_readSum_5 : decode cX2_readSum 5 = .ok (.iconst (-1), 1) := by decide +kernel
theorem dX2_readSum_6 : decode cX2_readSum 6 = .ok (.istore_n 2, 1) := by decide +kernel
theorem dX2_readSum_7 : decode cX2_readSum 7 = .ok (.iconst 0, 1) := by decide +kernel
theorem dX2_readSum_8 : decode cX2_readSum 8 = .ok (.istore_n 3, 1) := by decide +kernel
theorem dX2_readSum_9 : decode cX2_readSum 9 = .ok (.iload_n 3, 1) := by decide +kernel
theorem dX2_readSum_10 : decode cX2_readSum 10 = .ok (.sipush 400, 3) := by decide +kernel
theorem dX2_readSum_13 : decode cX2_readSum 13 = .ok (.if_icmp .ge 95, 3) := by decide +kernel
theorem dX2_readSum_16 : decode cX2_readSum 16 = .ok (.aload_n 0, 1) := by decide +kernel
theorem dX2_readSum_17 : decode cX2_readSum 17 = .ok (.getfield 42, 3) := by decide +kernel
theorem dX2_readSum_20 : decode cX2_readSum 20 = .ok (.ifCond .ne 88, 3) := by decide +kernel
theorem dX2_readSum_23 : decode cX2_readSum 23 = .ok (.aload_n 0, 1) := by decide +kernel
theorem dX2_readSum_24 : decode cX2_readSum 24 = .ok (.ldc 99, 2) := by decide +kernel
theorem dX2_readSum_26 : decode cX2_readSum 26 = .ok (.invokevirtual 70, 3) := by decide +kernel
theorem dX2_readSum_29 : decode cX2_readSum 29 = .ok (.istore 4, 2) := by decide +kernel
theorem dX2_readSum_31 : decode cX2_readSum 31 = .ok (.iload 4, 2) := by decide +kernel
theorem dX2_readSum_33 : decode cX2_readSum 33 = .ok (.iconst (-1), 1) := by decide +kernel
theorem dX2_readSum_34 : decode cX2_readSum 34 = .ok (.if_icmp .ne 6, 3) := by decide +kernel
theorem dX2_readSum_37 : decode cX2_readSum 37 = .ok (.goto 71, 3) := by decide +kernel
theorem dX2_readSum_40 : decode cX2_readSum 40 = .ok (.iload 4, 2) := by decide +kernel
theorem dX2_readSum_42 : decode cX2_readSum 42 = .ok (.iconst 2, 1) := by decide +kernel
theorem dX2_readSum_43 : decode cX2_readSum 43 = .ok (.if_icmp .ge 7, 3) := by decide +kernel
theorem dX2_readSum_46 : decode cX2_readSum 46 = .ok (.iconst 1, 1) := by decide +kernel
theorem dX2_readSum_47 : decode cX2_readSum 47 = .ok (.goto 4, 3) := by decide +kernel
theorem dX2_readSum_50 : decode cX2_readSum 50 = .ok (.iconst 0, 1) := by decide +kernel
theorem dX2_readSum_51 : decode cX2_readSum 51 = .ok (.istore 5, 2) := by decide +kernel
theorem dX2_readSum_53 : decode cX2_readSum 53 = .ok (.iload 5, 2) := by decide +kernel
theorem dX2_readSum_55 : decode cX2_readSum 55 = .ok (.ifCond .eq 13, 3) := by decide +kernel
theorem dX2_readSum_58 : decode cX2_readSum 58 = .ok (.iload_n 2, 1) := by decide +kernel
theorem dX2_readSum_59 : decode cX2_readSum 59 = .ok (.iconst (-1), 1) := by decide +kernel
theorem dX2_readSum_60 : decode cX2_readSum 60 = .ok (.if_icmp .eq 8, 3) := by decide +kernel
theorem dX2_readSum_63 : decode cX2_readSum 63 = .ok (.aload_n 1, 1) := by decide +kernel
theorem dX2_readSum_64 : decode cX2_readSum 64 = .ok (.iload_n 2, 1) := by decide +kernel
theorem dX2_readSum_65 : decode cX2_readSum 65 = .ok (.invokevirtual 52, 3) := by decide +kernel
theorem dX2_readSum_68 : decode cX2_readSum 68 = .ok (.iload 5, 2) := by decide +kernel
theorem dX2_readSum_70 : decode cX2_readSum 70 = .ok (.ifCond .eq 11, 3) := by decide +kernel
theorem dX2_readSum_73 : decode cX2_readSum 73 = .ok (.ldc 101, 2) := by decide +kernel
theorem dX2_readSum_75 : decode cX2_readSum 75 = .ok (.iload 4, 2) := by decide +kernel
theorem dX2_readSum_77 : decode cX2_readSum 77 = .ok (.iadd, 1) := by decide +kernel
theorem dX2_readSum_78 : decode cX2_readSum 78 = .ok (.goto 4, 3) := by decide +kernel
theorem dX2_readSum_81 : decode cX2_readSum 81 = .ok (.iload_n 2, 1) := by decide +kernel
theorem dX2_readSum_82 : decode cX2_readSum 82 = .ok (.istore_n 2, 1) := by decide +kernel
theorem dX2_readSum_83 : decode cX2_readSum 83 = .ok (.aload_n 0, 1) := by decide +kernel
theorem dX2_readSum_84 : decode cX2_readSum 84 = .ok (.aload_n 1, 1) := by decide +kernel
theorem dX2_readSum_85 : decode cX2_readSum 85 = .ok (.invokestatic 96, 3) := by decide +kernel
theorem dX2_readSum_88 : decode cX2_readSum 88 = .ok (.iload 5, 2) := by decide +kernel
theorem dX2_readSum_90 : decode cX2_readSum 90 = .ok (.ifCond .ne 12, 3) := by decide +kernel
theorem dX2_readSum_93 : decode cX2_readSum 93 = .ok (.aload_n 1, 1) := by decide +kernel
theorem dX2_readSum_94 : decode cX2_readSum 94 = .ok (.ldc 101, 2) := by decide +kernel
theorem dX2_readSum_96 : decode cX2_readSum 96 = .ok (.iload 4, 2) := by decide +kernel
theorem dX2_readSum_98 : decode cX2_readSum 98 = .ok (.iadd, 1) := by decide +kernel
theorem dX2_readSum_99 : decode cX2_readSum 99 = .ok (.invokevirtual 52, 3) := by decide +kernel
theorem dX2_readSum_102 : decode cX2_readSum 102 = .ok (.iinc 3 1, 3) := by decide +kernel
theorem dX2_readSum_105 : decode cX2_readSum 105 = .ok (.goto (-96), 3) := by decide +kernel
theorem dX2_readSum_108 : decode cX2_readSum 108 = .ok (.iload_n 2, 1) := by decide +kernel
theorem dX2_readSum_109 : decode cX2_readSum 109 = .ok (.iconst (-1), 1) := by decide +kernel
theorem dX2_readSum_110 : decode cX2_readSum 110 = .ok (.if_icmp .eq 8, 3) := by decide +kernel
theorem dX2_readSum_113 : decode cX2_readSum 113 = .ok (.aload_n 1, 1) := by decide +kernel
theorem dX2_readSum_114 : decode cX2_readSum 114 = .ok (.iload_n 2, 1) := by decide +kernel
theorem dX2_readSum_115 : decode cX2_readSum 115 = .ok (.invokevirtual 52, 3) := by decide +kernel
theorem dX2_readSum_118 : decode cX2_readSum 118 = .ok (.return_, 1) := by decide +kernel
theorem dX2_readValue_0 : decode cX2_readValue 0 = .ok (.aload_n 0, 1) := by decide +kernel
theorem dX2_readValue_1 : decode cX2_readValue 1 = .ok (.invokevirtual 102, 3) := by decide +kernel
theorem dX2_readValue_4 : decode cX2_readValue 4 = .ok (.istore_n 2, 1) := by decide +kernel
theorem dX2_readValue_5 : decode cX2_readValue 5 = .ok (.aload_n 0, 1) := by decide +kernel
theorem dX2_readValue_6 : decode cX2_readValue 6 = .ok (.getfield 22, 3) := by decide +kernel
theorem dX2_readValue_9 : decode cX2_readValue 9 = .ok (.istore_n 3, 1) := by decide +kernel
theorem dX2_readValue_10 : decode cX2_readValue 10 = .ok (.iload_n 2, 1) := by decide +kernel
theorem dX2_readValue_11 : decode cX2_readValue 11 = .ok (.ifCond .eq 15, 3) := by decide +kernel
theorem dX2_readValue_14 : decode cX2_readValue 14 = .ok (.aload_n 0, 1) := by decide +kernel
theorem dX2_readValue_15 : decode cX2_readValue 15 = .ok (.iconst 0, 1) := by decide +kernel
theorem dX2_readValue_16 : decode cX2_readValue 16 = .ok (.ldc 105, 2) := by decide +kernel
theorem dX2_readValue_18 : decode cX2_readValue 18 = .ok (.invokevirtual 106, 3) := by decide +kernel
theorem dX2_readValue_21 : decode cX2_readValue 21 = .ok (.istore 4, 2) := by decide +kernel
theorem dX2_readValue_23 : decode cX2_readValue 23 = .ok (.goto 30, 3) := by decide +kernel
theorem dX2_readValue_26 : decode cX2_readValue 26 = .ok (.aload_n 0, 1) := by decide +kernel
theorem dX2_readValue_27 : decode cX2_readValue 27 = .ok (.ldc 112, 2) := by decide +kernel
theorem dX2_readValue_29 : decode cX2_readValue 29 = .ok (.invokevirtual 28, 3) := by decide +kernel
theorem dX2_readValue_32 : decode cX2_readValue 32 = .ok (.istore 5, 2) := by decide +kernel
theorem dX2_readValue_34 : decode cX2_readValue 34 = .ok (.iload 5, 2) := by decide +kernel
theorem dX2_readValue_36 : decode cX2_readValue 36 = .ok (.iconst (-1), 1) := by decide +kernel
theorem dX2_readValue_37 : decode cX2_readValue 37 = .ok (.if_icmp .ne 9, 3) := by decide +kernel
theorem dX2_readValue_40 : decode cX2_readValue 40 = .ok (.aload_n 0, 1) := by decide +kernel
theorem dX2_readValue_41 : decode cX2_readValue 41 = .ok (.iload_n 3, 1) := by decide +kernel
theorem dX2_readValue_42 : decode cX2_readValue 42 = .ok (.iconst 0, 1) := by decide +kernel
theorem dX2_readValue_43 : decode cX2_readValue 43 = .ok (.invokevirtual 32, 3) := by decide +kernel
theorem dX2_readValue_46 : decode cX2_readValue 46 = .ok (.ldc 114, 2) := by decide +kernel
theorem dX2_readValue_48 : decode cX2_readValue 48 = .ok (.iload 5, 2) := by decide +kernel
theorem dX2_readValue_50 : decode cX2_readValue 50 = .ok (.iadd, 1) := by decide +kernel
theorem dX2_readValue_51 : decode cX2_readValue 51 = .ok (.istore 4, 2) := by decide +kernel
theorem dX2_readValue_53 : decode cX2_readValue 53 = .ok (.aload_n 0, 1) := by decide +kernel
theorem dX2_readValue_54 : decode cX2_readValue 54 = .ok (.aload_n 1, 1) := by decide +kernel
theorem dX2_readValue_55 : decode cX2_readValue 55 = .ok (.iload_n 3, 1) := by decide +kernel
theorem dX2_readValue_56 : decode cX2_readValue 56 = .ok (.invokestatic 84, 3) := by decide +kernel
theorem dX2_readValue_59 : decode cX2_readValue 59 = .ok (.aload_n 1, 1) := by decide +kernel
theorem dX2_readValue_60 : decode cX2_readValue 60 = .ok (.iload 4, 2) := by decide +kernel
theorem dX2_readValue_62 : decode cX2_readValue 62 = .ok (.invokevirtual 52, 3) := by decide +kernel
theorem dX2_readValue_65 : decode cX2_readValue 65 = .ok (.return_, 1) := by decide +kernel
theorem dX2_tallyOne_0 : decode cX2_tallyOne 0 = .ok (.aload_n 1, 1) := by decide +kernel
theorem dX2_tallyOne_1 : decode cX2_tallyOne 1 = .ok (.dup, 1) := by decide +kernel
theorem dX2_tallyOne_2 : decode cX2_tallyOne 2 = .ok (.getfield 115, 3) := by decide +kernel
theorem dX2_tallyOne_5 : decode cX2_tallyOne 5 = .ok (.iconst 1, 1) := by decide +kernel
theorem dX2_tallyOne_6 : decode cX2_tallyOne 6 = .ok (.iadd, 1) := by decide +kernel
theorem dX2_tallyOne_7 : decode cX2_tallyOne 7 = .ok (.putfield 115, 3) := by decide +kernel
theorem dX2_tallyOne_10 : decode cX2_tallyOne 10 = .ok (.aload_n 1, 1) := by decide +kernel
theorem dX2_tallyOne_11 : decode cX2_tallyOne 11 = .ok (.getfield 115, 3) := by decide +kernel
theorem dX2_tallyOne_14 : decode cX2_tallyOne 14 = .ok (.bipush 60, 2) := by decide +kernel
theorem dX2_tallyOne_16 : decode cX2_tallyOne 16 = .ok (.if_icmp .le 9, 3) := by decide +kernel
theorem dX2_tallyOne_19 : decode cX2_tallyOne 19 = .ok (.aload_n 0, 1) := by decide +kernel
theorem dX2_tallyOne_20 : decode cX2_tallyOne 20 = .ok (.iload_n 2, 1) := by decide +kernel
theorem dX2_tallyOne_21 : decode cX2_tallyOne 21 = .ok (.iconst 3, 1) := by decide +kernel
theorem dX2_tallyOne_22 : decode cX2_tallyOne 22 = .ok (.invokevirtual 32, 3) := by decide +kernel
theorem dX2_tallyOne_25 : decode cX2_tallyOne 25 = .ok (.return_, 1) := by decide +kernel
theorem dX3_begin_0 : decode cX3_begin 0 = .ok (.aload_n 0, 1) := by decide +kernel
theorem dX3_begin_1 : decode cX3_begin 1 = .ok (.iconst 0, 1) := by decide +kernel
theorem dX3_begin_2 : decode cX3_begin 2 = .ok (.putfield 9, 3) := by decide +kernel
theorem dX3_begin_5 : decode cX3_begin 5 = .ok (.aload_n 0, 1) := by decide +kernel
theorem dX3_begin_6 : decode cX3_begin 6 = .ok (.iconst 0, 1) := by decide +kernel
theorem dX3_begin_7 : decode cX3_begin 7 = .ok (.putfield 28, 3) := by decide +kernel
theorem dX3_begin_10 : decode cX3_begin 10 = .ok (.aload_n 0, 1) := by decide +kernel
theorem dX3_begin_11 : decode cX3_begin 11 = .ok (.iconst (-1), 1) := by decide +kernel
theorem dX3_begin_12 : decode cX3_begin 12 = .ok (.putfield 37, 3) := by decide +kernel
theorem dX3_begin_15 : decode cX3_begin 15 = .ok (.aload_n 0, 1) := by decide +kernel
theorem dX3_begin_16 : decode cX3_begin 16 = .ok (.iconst 0, 1) := by decide +kernel
theorem dX3_begin_17 : decode cX3_begin 17 = .ok (.putfield 40, 3) := by decide +kernel
theorem dX3_begin_20 : decode cX3_begin 20 = .ok (.aload_n 0, 1) := by decide +kernel
theorem dX3_begin_21 : decode cX3_begin 21 = .ok (.iconst 0, 1) := by decide +kernel
theorem dX3_begin_22 : decode cX3_begin 22 = .ok (.putfield 43, 3) := by decide +kernel
theorem dX3_begin_25 : decode cX3_begin 25 = .ok (.aload_n 1, 1) := by decide +kernel
theorem dX3_begin_26 : decode cX3_begin 26 = .ok (.getfield 46, 3) := by decide +kernel
theorem dX3_begin_29 : decode cX3_begin 29 = .ok (.iconst 0, 1) := by decide +kernel
theorem dX3_begin_30 : decode cX3_begin 30 = .ok (.aload_n 0, 1) := by decide +kernel
theorem dX3_begin_31 : decode cX3_begin 31 = .ok (.getfield 15, 3) := by decide +kernel
theorem dX3_begin_34 : decode cX3_begin 34 = .ok (.iconst 0, 1) := by decide +kernel
theorem dX3_begin_35 : decode cX3_begin 35 = .ok (.bipush 6, 2) := by decide +kernel
theorem dX3_begin_37 : decode cX3_begin 37 = .ok (.invokestatic 49, 3) := by decide +kernel
theorem dX3_begin_40 : decode cX3_begin 40 = .ok (.aload_n 1, 1) := by decide +kernel
theorem dX3_begin_41 : decode cX3_begin 41 = .ok (.getfield 55, 3) := by decide +kernel
theorem dX3_begin_44 : decode cX3_begin 44 = .ok (.iconst 0, 1) := by decide +kernel
theorem dX3_begin_45 : decode cX3_begin 45 = .ok (.aload_n 0, 1) := by decide +kernel
theorem dX3_begin_46 : decode cX3_begin 46 = .ok (.getfield 19, 3) := by decide +kernel
theorem dX3_begin_49 : decode cX3_begin 49 = .ok (.iconst 0, 1) := by decide +kernel
theorem dX3_begin_50 : decode cX3_begin 50 = .ok (.iconst 3, 1) := by decide +kernel
theorem dX3_begin_51 : decode cX3_begin 51 = .ok (.invokestatic 49, 3) := by decide +kernel
theorem dX3_begin_54 : decode cX3_begin 54 = .ok (.aload_n 1, 1) := by decide +kernel
theorem dX3_begin_55 : decode cX3_begin 55 = .ok (.getfield 56, 3) := by decide +kernel
theorem dX3_begin_58 : decode cX3_begin 58 = .ok (.iconst 0, 1) := by decide +kernel
theorem dX3_begin_59 : decode cX3_begin 59 = .ok (.aload_n 0, 1) := by decide +kernel
theorem dX3_begin_60 : decode cX3_begin 60 = .ok (.getfield 25, 3) := by decide +kernel
theorem dX3_begin_63 : decode cX3_begin 63 = .ok (.iconst 0, 1) := by decide +kernel
theorem dX3_begin_64 : decode cX3_begin 64 = .ok (.iconst 3, 1) := by decide +kernel
theorem dX3_begin_65 : decode cX3_begin 65 = .ok (.invokestatic 49, 3) := by decide +kernel
theorem dX3_begin_68 : decode cX3_begin 68 = .ok (.iconst 0, 1) := by decide +kernel
theorem dX3_begin_69 : decode cX3_begin 69 = .ok (.istore_n 2, 1) := by decide +kernel
theorem dX3_begin_70 : decode cX3_begin 70 = .ok (.iload_n 2, 1) := by decide +kernel
theorem dX3_begin_71 : decode cX3_begin 71 = .ok (.iconst 3, 1) := by decide +kernel
theorem dX3_begin_72 : decode cX3_begin 72 = .ok (.if_icmp .ge 16, 3) := by decide +kernel
theorem dX3_begin_75 : decode cX3_begin 75 = .ok (.aload_n 0, 1) := by decide +kernel
theorem dX3_begin_76 : decode cX3_begin 76 = .ok (.getfield 22, 3) := by decide +kernel
theorem dX3_begin_79 : decode cX3_begin 79 = .ok (.iload_n 2, 1) := by decide +kernel
theorem dX3_begin_80 : decode cX3_begin 80 = .ok (.iconst (-1), 1) := by decide +kernel
theorem dX3_begin_81 : decode cX3_begin 81 = .ok (.iastore, 1) := by decide +kernel
theorem dX3_begin_82 : decode cX3_begin 82 = .ok (.iinc 2 1, 3) := by decide +kernel
theorem dX3_begin_85 : decode cX3_begin 85 = .ok (.goto (-15), 3) := by decide +kernel
theorem dX3_begin_88 : decode cX3_begin 88 = .ok (.iconst 0, 1) := by decide +kernel
theorem dX3_begin_89 : decode cX3_begin 89 = .ok (.istore_n 2, 1) := by decide +kernel
theorem dX3_begin_90 : decode cX3_begin 90 = .ok (.iload_n 2, 1) := by decide +kernel
theorem dX3_begin_91 : decode cX3_begin 91 = .ok (.bipush 8, 2) := by decide +kernel
theorem dX3_begin_93 : decode cX3_begin 93 = .ok (.if_icmp .ge 23, 3) := by decide +kernel
theorem dX3_begin_96 : decode cX3_begin 96 = .ok (.aload_n 0, 1) := by decide +kernel
theorem dX3_begin_97 : decode cX3_begin 97 = .ok (.getfield 31, 3) := by decide +kernel
theorem dX3_begin_100 : decode cX3_begin 100 = .ok (.iload_n 2, 1) := by decide +kernel
theorem dX3_begin_101 : decode cX3_begin 101 = .ok (.iconst 0, 1) := by decide +kernel
theorem dX3_begin_102 : decode cX3_begin 102 = .ok (.iastore, 1) := by decide +kernel
theorem dX3_begin_103 : decode cX3_begin 103 = .ok (.aload_n 0, 1) := by decide +kernel
theorem dX3_begin_104 : decode cX3_begin 104 = .ok (.getfield 34, 3) := by decide +kernel
theorem dX3_begin_107 : decode cX3_begin 107 = .ok (.iload_n 2, 1) := by decide +kernel
theorem dX3_begin_108 : decode cX3_begin 108 = .ok (.iconst 0, 1) := by decide +kernel
theorem dX3_begin_109 : decode cX3_begin 109 = .ok (.iastore, 1) := by decide +kernel
theorem dX3_begin_110 : decode cX3_begin 110 = .ok (.iinc 2 1, 3) := by decide +kernel
theorem dX3_begin_113 : decode cX3_begin 113 = .ok (.goto (-23), 3) := by decide +kernel
theorem dX3_begin_116 : decode cX3_begin 116 = .ok (.return_, 1) := by decide +kernel
theorem dX3_copyFrom_0 : decode cX3_copyFrom 0 = .ok (.aload_n 0, 1) := by decide +kernel
theorem dX3_copyFrom_1 : decode cX3_copyFrom 1 = .ok (.aload_n 1, 1) := by decide +kernel
theorem dX3_copyFrom_2 : decode cX3_copyFrom 2 = .ok (.getfield 9, 3) := by decide +kernel
theorem dX3_copyFrom_5 : decode cX3_copyFrom 5 = .ok (.putfield 9, 3) := by decide +kernel
theorem dX3_copyFrom_8 : decode cX3_copyFrom 8 = .ok (.aload_n 0, 1) := by decide +kernel
theorem dX3_copyFrom_9 : decode cX3_copyFrom 9 = .ok (.aload_n 1, 1) := by decide +kernel
theorem dX3_copyFrom_10 : decode cX3_copyFrom 10 = .ok (.getfield 28, 3) := by decide +kernel
theorem dX3_copyFrom_13 : decode cX3_copyFrom 13 = .ok (.putfield 28, 3) := by decide +kernel
theorem dX3_copyFrom_16 : decode cX3_copyFrom 16 = .ok (.aload_n 0, 1) := by decide +kernel
theorem dX3_copyFrom_17 : decode cX3_copyFrom 17 = .ok (.aload_n 1, 1) := by decide +kernel
theorem dX3_copyFrom_18 : decode cX3_copyFrom 18 = .ok (.getfield 37, 3) := by decide +kernel
theorem dX3_copyFrom_21 : decode cX3_copyFrom 21 = .ok (.putfield 37, 3) := by decide +kernel
theorem dX3_copyFrom_24 : decode cX3_copyFrom 24 = .ok (.aload_n 0, 1) := by decide +kernel
theorem dX3_copyFrom_25 : decode cX3_copyFrom 25 = .ok (.aload_n 1, 1) := by decide +kernel
theorem dX3_copyFrom_26 : decode cX3_copyFrom 26 = .ok (.getfield 40, 3) := by decide +kernel
theorem dX3_copyFrom_29 : decode cX3_copyFrom 29 = .ok (.putfield 40, 3) := by decide +kernel
theorem dX3_copyFrom_32 : decode cX3_copyFrom 32 = .ok (.aload_n 0, 1) := by decide +kernel
theorem dX3_copyFrom_33 : decode cX3_copyFrom 33 = .ok (.aload_n 1, 1) := by decide +kernel
theorem dX3_copyFrom_34 : decode cX3_copyFrom 34 = .ok (.getfield 43, 3) := by decide +kernel
theorem dX3_copyFrom_37 : decode cX3_copyFrom 37 = .ok (.putfield 43, 3) := by decide +kernel
theorem dX3_copyFrom_40 : decode cX3_copyFrom 40 = .ok (.aload_n 1, 1) := by decide +kernel
theorem dX3_copyFrom_41 : decode cX3_copyFrom 41 = .ok (.getfield 15, 3) := by decide +kernel
theorem dX3_copyFrom_44 : decode cX3_copyFrom 44 = .ok (.iconst 0, 1) := by decide +kernel
theorem dX3_copyFrom_45 : decode cX3_copyFrom 45 = .ok (.aload_n 0, 1) := by decide +kernel
theorem dX3_copyFrom_46 : decode cX3_copyFrom 46 = .ok (.getfield 15, 3) := by decide +kernel
theorem dX3_copyFrom_49 : decode cX3_copyFrom 49 = .ok (.iconst 0, 1) := by decide +kernel
theorem dX3_copyFrom_50 : decode cX3_copyFrom 50 = .ok (.bipush 6, 2) := by decide +kernel
theorem dX3_copyFrom_52 : decode cX3_copyFrom 52 = .ok (.invokestatic 49, 3) := by decide +kernel
theorem dX3_copyFrom_55 : decode cX3_copyFrom 55 = .ok (.aload_n 1, 1) := by decide +kernel
theorem dX3_copyFrom_56 : decode cX3_copyFrom 56 = .ok (.getfield 19, 3) := by decide +kernel
theorem dX3_copyFrom_59 : decode cX3_copyFrom 59 = .ok (.iconst 0, 1) := by decide +kernel
theorem dX3_copyFrom_60 : decode cX3_copyFrom 60 = .ok (.aload_n 0, 1) := by decide +kernel
theorem dX3_copyFrom_61 : decode cX3_copyFrom 61 = .ok (.getfield 19, 3) := by decide +kernel
theorem dX3_copyFrom_64 : decode cX3_copyFrom 64 = .ok (.iconst 0, 1) := by decide +kernel
theorem dX3_copyFrom_65 : decode cX3_copyFrom 65 = .ok (.iconst 3, 1) := by decide +kernel
theorem dX3_copyFrom_66 : decode cX3_copyFrom 66 = .ok (.invokestatic 49, 3) := by decide +kernel
theorem dX3_copyFrom_69 : decode cX3_copyFrom 69 = .ok (.aload_n 1, 1) := by decide +kernel
theorem dX3_copyFrom_70 : decode cX3_copyFrom 70 = .ok (.getfield 22, 3) := by decide +kernel
theorem dX3_copyFrom_73 : decode cX3_copyFrom 73 = .ok (.iconst 0, 1) := by decide +kernel
theorem dX3_copyFrom_74 : decode cX3_copyFrom 74 = .ok (.aload_n 0, 1) := by decide +kernel
theorem dX3_copyFrom_75 : decode cX3_copyFrom 75 = .ok (.getfield 22, 3) := by decide +kernel
theorem dX3_copyFrom_78 : decode cX3_copyFrom 78 = .ok (.iconst 0, 1) := by decide +kernel
theorem dX3_copyFrom_79 : decode cX3_copyFrom 79 = .ok (.iconst 3, 1) := by decide +kernel
theorem dX3_copyFrom_80 : decode cX3_copyFrom 80 = .ok (.invokestatic 49, 3) := by decide +kernel
theorem dX3_copyFrom_83 : decode cX3_copyFrom 83 = .ok (.aload_n 1, 1) := by decide +kernel
theorem dX3_copyFrom_84 : decode cX3_copyFrom 84 = .ok (.getfield 25, 3) := by decide +kernel
theorem dX3_copyFrom_87 : decode cX3_copyFrom 87 = .ok (.iconst 0, 1) := by decide +kernel
theorem dX3_copyFrom_88 : decode cX3_copyFrom 88 = .ok (.aload_n 0, 1) := by decide +kernel
theorem dX3_copyFrom_89 : decode cX3_copyFrom 89 = .ok (.getfield 25, 3) := by decide +kernel
theorem dX3_copyFrom_92 : decode cX3_copyFrom 92 = .ok (.iconst 0, 1) := by decide +kernel
theorem dX3_copyFrom_93 : decode cX3_copyFrom 93 = .ok (.iconst 3, 1) := by decide +kernel
theorem dX3_copyFrom_94 : decode cX3_copyFrom 94 = .ok (.invokestatic 49, 3) := by decide +kernel
theorem dX3_copyFrom_97 : decode cX3_copyFrom 97 = .ok (.aload_n 1, 1) := by decide +kernel
theorem dX3_copyFrom_98 : decode cX3_copyFrom 98 = .ok (.getfield 31, 3) := by decide +kernel
theorem dX3_copyFrom_101 : decode cX3_copyFrom 101 = .ok (.iconst 0, 1) := by decide +kernel
theorem dX3_copyFrom_102 : decode cX3_copyFrom 102 = .ok (.aload_n 0, 1) := by decide +kernel
theorem dX3_copyFrom_103 : decode cX3_copyFrom 103 = .ok (.getfield 31, 3) := by decide +kernel
theorem dX3_copyFrom_106 : decode cX3_copyFrom 106 = .ok (.iconst 0, 1) := by decide +kernel
theorem dX3_copyFrom_107 : decode cX3_copyFrom 107 = .ok (.bipush 8, 2) := by decide +kernel
theorem dX3_copyFrom_109 : decode cX3_copyFrom 109 = .ok (.invokestatic 49, 3) := by decide +kernel
theorem dX3_copyFrom_112 : decode cX3_copyFrom 112 = .ok (.aload_n 1, 1) := by decide +kernel
theorem dX3_copyFrom_113 : decode cX3_copyFrom 113 = .ok (.getfield 34, 3) := by decide +kernel
theorem dX3_copyFrom_116 : decode cX3_copyFrom 116 = .ok (.iconst 0, 1) := by decide +kernel
theorem dX3_copyFrom_117 : decode cX3_copyFrom 117 = .ok (.aload_n 0, 1) := by decide +kernel
theorem dX3_copyFrom_118 : decode cX3_copyFrom 118 = .ok (.getfield 34, 3) := by decide +kernel
theorem dX3_copyFrom_121 : decode cX3_copyFrom 121 = .ok (.iconst 0, 1) := by decide +kernel
theorem dX3_copyFrom_122 : decode cX3_copyFrom 122 = .ok (.bipush 8, 2) := by decide +kernel
theorem dX3_copyFrom_124 : decode cX3_copyFrom 124 = .ok (.invokestatic 49, 3) := by decide +kernel
theorem dX3_copyFrom_127 : decode cX3_copyFrom 127 = .ok (.return_, 1) := by decide +kernel
theorem dX3_pass_0 : decode cX3_pass 0 = .ok (.iconst 0, 1) := by decide +kernel
theorem dX3_pass_1 : decode cX3_pass 1 = .ok (.istore_n 3, 1) := by decide +kernel
theorem dX3_pass_2 : decode cX3_pass 2 = .ok (.iload_n 3, 1) := by decide +kernel
theorem dX3_pass_3 : decode cX3_pass 3 = .ok (.aload_n 1, 1) := by decide +kernel
theorem dX3_pass_4 : decode cX3_pass 4 = .ok (.getfield 57, 3) := by decide +kernel
theorem dX3_pass_7 : decode cX3_pass 7 = .ok (.if_icmp .ge 47, 3) := by decide +kernel
theorem dX3_pass_10 : decode cX3_pass 10 = .ok (.iload_n 3, 1) := by decide +kernel
theorem dX3_pass_11 : decode cX3_pass 11 = .ok (.aload_n 0, 1) := by decide +kernel
theorem dX3_pass_12 : decode cX3_pass 12 = .ok (.getfield 37, 3) := by decide +kernel
theorem dX3_pass_15 : decode cX3_pass 15 = .ok (.if_icmp .eq 33, 3) := by decide +kernel
theorem dX3_pass_18 : decode cX3_pass 18 = .ok (.aload_n 2, 1) := by decide +kernel
theorem dX3_pass_19 : decode cX3_pass 19 = .ok (.ifnonnull 12, 3) := by decide +kernel
theorem dX3_pass_22 : decode cX3_pass 22 = .ok (.aload_n 0, 1) := by decide +kernel
theorem dX3_pass_23 : decode cX3_pass 23 = .ok (.aload_n 1, 1) := by decide +kernel
theorem dX3_pass_24 : decode cX3_pass 24 = .ok (.iload_n 3, 1) := by decide +kernel
theorem dX3_pass_25 : decode cX3_pass 25 = .ok (.invokevirtual 60, 3) := by decide +kernel
theorem dX3_pass_28 : decode cX3_pass 28 = .ok (.goto 10, 3) := by decide +kernel
theorem dX3_pass_31 : decode cX3_pass 31 = .ok (.aload_n 0, 1) := by decide +kernel
theorem dX3_pass_32 : decode cX3_pass 32 = .ok (.aload_n 1, 1) := by decide +kernel
theorem dX3_pass_33 : decode cX3_pass 33 = .ok (.iload_n 3, 1) := by decide +kernel
theorem dX3_pass_34 : decode cX3_pass 34 = .ok (.aload_n 2, 1) := by decide +kernel
theorem dX3_pass_35 : decode cX3_pass 35 = .ok (.invokevirtual 64, 3) := by decide +kernel
theorem dX3_pass_38 : decode cX3_pass 38 = .ok (.istore 4, 2) := by decide +kernel
theorem dX3_pass_40 : decode cX3_pass 40 = .ok (.aload_n 0, 1) := by decide +kernel
theorem dX3_pass_41 : decode cX3_pass 41 = .ok (.aload_n 1, 1) := by decide +kernel
theorem dX3_pass_42 : decode cX3_pass 42 = .ok (.iload_n 3, 1) := by decide +kernel
theorem dX3_pass_43 : decode cX3_pass 43 = .ok (.iload 4, 2) := by decide +kernel
theorem dX3_pass_45 : decode cX3_pass 45 = .ok (.invokevirtual 68, 3) := by decide +kernel
theorem dX3_pass_48 : decode cX3_pass 48 = .ok (.iinc 3 1, 3) := by decide +kernel
theorem dX3_pass_51 : decode cX3_pass 51 = .ok (.goto (-49), 3) := by decide +kernel
theorem dX3_pass_54 : decode cX3_pass 54 = .ok (.aload_n 0, 1) := by decide +kernel
theorem dX3_pass_55 : decode cX3_pass 55 = .ok (.iconst 0, 1) := by decide +kernel
theorem dX3_pass_56 : decode cX3_pass 56 = .ok (.putfield 40, 3) := by decide +kernel
theorem dX3_pass_59 : decode cX3_pass 59 = .ok (.aload_n 0, 1) := by decide +kernel
theorem dX3_pass_60 : decode cX3_pass 60 = .ok (.iconst 0, 1) := by decide +kernel
theorem dX3_pass_61 : decode cX3_pass 61 = .ok (.putfield 43, 3) := by decide +kernel
theorem dX3_pass_64 : decode cX3_pass 64 = .ok (.iconst 0, 1) := by decide +kernel
theorem dX3_pass_65 : decode cX3_pass 65 = .ok (.istore_n 3, 1) := by decide +kernel
theorem dX3_pass_66 : decode cX3_pass 66 = .ok (.iload_n 3, 1) := by decide +kernel
theorem dX3_pass_67 : decode cX3_pass 67 = .ok (.aload_n 1, 1) := by decide +kernel
theorem dX3_pass_68 : decode cX3_pass 68 = .ok (.getfield 72, 3) := by decide +kernel
theorem dX3_pass_71 : decode cX3_pass 71 = .ok (.if_icmp .ge 28, 3) := by decide +kernel
theorem dX3_pass_74 : decode cX3_pass 74 = .ok (.aload_n 0, 1) := by decide +kernel
theorem dX3_pass_75 : decode cX3_pass 75 = .ok (.aload_n 1, 1) := by decide +kernel
theorem dX3_pass_76 : decode cX3_pass 76 = .ok (.iload_n 3, 1) := by decide +kernel
theorem dX3_pass_77 : decode cX3_pass 77 = .ok (.aload_n 0, 1) := by decide +kernel
theorem dX3_pass_78 : decode cX3_pass 78 = .ok (.getfield 9, 3) := by decide +kernel
theorem dX3_pass_81 : decode cX3_pass 81 = .ok (.invokevirtual 75, 3) := by decide +kernel
theorem dX3_pass_84 : decode cX3_pass 84 = .ok (.ifCond .eq 9, 3) := by decide +kernel
theorem dX3_pass_87 : decode cX3_pass 87 = .ok (.aload_n 0, 1) := by decide +kernel
theorem dX3_pass_88 : decode cX3_pass 88 = .ok (.aload_n 1, 1) := by decide +kernel
theorem dX3_pass_89 : decode cX3_pass 89 = .ok (.iload_n 3, 1) := by decide +kernel
theorem dX3_pass_90 : decode cX3_pass 90 = .ok (.invokevirtual 79, 3) := by decide +kernel
theorem dX3_pass_93 : decode cX3_pass 93 = .ok (.iinc 3 1, 3) := by decide +kernel
theorem dX3_pass_96 : decode cX3_pass 96 = .ok (.goto (-30), 3) := by decide +kernel
theorem dX3_pass_99 : decode cX3_pass 99 = .ok (.aload_n 0, 1) := by decide +kernel
theorem dX3_pass_100 : decode cX3_pass 100 = .ok (.dup, 1) := by decide +kernel
theorem dX3_pass_101 : decode cX3_pass 101 = .ok (.getfield 9, 3) := by decide +kernel
theorem dX3_pass_104 : decode cX3_pass 104 = .ok (.iconst 1, 1) := by decide +kernel
theorem dX3_pass_105 : decode cX3_pass 105 = .ok (.iadd, 1) := by decide +kernel
theorem dX3_pass_106 : decode cX3_pass 106 = .ok (.putfield 9, 3) := by decide +kernel
theorem dX3_pass_109 : decode cX3_pass 109 = .ok (.return_, 1) := by decide +kernel
theorem dX3_foreseen_0 : decode cX3_foreseen 0 = .ok (.iconst 0, 1) := by decide +kernel
theorem dX3_foreseen_1 : decode cX3_foreseen 1 = .ok (.istore_n 3, 1) := by decide +kernel
theorem dX3_foreseen_2 : decode cX3_foreseen 2 = .ok (.iload_n 3, 1) := by decide +kernel
theorem dX3_foreseen_3 : decode cX3_foreseen 3 = .ok (.aload_n 1, 1) := by decide +kernel
theorem dX3_foreseen_4 : decode cX3_foreseen 4 = .ok (.getfield 72, 3) := by decide +kernel
theorem dX3_foreseen_7 : decode cX3_foreseen 7 = .ok (.if_icmp .ge 36, 3) := by decide +kernel
theorem dX3_foreseen_10 : decode cX3_foreseen 10 = .ok (.aload_n 0, 1) := by decide +kernel
theorem dX3_foreseen_11 : decode cX3_foreseen 11 = .ok (.aload_n 1, 1) := by decide +kernel
theorem dX3_foreseen_12 : decode cX3_foreseen 12 = .ok (.iload_n 3, 1) := by decide +kernel
theorem dX3_foreseen_13 : decode cX3_foreseen 13 = .ok (.aload_n 0, 1) := by decide +kernel
theorem dX3_foreseen_14 : decode cX3_foreseen 14 = .ok (.getfield 9, 3) := by decide +kernel
theorem dX3_foreseen_17 : decode cX3_foreseen 17 = .ok (.aload_n 0, 1) := by decide +kernel
theorem dX3_foreseen_18 : decode cX3_foreseen 18 = .ok (.getfield 25, 3) := by decide +kernel
theorem dX3_foreseen_21 : decode cX3_foreseen 21 = .ok (.iload_n 2, 1) := by decide +kernel
theorem dX3_foreseen_22 : decode cX3_foreseen 22 = .ok (.iaload, 1) := by decide +kernel
theorem dX3_foreseen_23 : decode cX3_foreseen 23 = .ok (.iadd, 1) := by decide +kernel
theorem dX3_foreseen_24 : decode cX3_foreseen 24 = .ok (.invokevirtual 75, 3) := by decide +kernel
theorem dX3_foreseen_27 : decode cX3_foreseen 27 = .ok (.ifCond .eq 10, 3) := by decide +kernel
theorem dX3_foreseen_30 : decode cX3_foreseen 30 = .ok (.aload_n 1, 1) := by decide +kernel
theorem dX3_foreseen_31 : decode cX3_foreseen 31 = .ok (.getfield 83, 3) := by decide +kernel
theorem dX3_foreseen_34 : decode cX3_foreseen 34 = .ok (.iload_n 3, 1) := by decide +kernel
theorem dX3_foreseen_35 : decode cX3_foreseen 35 = .ok (.iaload, 1) := by decide +kernel
theorem dX3_foreseen_36 : decode cX3_foreseen 36 = .ok (.ireturn, 1) := by decide +kernel
theorem dX3_foreseen_37 : decode cX3_foreseen 37 = .ok (.iinc 3 1, 3) := by decide +kernel
theorem dX3_foreseen_40 : decode cX3_foreseen 40 = .ok (.goto (-38), 3) := by decide +kernel
theorem dX3_foreseen_43 : decode cX3_foreseen 43 = .ok (.iconst (-1), 1) := by decide +kernel
theorem dX3_foreseen_44 : decode cX3_foreseen 44 = .ok (.ireturn, 1) := by decide +kernel
theorem dX3_favoured_0 : decode cX3_favoured 0 = .ok (.iconst (-1), 1) := by decide +kernel
theorem dX3_favoured_1 : decode cX3_favoured 1 = .ok (.istore 4, 2) := by decide +kernel
theorem dX3_favoured_3 : decode cX3_favoured 3 = .ok (.lconst 0, 1) := by decide +kernel
theorem dX3_favoured_4 : decode cX3_favoured 4 = .ok (.lstore 5, 2) := by decide +kernel
theorem dX3_favoured_6 : decode cX3_favoured 6 = .ok (.iconst 0, 1) := by decide +kernel
theorem dX3_favoured_7 : decode cX3_favoured 7 = .ok (.istore 7, 2) := by decide +kernel
theorem dX3_favoured_9 : decode cX3_favoured 9 = .ok (.iload 7, 2) := by decide +kernel
theorem dX3_favoured_11 : decode cX3_favoured 11 = .ok (.aload_n 1, 1) := by decide +kernel
theorem dX3_favoured_12 : decode cX3_favoured 12 = .ok (.getfield 86, 3) := by decide +kernel
theorem dX3_favoured_15 : decode cX3_favoured 15 = .ok (.if_icmp .ge 36, 3) := by decide +kernel
theorem dX3_favoured_18 : decode cX3_favoured 18 = .ok (.aload_n 3, 1) := by decide +kernel
theorem dX3_favoured_19 : decode cX3_favoured 19 = .ok (.aload_n 1, 1) := by decide +kernel
theorem dX3_favoured_20 : decode cX3_favoured 20 = .ok (.aload_n 0, 1) := by decide +kernel
theorem dX3_favoured_21 : decode cX3_favoured 21 = .ok (.iload_n 2, 1) := by decide +kernel
theorem dX3_favoured_22 : decode cX3_favoured 22 = .ok (.iload 7, 2) := by decide +kernel
theorem dX3_favoured_24 : decode cX3_favoured 24 = .ok (.invokevirtual 89, 3) := by decide +kernel
theorem dX3_favoured_27 : decode cX3_favoured 27 = .ok (.lstore 8, 2) := by decide +kernel
theorem dX3_favoured_29 : decode cX3_favoured 29 = .ok (.lload 8, 2) := by decide +kernel
theorem dX3_favoured_31 : decode cX3_favoured 31 = .ok (.lload 5, 2) := by decide +kernel
theorem dX3_favoured_33 : decode cX3_favoured 33 = .ok (.lcmp, 1) := by decide +kernel
theorem dX3_favoured_34 : decode cX3_favoured 34 = .ok (.ifCond .le 11, 3) := by decide +kernel
theorem dX3_favoured_37 : decode cX3_favoured 37 = .ok (.lload 8, 2) := by decide +kernel
theorem dX3_favoured_39 : decode cX3_favoured 39 = .ok (.lstore 5, 2) := by decide +kernel
theorem dX3_favoured_41 : decode cX3_favoured 41 = .ok (.iload 7, 2) := by decide +kernel
theorem dX3_favoured_43 : decode cX3_favoured 43 = .ok (.istore 4, 2) := by decide +kernel
theorem dX3_favoured_45 : decode cX3_favoured 45 = .ok (.iinc 7 1, 3) := by decide +kernel
theorem dX3_favoured_48 : decode cX3_favoured 48 = .ok (.goto (-39), 3) := by decide +kernel
theorem dX3_favoured_51 : decode cX3_favoured 51 = .ok (.iload 4, 2) := by decide +kernel
theorem dX3_favoured_53 : decode cX3_favoured 53 = .ok (.ireturn, 1) := by decide +kernel
theorem dX3_goTowards_0 : decode cX3_goTowards 0 = .ok (.iload_n 3, 1) := by decide +kernel
theorem dX3_goTowards_1 : decode cX3_goTowards 1 = .ok (.iconst (-1), 1) := by decide +kernel
theorem dX3_goTowards_2 : decode cX3_goTowards 2 = .ok (.if_icmp .ne 4, 3) := by decide +kernel
theorem dX3_goTowards_5 : decode cX3_goTowards 5 = .ok (.return_, 1) := by decide +kernel
theorem dX3_goTowards_6 : decode cX3_goTowards 6 = .ok (.aload_n 0, 1) := by decide +kernel
theorem dX3_goTowards_7 : decode cX3_goTowards 7 = .ok (.getfield 15, 3) := by decide +kernel
theorem dX3_goTowards_10 : decode cX3_goTowards 10 = .ok (.iload_n 3, 1) := by decide +kernel
theorem dX3_goTowards_11 : decode cX3_goTowards 11 = .ok (.iaload, 1) := by decide +kernel
theorem dX3_goTowards_12 : decode cX3_goTowards 12 = .ok (.aload_n 0, 1) := by decide +kernel
theorem dX3_goTowards_13 : decode cX3_goTowards 13 = .ok (.getfield 19, 3) := by decide +kernel
theorem dX3_goTowards_16 : decode cX3_goTowards 16 = .ok (.iload_n 2, 1) := by decide +kernel
theorem dX3_goTowards_17 : decode cX3_goTowards 17 = .ok (.iaload, 1) := by decide +kernel
theorem dX3_goTowards_18 : decode cX3_goTowards 18 = .ok (.isub, 1) := by decide +kernel
theorem dX3_goTowards_19 : decode cX3_goTowards 19 = .ok (.istore 4, 2) := by decide +kernel
theorem dX3_goTowards_21 : decode cX3_goTowards 21 = .ok (.iload 4, 2) := by decide +kernel
theorem dX3_goTowards_23 : decode cX3_goTowards 23 = .ok (.invokestatic 95, 3) := by decide +kernel
theorem dX3_goTowards_26 : decode cX3_goTowards 26 = .ok (.aload_n 1, 1) := by decide +kernel
theorem dX3_goTowards_27 : decode cX3_goTowards 27 = .ok (.getfield 101, 3) := by decide +kernel
theorem dX3_goTowards_30 : decode cX3_goTowards 30 = .ok (.iload_n 2, 1) := by decide +kernel
theorem dX3_goTowards_31 : decode cX3_goTowards 31 = .ok (.iaload, 1) := by decide +kernel
theorem dX3_goTowards_32 : decode cX3_goTowards 32 = .ok (.invokestatic 104, 3) := by decide +kernel
theorem dX3_goTowards_35 : decode cX3_goTowards 35 = .ok (.istore 5, 2) := by decide +kernel
theorem dX3_goTowards_37 : decode cX3_goTowards 37 = .ok (.aload_n 0, 1) := by decide +kernel
theorem dX3_goTowards_38 : decode cX3_goTowards 38 = .ok (.getfield 19, 3) := by decide +kernel
theorem dX3_goTowards_41 : decode cX3_goTowards 41 = .ok (.iload_n 2, 1) := by decide +kernel
theorem dX3_goTowards_42 : decode cX3_goTowards 42 = .ok (.dup2, 1) := by decide +kernel
theorem dX3_goTowards_43 : decode cX3_goTowards 43 = .ok (.iaload, 1) := by decide +kernel
theorem dX3_goTowards_44 : decode cX3_goTowards 44 = .ok (.iload 4, 2) := by decide +kernel
theorem dX3_goTowards_46 : decode cX3_goTowards 46 = .ok (.ifCond .ge 9, 3) := by decide +kernel
theorem dX3_goTowards_49 : decode cX3_goTowards 49 = .ok (.iload 5, 2) := by decide +kernel
theorem dX3_goTowards_51 : decode cX3_goTowards 51 = .ok (.ineg, 1) := by decide +kernel
theorem dX3_goTowards_52 : decode cX3_goTowards 52 = .ok (.goto 5, 3) := by decide +kernel
theorem dX3_goTowards_55 : decode cX3_goTowards 55 = .ok (.iload 5, 2) := by decide +kernel
theorem dX3_goTowards_57 : decode cX3_goTowards 57 = .ok (.iadd, 1) := by decide +kernel
theorem dX3_goTowards_58 : decode cX3_goTowards 58 = .ok (.iastore, 1) := by decide +kernel
theorem dX3_goTowards_59 : decode cX3_goTowards 59 = .ok (.aload_n 0, 1) := by decide +kernel
theorem dX3_goTowards_60 : decode cX3_goTowards 60 = .ok (.getfield 22, 3) := by decide +kernel
theorem dX3_goTowards_63 : decode cX3_goTowards 63 = .ok (.iload_n 2, 1) := by decide +kernel
theorem dX3_goTowards_64 : decode cX3_goTowards 64 = .ok (.aload_n 0, 1) := by decide +kernel
theorem dX3_goTowards_65 : decode cX3_goTowards 65 = .ok (.getfield 19, 3) := by decide +kernel
theorem dX3_goTowards_68 : decode cX3_goTowards 68 = .ok (.iload_n 2, 1) := by decide +kernel
theorem dX3_goTowards_69 : decode cX3_goTowards 69 = .ok (.iaload, 1) := by decide +kernel
theorem dX3_goTowards_70 : decode cX3_goTowards 70 = .ok (.aload_n 0, 1) := by decide +kernel
theorem dX3_goTowards_71 : decode cX3_goTowards 71 = .ok (.getfield 15, 3) := by decide +kernel
theorem dX3_goTowards_74 : decode cX3_goTowards 74 = .ok (.iload_n 3, 1) := by decide +kernel
theorem dX3_goTowards_75 : decode cX3_goTowards 75 = .ok (.iaload, 1) := by decide +kernel
theorem dX3_goTowards_76 : decode cX3_goTowards 76 = .ok (.if_icmp .ne 7, 3) := by decide +kernel
theorem dX3_goTowards_79 : decode cX3_goTowards 79 = .ok (.iload_n 3, 1) := by decide +kernel
theorem dX3_goTowards_80 : decode cX3_goTowards 80 = .ok (.goto 4, 3) := by decide +kernel
theorem dX3_goTowards_83 : decode cX3_goTowards 83 = .ok (.iconst (-1), 1) := by decide +kernel
theorem dX3_goTowards_84 : decode cX3_goTowards 84 = .ok (.iastore, 1) := by decide +kernel
theorem dX3_goTowards_85 : decode cX3_goTowards 85 = .ok (.return_, 1) := by decide +kernel
theorem dX3_settle_0 : decode cX3_settle 0 = .ok (.aload_n 0, 1) := by decide +kernel
theorem dX3_settle_1 : decode cX3_settle 1 = .ok (.aload_n 1, 1) := by decide +kernel
theorem dX3_settle_2 : decode cX3_settle 2 = .ok (.aload_n 1, 1) := by decide +kernel
theorem dX3_settle_3 : decode cX3_settle 3 = .ok (.getfield 83, 3) := by decide +kernel
theorem dX3_settle_6 : decode cX3_settle 6 = .ok (.iload_n 2, 1) := by decide +kernel
theorem dX3_settle_7 : decode cX3_settle 7 = .ok (.iaload, 1) := by decide +kernel
theorem dX3_settle_8 : decode cX3_settle 8 = .ok (.invokevirtual 108, 3) := by decide +kernel
theorem dX3_settle_11 : decode cX3_settle 11 = .ok (.ifCond .ne 38, 3) := by decide +kernel
theorem dX3_settle_14 : decode cX3_settle 14 = .ok (.aload_n 0, 1) := by decide +kernel
theorem dX3_settle_15 : decode cX3_settle 15 = .ok (.getfield 31, 3) := by decide +kernel
theorem dX3_settle_18 : decode cX3_settle 18 = .ok (.iload_n 2, 1) := by decide +kernel
theorem dX3_settle_19 : decode cX3_settle 19 = .ok (.aload_n 0, 1) := by decide +kernel
theorem dX3_settle_20 : decode cX3_settle 20 = .ok (.getfield 31, 3) := by decide +kernel
theorem dX3_settle_23 : decode cX3_settle 23 = .ok (.iload_n 2, 1) := by decide +kernel
theorem dX3_settle_24 : decode cX3_settle 24 = .ok (.iaload, 1) := by decide +kernel
theorem dX3_settle_25 : decode cX3_settle 25 = .ok (.iconst 1, 1) := by decide +kernel
theorem dX3_settle_26 : decode cX3_settle 26 = .ok (.iadd, 1) := by decide +kernel
theorem dX3_settle_27 : decode cX3_settle 27 = .ok (.sipush 999, 3) := by decide +kernel
theorem dX3_settle_30 : decode cX3_settle 30 = .ok (.invokestatic 104, 3) := by decide +kernel
theorem dX3_settle_33 : decode cX3_settle 33 = .ok (.iastore, 1) := by decide +kernel
theorem dX3_settle_34 : decode cX3_settle 34 = .ok (.aload_n 0, 1) := by decide +kernel
theorem dX3_settle_35 : decode cX3_settle 35 = .ok (.dup, 1) := by decide +kernel
theorem dX3_settle_36 : decode cX3_settle 36 = .ok (.getfield 40, 3) := by decide +kernel
theorem dX3_settle_39 : decode cX3_settle 39 = .ok (.iconst 1, 1) := by decide +kernel
theorem dX3_settle_40 : decode cX3_settle 40 = .ok (.iload_n 2, 1) := by decide +kernel
theorem dX3_settle_41 : decode cX3_settle 41 = .ok (.ishl, 1) := by decide +kernel
theorem dX3_settle_42 : decode cX3_settle 42 = .ok (.ior, 1) := by decide +kernel
theorem dX3_settle_43 : decode cX3_settle 43 = .ok (.putfield 40, 3) := by decide +kernel
theorem dX3_settle_46 : decode cX3_settle 46 = .ok (.goto 35, 3) := by decide +kernel
theorem dX3_settle_49 : decode cX3_settle 49 = .ok (.aload_n 0, 1) := by decide +kernel
theorem dX3_settle_50 : decode cX3_settle 50 = .ok (.getfield 34, 3) := by decide +kernel
theorem dX3_settle_53 : decode cX3_settle 53 = .ok (.iload_n 2, 1) := by decide +kernel
theorem dX3_settle_54 : decode cX3_settle 54 = .ok (.aload_n 0, 1) := by decide +kernel
theorem dX3_settle_55 : decode cX3_settle 55 = .ok (.getfield 34, 3) := by decide +kernel
theorem dX3_settle_58 : decode cX3_settle 58 = .ok (.iload_n 2, 1) := by decide +kernel
theorem dX3_settle_59 : decode cX3_settle 59 = .ok (.iaload, 1) := by decide +kernel
theorem dX3_settle_60 : decode cX3_settle 60 = .ok (.iconst 1, 1) := by decide +kernel
theorem dX3_settle_61 : decode cX3_settle 61 = .ok (.iadd, 1) := by decide +kernel
theorem dX3_settle_62 : decode cX3_settle 62 = .ok (.sipush 999, 3) := by decide +kernel
theorem dX3_settle_65 : decode cX3_settle 65 = .ok (.invokestatic 104, 3) := by decide +kernel
theorem dX3_settle_68 : decode cX3_settle 68 = .ok (.iastore, 1) := by decide +kernel
theorem dX3_settle_69 : decode cX3_settle 69 = .ok (.aload_n 0, 1) := by decide +kernel
theorem dX3_settle_70 : decode cX3_settle 70 = .ok (.dup, 1) := by decide +kernel
theorem dX3_settle_71 : decode cX3_settle 71 = .ok (.getfield 43, 3) := by decide +kernel
theorem dX3_settle_74 : decode cX3_settle 74 = .ok (.iconst 1, 1) := by decide +kernel
theorem dX3_settle_75 : decode cX3_settle 75 = .ok (.iload_n 2, 1) := by decide +kernel
theorem dX3_settle_76 : decode cX3_settle 76 = .ok (.ishl, 1) := by decide +kernel
theorem dX3_settle_77 : decode cX3_settle 77 = .ok (.ior, 1) := by decide +kernel
theorem dX3_settle_78 : decode cX3_settle 78 = .ok (.putfield 43, 3) := by decide +kernel
theorem dX3_settle_81 : decode cX3_settle 81 = .ok (.return_, 1) := by decide +kernel
theorem dX3_isStruck_0 : decode cX3_isStruck 0 = .ok (.aload_n 0, 1) := by decide +kernel
theorem dX3_isStruck_1 : decode cX3_isStruck 1 = .ok (.getfield 28, 3) := by decide +kernel
theorem dX3_isStruck_4 : decode cX3_isStruck 4 = .ok (.iload_n 1, 1) := by decide +kernel
theorem dX3_isStruck_5 : decode cX3_isStruck 5 = .ok (.ishr, 1) := by decide +kernel
theorem dX3_isStruck_6 : decode cX3_isStruck 6 = .ok (.iconst 1, 1) := by decide +kernel
theorem dX3_isStruck_7 : decode cX3_isStruck 7 = .ok (.iand, 1) := by decide +kernel
theorem dX3_isStruck_8 : decode cX3_isStruck 8 = .ok (.ifCond .eq 7, 3) := by decide +kernel
theorem dX3_isStruck_11 : decode cX3_isStruck 11 = .ok (.iconst 1, 1) := by decide +kernel
theorem dX3_isStruck_12 : decode cX3_isStruck 12 = .ok (.goto 4, 3) := by decide +kernel
theorem dX3_isStruck_15 : decode cX3_isStruck 15 = .ok (.iconst 0, 1) := by decide +kernel
theorem dX3_isStruck_16 : decode cX3_isStruck 16 = .ok (.ireturn, 1) := by decide +kernel
theorem dX3_isDue_0 : decode cX3_isDue 0 = .ok (.aload_n 1, 1) := by decide +kernel
theorem dX3_isDue_1 : decode cX3_isDue 1 = .ok (.getfield 111, 3) := by decide +kernel
theorem dX3_isDue_4 : decode cX3_isDue 4 = .ok (.iload_n 2, 1) := by decide +kernel
theorem dX3_isDue_5 : decode cX3_isDue 5 = .ok (.iaload, 1) := by decide +kernel
theorem dX3_isDue_6 : decode cX3_isDue 6 = .ok (.istore 4, 2) := by decide +kernel
theorem dX3_isDue_8 : decode cX3_isDue 8 = .ok (.aload_n 0, 1) := by decide +kernel
theorem dX3_isDue_9 : decode cX3_isDue 9 = .ok (.iload_n 2, 1) := by decide +kernel
theorem dX3_isDue_10 : decode cX3_isDue 10 = .ok (.invokevirtual 114, 3) := by decide +kernel
theorem dX3_isDue_13 : decode cX3_isDue 13 = .ok (.ifCond .ne 25, 3) := by decide +kernel
theorem dX3_isDue_16 : decode cX3_isDue 16 = .ok (.iload 4, 2) := by decide +kernel
theorem dX3_isDue_18 : decode cX3_isDue 18 = .ok (.ifCond .le 20, 3) := by decide +kernel
theorem dX3_isDue_21 : decode cX3_isDue 21 = .ok (.iload_n 3, 1) := by decide +kernel
theorem dX3_isDue_22 : decode cX3_isDue 22 = .ok (.iload 4, 2) := by decide +kernel
theorem dX3_isDue_24 : decode cX3_isDue 24 = .ok (.irem, 1) := by decide +kernel
theorem dX3_isDue_25 : decode cX3_isDue 25 = .ok (.aload_n 1, 1) := by decide +kernel
theorem dX3_isDue_26 : decode cX3_isDue 26 = .ok (.getfield 118, 3) := by decide +kernel
theorem dX3_isDue_29 : decode cX3_isDue 29 = .ok (.iload_n 2, 1) := by decide +kernel
theorem dX3_isDue_30 : decode cX3_isDue 30 = .ok (.iaload, 1) := by decide +kernel
theorem dX3_isDue_31 : decode cX3_isDue 31 = .ok (.if_icmp .ne 7, 3) := by decide +kernel
theorem dX3_isDue_34 : decode cX3_isDue 34 = .ok (.iconst 1, 1) := by decide +kernel
theorem dX3_isDue_35 : decode cX3_isDue 35 = .ok (.goto 4, 3) := by decide +kernel
theorem dX3_isDue_38 : decode cX3_isDue 38 = .ok (.iconst 0, 1) := by decide +kernel
theorem dX3_isDue_39 : decode cX3_isDue 39 = .ok (.ireturn, 1) := by decide +kernel
theorem dX3_dueNow_0 : decode cX3_dueNow 0 = .ok (.iconst 0, 1) := by decide +kernel
theorem dX3_dueNow_1 : decode cX3_dueNow 1 = .ok (.istore_n 2, 1) := by decide +kernel
theorem dX3_dueNow_2 : decode cX3_dueNow 2 = .ok (.iconst 0, 1) := by decide +kernel
theorem dX3_dueNow_3 : decode cX3_dueNow 3 = .ok (.istore_n 3, 1) := by decide +kernel
theorem dX3_dueNow_4 : decode cX3_dueNow 4 = .ok (.iload_n 3, 1) := by decide +kernel
theorem dX3_dueNow_5 : decode cX3_dueNow 5 = .ok (.aload_n 1, 1) := by decide +kernel
theorem dX3_dueNow_6 : decode cX3_dueNow 6 = .ok (.getfield 72, 3) := by decide +kernel
theorem dX3_dueNow_9 : decode cX3_dueNow 9 = .ok (.if_icmp .ge 28, 3) := by decide +kernel
theorem dX3_dueNow_12 : decode cX3_dueNow 12 = .ok (.aload_n 0, 1) := by decide +kernel
theorem dX3_dueNow_13 : decode cX3_dueNow 13 = .ok (.aload_n 1, 1) := by decide +kernel
theorem dX3_dueNow_14 : decode cX3_dueNow 14 = .ok (.iload_n 3, 1) := by decide +kernel
theorem dX3_dueNow_15 : decode cX3_dueNow 15 = .ok (.aload_n 0, 1) := by decide +kernel
theorem dX3_dueNow_16 : decode cX3_dueNow 16 = .ok (.getfield 9, 3) := by decide +kernel
theorem dX3_dueNow_19 : decode cX3_dueNow 19 = .ok (.invokevirtual 75, 3) := by decide +kernel
theorem dX3_dueNow_22 : decode cX3_dueNow 22 = .ok (.ifCond .eq 9, 3) := by decide +kernel
theorem dX3_dueNow_25 : decode cX3_dueNow 25 = .ok (.iload_n 2, 1) := by decide +kernel
theorem dX3_dueNow_26 : decode cX3_dueNow 26 = .ok (.iconst 1, 1) := by decide +kernel
theorem dX3_dueNow_27 : decode cX3_dueNow 27 = .ok (.iload_n 3, 1) := by decide +kernel
theorem dX3_dueNow_28 : decode cX3_dueNow 28 = .ok (.ishl, 1) := by decide +kernel
theorem dX3_dueNow_29 : decode cX3_dueNow 29 = .ok (.ior, 1) := by decide +kernel
theorem dX3_dueNow_30 : decode cX3_dueNow 30 = .ok (.istore_n 2, 1) := by decide +kernel
theorem dX3_dueNow_31 : decode cX3_dueNow 31 = .ok (.iinc 3 1, 3) := by decide +kernel
theorem dX3_dueNow_34 : decode cX3_dueNow 34 = .ok (.goto (-30), 3) := by decide +kernel
theorem dX3_dueNow_37 : decode cX3_dueNow 37 = .ok (.iload_n 2, 1) := by decide +kernel
theorem dX3_dueNow_38 : decode cX3_dueNow 38 = .ok (.ireturn, 1) := by decide +kernel
theorem dX3_dueIn_0 : decode cX3_dueIn 0 = .ok (.bipush 99, 2) := by decide +kernel
theorem dX3_dueIn_2 : decode cX3_dueIn 2 = .ok (.istore_n 3, 1) := by decide +kernel
theorem dX3_dueIn_3 : decode cX3_dueIn 3 = .ok (.iconst 0, 1) := by decide +kernel
theorem dX3_dueIn_4 : decode cX3_dueIn 4 = .ok (.istore 4, 2) := by decide +kernel
theorem dX3_dueIn_6 : decode cX3_dueIn 6 = .ok (.iload 4, 2) := by decide +kernel
theorem dX3_dueIn_8 : decode cX3_dueIn 8 = .ok (.aload_n 1, 1) := by decide +kernel
theorem dX3_dueIn_9 : decode cX3_dueIn 9 = .ok (.getfield 72, 3) := by decide +kernel
theorem dX3_dueIn_12 : decode cX3_dueIn 12 = .ok (.if_icmp .ge 93, 3) := by decide +kernel
theorem dX3_dueIn_15 : decode cX3_dueIn 15 = .ok (.aload_n 1, 1) := by decide +kernel
theorem dX3_dueIn_16 : decode cX3_dueIn 16 = .ok (.getfield 111, 3) := by decide +kernel
theorem dX3_dueIn_19 : decode cX3_dueIn 19 = .ok (.iload 4, 2) := by decide +kernel
theorem dX3_dueIn_21 : decode cX3_dueIn 21 = .ok (.iaload, 1) := by decide +kernel
theorem dX3_dueIn_22 : decode cX3_dueIn 22 = .ok (.istore 5, 2) := by decide +kernel
theorem dX3_dueIn_24 : decode cX3_dueIn 24 = .ok (.aload_n 1, 1) := by decide +kernel
theorem dX3_dueIn_25 : decode cX3_dueIn 25 = .ok (.getfield 83, 3) := by decide +kernel
theorem dX3_dueIn_28 : decode cX3_dueIn 28 = .ok (.iload 4, 2) := by decide +kernel
theorem dX3_dueIn_30 : decode cX3_dueIn 30 = .ok (.iaload, 1) := by decide +kernel
theorem dX3_dueIn_31 : decode cX3_dueIn 31 = .ok (.iload_n 2, 1) := by decide +kernel
theorem dX3_dueIn_32 : decode cX3_dueIn 32 = .ok (.if_icmp .ne 67, 3) := by decide +kernel
theorem dX3_dueIn_35 : decode cX3_dueIn 35 = .ok (.aload_n 0, 1) := by decide +kernel
theorem dX3_dueIn_36 : decode cX3_dueIn 36 = .ok (.getfield 28, 3) := by decide +kernel
theorem dX3_dueIn_39 : decode cX3_dueIn 39 = .ok (.iload 4, 2) := by decide +kernel
theorem dX3_dueIn_41 : decode cX3_dueIn 41 = .ok (.ishr, 1) := by decide +kernel
theorem dX3_dueIn_42 : decode cX3_dueIn 42 = .ok (.iconst 1, 1) := by decide +kernel
theorem dX3_dueIn_43 : decode cX3_dueIn 43 = .ok (.iand, 1) := by decide +kernel
theorem dX3_dueIn_44 : decode cX3_dueIn 44 = .ok (.ifCond .ne 55, 3) := by decide +kernel
theorem dX3_dueIn_47 : decode cX3_dueIn 47 = .ok (.iload 5, 2) := by decide +kernel
theorem dX3_dueIn_49 : decode cX3_dueIn 49 = .ok (.ifCond .le 50, 3) := by decide +kernel
theorem dX3_dueIn_52 : decode cX3_dueIn 52 = .ok (.aload_n 1, 1) := by decide +kernel
theorem dX3_dueIn_53 : decode cX3_dueIn 53 = .ok (.getfield 118, 3) := by decide +kernel
theorem dX3_dueIn_56 : decode cX3_dueIn 56 = .ok (.iload 4, 2) := by decide +kernel
theorem dX3_dueIn_58 : decode cX3_dueIn 58 = .ok (.iaload, 1) := by decide +kernel
theorem dX3_dueIn_59 : decode cX3_dueIn 59 = .ok (.aload_n 0, 1) := by decide +kernel
theorem dX3_dueIn_60 : decode cX3_dueIn 60 = .ok (.getfield 9, 3) := by decide +kernel
theorem dX3_dueIn_63 : decode cX3_dueIn 63 = .ok (.iload 5, 2) := by decide +kernel
theorem dX3_dueIn_65 : decode cX3_dueIn 65 = .ok (.irem, 1) := by decide +kernel
theorem dX3_dueIn_66 : decode cX3_dueIn 66 = .ok (.isub, 1) := by decide +kernel
theorem dX3_dueIn_67 : decode cX3_dueIn 67 = .ok (.istore 6, 2) := by decide +kernel
theorem dX3_dueIn_69 : decode cX3_dueIn 69 = .ok (.iload 6, 2) := by decide +kernel
theorem dX3_dueIn_71 : decode cX3_dueIn 71 = .ok (.ifCond .ge 11, 3) := by decide +kernel
theorem dX3_dueIn_74 : decode cX3_dueIn 74 = .ok (.iload 6, 2) := by decide +kernel
theorem dX3_dueIn_76 : decode cX3_dueIn 76 = .ok (.iload 5, 2) := by decide +kernel
theorem dX3_dueIn_78 : decode cX3_dueIn 78 = .ok (.iadd, 1) := by decide +kernel
theorem dX3_dueIn_79 : decode cX3_dueIn 79 = .ok (.goto 5, 3) := by decide +kernel
theorem dX3_dueIn_82 : decode cX3_dueIn 82 = .ok (.iload 6, 2) := by decide +kernel
theorem dX3_dueIn_84 : decode cX3_dueIn 84 = .ok (.istore 6, 2) := by decide +kernel
theorem dX3_dueIn_86 : decode cX3_dueIn 86 = .ok (.iload 6, 2) := by decide +kernel
theorem dX3_dueIn_88 : decode cX3_dueIn 88 = .ok (.iload_n 3, 1) := by decide +kernel
theorem dX3_dueIn_89 : decode cX3_dueIn 89 = .ok (.if_icmp .ge 8, 3) := by decide +kernel
theorem dX3_dueIn_92 : decode cX3_dueIn 92 = .ok (.iload 6, 2) := by decide +kernel
theorem dX3_dueIn_94 : decode cX3_dueIn 94 = .ok (.goto 4, 3) := by decide +kernel
theorem dX3_dueIn_97 : decode cX3_dueIn 97 = .ok (.iload_n 3, 1) := by decide +kernel
theorem dX3_dueIn_98 : decode cX3_dueIn 98 = .ok (.istore_n 3, 1) := by decide +kernel
theorem dX3_dueIn_99 : decode cX3_dueIn 99 = .ok (.iinc 4 1, 3) := by decide +kernel
theorem dX3_dueIn_102 : decode cX3_dueIn 102 = .ok (.goto (-96), 3) := by decide +kernel
theorem dX3_dueIn_105 : decode cX3_dueIn 105 = .ok (.iload_n 3, 1) := by decide +kernel
theorem dX3_dueIn_106 : decode cX3_dueIn 106 = .ok (.ireturn, 1) := by decide +kernel
theorem dX3_needsRound_0 : decode cX3_needsRound 0 = .ok (.iconst 0, 1) := by decide +kernel
theorem dX3_needsRound_1 : decode cX3_needsRound 1 = .ok (.istore_n 3, 1) := by decide +kernel
theorem dX3_needsRound_2 : decode cX3_needsRound 2 = .ok (.iload_n 3, 1) := by decide +kernel
theorem dX3_needsRound_3 : decode cX3_needsRound 3 = .ok (.aload_n 1, 1) := by decide +kernel
theorem dX3_needsRound_4 : decode cX3_needsRound 4 = .ok (.getfield 72, 3) := by decide +kernel
theorem dX3_needsRound_7 : decode cX3_needsRound 7 = .ok (.if_icmp .ge 39, 3) := by decide +kernel
theorem dX3_needsRound_10 : decode cX3_needsRound 10 = .ok (.aload_n 1, 1) := by decide +kernel
theorem dX3_needsRound_11 : decode cX3_needsRound 11 = .ok (.getfield 111, 3) := by decide +kernel
theorem dX3_needsRound_14 : decode cX3_needsRound 14 = .ok (.iload_n 3, 1) := by decide +kernel
theorem dX3_needsRound_15 : decode cX3_needsRound 15 = .ok (.iaload, 1) := by decide +kernel
theorem dX3_needsRound_16 : decode cX3_needsRound 16 = .ok (.istore 4, 2) := by decide +kernel
theorem dX3_needsRound_18 : decode cX3_needsRound 18 = .ok (.aload_n 0, 1) := by decide +kernel
theorem dX3_needsRound_19 : decode cX3_needsRound 19 = .ok (.iload_n 3, 1) := by decide +kernel
theorem dX3_needsRound_20 : decode cX3_needsRound 20 = .ok (.invokevirtual 114, 3) := by decide +kernel
theorem dX3_needsRound_23 : decode cX3_needsRound 23 = .ok (.ifCond .ne 17, 3) := by decide +kernel
theorem dX3_needsRound_26 : decode cX3_needsRound 26 = .ok (.iload 4, 2) := by decide +kernel
theorem dX3_needsRound_28 : decode cX3_needsRound 28 = .ok (.ifCond .le 12, 3) := by decide +kernel
theorem dX3_needsRound_31 : decode cX3_needsRound 31 = .ok (.iload_n 2, 1) := by decide +kernel
theorem dX3_needsRound_32 : decode cX3_needsRound 32 = .ok (.iload 4, 2) := by decide +kernel
theorem dX3_needsRound_34 : decode cX3_needsRound 34 = .ok (.irem, 1) := by decide +kernel
theorem dX3_needsRound_35 : decode cX3_needsRound 35 = .ok (.ifCond .eq 5, 3) := by decide +kernel
theorem dX3_needsRound_38 : decode cX3_needsRound 38 = .ok (.iconst 0, 1) := by decide +kernel
theorem dX3_needsRound_39 : decode cX3_needsRound 39 = .ok (.ireturn, 1) := by decide +kernel
theorem dX3_needsRound_40 : decode cX3_needsRound 40 = .ok (.iinc 3 1, 3) := by decide +kernel
theorem dX3_needsRound_43 : decode cX3_needsRound 43 = .ok (.goto (-41), 3) := by decide +kernel
theorem dX3_needsRound_46 : decode cX3_needsRound 46 = .ok (.iconst 1, 1) := by decide +kernel
theorem dX3_needsRound_47 : decode cX3_needsRound 47 = .ok (.ireturn, 1) := by decide +kernel
theorem dX3_catsOn_0 : decode cX3_catsOn 0 = .ok (.iconst 0, 1) := by decide +kernel
theorem dX3_catsOn_1 : decode cX3_catsOn 1 = .ok (.istore_n 3, 1) := by decide +kernel
theorem dX3_catsOn_2 : decode cX3_catsOn 2 = .ok (.iconst 0, 1) := by decide +kernel
theorem dX3_catsOn_3 : decode cX3_catsOn 3 = .ok (.istore 4, 2) := by decide +kernel
theorem dX3_catsOn_5 : decode cX3_catsOn 5 = .ok (.iload 4, 2) := by decide +kernel
theorem dX3_catsOn_7 : decode cX3_catsOn 7 = .ok (.aload_n 1, 1) := by decide +kernel
theorem dX3_catsOn_8 : decode cX3_catsOn 8 = .ok (.getfield 57, 3) := by decide +kernel
theorem dX3_catsOn_11 : decode cX3_catsOn 11 = .ok (.if_icmp .ge 27, 3) := by decide +kernel
theorem dX3_catsOn_14 : decode cX3_catsOn 14 = .ok (.aload_n 0, 1) := by decide +kernel
theorem dX3_catsOn_15 : decode cX3_catsOn 15 = .ok (.getfield 22, 3) := by decide +kernel
theorem dX3_catsOn_18 : decode cX3_catsOn 18 = .ok (.iload 4, 2) := by decide +kernel
theorem dX3_catsOn_20 : decode cX3_catsOn 20 = .ok (.iaload, 1) := by decide +kernel
theorem dX3_catsOn_21 : decode cX3_catsOn 21 = .ok (.iload_n 2, 1) := by decide +kernel
theorem dX3_catsOn_22 : decode cX3_catsOn 22 = .ok (.if_icmp .ne 10, 3) := by decide +kernel
theorem dX3_catsOn_25 : decode cX3_catsOn 25 = .ok (.iload_n 3, 1) := by decide +kernel
theorem dX3_catsOn_26 : decode cX3_catsOn 26 = .ok (.iconst 1, 1) := by decide +kernel
theorem dX3_catsOn_27 : decode cX3_catsOn 27 = .ok (.iload 4, 2) := by decide +kernel
theorem dX3_catsOn_29 : decode cX3_catsOn 29 = .ok (.ishl, 1) := by decide +kernel
theorem dX3_catsOn_30 : decode cX3_catsOn 30 = .ok (.ior, 1) := by decide +kernel
theorem dX3_catsOn_31 : decode cX3_catsOn 31 = .ok (.istore_n 3, 1) := by decide +kernel
theorem dX3_catsOn_32 : decode cX3_catsOn 32 = .ok (.iinc 4 1, 3) := by decide +kernel
theorem dX3_catsOn_35 : decode cX3_catsOn 35 = .ok (.goto (-30), 3) := by decide +kernel
theorem dX3_catsOn_38 : decode cX3_catsOn 38 = .ok (.iload_n 3, 1) := by decide +kernel
theorem dX3_catsOn_39 : decode cX3_catsOn 39 = .ok (.ireturn, 1) := by decide +kernel
theorem dX3_catsAsNumber_0 : decode cX3_catsAsNumber 0 = .ok (.iconst 0, 1) := by decide +kernel
theorem dX3_catsAsNumber_1 : decode cX3_catsAsNumber 1 = .ok (.istore_n 2, 1) := by decide +kernel
theorem dX3_catsAsNumber_2 : decode cX3_catsAsNumber 2 = .ok (.iconst 0, 1) := by decide +kernel
theorem dX3_catsAsNumber_3 : decode cX3_catsAsNumber 3 = .ok (.istore_n 3, 1) := by decide +kernel
theorem dX3_catsAsNumber_4 : decode cX3_catsAsNumber 4 = .ok (.iload_n 3, 1) := by decide +kernel
theorem dX3_catsAsNumber_5 : decode cX3_catsAsNumber 5 = .ok (.aload_n 1, 1) := by decide +kernel
theorem dX3_catsAsNumber_6 : decode cX3_catsAsNumber 6 = .ok (.getfield 57, 3) := by decide +kernel
theorem dX3_catsAsNumber_9 : decode cX3_catsAsNumber 9 = .ok (.if_icmp .ge 32, 3) := by decide +kernel
theorem dX3_catsAsNumber_12 : decode cX3_catsAsNumber 12 = .ok (.iload_n 2, 1) := by decide +kernel
theorem dX3_catsAsNumber_13 : decode cX3_catsAsNumber 13 = .ok (.bipush 8, 2) := by decide +kernel
theorem dX3_catsAsNumber_15 : decode cX3_catsAsNumber 15 = .ok (.ishl, 1) := by decide +kernel
theorem dX3_catsAsNumber_16 : decode cX3_catsAsNumber 16 = .ok (.aload_n 0, 1) := by decide +kernel
theorem dX3_catsAsNumber_17 : decode cX3_catsAsNumber 17 = .ok (.getfield 19, 3) := by decide +kernel
theorem dX3_catsAsNumber_20 : decode cX3_catsAsNumber 20 = .ok (.iload_n 3, 1) := by decide +kernel
theorem dX3_catsAsNumber_21 : decode cX3_catsAsNumber 21 = .ok (.iaload, 1) := by decide +kernel
theorem dX3_catsAsNumber_22 : decode cX3_catsAsNumber 22 = .ok (.iconst 3, 1) := by decide +kernel
theorem dX3_catsAsNumber_23 : decode cX3_catsAsNumber 23 = .ok (.ishl, 1) := by decide +kernel
theorem dX3_catsAsNumber_24 : decode cX3_catsAsNumber 24 = .ok (.ior, 1) := by decide +kernel
theorem dX3_catsAsNumber_25 : decode cX3_catsAsNumber 25 = .ok (.aload_n 0, 1) := by decide +kernel
theorem dX3_catsAsNumber_26 : decode cX3_catsAsNumber 26 = .ok (.getfield 22, 3) := by decide +kernel
theorem dX3_catsAsNumber_29 : decode cX3_catsAsNumber 29 = .ok (.iload_n 3, 1) := by decide +kernel
theorem dX3_catsAsNumber_30 : decode cX3_catsAsNumber 30 = .ok (.iaload, 1) := by decide +kernel
theorem dX3_catsAsNumber_31 : decode cX3_catsAsNumber 31 = .ok (.iconst 1, 1) := by decide +kernel
theorem dX3_catsAsNumber_32 : decode cX3_catsAsNumber 32 = .ok (.iadd, 1) := by decide +kernel
theorem dX3_catsAsNumber_33 : decode cX3_catsAsNumber 33 = .ok (.ior, 1) := by decide +kernel
theorem dX3_catsAsNumber_34 : decode cX3_catsAsNumber 34 = .ok (.istore_n 2, 1) := by decide +kernel
theorem dX3_catsAsNumber_35 : decode cX3_catsAsNumber 35 = .ok (.iinc 3 1, 3) := by decide +kernel
theorem dX3_catsAsNumber_38 : decode cX3_catsAsNumber 38 = .ok (.goto (-34), 3) := by decide +kernel
theorem dX3_catsAsNumber_41 : decode cX3_catsAsNumber 41 = .ok (.iload_n 2, 1) := by decide +kernel
theorem dX3_catsAsNumber_42 : decode cX3_catsAsNumber 42 = .ok (.ireturn, 1) := by decide +kernel
theorem dX3_metOf_0 : decode cX3_metOf 0 = .ok (.iconst 0, 1) := by decide +kernel
theorem dX3_metOf_1 : decode cX3_metOf 1 = .ok (.istore_n 3, 1) := by decide +kernel
theorem dX3_metOf_2 : decode cX3_metOf 2 = .ok (.iconst 0, 1) := by decide +kernel
theorem dX3_metOf_3 : decode cX3_metOf 3 = .ok (.istore 4, 2) := by decide +kernel
theorem dX3_metOf_5 : decode cX3_metOf 5 = .ok (.iload 4, 2) := by decide +kernel
theorem dX3_metOf_7 : decode cX3_metOf 7 = .ok (.aload_n 1, 1) := by decide +kernel
theorem dX3_metOf_8 : decode cX3_metOf 8 = .ok (.getfield 72, 3) := by decide +kernel
theorem dX3_metOf_11 : decode cX3_metOf 11 = .ok (.if_icmp .ge 34, 3) := by decide +kernel
theorem dX3_metOf_14 : decode cX3_metOf 14 = .ok (.iload_n 3, 1) := by decide +kernel
theorem dX3_metOf_15 : decode cX3_metOf 15 = .ok (.aload_n 1, 1) := by decide +kernel
theorem dX3_metOf_16 : decode cX3_metOf 16 = .ok (.getfield 83, 3) := by decide +kernel
theorem dX3_metOf_19 : decode cX3_metOf 19 = .ok (.iload 4, 2) := by decide +kernel
theorem dX3_metOf_21 : decode cX3_metOf 21 = .ok (.iaload, 1) := by decide +kernel
theorem dX3_metOf_22 : decode cX3_metOf 22 = .ok (.iload_n 2, 1) := by decide +kernel
theorem dX3_metOf_23 : decode cX3_metOf 23 = .ok (.if_icmp .ne 13, 3) := by decide +kernel
theorem dX3_metOf_26 : decode cX3_metOf 26 = .ok (.aload_n 0, 1) := by decide +kernel
theorem dX3_metOf_27 : decode cX3_metOf 27 = .ok (.getfield 31, 3) := by decide +kernel
theorem dX3_metOf_30 : decode cX3_metOf 30 = .ok (.iload 4, 2) := by decide +kernel
theorem dX3_metOf_32 : decode cX3_metOf 32 = .ok (.iaload, 1) := by decide +kernel
theorem dX3_metOf_33 : decode cX3_metOf 33 = .ok (.goto 4, 3) := by decide +kernel
theorem dX3_metOf_36 : decode cX3_metOf 36 = .ok (.iconst 0, 1) := by decide +kernel
theorem dX3_metOf_37 : decode cX3_metOf 37 = .ok (.iadd, 1) := by decide +kernel
theorem dX3_metOf_38 : decode cX3_metOf 38 = .ok (.istore_n 3, 1) := by decide +kernel
theorem dX3_metOf_39 : decode cX3_metOf 39 = .ok (.iinc 4 1, 3) := by decide +kernel
theorem dX3_metOf_42 : decode cX3_metOf 42 = .ok (.goto (-37), 3) := by decide +kernel
theorem dX3_metOf_45 : decode cX3_metOf 45 = .ok (.iload_n 3, 1) := by decide +kernel
theorem dX3_metOf_46 : decode cX3_metOf 46 = .ok (.ireturn, 1) := by decide +kernel
theorem dX3_lostOf_0 : decode cX3_lostOf 0 = .ok (.iconst 0, 1) := by decide +kernel
theorem dX3_lostOf_1 : decode cX3_lostOf 1 = .ok (.istore_n 3, 1) := by decide +kernel
theorem dX3_lostOf_2 : decode cX3_lostOf 2 = .ok (.iconst 0, 1) := by decide +kernel
theorem dX3_lostOf_3 : decode cX3_lostOf 3 = .ok (.istore 4, 2) := by decide +kernel
theorem dX3_lostOf_5 : decode cX3_lostOf 5 = .ok (.iload 4, 2) := by decide +kernel
theorem dX3_lostOf_7 : decode cX3_lostOf 7 = .ok (.aload_n 1, 1) := by decide +kernel
theorem dX3_lostOf_8 : decode cX3_lostOf 8 = .ok (.getfield 72, 3) := by decide +kernel
theorem dX3_lostOf_11 : decode cX3_lostOf 11 = .ok (.if_icmp .ge 34, 3) := by decide +kernel
theorem dX3_lostOf_14 : decode cX3_lostOf 14 = .ok (.iload_n 3, 1) := by decide +kernel
theorem dX3_lostOf_15 : decode cX3_lostOf 15 = .ok (.aload_n 1, 1) := by decide +kernel
theorem dX3_lostOf_16 : decode cX3_lostOf 16 = .ok (.getfield 83, 3) := by decide +kernel
theorem dX3_lostOf_19 : decode cX3_lostOf 19 = .ok (.iload 4, 2) := by decide +kernel
theorem dX3_lostOf_21 : decode cX3_lostOf 21 = .ok (.iaload, 1) := by decide +kernel
theorem dX3_lostOf_22 : decode cX3_lostOf 22 = .ok (.iload_n 2, 1) := by decide +kernel
theorem dX3_lostOf_23 : decode cX3_lostOf 23 = .ok (.if_icmp .ne 13, 3) := by decide +kernel
theorem dX3_lostOf_26 : decode cX3_lostOf 26 = .ok (.aload_n 0, 1) := by decide +kernel
theorem dX3_lostOf_27 : decode cX3_lostOf 27 = .ok (.getfield 34, 3) := by decide +kernel
theorem dX3_lostOf_30 : decode cX3_lostOf 30 = .ok (.iload 4, 2) := by decide +kernel
theorem dX3_lostOf_32 : decode cX3_lostOf 32 = .ok (.iaload, 1) := by decide +kernel
theorem dX3_lostOf_33 : decode cX3_lostOf 33 = .ok (.goto 4, 3) := by decide +kernel
theorem dX3_lostOf_36 : decode cX3_lostOf 36 = .ok (.iconst 0, 1) := by decide +kernel
theorem dX3_lostOf_37 : decode cX3_lostOf 37 = .ok (.iadd, 1) := by decide +kernel
theorem dX3_lostOf_38 : decode cX3_lostOf 38 = .ok (.istore_n 3, 1) := by decide +kernel
theorem dX3_lostOf_39 : decode cX3_lostOf 39 = .ok (.iinc 4 1, 3) := by decide +kernel
theorem dX3_lostOf_42 : decode cX3_lostOf 42 = .ok (.goto (-37), 3) := by decide +kernel
theorem dX3_lostOf_45 : decode cX3_lostOf 45 = .ok (.iload_n 3, 1) := by decide +kernel
theorem dX3_lostOf_46 : decode cX3_lostOf 46 = .ok (.ireturn, 1) := by decide +kernel
theorem dX3_metInAll_0 : decode cX3_metInAll 0 = .ok (.iconst 0, 1) := by decide +kernel
theorem dX3_metInAll_1 : decode cX3_metInAll 1 = .ok (.istore_n 2, 1) := by decide +kernel
theorem dX3_metInAll_2 : decode cX3_metInAll 2 = .ok (.iconst 0, 1) := by decide +kernel
theorem dX3_metInAll_3 : decode cX3_metInAll 3 = .ok (.istore_n 3, 1) := by decide +kernel
theorem dX3_metInAll_4 : decode cX3_metInAll 4 = .ok (.iload_n 3, 1) := by decide +kernel
theorem dX3_metInAll_5 : decode cX3_metInAll 5 = .ok (.aload_n 1, 1) := by decide +kernel
theorem dX3_metInAll_6 : decode cX3_metInAll 6 = .ok (.getfield 72, 3) := by decide +kernel
theorem dX3_metInAll_9 : decode cX3_metInAll 9 = .ok (.if_icmp .ge 18, 3) := by decide +kernel
theorem dX3_metInAll_12 : decode cX3_metInAll 12 = .ok (.iload_n 2, 1) := by decide +kernel
theorem dX3_metInAll_13 : decode cX3_metInAll 13 = .ok (.aload_n 0, 1) := by decide +kernel
theorem dX3_metInAll_14 : decode cX3_metInAll 14 = .ok (.getfield 31, 3) := by decide +kernel
theorem dX3_metInAll_17 : decode cX3_metInAll 17 = .ok (.iload_n 3, 1) := by decide +kernel
theorem dX3_metInAll_18 : decode cX3_metInAll 18 = .ok (.iaload, 1) := by decide +kernel
theorem dX3_metInAll_19 : decode cX3_metInAll 19 = .ok (.iadd, 1) := by decide +kernel
theorem dX3_metInAll_20 : decode cX3_metInAll 20 = .ok (.istore_n 2, 1) := by decide +kernel
theorem dX3_metInAll_21 : decode cX3_metInAll 21 = .ok (.iinc 3 1, 3) := by decide +kernel
theorem dX3_metInAll_24 : decode cX3_metInAll 24 = .ok (.goto (-20), 3) := by decide +kernel
theorem dX3_metInAll_27 : decode cX3_metInAll 27 = .ok (.iload_n 2, 1) := by decide +kernel
theorem dX3_metInAll_28 : decode cX3_metInAll 28 = .ok (.ireturn, 1) := by decide +kernel
theorem dX3_lostInAll_0 : decode cX3_lostInAll 0 = .ok (.iconst 0, 1) := by decide +kernel
theorem dX3_lostInAll_1 : decode cX3_lostInAll 1 = .ok (.istore_n 2, 1) := by decide +kernel
theorem dX3_lostInAll_2 : decode cX3_lostInAll 2 = .ok (.iconst 0, 1) := by decide +kernel
theorem dX3_lostInAll_3 : decode cX3_lostInAll 3 = .ok (.istore_n 3, 1) := by decide +kernel
theorem dX3_lostInAll_4 : decode cX3_lostInAll 4 = .ok (.iload_n 3, 1) := by decide +kernel
theorem dX3_lostInAll_5 : decode cX3_lostInAll 5 = .ok (.aload_n 1, 1) := by decide +kernel
theorem dX3_lostInAll_6 : decode cX3_lostInAll 6 = .ok (.getfield 72, 3) := by decide +kernel
theorem dX3_lostInAll_9 : decode cX3_lostInAll 9 = .ok (.if_icmp .ge 18, 3) := by decide +kernel
theorem dX3_lostInAll_12 : decode cX3_lostInAll 12 = .ok (.iload_n 2, 1) := by decide +kernel
theorem dX3_lostInAll_13 : decode cX3_lostInAll 13 = .ok (.aload_n 0, 1) := by decide +kernel
theorem dX3_lostInAll_14 : decode cX3_lostInAll 14 = .ok (.getfield 34, 3) := by decide +kernel
theorem dX3_lostInAll_17 : decode cX3_lostInAll 17 = .ok (.iload_n 3, 1) := by decide +kernel
theorem dX3_lostInAll_18 : decode cX3_lostInAll 18 = .ok (.iaload, 1) := by decide +kernel
theorem dX3_lostInAll_19 : decode cX3_lostInAll 19 = .ok (.iadd, 1) := by decide +kernel
theorem dX3_lostInAll_20 : decode cX3_lostInAll 20 = .ok (.istore_n 2, 1) := by decide +kernel
theorem dX3_lostInAll_21 : decode cX3_lostInAll 21 = .ok (.iinc 3 1, 3) := by decide +kernel
theorem dX3_lostInAll_24 : decode cX3_lostInAll 24 = .ok (.goto (-20), 3) := by decide +kernel
theorem dX3_lostInAll_27 : decode cX3_lostInAll 27 = .ok (.iload_n 2, 1) := by decide +kernel
theorem dX3_lostInAll_28 : decode cX3_lostInAll 28 = .ok (.ireturn, 1) := by decide +kernel
theorem dX3_gain_0 : decode cX3_gain 0 = .ok (.aload_n 0, 1) := by decide +kernel
theorem dX3_gain_1 : decode cX3_gain 1 = .ok (.getfield 22, 3) := by decide +kernel
theorem dX3_gain_4 : decode cX3_gain 4 = .ok (.iload_n 2, 1) := by decide +kernel
theorem dX3_gain_5 : decode cX3_gain 5 = .ok (.iaload, 1) := by decide +kernel
theorem dX3_gain_6 : decode cX3_gain 6 = .ok (.iconst (-1), 1) := by decide +kernel
theorem dX3_gain_7 : decode cX3_gain 7 = .ok (.if_icmp .ne 5, 3) := by decide +kernel
theorem dX3_gain_10 : decode cX3_gain 10 = .ok (.iconst 0, 1) := by decide +kernel
theorem dX3_gain_11 : decode cX3_gain 11 = .ok (.ireturn, 1) := by decide +kernel
theorem dX3_gain_12 : decode cX3_gain 12 = .ok (.iconst 1, 1) := by decide +kernel
theorem dX3_gain_13 : decode cX3_gain 13 = .ok (.istore_n 3, 1) := by decide +kernel
theorem dX3_gain_14 : decode cX3_gain 14 = .ok (.iconst 0, 1) := by decide +kernel
theorem dX3_gain_15 : decode cX3_gain 15 = .ok (.istore 4, 2) := by decide +kernel
theorem dX3_gain_17 : decode cX3_gain 17 = .ok (.iload 4, 2) := by decide +kernel
theorem dX3_gain_19 : decode cX3_gain 19 = .ok (.aload_n 1, 1) := by decide +kernel
theorem dX3_gain_20 : decode cX3_gain 20 = .ok (.getfield 72, 3) := by decide +kernel
theorem dX3_gain_23 : decode cX3_gain 23 = .ok (.if_icmp .ge 40, 3) := by decide +kernel
theorem dX3_gain_26 : decode cX3_gain 26 = .ok (.aload_n 1, 1) := by decide +kernel
theorem dX3_gain_27 : decode cX3_gain 27 = .ok (.getfield 83, 3) := by decide +kernel
theorem dX3_gain_30 : decode cX3_gain 30 = .ok (.iload 4, 2) := by decide +kernel
theorem dX3_gain_32 : decode cX3_gain 32 = .ok (.iaload, 1) := by decide +kernel
theorem dX3_gain_33 : decode cX3_gain 33 = .ok (.aload_n 0, 1) := by decide +kernel
theorem dX3_gain_34 : decode cX3_gain 34 = .ok (.getfield 22, 3) := by decide +kernel
theorem dX3_gain_37 : decode cX3_gain 37 = .ok (.iload_n 2, 1) := by decide +kernel
theorem dX3_gain_38 : decode cX3_gain 38 = .ok (.iaload, 1) := by decide +kernel
theorem dX3_gain_39 : decode cX3_gain 39 = .ok (.if_icmp .ne 18, 3) := by decide +kernel
theorem dX3_gain_42 : decode cX3_gain 42 = .ok (.aload_n 0, 1) := by decide +kernel
theorem dX3_gain_43 : decode cX3_gain 43 = .ok (.getfield 43, 3) := by decide +kernel
theorem dX3_gain_46 : decode cX3_gain 46 = .ok (.iload 4, 2) := by decide +kernel
theorem dX3_gain_48 : decode cX3_gain 48 = .ok (.ishr, 1) := by decide +kernel
theorem dX3_gain_49 : decode cX3_gain 49 = .ok (.iconst 1, 1) := by decide +kernel
theorem dX3_gain_50 : decode cX3_gain 50 = .ok (.iand, 1) := by decide +kernel
theorem dX3_gain_51 : decode cX3_gain 51 = .ok (.ifCond .eq 6, 3) := by decide +kernel
theorem dX3_gain_54 : decode cX3_gain 54 = .ok (.iinc 3 2, 3) := by decide +kernel
theorem dX3_gain_57 : decode cX3_gain 57 = .ok (.iinc 4 1, 3) := by decide +kernel
theorem dX3_gain_60 : decode cX3_gain 60 = .ok (.goto (-43), 3) := by decide +kernel
theorem dX3_gain_63 : decode cX3_gain 63 = .ok (.iload_n 3, 1) := by decide +kernel
theorem dX3_gain_64 : decode cX3_gain 64 = .ok (.ireturn, 1) := by decide +kernel
theorem dX3_sendAway_0 : decode cX3_sendAway 0 = .ok (.aload_n 0, 1) := by decide +kernel
theorem dX3_sendAway_1 : decode cX3_sendAway 1 = .ok (.iload_n 1, 1) := by decide +kernel
theorem dX3_sendAway_2 : decode cX3_sendAway 2 = .ok (.putfield 37, 3) := by decide +kernel
theorem dX3_sendAway_5 : decode cX3_sendAway 5 = .ok (.iload_n 1, 1) := by decide +kernel
theorem dX3_sendAway_6 : decode cX3_sendAway 6 = .ok (.ifCond .lt 15, 3) := by decide +kernel
theorem dX3_sendAway_9 : decode cX3_sendAway 9 = .ok (.iload_n 1, 1) := by decide +kernel
theorem dX3_sendAway_10 : decode cX3_sendAway 10 = .ok (.iconst 3, 1) := by decide +kernel
theorem dX3_sendAway_11 : decode cX3_sendAway 11 = .ok (.if_icmp .ge 10, 3) := by decide +kernel
theorem dX3_sendAway_14 : decode cX3_sendAway 14 = .ok (.aload_n 0, 1) := by decide +kernel
theorem dX3_sendAway_15 : decode cX3_sendAway 15 = .ok (.getfield 22, 3) := by decide +kernel
theorem dX3_sendAway_18 : decode cX3_sendAway 18 = .ok (.iload_n 1, 1) := by decide +kernel
theorem dX3_sendAway_19 : decode cX3_sendAway 19 = .ok (.iconst (-1), 1) := by decide +kernel
theorem dX3_sendAway_20 : decode cX3_sendAway 20 = .ok (.iastore, 1) := by decide +kernel
theorem dX3_sendAway_21 : decode cX3_sendAway 21 = .ok (.return_, 1) := by decide +kernel
theorem dX3_shift_0 : decode cX3_shift 0 = .ok (.aload_n 0, 1) := by decide +kernel
theorem dX3_shift_1 : decode cX3_shift 1 = .ok (.getfield 15, 3) := by decide +kernel
theorem dX3_shift_4 : decode cX3_shift 4 = .ok (.iload_n 2, 1) := by decide +kernel
theorem dX3_shift_5 : decode cX3_shift 5 = .ok (.iload_n 3, 1) := by decide +kernel
theorem dX3_shift_6 : decode cX3_shift 6 = .ok (.iastore, 1) := by decide +kernel
theorem dX3_shift_7 : decode cX3_shift 7 = .ok (.iconst 0, 1) := by decide +kernel
theorem dX3_shift_8 : decode cX3_shift 8 = .ok (.istore 4, 2) := by decide +kernel
theorem dX3_shift_10 : decode cX3_shift 10 = .ok (.iload 4, 2) := by decide +kernel
theorem dX3_shift_12 : decode cX3_shift 12 = .ok (.aload_n 1, 1) := by decide +kernel
theorem dX3_shift_13 : decode cX3_shift 13 = .ok (.getfield 57, 3) := by decide +kernel
theorem dX3_shift_16 : decode cX3_shift 16 = .ok (.if_icmp .ge 28, 3) := by decide +kernel
theorem dX3_shift_19 : decode cX3_shift 19 = .ok (.aload_n 0, 1) := by decide +kernel
theorem dX3_shift_20 : decode cX3_shift 20 = .ok (.getfield 22, 3) := by decide +kernel
theorem dX3_shift_23 : decode cX3_shift 23 = .ok (.iload 4, 2) := by decide +kernel
theorem dX3_shift_25 : decode cX3_shift 25 = .ok (.iaload, 1) := by decide +kernel
theorem dX3_shift_26 : decode cX3_shift 26 = .ok (.iload_n 2, 1) := by decide +kernel
theorem dX3_shift_27 : decode cX3_shift 27 = .ok (.if_icmp .ne 11, 3) := by decide +kernel
theorem dX3_shift_30 : decode cX3_shift 30 = .ok (.aload_n 0, 1) := by decide +kernel
theorem dX3_shift_31 : decode cX3_shift 31 = .ok (.getfield 22, 3) := by decide +kernel
theorem dX3_shift_34 : decode cX3_shift 34 = .ok (.iload 4, 2) := by decide +kernel
theorem dX3_shift_36 : decode cX3_shift 36 = .ok (.iconst (-1), 1) := by decide +kernel
theorem dX3_shift_37 : decode cX3_shift 37 = .ok (.iastore, 1) := by decide +kernel
theorem dX3_shift_38 : decode cX3_shift 38 = .ok (.iinc 4 1, 3) := by decide +kernel
theorem dX3_shift_41 : decode cX3_shift 41 = .ok (.goto (-31), 3) := by decide +kernel
theorem dX3_shift_44 : decode cX3_shift 44 = .ok (.return_, 1) := by decide +kernel
theorem dX3_wordValue_0 : decode cX3_wordValue 0 = .ok (.iload_n 2, 1) := by decide +kernel
theorem dX3_wordValue_1 : decode cX3_wordValue 1 = .ok (.tableswitch 151 0 9 #[55, 58, 62, 81, 90, 98, 106, 115, 133, 142], 55) := by decide +kernel
theorem dX3_wordValue_56 : decode cX3_wordValue 56 = .ok (.iload_n 3, 1) := by decide +kernel
theorem dX3_wordValue_57 : decode cX3_wordValue 57 = .ok (.i2l, 1) := by decide +kernel
theorem dX3_wordValue_58 : decode cX3_wordValue 58 = .ok (.lreturn, 1) := by decide +kernel
theorem dX3_wordValue_59 : decode cX3_wordValue 59 = .ok (.iload 4, 2) := by decide +kernel
theorem dX3_wordValue_61 : decode cX3_wordValue 61 = .ok (.i2l, 1) := by decide +kernel
theorem dX3_wordValue_62 : decode cX3_wordValue 62 = .ok (.lreturn, 1) := by decide +kernel
theorem dX3_wordValue_63 : decode cX3_wordValue 63 = .ok (.aload_n 0, 1) := by decide +kernel
theorem dX3_wordValue_64 : decode cX3_wordValue 64 = .ok (.getfield 15, 3) := by decide +kernel
theorem dX3_wordValue_67 : decode cX3_wordValue 67 = .ok (.iload 4, 2) := by decide +kernel
theorem dX3_wordValue_69 : decode cX3_wordValue 69 = .ok (.iaload, 1) := by decide +kernel
theorem dX3_wordValue_70 : decode cX3_wordValue 70 = .ok (.aload_n 0, 1) := by decide +kernel
theorem dX3_wordValue_71 : decode cX3_wordValue 71 = .ok (.getfield 19, 3) := by decide +kernel
theorem dX3_wordValue_74 : decode cX3_wordValue 74 = .ok (.iload_n 3, 1) := by decide +kernel
theorem dX3_wordValue_75 : decode cX3_wordValue 75 = .ok (.iaload, 1) := by decide +kernel
theorem dX3_wordValue_76 : decode cX3_wordValue 76 = .ok (.isub, 1) := by decide +kernel
theorem dX3_wordValue_77 : decode cX3_wordValue 77 = .ok (.invokestatic 95, 3) := by decide +kernel
theorem dX3_wordValue_80 : decode cX3_wordValue 80 = .ok (.i2l, 1) := by decide +kernel
theorem dX3_wordValue_81 : decode cX3_wordValue 81 = .ok (.lreturn, 1) := by decide +kernel
theorem dX3_wordValue_82 : decode cX3_wordValue 82 = .ok (.aload_n 0, 1) := by decide +kernel
theorem dX3_wordValue_83 : decode cX3_wordValue 83 = .ok (.aload_n 1, 1) := by decide +kernel
theorem dX3_wordValue_84 : decode cX3_wordValue 84 = .ok (.iload 4, 2) := by decide +kernel
theorem dX3_wordValue_86 : decode cX3_wordValue 86 = .ok (.invokevirtual 121, 3) := by decide +kernel
theorem dX3_wordValue_89 : decode cX3_wordValue 89 = .ok (.i2l, 1) := by decide +kernel
theorem dX3_wordValue_90 : decode cX3_wordValue 90 = .ok (.lreturn, 1) := by decide +kernel
theorem dX3_wordValue_91 : decode cX3_wordValue 91 = .ok (.aload_n 0, 1) := by decide +kernel
theorem dX3_wordValue_92 : decode cX3_wordValue 92 = .ok (.getfield 25, 3) := by decide +kernel
theorem dX3_wordValue_95 : decode cX3_wordValue 95 = .ok (.iload_n 3, 1) := by decide +kernel
theorem dX3_wordValue_96 : decode cX3_wordValue 96 = .ok (.iaload, 1) := by decide +kernel
theorem dX3_wordValue_97 : decode cX3_wordValue 97 = .ok (.i2l, 1) := by decide +kernel
theorem dX3_wordValue_98 : decode cX3_wordValue 98 = .ok (.lreturn, 1) := by decide +kernel
theorem dX3_wordValue_99 : decode cX3_wordValue 99 = .ok (.aload_n 1, 1) := by decide +kernel
theorem dX3_wordValue_100 : decode cX3_wordValue 100 = .ok (.getfield 101, 3) := by decide +kernel
theorem dX3_wordValue_103 : decode cX3_wordValue 103 = .ok (.iload_n 3, 1) := by decide +kernel
theorem dX3_wordValue_104 : decode cX3_wordValue 104 = .ok (.iaload, 1) := by decide +kernel
theorem dX3_wordValue_105 : decode cX3_wordValue 105 = .ok (.i2l, 1) := by decide +kernel
theorem dX3_wordValue_106 : decode cX3_wordValue 106 = .ok (.lreturn, 1) := by decide +kernel
theorem dX3_wordValue_107 : decode cX3_wordValue 107 = .ok (.aload_n 1, 1) := by decide +kernel
theorem dX3_wordValue_108 : decode cX3_wordValue 108 = .ok (.getfield 124, 3) := by decide +kernel
theorem dX3_wordValue_111 : decode cX3_wordValue 111 = .ok (.iload 4, 2) := by decide +kernel
theorem dX3_wordValue_113 : decode cX3_wordValue 113 = .ok (.iaload, 1) := by decide +kernel
theorem dX3_wordValue_114 : decode cX3_wordValue 114 = .ok (.i2l, 1) := by decide +kernel
theorem dX3_wordValue_115 : decode cX3_wordValue 115 = .ok (.lreturn, 1) := by decide +kernel
theorem dX3_wordValue_116 : decode cX3_wordValue 116 = .ok (.aload_n 0, 1) := by decide +kernel
theorem dX3_wordValue_117 : decode cX3_wordValue 117 = .ok (.aload_n 1, 1) := by decide +kernel
theorem dX3_wordValue_118 : decode cX3_wordValue 118 = .ok (.iload 4, 2) := by decide +kernel
theorem dX3_wordValue_120 : decode cX3_wordValue 120 = .ok (.invokevirtual 108, 3) := by decide +kernel
theorem dX3_wordValue_123 : decode cX3_wordValue 123 = .ok (.iconst 1, 1) := by decide +kernel
theorem dX3_wordValue_124 : decode cX3_wordValue 124 = .ok (.iload_n 3, 1) := by decide +kernel
theorem dX3_wordValue_125 : decode cX3_wordValue 125 = .ok (.ishl, 1) := by decide +kernel
theorem dX3_wordValue_126 : decode cX3_wordValue 126 = .ok (.iconst (-1), 1) := by decide +kernel
theorem dX3_wordValue_127 : decode cX3_wordValue 127 = .ok (.ixor, 1) := by decide +kernel
theorem dX3_wordValue_128 : decode cX3_wordValue 128 = .ok (.iand, 1) := by decide +kernel
theorem dX3_wordValue_129 : decode cX3_wordValue 129 = .ok (.invokestatic 127, 3) := by decide +kernel
theorem dX3_wordValue_132 : decode cX3_wordValue 132 = .ok (.i2l, 1) := by decide +kernel
theorem dX3_wordValue_133 : decode cX3_wordValue 133 = .ok (.lreturn, 1) := by decide +kernel
theorem dX3_wordValue_134 : decode cX3_wordValue 134 = .ok (.aload_n 0, 1) := by decide +kernel
theorem dX3_wordValue_135 : decode cX3_wordValue 135 = .ok (.aload_n 1, 1) := by decide +kernel
theorem dX3_wordValue_136 : decode cX3_wordValue 136 = .ok (.iload 4, 2) := by decide +kernel
theorem dX3_wordValue_138 : decode cX3_wordValue 138 = .ok (.invokevirtual 132, 3) := by decide +kernel
theorem dX3_wordValue_141 : decode cX3_wordValue 141 = .ok (.i2l, 1) := by decide +kernel
theorem dX3_wordValue_142 : decode cX3_wordValue 142 = .ok (.lreturn, 1) := by decide +kernel
theorem dX3_wordValue_143 : decode cX3_wordValue 143 = .ok (.aload_n 0, 1) := by decide +kernel
theorem dX3_wordValue_144 : decode cX3_wordValue 144 = .ok (.aload_n 1, 1) := by decide +kernel
theorem dX3_wordValue_145 : decode cX3_wordValue 145 = .ok (.iload 4, 2) := by decide +kernel
theorem dX3_wordValue_147 : decode cX3_wordValue 147 = .ok (.invokevirtual 135, 3) := by decide +kernel
theorem dX3_wordValue_150 : decode cX3_wordValue 150 = .ok (.i2l, 1) := by decide +kernel
theorem dX3_wordValue_151 : decode cX3_wordValue 151 = .ok (.lreturn, 1) := by decide +kernel
theorem dX3_wordValue_152 : decode cX3_wordValue 152 = .ok (.aload_n 0, 1) := by decide +kernel
theorem dX3_wordValue_153 : decode cX3_wordValue 153 = .ok (.getfield 9, 3) := by decide +kernel
theorem dX3_wordValue_156 : decode cX3_wordValue 156 = .ok (.i2l, 1) := by decide +kernel
theorem dX3_wordValue_157 : decode cX3_wordValue 157 = .ok (.lreturn, 1) := by decide +kernel
theorem dX4_put_0 : decode cX4_put 0 = .ok (.bipush 24, 2) := by decide +kernel
theorem dX4_put_2 : decode cX4_put 2 = .ok (.istore_n 2, 1) := by decide +kernel
theorem dX4_put_3 : decode cX4_put 3 = .ok (.iload_n 2, 1) := by decide +kernel
theorem dX4_put_4 : decode cX4_put 4 = .ok (.ifCond .lt 47, 3) := by decide +kernel
theorem dX4_put_7 : decode cX4_put 7 = .ok (.aload_n 0, 1) := by decide +kernel
theorem dX4_put_8 : decode cX4_put 8 = .ok (.getfield 15, 3) := by decide +kernel
theorem dX4_put_11 : decode cX4_put 11 = .ok (.aload_n 0, 1) := by decide +kernel
theorem dX4_put_12 : decode cX4_put 12 = .ok (.getfield 9, 3) := by decide +kernel
theorem dX4_put_15 : decode cX4_put 15 = .ok (.arraylength, 1) := by decide +kernel
theorem dX4_put_16 : decode cX4_put 16 = .ok (.if_icmp .ge 29, 3) := by decide +kernel
theorem dX4_put_19 : decode cX4_put 19 = .ok (.aload_n 0, 1) := by decide +kernel
theorem dX4_put_20 : decode cX4_put 20 = .ok (.getfield 9, 3) := by decide +kernel
theorem dX4_put_23 : decode cX4_put 23 = .ok (.aload_n 0, 1) := by decide +kernel
theorem dX4_put_24 : decode cX4_put 24 = .ok (.getfield 15, 3) := by decide +kernel
theorem dX4_put_27 : decode cX4_put 27 = .ok (.iload_n 1, 1) := by decide +kernel
theorem dX4_put_28 : decode cX4_put 28 = .ok (.iload_n 2, 1) := by decide +kernel
theorem dX4_put_29 : decode cX4_put 29 = .ok (.iushr, 1) := by decide +kernel
theorem dX4_put_30 : decode cX4_put 30 = .ok (.sipush 255, 3) := by decide +kernel
theorem dX4_put_33 : decode cX4_put 33 = .ok (.iand, 1) := by decide +kernel
theorem dX4_put_34 : decode cX4_put 34 = .ok (.iastore, 1) := by decide +kernel
theorem dX4_put_35 : decode cX4_put 35 = .ok (.aload_n 0, 1) := by decide +kernel
theorem dX4_put_36 : decode cX4_put 36 = .ok (.dup, 1) := by decide +kernel
theorem dX4_put_37 : decode cX4_put 37 = .ok (.getfield 15, 3) := by decide +kernel
theorem dX4_put_40 : decode cX4_put 40 = .ok (.iconst 1, 1) := by decide +kernel
theorem dX4_put_41 : decode cX4_put 41 = .ok (.iadd, 1) := by decide +kernel
theorem dX4_put_42 : decode cX4_put 42 = .ok (.putfield 15, 3) := by decide +kernel
theorem dX4_put_45 : decode cX4_put 45 = .ok (.iinc 2 (-8), 3) := by decide +kernel
theorem dX4_put_48 : decode cX4_put 48 = .ok (.goto (-45), 3) := by decide +kernel
theorem dX4_put_51 : decode cX4_put 51 = .ok (.return_, 1) := by decide +kernel
theorem dX4_rewind_0 : decode cX4_rewind 0 = .ok (.aload_n 0, 1) := by decide +kernel
theorem dX4_rewind_1 : decode cX4_rewind 1 = .ok (.iconst 0, 1) := by decide +kernel
theorem dX4_rewind_2 : decode cX4_rewind 2 = .ok (.putfield 19, 3) := by decide +kernel
theorem dX4_rewind_5 : decode cX4_rewind 5 = .ok (.aload_n 0, 1) := by decide +kernel
theorem dX4_rewind_6 : decode cX4_rewind 6 = .ok (.iconst 0, 1) := by decide +kernel
theorem dX4_rewind_7 : decode cX4_rewind 7 = .ok (.putfield 22, 3) := by decide +kernel
theorem dX4_rewind_10 : decode cX4_rewind 10 = .ok (.return_, 1) := by decide +kernel
theorem dX4_fail_0 : decode cX4_fail 0 = .ok (.aload_n 0, 1) := by decide +kernel
theorem dX4_fail_1 : decode cX4_fail 1 = .ok (.getfield 22, 3) := by decide +kernel
theorem dX4_fail_4 : decode cX4_fail 4 = .ok (.ifCond .ne 15, 3) := by decide +kernel
theorem dX4_fail_7 : decode cX4_fail 7 = .ok (.aload_n 0, 1) := by decide +kernel
theorem dX4_fail_8 : decode cX4_fail 8 = .ok (.iconst 1, 1) := by decide +kernel
theorem dX4_fail_9 : decode cX4_fail 9 = .ok (.bipush 8, 2) := by decide +kernel
theorem dX4_fail_11 : decode cX4_fail 11 = .ok (.iload_n 1, 1) := by decide +kernel
theorem dX4_fail_12 : decode cX4_fail 12 = .ok (.imul, 1) := by decide +kernel
theorem dX4_fail_13 : decode cX4_fail 13 = .ok (.iadd, 1) := by decide +kernel
theorem dX4_fail_14 : decode cX4_fail 14 = .ok (.iload_n 2, 1) := by decide +kernel
theorem dX4_fail_15 : decode cX4_fail 15 = .ok (.iadd, 1) := by decide +kernel
theorem dX4_fail_16 : decode cX4_fail 16 = .ok (.putfield 22, 3) := by decide +kernel
theorem dX4_fail_19 : decode cX4_fail 19 = .ok (.return_, 1) := by decide +kernel
theorem dX4_skipBlanks_0 : decode cX4_skipBlanks 0 = .ok (.aload_n 0, 1) := by decide +kernel
theorem dX4_skipBlanks_1 : decode cX4_skipBlanks 1 = .ok (.getfield 19, 3) := by decide +kernel
theorem dX4_skipBlanks_4 : decode cX4_skipBlanks 4 = .ok (.aload_n 0, 1) := by decide +kernel
theorem dX4_skipBlanks_5 : decode cX4_skipBlanks 5 = .ok (.getfield 15, 3) := by decide +kernel
theorem dX4_skipBlanks_8 : decode cX4_skipBlanks 8 = .ok (.if_icmp .ge 30, 3) := by decide +kernel
theorem dX4_skipBlanks_11 : decode cX4_skipBlanks 11 = .ok (.aload_n 0, 1) := by decide +kernel
theorem dX4_skipBlanks_12 : decode cX4_skipBlanks 12 = .ok (.getfield 9, 3) := by decide +kernel
theorem dX4_skipBlanks_15 : decode cX4_skipBlanks 15 = .ok (.aload_n 0, 1) := by decide +kernel
theorem dX4_skipBlanks_16 : decode cX4_skipBlanks 16 = .ok (.getfield 19, 3) := by decide +kernel
theorem dX4_skipBlanks_19 : decode cX4_skipBlanks 19 = .ok (.iaload, 1) := by decide +kernel
theorem dX4_skipBlanks_20 : decode cX4_skipBlanks 20 = .ok (.bipush 32, 2) := by decide +kernel
theorem dX4_skipBlanks_22 : decode cX4_skipBlanks 22 = .ok (.if_icmp .ne 16, 3) := by decide +kernel
theorem dX4_skipBlanks_25 : decode cX4_skipBlanks 25 = .ok (.aload_n 0, 1) := by decide +kernel
theorem dX4_skipBlanks_26 : decode cX4_skipBlanks 26 = .ok (.dup, 1) := by decide +kernel
theorem dX4_skipBlanks_27 : decode cX4_skipBlanks 27 = .ok (.getfield 19, 3) := by decide +kernel
theorem dX4_skipBlanks_30 : decode cX4_skipBlanks 30 = .ok (.iconst 1, 1) := by decide +kernel
theorem dX4_skipBlanks_31 : decode cX4_skipBlanks 31 = .ok (.iadd, 1) := by decide +kernel
theorem dX4_skipBlanks_32 : decode cX4_skipBlanks 32 = .ok (.putfield 19, 3) := by decide +kernel
theorem dX4_skipBlanks_35 : decode cX4_skipBlanks 35 = .ok (.goto (-35), 3) := by decide +kernel
theorem dX4_skipBlanks_38 : decode cX4_skipBlanks 38 = .ok (.return_, 1) := by decide +kernel
theorem dX4_takeSign_0 : decode cX4_takeSign 0 = .ok (.aload_n 0, 1) := by decide +kernel
theorem dX4_takeSign_1 : decode cX4_takeSign 1 = .ok (.invokevirtual 25, 3) := by decide +kernel
theorem dX4_takeSign_4 : decode cX4_takeSign 4 = .ok (.aload_n 0, 1) := by decide +kernel
theorem dX4_takeSign_5 : decode cX4_takeSign 5 = .ok (.getfield 19, 3) := by decide +kernel
theorem dX4_takeSign_8 : decode cX4_takeSign 8 = .ok (.aload_n 0, 1) := by decide +kernel
theorem dX4_takeSign_9 : decode cX4_takeSign 9 = .ok (.getfield 15, 3) := by decide +kernel
theorem dX4_takeSign_12 : decode cX4_takeSign 12 = .ok (.if_icmp .lt 5, 3) := by decide +kernel
theorem dX4_takeSign_15 : decode cX4_takeSign 15 = .ok (.iconst (-1), 1) := by decide +kernel
theorem dX4_takeSign_16 : decode cX4_takeSign 16 = .ok (.ireturn, 1) := by decide +kernel
theorem dX4_takeSign_17 : decode cX4_takeSign 17 = .ok (.aload_n 1, 1) := by decide +kernel
theorem dX4_takeSign_18 : decode cX4_takeSign 18 = .ok (.aload_n 0, 1) := by decide +kernel
theorem dX4_takeSign_19 : decode cX4_takeSign 19 = .ok (.getfield 9, 3) := by decide +kernel
theorem dX4_takeSign_22 : decode cX4_takeSign 22 = .ok (.aload_n 0, 1) := by decide +kernel
theorem dX4_takeSign_23 : decode cX4_takeSign 23 = .ok (.getfield 19, 3) := by decide +kernel
theorem dX4_takeSign_26 : decode cX4_takeSign 26 = .ok (.iaload, 1) := by decide +kernel
theorem dX4_takeSign_27 : decode cX4_takeSign 27 = .ok (.i2c, 1) := by decide +kernel
theorem dX4_takeSign_28 : decode cX4_takeSign 28 = .ok (.invokevirtual 28, 3) := by decide +kernel
theorem dX4_takeSign_31 : decode cX4_takeSign 31 = .ok (.istore_n 2, 1) := by decide +kernel
theorem dX4_takeSign_32 : decode cX4_takeSign 32 = .ok (.iload_n 2, 1) := by decide +kernel
theorem dX4_takeSign_33 : decode cX4_takeSign 33 = .ok (.ifCond .lt 13, 3) := by decide +kernel
theorem dX4_takeSign_36 : decode cX4_takeSign 36 = .ok (.aload_n 0, 1) := by decide +kernel
theorem dX4_takeSign_37 : decode cX4_takeSign 37 = .ok (.dup, 1) := by decide +kernel
theorem dX4_takeSign_38 : decode cX4_takeSign 38 = .ok (.getfield 19, 3) := by decide +kernel
theorem dX4_takeSign_41 : decode cX4_takeSign 41 = .ok (.iconst 1, 1) := by decide +kernel
theorem dX4_takeSign_42 : decode cX4_takeSign 42 = .ok (.iadd, 1) := by decide +kernel
theorem dX4_takeSign_43 : decode cX4_takeSign 43 = .ok (.putfield 19, 3) := by decide +kernel
theorem dX4_takeSign_46 : decode cX4_takeSign 46 = .ok (.iload_n 2, 1) := by decide +kernel
theorem dX4_takeSign_47 : decode cX4_takeSign 47 = .ok (.ireturn, 1) := by decide +kernel
theorem dX4_takeNext_0 : decode cX4_takeNext 0 = .ok (.aload_n 0, 1) := by decide +kernel
theorem dX4_takeNext_1 : decode cX4_takeNext 1 = .ok (.getfield 19, 3) := by decide +kernel
theorem dX4_takeNext_4 : decode cX4_takeNext 4 = .ok (.aload_n 0, 1) := by decide +kernel
theorem dX4_takeNext_5 : decode cX4_takeNext 5 = .ok (.getfield 15, 3) := by decide +kernel
theorem dX4_takeNext_8 : decode cX4_takeNext 8 = .ok (.if_icmp .ge 20, 3) := by decide +kernel
theorem dX4_takeNext_11 : decode cX4_takeNext 11 = .ok (.aload_n 0, 1) := by decide +kernel
theorem dX4_takeNext_12 : decode cX4_takeNext 12 = .ok (.getfield 9, 3) := by decide +kernel
theorem dX4_takeNext_15 : decode cX4_takeNext 15 = .ok (.aload_n 0, 1) := by decide +kernel
theorem dX4_takeNext_16 : decode cX4_takeNext 16 = .ok (.getfield 19, 3) := by decide +kernel
theorem dX4_takeNext_19 : decode cX4_takeNext 19 = .ok (.iaload, 1) := by decide +kernel
theorem dX4_takeNext_20 : decode cX4_takeNext 20 = .ok (.iload_n 1, 1) := by decide +kernel
theorem dX4_takeNext_21 : decode cX4_takeNext 21 = .ok (.if_icmp .ne 7, 3) := by decide +kernel
theorem dX4_takeNext_24 : decode cX4_takeNext 24 = .ok (.iconst 1, 1) := by decide +kernel
theorem dX4_takeNext_25 : decode cX4_takeNext 25 = .ok (.goto 4, 3) := by decide +kernel
theorem dX4_takeNext_28 : decode cX4_takeNext 28 = .ok (.iconst 0, 1) := by decide +kernel
theorem dX4_takeNext_29 : decode cX4_takeNext 29 = .ok (.istore_n 2, 1) := by decide +kernel
theorem dX4_takeNext_30 : decode cX4_takeNext 30 = .ok (.iload_n 2, 1) := by decide +kernel
theorem dX4_takeNext_31 : decode cX4_takeNext 31 = .ok (.ifCond .eq 13, 3) := by decide +kernel
theorem dX4_takeNext_34 : decode cX4_takeNext 34 = .ok (.aload_n 0, 1) := by decide +kernel
theorem dX4_takeNext_35 : decode cX4_takeNext 35 = .ok (.dup, 1) := by decide +kernel
theorem dX4_takeNext_36 : decode cX4_takeNext 36 = .ok (.getfield 19, 3) := by decide +kernel
theorem dX4_takeNext_39 : decode cX4_takeNext 39 = .ok (.iconst 1, 1) := by decide +kernel
theorem dX4_takeNext_40 : decode cX4_takeNext 40 = .ok (.iadd, 1) := by decide +kernel
theorem dX4_takeNext_41 : decode cX4_takeNext 41 = .ok (.putfield 19, 3) := by decide +kernel
theorem dX4_takeNext_44 : decode cX4_takeNext 44 = .ok (.iload_n 2, 1) := by decide +kernel
theorem dX4_takeNext_45 : decode cX4_takeNext 45 = .ok (.ireturn, 1) := by decide +kernel
theorem dX4_takeWord_0 : decode cX4_takeWord 0 = .ok (.aload_n 0, 1) := by decide +kernel
theorem dX4_takeWord_1 : decode cX4_takeWord 1 = .ok (.invokevirtual 25, 3) := by decide +kernel
theorem dX4_takeWord_4 : decode cX4_takeWord 4 = .ok (.aload_n 0, 1) := by decide +kernel
theorem dX4_takeWord_5 : decode cX4_takeWord 5 = .ok (.getfield 19, 3) := by decide +kernel
theorem dX4_takeWord_8 : decode cX4_takeWord 8 = .ok (.istore_n 2, 1) := by decide +kernel
theorem dX4_takeWord_9 : decode cX4_takeWord 9 = .ok (.iload_n 2, 1) := by decide +kernel
theorem dX4_takeWord_10 : decode cX4_takeWord 10 = .ok (.aload_n 0, 1) := by decide +kernel
theorem dX4_takeWord_11 : decode cX4_takeWord 11 = .ok (.getfield 15, 3) := by decide +kernel
theorem dX4_takeWord_14 : decode cX4_takeWord 14 = .ok (.if_icmp .ge 31, 3) := by decide +kernel
theorem dX4_takeWord_17 : decode cX4_takeWord 17 = .ok (.aload_n 0, 1) := by decide +kernel
theorem dX4_takeWord_18 : decode cX4_takeWord 18 = .ok (.getfield 9, 3) := by decide +kernel
theorem dX4_takeWord_21 : decode cX4_takeWord 21 = .ok (.iload_n 2, 1) := by decide +kernel
theorem dX4_takeWord_22 : decode cX4_takeWord 22 = .ok (.iaload, 1) := by decide +kernel
theorem dX4_takeWord_23 : decode cX4_takeWord 23 = .ok (.bipush 97, 2) := by decide +kernel
theorem dX4_takeWord_25 : decode cX4_takeWord 25 = .ok (.if_icmp .lt 20, 3) := by decide +kernel
theorem dX4_takeWord_28 : decode cX4_takeWord 28 = .ok (.aload_n 0, 1) := by decide +kernel
theorem dX4_takeWord_29 : decode cX4_takeWord 29 = .ok (.getfield 9, 3) := by decide +kernel
theorem dX4_takeWord_32 : decode cX4_takeWord 32 = .ok (.iload_n 2, 1) := by decide +kernel
theorem dX4_takeWord_33 : decode cX4_takeWord 33 = .ok (.iaload, 1) := by decide +kernel
theorem dX4_takeWord_34 : decode cX4_takeWord 34 = .ok (.bipush 122, 2) := by decide +kernel
theorem dX4_takeWord_36 : decode cX4_takeWord 36 = .ok (.if_icmp .gt 9, 3) := by decide +kernel
theorem dX4_takeWord_39 : decode cX4_takeWord 39 = .ok (.iinc 2 1, 3) := by decide +kernel
theorem dX4_takeWord_42 : decode cX4_takeWord 42 = .ok (.goto (-33), 3) := by decide +kernel
theorem dX4_takeWord_45 : decode cX4_takeWord 45 = .ok (.iconst 0, 1) := by decide +kernel
theorem dX4_takeWord_46 : decode cX4_takeWord 46 = .ok (.istore_n 3, 1) := by decide +kernel
theorem dX4_takeWord_47 : decode cX4_takeWord 47 = .ok (.iconst 0, 1) := by decide +kernel
theorem dX4_takeWord_48 : decode cX4_takeWord 48 = .ok (.istore 4, 2) := by decide +kernel
theorem dX4_takeWord_50 : decode cX4_takeWord 50 = .ok (.iconst 0, 1) := by decide +kernel
theorem dX4_takeWord_51 : decode cX4_takeWord 51 = .ok (.istore 5, 2) := by decide +kernel
theorem dX4_takeWord_53 : decode cX4_takeWord 53 = .ok (.iload 5, 2) := by decide +kernel
theorem dX4_takeWord_55 : decode cX4_takeWord 55 = .ok (.aload_n 1, 1) := by decide +kernel
theorem dX4_takeWord_56 : decode cX4_takeWord 56 = .ok (.invokevirtual 34, 3) := by decide +kernel
theorem dX4_takeWord_59 : decode cX4_takeWord 59 = .ok (.if_icmp .gt 107, 3) := by decide +kernel
theorem dX4_takeWord_62 : decode cX4_takeWord 62 = .ok (.iload 5, 2) := by decide +kernel
theorem dX4_takeWord_64 : decode cX4_takeWord 64 = .ok (.aload_n 1, 1) := by decide +kernel
theorem dX4_takeWord_65 : decode cX4_takeWord 65 = .ok (.invokevirtual 34, 3) := by decide +kernel
theorem dX4_takeWord_68 : decode cX4_takeWord 68 = .ok (.if_icmp .eq 14, 3) := by decide +kernel
theorem dX4_takeWord_71 : decode cX4_takeWord 71 = .ok (.aload_n 1, 1) := by decide +kernel
theorem dX4_takeWord_72 : decode cX4_takeWord 72 = .ok (.iload 5, 2) := by decide +kernel
theorem dX4_takeWord_74 : decode cX4_takeWord 74 = .ok (.invokevirtual 38, 3) := by decide +kernel
theorem dX4_takeWord_77 : decode cX4_takeWord 77 = .ok (.bipush 32, 2) := by decide +kernel
theorem dX4_takeWord_79 : decode cX4_takeWord 79 = .ok (.if_icmp .ne 35, 3) := by decide +kernel
theorem dX4_takeWord_82 : decode cX4_takeWord 82 = .ok (.iload 4, 2) := by decide +kernel
theorem dX4_takeWord_84 : decode cX4_takeWord 84 = .ok (.ifCond .le 21, 3) := by decide +kernel
theorem dX4_takeWord_87 : decode cX4_takeWord 87 = .ok (.iload 4, 2) := by decide +kernel
theorem dX4_takeWord_89 : decode cX4_takeWord 89 = .ok (.iload_n 2, 1) := by decide +kernel
theorem dX4_takeWord_90 : decode cX4_takeWord 90 = .ok (.aload_n 0, 1) := by decide +kernel
theorem dX4_takeWord_91 : decode cX4_takeWord 91 = .ok (.getfield 19, 3) := by decide +kernel
theorem dX4_takeWord_94 : decode cX4_takeWord 94 = .ok (.isub, 1) := by decide +kernel
theorem dX4_takeWord_95 : decode cX4_takeWord 95 = .ok (.if_icmp .ne 10, 3) := by decide +kernel
theorem dX4_takeWord_98 : decode cX4_takeWord 98 = .ok (.aload_n 0, 1) := by decide +kernel
theorem dX4_takeWord_99 : decode cX4_takeWord 99 = .ok (.iload_n 2, 1) := by decide +kernel
theorem dX4_takeWord_100 : decode cX4_takeWord 100 = .ok (.putfield 19, 3) := by decide +kernel
theorem dX4_takeWord_103 : decode cX4_takeWord 103 = .ok (.iload_n 3, 1) := by decide +kernel
theorem dX4_takeWord_104 : decode cX4_takeWord 104 = .ok (.ireturn, 1) := by decide +kernel
theorem dX4_takeWord_105 : decode cX4_takeWord 105 = .ok (.iinc 3 1, 3) := by decide +kernel
theorem dX4_takeWord_108 : decode cX4_takeWord 108 = .ok (.iconst 0, 1) := by decide +kernel
theorem dX4_takeWord_109 : decode cX4_takeWord 109 = .ok (.istore 4, 2) := by decide +kernel
theorem dX4_takeWord_111 : decode cX4_takeWord 111 = .ok (.goto 49, 3) := by decide +kernel
theorem dX4_takeWord_114 : decode cX4_takeWord 114 = .ok (.iload 4, 2) := by decide +kernel
theorem dX4_takeWord_116 : decode cX4_takeWord 116 = .ok (.ifCond .lt 41, 3) := by decide +kernel
theorem dX4_takeWord_119 : decode cX4_takeWord 119 = .ok (.aload_n 0, 1) := by decide +kernel
theorem dX4_takeWord_120 : decode cX4_takeWord 120 = .ok (.getfield 19, 3) := by decide +kernel
theorem dX4_takeWord_123 : decode cX4_takeWord 123 = .ok (.iload 4, 2) := by decide +kernel
theorem dX4_takeWord_125 : decode cX4_takeWord 125 = .ok (.iadd, 1) := by decide +kernel
theorem dX4_takeWord_126 : decode cX4_takeWord 126 = .ok (.iload_n 2, 1) := by decide +kernel
theorem dX4_takeWord_127 : decode cX4_takeWord 127 = .ok (.if_icmp .ge 30, 3) := by decide +kernel
theorem dX4_takeWord_130 : decode cX4_takeWord 130 = .ok (.aload_n 0, 1) := by decide +kernel
theorem dX4_takeWord_131 : decode cX4_takeWord 131 = .ok (.getfield 9, 3) := by decide +kernel
theorem dX4_takeWord_134 : decode cX4_takeWord 134 = .ok (.aload_n 0, 1) := by decide +kernel
theorem dX4_takeWord_135 : decode cX4_takeWord 135 = .ok (.getfield 19, 3) := by decide +kernel
theorem dX4_takeWord_138 : decode cX4_takeWord 138 = .ok (.iload 4, 2) := by decide +kernel
theorem dX4_takeWord_140 : decode cX4_takeWord 140 = .ok (.iadd, 1) := by decide +kernel
theorem dX4_takeWord_141 : decode cX4_takeWord 141 = .ok (.iaload, 1) := by decide +kernel
theorem dX4_takeWord_142 : decode cX4_takeWord 142 = .ok (.aload_n 1, 1) := by decide +kernel
theorem dX4_takeWord_143 : decode cX4_takeWord 143 = .ok (.iload 5, 2) := by decide +kernel
theorem dX4_takeWord_145 : decode cX4_takeWord 145 = .ok (.invokevirtual 38, 3) := by decide +kernel
theorem dX4_takeWord_148 : decode cX4_takeWord 148 = .ok (.if_icmp .ne 9, 3) := by decide +kernel
theorem dX4_takeWord_151 : decode cX4_takeWord 151 = .ok (.iinc 4 1, 3) := by decide +kernel
theorem dX4_takeWord_154 : decode cX4_takeWord 154 = .ok (.goto 6, 3) := by decide +kernel
theorem dX4_takeWord_157 : decode cX4_takeWord 157 = .ok (.iconst (-1), 1) := by decide +kernel
theorem dX4_takeWord_158 : decode cX4_takeWord 158 = .ok (.istore 4, 2) := by decide +kernel
theorem dX4_takeWord_160 : decode cX4_takeWord 160 = .ok (.iinc 5 1, 3) := by decide +kernel
theorem dX4_takeWord_163 : decode cX4_takeWord 163 = .ok (.goto (-110), 3) := by decide +kernel
theorem dX4_takeWord_166 : decode cX4_takeWord 166 = .ok (.iconst (-1), 1) := by decide +kernel
theorem dX4_takeWord_167 : decode cX4_takeWord 167 = .ok (.ireturn, 1) := by decide +kernel
theorem dX4_digitNext_0 : decode cX4_digitNext 0 = .ok (.aload_n 0, 1) := by decide +kernel
theorem dX4_digitNext_1 : decode cX4_digitNext 1 = .ok (.invokevirtual 25, 3) := by decide +kernel
theorem dX4_digitNext_4 : decode cX4_digitNext 4 = .ok (.aload_n 0, 1) := by decide +kernel
theorem dX4_digitNext_5 : decode cX4_digitNext 5 = .ok (.getfield 19, 3) := by decide +kernel
theorem dX4_digitNext_8 : decode cX4_digitNext 8 = .ok (.aload_n 0, 1) := by decide +kernel
theorem dX4_digitNext_9 : decode cX4_digitNext 9 = .ok (.getfield 15, 3) := by decide +kernel
theorem dX4_digitNext_12 : decode cX4_digitNext 12 = .ok (.if_icmp .ge 35, 3) := by decide +kernel
theorem dX4_digitNext_15 : decode cX4_digitNext 15 = .ok (.aload_n 0, 1) := by decide +kernel
theorem dX4_digitNext_16 : decode cX4_digitNext 16 = .ok (.getfield 9, 3) := by decide +kernel
theorem dX4_digitNext_19 : decode cX4_digitNext 19 = .ok (.aload_n 0, 1) := by decide +kernel
theorem dX4_digitNext_20 : decode cX4_digitNext 20 = .ok (.getfield 19, 3) := by decide +kernel
theorem dX4_digitNext_23 : decode cX4_digitNext 23 = .ok (.iaload, 1) := by decide +kernel
theorem dX4_digitNext_24 : decode cX4_digitNext 24 = .ok (.bipush 48, 2) := by decide +kernel
theorem dX4_digitNext_26 : decode cX4_digitNext 26 = .ok (.if_icmp .lt 21, 3) := by decide +kernel
theorem dX4_digitNext_29 : decode cX4_digitNext 29 = .ok (.aload_n 0, 1) := by decide +kernel
theorem dX4_digitNext_30 : decode cX4_digitNext 30 = .ok (.getfield 9, 3) := by decide +kernel
theorem dX4_digitNext_33 : decode cX4_digitNext 33 = .ok (.aload_n 0, 1) := by decide +kernel
theorem dX4_digitNext_34 : decode cX4_digitNext 34 = .ok (.getfield 19, 3) := by decide +kernel
theorem dX4_digitNext_37 : decode cX4_digitNext 37 = .ok (.iaload, 1) := by decide +kernel
theorem dX4_digitNext_38 : decode cX4_digitNext 38 = .ok (.bipush 57, 2) := by decide +kernel
theorem dX4_digitNext_40 : decode cX4_digitNext 40 = .ok (.if_icmp .gt 7, 3) := by decide +kernel
theorem dX4_digitNext_43 : decode cX4_digitNext 43 = .ok (.iconst 1, 1) := by decide +kernel
theorem dX4_digitNext_44 : decode cX4_digitNext 44 = .ok (.goto 4, 3) := by decide +kernel
theorem dX4_digitNext_47 : decode cX4_digitNext 47 = .ok (.iconst 0, 1) := by decide +kernel
theorem dX4_digitNext_48 : decode cX4_digitNext 48 = .ok (.ireturn, 1) := by decide +kernel
theorem dX4_takeNumber_0 : decode cX4_takeNumber 0 = .ok (.aload_n 0, 1) := by decide +kernel
theorem dX4_takeNumber_1 : decode cX4_takeNumber 1 = .ok (.invokevirtual 25, 3) := by decide +kernel
theorem dX4_takeNumber_4 : decode cX4_takeNumber 4 = .ok (.aload_n 0, 1) := by decide +kernel
theorem dX4_takeNumber_5 : decode cX4_takeNumber 5 = .ok (.getfield 19, 3) := by decide +kernel
theorem dX4_takeNumber_8 : decode cX4_takeNumber 8 = .ok (.istore_n 3, 1) := by decide +kernel
theorem dX4_takeNumber_9 : decode cX4_takeNumber 9 = .ok (.iconst 0, 1) := by decide +kernel
theorem dX4_takeNumber_10 : decode cX4_takeNumber 10 = .ok (.istore 4, 2) := by decide +kernel
theorem dX4_takeNumber_12 : decode cX4_takeNumber 12 = .ok (.aload_n 0, 1) := by decide +kernel
theorem dX4_takeNumber_13 : decode cX4_takeNumber 13 = .ok (.getfield 19, 3) := by decide +kernel
theorem dX4_takeNumber_16 : decode cX4_takeNumber 16 = .ok (.aload_n 0, 1) := by decide +kernel
theorem dX4_takeNumber_17 : decode cX4_takeNumber 17 = .ok (.getfield 15, 3) := by decide +kernel
theorem dX4_takeNumber_20 : decode cX4_takeNumber 20 = .ok (.if_icmp .ge 74, 3) := by decide +kernel
theorem dX4_takeNumber_23 : decode cX4_takeNumber 23 = .ok (.aload_n 0, 1) := by decide +kernel
theorem dX4_takeNumber_24 : decode cX4_takeNumber 24 = .ok (.getfield 9, 3) := by decide +kernel
theorem dX4_takeNumber_27 : decode cX4_takeNumber 27 = .ok (.aload_n 0, 1) := by decide +kernel
theorem dX4_takeNumber_28 : decode cX4_takeNumber 28 = .ok (.getfield 19, 3) := by decide +kernel
theorem dX4_takeNumber_31 : decode cX4_takeNumber 31 = .ok (.iaload, 1) := by decide +kernel
theorem dX4_takeNumber_32 : decode cX4_takeNumber 32 = .ok (.bipush 48, 2) := by decide +kernel
theorem dX4_takeNumber_34 : decode cX4_takeNumber 34 = .ok (.if_icmp .lt 60, 3) := by decide +kernel
theorem dX4_takeNumber_37 : decode cX4_takeNumber 37 = .ok (.aload_n 0, 1) := by decide +kernel
theorem dX4_takeNumber_38 : decode cX4_takeNumber 38 = .ok (.getfield 9, 3) := by decide +kernel
theorem dX4_takeNumber_41 : decode cX4_takeNumber 41 = .ok (.aload_n 0, 1) := by decide +kernel
theorem dX4_takeNumber_42 : decode cX4_takeNumber 42 = .ok (.getfield 19, 3) := by decide +kernel
theorem dX4_takeNumber_45 : decode cX4_takeNumber 45 = .ok (.iaload, 1) := by decide +kernel
theorem dX4_takeNumber_46 : decode cX4_takeNumber 46 = .ok (.bipush 57, 2) := by decide +kernel
theorem dX4_takeNumber_48 : decode cX4_takeNumber 48 = .ok (.if_icmp .gt 46, 3) := by decide +kernel
theorem dX4_takeNumber_51 : decode cX4_takeNumber 51 = .ok (.aload_n 0, 1) := by decide +kernel
theorem dX4_takeNumber_52 : decode cX4_takeNumber 52 = .ok (.getfield 19, 3) := by decide +kernel
theorem dX4_takeNumber_55 : decode cX4_takeNumber 55 = .ok (.iload_n 3, 1) := by decide +kernel
theorem dX4_takeNumber_56 : decode cX4_takeNumber 56 = .ok (.isub, 1) := by decide +kernel
theorem dX4_takeNumber_57 : decode cX4_takeNumber 57 = .ok (.iconst 5, 1) := by decide +kernel
theorem dX4_takeNumber_58 : decode cX4_takeNumber 58 = .ok (.if_icmp .ge 23, 3) := by decide +kernel
theorem dX4_takeNumber_61 : decode cX4_takeNumber 61 = .ok (.iload 4, 2) := by decide +kernel
theorem dX4_takeNumber_63 : decode cX4_takeNumber 63 = .ok (.bipush 10, 2) := by decide +kernel
theorem dX4_takeNumber_65 : decode cX4_takeNumber 65 = .ok (.imul, 1) := by decide +kernel
theorem dX4_takeNumber_66 : decode cX4_takeNumber 66 = .ok (.aload_n 0, 1) := by decide +kernel
theorem dX4_takeNumber_67 : decode cX4_takeNumber 67 = .ok (.getfield 9, 3) := by decide +kernel
theorem dX4_takeNumber_70 : decode cX4_takeNumber 70 = .ok (.aload_n 0, 1) := by decide +kernel
theorem dX4_takeNumber_71 : decode cX4_takeNumber 71 = .ok (.getfield 19, 3) := by decide +kernel
theorem dX4_takeNumber_74 : decode cX4_takeNumber 74 = .ok (.iaload, 1) := by decide +kernel
theorem dX4_takeNumber_75 : decode cX4_takeNumber 75 = .ok (.iadd, 1) := by decide +kernel
theorem dX4_takeNumber_76 : decode cX4_takeNumber 76 = .ok (.bipush 48, 2) := by decide +kernel
theorem dX4_takeNumber_78 : decode cX4_takeNumber 78 = .ok (.isub, 1) := by decide +kernel
theorem dX4_takeNumber_79 : decode cX4_takeNumber 79 = .ok (.istore 4, 2) := by decide +kernel
theorem dX4_takeNumber_81 : decode cX4_takeNumber 81 = .ok (.aload_n 0, 1) := by decide +kernel
theorem dX4_takeNumber_82 : decode cX4_takeNumber 82 = .ok (.dup, 1) := by decide +kernel
theorem dX4_takeNumber_83 : decode cX4_takeNumber 83 = .ok (.getfield 19, 3) := by decide +kernel
theorem dX4_takeNumber_86 : decode cX4_takeNumber 86 = .ok (.iconst 1, 1) := by decide +kernel
theorem dX4_takeNumber_87 : decode cX4_takeNumber 87 = .ok (.iadd, 1) := by decide +kernel
theorem dX4_takeNumber_88 : decode cX4_takeNumber 88 = .ok (.putfield 19, 3) := by decide +kernel
theorem dX4_takeNumber_91 : decode cX4_takeNumber 91 = .ok (.goto (-79), 3) := by decide +kernel
theorem dX4_takeNumber_94 : decode cX4_takeNumber 94 = .ok (.aload_n 0, 1) := by decide +kernel
theorem dX4_takeNumber_95 : decode cX4_takeNumber 95 = .ok (.getfield 19, 3) := by decide +kernel
theorem dX4_takeNumber_98 : decode cX4_takeNumber 98 = .ok (.iload_n 3, 1) := by decide +kernel
theorem dX4_takeNumber_99 : decode cX4_takeNumber 99 = .ok (.if_icmp .ne 12, 3) := by decide +kernel
theorem dX4_takeNumber_102 : decode cX4_takeNumber 102 = .ok (.aload_n 0, 1) := by decide +kernel
theorem dX4_takeNumber_103 : decode cX4_takeNumber 103 = .ok (.iload_n 3, 1) := by decide +kernel
theorem dX4_takeNumber_104 : decode cX4_takeNumber 104 = .ok (.iconst 0, 1) := by decide +kernel
theorem dX4_takeNumber_105 : decode cX4_takeNumber 105 = .ok (.invokevirtual 42, 3) := by decide +kernel
theorem dX4_takeNumber_108 : decode cX4_takeNumber 108 = .ok (.goto 31, 3) := by decide +kernel
theorem dX4_takeNumber_111 : decode cX4_takeNumber 111 = .ok (.aload_n 0, 1) := by decide +kernel
theorem dX4_takeNumber_112 : decode cX4_takeNumber 112 = .ok (.getfield 19, 3) := by decide +kernel
theorem dX4_takeNumber_115 : decode cX4_takeNumber 115 = .ok (.iload_n 3, 1) := by decide +kernel
theorem dX4_takeNumber_116 : decode cX4_takeNumber 116 = .ok (.isub, 1) := by decide +kernel
theorem dX4_takeNumber_117 : decode cX4_takeNumber 117 = .ok (.iconst 5, 1) := by decide +kernel
theorem dX4_takeNumber_118 : decode cX4_takeNumber 118 = .ok (.if_icmp .gt 15, 3) := by decide +kernel
theorem dX4_takeNumber_121 : decode cX4_takeNumber 121 = .ok (.iload 4, 2) := by decide +kernel
theorem dX4_takeNumber_123 : decode cX4_takeNumber 123 = .ok (.iload_n 1, 1) := by decide +kernel
theorem dX4_takeNumber_124 : decode cX4_takeNumber 124 = .ok (.if_icmp .lt 9, 3) := by decide +kernel
theorem dX4_takeNumber_127 : decode cX4_takeNumber 127 = .ok (.iload 4, 2) := by decide +kernel
theorem dX4_takeNumber_129 : decode cX4_takeNumber 129 = .ok (.iload_n 2, 1) := by decide +kernel
theorem dX4_takeNumber_130 : decode cX4_takeNumber 130 = .ok (.if_icmp .le 9, 3) := by decide +kernel
theorem dX4_takeNumber_133 : decode cX4_takeNumber 133 = .ok (.aload_n 0, 1) := by decide +kernel
theorem dX4_takeNumber_134 : decode cX4_takeNumber 134 = .ok (.iload_n 3, 1) := by decide +kernel
theorem dX4_takeNumber_135 : decode cX4_takeNumber 135 = .ok (.iconst 1, 1) := by decide +kernel
theorem dX4_takeNumber_136 : decode cX4_takeNumber 136 = .ok (.invokevirtual 42, 3) := by decide +kernel
theorem dX4_takeNumber_139 : decode cX4_takeNumber 139 = .ok (.iload 4, 2) := by decide +kernel
theorem dX4_takeNumber_141 : decode cX4_takeNumber 141 = .ok (.ireturn, 1) := by decide +kernel
theorem dX4_takeSemicolon_0 : decode cX4_takeSemicolon 0 = .ok (.aload_n 0, 1) := by decide +kernel
theorem dX4_takeSemicolon_1 : decode cX4_takeSemicolon 1 = .ok (.invokevirtual 25, 3) := by decide +kernel
theorem dX4_takeSemicolon_4 : decode cX4_takeSemicolon 4 = .ok (.aload_n 0, 1) := by decide +kernel
theorem dX4_takeSemicolon_5 : decode cX4_takeSemicolon 5 = .ok (.getfield 22, 3) := by decide +kernel
theorem dX4_takeSemicolon_8 : decode cX4_takeSemicolon 8 = .ok (.ifCond .ne 14, 3) := by decide +kernel
theorem dX4_takeSemicolon_11 : decode cX4_takeSemicolon 11 = .ok (.aload_n 0, 1) := by decide +kernel
theorem dX4_takeSemicolon_12 : decode cX4_takeSemicolon 12 = .ok (.getfield 19, 3) := by decide +kernel
theorem dX4_takeSemicolon_15 : decode cX4_takeSemicolon 15 = .ok (.aload_n 0, 1) := by decide +kernel
theorem dX4_takeSemicolon_16 : decode cX4_takeSemicolon 16 = .ok (.getfield 15, 3) := by decide +kernel
theorem dX4_takeSemicolon_19 : decode cX4_takeSemicolon 19 = .ok (.if_icmp .lt 5, 3) := by decide +kernel
theorem dX4_takeSemicolon_22 : decode cX4_takeSemicolon 22 = .ok (.iconst 0, 1) := by decide +kernel
theorem dX4_takeSemicolon_23 : decode cX4_takeSemicolon 23 = .ok (.ireturn, 1) := by decide +kernel
theorem dX4_takeSemicolon_24 : decode cX4_takeSemicolon 24 = .ok (.aload_n 0, 1) := by decide +kernel
theorem dX4_takeSemicolon_25 : decode cX4_takeSemicolon 25 = .ok (.bipush 59, 2) := by decide +kernel
theorem dX4_takeSemicolon_27 : decode cX4_takeSemicolon 27 = .ok (.invokevirtual 46, 3) := by decide +kernel
theorem dX4_takeSemicolon_30 : decode cX4_takeSemicolon 30 = .ok (.ifCond .eq 5, 3) := by decide +kernel
theorem dX4_takeSemicolon_33 : decode cX4_takeSemicolon 33 = .ok (.iconst 1, 1) := by decide +kernel
theorem dX4_takeSemicolon_34 : decode cX4_takeSemicolon 34 = .ok (.ireturn, 1) := by decide +kernel
theorem dX4_takeSemicolon_35 : decode cX4_takeSemicolon 35 = .ok (.aload_n 0, 1) := by decide +kernel
theorem dX4_takeSemicolon_36 : decode cX4_takeSemicolon 36 = .ok (.aload_n 0, 1) := by decide +kernel
theorem dX4_takeSemicolon_37 : decode cX4_takeSemicolon 37 = .ok (.getfield 19, 3) := by decide +kernel
theorem dX4_takeSemicolon_40 : decode cX4_takeSemicolon 40 = .ok (.iconst 0, 1) := by decide +kernel
theorem dX4_takeSemicolon_41 : decode cX4_takeSemicolon 41 = .ok (.invokevirtual 42, 3) := by decide +kernel
theorem dX4_takeSemicolon_44 : decode cX4_takeSemicolon 44 = .ok (.iconst 0, 1) := by decide +kernel
theorem dX4_takeSemicolon_45 : decode cX4_takeSemicolon 45 = .ok (.ireturn, 1) := by decide +kernel
theorem dX5_clear_0 : decode cX5_clear 0 = .ok (.aload_n 0, 1) := by decide +kernel
theorem dX5_clear_1 : decode cX5_clear 1 = .ok (.iconst 0, 1) := by decide +kernel
theorem dX5_clear_2 : decode cX5_clear 2 = .ok (.putfield 9, 3) := by decide +kernel
theorem dX5_clear_5 : decode cX5_clear 5 = .ok (.aload_n 0, 1) := by decide +kernel
theorem dX5_clear_6 : decode cX5_clear 6 = .ok (.iconst 0, 1) := by decide +kernel
theorem dX5_clear_7 : decode cX5_clear 7 = .ok (.putfield 15, 3) := by decide +kernel
theorem dX5_clear_10 : decode cX5_clear 10 = .ok (.aload_n 0, 1) := by decide +kernel
theorem dX5_clear_11 : decode cX5_clear 11 = .ok (.iconst 0, 1) := by decide +kernel
theorem dX5_clear_12 : decode cX5_clear 12 = .ok (.putfield 18, 3) := by decide +kernel
theorem dX5_clear_15 : decode cX5_clear 15 = .ok (.aload_n 0, 1) := by decide +kernel
theorem dX5_clear_16 : decode cX5_clear 16 = .ok (.iconst 0, 1) := by decide +kernel
theorem dX5_clear_17 : decode cX5_clear 17 = .ok (.putfield 21, 3) := by decide +kernel
theorem dX5_clear_20 : decode cX5_clear 20 = .ok (.return_, 1) := by decide +kernel
theorem dX5_addThing_0 : decode cX5_addThing 0 = .ok (.aload_n 0, 1) := by decide +kernel
theorem dX5_addThing_1 : decode cX5_addThing 1 = .ok (.getfield 15, 3) := by decide +kernel
theorem dX5_addThing_4 : decode cX5_addThing 4 = .ok (.bipush 6, 2) := by decide +kernel
theorem dX5_addThing_6 : decode cX5_addThing 6 = .ok (.if_icmp .ge 33, 3) := by decide +kernel
theorem dX5_addThing_9 : decode cX5_addThing 9 = .ok (.aload_n 0, 1) := by decide +kernel
theorem dX5_addThing_10 : decode cX5_addThing 10 = .ok (.getfield 24, 3) := by decide +kernel
theorem dX5_addThing_13 : decode cX5_addThing 13 = .ok (.aload_n 0, 1) := by decide +kernel
theorem dX5_addThing_14 : decode cX5_addThing 14 = .ok (.getfield 15, 3) := by decide +kernel
theorem dX5_addThing_17 : decode cX5_addThing 17 = .ok (.iload_n 1, 1) := by decide +kernel
theorem dX5_addThing_18 : decode cX5_addThing 18 = .ok (.iastore, 1) := by decide +kernel
theorem dX5_addThing_19 : decode cX5_addThing 19 = .ok (.aload_n 0, 1) := by decide +kernel
theorem dX5_addThing_20 : decode cX5_addThing 20 = .ok (.getfield 28, 3) := by decide +kernel
theorem dX5_addThing_23 : decode cX5_addThing 23 = .ok (.aload_n 0, 1) := by decide +kernel
theorem dX5_addThing_24 : decode cX5_addThing 24 = .ok (.getfield 15, 3) := by decide +kernel
theorem dX5_addThing_27 : decode cX5_addThing 27 = .ok (.iload_n 2, 1) := by decide +kernel
theorem dX5_addThing_28 : decode cX5_addThing 28 = .ok (.iastore, 1) := by decide +kernel
theorem dX5_addThing_29 : decode cX5_addThing 29 = .ok (.aload_n 0, 1) := by decide +kernel
theorem dX5_addThing_30 : decode cX5_addThing 30 = .ok (.dup, 1) := by decide +kernel
theorem dX5_addThing_31 : decode cX5_addThing 31 = .ok (.getfield 15, 3) := by decide +kernel
theorem dX5_addThing_34 : decode cX5_addThing 34 = .ok (.iconst 1, 1) := by decide +kernel
theorem dX5_addThing_35 : decode cX5_addThing 35 = .ok (.iadd, 1) := by decide +kernel
theorem dX5_addThing_36 : decode cX5_addThing 36 = .ok (.putfield 15, 3) := by decide +kernel
theorem dX5_addThing_39 : decode cX5_addThing 39 = .ok (.return_, 1) := by decide +kernel
theorem dX5_addCat_0 : decode cX5_addCat 0 = .ok (.aload_n 0, 1) := by decide +kernel
theorem dX5_addCat_1 : decode cX5_addCat 1 = .ok (.getfield 18, 3) := by decide +kernel
theorem dX5_addCat_4 : decode cX5_addCat 4 = .ok (.iconst 3, 1) := by decide +kernel
theorem dX5_addCat_5 : decode cX5_addCat 5 = .ok (.if_icmp .ge 43, 3) := by decide +kernel
theorem dX5_addCat_8 : decode cX5_addCat 8 = .ok (.aload_n 0, 1) := by decide +kernel
theorem dX5_addCat_9 : decode cX5_addCat 9 = .ok (.getfield 31, 3) := by decide +kernel
theorem dX5_addCat_12 : decode cX5_addCat 12 = .ok (.aload_n 0, 1) := by decide +kernel
theorem dX5_addCat_13 : decode cX5_addCat 13 = .ok (.getfield 18, 3) := by decide +kernel
theorem dX5_addCat_16 : decode cX5_addCat 16 = .ok (.iload_n 1, 1) := by decide +kernel
theorem dX5_addCat_17 : decode cX5_addCat 17 = .ok (.iastore, 1) := by decide +kernel
theorem dX5_addCat_18 : decode cX5_addCat 18 = .ok (.aload_n 0, 1) := by decide +kernel
theorem dX5_addCat_19 : decode cX5_addCat 19 = .ok (.getfield 34, 3) := by decide +kernel
theorem dX5_addCat_22 : decode cX5_addCat 22 = .ok (.aload_n 0, 1) := by decide +kernel
theorem dX5_addCat_23 : decode cX5_addCat 23 = .ok (.getfield 18, 3) := by decide +kernel
theorem dX5_addCat_26 : decode cX5_addCat 26 = .ok (.iload_n 2, 1) := by decide +kernel
theorem dX5_addCat_27 : decode cX5_addCat 27 = .ok (.iastore, 1) := by decide +kernel
theorem dX5_addCat_28 : decode cX5_addCat 28 = .ok (.aload_n 0, 1) := by decide +kernel
theorem dX5_addCat_29 : decode cX5_addCat 29 = .ok (.getfield 37, 3) := by decide +kernel
theorem dX5_addCat_32 : decode cX5_addCat 32 = .ok (.aload_n 0, 1) := by decide +kernel
theorem dX5_addCat_33 : decode cX5_addCat 33 = .ok (.getfield 18, 3) := by decide +kernel
theorem dX5_addCat_36 : decode cX5_addCat 36 = .ok (.iload_n 3, 1) := by decide +kernel
theorem dX5_addCat_37 : decode cX5_addCat 37 = .ok (.iastore, 1) := by decide +kernel
theorem dX5_addCat_38 : decode cX5_addCat 38 = .ok (.aload_n 0, 1) := by decide +kernel
theorem dX5_addCat_39 : decode cX5_addCat 39 = .ok (.dup, 1) := by decide +kernel
theorem dX5_addCat_40 : decode cX5_addCat 40 = .ok (.getfield 18, 3) := by decide +kernel
theorem dX5_addCat_43 : decode cX5_addCat 43 = .ok (.iconst 1, 1) := by decide +kernel
theorem dX5_addCat_44 : decode cX5_addCat 44 = .ok (.iadd, 1) := by decide +kernel
theorem dX5_addCat_45 : decode cX5_addCat 45 = .ok (.putfield 18, 3) := by decide +kernel
theorem dX5_addCat_48 : decode cX5_addCat 48 = .ok (.return_, 1) := by decide +kernel
theorem dX5_addNeed_0 : decode cX5_addNeed 0 = .ok (.aload_n 0, 1) := by decide +kernel
theorem dX5_addNeed_1 : decode cX5_addNeed 1 = .ok (.getfield 21, 3) := by decide +kernel
theorem dX5_addNeed_4 : decode cX5_addNeed 4 = .ok (.bipush 8, 2) := by decide +kernel
theorem dX5_addNeed_6 : decode cX5_addNeed 6 = .ok (.if_icmp .ge 43, 3) := by decide +kernel
theorem dX5_addNeed_9 : decode cX5_addNeed 9 = .ok (.aload_n 0, 1) := by decide +kernel
theorem dX5_addNeed_10 : decode cX5_addNeed 10 = .ok (.getfield 40, 3) := by decide +kernel
theorem dX5_addNeed_13 : decode cX5_addNeed 13 = .ok (.aload_n 0, 1) := by decide +kernel
theorem dX5_addNeed_14 : decode cX5_addNeed 14 = .ok (.getfield 21, 3) := by decide +kernel
theorem dX5_addNeed_17 : decode cX5_addNeed 17 = .ok (.iload_n 1, 1) := by decide +kernel
theorem dX5_addNeed_18 : decode cX5_addNeed 18 = .ok (.iastore, 1) := by decide +kernel
theorem dX5_addNeed_19 : decode cX5_addNeed 19 = .ok (.aload_n 0, 1) := by decide +kernel
theorem dX5_addNeed_20 : decode cX5_addNeed 20 = .ok (.getfield 43, 3) := by decide +kernel
theorem dX5_addNeed_23 : decode cX5_addNeed 23 = .ok (.aload_n 0, 1) := by decide +kernel
theorem dX5_addNeed_24 : decode cX5_addNeed 24 = .ok (.getfield 21, 3) := by decide +kernel
theorem dX5_addNeed_27 : decode cX5_addNeed 27 = .ok (.iload_n 2, 1) := by decide +kernel
theorem dX5_addNeed_28 : decode cX5_addNeed 28 = .ok (.iastore, 1) := by decide +kernel
theorem dX5_addNeed_29 : decode cX5_addNeed 29 = .ok (.aload_n 0, 1) := by decide +kernel
theorem dX5_addNeed_30 : decode cX5_addNeed 30 = .ok (.getfield 46, 3) := by decide +kernel
theorem dX5_addNeed_33 : decode cX5_addNeed 33 = .ok (.aload_n 0, 1) := by decide +kernel
theorem dX5_addNeed_34 : decode cX5_addNeed 34 = .ok (.getfield 21, 3) := by decide +kernel
theorem dX5_addNeed_37 : decode cX5_addNeed 37 = .ok (.iload_n 3, 1) := by decide +kernel
theorem dX5_addNeed_38 : decode cX5_addNeed 38 = .ok (.iastore, 1) := by decide +kernel
theorem dX5_addNeed_39 : decode cX5_addNeed 39 = .ok (.aload_n 0, 1) := by decide +kernel
theorem dX5_addNeed_40 : decode cX5_addNeed 40 = .ok (.dup, 1) := by decide +kernel
theorem dX5_addNeed_41 : decode cX5_addNeed 41 = .ok (.getfield 21, 3) := by decide +kernel
theorem dX5_addNeed_44 : decode cX5_addNeed 44 = .ok (.iconst 1, 1) := by decide +kernel
theorem dX5_addNeed_45 : decode cX5_addNeed 45 = .ok (.iadd, 1) := by decide +kernel
theorem dX5_addNeed_46 : decode cX5_addNeed 46 = .ok (.putfield 21, 3) := by decide +kernel
theorem dX5_addNeed_49 : decode cX5_addNeed 49 = .ok (.return_, 1) := by decide +kernel
theorem dX5_copyFrom_0 : decode cX5_copyFrom 0 = .ok (.aload_n 0, 1) := by decide +kernel
theorem dX5_copyFrom_1 : decode cX5_copyFrom 1 = .ok (.aload_n 1, 1) := by decide +kernel
theorem dX5_copyFrom_2 : decode cX5_copyFrom 2 = .ok (.getfield 9, 3) := by decide +kernel
theorem dX5_copyFrom_5 : decode cX5_copyFrom 5 = .ok (.putfield 9, 3) := by decide +kernel
theorem dX5_copyFrom_8 : decode cX5_copyFrom 8 = .ok (.aload_n 0, 1) := by decide +kernel
theorem dX5_copyFrom_9 : decode cX5_copyFrom 9 = .ok (.aload_n 1, 1) := by decide +kernel
theorem dX5_copyFrom_10 : decode cX5_copyFrom 10 = .ok (.getfield 15, 3) := by decide +kernel
theorem dX5_copyFrom_13 : decode cX5_copyFrom 13 = .ok (.putfield 15, 3) := by decide +kernel
theorem dX5_copyFrom_16 : decode cX5_copyFrom 16 = .ok (.aload_n 0, 1) := by decide +kernel
theorem dX5_copyFrom_17 : decode cX5_copyFrom 17 = .ok (.aload_n 1, 1) := by decide +kernel
theorem dX5_copyFrom_18 : decode cX5_copyFrom 18 = .ok (.getfield 18, 3) := by decide +kernel
theorem dX5_copyFrom_21 : decode cX5_copyFrom 21 = .ok (.putfield 18, 3) := by decide +kernel
theorem dX5_copyFrom_24 : decode cX5_copyFrom 24 = .ok (.aload_n 0, 1) := by decide +kernel
theorem dX5_copyFrom_25 : decode cX5_copyFrom 25 = .ok (.aload_n 1, 1) := by decide +kernel
theorem dX5_copyFrom_26 : decode cX5_copyFrom 26 = .ok (.getfield 21, 3) := by decide +kernel
theorem dX5_copyFrom_29 : decode cX5_copyFrom 29 = .ok (.putfield 21, 3) := by decide +kernel
theorem dX5_copyFrom_32 : decode cX5_copyFrom 32 = .ok (.aload_n 1, 1) := by decide +kernel
theorem dX5_copyFrom_33 : decode cX5_copyFrom 33 = .ok (.getfield 24, 3) := by decide +kernel
theorem dX5_copyFrom_36 : decode cX5_copyFrom 36 = .ok (.iconst 0, 1) := by decide +kernel
theorem dX5_copyFrom_37 : decode cX5_copyFrom 37 = .ok (.aload_n 0, 1) := by decide +kernel
theorem dX5_copyFrom_38 : decode cX5_copyFrom 38 = .ok (.getfield 24, 3) := by decide +kernel
theorem dX5_copyFrom_41 : decode cX5_copyFrom 41 = .ok (.iconst 0, 1) := by decide +kernel
theorem dX5_copyFrom_42 : decode cX5_copyFrom 42 = .ok (.bipush 6, 2) := by decide +kernel
theorem dX5_copyFrom_44 : decode cX5_copyFrom 44 = .ok (.invokestatic 49, 3) := by decide +kernel
theorem dX5_copyFrom_47 : decode cX5_copyFrom 47 = .ok (.aload_n 1, 1) := by decide +kernel
theorem dX5_copyFrom_48 : decode cX5_copyFrom 48 = .ok (.getfield 28, 3) := by decide +kernel
theorem dX5_copyFrom_51 : decode cX5_copyFrom 51 = .ok (.iconst 0, 1) := by decide +kernel
theorem dX5_copyFrom_52 : decode cX5_copyFrom 52 = .ok (.aload_n 0, 1) := by decide +kernel
theorem dX5_copyFrom_53 : decode cX5_copyFrom 53 = .ok (.getfield 28, 3) := by decide +kernel
theorem dX5_copyFrom_56 : decode cX5_copyFrom 56 = .ok (.iconst 0, 1) := by decide +kernel
theorem dX5_copyFrom_57 : decode cX5_copyFrom 57 = .ok (.bipush 6, 2) := by decide +kernel
theorem dX5_copyFrom_59 : decode cX5_copyFrom 59 = .ok (.invokestatic 49, 3) := by decide +kernel
theorem dX5_copyFrom_62 : decode cX5_copyFrom 62 = .ok (.aload_n 1, 1) := by decide +kernel
theorem dX5_copyFrom_63 : decode cX5_copyFrom 63 = .ok (.getfield 31, 3) := by decide +kernel
theorem dX5_copyFrom_66 : decode cX5_copyFrom 66 = .ok (.iconst 0, 1) := by decide +kernel
theorem dX5_copyFrom_67 : decode cX5_copyFrom 67 = .ok (.aload_n 0, 1) := by decide +kernel
theorem dX5_copyFrom_68 : decode cX5_copyFrom 68 = .ok (.getfield 31, 3) := by decide +kernel
theorem dX5_copyFrom_71 : decode cX5_copyFrom 71 = .ok (.iconst 0, 1) := by decide +kernel
theorem dX5_copyFrom_72 : decode cX5_copyFrom 72 = .ok (.iconst 3, 1) := by decide +kernel
theorem dX5_copyFrom_73 : decode cX5_copyFrom 73 = .ok (.invokestatic 49, 3) := by decide +kernel
theorem dX5_copyFrom_76 : decode cX5_copyFrom 76 = .ok (.aload_n 1, 1) := by decide +kernel
theorem dX5_copyFrom_77 : decode cX5_copyFrom 77 = .ok (.getfield 34, 3) := by decide +kernel
theorem dX5_copyFrom_80 : decode cX5_copyFrom 80 = .ok (.iconst 0, 1) := by decide +kernel
theorem dX5_copyFrom_81 : decode cX5_copyFrom 81 = .ok (.aload_n 0, 1) := by decide +kernel
theorem dX5_copyFrom_82 : decode cX5_copyFrom 82 = .ok (.getfield 34, 3) := by decide +kernel
theorem dX5_copyFrom_85 : decode cX5_copyFrom 85 = .ok (.iconst 0, 1) := by decide +kernel
theorem dX5_copyFrom_86 : decode cX5_copyFrom 86 = .ok (.iconst 3, 1) := by decide +kernel
theorem dX5_copyFrom_87 : decode cX5_copyFrom 87 = .ok (.invokestatic 49, 3) := by decide +kernel
theorem dX5_copyFrom_90 : decode cX5_copyFrom 90 = .ok (.aload_n 1, 1) := by decide +kernel
theorem dX5_copyFrom_91 : decode cX5_copyFrom 91 = .ok (.getfield 37, 3) := by decide +kernel
theorem dX5_copyFrom_94 : decode cX5_copyFrom 94 = .ok (.iconst 0, 1) := by decide +kernel
theorem dX5_copyFrom_95 : decode cX5_copyFrom 95 = .ok (.aload_n 0, 1) := by decide +kernel
theorem dX5_copyFrom_96 : decode cX5_copyFrom 96 = .ok (.getfield 37, 3) := by decide +kernel
theorem dX5_copyFrom_99 : decode cX5_copyFrom 99 = .ok (.iconst 0, 1) := by decide +kernel
theorem dX5_copyFrom_100 : decode cX5_copyFrom 100 = .ok (.iconst 3, 1) := by decide +kernel
theorem dX5_copyFrom_101 : decode cX5_copyFrom 101 = .ok (.invokestatic 49, 3) := by decide +kernel
theorem dX5_copyFrom_104 : decode cX5_copyFrom 104 = .ok (.aload_n 1, 1) := by decide +kernel
theorem dX5_copyFrom_105 : decode cX5_copyFrom 105 = .ok (.getfield 40, 3) := by decide +kernel
theorem dX5_copyFrom_108 : decode cX5_copyFrom 108 = .ok (.iconst 0, 1) := by decide +kernel
theorem dX5_copyFrom_109 : decode cX5_copyFrom 109 = .ok (.aload_n 0, 1) := by decide +kernel
theorem dX5_copyFrom_110 : decode cX5_copyFrom 110 = .ok (.getfield 40, 3) := by decide +kernel
theorem dX5_copyFrom_113 : decode cX5_copyFrom 113 = .ok (.iconst 0, 1) := by decide +kernel
theorem dX5_copyFrom_114 : decode cX5_copyFrom 114 = .ok (.bipush 8, 2) := by decide +kernel
theorem dX5_copyFrom_116 : decode cX5_copyFrom 116 = .ok (.invokestatic 49, 3) := by decide +kernel
theorem dX5_copyFrom_119 : decode cX5_copyFrom 119 = .ok (.aload_n 1, 1) := by decide +kernel
theorem dX5_copyFrom_120 : decode cX5_copyFrom 120 = .ok (.getfield 43, 3) := by decide +kernel
theorem dX5_copyFrom_123 : decode cX5_copyFrom 123 = .ok (.iconst 0, 1) := by decide +kernel
theorem dX5_copyFrom_124 : decode cX5_copyFrom 124 = .ok (.aload_n 0, 1) := by decide +kernel
theorem dX5_copyFrom_125 : decode cX5_copyFrom 125 = .ok (.getfield 43, 3) := by decide +kernel
theorem dX5_copyFrom_128 : decode cX5_copyFrom 128 = .ok (.iconst 0, 1) := by decide +kernel
theorem dX5_copyFrom_129 : decode cX5_copyFrom 129 = .ok (.bipush 8, 2) := by decide +kernel
theorem dX5_copyFrom_131 : decode cX5_copyFrom 131 = .ok (.invokestatic 49, 3) := by decide +kernel
theorem dX5_copyFrom_134 : decode cX5_copyFrom 134 = .ok (.aload_n 1, 1) := by decide +kernel
theorem dX5_copyFrom_135 : decode cX5_copyFrom 135 = .ok (.getfield 46, 3) := by decide +kernel
theorem dX5_copyFrom_138 : decode cX5_copyFrom 138 = .ok (.iconst 0, 1) := by decide +kernel
theorem dX5_copyFrom_139 : decode cX5_copyFrom 139 = .ok (.aload_n 0, 1) := by decide +kernel
theorem dX5_copyFrom_140 : decode cX5_copyFrom 140 = .ok (.getfield 46, 3) := by decide +kernel
theorem dX5_copyFrom_143 : decode cX5_copyFrom 143 = .ok (.iconst 0, 1) := by decide +kernel
theorem dX5_copyFrom_144 : decode cX5_copyFrom 144 = .ok (.bipush 8, 2) := by decide +kernel
theorem dX5_copyFrom_146 : decode cX5_copyFrom 146 = .ok (.invokestatic 49, 3) := by decide +kernel
theorem dX5_copyFrom_149 : decode cX5_copyFrom 149 = .ok (.return_, 1) := by decide +kernel
theorem dX5_worthOfNeeds_0 : decode cX5_worthOfNeeds 0 = .ok (.iconst 0, 1) := by decide +kernel
theorem dX5_worthOfNeeds_1 : decode cX5_worthOfNeeds 1 = .ok (.istore_n 2, 1) := by decide +kernel
theorem dX5_worthOfNeeds_2 : decode cX5_worthOfNeeds 2 = .ok (.iconst 0, 1) := by decide +kernel
theorem dX5_worthOfNeeds_3 : decode cX5_worthOfNeeds 3 = .ok (.istore_n 3, 1) := by decide +kernel
theorem dX5_worthOfNeeds_4 : decode cX5_worthOfNeeds 4 = .ok (.iload_n 3, 1) := by decide +kernel
theorem dX5_worthOfNeeds_5 : decode cX5_worthOfNeeds 5 = .ok (.aload_n 0, 1) := by decide +kernel
theorem dX5_worthOfNeeds_6 : decode cX5_worthOfNeeds 6 = .ok (.getfield 21, 3) := by decide +kernel
theorem dX5_worthOfNeeds_9 : decode cX5_worthOfNeeds 9 = .ok (.if_icmp .ge 31, 3) := by decide +kernel
theorem dX5_worthOfNeeds_12 : decode cX5_worthOfNeeds 12 = .ok (.iload_n 1, 1) := by decide +kernel
theorem dX5_worthOfNeeds_13 : decode cX5_worthOfNeeds 13 = .ok (.iload_n 3, 1) := by decide +kernel
theorem dX5_worthOfNeeds_14 : decode cX5_worthOfNeeds 14 = .ok (.ishr, 1) := by decide +kernel
theorem dX5_worthOfNeeds_15 : decode cX5_worthOfNeeds 15 = .ok (.iconst 1, 1) := by decide +kernel
theorem dX5_worthOfNeeds_16 : decode cX5_worthOfNeeds 16 = .ok (.iand, 1) := by decide +kernel
theorem dX5_worthOfNeeds_17 : decode cX5_worthOfNeeds 17 = .ok (.ifCond .eq 17, 3) := by decide +kernel
theorem dX5_worthOfNeeds_20 : decode cX5_worthOfNeeds 20 = .ok (.iload_n 2, 1) := by decide +kernel
theorem dX5_worthOfNeeds_21 : decode cX5_worthOfNeeds 21 = .ok (.aload_n 0, 1) := by decide +kernel
theorem dX5_worthOfNeeds_22 : decode cX5_worthOfNeeds 22 = .ok (.getfield 28, 3) := by decide +kernel
theorem dX5_worthOfNeeds_25 : decode cX5_worthOfNeeds 25 = .ok (.aload_n 0, 1) := by decide +kernel
theorem dX5_worthOfNeeds_26 : decode cX5_worthOfNeeds 26 = .ok (.getfield 40, 3) := by decide +kernel
theorem dX5_worthOfNeeds_29 : decode cX5_worthOfNeeds 29 = .ok (.iload_n 3, 1) := by decide +kernel
theorem dX5_worthOfNeeds_30 : decode cX5_worthOfNeeds 30 = .ok (.iaload, 1) := by decide +kernel
theorem dX5_worthOfNeeds_31 : decode cX5_worthOfNeeds 31 = .ok (.iaload, 1) := by decide +kernel
theorem dX5_worthOfNeeds_32 : decode cX5_worthOfNeeds 32 = .ok (.iadd, 1) := by decide +kernel
theorem dX5_worthOfNeeds_33 : decode cX5_worthOfNeeds 33 = .ok (.istore_n 2, 1) := by decide +kernel
theorem dX5_worthOfNeeds_34 : decode cX5_worthOfNeeds 34 = .ok (.iinc 3 1, 3) := by decide +kernel
theorem dX5_worthOfNeeds_37 : decode cX5_worthOfNeeds 37 = .ok (.goto (-33), 3) := by decide +kernel
theorem dX5_worthOfNeeds_40 : decode cX5_worthOfNeeds 40 = .ok (.iload_n 2, 1) := by decide +kernel
theorem dX5_worthOfNeeds_41 : decode cX5_worthOfNeeds 41 = .ok (.ireturn, 1) := by decide +kernel
theorem dX6_enter_0 : decode cX6_enter 0 = .ok (.aload_n 0, 1) := by decide +kernel
theorem dX6_enter_1 : decode cX6_enter 1 = .ok (.getfield 12, 3) := by decide +kernel
theorem dX6_enter_4 : decode cX6_enter 4 = .ok (.aload_n 1, 1) := by decide +kernel
theorem dX6_enter_5 : decode cX6_enter 5 = .ok (.invokevirtual 52, 3) := by decide +kernel
theorem dX6_enter_8 : decode cX6_enter 8 = .ok (.aload_n 0, 1) := by decide +kernel
theorem dX6_enter_9 : decode cX6_enter 9 = .ok (.getfield 21, 3) := by decide +kernel
theorem dX6_enter_12 : decode cX6_enter 12 = .ok (.aload_n 0, 1) := by decide +kernel
theorem dX6_enter_13 : decode cX6_enter 13 = .ok (.getfield 12, 3) := by decide +kernel
theorem dX6_enter_16 : decode cX6_enter 16 = .ok (.invokevirtual 56, 3) := by decide +kernel
theorem dX6_enter_19 : decode cX6_enter 19 = .ok (.aload_n 0, 1) := by decide +kernel
theorem dX6_enter_20 : decode cX6_enter 20 = .ok (.iconst 0, 1) := by decide +kernel
theorem dX6_enter_21 : decode cX6_enter 21 = .ok (.putfield 29, 3) := by decide +kernel
theorem dX6_enter_24 : decode cX6_enter 24 = .ok (.aload_n 0, 1) := by decide +kernel
theorem dX6_enter_25 : decode cX6_enter 25 = .ok (.iconst 0, 1) := by decide +kernel
theorem dX6_enter_26 : decode cX6_enter 26 = .ok (.putfield 43, 3) := by decide +kernel
theorem dX6_enter_29 : decode cX6_enter 29 = .ok (.return_, 1) := by decide +kernel
theorem dX6_copyFrom_0 : decode cX6_copyFrom 0 = .ok (.aload_n 0, 1) := by decide +kernel
theorem dX6_copyFrom_1 : decode cX6_copyFrom 1 = .ok (.getfield 12, 3) := by decide +kernel
theorem dX6_copyFrom_4 : decode cX6_copyFrom 4 = .ok (.aload_n 1, 1) := by decide +kernel
theorem dX6_copyFrom_5 : decode cX6_copyFrom 5 = .ok (.getfield 12, 3) := by decide +kernel
theorem dX6_copyFrom_8 : decode cX6_copyFrom 8 = .ok (.invokevirtual 52, 3) := by decide +kernel
theorem dX6_copyFrom_11 : decode cX6_copyFrom 11 = .ok (.aload_n 0, 1) := by decide +kernel
theorem dX6_copyFrom_12 : decode cX6_copyFrom 12 = .ok (.getfield 21, 3) := by decide +kernel
theorem dX6_copyFrom_15 : decode cX6_copyFrom 15 = .ok (.aload_n 1, 1) := by decide +kernel
theorem dX6_copyFrom_16 : decode cX6_copyFrom 16 = .ok (.getfield 21, 3) := by decide +kernel
theorem dX6_copyFrom_19 : decode cX6_copyFrom 19 = .ok (.invokevirtual 59, 3) := by decide +kernel
theorem dX6_copyFrom_22 : decode cX6_copyFrom 22 = .ok (.aload_n 0, 1) := by decide +kernel
theorem dX6_copyFrom_23 : decode cX6_copyFrom 23 = .ok (.aload_n 1, 1) := by decide +kernel
theorem dX6_copyFrom_24 : decode cX6_copyFrom 24 = .ok (.getfield 29, 3) := by decide +kernel
theorem dX6_copyFrom_27 : decode cX6_copyFrom 27 = .ok (.putfield 29, 3) := by decide +kernel
theorem dX6_copyFrom_30 : decode cX6_copyFrom 30 = .ok (.iconst 0, 1) := by decide +kernel
theorem dX6_copyFrom_31 : decode cX6_copyFrom 31 = .ok (.istore_n 2, 1) := by decide +kernel
theorem dX6_copyFrom_32 : decode cX6_copyFrom 32 = .ok (.iload_n 2, 1) := by decide +kernel
theorem dX6_copyFrom_33 : decode cX6_copyFrom 33 = .ok (.aload_n 0, 1) := by decide +kernel
theorem dX6_copyFrom_34 : decode cX6_copyFrom 34 = .ok (.getfield 29, 3) := by decide +kernel
theorem dX6_copyFrom_37 : decode cX6_copyFrom 37 = .ok (.if_icmp .ge 30, 3) := by decide +kernel
theorem dX6_copyFrom_40 : decode cX6_copyFrom 40 = .ok (.iload_n 2, 1) := by decide +kernel
theorem dX6_copyFrom_41 : decode cX6_copyFrom 41 = .ok (.bipush 20, 2) := by decide +kernel
theorem dX6_copyFrom_43 : decode cX6_copyFrom 43 = .ok (.if_icmp .ge 24, 3) := by decide +kernel
theorem dX6_copyFrom_46 : decode cX6_copyFrom 46 = .ok (.aload_n 0, 1) := by decide +kernel
theorem dX6_copyFrom_47 : decode cX6_copyFrom 47 = .ok (.getfield 25, 3) := by decide +kernel
theorem dX6_copyFrom_50 : decode cX6_copyFrom 50 = .ok (.iload_n 2, 1) := by decide +kernel
theorem dX6_copyFrom_51 : decode cX6_copyFrom 51 = .ok (.aaload, 1) := by decide +kernel
theorem dX6_copyFrom_52 : decode cX6_copyFrom 52 = .ok (.aload_n 1, 1) := by decide +kernel
theorem dX6_copyFrom_53 : decode cX6_copyFrom 53 = .ok (.getfield 25, 3) := by decide +kernel
theorem dX6_copyFrom_56 : decode cX6_copyFrom 56 = .ok (.iload_n 2, 1) := by decide +kernel
theorem dX6_copyFrom_57 : decode cX6_copyFrom 57 = .ok (.aaload, 1) := by decide +kernel
theorem dX6_copyFrom_58 : decode cX6_copyFrom 58 = .ok (.invokevirtual 59, 3) := by decide +kernel
theorem dX6_copyFrom_61 : decode cX6_copyFrom 61 = .ok (.iinc 2 1, 3) := by decide +kernel
theorem dX6_copyFrom_64 : decode cX6_copyFrom 64 = .ok (.goto (-32), 3) := by decide +kernel
theorem dX6_copyFrom_67 : decode cX6_copyFrom 67 = .ok (.aload_n 1, 1) := by decide +kernel
theorem dX6_copyFrom_68 : decode cX6_copyFrom 68 = .ok (.getfield 33, 3) := by decide +kernel
theorem dX6_copyFrom_71 : decode cX6_copyFrom 71 = .ok (.iconst 0, 1) := by decide +kernel
theorem dX6_copyFrom_72 : decode cX6_copyFrom 72 = .ok (.aload_n 0, 1) := by decide +kernel
theorem dX6_copyFrom_73 : decode cX6_copyFrom 73 = .ok (.getfield 33, 3) := by decide +kernel
theorem dX6_copyFrom_76 : decode cX6_copyFrom 76 = .ok (.iconst 0, 1) := by decide +kernel
theorem dX6_copyFrom_77 : decode cX6_copyFrom 77 = .ok (.bipush 10, 2) := by decide +kernel
theorem dX6_copyFrom_79 : decode cX6_copyFrom 79 = .ok (.invokestatic 62, 3) := by decide +kernel
theorem dX6_copyFrom_82 : decode cX6_copyFrom 82 = .ok (.aload_n 1, 1) := by decide +kernel
theorem dX6_copyFrom_83 : decode cX6_copyFrom 83 = .ok (.getfield 37, 3) := by decide +kernel
theorem dX6_copyFrom_86 : decode cX6_copyFrom 86 = .ok (.iconst 0, 1) := by decide +kernel
theorem dX6_copyFrom_87 : decode cX6_copyFrom 87 = .ok (.aload_n 0, 1) := by decide +kernel
theorem dX6_copyFrom_88 : decode cX6_copyFrom 88 = .ok (.getfield 37, 3) := by decide +kernel
theorem dX6_copyFrom_91 : decode cX6_copyFrom 91 = .ok (.iconst 0, 1) := by decide +kernel
theorem dX6_copyFrom_92 : decode cX6_copyFrom 92 = .ok (.bipush 10, 2) := by decide +kernel
theorem dX6_copyFrom_94 : decode cX6_copyFrom 94 = .ok (.invokestatic 62, 3) := by decide +kernel
theorem dX6_copyFrom_97 : decode cX6_copyFrom 97 = .ok (.aload_n 1, 1) := by decide +kernel
theorem dX6_copyFrom_98 : decode cX6_copyFrom 98 = .ok (.getfield 40, 3) := by decide +kernel
theorem dX6_copyFrom_101 : decode cX6_copyFrom 101 = .ok (.iconst 0, 1) := by decide +kernel
theorem dX6_copyFrom_102 : decode cX6_copyFrom 102 = .ok (.aload_n 0, 1) := by decide +kernel
theorem dX6_copyFrom_103 : decode cX6_copyFrom 103 = .ok (.getfield 40, 3) := by decide +kernel
theorem dX6_copyFrom_106 : decode cX6_copyFrom 106 = .ok (.iconst 0, 1) := by decide +kernel
theorem dX6_copyFrom_107 : decode cX6_copyFrom 107 = .ok (.bipush 10, 2) := by decide +kernel
theorem dX6_copyFrom_109 : decode cX6_copyFrom 109 = .ok (.invokestatic 62, 3) := by decide +kernel
theorem dX6_copyFrom_112 : decode cX6_copyFrom 112 = .ok (.aload_n 0, 1) := by decide +kernel
theorem dX6_copyFrom_113 : decode cX6_copyFrom 113 = .ok (.aload_n 1, 1) := by decide +kernel
theorem dX6_copyFrom_114 : decode cX6_copyFrom 114 = .ok (.getfield 43, 3) := by decide +kernel
theorem dX6_copyFrom_117 : decode cX6_copyFrom 117 = .ok (.putfield 43, 3) := by decide +kernel
theorem dX6_copyFrom_120 : decode cX6_copyFrom 120 = .ok (.aload_n 0, 1) := by decide +kernel
theorem dX6_copyFrom_121 : decode cX6_copyFrom 121 = .ok (.aload_n 1, 1) := by decide +kernel
theorem dX6_copyFrom_122 : decode cX6_copyFrom 122 = .ok (.getfield 46, 3) := by decide +kernel
theorem dX6_copyFrom_125 : decode cX6_copyFrom 125 = .ok (.putfield 46, 3) := by decide +kernel
theorem dX6_copyFrom_128 : decode cX6_copyFrom 128 = .ok (.aload_n 0, 1) := by decide +kernel
theorem dX6_copyFrom_129 : decode cX6_copyFrom 129 = .ok (.aload_n 1, 1) := by decide +kernel
theorem dX6_copyFrom_130 : decode cX6_copyFrom 130 = .ok (.getfield 49, 3) := by decide +kernel
theorem dX6_copyFrom_133 : decode cX6_copyFrom 133 = .ok (.putfield 49, 3) := by decide +kernel
theorem dX6_copyFrom_136 : decode cX6_copyFrom 136 = .ok (.return_, 1) := by decide +kernel
theorem dX6_keep_0 : decode cX6_keep 0 = .ok (.aload_n 0, 1) := by decide +kernel
theorem dX6_keep_1 : decode cX6_keep 1 = .ok (.getfield 29, 3) := by decide +kernel
theorem dX6_keep_4 : decode cX6_keep 4 = .ok (.bipush 20, 2) := by decide +kernel
theorem dX6_keep_6 : decode cX6_keep 6 = .ok (.if_icmp .lt 52, 3) := by decide +kernel
theorem dX6_keep_9 : decode cX6_keep 9 = .ok (.aload_n 0, 1) := by decide +kernel
theorem dX6_keep_10 : decode cX6_keep 10 = .ok (.getfield 25, 3) := by decide +kernel
theorem dX6_keep_13 : decode cX6_keep 13 = .ok (.iconst 0, 1) := by decide +kernel
theorem dX6_keep_14 : decode cX6_keep 14 = .ok (.aaload, 1) := by decide +kernel
theorem dX6_keep_15 : decode cX6_keep 15 = .ok (.astore_n 1, 1) := by decide +kernel
theorem dX6_keep_16 : decode cX6_keep 16 = .ok (.iconst 1, 1) := by decide +kernel
theorem dX6_keep_17 : decode cX6_keep 17 = .ok (.istore_n 2, 1) := by decide +kernel
theorem dX6_keep_18 : decode cX6_keep 18 = .ok (.iload_n 2, 1) := by decide +kernel
theorem dX6_keep_19 : decode cX6_keep 19 = .ok (.bipush 20, 2) := by decide +kernel
theorem dX6_keep_21 : decode cX6_keep 21 = .ok (.if_icmp .ge 23, 3) := by decide +kernel
theorem dX6_keep_24 : decode cX6_keep 24 = .ok (.aload_n 0, 1) := by decide +kernel
theorem dX6_keep_25 : decode cX6_keep 25 = .ok (.getfield 25, 3) := by decide +kernel
theorem dX6_keep_28 : decode cX6_keep 28 = .ok (.iload_n 2, 1) := by decide +kernel
theorem dX6_keep_29 : decode cX6_keep 29 = .ok (.iconst 1, 1) := by decide +kernel
theorem dX6_keep_30 : decode cX6_keep 30 = .ok (.isub, 1) := by decide +kernel
theorem dX6_keep_31 : decode cX6_keep 31 = .ok (.aload_n 0, 1) := by decide +kernel
theorem dX6_keep_32 : decode cX6_keep 32 = .ok (.getfield 25, 3) := by decide +kernel
theorem dX6_keep_35 : decode cX6_keep 35 = .ok (.iload_n 2, 1) := by decide +kernel
theorem dX6_keep_36 : decode cX6_keep 36 = .ok (.aaload, 1) := by decide +kernel
theorem dX6_keep_37 : decode cX6_keep 37 = .ok (.aastore, 1) := by decide +kernel
theorem dX6_keep_38 : decode cX6_keep 38 = .ok (.iinc 2 1, 3) := by decide +kernel
theorem dX6_keep_41 : decode cX6_keep 41 = .ok (.goto (-23), 3) := by decide +kernel
theorem dX6_keep_44 : decode cX6_keep 44 = .ok (.aload_n 0, 1) := by decide +kernel
theorem dX6_keep_45 : decode cX6_keep 45 = .ok (.getfield 25, 3) := by decide +kernel
theorem dX6_keep_48 : decode cX6_keep 48 = .ok (.bipush 19, 2) := by decide +kernel
theorem dX6_keep_50 : decode cX6_keep 50 = .ok (.aload_n 1, 1) := by decide +kernel
theorem dX6_keep_51 : decode cX6_keep 51 = .ok (.aastore, 1) := by decide +kernel
theorem dX6_keep_52 : decode cX6_keep 52 = .ok (.aload_n 0, 1) := by decide +kernel
theorem dX6_keep_53 : decode cX6_keep 53 = .ok (.bipush 19, 2) := by decide +kernel
theorem dX6_keep_55 : decode cX6_keep 55 = .ok (.putfield 29, 3) := by decide +kernel
theorem dX6_keep_58 : decode cX6_keep 58 = .ok (.aload_n 0, 1) := by decide +kernel
theorem dX6_keep_59 : decode cX6_keep 59 = .ok (.getfield 25, 3) := by decide +kernel
theorem dX6_keep_62 : decode cX6_keep 62 = .ok (.aload_n 0, 1) := by decide +kernel
theorem dX6_keep_63 : decode cX6_keep 63 = .ok (.getfield 29, 3) := by decide +kernel
theorem dX6_keep_66 : decode cX6_keep 66 = .ok (.aaload, 1) := by decide +kernel
theorem dX6_keep_67 : decode cX6_keep 67 = .ok (.aload_n 0, 1) := by decide +kernel
theorem dX6_keep_68 : decode cX6_keep 68 = .ok (.getfield 21, 3) := by decide +kernel
theorem dX6_keep_71 : decode cX6_keep 71 = .ok (.invokevirtual 59, 3) := by decide +kernel
theorem dX6_keep_74 : decode cX6_keep 74 = .ok (.aload_n 0, 1) := by decide +kernel
theorem dX6_keep_75 : decode cX6_keep 75 = .ok (.dup, 1) := by decide +kernel
theorem dX6_keep_76 : decode cX6_keep 76 = .ok (.getfield 29, 3) := by decide +kernel
theorem dX6_keep_79 : decode cX6_keep 79 = .ok (.iconst 1, 1) := by decide +kernel
theorem dX6_keep_80 : decode cX6_keep 80 = .ok (.iadd, 1) := by decide +kernel
theorem dX6_keep_81 : decode cX6_keep 81 = .ok (.putfield 29, 3) := by decide +kernel
theorem dX6_keep_84 : decode cX6_keep 84 = .ok (.return_, 1) := by decide +kernel
theorem dX6_takeBack_0 : decode cX6_takeBack 0 = .ok (.aload_n 0, 1) := by decide +kernel
theorem dX6_takeBack_1 : decode cX6_takeBack 1 = .ok (.getfield 29, 3) := by decide +kernel
theorem dX6_takeBack_4 : decode cX6_takeBack 4 = .ok (.ifCond .gt 5, 3) := by decide +kernel
theorem dX6_takeBack_7 : decode cX6_takeBack 7 = .ok (.iconst 0, 1) := by decide +kernel
theorem dX6_takeBack_8 : decode cX6_takeBack 8 = .ok (.ireturn, 1) := by decide +kernel
theorem dX6_takeBack_9 : decode cX6_takeBack 9 = .ok (.aload_n 0, 1) := by decide +kernel
theorem dX6_takeBack_10 : decode cX6_takeBack 10 = .ok (.dup, 1) := by decide +kernel
theorem dX6_takeBack_11 : decode cX6_takeBack 11 = .ok (.getfield 29, 3) := by decide +kernel
theorem dX6_takeBack_14 : decode cX6_takeBack 14 = .ok (.iconst 1, 1) := by decide +kernel
theorem dX6_takeBack_15 : decode cX6_takeBack 15 = .ok (.isub, 1) := by decide +kernel
theorem dX6_takeBack_16 : decode cX6_takeBack 16 = .ok (.putfield 29, 3) := by decide +kernel
theorem dX6_takeBack_19 : decode cX6_takeBack 19 = .ok (.aload_n 0, 1) := by decide +kernel
theorem dX6_takeBack_20 : decode cX6_takeBack 20 = .ok (.getfield 21, 3) := by decide +kernel
theorem dX6_takeBack_23 : decode cX6_takeBack 23 = .ok (.aload_n 0, 1) := by decide +kernel
theorem dX6_takeBack_24 : decode cX6_takeBack 24 = .ok (.getfield 25, 3) := by decide +kernel
theorem dX6_takeBack_27 : decode cX6_takeBack 27 = .ok (.aload_n 0, 1) := by decide +kernel
theorem dX6_takeBack_28 : decode cX6_takeBack 28 = .ok (.getfield 29, 3) := by decide +kernel
theorem dX6_takeBack_31 : decode cX6_takeBack 31 = .ok (.aaload, 1) := by decide +kernel
theorem dX6_takeBack_32 : decode cX6_takeBack 32 = .ok (.invokevirtual 59, 3) := by decide +kernel
theorem dX6_takeBack_35 : decode cX6_takeBack 35 = .ok (.iconst 1, 1) := by decide +kernel
theorem dX6_takeBack_36 : decode cX6_takeBack 36 = .ok (.ireturn, 1) := by decide +kernel
theorem dX6_write_0 : decode cX6_write 0 = .ok (.aload_n 0, 1) := by decide +kernel
theorem dX6_write_1 : decode cX6_write 1 = .ok (.getfield 43, 3) := by decide +kernel
theorem dX6_write_4 : decode cX6_write 4 = .ok (.bipush 10, 2) := by decide +kernel
theorem dX6_write_6 : decode cX6_write 6 = .ok (.if_icmp .lt 5, 3) := by decide +kernel
theorem dX6_write_9 : decode cX6_write 9 = .ok (.iconst 0, 1) := by decide +kernel
theorem dX6_write_10 : decode cX6_write 10 = .ok (.ireturn, 1) := by decide +kernel
theorem dX6_write_11 : decode cX6_write 11 = .ok (.aload_n 0, 1) := by decide +kernel
theorem dX6_write_12 : decode cX6_write 12 = .ok (.getfield 33, 3) := by decide +kernel
theorem dX6_write_15 : decode cX6_write 15 = .ok (.aload_n 0, 1) := by decide +kernel
theorem dX6_write_16 : decode cX6_write 16 = .ok (.getfield 43, 3) := by decide +kernel
theorem dX6_write_19 : decode cX6_write 19 = .ok (.iload_n 1, 1) := by decide +kernel
theorem dX6_write_20 : decode cX6_write 20 = .ok (.iastore, 1) := by decide +kernel
theorem dX6_write_21 : decode cX6_write 21 = .ok (.aload_n 0, 1) := by decide +kernel
theorem dX6_write_22 : decode cX6_write 22 = .ok (.getfield 37, 3) := by decide +kernel
theorem dX6_write_25 : decode cX6_write 25 = .ok (.aload_n 0, 1) := by decide +kernel
theorem dX6_write_26 : decode cX6_write 26 = .ok (.getfield 43, 3) := by decide +kernel
theorem dX6_write_29 : decode cX6_write 29 = .ok (.iload_n 2, 1) := by decide +kernel
theorem dX6_write_30 : decode cX6_write 30 = .ok (.iastore, 1) := by decide +kernel
theorem dX6_write_31 : decode cX6_write 31 = .ok (.aload_n 0, 1) := by decide +kernel
theorem dX6_write_32 : decode cX6_write 32 = .ok (.getfield 40, 3) := by decide +kernel
theorem dX6_write_35 : decode cX6_write 35 = .ok (.aload_n 0, 1) := by decide +kernel
theorem dX6_write_36 : decode cX6_write 36 = .ok (.getfield 43, 3) := by decide +kernel
theorem dX6_write_39 : decode cX6_write 39 = .ok (.iload_n 3, 1) := by decide +kernel
theorem dX6_write_40 : decode cX6_write 40 = .ok (.iastore, 1) := by decide +kernel
theorem dX6_write_41 : decode cX6_write 41 = .ok (.aload_n 0, 1) := by decide +kernel
theorem dX6_write_42 : decode cX6_write 42 = .ok (.dup, 1) := by decide +kernel
theorem dX6_write_43 : decode cX6_write 43 = .ok (.getfield 43, 3) := by decide +kernel
theorem dX6_write_46 : decode cX6_write 46 = .ok (.iconst 1, 1) := by decide +kernel
theorem dX6_write_47 : decode cX6_write 47 = .ok (.iadd, 1) := by decide +kernel
theorem dX6_write_48 : decode cX6_write 48 = .ok (.putfield 43, 3) := by decide +kernel
theorem dX6_write_51 : decode cX6_write 51 = .ok (.iconst 1, 1) := by decide +kernel
theorem dX6_write_52 : decode cX6_write 52 = .ok (.ireturn, 1) := by decide +kernel
theorem dX6_lastNoted_0 : decode cX6_lastNoted 0 = .ok (.iconst (-1), 1) := by decide +kernel
theorem dX6_lastNoted_1 : decode cX6_lastNoted 1 = .ok (.istore_n 1, 1) := by decide +kernel
theorem dX6_lastNoted_2 : decode cX6_lastNoted 2 = .ok (.iconst 0, 1) := by decide +kernel
theorem dX6_lastNoted_3 : decode cX6_lastNoted 3 = .ok (.istore_n 2, 1) := by decide +kernel
theorem dX6_lastNoted_4 : decode cX6_lastNoted 4 = .ok (.iload_n 2, 1) := by decide +kernel
theorem dX6_lastNoted_5 : decode cX6_lastNoted 5 = .ok (.aload_n 0, 1) := by decide +kernel
theorem dX6_lastNoted_6 : decode cX6_lastNoted 6 = .ok (.getfield 43, 3) := by decide +kernel
theorem dX6_lastNoted_9 : decode cX6_lastNoted 9 = .ok (.if_icmp .ge 20, 3) := by decide +kernel
theorem dX6_lastNoted_12 : decode cX6_lastNoted 12 = .ok (.iload_n 1, 1) := by decide +kernel
theorem dX6_lastNoted_13 : decode cX6_lastNoted 13 = .ok (.aload_n 0, 1) := by decide +kernel
theorem dX6_lastNoted_14 : decode cX6_lastNoted 14 = .ok (.getfield 33, 3) := by decide +kernel
theorem dX6_lastNoted_17 : decode cX6_lastNoted 17 = .ok (.iload_n 2, 1) := by decide +kernel
theorem dX6_lastNoted_18 : decode cX6_lastNoted 18 = .ok (.iaload, 1) := by decide +kernel
theorem dX6_lastNoted_19 : decode cX6_lastNoted 19 = .ok (.invokestatic 68, 3) := by decide +kernel
theorem dX6_lastNoted_22 : decode cX6_lastNoted 22 = .ok (.istore_n 1, 1) := by decide +kernel
theorem dX6_lastNoted_23 : decode cX6_lastNoted 23 = .ok (.iinc 2 1, 3) := by decide +kernel
theorem dX6_lastNoted_26 : decode cX6_lastNoted 26 = .ok (.goto (-22), 3) := by decide +kernel
theorem dX6_lastNoted_29 : decode cX6_lastNoted 29 = .ok (.iload_n 1, 1) := by decide +kernel
theorem dX6_lastNoted_30 : decode cX6_lastNoted 30 = .ok (.ireturn, 1) := by decide +kernel
theorem dX6_notesAgree_0 : decode cX6_notesAgree 0 = .ok (.iconst 0, 1) := by decide +kernel
theorem dX6_notesAgree_1 : decode cX6_notesAgree 1 = .ok (.istore_n 3, 1) := by decide +kernel
theorem dX6_notesAgree_2 : decode cX6_notesAgree 2 = .ok (.iload_n 3, 1) := by decide +kernel
theorem dX6_notesAgree_3 : decode cX6_notesAgree 3 = .ok (.aload_n 0, 1) := by decide +kernel
theorem dX6_notesAgree_4 : decode cX6_notesAgree 4 = .ok (.getfield 43, 3) := by decide +kernel
theorem dX6_notesAgree_7 : decode cX6_notesAgree 7 = .ok (.if_icmp .ge 41, 3) := by decide +kernel
theorem dX6_notesAgree_10 : decode cX6_notesAgree 10 = .ok (.aload_n 0, 1) := by decide +kernel
theorem dX6_notesAgree_11 : decode cX6_notesAgree 11 = .ok (.getfield 33, 3) := by decide +kernel
theorem dX6_notesAgree_14 : decode cX6_notesAgree 14 = .ok (.iload_n 3, 1) := by decide +kernel
theorem dX6_notesAgree_15 : decode cX6_notesAgree 15 = .ok (.iaload, 1) := by decide +kernel
theorem dX6_notesAgree_16 : decode cX6_notesAgree 16 = .ok (.iload_n 1, 1) := by decide +kernel
theorem dX6_notesAgree_17 : decode cX6_notesAgree 17 = .ok (.if_icmp .ne 25, 3) := by decide +kernel
theorem dX6_notesAgree_20 : decode cX6_notesAgree 20 = .ok (.aload_n 2, 1) := by decide +kernel
theorem dX6_notesAgree_21 : decode cX6_notesAgree 21 = .ok (.getfield 74, 3) := by decide +kernel
theorem dX6_notesAgree_24 : decode cX6_notesAgree 24 = .ok (.aload_n 0, 1) := by decide +kernel
theorem dX6_notesAgree_25 : decode cX6_notesAgree 25 = .ok (.getfield 37, 3) := by decide +kernel
theorem dX6_notesAgree_28 : decode cX6_notesAgree 28 = .ok (.iload_n 3, 1) := by decide +kernel
theorem dX6_notesAgree_29 : decode cX6_notesAgree 29 = .ok (.iaload, 1) := by decide +kernel
theorem dX6_notesAgree_30 : decode cX6_notesAgree 30 = .ok (.iaload, 1) := by decide +kernel
theorem dX6_notesAgree_31 : decode cX6_notesAgree 31 = .ok (.aload_n 0, 1) := by decide +kernel
theorem dX6_notesAgree_32 : decode cX6_notesAgree 32 = .ok (.getfield 40, 3) := by decide +kernel
theorem dX6_notesAgree_35 : decode cX6_notesAgree 35 = .ok (.iload_n 3, 1) := by decide +kernel
theorem dX6_notesAgree_36 : decode cX6_notesAgree 36 = .ok (.iaload, 1) := by decide +kernel
theorem dX6_notesAgree_37 : decode cX6_notesAgree 37 = .ok (.if_icmp .eq 5, 3) := by decide +kernel
theorem dX6_notesAgree_40 : decode cX6_notesAgree 40 = .ok (.iconst 0, 1) := by decide +kernel
theorem dX6_notesAgree_41 : decode cX6_notesAgree 41 = .ok (.ireturn, 1) := by decide +kernel
theorem dX6_notesAgree_42 : decode cX6_notesAgree 42 = .ok (.iinc 3 1, 3) := by decide +kernel
theorem dX6_notesAgree_45 : decode cX6_notesAgree 45 = .ok (.goto (-43), 3) := by decide +kernel
theorem dX6_notesAgree_48 : decode cX6_notesAgree 48 = .ok (.iconst 1, 1) := by decide +kernel
theorem dX6_notesAgree_49 : decode cX6_notesAgree 49 = .ok (.ireturn, 1) := by decide +kernel
theorem dJ6_bitCount_0f7a4_0 : decode cJ6_bitCount_0f7a4 0 = .ok (.iload_n 0, 1) := by decide +kernel
theorem dJ6_bitCount_0f7a4_1 : decode cJ6_bitCount_0f7a4 1 = .ok (.iload_n 0, 1) := by decide +kernel
theorem dJ6_bitCount_0f7a4_2 : decode cJ6_bitCount_0f7a4 2 = .ok (.iconst 1, 1) := by decide +kernel
theorem dJ6_bitCount_0f7a4_3 : decode cJ6_bitCount_0f7a4 3 = .ok (.iushr, 1) := by decide +kernel
theorem dJ6_bitCount_0f7a4_4 : decode cJ6_bitCount_0f7a4 4 = .ok (.ldc_w 265, 3) := by decide +kernel
theorem dJ6_bitCount_0f7a4_7 : decode cJ6_bitCount_0f7a4 7 = .ok (.iand, 1) := by decide +kernel
theorem dJ6_bitCount_0f7a4_8 : decode cJ6_bitCount_0f7a4 8 = .ok (.isub, 1) := by decide +kernel
theorem dJ6_bitCount_0f7a4_9 : decode cJ6_bitCount_0f7a4 9 = .ok (.istore_n 0, 1) := by decide +kernel
theorem dJ6_bitCount_0f7a4_10 : decode cJ6_bitCount_0f7a4 10 = .ok (.iload_n 0, 1) := by decide +kernel
theorem dJ6_bitCount_0f7a4_11 : decode cJ6_bitCount_0f7a4 11 = .ok (.ldc_w 266, 3) := by decide +kernel
theorem dJ6_bitCount_0f7a4_14 : decode cJ6_bitCount_0f7a4 14 = .ok (.iand, 1) := by decide +kernel
theorem dJ6_bitCount_0f7a4_15 : decode cJ6_bitCount_0f7a4 15 = .ok (.iload_n 0, 1) := by decide +kernel
theorem dJ6_bitCount_0f7a4_16 : decode cJ6_bitCount_0f7a4 16 = .ok (.iconst 2, 1) := by decide +kernel
theorem dJ6_bitCount_0f7a4_17 : decode cJ6_bitCount_0f7a4 17 = .ok (.iushr, 1) := by decide +kernel
theorem dJ6_bitCount_0f7a4_18 : decode cJ6_bitCount_0f7a4 18 = .ok (.ldc_w 266, 3) := by decide +kernel
theorem dJ6_bitCount_0f7a4_21 : decode cJ6_bitCount_0f7a4 21 = .ok (.iand, 1) := by decide +kernel
theorem dJ6_bitCount_0f7a4_22 : decode cJ6_bitCount_0f7a4 22 = .ok (.iadd, 1) := by decide +kernel
theorem dJ6_bitCount_0f7a4_23 : decode cJ6_bitCount_0f7a4 23 = .ok (.istore_n 0, 1) := by decide +kernel
theorem dJ6_bitCount_0f7a4_24 : decode cJ6_bitCount_0f7a4 24 = .ok (.iload_n 0, 1) := by decide +kernel
theorem dJ6_bitCount_0f7a4_25 : decode cJ6_bitCount_0f7a4 25 = .ok (.iload_n 0, 1) := by decide +kernel
theorem dJ6_bitCount_0f7a4_26 : decode cJ6_bitCount_0f7a4 26 = .ok (.iconst 4, 1) := by decide +kernel
theorem dJ6_bitCount_0f7a4_27 : decode cJ6_bitCount_0f7a4 27 = .ok (.iushr, 1) := by decide +kernel
theorem dJ6_bitCount_0f7a4_28 : decode cJ6_bitCount_0f7a4 28 = .ok (.iadd, 1) := by decide +kernel
theorem dJ6_bitCount_0f7a4_29 : decode cJ6_bitCount_0f7a4 29 = .ok (.ldc_w 267, 3) := by decide +kernel
theorem dJ6_bitCount_0f7a4_32 : decode cJ6_bitCount_0f7a4 32 = .ok (.iand, 1) := by decide +kernel
theorem dJ6_bitCount_0f7a4_33 : decode cJ6_bitCount_0f7a4 33 = .ok (.istore_n 0, 1) := by decide +kernel
theorem dJ6_bitCount_0f7a4_34 : decode cJ6_bitCount_0f7a4 34 = .ok (.iload_n 0, 1) := by decide +kernel
theorem dJ6_bitCount_0f7a4_35 : decode cJ6_bitCount_0f7a4 35 = .ok (.iload_n 0, 1) := by decide +kernel
theorem dJ6_bitCount_0f7a4_36 : decode cJ6_bitCount_0f7a4 36 = .ok (.bipush 8, 2) := by decide +kernel
theorem dJ6_bitCount_0f7a4_38 : decode cJ6_bitCount_0f7a4 38 = .ok (.iushr, 1) := by decide +kernel
theorem dJ6_bitCount_0f7a4_39 : decode cJ6_bitCount_0f7a4 39 = .ok (.iadd, 1) := by decide +kernel
theorem dJ6_bitCount_0f7a4_40 : decode cJ6_bitCount_0f7a4 40 = .ok (.istore_n 0, 1) := by decide +kernel
theorem dJ6_bitCount_0f7a4_41 : decode cJ6_bitCount_0f7a4 41 = .ok (.iload_n 0, 1) := by decide +kernel
theorem dJ6_bitCount_0f7a4_42 : decode cJ6_bitCount_0f7a4 42 = .ok (.iload_n 0, 1) := by decide +kernel
theorem dJ6_bitCount_0f7a4_43 : decode cJ6_bitCount_0f7a4 43 = .ok (.bipush 16, 2) := by decide +kernel
theorem dJ6_bitCount_0f7a4_45 : decode cJ6_bitCount_0f7a4 45 = .ok (.iushr, 1) := by decide +kernel
theorem dJ6_bitCount_0f7a4_46 : decode cJ6_bitCount_0f7a4 46 = .ok (.iadd, 1) := by decide +kernel
theorem dJ6_bitCount_0f7a4_47 : decode cJ6_bitCount_0f7a4 47 = .ok (.istore_n 0, 1) := by decide +kernel
theorem dJ6_bitCount_0f7a4_48 : decode cJ6_bitCount_0f7a4 48 = .ok (.iload_n 0, 1) := by decide +kernel
theorem dJ6_bitCount_0f7a4_49 : decode cJ6_bitCount_0f7a4 49 = .ok (.bipush 63, 2) := by decide +kernel
theorem dJ6_bitCount_0f7a4_51 : decode cJ6_bitCount_0f7a4 51 = .ok (.iand, 1) := by decide +kernel
theorem dJ6_bitCount_0f7a4_52 : decode cJ6_bitCount_0f7a4 52 = .ok (.ireturn, 1) := by decide +kernel
theorem dJ0_length_8abf5_0 : decode cJ0_length_8abf5 0 = .ok (.aload_n 0, 1) := by decide +kernel
theorem dJ0_length_8abf5_1 : decode cJ0_length_8abf5 1 = .ok (.getfield 9, 3) := by decide +kernel
theorem dJ0_length_8abf5_4 : decode cJ0_length_8abf5 4 = .ok (.arraylength, 1) := by decide +kernel
theorem dJ0_length_8abf5_5 : decode cJ0_length_8abf5 5 = .ok (.aload_n 0, 1) := by decide +kernel
theorem dJ0_length_8abf5_6 : decode cJ0_length_8abf5 6 = .ok (.invokevirtual 335, 3) := by decide +kernel
theorem dJ0_length_8abf5_9 : decode cJ0_length_8abf5 9 = .ok (.ishr, 1) := by decide +kernel
theorem dJ0_length_8abf5_10 : decode cJ0_length_8abf5 10 = .ok (.ireturn, 1) := by decide +kernel
theorem dJ0_charAt_5068e_0 : decode cJ0_charAt_5068e 0 = .ok (.aload_n 0, 1) := by decide +kernel
theorem dJ0_charAt_5068e_1 : decode cJ0_charAt_5068e 1 = .ok (.invokevirtual 492, 3) := by decide +kernel
theorem dJ0_charAt_5068e_4 : decode cJ0_charAt_5068e 4 = .ok (.ifCond .eq 12, 3) := by decide +kernel
theorem dJ0_charAt_5068e_7 : decode cJ0_charAt_5068e 7 = .ok (.aload_n 0, 1) := by decide +kernel
theorem dJ0_charAt_5068e_8 : decode cJ0_charAt_5068e 8 = .ok (.getfield 9, 3) := by decide +kernel
theorem dJ0_charAt_5068e_11 : decode cJ0_charAt_5068e 11 = .ok (.iload_n 1, 1) := by decide +kernel
theorem dJ0_charAt_5068e_12 : decode cJ0_charAt_5068e 12 = .ok (.invokestatic 495, 3) := by decide +kernel
theorem dJ0_charAt_5068e_15 : decode cJ0_charAt_5068e 15 = .ok (.ireturn, 1) := by decide +kernel
theorem dJ0_charAt_5068e_16 : decode cJ0_charAt_5068e 16 = .ok (.aload_n 0, 1) := by decide +kernel
theorem dJ0_charAt_5068e_17 : decode cJ0_charAt_5068e 17 = .ok (.getfield 9, 3) := by decide +kernel
theorem dJ0_charAt_5068e_20 : decode cJ0_charAt_5068e 20 = .ok (.iload_n 1, 1) := by decide +kernel
theorem dJ0_charAt_5068e_21 : decode cJ0_charAt_5068e 21 = .ok (.invokestatic 498, 3) := by decide +kernel
theorem dJ0_charAt_5068e_24 : decode cJ0_charAt_5068e 24 = .ok (.ireturn, 1) := by decide +kernel
theorem dJ0_indexOf_0f7a4_0 : decode cJ0_indexOf_0f7a4 0 = .ok (.aload_n 0, 1) := by decide +kernel
theorem dJ0_indexOf_0f7a4_1 : decode cJ0_indexOf_0f7a4 1 = .ok (.iload_n 1, 1) := by decide +kernel
theorem dJ0_indexOf_0f7a4_2 : decode cJ0_indexOf_0f7a4 2 = .ok (.iconst 0, 1) := by decide +kernel
theorem dJ0_indexOf_0f7a4_3 : decode cJ0_indexOf_0f7a4 3 = .ok (.invokevirtual 633, 3) := by decide +kernel
theorem dJ0_indexOf_0f7a4_6 : decode cJ0_indexOf_0f7a4 6 = .ok (.ireturn, 1) := by decide +kernel
theorem dJ0_indexOf_7cf53_0 : decode cJ0_indexOf_7cf53 0 = .ok (.aload_n 0, 1) := by decide +kernel
theorem dJ0_indexOf_7cf53_1 : decode cJ0_indexOf_7cf53 1 = .ok (.invokevirtual 492, 3) := by decide +kernel
theorem dJ0_indexOf_7cf53_4 : decode cJ0_indexOf_7cf53 4 = .ok (.ifCond .eq 19, 3) := by decide +kernel
theorem dJ0_indexOf_7cf53_7 : decode cJ0_indexOf_7cf53 7 = .ok (.aload_n 0, 1) := by decide +kernel
theorem dJ0_indexOf_7cf53_8 : decode cJ0_indexOf_7cf53 8 = .ok (.getfield 9, 3) := by decide +kernel
theorem dJ0_indexOf_7cf53_11 : decode cJ0_indexOf_7cf53 11 = .ok (.iload_n 1, 1) := by decide +kernel
theorem dJ0_indexOf_7cf53_12 : decode cJ0_indexOf_7cf53 12 = .ok (.iload_n 2, 1) := by decide +kernel
theorem dJ0_indexOf_7cf53_13 : decode cJ0_indexOf_7cf53 13 = .ok (.aload_n 0, 1) := by decide +kernel
theorem dJ0_indexOf_7cf53_14 : decode cJ0_indexOf_7cf53 14 = .ok (.invokevirtual 505, 3) := by decide +kernel
theorem dJ0_indexOf_7cf53_17 : decode cJ0_indexOf_7cf53 17 = .ok (.invokestatic 637, 3) := by decide +kernel
theorem dJ0_indexOf_7cf53_20 : decode cJ0_indexOf_7cf53 20 = .ok (.goto 16, 3) := by decide +kernel
theorem dJ0_indexOf_7cf53_23 : decode cJ0_indexOf_7cf53 23 = .ok (.aload_n 0, 1) := by decide +kernel
theorem dJ0_indexOf_7cf53_24 : decode cJ0_indexOf_7cf53 24 = .ok (.getfield 9, 3) := by decide +kernel
theorem dJ0_indexOf_7cf53_27 : decode cJ0_indexOf_7cf53 27 = .ok (.iload_n 1, 1) := by decide +kernel
theorem dJ0_indexOf_7cf53_28 : decode cJ0_indexOf_7cf53 28 = .ok (.iload_n 2, 1) := by decide +kernel
theorem dJ0_indexOf_7cf53_29 : decode cJ0_indexOf_7cf53 29 = .ok (.aload_n 0, 1) := by decide +kernel
theorem dJ0_indexOf_7cf53_30 : decode cJ0_indexOf_7cf53 30 = .ok (.invokevirtual 505, 3) := by decide +kernel
theorem dJ0_indexOf_7cf53_33 : decode cJ0_indexOf_7cf53 33 = .ok (.invokestatic 640, 3) := by decide +kernel
theorem dJ0_indexOf_7cf53_36 : decode cJ0_indexOf_7cf53 36 = .ok (.ireturn, 1) := by decide +kernel
theorem dJ0_coder_7d493_0 : decode cJ0_coder_7d493 0 = .ok (.getstatic 38, 3) := by decide +kernel
theorem dJ0_coder_7d493_3 : decode cJ0_coder_7d493 3 = .ok (.ifCond .eq 10, 3) := by decide +kernel
theorem dJ0_coder_7d493_6 : decode cJ0_coder_7d493 6 = .ok (.aload_n 0, 1) := by decide +kernel
theorem dJ0_coder_7d493_7 : decode cJ0_coder_7d493 7 = .ok (.getfield 15, 3) := by decide +kernel
theorem dJ0_coder_7d493_10 : decode cJ0_coder_7d493 10 = .ok (.goto 4, 3) := by decide +kernel
theorem dJ0_coder_7d493_13 : decode cJ0_coder_7d493 13 = .ok (.iconst 1, 1) := by decide +kernel
theorem dJ0_coder_7d493_14 : decode cJ0_coder_7d493 14 = .ok (.ireturn, 1) := by decide +kernel
theorem dJ0_isLatin1_aae02_0 : decode cJ0_isLatin1_aae02 0 = .ok (.getstatic 38, 3) := by decide +kernel
theorem dJ0_isLatin1_aae02_3 : decode cJ0_isLatin1_aae02 3 = .ok (.ifCond .eq 14, 3) := by decide +kernel
theorem dJ0_isLatin1_aae02_6 : decode cJ0_isLatin1_aae02 6 = .ok (.aload_n 0, 1) := by decide +kernel
theorem dJ0_isLatin1_aae02_7 : decode cJ0_isLatin1_aae02 7 = .ok (.getfield 15, 3) := by decide +kernel
theorem dJ0_isLatin1_aae02_10 : decode cJ0_isLatin1_aae02 10 = .ok (.ifCond .ne 7, 3) := by decide +kernel
theorem dJ0_isLatin1_aae02_13 : decode cJ0_isLatin1_aae02 13 = .ok (.iconst 1, 1) := by decide +kernel
theorem dJ0_isLatin1_aae02_14 : decode cJ0_isLatin1_aae02 14 = .ok (.goto 4, 3) := by decide +kernel
theorem dJ0_isLatin1_aae02_17 : decode cJ0_isLatin1_aae02 17 = .ok (.iconst 0, 1) := by decide +kernel
theorem dJ0_isLatin1_aae02_18 : decode cJ0_isLatin1_aae02 18 = .ok (.ireturn, 1) := by decide +kernel
theorem dJ0_checkIndex_df160_0 : decode cJ0_checkIndex_df160 0 = .ok (.iload_n 0, 1) := by decide +kernel
theorem dJ0_checkIndex_df160_1 : decode cJ0_checkIndex_df160 1 = .ok (.iload_n 1, 1) := by decide +kernel
theorem dJ0_checkIndex_df160_2 : decode cJ0_checkIndex_df160 2 = .ok (.getstatic 1053, 3) := by decide +kernel
theorem dJ0_checkIndex_df160_5 : decode cJ0_checkIndex_df160 5 = .ok (.invokestatic 1059, 3) := by decide +kernel
theorem dJ0_checkIndex_df160_8 : decode cJ0_checkIndex_df160 8 = .ok (.pop, 1) := by decide +kernel
theorem dJ0_checkIndex_df160_9 : decode cJ0_checkIndex_df160 9 = .ok (.return_, 1) := by decide +kernel
theorem dJ1_charAt_3b067_0 : decode cJ1_charAt_3b067 0 = .ok (.iload_n 1, 1) := by decide +kernel
theorem dJ1_charAt_3b067_1 : decode cJ1_charAt_3b067 1 = .ok (.aload_n 0, 1) := by decide +kernel
theorem dJ1_charAt_3b067_2 : decode cJ1_charAt_3b067 2 = .ok (.arraylength, 1) := by decide +kernel
theorem dJ1_charAt_3b067_3 : decode cJ1_charAt_3b067 3 = .ok (.invokestatic 9, 3) := by decide +kernel
theorem dJ1_charAt_3b067_6 : decode cJ1_charAt_3b067 6 = .ok (.aload_n 0, 1) := by decide +kernel
theorem dJ1_charAt_3b067_7 : decode cJ1_charAt_3b067 7 = .ok (.iload_n 1, 1) := by decide +kernel
theorem dJ1_charAt_3b067_8 : decode cJ1_charAt_3b067 8 = .ok (.baload, 1) := by decide +kernel
theorem dJ1_charAt_3b067_9 : decode cJ1_charAt_3b067 9 = .ok (.sipush 255, 3) := by decide +kernel
theorem dJ1_charAt_3b067_12 : decode cJ1_charAt_3b067 12 = .ok (.iand, 1) := by decide +kernel
theorem dJ1_charAt_3b067_13 : decode cJ1_charAt_3b067 13 = .ok (.i2c, 1) := by decide +kernel
theorem dJ1_charAt_3b067_14 : decode cJ1_charAt_3b067 14 = .ok (.ireturn, 1) := by decide +kernel
theorem dJ1_canEncode_9a6ad_0 : decode cJ1_canEncode_9a6ad 0 = .ok (.iload_n 0, 1) := by decide +kernel
theorem dJ1_canEncode_9a6ad_1 : decode cJ1_canEncode_9a6ad 1 = .ok (.ifCond .lt 14, 3) := by decide +kernel
theorem dJ1_canEncode_9a6ad_4 : decode cJ1_canEncode_9a6ad 4 = .ok (.iload_n 0, 1) := by decide +kernel
theorem dJ1_canEncode_9a6ad_5 : decode cJ1_canEncode_9a6ad 5 = .ok (.sipush 255, 3) := by decide +kernel
theorem dJ1_canEncode_9a6ad_8 : decode cJ1_canEncode_9a6ad 8 = .ok (.if_icmp .gt 7, 3) := by decide +kernel
theorem dJ1_canEncode_9a6ad_11 : decode cJ1_canEncode_9a6ad 11 = .ok (.iconst 1, 1) := by decide +kernel
theorem dJ1_canEncode_9a6ad_12 : decode cJ1_canEncode_9a6ad 12 = .ok (.goto 4, 3) := by decide +kernel
theorem dJ1_canEncode_9a6ad_15 : decode cJ1_canEncode_9a6ad 15 = .ok (.iconst 0, 1) := by decide +kernel
theorem dJ1_canEncode_9a6ad_16 : decode cJ1_canEncode_9a6ad 16 = .ok (.ireturn, 1) := by decide +kernel
theorem dJ1_indexOf_4cfef_0 : decode cJ1_indexOf_4cfef 0 = .ok (.iload_n 1, 1) := by decide +kernel
theorem dJ1_indexOf_4cfef_1 : decode cJ1_indexOf_4cfef 1 = .ok (.invokestatic 88, 3) := by decide +kernel
theorem dJ1_indexOf_4cfef_4 : decode cJ1_indexOf_4cfef 4 = .ok (.ifCond .ne 5, 3) := by decide +kernel
theorem dJ1_indexOf_4cfef_7 : decode cJ1_indexOf_4cfef 7 = .ok (.iconst (-1), 1) := by decide +kernel
theorem dJ1_indexOf_4cfef_8 : decode cJ1_indexOf_4cfef 8 = .ok (.ireturn, 1) := by decide +kernel
theorem dJ1_indexOf_4cfef_9 : decode cJ1_indexOf_4cfef 9 = .ok (.iload_n 2, 1) := by decide +kernel
theorem dJ1_indexOf_4cfef_10 : decode cJ1_indexOf_4cfef 10 = .ok (.iconst 0, 1) := by decide +kernel
theorem dJ1_indexOf_4cfef_11 : decode cJ1_indexOf_4cfef 11 = .ok (.invokestatic 92, 3) := by decide +kernel
theorem dJ1_indexOf_4cfef_14 : decode cJ1_indexOf_4cfef 14 = .ok (.istore_n 2, 1) := by decide +kernel
theorem dJ1_indexOf_4cfef_15 : decode cJ1_indexOf_4cfef 15 = .ok (.iload_n 3, 1) := by decide +kernel
theorem dJ1_indexOf_4cfef_16 : decode cJ1_indexOf_4cfef 16 = .ok (.aload_n 0, 1) := by decide +kernel
theorem dJ1_indexOf_4cfef_17 : decode cJ1_indexOf_4cfef 17 = .ok (.arraylength, 1) := by decide +kernel
theorem dJ1_indexOf_4cfef_18 : decode cJ1_indexOf_4cfef 18 = .ok (.invokestatic 38, 3) := by decide +kernel
theorem dJ1_indexOf_4cfef_21 : decode cJ1_indexOf_4cfef 21 = .ok (.istore_n 3, 1) := by decide +kernel
theorem dJ1_indexOf_4cfef_22 : decode cJ1_indexOf_4cfef 22 = .ok (.iload_n 2, 1) := by decide +kernel
theorem dJ1_indexOf_4cfef_23 : decode cJ1_indexOf_4cfef 23 = .ok (.iload_n 3, 1) := by decide +kernel
theorem dJ1_indexOf_4cfef_24 : decode cJ1_indexOf_4cfef 24 = .ok (.if_icmp .lt 5, 3) := by decide +kernel
theorem dJ1_indexOf_4cfef_27 : decode cJ1_indexOf_4cfef 27 = .ok (.iconst (-1), 1) := by decide +kernel
theorem dJ1_indexOf_4cfef_28 : decode cJ1_indexOf_4cfef 28 = .ok (.ireturn, 1) := by decide +kernel
theorem dJ1_indexOf_4cfef_29 : decode cJ1_indexOf_4cfef 29 = .ok (.aload_n 0, 1) := by decide +kernel
theorem dJ1_indexOf_4cfef_30 : decode cJ1_indexOf_4cfef 30 = .ok (.iload_n 1, 1) := by decide +kernel
theorem dJ1_indexOf_4cfef_31 : decode cJ1_indexOf_4cfef 31 = .ok (.iload_n 2, 1) := by decide +kernel
theorem dJ1_indexOf_4cfef_32 : decode cJ1_indexOf_4cfef 32 = .ok (.iload_n 3, 1) := by decide +kernel
theorem dJ1_indexOf_4cfef_33 : decode cJ1_indexOf_4cfef 33 = .ok (.invokestatic 95, 3) := by decide +kernel
theorem dJ1_indexOf_4cfef_36 : decode cJ1_indexOf_4cfef 36 = .ok (.ireturn, 1) := by decide +kernel
theorem dJ1_indexOfChar_4cfef_0 : decode cJ1_indexOfChar_4cfef 0 = .ok (.iload_n 1, 1) := by decide +kernel
theorem dJ1_indexOfChar_4cfef_1 : decode cJ1_indexOfChar_4cfef 1 = .ok (.i2b, 1) := by decide +kernel
theorem dJ1_indexOfChar_4cfef_2 : decode cJ1_indexOfChar_4cfef 2 = .ok (.istore 4, 2) := by decide +kernel
theorem dJ1_indexOfChar_4cfef_4 : decode cJ1_indexOfChar_4cfef 4 = .ok (.iload_n 2, 1) := by decide +kernel
theorem dJ1_indexOfChar_4cfef_5 : decode cJ1_indexOfChar_4cfef 5 = .ok (.istore 5, 2) := by decide +kernel
theorem dJ1_indexOfChar_4cfef_7 : decode cJ1_indexOfChar_4cfef 7 = .ok (.iload 5, 2) := by decide +kernel
theorem dJ1_indexOfChar_4cfef_9 : decode cJ1_indexOfChar_4cfef 9 = .ok (.iload_n 3, 1) := by decide +kernel
theorem dJ1_indexOfChar_4cfef_10 : decode cJ1_indexOfChar_4cfef 10 = .ok (.if_icmp .ge 21, 3) := by decide +kernel
theorem dJ1_indexOfChar_4cfef_13 : decode cJ1_indexOfChar_4cfef 13 = .ok (.aload_n 0, 1) := by decide +kernel
theorem dJ1_indexOfChar_4cfef_14 : decode cJ1_indexOfChar_4cfef 14 = .ok (.iload 5, 2) := by decide +kernel
theorem dJ1_indexOfChar_4cfef_16 : decode cJ1_indexOfChar_4cfef 16 = .ok (.baload, 1) := by decide +kernel
theorem dJ1_indexOfChar_4cfef_17 : decode cJ1_indexOfChar_4cfef 17 = .ok (.iload 4, 2) := by decide +kernel
theorem dJ1_indexOfChar_4cfef_19 : decode cJ1_indexOfChar_4cfef 19 = .ok (.if_icmp .ne 6, 3) := by decide +kernel
theorem dJ1_indexOfChar_4cfef_22 : decode cJ1_indexOfChar_4cfef 22 = .ok (.iload 5, 2) := by decide +kernel
theorem dJ1_indexOfChar_4cfef_24 : decode cJ1_indexOfChar_4cfef 24 = .ok (.ireturn, 1) := by decide +kernel
theorem dJ1_indexOfChar_4cfef_25 : decode cJ1_indexOfChar_4cfef 25 = .ok (.iinc 5 1, 3) := by decide +kernel
theorem dJ1_indexOfChar_4cfef_28 : decode cJ1_indexOfChar_4cfef 28 = .ok (.goto (-21), 3) := by decide +kernel
theorem dJ1_indexOfChar_4cfef_31 : decode cJ1_indexOfChar_4cfef 31 = .ok (.iconst (-1), 1) := by decide +kernel
theorem dJ1_indexOfChar_4cfef_32 : decode cJ1_indexOfChar_4cfef 32 = .ok (.ireturn, 1) := by decide +kernel
theorem dJ3_checkIndex_8e157_0 : decode cJ3_checkIndex_8e157 0 = .ok (.iload_n 0, 1) := by decide +kernel
theorem dJ3_checkIndex_8e157_1 : decode cJ3_checkIndex_8e157 1 = .ok (.ifCond .lt 8, 3) := by decide +kernel
theorem dJ3_checkIndex_8e157_4 : decode cJ3_checkIndex_8e157 4 = .ok (.iload_n 0, 1) := by decide +kernel
theorem dJ3_checkIndex_8e157_5 : decode cJ3_checkIndex_8e157 5 = .ok (.iload_n 1, 1) := by decide +kernel
theorem dJ3_checkIndex_8e157_6 : decode cJ3_checkIndex_8e157 6 = .ok (.if_icmp .lt 10, 3) := by decide +kernel
theorem dJ3_checkIndex_8e157_9 : decode cJ3_checkIndex_8e157 9 = .ok (.aload_n 2, 1) := by decide +kernel
theorem dJ3_checkIndex_8e157_10 : decode cJ3_checkIndex_8e157 10 = .ok (.iload_n 0, 1) := by decide +kernel
theorem dJ3_checkIndex_8e157_11 : decode cJ3_checkIndex_8e157 11 = .ok (.iload_n 1, 1) := by decide +kernel
theorem dJ3_checkIndex_8e157_12 : decode cJ3_checkIndex_8e157 12 = .ok (.invokestatic 95, 3) := by decide +kernel
theorem dJ3_checkIndex_8e157_15 : decode cJ3_checkIndex_8e157 15 = .ok (.athrow, 1) := by decide +kernel
theorem dJ3_checkIndex_8e157_16 : decode cJ3_checkIndex_8e157 16 = .ok (.iload_n 0, 1) := by decide +kernel
theorem dJ3_checkIndex_8e157_17 : decode cJ3_checkIndex_8e157 17 = .ok (.ireturn, 1) := by decide +kernel
theorem dX1_init_0 : decode cX1_init 0 = .ok (.aload_n 0, 1) := by decide +kernel
theorem dX1_init_1 : decode cX1_init 1 = .ok (.invokespecial 5, 3) := by decide +kernel
theorem dX1_init_4 : decode cX1_init 4 = .ok (.aload_n 0, 1) := by decide +kernel
theorem dX1_init_5 : decode cX1_init 5 = .ok (.sipush 400, 3) := by decide +kernel
theorem dX1_init_8 : decode cX1_init 8 = .ok (.newarray .int, 2) := by decide +kernel
theorem dX1_init_10 : decode cX1_init 10 = .ok (.putfield 11, 3) := by decide +kernel
theorem dX1_init_13 : decode cX1_init 13 = .ok (.aload_n 0, 1) := by decide +kernel
theorem dX1_init_14 : decode cX1_init 14 = .ok (.bipush 64, 2) := by decide +kernel
theorem dX1_init_16 : decode cX1_init 16 = .ok (.newarray .long, 2) := by decide +kernel
theorem dX1_init_18 : decode cX1_init 18 = .ok (.putfield 15, 3) := by decide +kernel
theorem dX1_init_21 : decode cX1_init 21 = .ok (.aload_n 0, 1) := by decide +kernel
theorem dX1_init_22 : decode cX1_init 22 = .ok (.iconst 0, 1) := by decide +kernel
theorem dX1_init_23 : decode cX1_init 23 = .ok (.putfield 19, 3) := by decide +kernel
theorem dX1_init_26 : decode cX1_init 26 = .ok (.aload_n 0, 1) := by decide +kernel
theorem dX1_init_27 : decode cX1_init 27 = .ok (.iconst 0, 1) := by decide +kernel
theorem dX1_init_28 : decode cX1_init 28 = .ok (.putfield 23, 3) := by decide +kernel
theorem dX1_init_31 : decode cX1_init 31 = .ok (.return_, 1) := by decide +kernel
theorem dX3_init_0 : decode cX3_init 0 = .ok (.aload_n 0, 1) := by decide +kernel
theorem dX3_init_1 : decode cX3_init 1 = .ok (.invokespecial 3, 3) := by decide +kernel
theorem dX3_init_4 : decode cX3_init 4 = .ok (.aload_n 0, 1) := by decide +kernel
theorem dX3_init_5 : decode cX3_init 5 = .ok (.iconst 0, 1) := by decide +kernel
theorem dX3_init_6 : decode cX3_init 6 = .ok (.putfield 9, 3) := by decide +kernel
theorem dX3_init_9 : decode cX3_init 9 = .ok (.aload_n 0, 1) := by decide +kernel
theorem dX3_init_10 : decode cX3_init 10 = .ok (.bipush 6, 2) := by decide +kernel
theorem dX3_init_12 : decode cX3_init 12 = .ok (.newarray .int, 2) := by decide +kernel
theorem dX3_init_14 : decode cX3_init 14 = .ok (.putfield 15, 3) := by decide +kernel
theorem dX3_init_17 : decode cX3_init 17 = .ok (.aload_n 0, 1) := by decide +kernel
theorem dX3_init_18 : decode cX3_init 18 = .ok (.iconst 3, 1) := by decide +kernel
theorem dX3_init_19 : decode cX3_init 19 = .ok (.newarray .int, 2) := by decide +kernel
theorem dX3_init_21 : decode cX3_init 21 = .ok (.putfield 19, 3) := by decide +kernel
theorem dX3_init_24 : decode cX3_init 24 = .ok (.aload_n 0, 1) := by decide +kernel
theorem dX3_init_25 : decode cX3_init 25 = .ok (.iconst 3, 1) := by decide +kernel
theorem dX3_init_26 : decode cX3_init 26 = .ok (.newarray .int, 2) := by decide +kernel
theorem dX3_init_28 : decode cX3_init 28 = .ok (.putfield 22, 3) := by decide +kernel
theorem dX3_init_31 : decode cX3_init 31 = .ok (.aload_n 0, 1) := by decide +kernel
theorem dX3_init_32 : decode cX3_init 32 = .ok (.iconst 3, 1) := by decide +kernel
theorem dX3_init_33 : decode cX3_init 33 = .ok (.newarray .int, 2) := by decide +kernel
theorem dX3_init_35 : decode cX3_init 35 = .ok (.putfield 25, 3) := by decide +kernel
theorem dX3_init_38 : decode cX3_init 38 = .ok (.aload_n 0, 1) := by decide +kernel
theorem dX3_init_39 : decode cX3_init 39 = .ok (.iconst 0, 1) := by decide +kernel
theorem dX3_init_40 : decode cX3_init 40 = .ok (.putfield 28, 3) := by decide +kernel
theorem dX3_init_43 : decode cX3_init 43 = .ok (.aload_n 0, 1) := by decide +kernel
theorem dX3_init_44 : decode cX3_init 44 = .ok (.bipush 8, 2) := by decide +kernel
theorem dX3_init_46 : decode cX3_init 46 = .ok (.newarray .int, 2) := by decide +kernel
theorem dX3_init_48 : decode cX3_init 48 = .ok (.putfield 31, 3) := by decide +kernel
theorem dX3_init_51 : decode cX3_init 51 = .ok (.aload_n 0, 1) := by decide +kernel
theorem dX3_init_52 : decode cX3_init 52 = .ok (.bipush 8, 2) := by decide +kernel
theorem dX3_init_54 : decode cX3_init 54 = .ok (.newarray .int, 2) := by decide +kernel
theorem dX3_init_56 : decode cX3_init 56 = .ok (.putfield 34, 3) := by decide +kernel
theorem dX3_init_59 : decode cX3_init 59 = .ok (.aload_n 0, 1) := by decide +kernel
theorem dX3_init_60 : decode cX3_init 60 = .ok (.iconst (-1), 1) := by decide +kernel
theorem dX3_init_61 : decode cX3_init 61 = .ok (.putfield 37, 3) := by decide +kernel
theorem dX3_init_64 : decode cX3_init 64 = .ok (.aload_n 0, 1) := by decide +kernel
theorem dX3_init_65 : decode cX3_init 65 = .ok (.iconst 0, 1) := by decide +kernel
theorem dX3_init_66 : decode cX3_init 66 = .ok (.putfield 40, 3) := by decide +kernel
theorem dX3_init_69 : decode cX3_init 69 = .ok (.aload_n 0, 1) := by decide +kernel
theorem dX3_init_70 : decode cX3_init 70 = .ok (.iconst 0, 1) := by decide +kernel
theorem dX3_init_71 : decode cX3_init 71 = .ok (.putfield 43, 3) := by decide +kernel
theorem dX3_init_74 : decode cX3_init 74 = .ok (.return_, 1) := by decide +kernel
theorem dX4_init_0 : decode cX4_init 0 = .ok (.aload_n 0, 1) := by decide +kernel
theorem dX4_init_1 : decode cX4_init 1 = .ok (.invokespecial 3, 3) := by decide +kernel
theorem dX4_init_4 : decode cX4_init 4 = .ok (.aload_n 0, 1) := by decide +kernel
theorem dX4_init_5 : decode cX4_init 5 = .ok (.sipush 400, 3) := by decide +kernel
theorem dX4_init_8 : decode cX4_init 8 = .ok (.newarray .int, 2) := by decide +kernel
theorem dX4_init_10 : decode cX4_init 10 = .ok (.putfield 9, 3) := by decide +kernel
theorem dX4_init_13 : decode cX4_init 13 = .ok (.aload_n 0, 1) := by decide +kernel
theorem dX4_init_14 : decode cX4_init 14 = .ok (.iconst 0, 1) := by decide +kernel
theorem dX4_init_15 : decode cX4_init 15 = .ok (.putfield 15, 3) := by decide +kernel
theorem dX4_init_18 : decode cX4_init 18 = .ok (.aload_n 0, 1) := by decide +kernel
theorem dX4_init_19 : decode cX4_init 19 = .ok (.iconst 0, 1) := by decide +kernel
theorem dX4_init_20 : decode cX4_init 20 = .ok (.putfield 19, 3) := by decide +kernel
theorem dX4_init_23 : decode cX4_init 23 = .ok (.aload_n 0, 1) := by decide +kernel
theorem dX4_init_24 : decode cX4_init 24 = .ok (.iconst 0, 1) := by decide +kernel
theorem dX4_init_25 : decode cX4_init 25 = .ok (.putfield 22, 3) := by decide +kernel
theorem dX4_init_28 : decode cX4_init 28 = .ok (.return_, 1) := by decide +kernel
theorem dX5_init_0 : decode cX5_init 0 = .ok (.aload_n 0, 1) := by decide +kernel
theorem dX5_init_1 : decode cX5_init 1 = .ok (.invokespecial 3, 3) := by decide +kernel
theorem dX5_init_4 : decode cX5_init 4 = .ok (.aload_n 0, 1) := by decide +kernel
theorem dX5_init_5 : decode cX5_init 5 = .ok (.iconst 0, 1) := by decide +kernel
theorem dX5_init_6 : decode cX5_init 6 = .ok (.putfield 9, 3) := by decide +kernel
theorem dX5_init_9 : decode cX5_init 9 = .ok (.aload_n 0, 1) := by decide +kernel
theorem dX5_init_10 : decode cX5_init 10 = .ok (.iconst 0, 1) := by decide +kernel
theorem dX5_init_11 : decode cX5_init 11 = .ok (.putfield 15, 3) := by decide +kernel
theorem dX5_init_14 : decode cX5_init 14 = .ok (.aload_n 0, 1) := by decide +kernel
theorem dX5_init_15 : decode cX5_init 15 = .ok (.iconst 0, 1) := by decide +kernel
theorem dX5_init_16 : decode cX5_init 16 = .ok (.putfield 18, 3) := by decide +kernel
theorem dX5_init_19 : decode cX5_init 19 = .ok (.aload_n 0, 1) := by decide +kernel
theorem dX5_init_20 : decode cX5_init 20 = .ok (.iconst 0, 1) := by decide +kernel
theorem dX5_init_21 : decode cX5_init 21 = .ok (.putfield 21, 3) := by decide +kernel
theorem dX5_init_24 : decode cX5_init 24 = .ok (.aload_n 0, 1) := by decide +kernel
theorem dX5_init_25 : decode cX5_init 25 = .ok (.bipush 6, 2) := by decide +kernel
theorem dX5_init_27 : decode cX5_init 27 = .ok (.newarray .int, 2) := by decide +kernel
theorem dX5_init_29 : decode cX5_init 29 = .ok (.putfield 24, 3) := by decide +kernel
theorem dX5_init_32 : decode cX5_init 32 = .ok (.aload_n 0, 1) := by decide +kernel
theorem dX5_init_33 : decode cX5_init 33 = .ok (.bipush 6, 2) := by decide +kernel
theorem dX5_init_35 : decode cX5_init 35 = .ok (.newarray .int, 2) := by decide +kernel
theorem dX5_init_37 : decode cX5_init 37 = .ok (.putfield 28, 3) := by decide +kernel
theorem dX5_init_40 : decode cX5_init 40 = .ok (.aload_n 0, 1) := by decide +kernel
theorem dX5_init_41 : decode cX5_init 41 = .ok (.iconst 3, 1) := by decide +kernel
theorem dX5_init_42 : decode cX5_init 42 = .ok (.newarray .int, 2) := by decide +kernel
theorem dX5_init_44 : decode cX5_init 44 = .ok (.putfield 31, 3) := by decide +kernel
theorem dX5_init_47 : decode cX5_init 47 = .ok (.aload_n 0, 1) := by decide +kernel
theorem dX5_init_48 : decode cX5_init 48 = .ok (.iconst 3, 1) := by decide +kernel
theorem dX5_init_49 : decode cX5_init 49 = .ok (.newarray .int, 2) := by decide +kernel
theorem dX5_init_51 : decode cX5_init 51 = .ok (.putfield 34, 3) := by decide +kernel
theorem dX5_init_54 : decode cX5_init 54 = .ok (.aload_n 0, 1) := by decide +kernel
theorem dX5_init_55 : decode cX5_init 55 = .ok (.iconst 3, 1) := by decide +kernel
theorem dX5_init_56 : decode cX5_init 56 = .ok (.newarray .int, 2) := by decide +kernel
theorem dX5_init_58 : decode cX5_init 58 = .ok (.putfield 37, 3) := by decide +kernel
theorem dX5_init_61 : decode cX5_init 61 = .ok (.aload_n 0, 1) := by decide +kernel
theorem dX5_init_62 : decode cX5_init 62 = .ok (.bipush 8, 2) := by decide +kernel
theorem dX5_init_64 : decode cX5_init 64 = .ok (.newarray .int, 2) := by decide +kernel
theorem dX5_init_66 : decode cX5_init 66 = .ok (.putfield 40, 3) := by decide +kernel
theorem dX5_init_69 : decode cX5_init 69 = .ok (.aload_n 0, 1) := by decide +kernel
theorem dX5_init_70 : decode cX5_init 70 = .ok (.bipush 8, 2) := by decide +kernel
theorem dX5_init_72 : decode cX5_init 72 = .ok (.newarray .int, 2) := by decide +kernel
theorem dX5_init_74 : decode cX5_init 74 = .ok (.putfield 43, 3) := by decide +kernel
theorem dX5_init_77 : decode cX5_init 77 = .ok (.aload_n 0, 1) := by decide +kernel
theorem dX5_init_78 : decode cX5_init 78 = .ok (.bipush 8, 2) := by decide +kernel
theorem dX5_init_80 : decode cX5_init 80 = .ok (.newarray .int, 2) := by decide +kernel
theorem dX5_init_82 : decode cX5_init 82 = .ok (.putfield 46, 3) := by decide +kernel
theorem dX5_init_85 : decode cX5_init 85 = .ok (.return_, 1) := by decide +kernel
theorem dX6_init_0 : decode cX6_init 0 = .ok (.aload_n 0, 1) := by decide +kernel
theorem dX6_init_1 : decode cX6_init 1 = .ok (.invokespecial 3, 3) := by decide +kernel
theorem dX6_init_4 : decode cX6_init 4 = .ok (.aload_n 0, 1) := by decide +kernel
theorem dX6_init_5 : decode cX6_init 5 = .ok (.new 9, 3) := by decide +kernel
theorem dX6_init_8 : decode cX6_init 8 = .ok (.dup, 1) := by decide +kernel
theorem dX6_init_9 : decode cX6_init 9 = .ok (.invokespecial 11, 3) := by decide +kernel
theorem dX6_init_12 : decode cX6_init 12 = .ok (.putfield 12, 3) := by decide +kernel
theorem dX6_init_15 : decode cX6_init 15 = .ok (.aload_n 0, 1) := by decide +kernel
theorem dX6_init_16 : decode cX6_init 16 = .ok (.new 18, 3) := by decide +kernel
theorem dX6_init_19 : decode cX6_init 19 = .ok (.dup, 1) := by decide +kernel
theorem dX6_init_20 : decode cX6_init 20 = .ok (.invokespecial 20, 3) := by decide +kernel
theorem dX6_init_23 : decode cX6_init 23 = .ok (.putfield 21, 3) := by decide +kernel
theorem dX6_init_26 : decode cX6_init 26 = .ok (.aload_n 0, 1) := by decide +kernel
theorem dX6_init_27 : decode cX6_init 27 = .ok (.bipush 20, 2) := by decide +kernel
theorem dX6_init_29 : decode cX6_init 29 = .ok (.anewarray 18, 3) := by decide +kernel
theorem dX6_init_32 : decode cX6_init 32 = .ok (.putfield 25, 3) := by decide +kernel
theorem dX6_init_35 : decode cX6_init 35 = .ok (.aload_n 0, 1) := by decide +kernel
theorem dX6_init_36 : decode cX6_init 36 = .ok (.iconst 0, 1) := by decide +kernel
theorem dX6_init_37 : decode cX6_init 37 = .ok (.putfield 29, 3) := by decide +kernel
theorem dX6_init_40 : decode cX6_init 40 = .ok (.aload_n 0, 1) := by decide +kernel
theorem dX6_init_41 : decode cX6_init 41 = .ok (.bipush 10, 2) := by decide +kernel
theorem dX6_init_43 : decode cX6_init 43 = .ok (.newarray .int, 2) := by decide +kernel
theorem dX6_init_45 : decode cX6_init 45 = .ok (.putfield 33, 3) := by decide +kernel
theorem dX6_init_48 : decode cX6_init 48 = .ok (.aload_n 0, 1) := by decide +kernel
theorem dX6_init_49 : decode cX6_init 49 = .ok (.bipush 10, 2) := by decide +kernel
theorem dX6_init_51 : decode cX6_init 51 = .ok (.newarray .int, 2) := by decide +kernel
theorem dX6_init_53 : decode cX6_init 53 = .ok (.putfield 37, 3) := by decide +kernel
theorem dX6_init_56 : decode cX6_init 56 = .ok (.aload_n 0, 1) := by decide +kernel
theorem dX6_init_57 : decode cX6_init 57 = .ok (.bipush 10, 2) := by decide +kernel
theorem dX6_init_59 : decode cX6_init 59 = .ok (.newarray .int, 2) := by decide +kernel
theorem dX6_init_61 : decode cX6_init 61 = .ok (.putfield 40, 3) := by decide +kernel
theorem dX6_init_64 : decode cX6_init 64 = .ok (.aload_n 0, 1) := by decide +kernel
theorem dX6_init_65 : decode cX6_init 65 = .ok (.iconst 0, 1) := by decide +kernel
theorem dX6_init_66 : decode cX6_init 66 = .ok (.putfield 43, 3) := by decide +kernel
theorem dX6_init_69 : decode cX6_init 69 = .ok (.aload_n 0, 1) := by decide +kernel
theorem dX6_init_70 : decode cX6_init 70 = .ok (.iconst (-1), 1) := by decide +kernel
theorem dX6_init_71 : decode cX6_init 71 = .ok (.putfield 46, 3) := by decide +kernel
theorem dX6_init_74 : decode cX6_init 74 = .ok (.aload_n 0, 1) := by decide +kernel
theorem dX6_init_75 : decode cX6_init 75 = .ok (.iconst 0, 1) := by decide +kernel
theorem dX6_init_76 : decode cX6_init 76 = .ok (.putfield 49, 3) := by decide +kernel
theorem dX6_init_79 : decode cX6_init 79 = .ok (.iconst 0, 1) := by decide +kernel
theorem dX6_init_80 : decode cX6_init 80 = .ok (.istore_n 1, 1) := by decide +kernel
theorem dX6_init_81 : decode cX6_init 81 = .ok (.iload_n 1, 1) := by decide +kernel
theorem dX6_init_82 : decode cX6_init 82 = .ok (.bipush 20, 2) := by decide +kernel
theorem dX6_init_84 : decode cX6_init 84 = .ok (.if_icmp .ge 22, 3) := by decide +kernel
theorem dX6_init_87 : decode cX6_init 87 = .ok (.aload_n 0, 1) := by decide +kernel
theorem dX6_init_88 : decode cX6_init 88 = .ok (.getfield 25, 3) := by decide +kernel
theorem dX6_init_91 : decode cX6_init 91 = .ok (.iload_n 1, 1) := by decide +kernel
theorem dX6_init_92 : decode cX6_init 92 = .ok (.new 18, 3) := by decide +kernel
theorem dX6_init_95 : decode cX6_init 95 = .ok (.dup, 1) := by decide +kernel
theorem dX6_init_96 : decode cX6_init 96 = .ok (.invokespecial 20, 3) := by decide +kernel
theorem dX6_init_99 : decode cX6_init 99 = .ok (.aastore, 1) := by decide +kernel
theorem dX6_init_100 : decode cX6_init 100 = .ok (.iinc 1 1, 3) := by decide +kernel
theorem dX6_init_103 : decode cX6_init 103 = .ok (.goto (-22), 3) := by decide +kernel
theorem dX6_init_106 : decode cX6_init 106 = .ok (.return_, 1) := by decide +kernel
theorem dX7_init_0 : decode cX7_init 0 = .ok (.aload_n 0, 1) := by decide +kernel
theorem dX7_init_1 : decode cX7_init 1 = .ok (.invokespecial 1, 3) := by decide +kernel
theorem dX7_init_4 : decode cX7_init 4 = .ok (.aload_n 0, 1) := by decide +kernel
theorem dX7_init_5 : decode cX7_init 5 = .ok (.new 7, 3) := by decide +kernel
theorem dX7_init_8 : decode cX7_init 8 = .ok (.dup, 1) := by decide +kernel
theorem dX7_init_9 : decode cX7_init 9 = .ok (.invokespecial 9, 3) := by decide +kernel
theorem dX7_init_12 : decode cX7_init 12 = .ok (.putfield 10, 3) := by decide +kernel
theorem dX7_init_15 : decode cX7_init 15 = .ok (.aload_n 0, 1) := by decide +kernel
theorem dX7_init_16 : decode cX7_init 16 = .ok (.bipush 6, 2) := by decide +kernel
theorem dX7_init_18 : decode cX7_init 18 = .ok (.anewarray 16, 3) := by decide +kernel
theorem dX7_init_21 : decode cX7_init 21 = .ok (.putfield 18, 3) := by decide +kernel
theorem dX7_init_24 : decode cX7_init 24 = .ok (.aload_n 0, 1) := by decide +kernel
theorem dX7_init_25 : decode cX7_init 25 = .ok (.iconst 0, 1) := by decide +kernel
theorem dX7_init_26 : decode cX7_init 26 = .ok (.putfield 22, 3) := by decide +kernel
theorem dX7_init_29 : decode cX7_init 29 = .ok (.aload_n 0, 1) := by decide +kernel
theorem dX7_init_30 : decode cX7_init 30 = .ok (.new 26, 3) := by decide +kernel
theorem dX7_init_33 : decode cX7_init 33 = .ok (.dup, 1) := by decide +kernel
theorem dX7_init_34 : decode cX7_init 34 = .ok (.invokespecial 28, 3) := by decide +kernel
theorem dX7_init_37 : decode cX7_init 37 = .ok (.putfield 29, 3) := by decide +kernel
theorem dX7_init_40 : decode cX7_init 40 = .ok (.aload_n 0, 1) := by decide +kernel
theorem dX7_init_41 : decode cX7_init 41 = .ok (.new 33, 3) := by decide +kernel
theorem dX7_init_44 : decode cX7_init 44 = .ok (.dup, 1) := by decide +kernel
theorem dX7_init_45 : decode cX7_init 45 = .ok (.invokespecial 35, 3) := by decide +kernel
theorem dX7_init_48 : decode cX7_init 48 = .ok (.putfield 36, 3) := by decide +kernel
theorem dX7_init_51 : decode cX7_init 51 = .ok (.aload_n 0, 1) := by decide +kernel
theorem dX7_init_52 : decode cX7_init 52 = .ok (.iconst 4, 1) := by decide +kernel
theorem dX7_init_53 : decode cX7_init 53 = .ok (.anewarray 33, 3) := by decide +kernel
theorem dX7_init_56 : decode cX7_init 56 = .ok (.putfield 40, 3) := by decide +kernel
theorem dX7_init_59 : decode cX7_init 59 = .ok (.aload_n 0, 1) := by decide +kernel
theorem dX7_init_60 : decode cX7_init 60 = .ok (.iconst 0, 1) := by decide +kernel
theorem dX7_init_61 : decode cX7_init 61 = .ok (.putfield 44, 3) := by decide +kernel
theorem dX7_init_64 : decode cX7_init 64 = .ok (.aload_n 0, 1) := by decide +kernel
theorem dX7_init_65 : decode cX7_init 65 = .ok (.new 47, 3) := by decide +kernel
theorem dX7_init_68 : decode cX7_init 68 = .ok (.dup, 1) := by decide +kernel
theorem dX7_init_69 : decode cX7_init 69 = .ok (.invokespecial 49, 3) := by decide +kernel
theorem dX7_init_72 : decode cX7_init 72 = .ok (.putfield 50, 3) := by decide +kernel
theorem dX7_init_75 : decode cX7_init 75 = .ok (.aload_n 0, 1) := by decide +kernel
theorem dX7_init_76 : decode cX7_init 76 = .ok (.bipush 61, 2) := by decide +kernel
theorem dX7_init_78 : decode cX7_init 78 = .ok (.newarray .int, 2) := by decide +kernel
theorem dX7_init_80 : decode cX7_init 80 = .ok (.putfield 54, 3) := by decide +kernel
theorem dX7_init_83 : decode cX7_init 83 = .ok (.aload_n 0, 1) := by decide +kernel
theorem dX7_init_84 : decode cX7_init 84 = .ok (.bipush 25, 2) := by decide +kernel
theorem dX7_init_86 : decode cX7_init 86 = .ok (.newarray .int, 2) := by decide +kernel
theorem dX7_init_88 : decode cX7_init 88 = .ok (.putfield 58, 3) := by decide +kernel
theorem dX7_init_91 : decode cX7_init 91 = .ok (.aload_n 0, 1) := by decide +kernel
theorem dX7_init_92 : decode cX7_init 92 = .ok (.bipush 25, 2) := by decide +kernel
theorem dX7_init_94 : decode cX7_init 94 = .ok (.newarray .int, 2) := by decide +kernel
theorem dX7_init_96 : decode cX7_init 96 = .ok (.putfield 61, 3) := by decide +kernel
theorem dX7_init_99 : decode cX7_init 99 = .ok (.aload_n 0, 1) := by decide +kernel
theorem dX7_init_100 : decode cX7_init 100 = .ok (.bipush 21, 2) := by decide +kernel
theorem dX7_init_102 : decode cX7_init 102 = .ok (.newarray .int, 2) := by decide +kernel
theorem dX7_init_104 : decode cX7_init 104 = .ok (.putfield 64, 3) := by decide +kernel
theorem dX7_init_107 : decode cX7_init 107 = .ok (.iconst 0, 1) := by decide +kernel
theorem dX7_init_108 : decode cX7_init 108 = .ok (.istore_n 1, 1) := by decide +kernel
theorem dX7_init_109 : decode cX7_init 109 = .ok (.iload_n 1, 1) := by decide +kernel
theorem dX7_init_110 : decode cX7_init 110 = .ok (.bipush 6, 2) := by decide +kernel
theorem dX7_init_112 : decode cX7_init 112 = .ok (.if_icmp .ge 22, 3) := by decide +kernel
theorem dX7_init_115 : decode cX7_init 115 = .ok (.aload_n 0, 1) := by decide +kernel
theorem dX7_init_116 : decode cX7_init 116 = .ok (.getfield 18, 3) := by decide +kernel
theorem dX7_init_119 : decode cX7_init 119 = .ok (.iload_n 1, 1) := by decide +kernel
theorem dX7_init_120 : decode cX7_init 120 = .ok (.new 16, 3) := by decide +kernel
theorem dX7_init_123 : decode cX7_init 123 = .ok (.dup, 1) := by decide +kernel
theorem dX7_init_124 : decode cX7_init 124 = .ok (.invokespecial 67, 3) := by decide +kernel
theorem dX7_init_127 : decode cX7_init 127 = .ok (.aastore, 1) := by decide +kernel
theorem dX7_init_128 : decode cX7_init 128 = .ok (.iinc 1 1, 3) := by decide +kernel
theorem dX7_init_131 : decode cX7_init 131 = .ok (.goto (-22), 3) := by decide +kernel
theorem dX7_init_134 : decode cX7_init 134 = .ok (.iconst 0, 1) := by decide +kernel
theorem dX7_init_135 : decode cX7_init 135 = .ok (.istore_n 1, 1) := by decide +kernel
theorem dX7_init_136 : decode cX7_init 136 = .ok (.iload_n 1, 1) := by decide +kernel
theorem dX7_init_137 : decode cX7_init 137 = .ok (.iconst 4, 1) := by decide +kernel
theorem dX7_init_138 : decode cX7_init 138 = .ok (.if_icmp .ge 22, 3) := by decide +kernel
theorem dX7_init_141 : decode cX7_init 141 = .ok (.aload_n 0, 1) := by decide +kernel
theorem dX7_init_142 : decode cX7_init 142 = .ok (.getfield 40, 3) := by decide +kernel
theorem dX7_init_145 : decode cX7_init 145 = .ok (.iload_n 1, 1) := by decide +kernel
theorem dX7_init_146 : decode cX7_init 146 = .ok (.new 33, 3) := by decide +kernel
theorem dX7_init_149 : decode cX7_init 149 = .ok (.dup, 1) := by decide +kernel
theorem dX7_init_150 : decode cX7_init 150 = .ok (.invokespecial 35, 3) := by decide +kernel
theorem dX7_init_153 : decode cX7_init 153 = .ok (.aastore, 1) := by decide +kernel
theorem dX7_init_154 : decode cX7_init 154 = .ok (.iinc 1 1, 3) := by decide +kernel
theorem dX7_init_157 : decode cX7_init 157 = .ok (.goto (-21), 3) := by decide +kernel
theorem dX7_init_160 : decode cX7_init 160 = .ok (.return_, 1) := by decide +kernel
theorem dX8_init_0 : decode cX8_init 0 = .ok (.aload_n 0, 1) := by decide +kernel
theorem dX8_init_1 : decode cX8_init 1 = .ok (.invokespecial 3, 3) := by decide +kernel
theorem dX8_init_4 : decode cX8_init 4 = .ok (.aload_n 0, 1) := by decide +kernel
theorem dX8_init_5 : decode cX8_init 5 = .ok (.bipush 9, 2) := by decide +kernel
theorem dX8_init_7 : decode cX8_init 7 = .ok (.newarray .int, 2) := by decide +kernel
theorem dX8_init_9 : decode cX8_init 9 = .ok (.dup, 1) := by decide +kernel
theorem dX8_init_10 : decode cX8_init 10 = .ok (.iconst 0, 1) := by decide +kernel
theorem dX8_init_11 : decode cX8_init 11 = .ok (.iconst 0, 1) := by decide +kernel
theorem dX8_init_12 : decode cX8_init 12 = .ok (.iastore, 1) := by decide +kernel
theorem dX8_init_13 : decode cX8_init 13 = .ok (.dup, 1) := by decide +kernel
theorem dX8_init_14 : decode cX8_init 14 = .ok (.iconst 1, 1) := by decide +kernel
theorem dX8_init_15 : decode cX8_init 15 = .ok (.iconst 0, 1) := by decide +kernel
theorem dX8_init_16 : decode cX8_init 16 = .ok (.iastore, 1) := by decide +kernel
theorem dX8_init_17 : decode cX8_init 17 = .ok (.dup, 1) := by decide +kernel
theorem dX8_init_18 : decode cX8_init 18 = .ok (.iconst 2, 1) := by decide +kernel
theorem dX8_init_19 : decode cX8_init 19 = .ok (.iconst 0, 1) := by decide +kernel
theorem dX8_init_20 : decode cX8_init 20 = .ok (.iastore, 1) := by decide +kernel
theorem dX8_init_21 : decode cX8_init 21 = .ok (.dup, 1) := by decide +kernel
theorem dX8_init_22 : decode cX8_init 22 = .ok (.iconst 3, 1) := by decide +kernel
theorem dX8_init_23 : decode cX8_init 23 = .ok (.iconst 0, 1) := by decide +kernel
theorem dX8_init_24 : decode cX8_init 24 = .ok (.iastore, 1) := by decide +kernel
theorem dX8_init_25 : decode cX8_init 25 = .ok (.dup, 1) := by decide +kernel
theorem dX8_init_26 : decode cX8_init 26 = .ok (.iconst 4, 1) := by decide +kernel
theorem dX8_init_27 : decode cX8_init 27 = .ok (.iconst 0, 1) := by decide +kernel
theorem dX8_init_28 : decode cX8_init 28 = .ok (.iastore, 1) := by decide +kernel
theorem dX8_init_29 : decode cX8_init 29 = .ok (.dup, 1) := by decide +kernel
theorem dX8_init_30 : decode cX8_init 30 = .ok (.iconst 5, 1) := by decide +kernel
theorem dX8_init_31 : decode cX8_init 31 = .ok (.iconst 0, 1) := by decide +kernel
theorem dX8_init_32 : decode cX8_init 32 = .ok (.iastore, 1) := by decide +kernel
theorem dX8_init_33 : decode cX8_init 33 = .ok (.dup, 1) := by decide +kernel
theorem dX8_init_34 : decode cX8_init 34 = .ok (.bipush 6, 2) := by decide +kernel
theorem dX8_init_36 : decode cX8_init 36 = .ok (.iconst 0, 1) := by decide +kernel
theorem dX8_init_37 : decode cX8_init 37 = .ok (.iastore, 1) := by decide +kernel
theorem dX8_init_38 : decode cX8_init 38 = .ok (.dup, 1) := by decide +kernel
theorem dX8_init_39 : decode cX8_init 39 = .ok (.bipush 7, 2) := by decide +kernel
theorem dX8_init_41 : decode cX8_init 41 = .ok (.iconst 0, 1) := by decide +kernel
theorem dX8_init_42 : decode cX8_init 42 = .ok (.iastore, 1) := by decide +kernel
theorem dX8_init_43 : decode cX8_init 43 = .ok (.dup, 1) := by decide +kernel
theorem dX8_init_44 : decode cX8_init 44 = .ok (.bipush 8, 2) := by decide +kernel
theorem dX8_init_46 : decode cX8_init 46 = .ok (.iconst (-1), 1) := by decide +kernel
theorem dX8_init_47 : decode cX8_init 47 = .ok (.iastore, 1) := by decide +kernel
theorem dX8_init_48 : decode cX8_init 48 = .ok (.putfield 9, 3) := by decide +kernel
theorem dX8_init_51 : decode cX8_init 51 = .ok (.aload_n 0, 1) := by decide +kernel
theorem dX8_init_52 : decode cX8_init 52 = .ok (.iconst 3, 1) := by decide +kernel
theorem dX8_init_53 : decode cX8_init 53 = .ok (.newarray .int, 2) := by decide +kernel
theorem dX8_init_55 : decode cX8_init 55 = .ok (.putfield 13, 3) := by decide +kernel
theorem dX8_init_58 : decode cX8_init 58 = .ok (.aload_n 0, 1) := by decide +kernel
theorem dX8_init_59 : decode cX8_init 59 = .ok (.iconst 3, 1) := by decide +kernel
theorem dX8_init_60 : decode cX8_init 60 = .ok (.newarray .int, 2) := by decide +kernel
theorem dX8_init_62 : decode cX8_init 62 = .ok (.putfield 16, 3) := by decide +kernel
theorem dX8_init_65 : decode cX8_init 65 = .ok (.aload_n 0, 1) := by decide +kernel
theorem dX8_init_66 : decode cX8_init 66 = .ok (.iconst 3, 1) := by decide +kernel
theorem dX8_init_67 : decode cX8_init 67 = .ok (.newarray .int, 2) := by decide +kernel
theorem dX8_init_69 : decode cX8_init 69 = .ok (.putfield 19, 3) := by decide +kernel
theorem dX8_init_72 : decode cX8_init 72 = .ok (.aload_n 0, 1) := by decide +kernel
theorem dX8_init_73 : decode cX8_init 73 = .ok (.bipush 6, 2) := by decide +kernel
theorem dX8_init_75 : decode cX8_init 75 = .ok (.newarray .int, 2) := by decide +kernel
theorem dX8_init_77 : decode cX8_init 77 = .ok (.putfield 22, 3) := by decide +kernel
theorem dX8_init_80 : decode cX8_init 80 = .ok (.aload_n 0, 1) := by decide +kernel
theorem dX8_init_81 : decode cX8_init 81 = .ok (.bipush 8, 2) := by decide +kernel
theorem dX8_init_83 : decode cX8_init 83 = .ok (.newarray .int, 2) := by decide +kernel
theorem dX8_init_85 : decode cX8_init 85 = .ok (.putfield 25, 3) := by decide +kernel
theorem dX8_init_88 : decode cX8_init 88 = .ok (.aload_n 0, 1) := by decide +kernel
theorem dX8_init_89 : decode cX8_init 89 = .ok (.bipush 8, 2) := by decide +kernel
theorem dX8_init_91 : decode cX8_init 91 = .ok (.newarray .int, 2) := by decide +kernel
theorem dX8_init_93 : decode cX8_init 93 = .ok (.putfield 28, 3) := by decide +kernel
theorem dX8_init_96 : decode cX8_init 96 = .ok (.aload_n 0, 1) := by decide +kernel
theorem dX8_init_97 : decode cX8_init 97 = .ok (.bipush 6, 2) := by decide +kernel
theorem dX8_init_99 : decode cX8_init 99 = .ok (.newarray .int, 2) := by decide +kernel
theorem dX8_init_101 : decode cX8_init 101 = .ok (.putfield 31, 3) := by decide +kernel
theorem dX8_init_104 : decode cX8_init 104 = .ok (.aload_n 0, 1) := by decide +kernel
theorem dX8_init_105 : decode cX8_init 105 = .ok (.iconst 3, 1) := by decide +kernel
theorem dX8_init_106 : decode cX8_init 106 = .ok (.newarray .int, 2) := by decide +kernel
theorem dX8_init_108 : decode cX8_init 108 = .ok (.putfield 34, 3) := by decide +kernel
theorem dX8_init_111 : decode cX8_init 111 = .ok (.aload_n 0, 1) := by decide +kernel
theorem dX8_init_112 : decode cX8_init 112 = .ok (.bipush 8, 2) := by decide +kernel
theorem dX8_init_114 : decode cX8_init 114 = .ok (.newarray .int, 2) := by decide +kernel
theorem dX8_init_116 : decode cX8_init 116 = .ok (.putfield 37, 3) := by decide +kernel
theorem dX8_init_119 : decode cX8_init 119 = .ok (.aload_n 0, 1) := by decide +kernel
theorem dX8_init_120 : decode cX8_init 120 = .ok (.bipush 8, 2) := by decide +kernel
theorem dX8_init_122 : decode cX8_init 122 = .ok (.newarray .int, 2) := by decide +kernel
theorem dX8_init_124 : decode cX8_init 124 = .ok (.putfield 40, 3) := by decide +kernel
theorem dX8_init_127 : decode cX8_init 127 = .ok (.aload_n 0, 1) := by decide +kernel
theorem dX8_init_128 : decode cX8_init 128 = .ok (.bipush 8, 2) := by decide +kernel
theorem dX8_init_130 : decode cX8_init 130 = .ok (.newarray .int, 2) := by decide +kernel
theorem dX8_init_132 : decode cX8_init 132 = .ok (.putfield 43, 3) := by decide +kernel
theorem dX8_init_135 : decode cX8_init 135 = .ok (.aload_n 0, 1) := by decide +kernel
theorem dX8_init_136 : decode cX8_init 136 = .ok (.bipush 10, 2) := by decide +kernel
theorem dX8_init_138 : decode cX8_init 138 = .ok (.newarray .int, 2) := by decide +kernel
theorem dX8_init_140 : decode cX8_init 140 = .ok (.putfield 46, 3) := by decide +kernel
theorem dX8_init_143 : decode cX8_init 143 = .ok (.aload_n 0, 1) := by decide +kernel
theorem dX8_init_144 : decode cX8_init 144 = .ok (.bipush 10, 2) := by decide +kernel
theorem dX8_init_146 : decode cX8_init 146 = .ok (.newarray .int, 2) := by decide +kernel
theorem dX8_init_148 : decode cX8_init 148 = .ok (.putfield 49, 3) := by decide +kernel
theorem dX8_init_151 : decode cX8_init 151 = .ok (.aload_n 0, 1) := by decide +kernel
theorem dX8_init_152 : decode cX8_init 152 = .ok (.bipush 10, 2) := by decide +kernel
theorem dX8_init_154 : decode cX8_init 154 = .ok (.newarray .int, 2) := by decide +kernel
theorem dX8_init_156 : decode cX8_init 156 = .ok (.putfield 52, 3) := by decide +kernel
theorem dX8_init_159 : decode cX8_init 159 = .ok (.aload_n 0, 1) := by decide +kernel
theorem dX8_init_160 : decode cX8_init 160 = .ok (.iconst 3, 1) := by decide +kernel
theorem dX8_init_161 : decode cX8_init 161 = .ok (.newarray .int, 2) := by decide +kernel
theorem dX8_init_163 : decode cX8_init 163 = .ok (.putfield 55, 3) := by decide +kernel
theorem dX8_init_166 : decode cX8_init 166 = .ok (.aload_n 0, 1) := by decide +kernel
theorem dX8_init_167 : decode cX8_init 167 = .ok (.iconst 3, 1) := by decide +kernel
theorem dX8_init_168 : decode cX8_init 168 = .ok (.newarray .int, 2) := by decide +kernel
theorem dX8_init_170 : decode cX8_init 170 = .ok (.putfield 58, 3) := by decide +kernel
theorem dX8_init_173 : decode cX8_init 173 = .ok (.aload_n 0, 1) := by decide +kernel
theorem dX8_init_174 : decode cX8_init 174 = .ok (.bipush 6, 2) := by decide +kernel
theorem dX8_init_176 : decode cX8_init 176 = .ok (.newarray .int, 2) := by decide +kernel
theorem dX8_init_178 : decode cX8_init 178 = .ok (.putfield 61, 3) := by decide +kernel
theorem dX8_init_181 : decode cX8_init 181 = .ok (.aload_n 0, 1) := by decide +kernel
theorem dX8_init_182 : decode cX8_init 182 = .ok (.iconst 4, 1) := by decide +kernel
theorem dX8_init_183 : decode cX8_init 183 = .ok (.newarray .int, 2) := by decide +kernel
theorem dX8_init_185 : decode cX8_init 185 = .ok (.putfield 64, 3) := by decide +kernel
theorem dX8_init_188 : decode cX8_init 188 = .ok (.aload_n 0, 1) := by decide +kernel
theorem dX8_init_189 : decode cX8_init 189 = .ok (.bipush 6, 2) := by decide +kernel
theorem dX8_init_191 : decode cX8_init 191 = .ok (.newarray .int, 2) := by decide +kernel
theorem dX8_init_193 : decode cX8_init 193 = .ok (.putfield 67, 3) := by decide +kernel
theorem dX8_init_196 : decode cX8_init 196 = .ok (.aload_n 0, 1) := by decide +kernel
theorem dX8_init_197 : decode cX8_init 197 = .ok (.bipush 6, 2) := by decide +kernel
theorem dX8_init_199 : decode cX8_init 199 = .ok (.newarray .int, 2) := by decide +kernel
theorem dX8_init_201 : decode cX8_init 201 = .ok (.putfield 70, 3) := by decide +kernel
theorem dX8_init_204 : decode cX8_init 204 = .ok (.aload_n 0, 1) := by decide +kernel
theorem dX8_init_205 : decode cX8_init 205 = .ok (.iconst 3, 1) := by decide +kernel
theorem dX8_init_206 : decode cX8_init 206 = .ok (.newarray .int, 2) := by decide +kernel
theorem dX8_init_208 : decode cX8_init 208 = .ok (.putfield 73, 3) := by decide +kernel
theorem dX8_init_211 : decode cX8_init 211 = .ok (.aload_n 0, 1) := by decide +kernel
theorem dX8_init_212 : decode cX8_init 212 = .ok (.iconst 3, 1) := by decide +kernel
theorem dX8_init_213 : decode cX8_init 213 = .ok (.newarray .int, 2) := by decide +kernel
theorem dX8_init_215 : decode cX8_init 215 = .ok (.putfield 76, 3) := by decide +kernel
theorem dX8_init_218 : decode cX8_init 218 = .ok (.aload_n 0, 1) := by decide +kernel
theorem dX8_init_219 : decode cX8_init 219 = .ok (.iconst 3, 1) := by decide +kernel
theorem dX8_init_220 : decode cX8_init 220 = .ok (.newarray .int, 2) := by decide +kernel
theorem dX8_init_222 : decode cX8_init 222 = .ok (.putfield 79, 3) := by decide +kernel
theorem dX8_init_225 : decode cX8_init 225 = .ok (.aload_n 0, 1) := by decide +kernel
theorem dX8_init_226 : decode cX8_init 226 = .ok (.bipush 8, 2) := by decide +kernel
theorem dX8_init_228 : decode cX8_init 228 = .ok (.newarray .int, 2) := by decide +kernel
theorem dX8_init_230 : decode cX8_init 230 = .ok (.putfield 82, 3) := by decide +kernel
theorem dX8_init_233 : decode cX8_init 233 = .ok (.aload_n 0, 1) := by decide +kernel
theorem dX8_init_234 : decode cX8_init 234 = .ok (.bipush 8, 2) := by decide +kernel
theorem dX8_init_236 : decode cX8_init 236 = .ok (.newarray .int, 2) := by decide +kernel
theorem dX8_init_238 : decode cX8_init 238 = .ok (.putfield 85, 3) := by decide +kernel
theorem dX8_init_241 : decode cX8_init 241 = .ok (.aload_n 0, 1) := by decide +kernel
theorem dX8_init_242 : decode cX8_init 242 = .ok (.bipush 8, 2) := by decide +kernel
theorem dX8_init_244 : decode cX8_init 244 = .ok (.newarray .int, 2) := by decide +kernel
theorem dX8_init_246 : decode cX8_init 246 = .ok (.putfield 88, 3) := by decide +kernel
theorem dX8_init_249 : decode cX8_init 249 = .ok (.aload_n 0, 1) := by decide +kernel
theorem dX8_init_250 : decode cX8_init 250 = .ok (.bipush 11, 2) := by decide +kernel
theorem dX8_init_252 : decode cX8_init 252 = .ok (.putfield 91, 3) := by decide +kernel
theorem dX8_init_255 : decode cX8_init 255 = .ok (.aload_n 0, 1) := by decide +kernel
theorem dX8_init_256 : decode cX8_init 256 = .ok (.sipush 400, 3) := by decide +kernel
theorem dX8_init_259 : decode cX8_init 259 = .ok (.newarray .byte, 2) := by decide +kernel
theorem dX8_init_261 : decode cX8_init 261 = .ok (.putfield 95, 3) := by decide +kernel
theorem dX8_init_264 : decode cX8_init 264 = .ok (.aload_n 0, 1) := by decide +kernel
theorem dX8_init_265 : decode cX8_init 265 = .ok (.sipush 1800, 3) := by decide +kernel
theorem dX8_init_268 : decode cX8_init 268 = .ok (.newarray .int, 2) := by decide +kernel
theorem dX8_init_270 : decode cX8_init 270 = .ok (.putfield 99, 3) := by decide +kernel
theorem dX8_init_273 : decode cX8_init 273 = .ok (.aload_n 0, 1) := by decide +kernel
theorem dX8_init_274 : decode cX8_init 274 = .ok (.sipush 1800, 3) := by decide +kernel
theorem dX8_init_277 : decode cX8_init 277 = .ok (.newarray .int, 2) := by decide +kernel
theorem dX8_init_279 : decode cX8_init 279 = .ok (.putfield 102, 3) := by decide +kernel
theorem dX8_init_282 : decode cX8_init 282 = .ok (.aload_n 0, 1) := by decide +kernel
theorem dX8_init_283 : decode cX8_init 283 = .ok (.bipush 6, 2) := by decide +kernel
theorem dX8_init_285 : decode cX8_init 285 = .ok (.newarray .int, 2) := by decide +kernel
theorem dX8_init_287 : decode cX8_init 287 = .ok (.putfield 105, 3) := by decide +kernel
theorem dX8_init_290 : decode cX8_init 290 = .ok (.aload_n 0, 1) := by decide +kernel
theorem dX8_init_291 : decode cX8_init 291 = .ok (.bipush 72, 2) := by decide +kernel
theorem dX8_init_293 : decode cX8_init 293 = .ok (.newarray .int, 2) := by decide +kernel
theorem dX8_init_295 : decode cX8_init 295 = .ok (.putfield 108, 3) := by decide +kernel
theorem dX8_init_298 : decode cX8_init 298 = .ok (.aload_n 0, 1) := by decide +kernel
theorem dX8_init_299 : decode cX8_init 299 = .ok (.bipush 72, 2) := by decide +kernel
theorem dX8_init_301 : decode cX8_init 301 = .ok (.newarray .int, 2) := by decide +kernel
theorem dX8_init_303 : decode cX8_init 303 = .ok (.putfield 111, 3) := by decide +kernel
theorem dX8_init_306 : decode cX8_init 306 = .ok (.aload_n 0, 1) := by decide +kernel
theorem dX8_init_307 : decode cX8_init 307 = .ok (.bipush 72, 2) := by decide +kernel
theorem dX8_init_309 : decode cX8_init 309 = .ok (.newarray .int, 2) := by decide +kernel
theorem dX8_init_311 : decode cX8_init 311 = .ok (.putfield 114, 3) := by decide +kernel
theorem dX8_init_314 : decode cX8_init 314 = .ok (.aload_n 0, 1) := by decide +kernel
theorem dX8_init_315 : decode cX8_init 315 = .ok (.sipush 402, 3) := by decide +kernel
theorem dX8_init_318 : decode cX8_init 318 = .ok (.newarray .int, 2) := by decide +kernel
theorem dX8_init_320 : decode cX8_init 320 = .ok (.putfield 117, 3) := by decide +kernel
theorem dX8_init_323 : decode cX8_init 323 = .ok (.aload_n 0, 1) := by decide +kernel
theorem dX8_init_324 : decode cX8_init 324 = .ok (.bipush 11, 2) := by decide +kernel
theorem dX8_init_326 : decode cX8_init 326 = .ok (.newarray .long, 2) := by decide +kernel
theorem dX8_init_328 : decode cX8_init 328 = .ok (.putfield 120, 3) := by decide +kernel
theorem dX8_init_331 : decode cX8_init 331 = .ok (.aload_n 0, 1) := by decide +kernel
theorem dX8_init_332 : decode cX8_init 332 = .ok (.sipush 300, 3) := by decide +kernel
theorem dX8_init_335 : decode cX8_init 335 = .ok (.newarray .long, 2) := by decide +kernel
theorem dX8_init_337 : decode cX8_init 337 = .ok (.putfield 124, 3) := by decide +kernel
theorem dX8_init_340 : decode cX8_init 340 = .ok (.aload_n 0, 1) := by decide +kernel
theorem dX8_init_341 : decode cX8_init 341 = .ok (.iconst (-1), 1) := by decide +kernel
theorem dX8_init_342 : decode cX8_init 342 = .ok (.putfield 127, 3) := by decide +kernel
theorem dX8_init_345 : decode cX8_init 345 = .ok (.aload_n 0, 1) := by decide +kernel
theorem dX8_init_346 : decode cX8_init 346 = .ok (.iconst (-1), 1) := by decide +kernel
theorem dX8_init_347 : decode cX8_init 347 = .ok (.putfield 130, 3) := by decide +kernel
theorem dX8_init_350 : decode cX8_init 350 = .ok (.aload_n 0, 1) := by decide +kernel
theorem dX8_init_351 : decode cX8_init 351 = .ok (.sipush 660, 3) := by decide +kernel
theorem dX8_init_354 : decode cX8_init 354 = .ok (.newarray .int, 2) := by decide +kernel
theorem dX8_init_356 : decode cX8_init 356 = .ok (.putfield 133, 3) := by decide +kernel
theorem dX8_init_359 : decode cX8_init 359 = .ok (.aload_n 0, 1) := by decide +kernel
theorem dX8_init_360 : decode cX8_init 360 = .ok (.iconst 1, 1) := by decide +kernel
theorem dX8_init_361 : decode cX8_init 361 = .ok (.newarray .int, 2) := by decide +kernel
theorem dX8_init_363 : decode cX8_init 363 = .ok (.putfield 136, 3) := by decide +kernel
theorem dX8_init_366 : decode cX8_init 366 = .ok (.aload_n 0, 1) := by decide +kernel
theorem dX8_init_367 : decode cX8_init 367 = .ok (.bipush 25, 2) := by decide +kernel
theorem dX8_init_369 : decode cX8_init 369 = .ok (.newarray .int, 2) := by decide +kernel
theorem dX8_init_371 : decode cX8_init 371 = .ok (.putfield 139, 3) := by decide +kernel
theorem dX8_init_374 : decode cX8_init 374 = .ok (.aload_n 0, 1) := by decide +kernel
theorem dX8_init_375 : decode cX8_init 375 = .ok (.bipush 25, 2) := by decide +kernel
theorem dX8_init_377 : decode cX8_init 377 = .ok (.newarray .int, 2) := by decide +kernel
theorem dX8_init_379 : decode cX8_init 379 = .ok (.putfield 142, 3) := by decide +kernel
theorem dX8_init_382 : decode cX8_init 382 = .ok (.aload_n 0, 1) := by decide +kernel
theorem dX8_init_383 : decode cX8_init 383 = .ok (.sipush 366, 3) := by decide +kernel
theorem dX8_init_386 : decode cX8_init 386 = .ok (.newarray .int, 2) := by decide +kernel
theorem dX8_init_388 : decode cX8_init 388 = .ok (.putfield 145, 3) := by decide +kernel
theorem dX8_init_391 : decode cX8_init 391 = .ok (.aload_n 0, 1) := by decide +kernel
theorem dX8_init_392 : decode cX8_init 392 = .ok (.bipush 21, 2) := by decide +kernel
theorem dX8_init_394 : decode cX8_init 394 = .ok (.newarray .int, 2) := by decide +kernel
theorem dX8_init_396 : decode cX8_init 396 = .ok (.putfield 148, 3) := by decide +kernel
theorem dX8_init_399 : decode cX8_init 399 = .ok (.aload_n 0, 1) := by decide +kernel
theorem dX8_init_400 : decode cX8_init 400 = .ok (.sipush 4000, 3) := by decide +kernel
theorem dX8_init_403 : decode cX8_init 403 = .ok (.newarray .int, 2) := by decide +kernel
theorem dX8_init_405 : decode cX8_init 405 = .ok (.putfield 151, 3) := by decide +kernel
theorem dX8_init_408 : decode cX8_init 408 = .ok (.aload_n 0, 1) := by decide +kernel
theorem dX8_init_409 : decode cX8_init 409 = .ok (.iconst 4, 1) := by decide +kernel
theorem dX8_init_410 : decode cX8_init 410 = .ok (.newarray .boolean, 2) := by decide +kernel
theorem dX8_init_412 : decode cX8_init 412 = .ok (.putfield 154, 3) := by decide +kernel
theorem dX8_init_415 : decode cX8_init 415 = .ok (.return_, 1) := by decide +kernel
