/-! what stands at each place of the methods -/
theorem dX7_feed_0 : decode cX7_feed 0 = .ok (.aload_n 0, 1) := by decide +kernel
theorem dX7_feed_1 : decode cX7_feed 1 = .ok (.getfield 10, 3) := by decide +kernel
theorem dX7_feed_4 : decode cX7_feed 4 = .ok (.getfield 68, 3) := by decide +kernel
theorem dX7_feed_7 : decode cX7_feed 7 = .ok (.bipush 20, 2) := by decide +kernel
theorem dX7_feed_9 : decode cX7_feed 9 = .ok (.iadd, 1) := by decide +kernel
theorem dX7_feed_10 : decode cX7_feed 10 = .ok (.sipush 400, 3) := by decide +kernel
theorem dX7_feed_13 : decode cX7_feed 13 = .ok (.if_icmp .le 5, 3) := by decide +kernel
theorem dX7_feed_16 : decode cX7_feed 16 = .ok (.iconst (-1), 1) := by decide +kernel
theorem dX7_feed_17 : decode cX7_feed 17 = .ok (.ireturn, 1) := by decide +kernel
theorem dX7_feed_18 : decode cX7_feed 18 = .ok (.aload_n 0, 1) := by decide +kernel
theorem dX7_feed_19 : decode cX7_feed 19 = .ok (.getfield 10, 3) := by decide +kernel
theorem dX7_feed_22 : decode cX7_feed 22 = .ok (.iload_n 1, 1) := by decide +kernel
theorem dX7_feed_23 : decode cX7_feed 23 = .ok (.invokevirtual 71, 3) := by decide +kernel
theorem dX7_feed_26 : decode cX7_feed 26 = .ok (.aload_n 0, 1) := by decide +kernel
theorem dX7_feed_27 : decode cX7_feed 27 = .ok (.getfield 10, 3) := by decide +kernel
theorem dX7_feed_30 : decode cX7_feed 30 = .ok (.iload_n 2, 1) := by decide +kernel
theorem dX7_feed_31 : decode cX7_feed 31 = .ok (.invokevirtual 71, 3) := by decide +kernel
theorem dX7_feed_34 : decode cX7_feed 34 = .ok (.aload_n 0, 1) := by decide +kernel
theorem dX7_feed_35 : decode cX7_feed 35 = .ok (.getfield 10, 3) := by decide +kernel
theorem dX7_feed_38 : decode cX7_feed 38 = .ok (.iload_n 3, 1) := by decide +kernel
theorem dX7_feed_39 : decode cX7_feed 39 = .ok (.invokevirtual 71, 3) := by decide +kernel
theorem dX7_feed_42 : decode cX7_feed 42 = .ok (.aload_n 0, 1) := by decide +kernel
theorem dX7_feed_43 : decode cX7_feed 43 = .ok (.getfield 10, 3) := by decide +kernel
theorem dX7_feed_46 : decode cX7_feed 46 = .ok (.iload 4, 2) := by decide +kernel
theorem dX7_feed_48 : decode cX7_feed 48 = .ok (.invokevirtual 71, 3) := by decide +kernel
theorem dX7_feed_51 : decode cX7_feed 51 = .ok (.aload_n 0, 1) := by decide +kernel
theorem dX7_feed_52 : decode cX7_feed 52 = .ok (.getfield 10, 3) := by decide +kernel
theorem dX7_feed_55 : decode cX7_feed 55 = .ok (.iload 5, 2) := by decide +kernel
theorem dX7_feed_57 : decode cX7_feed 57 = .ok (.invokevirtual 71, 3) := by decide +kernel
theorem dX7_feed_60 : decode cX7_feed 60 = .ok (.aload_n 0, 1) := by decide +kernel
theorem dX7_feed_61 : decode cX7_feed 61 = .ok (.getfield 10, 3) := by decide +kernel
theorem dX7_feed_64 : decode cX7_feed 64 = .ok (.getfield 68, 3) := by decide +kernel
theorem dX7_feed_67 : decode cX7_feed 67 = .ok (.ireturn, 1) := by decide +kernel
theorem dX7_end_0 : decode cX7_end 0 = .ok (.iload_n 1, 1) := by decide +kernel
theorem dX7_end_1 : decode cX7_end 1 = .ok (.ifCond .lt 14, 3) := by decide +kernel
theorem dX7_end_4 : decode cX7_end 4 = .ok (.iload_n 1, 1) := by decide +kernel
theorem dX7_end_5 : decode cX7_end 5 = .ok (.aload_n 0, 1) := by decide +kernel
theorem dX7_end_6 : decode cX7_end 6 = .ok (.getfield 10, 3) := by decide +kernel
theorem dX7_end_9 : decode cX7_end 9 = .ok (.getfield 68, 3) := by decide +kernel
theorem dX7_end_12 : decode cX7_end 12 = .ok (.if_icmp .le 5, 3) := by decide +kernel
theorem dX7_end_15 : decode cX7_end 15 = .ok (.iconst (-1), 1) := by decide +kernel
theorem dX7_end_16 : decode cX7_end 16 = .ok (.ireturn, 1) := by decide +kernel
theorem dX7_end_17 : decode cX7_end 17 = .ok (.aload_n 0, 1) := by decide +kernel
theorem dX7_end_18 : decode cX7_end 18 = .ok (.getfield 10, 3) := by decide +kernel
theorem dX7_end_21 : decode cX7_end 21 = .ok (.iload_n 1, 1) := by decide +kernel
theorem dX7_end_22 : decode cX7_end 22 = .ok (.putfield 68, 3) := by decide +kernel
theorem dX7_end_25 : decode cX7_end 25 = .ok (.iload_n 1, 1) := by decide +kernel
theorem dX7_end_26 : decode cX7_end 26 = .ok (.ireturn, 1) := by decide +kernel
theorem dX7_room_0 : decode cX7_room 0 = .ok (.aload_n 0, 1) := by decide +kernel
theorem dX7_room_1 : decode cX7_room 1 = .ok (.getfield 10, 3) := by decide +kernel
theorem dX7_room_4 : decode cX7_room 4 = .ok (.aload_n 0, 1) := by decide +kernel
theorem dX7_room_5 : decode cX7_room 5 = .ok (.getfield 29, 3) := by decide +kernel
theorem dX7_room_8 : decode cX7_room 8 = .ok (.invokestatic 75, 3) := by decide +kernel
theorem dX7_room_11 : decode cX7_room 11 = .ok (.istore_n 1, 1) := by decide +kernel
theorem dX7_room_12 : decode cX7_room 12 = .ok (.aload_n 0, 1) := by decide +kernel
theorem dX7_room_13 : decode cX7_room 13 = .ok (.getfield 10, 3) := by decide +kernel
theorem dX7_room_16 : decode cX7_room 16 = .ok (.iconst 0, 1) := by decide +kernel
theorem dX7_room_17 : decode cX7_room 17 = .ok (.putfield 68, 3) := by decide +kernel
theorem dX7_room_20 : decode cX7_room 20 = .ok (.iload_n 1, 1) := by decide +kernel
theorem dX7_room_21 : decode cX7_room 21 = .ok (.ifCond .ne 14, 3) := by decide +kernel
theorem dX7_room_24 : decode cX7_room 24 = .ok (.bipush (-2), 2) := by decide +kernel
theorem dX7_room_26 : decode cX7_room 26 = .ok (.aload_n 0, 1) := by decide +kernel
theorem dX7_room_27 : decode cX7_room 27 = .ok (.getfield 10, 3) := by decide +kernel
theorem dX7_room_30 : decode cX7_room 30 = .ok (.getfield 81, 3) := by decide +kernel
theorem dX7_room_33 : decode cX7_room 33 = .ok (.isub, 1) := by decide +kernel
theorem dX7_room_34 : decode cX7_room 34 = .ok (.ireturn, 1) := by decide +kernel
theorem dX7_room_35 : decode cX7_room 35 = .ok (.aload_n 0, 1) := by decide +kernel
theorem dX7_room_36 : decode cX7_room 36 = .ok (.getfield 36, 3) := by decide +kernel
theorem dX7_room_39 : decode cX7_room 39 = .ok (.aload_n 0, 1) := by decide +kernel
theorem dX7_room_40 : decode cX7_room 40 = .ok (.getfield 29, 3) := by decide +kernel
theorem dX7_room_43 : decode cX7_room 43 = .ok (.invokevirtual 84, 3) := by decide +kernel
theorem dX7_room_46 : decode cX7_room 46 = .ok (.aload_n 0, 1) := by decide +kernel
theorem dX7_room_47 : decode cX7_room 47 = .ok (.getfield 36, 3) := by decide +kernel
theorem dX7_room_50 : decode cX7_room 50 = .ok (.getfield 88, 3) := by decide +kernel
theorem dX7_room_53 : decode cX7_room 53 = .ok (.getfield 91, 3) := by decide +kernel
theorem dX7_room_56 : decode cX7_room 56 = .ok (.ireturn, 1) := by decide +kernel
theorem dX7_rule_0 : decode cX7_rule 0 = .ok (.aload_n 0, 1) := by decide +kernel
theorem dX7_rule_1 : decode cX7_rule 1 = .ok (.getfield 22, 3) := by decide +kernel
theorem dX7_rule_4 : decode cX7_rule 4 = .ok (.bipush 6, 2) := by decide +kernel
theorem dX7_rule_6 : decode cX7_rule 6 = .ok (.if_icmp .lt 5, 3) := by decide +kernel
theorem dX7_rule_9 : decode cX7_rule 9 = .ok (.iconst (-1), 1) := by decide +kernel
theorem dX7_rule_10 : decode cX7_rule 10 = .ok (.ireturn, 1) := by decide +kernel
theorem dX7_rule_11 : decode cX7_rule 11 = .ok (.aload_n 0, 1) := by decide +kernel
theorem dX7_rule_12 : decode cX7_rule 12 = .ok (.getfield 10, 3) := by decide +kernel
theorem dX7_rule_15 : decode cX7_rule 15 = .ok (.aload_n 0, 1) := by decide +kernel
theorem dX7_rule_16 : decode cX7_rule 16 = .ok (.getfield 18, 3) := by decide +kernel
theorem dX7_rule_19 : decode cX7_rule 19 = .ok (.aload_n 0, 1) := by decide +kernel
theorem dX7_rule_20 : decode cX7_rule 20 = .ok (.getfield 22, 3) := by decide +kernel
theorem dX7_rule_23 : decode cX7_rule 23 = .ok (.aaload, 1) := by decide +kernel
theorem dX7_rule_24 : decode cX7_rule 24 = .ok (.invokestatic 94, 3) := by decide +kernel
theorem dX7_rule_27 : decode cX7_rule 27 = .ok (.istore_n 1, 1) := by decide +kernel
theorem dX7_rule_28 : decode cX7_rule 28 = .ok (.aload_n 0, 1) := by decide +kernel
theorem dX7_rule_29 : decode cX7_rule 29 = .ok (.getfield 10, 3) := by decide +kernel
theorem dX7_rule_32 : decode cX7_rule 32 = .ok (.iconst 0, 1) := by decide +kernel
theorem dX7_rule_33 : decode cX7_rule 33 = .ok (.putfield 68, 3) := by decide +kernel
theorem dX7_rule_36 : decode cX7_rule 36 = .ok (.iload_n 1, 1) := by decide +kernel
theorem dX7_rule_37 : decode cX7_rule 37 = .ok (.ifCond .ne 14, 3) := by decide +kernel
theorem dX7_rule_40 : decode cX7_rule 40 = .ok (.bipush (-2), 2) := by decide +kernel
theorem dX7_rule_42 : decode cX7_rule 42 = .ok (.aload_n 0, 1) := by decide +kernel
theorem dX7_rule_43 : decode cX7_rule 43 = .ok (.getfield 10, 3) := by decide +kernel
theorem dX7_rule_46 : decode cX7_rule 46 = .ok (.getfield 81, 3) := by decide +kernel
theorem dX7_rule_49 : decode cX7_rule 49 = .ok (.isub, 1) := by decide +kernel
theorem dX7_rule_50 : decode cX7_rule 50 = .ok (.ireturn, 1) := by decide +kernel
theorem dX7_rule_51 : decode cX7_rule 51 = .ok (.aload_n 0, 1) := by decide +kernel
theorem dX7_rule_52 : decode cX7_rule 52 = .ok (.dup, 1) := by decide +kernel
theorem dX7_rule_53 : decode cX7_rule 53 = .ok (.getfield 22, 3) := by decide +kernel
theorem dX7_rule_56 : decode cX7_rule 56 = .ok (.iconst 1, 1) := by decide +kernel
theorem dX7_rule_57 : decode cX7_rule 57 = .ok (.iadd, 1) := by decide +kernel
theorem dX7_rule_58 : decode cX7_rule 58 = .ok (.putfield 22, 3) := by decide +kernel
theorem dX7_rule_61 : decode cX7_rule 61 = .ok (.aload_n 0, 1) := by decide +kernel
theorem dX7_rule_62 : decode cX7_rule 62 = .ok (.getfield 22, 3) := by decide +kernel
theorem dX7_rule_65 : decode cX7_rule 65 = .ok (.iconst 1, 1) := by decide +kernel
theorem dX7_rule_66 : decode cX7_rule 66 = .ok (.isub, 1) := by decide +kernel
theorem dX7_rule_67 : decode cX7_rule 67 = .ok (.ireturn, 1) := by decide +kernel
theorem dX7_force_0 : decode cX7_force 0 = .ok (.iload_n 1, 1) := by decide +kernel
theorem dX7_force_1 : decode cX7_force 1 = .ok (.iconst (-1), 1) := by decide +kernel
theorem dX7_force_2 : decode cX7_force 2 = .ok (.if_icmp .lt 11, 3) := by decide +kernel
theorem dX7_force_5 : decode cX7_force 5 = .ok (.iload_n 1, 1) := by decide +kernel
theorem dX7_force_6 : decode cX7_force 6 = .ok (.aload_n 0, 1) := by decide +kernel
theorem dX7_force_7 : decode cX7_force 7 = .ok (.getfield 22, 3) := by decide +kernel
theorem dX7_force_10 : decode cX7_force 10 = .ok (.if_icmp .lt 6, 3) := by decide +kernel
theorem dX7_force_13 : decode cX7_force 13 = .ok (.bipush (-2), 2) := by decide +kernel
theorem dX7_force_15 : decode cX7_force 15 = .ok (.ireturn, 1) := by decide +kernel
theorem dX7_force_16 : decode cX7_force 16 = .ok (.aload_n 0, 1) := by decide +kernel
theorem dX7_force_17 : decode cX7_force 17 = .ok (.getfield 36, 3) := by decide +kernel
theorem dX7_force_20 : decode cX7_force 20 = .ok (.getfield 99, 3) := by decide +kernel
theorem dX7_force_23 : decode cX7_force 23 = .ok (.istore_n 2, 1) := by decide +kernel
theorem dX7_force_24 : decode cX7_force 24 = .ok (.aload_n 0, 1) := by decide +kernel
theorem dX7_force_25 : decode cX7_force 25 = .ok (.getfield 36, 3) := by decide +kernel
theorem dX7_force_28 : decode cX7_force 28 = .ok (.iload_n 1, 1) := by decide +kernel
theorem dX7_force_29 : decode cX7_force 29 = .ok (.putfield 99, 3) := by decide +kernel
theorem dX7_force_32 : decode cX7_force 32 = .ok (.iload_n 2, 1) := by decide +kernel
theorem dX7_force_33 : decode cX7_force 33 = .ok (.ireturn, 1) := by decide +kernel
theorem dX7_thing_0 : decode cX7_thing 0 = .ok (.aload_n 0, 1) := by decide +kernel
theorem dX7_thing_1 : decode cX7_thing 1 = .ok (.iload_n 1, 1) := by decide +kernel
theorem dX7_thing_2 : decode cX7_thing 2 = .ok (.invokevirtual 102, 3) := by decide +kernel
theorem dX7_thing_5 : decode cX7_thing 5 = .ok (.ifCond .ne 5, 3) := by decide +kernel
theorem dX7_thing_8 : decode cX7_thing 8 = .ok (.iconst (-1), 1) := by decide +kernel
theorem dX7_thing_9 : decode cX7_thing 9 = .ok (.ireturn, 1) := by decide +kernel
theorem dX7_thing_10 : decode cX7_thing 10 = .ok (.iload_n 2, 1) := by decide +kernel
theorem dX7_thing_11 : decode cX7_thing 11 = .ok (.tableswitch 116 0 4 #[33, 46, 59, 78, 97], 33) := by decide +kernel
theorem dX7_thing_44 : decode cX7_thing 44 = .ok (.aload_n 0, 1) := by decide +kernel
theorem dX7_thing_45 : decode cX7_thing 45 = .ok (.getfield 36, 3) := by decide +kernel
theorem dX7_thing_48 : decode cX7_thing 48 = .ok (.getfield 106, 3) := by decide +kernel
theorem dX7_thing_51 : decode cX7_thing 51 = .ok (.getfield 109, 3) := by decide +kernel
theorem dX7_thing_54 : decode cX7_thing 54 = .ok (.iload_n 1, 1) := by decide +kernel
theorem dX7_thing_55 : decode cX7_thing 55 = .ok (.iaload, 1) := by decide +kernel
theorem dX7_thing_56 : decode cX7_thing 56 = .ok (.ireturn, 1) := by decide +kernel
theorem dX7_thing_57 : decode cX7_thing 57 = .ok (.aload_n 0, 1) := by decide +kernel
theorem dX7_thing_58 : decode cX7_thing 58 = .ok (.getfield 36, 3) := by decide +kernel
theorem dX7_thing_61 : decode cX7_thing 61 = .ok (.getfield 88, 3) := by decide +kernel
theorem dX7_thing_64 : decode cX7_thing 64 = .ok (.getfield 112, 3) := by decide +kernel
theorem dX7_thing_67 : decode cX7_thing 67 = .ok (.iload_n 1, 1) := by decide +kernel
theorem dX7_thing_68 : decode cX7_thing 68 = .ok (.iaload, 1) := by decide +kernel
theorem dX7_thing_69 : decode cX7_thing 69 = .ok (.ireturn, 1) := by decide +kernel
theorem dX7_thing_70 : decode cX7_thing 70 = .ok (.aload_n 0, 1) := by decide +kernel
theorem dX7_thing_71 : decode cX7_thing 71 = .ok (.getfield 36, 3) := by decide +kernel
theorem dX7_thing_74 : decode cX7_thing 74 = .ok (.getfield 106, 3) := by decide +kernel
theorem dX7_thing_77 : decode cX7_thing 77 = .ok (.aload_n 0, 1) := by decide +kernel
theorem dX7_thing_78 : decode cX7_thing 78 = .ok (.getfield 36, 3) := by decide +kernel
theorem dX7_thing_81 : decode cX7_thing 81 = .ok (.getfield 88, 3) := by decide +kernel
theorem dX7_thing_84 : decode cX7_thing 84 = .ok (.iload_n 1, 1) := by decide +kernel
theorem dX7_thing_85 : decode cX7_thing 85 = .ok (.invokevirtual 115, 3) := by decide +kernel
theorem dX7_thing_88 : decode cX7_thing 88 = .ok (.ireturn, 1) := by decide +kernel
theorem dX7_thing_89 : decode cX7_thing 89 = .ok (.aload_n 0, 1) := by decide +kernel
theorem dX7_thing_90 : decode cX7_thing 90 = .ok (.getfield 36, 3) := by decide +kernel
theorem dX7_thing_93 : decode cX7_thing 93 = .ok (.getfield 106, 3) := by decide +kernel
theorem dX7_thing_96 : decode cX7_thing 96 = .ok (.aload_n 0, 1) := by decide +kernel
theorem dX7_thing_97 : decode cX7_thing 97 = .ok (.getfield 36, 3) := by decide +kernel
theorem dX7_thing_100 : decode cX7_thing 100 = .ok (.getfield 88, 3) := by decide +kernel
theorem dX7_thing_103 : decode cX7_thing 103 = .ok (.iload_n 1, 1) := by decide +kernel
theorem dX7_thing_104 : decode cX7_thing 104 = .ok (.invokevirtual 119, 3) := by decide +kernel
theorem dX7_thing_107 : decode cX7_thing 107 = .ok (.ireturn, 1) := by decide +kernel
theorem dX7_thing_108 : decode cX7_thing 108 = .ok (.aload_n 0, 1) := by decide +kernel
theorem dX7_thing_109 : decode cX7_thing 109 = .ok (.getfield 36, 3) := by decide +kernel
theorem dX7_thing_112 : decode cX7_thing 112 = .ok (.getfield 106, 3) := by decide +kernel
theorem dX7_thing_115 : decode cX7_thing 115 = .ok (.aload_n 0, 1) := by decide +kernel
theorem dX7_thing_116 : decode cX7_thing 116 = .ok (.getfield 36, 3) := by decide +kernel
theorem dX7_thing_119 : decode cX7_thing 119 = .ok (.getfield 88, 3) := by decide +kernel
theorem dX7_thing_122 : decode cX7_thing 122 = .ok (.iload_n 1, 1) := by decide +kernel
theorem dX7_thing_123 : decode cX7_thing 123 = .ok (.invokevirtual 122, 3) := by decide +kernel
theorem dX7_thing_126 : decode cX7_thing 126 = .ok (.ireturn, 1) := by decide +kernel
theorem dX7_thing_127 : decode cX7_thing 127 = .ok (.iconst (-1), 1) := by decide +kernel
theorem dX7_thing_128 : decode cX7_thing 128 = .ok (.ireturn, 1) := by decide +kernel
theorem dX7_cat_0 : decode cX7_cat 0 = .ok (.aload_n 0, 1) := by decide +kernel
theorem dX7_cat_1 : decode cX7_cat 1 = .ok (.iload_n 1, 1) := by decide +kernel
theorem dX7_cat_2 : decode cX7_cat 2 = .ok (.invokevirtual 125, 3) := by decide +kernel
theorem dX7_cat_5 : decode cX7_cat 5 = .ok (.ifCond .ne 6, 3) := by decide +kernel
theorem dX7_cat_8 : decode cX7_cat 8 = .ok (.bipush (-2), 2) := by decide +kernel
theorem dX7_cat_10 : decode cX7_cat 10 = .ok (.ireturn, 1) := by decide +kernel
theorem dX7_cat_11 : decode cX7_cat 11 = .ok (.iload_n 2, 1) := by decide +kernel
theorem dX7_cat_12 : decode cX7_cat 12 = .ok (.tableswitch 84 0 3 #[32, 45, 58, 71], 32) := by decide +kernel
theorem dX7_cat_44 : decode cX7_cat 44 = .ok (.aload_n 0, 1) := by decide +kernel
theorem dX7_cat_45 : decode cX7_cat 45 = .ok (.getfield 36, 3) := by decide +kernel
theorem dX7_cat_48 : decode cX7_cat 48 = .ok (.getfield 106, 3) := by decide +kernel
theorem dX7_cat_51 : decode cX7_cat 51 = .ok (.getfield 128, 3) := by decide +kernel
theorem dX7_cat_54 : decode cX7_cat 54 = .ok (.iload_n 1, 1) := by decide +kernel
theorem dX7_cat_55 : decode cX7_cat 55 = .ok (.iaload, 1) := by decide +kernel
theorem dX7_cat_56 : decode cX7_cat 56 = .ok (.ireturn, 1) := by decide +kernel
theorem dX7_cat_57 : decode cX7_cat 57 = .ok (.aload_n 0, 1) := by decide +kernel
theorem dX7_cat_58 : decode cX7_cat 58 = .ok (.getfield 36, 3) := by decide +kernel
theorem dX7_cat_61 : decode cX7_cat 61 = .ok (.getfield 88, 3) := by decide +kernel
theorem dX7_cat_64 : decode cX7_cat 64 = .ok (.getfield 131, 3) := by decide +kernel
theorem dX7_cat_67 : decode cX7_cat 67 = .ok (.iload_n 1, 1) := by decide +kernel
theorem dX7_cat_68 : decode cX7_cat 68 = .ok (.iaload, 1) := by decide +kernel
theorem dX7_cat_69 : decode cX7_cat 69 = .ok (.ireturn, 1) := by decide +kernel
theorem dX7_cat_70 : decode cX7_cat 70 = .ok (.aload_n 0, 1) := by decide +kernel
theorem dX7_cat_71 : decode cX7_cat 71 = .ok (.getfield 36, 3) := by decide +kernel
theorem dX7_cat_74 : decode cX7_cat 74 = .ok (.getfield 106, 3) := by decide +kernel
theorem dX7_cat_77 : decode cX7_cat 77 = .ok (.getfield 134, 3) := by decide +kernel
theorem dX7_cat_80 : decode cX7_cat 80 = .ok (.iload_n 1, 1) := by decide +kernel
theorem dX7_cat_81 : decode cX7_cat 81 = .ok (.iaload, 1) := by decide +kernel
theorem dX7_cat_82 : decode cX7_cat 82 = .ok (.ireturn, 1) := by decide +kernel
theorem dX7_cat_83 : decode cX7_cat 83 = .ok (.aload_n 0, 1) := by decide +kernel
theorem dX7_cat_84 : decode cX7_cat 84 = .ok (.getfield 36, 3) := by decide +kernel
theorem dX7_cat_87 : decode cX7_cat 87 = .ok (.getfield 106, 3) := by decide +kernel
theorem dX7_cat_90 : decode cX7_cat 90 = .ok (.getfield 137, 3) := by decide +kernel
theorem dX7_cat_93 : decode cX7_cat 93 = .ok (.iload_n 1, 1) := by decide +kernel
theorem dX7_cat_94 : decode cX7_cat 94 = .ok (.iaload, 1) := by decide +kernel
theorem dX7_cat_95 : decode cX7_cat 95 = .ok (.ireturn, 1) := by decide +kernel
theorem dX7_cat_96 : decode cX7_cat 96 = .ok (.bipush (-2), 2) := by decide +kernel
theorem dX7_cat_98 : decode cX7_cat 98 = .ok (.ireturn, 1) := by decide +kernel
theorem dX7_need_0 : decode cX7_need 0 = .ok (.aload_n 0, 1) := by decide +kernel
theorem dX7_need_1 : decode cX7_need 1 = .ok (.iload_n 1, 1) := by decide +kernel
theorem dX7_need_2 : decode cX7_need 2 = .ok (.invokevirtual 140, 3) := by decide +kernel
theorem dX7_need_5 : decode cX7_need 5 = .ok (.ifCond .ne 5, 3) := by decide +kernel
theorem dX7_need_8 : decode cX7_need 8 = .ok (.iconst (-1), 1) := by decide +kernel
theorem dX7_need_9 : decode cX7_need 9 = .ok (.ireturn, 1) := by decide +kernel
theorem dX7_need_10 : decode cX7_need 10 = .ok (.iload_n 2, 1) := by decide +kernel
theorem dX7_need_11 : decode cX7_need 11 = .ok (.tableswitch 122 0 5 #[37, 50, 63, 76, 96, 109], 37) := by decide +kernel
theorem dX7_need_48 : decode cX7_need 48 = .ok (.aload_n 0, 1) := by decide +kernel
theorem dX7_need_49 : decode cX7_need 49 = .ok (.getfield 36, 3) := by decide +kernel
theorem dX7_need_52 : decode cX7_need 52 = .ok (.getfield 88, 3) := by decide +kernel
theorem dX7_need_55 : decode cX7_need 55 = .ok (.getfield 143, 3) := by decide +kernel
theorem dX7_need_58 : decode cX7_need 58 = .ok (.iload_n 1, 1) := by decide +kernel
theorem dX7_need_59 : decode cX7_need 59 = .ok (.iaload, 1) := by decide +kernel
theorem dX7_need_60 : decode cX7_need 60 = .ok (.ireturn, 1) := by decide +kernel
theorem dX7_need_61 : decode cX7_need 61 = .ok (.aload_n 0, 1) := by decide +kernel
theorem dX7_need_62 : decode cX7_need 62 = .ok (.getfield 36, 3) := by decide +kernel
theorem dX7_need_65 : decode cX7_need 65 = .ok (.getfield 88, 3) := by decide +kernel
theorem dX7_need_68 : decode cX7_need 68 = .ok (.getfield 146, 3) := by decide +kernel
theorem dX7_need_71 : decode cX7_need 71 = .ok (.iload_n 1, 1) := by decide +kernel
theorem dX7_need_72 : decode cX7_need 72 = .ok (.iaload, 1) := by decide +kernel
theorem dX7_need_73 : decode cX7_need 73 = .ok (.ireturn, 1) := by decide +kernel
theorem dX7_need_74 : decode cX7_need 74 = .ok (.aload_n 0, 1) := by decide +kernel
theorem dX7_need_75 : decode cX7_need 75 = .ok (.getfield 36, 3) := by decide +kernel
theorem dX7_need_78 : decode cX7_need 78 = .ok (.getfield 88, 3) := by decide +kernel
theorem dX7_need_81 : decode cX7_need 81 = .ok (.getfield 149, 3) := by decide +kernel
theorem dX7_need_84 : decode cX7_need 84 = .ok (.iload_n 1, 1) := by decide +kernel
theorem dX7_need_85 : decode cX7_need 85 = .ok (.iaload, 1) := by decide +kernel
theorem dX7_need_86 : decode cX7_need 86 = .ok (.ireturn, 1) := by decide +kernel
theorem dX7_need_87 : decode cX7_need 87 = .ok (.aload_n 0, 1) := by decide +kernel
theorem dX7_need_88 : decode cX7_need 88 = .ok (.getfield 36, 3) := by decide +kernel
theorem dX7_need_91 : decode cX7_need 91 = .ok (.getfield 106, 3) := by decide +kernel
theorem dX7_need_94 : decode cX7_need 94 = .ok (.iload_n 1, 1) := by decide +kernel
theorem dX7_need_95 : decode cX7_need 95 = .ok (.invokevirtual 152, 3) := by decide +kernel
theorem dX7_need_98 : decode cX7_need 98 = .ok (.ifCond .eq 7, 3) := by decide +kernel
theorem dX7_need_101 : decode cX7_need 101 = .ok (.iconst 1, 1) := by decide +kernel
theorem dX7_need_102 : decode cX7_need 102 = .ok (.goto 4, 3) := by decide +kernel
theorem dX7_need_105 : decode cX7_need 105 = .ok (.iconst 0, 1) := by decide +kernel
theorem dX7_need_106 : decode cX7_need 106 = .ok (.ireturn, 1) := by decide +kernel
theorem dX7_need_107 : decode cX7_need 107 = .ok (.aload_n 0, 1) := by decide +kernel
theorem dX7_need_108 : decode cX7_need 108 = .ok (.getfield 36, 3) := by decide +kernel
theorem dX7_need_111 : decode cX7_need 111 = .ok (.getfield 106, 3) := by decide +kernel
theorem dX7_need_114 : decode cX7_need 114 = .ok (.getfield 155, 3) := by decide +kernel
theorem dX7_need_117 : decode cX7_need 117 = .ok (.iload_n 1, 1) := by decide +kernel
theorem dX7_need_118 : decode cX7_need 118 = .ok (.iaload, 1) := by decide +kernel
theorem dX7_need_119 : decode cX7_need 119 = .ok (.ireturn, 1) := by decide +kernel
theorem dX7_need_120 : decode cX7_need 120 = .ok (.aload_n 0, 1) := by decide +kernel
theorem dX7_need_121 : decode cX7_need 121 = .ok (.getfield 36, 3) := by decide +kernel
theorem dX7_need_124 : decode cX7_need 124 = .ok (.getfield 106, 3) := by decide +kernel
theorem dX7_need_127 : decode cX7_need 127 = .ok (.getfield 158, 3) := by decide +kernel
theorem dX7_need_130 : decode cX7_need 130 = .ok (.iload_n 1, 1) := by decide +kernel
theorem dX7_need_131 : decode cX7_need 131 = .ok (.iaload, 1) := by decide +kernel
theorem dX7_need_132 : decode cX7_need 132 = .ok (.ireturn, 1) := by decide +kernel
theorem dX7_need_133 : decode cX7_need 133 = .ok (.iconst (-1), 1) := by decide +kernel
theorem dX7_need_134 : decode cX7_need 134 = .ok (.ireturn, 1) := by decide +kernel
theorem dX7_count_0 : decode cX7_count 0 = .ok (.iload_n 1, 1) := by decide +kernel
theorem dX7_count_1 : decode cX7_count 1 = .ok (.tableswitch 225 0 13 #[71, 82, 93, 104, 115, 120, 128, 139, 157, 175, 193, 201, 209, 217], 71) := by decide +kernel
theorem dX7_count_72 : decode cX7_count 72 = .ok (.aload_n 0, 1) := by decide +kernel
theorem dX7_count_73 : decode cX7_count 73 = .ok (.getfield 36, 3) := by decide +kernel
theorem dX7_count_76 : decode cX7_count 76 = .ok (.getfield 88, 3) := by decide +kernel
theorem dX7_count_79 : decode cX7_count 79 = .ok (.getfield 161, 3) := by decide +kernel
theorem dX7_count_82 : decode cX7_count 82 = .ok (.ireturn, 1) := by decide +kernel
theorem dX7_count_83 : decode cX7_count 83 = .ok (.aload_n 0, 1) := by decide +kernel
theorem dX7_count_84 : decode cX7_count 84 = .ok (.getfield 36, 3) := by decide +kernel
theorem dX7_count_87 : decode cX7_count 87 = .ok (.getfield 88, 3) := by decide +kernel
theorem dX7_count_90 : decode cX7_count 90 = .ok (.getfield 91, 3) := by decide +kernel
theorem dX7_count_93 : decode cX7_count 93 = .ok (.ireturn, 1) := by decide +kernel
theorem dX7_count_94 : decode cX7_count 94 = .ok (.aload_n 0, 1) := by decide +kernel
theorem dX7_count_95 : decode cX7_count 95 = .ok (.getfield 36, 3) := by decide +kernel
theorem dX7_count_98 : decode cX7_count 98 = .ok (.getfield 88, 3) := by decide +kernel
theorem dX7_count_101 : decode cX7_count 101 = .ok (.getfield 164, 3) := by decide +kernel
theorem dX7_count_104 : decode cX7_count 104 = .ok (.ireturn, 1) := by decide +kernel
theorem dX7_count_105 : decode cX7_count 105 = .ok (.aload_n 0, 1) := by decide +kernel
theorem dX7_count_106 : decode cX7_count 106 = .ok (.getfield 36, 3) := by decide +kernel
theorem dX7_count_109 : decode cX7_count 109 = .ok (.getfield 88, 3) := by decide +kernel
theorem dX7_count_112 : decode cX7_count 112 = .ok (.getfield 167, 3) := by decide +kernel
theorem dX7_count_115 : decode cX7_count 115 = .ok (.ireturn, 1) := by decide +kernel
theorem dX7_count_116 : decode cX7_count 116 = .ok (.aload_n 0, 1) := by decide +kernel
theorem dX7_count_117 : decode cX7_count 117 = .ok (.getfield 22, 3) := by decide +kernel
theorem dX7_count_120 : decode cX7_count 120 = .ok (.ireturn, 1) := by decide +kernel
theorem dX7_count_121 : decode cX7_count 121 = .ok (.aload_n 0, 1) := by decide +kernel
theorem dX7_count_122 : decode cX7_count 122 = .ok (.getfield 36, 3) := by decide +kernel
theorem dX7_count_125 : decode cX7_count 125 = .ok (.getfield 99, 3) := by decide +kernel
theorem dX7_count_128 : decode cX7_count 128 = .ok (.ireturn, 1) := by decide +kernel
theorem dX7_count_129 : decode cX7_count 129 = .ok (.aload_n 0, 1) := by decide +kernel
theorem dX7_count_130 : decode cX7_count 130 = .ok (.getfield 36, 3) := by decide +kernel
theorem dX7_count_133 : decode cX7_count 133 = .ok (.getfield 106, 3) := by decide +kernel
theorem dX7_count_136 : decode cX7_count 136 = .ok (.getfield 170, 3) := by decide +kernel
theorem dX7_count_139 : decode cX7_count 139 = .ok (.ireturn, 1) := by decide +kernel
theorem dX7_count_140 : decode cX7_count 140 = .ok (.aload_n 0, 1) := by decide +kernel
theorem dX7_count_141 : decode cX7_count 141 = .ok (.getfield 36, 3) := by decide +kernel
theorem dX7_count_144 : decode cX7_count 144 = .ok (.getfield 106, 3) := by decide +kernel
theorem dX7_count_147 : decode cX7_count 147 = .ok (.aload_n 0, 1) := by decide +kernel
theorem dX7_count_148 : decode cX7_count 148 = .ok (.getfield 36, 3) := by decide +kernel
theorem dX7_count_151 : decode cX7_count 151 = .ok (.getfield 88, 3) := by decide +kernel
theorem dX7_count_154 : decode cX7_count 154 = .ok (.invokevirtual 173, 3) := by decide +kernel
theorem dX7_count_157 : decode cX7_count 157 = .ok (.ireturn, 1) := by decide +kernel
theorem dX7_count_158 : decode cX7_count 158 = .ok (.aload_n 0, 1) := by decide +kernel
theorem dX7_count_159 : decode cX7_count 159 = .ok (.getfield 36, 3) := by decide +kernel
theorem dX7_count_162 : decode cX7_count 162 = .ok (.getfield 106, 3) := by decide +kernel
theorem dX7_count_165 : decode cX7_count 165 = .ok (.aload_n 0, 1) := by decide +kernel
theorem dX7_count_166 : decode cX7_count 166 = .ok (.getfield 36, 3) := by decide +kernel
theorem dX7_count_169 : decode cX7_count 169 = .ok (.getfield 88, 3) := by decide +kernel
theorem dX7_count_172 : decode cX7_count 172 = .ok (.invokevirtual 177, 3) := by decide +kernel
theorem dX7_count_175 : decode cX7_count 175 = .ok (.ireturn, 1) := by decide +kernel
theorem dX7_count_176 : decode cX7_count 176 = .ok (.aload_n 0, 1) := by decide +kernel
theorem dX7_count_177 : decode cX7_count 177 = .ok (.getfield 36, 3) := by decide +kernel
theorem dX7_count_180 : decode cX7_count 180 = .ok (.getfield 106, 3) := by decide +kernel
theorem dX7_count_183 : decode cX7_count 183 = .ok (.aload_n 0, 1) := by decide +kernel
theorem dX7_count_184 : decode cX7_count 184 = .ok (.getfield 36, 3) := by decide +kernel
theorem dX7_count_187 : decode cX7_count 187 = .ok (.getfield 88, 3) := by decide +kernel
theorem dX7_count_190 : decode cX7_count 190 = .ok (.invokevirtual 180, 3) := by decide +kernel
theorem dX7_count_193 : decode cX7_count 193 = .ok (.ireturn, 1) := by decide +kernel
theorem dX7_count_194 : decode cX7_count 194 = .ok (.aload_n 0, 1) := by decide +kernel
theorem dX7_count_195 : decode cX7_count 195 = .ok (.getfield 36, 3) := by decide +kernel
theorem dX7_count_198 : decode cX7_count 198 = .ok (.getfield 183, 3) := by decide +kernel
theorem dX7_count_201 : decode cX7_count 201 = .ok (.ireturn, 1) := by decide +kernel
theorem dX7_count_202 : decode cX7_count 202 = .ok (.aload_n 0, 1) := by decide +kernel
theorem dX7_count_203 : decode cX7_count 203 = .ok (.getfield 36, 3) := by decide +kernel
theorem dX7_count_206 : decode cX7_count 206 = .ok (.getfield 186, 3) := by decide +kernel
theorem dX7_count_209 : decode cX7_count 209 = .ok (.ireturn, 1) := by decide +kernel
theorem dX7_count_210 : decode cX7_count 210 = .ok (.aload_n 0, 1) := by decide +kernel
theorem dX7_count_211 : decode cX7_count 211 = .ok (.getfield 36, 3) := by decide +kernel
theorem dX7_count_214 : decode cX7_count 214 = .ok (.getfield 189, 3) := by decide +kernel
theorem dX7_count_217 : decode cX7_count 217 = .ok (.ireturn, 1) := by decide +kernel
theorem dX7_count_218 : decode cX7_count 218 = .ok (.aload_n 0, 1) := by decide +kernel
theorem dX7_count_219 : decode cX7_count 219 = .ok (.getfield 10, 3) := by decide +kernel
theorem dX7_count_222 : decode cX7_count 222 = .ok (.getfield 68, 3) := by decide +kernel
theorem dX7_count_225 : decode cX7_count 225 = .ok (.ireturn, 1) := by decide +kernel
theorem dX7_count_226 : decode cX7_count 226 = .ok (.iconst (-1), 1) := by decide +kernel
theorem dX7_count_227 : decode cX7_count 227 = .ok (.ireturn, 1) := by decide +kernel
theorem dX7_minute_0 : decode cX7_minute 0 = .ok (.aload_n 0, 1) := by decide +kernel
theorem dX7_minute_1 : decode cX7_minute 1 = .ok (.invokevirtual 192, 3) := by decide +kernel
theorem dX7_minute_4 : decode cX7_minute 4 = .ok (.ifCond .eq 19, 3) := by decide +kernel
theorem dX7_minute_7 : decode cX7_minute 7 = .ok (.aload_n 0, 1) := by decide +kernel
theorem dX7_minute_8 : decode cX7_minute 8 = .ok (.getfield 36, 3) := by decide +kernel
theorem dX7_minute_11 : decode cX7_minute 11 = .ok (.getfield 106, 3) := by decide +kernel
theorem dX7_minute_14 : decode cX7_minute 14 = .ok (.getfield 170, 3) := by decide +kernel
theorem dX7_minute_17 : decode cX7_minute 17 = .ok (.sipush 999, 3) := by decide +kernel
theorem dX7_minute_20 : decode cX7_minute 20 = .ok (.if_icmp .lt 5, 3) := by decide +kernel
theorem dX7_minute_23 : decode cX7_minute 23 = .ok (.iconst (-1), 1) := by decide +kernel
theorem dX7_minute_24 : decode cX7_minute 24 = .ok (.ireturn, 1) := by decide +kernel
theorem dX7_minute_25 : decode cX7_minute 25 = .ok (.aload_n 0, 1) := by decide +kernel
theorem dX7_minute_26 : decode cX7_minute 26 = .ok (.getfield 36, 3) := by decide +kernel
theorem dX7_minute_29 : decode cX7_minute 29 = .ok (.invokevirtual 196, 3) := by decide +kernel
theorem dX7_minute_32 : decode cX7_minute 32 = .ok (.aload_n 0, 1) := by decide +kernel
theorem dX7_minute_33 : decode cX7_minute 33 = .ok (.getfield 36, 3) := by decide +kernel
theorem dX7_minute_36 : decode cX7_minute 36 = .ok (.getfield 106, 3) := by decide +kernel
theorem dX7_minute_39 : decode cX7_minute 39 = .ok (.aload_n 0, 1) := by decide +kernel
theorem dX7_minute_40 : decode cX7_minute 40 = .ok (.getfield 36, 3) := by decide +kernel
theorem dX7_minute_43 : decode cX7_minute 43 = .ok (.getfield 88, 3) := by decide +kernel
theorem dX7_minute_46 : decode cX7_minute 46 = .ok (.aload_n 0, 1) := by decide +kernel
theorem dX7_minute_47 : decode cX7_minute 47 = .ok (.invokevirtual 199, 3) := by decide +kernel
theorem dX7_minute_50 : decode cX7_minute 50 = .ok (.invokevirtual 203, 3) := by decide +kernel
theorem dX7_minute_53 : decode cX7_minute 53 = .ok (.aload_n 0, 1) := by decide +kernel
theorem dX7_minute_54 : decode cX7_minute 54 = .ok (.getfield 36, 3) := by decide +kernel
theorem dX7_minute_57 : decode cX7_minute 57 = .ok (.getfield 106, 3) := by decide +kernel
theorem dX7_minute_60 : decode cX7_minute 60 = .ok (.getfield 207, 3) := by decide +kernel
theorem dX7_minute_63 : decode cX7_minute 63 = .ok (.ireturn, 1) := by decide +kernel
theorem dX7_lift_0 : decode cX7_lift 0 = .ok (.aload_n 0, 1) := by decide +kernel
theorem dX7_lift_1 : decode cX7_lift 1 = .ok (.iload_n 1, 1) := by decide +kernel
theorem dX7_lift_2 : decode cX7_lift 2 = .ok (.invokevirtual 125, 3) := by decide +kernel
theorem dX7_lift_5 : decode cX7_lift 5 = .ok (.ifCond .eq 19, 3) := by decide +kernel
theorem dX7_lift_8 : decode cX7_lift 8 = .ok (.aload_n 0, 1) := by decide +kernel
theorem dX7_lift_9 : decode cX7_lift 9 = .ok (.getfield 36, 3) := by decide +kernel
theorem dX7_lift_12 : decode cX7_lift 12 = .ok (.getfield 106, 3) := by decide +kernel
theorem dX7_lift_15 : decode cX7_lift 15 = .ok (.getfield 137, 3) := by decide +kernel
theorem dX7_lift_18 : decode cX7_lift 18 = .ok (.iload_n 1, 1) := by decide +kernel
theorem dX7_lift_19 : decode cX7_lift 19 = .ok (.iaload, 1) := by decide +kernel
theorem dX7_lift_20 : decode cX7_lift 20 = .ok (.iconst (-1), 1) := by decide +kernel
theorem dX7_lift_21 : decode cX7_lift 21 = .ok (.if_icmp .ne 5, 3) := by decide +kernel
theorem dX7_lift_24 : decode cX7_lift 24 = .ok (.iconst (-1), 1) := by decide +kernel
theorem dX7_lift_25 : decode cX7_lift 25 = .ok (.ireturn, 1) := by decide +kernel
theorem dX7_lift_26 : decode cX7_lift 26 = .ok (.aload_n 0, 1) := by decide +kernel
theorem dX7_lift_27 : decode cX7_lift 27 = .ok (.getfield 36, 3) := by decide +kernel
theorem dX7_lift_30 : decode cX7_lift 30 = .ok (.invokevirtual 196, 3) := by decide +kernel
theorem dX7_lift_33 : decode cX7_lift 33 = .ok (.aload_n 0, 1) := by decide +kernel
theorem dX7_lift_34 : decode cX7_lift 34 = .ok (.getfield 36, 3) := by decide +kernel
theorem dX7_lift_37 : decode cX7_lift 37 = .ok (.getfield 106, 3) := by decide +kernel
theorem dX7_lift_40 : decode cX7_lift 40 = .ok (.getfield 137, 3) := by decide +kernel
theorem dX7_lift_43 : decode cX7_lift 43 = .ok (.iload_n 1, 1) := by decide +kernel
theorem dX7_lift_44 : decode cX7_lift 44 = .ok (.iaload, 1) := by decide +kernel
theorem dX7_lift_45 : decode cX7_lift 45 = .ok (.istore_n 2, 1) := by decide +kernel
theorem dX7_lift_46 : decode cX7_lift 46 = .ok (.aload_n 0, 1) := by decide +kernel
theorem dX7_lift_47 : decode cX7_lift 47 = .ok (.getfield 36, 3) := by decide +kernel
theorem dX7_lift_50 : decode cX7_lift 50 = .ok (.getfield 106, 3) := by decide +kernel
theorem dX7_lift_53 : decode cX7_lift 53 = .ok (.getfield 137, 3) := by decide +kernel
theorem dX7_lift_56 : decode cX7_lift 56 = .ok (.iload_n 1, 1) := by decide +kernel
theorem dX7_lift_57 : decode cX7_lift 57 = .ok (.iconst (-1), 1) := by decide +kernel
theorem dX7_lift_58 : decode cX7_lift 58 = .ok (.iastore, 1) := by decide +kernel
theorem dX7_lift_59 : decode cX7_lift 59 = .ok (.aload_n 0, 1) := by decide +kernel
theorem dX7_lift_60 : decode cX7_lift 60 = .ok (.getfield 36, 3) := by decide +kernel
theorem dX7_lift_63 : decode cX7_lift 63 = .ok (.getfield 106, 3) := by decide +kernel
theorem dX7_lift_66 : decode cX7_lift 66 = .ok (.getfield 128, 3) := by decide +kernel
theorem dX7_lift_69 : decode cX7_lift 69 = .ok (.iload_n 1, 1) := by decide +kernel
theorem dX7_lift_70 : decode cX7_lift 70 = .ok (.iconst 0, 1) := by decide +kernel
theorem dX7_lift_71 : decode cX7_lift 71 = .ok (.iastore, 1) := by decide +kernel
theorem dX7_lift_72 : decode cX7_lift 72 = .ok (.iload_n 2, 1) := by decide +kernel
theorem dX7_lift_73 : decode cX7_lift 73 = .ok (.ireturn, 1) := by decide +kernel
theorem dX7_move_0 : decode cX7_move 0 = .ok (.aload_n 0, 1) := by decide +kernel
theorem dX7_move_1 : decode cX7_move 1 = .ok (.iload_n 1, 1) := by decide +kernel
theorem dX7_move_2 : decode cX7_move 2 = .ok (.invokevirtual 102, 3) := by decide +kernel
theorem dX7_move_5 : decode cX7_move 5 = .ok (.ifCond .eq 21, 3) := by decide +kernel
theorem dX7_move_8 : decode cX7_move 8 = .ok (.iload_n 2, 1) := by decide +kernel
theorem dX7_move_9 : decode cX7_move 9 = .ok (.ifCond .lt 17, 3) := by decide +kernel
theorem dX7_move_12 : decode cX7_move 12 = .ok (.iload_n 2, 1) := by decide +kernel
theorem dX7_move_13 : decode cX7_move 13 = .ok (.aload_n 0, 1) := by decide +kernel
theorem dX7_move_14 : decode cX7_move 14 = .ok (.getfield 36, 3) := by decide +kernel
theorem dX7_move_17 : decode cX7_move 17 = .ok (.getfield 88, 3) := by decide +kernel
theorem dX7_move_20 : decode cX7_move 20 = .ok (.getfield 161, 3) := by decide +kernel
theorem dX7_move_23 : decode cX7_move 23 = .ok (.if_icmp .lt 5, 3) := by decide +kernel
theorem dX7_move_26 : decode cX7_move 26 = .ok (.iconst (-1), 1) := by decide +kernel
theorem dX7_move_27 : decode cX7_move 27 = .ok (.ireturn, 1) := by decide +kernel
theorem dX7_move_28 : decode cX7_move 28 = .ok (.aload_n 0, 1) := by decide +kernel
theorem dX7_move_29 : decode cX7_move 29 = .ok (.getfield 36, 3) := by decide +kernel
theorem dX7_move_32 : decode cX7_move 32 = .ok (.getfield 106, 3) := by decide +kernel
theorem dX7_move_35 : decode cX7_move 35 = .ok (.getfield 109, 3) := by decide +kernel
theorem dX7_move_38 : decode cX7_move 38 = .ok (.iload_n 1, 1) := by decide +kernel
theorem dX7_move_39 : decode cX7_move 39 = .ok (.iaload, 1) := by decide +kernel
theorem dX7_move_40 : decode cX7_move 40 = .ok (.istore_n 3, 1) := by decide +kernel
theorem dX7_move_41 : decode cX7_move 41 = .ok (.iload_n 2, 1) := by decide +kernel
theorem dX7_move_42 : decode cX7_move 42 = .ok (.iload_n 3, 1) := by decide +kernel
theorem dX7_move_43 : decode cX7_move 43 = .ok (.if_icmp .eq 24, 3) := by decide +kernel
theorem dX7_move_46 : decode cX7_move 46 = .ok (.aload_n 0, 1) := by decide +kernel
theorem dX7_move_47 : decode cX7_move 47 = .ok (.getfield 36, 3) := by decide +kernel
theorem dX7_move_50 : decode cX7_move 50 = .ok (.getfield 106, 3) := by decide +kernel
theorem dX7_move_53 : decode cX7_move 53 = .ok (.aload_n 0, 1) := by decide +kernel
theorem dX7_move_54 : decode cX7_move 54 = .ok (.getfield 36, 3) := by decide +kernel
theorem dX7_move_57 : decode cX7_move 57 = .ok (.getfield 88, 3) := by decide +kernel
theorem dX7_move_60 : decode cX7_move 60 = .ok (.iload_n 1, 1) := by decide +kernel
theorem dX7_move_61 : decode cX7_move 61 = .ok (.invokevirtual 122, 3) := by decide +kernel
theorem dX7_move_64 : decode cX7_move 64 = .ok (.ifCond .eq 5, 3) := by decide +kernel
theorem dX7_move_67 : decode cX7_move 67 = .ok (.iconst (-1), 1) := by decide +kernel
theorem dX7_move_68 : decode cX7_move 68 = .ok (.ireturn, 1) := by decide +kernel
theorem dX7_move_69 : decode cX7_move 69 = .ok (.aload_n 0, 1) := by decide +kernel
theorem dX7_move_70 : decode cX7_move 70 = .ok (.getfield 36, 3) := by decide +kernel
theorem dX7_move_73 : decode cX7_move 73 = .ok (.invokevirtual 196, 3) := by decide +kernel
theorem dX7_move_76 : decode cX7_move 76 = .ok (.aload_n 0, 1) := by decide +kernel
theorem dX7_move_77 : decode cX7_move 77 = .ok (.getfield 36, 3) := by decide +kernel
theorem dX7_move_80 : decode cX7_move 80 = .ok (.getfield 106, 3) := by decide +kernel
theorem dX7_move_83 : decode cX7_move 83 = .ok (.getfield 109, 3) := by decide +kernel
theorem dX7_move_86 : decode cX7_move 86 = .ok (.iload_n 1, 1) := by decide +kernel
theorem dX7_move_87 : decode cX7_move 87 = .ok (.iload_n 2, 1) := by decide +kernel
theorem dX7_move_88 : decode cX7_move 88 = .ok (.iastore, 1) := by decide +kernel
theorem dX7_move_89 : decode cX7_move 89 = .ok (.iload_n 3, 1) := by decide +kernel
theorem dX7_move_90 : decode cX7_move 90 = .ok (.ireturn, 1) := by decide +kernel
theorem dX7_strike_0 : decode cX7_strike 0 = .ok (.aload_n 0, 1) := by decide +kernel
theorem dX7_strike_1 : decode cX7_strike 1 = .ok (.iload_n 1, 1) := by decide +kernel
theorem dX7_strike_2 : decode cX7_strike 2 = .ok (.invokevirtual 140, 3) := by decide +kernel
theorem dX7_strike_5 : decode cX7_strike 5 = .ok (.ifCond .ne 5, 3) := by decide +kernel
theorem dX7_strike_8 : decode cX7_strike 8 = .ok (.iconst (-1), 1) := by decide +kernel
theorem dX7_strike_9 : decode cX7_strike 9 = .ok (.ireturn, 1) := by decide +kernel
theorem dX7_strike_10 : decode cX7_strike 10 = .ok (.aload_n 0, 1) := by decide +kernel
theorem dX7_strike_11 : decode cX7_strike 11 = .ok (.getfield 36, 3) := by decide +kernel
theorem dX7_strike_14 : decode cX7_strike 14 = .ok (.invokevirtual 196, 3) := by decide +kernel
theorem dX7_strike_17 : decode cX7_strike 17 = .ok (.aload_n 0, 1) := by decide +kernel
theorem dX7_strike_18 : decode cX7_strike 18 = .ok (.getfield 36, 3) := by decide +kernel
theorem dX7_strike_21 : decode cX7_strike 21 = .ok (.getfield 106, 3) := by decide +kernel
theorem dX7_strike_24 : decode cX7_strike 24 = .ok (.dup, 1) := by decide +kernel
theorem dX7_strike_25 : decode cX7_strike 25 = .ok (.getfield 210, 3) := by decide +kernel
theorem dX7_strike_28 : decode cX7_strike 28 = .ok (.iconst 1, 1) := by decide +kernel
theorem dX7_strike_29 : decode cX7_strike 29 = .ok (.iload_n 1, 1) := by decide +kernel
theorem dX7_strike_30 : decode cX7_strike 30 = .ok (.ishl, 1) := by decide +kernel
theorem dX7_strike_31 : decode cX7_strike 31 = .ok (.ixor, 1) := by decide +kernel
theorem dX7_strike_32 : decode cX7_strike 32 = .ok (.putfield 210, 3) := by decide +kernel
theorem dX7_strike_35 : decode cX7_strike 35 = .ok (.aload_n 0, 1) := by decide +kernel
theorem dX7_strike_36 : decode cX7_strike 36 = .ok (.getfield 36, 3) := by decide +kernel
theorem dX7_strike_39 : decode cX7_strike 39 = .ok (.getfield 106, 3) := by decide +kernel
theorem dX7_strike_42 : decode cX7_strike 42 = .ok (.iload_n 1, 1) := by decide +kernel
theorem dX7_strike_43 : decode cX7_strike 43 = .ok (.invokevirtual 152, 3) := by decide +kernel
theorem dX7_strike_46 : decode cX7_strike 46 = .ok (.ifCond .eq 7, 3) := by decide +kernel
theorem dX7_strike_49 : decode cX7_strike 49 = .ok (.iconst 1, 1) := by decide +kernel
theorem dX7_strike_50 : decode cX7_strike 50 = .ok (.goto 4, 3) := by decide +kernel
theorem dX7_strike_53 : decode cX7_strike 53 = .ok (.iconst 0, 1) := by decide +kernel
theorem dX7_strike_54 : decode cX7_strike 54 = .ok (.ireturn, 1) := by decide +kernel
theorem dX7_teach_0 : decode cX7_teach 0 = .ok (.aload_n 0, 1) := by decide +kernel
theorem dX7_teach_1 : decode cX7_teach 1 = .ok (.iload_n 1, 1) := by decide +kernel
theorem dX7_teach_2 : decode cX7_teach 2 = .ok (.invokevirtual 125, 3) := by decide +kernel
theorem dX7_teach_5 : decode cX7_teach 5 = .ok (.ifCond .eq 30, 3) := by decide +kernel
theorem dX7_teach_8 : decode cX7_teach 8 = .ok (.iload_n 2, 1) := by decide +kernel
theorem dX7_teach_9 : decode cX7_teach 9 = .ok (.iconst 1, 1) := by decide +kernel
theorem dX7_teach_10 : decode cX7_teach 10 = .ok (.if_icmp .lt 25, 3) := by decide +kernel
theorem dX7_teach_13 : decode cX7_teach 13 = .ok (.iload_n 2, 1) := by decide +kernel
theorem dX7_teach_14 : decode cX7_teach 14 = .ok (.bipush 9, 2) := by decide +kernel
theorem dX7_teach_16 : decode cX7_teach 16 = .ok (.if_icmp .gt 19, 3) := by decide +kernel
theorem dX7_teach_19 : decode cX7_teach 19 = .ok (.iload_n 2, 1) := by decide +kernel
theorem dX7_teach_20 : decode cX7_teach 20 = .ok (.aload_n 0, 1) := by decide +kernel
theorem dX7_teach_21 : decode cX7_teach 21 = .ok (.getfield 36, 3) := by decide +kernel
theorem dX7_teach_24 : decode cX7_teach 24 = .ok (.getfield 106, 3) := by decide +kernel
theorem dX7_teach_27 : decode cX7_teach 27 = .ok (.getfield 134, 3) := by decide +kernel
theorem dX7_teach_30 : decode cX7_teach 30 = .ok (.iload_n 1, 1) := by decide +kernel
theorem dX7_teach_31 : decode cX7_teach 31 = .ok (.iaload, 1) := by decide +kernel
theorem dX7_teach_32 : decode cX7_teach 32 = .ok (.if_icmp .ne 5, 3) := by decide +kernel
theorem dX7_teach_35 : decode cX7_teach 35 = .ok (.iconst (-1), 1) := by decide +kernel
theorem dX7_teach_36 : decode cX7_teach 36 = .ok (.ireturn, 1) := by decide +kernel
theorem dX7_teach_37 : decode cX7_teach 37 = .ok (.aload_n 0, 1) := by decide +kernel
theorem dX7_teach_38 : decode cX7_teach 38 = .ok (.getfield 36, 3) := by decide +kernel
theorem dX7_teach_41 : decode cX7_teach 41 = .ok (.invokevirtual 196, 3) := by decide +kernel
theorem dX7_teach_44 : decode cX7_teach 44 = .ok (.aload_n 0, 1) := by decide +kernel
theorem dX7_teach_45 : decode cX7_teach 45 = .ok (.getfield 36, 3) := by decide +kernel
theorem dX7_teach_48 : decode cX7_teach 48 = .ok (.getfield 106, 3) := by decide +kernel
theorem dX7_teach_51 : decode cX7_teach 51 = .ok (.getfield 134, 3) := by decide +kernel
theorem dX7_teach_54 : decode cX7_teach 54 = .ok (.iload_n 1, 1) := by decide +kernel
theorem dX7_teach_55 : decode cX7_teach 55 = .ok (.iaload, 1) := by decide +kernel
theorem dX7_teach_56 : decode cX7_teach 56 = .ok (.istore_n 3, 1) := by decide +kernel
theorem dX7_teach_57 : decode cX7_teach 57 = .ok (.aload_n 0, 1) := by decide +kernel
theorem dX7_teach_58 : decode cX7_teach 58 = .ok (.getfield 36, 3) := by decide +kernel
theorem dX7_teach_61 : decode cX7_teach 61 = .ok (.getfield 106, 3) := by decide +kernel
theorem dX7_teach_64 : decode cX7_teach 64 = .ok (.getfield 134, 3) := by decide +kernel
theorem dX7_teach_67 : decode cX7_teach 67 = .ok (.iload_n 1, 1) := by decide +kernel
theorem dX7_teach_68 : decode cX7_teach 68 = .ok (.iload_n 2, 1) := by decide +kernel
theorem dX7_teach_69 : decode cX7_teach 69 = .ok (.iastore, 1) := by decide +kernel
theorem dX7_teach_70 : decode cX7_teach 70 = .ok (.iload_n 3, 1) := by decide +kernel
theorem dX7_teach_71 : decode cX7_teach 71 = .ok (.ireturn, 1) := by decide +kernel
theorem dX7_undo_0 : decode cX7_undo 0 = .ok (.aload_n 0, 1) := by decide +kernel
theorem dX7_undo_1 : decode cX7_undo 1 = .ok (.getfield 36, 3) := by decide +kernel
theorem dX7_undo_4 : decode cX7_undo 4 = .ok (.invokevirtual 213, 3) := by decide +kernel
theorem dX7_undo_7 : decode cX7_undo 7 = .ok (.ifCond .eq 13, 3) := by decide +kernel
theorem dX7_undo_10 : decode cX7_undo 10 = .ok (.aload_n 0, 1) := by decide +kernel
theorem dX7_undo_11 : decode cX7_undo 11 = .ok (.getfield 36, 3) := by decide +kernel
theorem dX7_undo_14 : decode cX7_undo 14 = .ok (.getfield 186, 3) := by decide +kernel
theorem dX7_undo_17 : decode cX7_undo 17 = .ok (.goto 5, 3) := by decide +kernel
theorem dX7_undo_20 : decode cX7_undo 20 = .ok (.bipush (-2), 2) := by decide +kernel
theorem dX7_undo_22 : decode cX7_undo 22 = .ok (.ireturn, 1) := by decide +kernel
theorem dX7_ahead_0 : decode cX7_ahead 0 = .ok (.aload_n 0, 1) := by decide +kernel
theorem dX7_ahead_1 : decode cX7_ahead 1 = .ok (.invokevirtual 192, 3) := by decide +kernel
theorem dX7_ahead_4 : decode cX7_ahead 4 = .ok (.ifCond .eq 22, 3) := by decide +kernel
theorem dX7_ahead_7 : decode cX7_ahead 7 = .ok (.iload_n 2, 1) := by decide +kernel
theorem dX7_ahead_8 : decode cX7_ahead 8 = .ok (.ifCond .lt 18, 3) := by decide +kernel
theorem dX7_ahead_11 : decode cX7_ahead 11 = .ok (.iload_n 2, 1) := by decide +kernel
theorem dX7_ahead_12 : decode cX7_ahead 12 = .ok (.bipush 100, 2) := by decide +kernel
theorem dX7_ahead_14 : decode cX7_ahead 14 = .ok (.if_icmp .gt 12, 3) := by decide +kernel
theorem dX7_ahead_17 : decode cX7_ahead 17 = .ok (.iload_n 3, 1) := by decide +kernel
theorem dX7_ahead_18 : decode cX7_ahead 18 = .ok (.ifCond .lt 8, 3) := by decide +kernel
theorem dX7_ahead_21 : decode cX7_ahead 21 = .ok (.iload_n 3, 1) := by decide +kernel
theorem dX7_ahead_22 : decode cX7_ahead 22 = .ok (.iconst 3, 1) := by decide +kernel
theorem dX7_ahead_23 : decode cX7_ahead 23 = .ok (.if_icmp .le 6, 3) := by decide +kernel
theorem dX7_ahead_26 : decode cX7_ahead 26 = .ok (.bipush (-2), 2) := by decide +kernel
theorem dX7_ahead_28 : decode cX7_ahead 28 = .ok (.ireturn, 1) := by decide +kernel
theorem dX7_ahead_29 : decode cX7_ahead 29 = .ok (.iload_n 3, 1) := by decide +kernel
theorem dX7_ahead_30 : decode cX7_ahead 30 = .ok (.iconst 2, 1) := by decide +kernel
theorem dX7_ahead_31 : decode cX7_ahead 31 = .ok (.if_icmp .ge 14, 3) := by decide +kernel
theorem dX7_ahead_34 : decode cX7_ahead 34 = .ok (.aload_n 0, 1) := by decide +kernel
theorem dX7_ahead_35 : decode cX7_ahead 35 = .ok (.iload_n 1, 1) := by decide +kernel
theorem dX7_ahead_36 : decode cX7_ahead 36 = .ok (.invokevirtual 125, 3) := by decide +kernel
theorem dX7_ahead_39 : decode cX7_ahead 39 = .ok (.ifCond .ne 6, 3) := by decide +kernel
theorem dX7_ahead_42 : decode cX7_ahead 42 = .ok (.bipush (-2), 2) := by decide +kernel
theorem dX7_ahead_44 : decode cX7_ahead 44 = .ok (.ireturn, 1) := by decide +kernel
theorem dX7_ahead_45 : decode cX7_ahead 45 = .ok (.aload_n 0, 1) := by decide +kernel
theorem dX7_ahead_46 : decode cX7_ahead 46 = .ok (.getfield 50, 3) := by decide +kernel
theorem dX7_ahead_49 : decode cX7_ahead 49 = .ok (.aload_n 0, 1) := by decide +kernel
theorem dX7_ahead_50 : decode cX7_ahead 50 = .ok (.getfield 36, 3) := by decide +kernel
theorem dX7_ahead_53 : decode cX7_ahead 53 = .ok (.getfield 106, 3) := by decide +kernel
theorem dX7_ahead_56 : decode cX7_ahead 56 = .ok (.invokevirtual 216, 3) := by decide +kernel
theorem dX7_ahead_59 : decode cX7_ahead 59 = .ok (.aload_n 0, 1) := by decide +kernel
theorem dX7_ahead_60 : decode cX7_ahead 60 = .ok (.iload_n 2, 1) := by decide +kernel
theorem dX7_ahead_61 : decode cX7_ahead 61 = .ok (.aload_n 0, 1) := by decide +kernel
theorem dX7_ahead_62 : decode cX7_ahead 62 = .ok (.invokevirtual 199, 3) := by decide +kernel
theorem dX7_ahead_65 : decode cX7_ahead 65 = .ok (.invokevirtual 220, 3) := by decide +kernel
theorem dX7_ahead_68 : decode cX7_ahead 68 = .ok (.iload_n 3, 1) := by decide +kernel
theorem dX7_ahead_69 : decode cX7_ahead 69 = .ok (.tableswitch 62 0 2 #[27, 37, 47], 27) := by decide +kernel
theorem dX7_ahead_96 : decode cX7_ahead 96 = .ok (.aload_n 0, 1) := by decide +kernel
theorem dX7_ahead_97 : decode cX7_ahead 97 = .ok (.getfield 50, 3) := by decide +kernel
theorem dX7_ahead_100 : decode cX7_ahead 100 = .ok (.getfield 128, 3) := by decide +kernel
theorem dX7_ahead_103 : decode cX7_ahead 103 = .ok (.iload_n 1, 1) := by decide +kernel
theorem dX7_ahead_104 : decode cX7_ahead 104 = .ok (.iaload, 1) := by decide +kernel
theorem dX7_ahead_105 : decode cX7_ahead 105 = .ok (.ireturn, 1) := by decide +kernel
theorem dX7_ahead_106 : decode cX7_ahead 106 = .ok (.aload_n 0, 1) := by decide +kernel
theorem dX7_ahead_107 : decode cX7_ahead 107 = .ok (.getfield 50, 3) := by decide +kernel
theorem dX7_ahead_110 : decode cX7_ahead 110 = .ok (.getfield 137, 3) := by decide +kernel
theorem dX7_ahead_113 : decode cX7_ahead 113 = .ok (.iload_n 1, 1) := by decide +kernel
theorem dX7_ahead_114 : decode cX7_ahead 114 = .ok (.iaload, 1) := by decide +kernel
theorem dX7_ahead_115 : decode cX7_ahead 115 = .ok (.ireturn, 1) := by decide +kernel
theorem dX7_ahead_116 : decode cX7_ahead 116 = .ok (.aload_n 0, 1) := by decide +kernel
theorem dX7_ahead_117 : decode cX7_ahead 117 = .ok (.getfield 50, 3) := by decide +kernel
theorem dX7_ahead_120 : decode cX7_ahead 120 = .ok (.aload_n 0, 1) := by decide +kernel
theorem dX7_ahead_121 : decode cX7_ahead 121 = .ok (.getfield 36, 3) := by decide +kernel
theorem dX7_ahead_124 : decode cX7_ahead 124 = .ok (.getfield 88, 3) := by decide +kernel
theorem dX7_ahead_127 : decode cX7_ahead 127 = .ok (.invokevirtual 177, 3) := by decide +kernel
theorem dX7_ahead_130 : decode cX7_ahead 130 = .ok (.ireturn, 1) := by decide +kernel
theorem dX7_ahead_131 : decode cX7_ahead 131 = .ok (.aload_n 0, 1) := by decide +kernel
theorem dX7_ahead_132 : decode cX7_ahead 132 = .ok (.getfield 50, 3) := by decide +kernel
theorem dX7_ahead_135 : decode cX7_ahead 135 = .ok (.aload_n 0, 1) := by decide +kernel
theorem dX7_ahead_136 : decode cX7_ahead 136 = .ok (.getfield 36, 3) := by decide +kernel
theorem dX7_ahead_139 : decode cX7_ahead 139 = .ok (.getfield 88, 3) := by decide +kernel
theorem dX7_ahead_142 : decode cX7_ahead 142 = .ok (.invokevirtual 180, 3) := by decide +kernel
theorem dX7_ahead_145 : decode cX7_ahead 145 = .ok (.ireturn, 1) := by decide +kernel
theorem dX7_due_0 : decode cX7_due 0 = .ok (.aload_n 0, 1) := by decide +kernel
theorem dX7_due_1 : decode cX7_due 1 = .ok (.iload_n 1, 1) := by decide +kernel
theorem dX7_due_2 : decode cX7_due 2 = .ok (.invokevirtual 102, 3) := by decide +kernel
theorem dX7_due_5 : decode cX7_due 5 = .ok (.ifCond .ne 5, 3) := by decide +kernel
theorem dX7_due_8 : decode cX7_due 8 = .ok (.iconst (-1), 1) := by decide +kernel
theorem dX7_due_9 : decode cX7_due 9 = .ok (.ireturn, 1) := by decide +kernel
theorem dX7_due_10 : decode cX7_due 10 = .ok (.aload_n 0, 1) := by decide +kernel
theorem dX7_due_11 : decode cX7_due 11 = .ok (.getfield 36, 3) := by decide +kernel
theorem dX7_due_14 : decode cX7_due 14 = .ok (.getfield 106, 3) := by decide +kernel
theorem dX7_due_17 : decode cX7_due 17 = .ok (.aload_n 0, 1) := by decide +kernel
theorem dX7_due_18 : decode cX7_due 18 = .ok (.getfield 36, 3) := by decide +kernel
theorem dX7_due_21 : decode cX7_due 21 = .ok (.getfield 88, 3) := by decide +kernel
theorem dX7_due_24 : decode cX7_due 24 = .ok (.iload_n 1, 1) := by decide +kernel
theorem dX7_due_25 : decode cX7_due 25 = .ok (.invokevirtual 224, 3) := by decide +kernel
theorem dX7_due_28 : decode cX7_due 28 = .ok (.istore_n 2, 1) := by decide +kernel
theorem dX7_due_29 : decode cX7_due 29 = .ok (.iload_n 2, 1) := by decide +kernel
theorem dX7_due_30 : decode cX7_due 30 = .ok (.bipush 99, 2) := by decide +kernel
theorem dX7_due_32 : decode cX7_due 32 = .ok (.if_icmp .ne 8, 3) := by decide +kernel
theorem dX7_due_35 : decode cX7_due 35 = .ok (.bipush (-2), 2) := by decide +kernel
theorem dX7_due_37 : decode cX7_due 37 = .ok (.goto 15, 3) := by decide +kernel
theorem dX7_due_40 : decode cX7_due 40 = .ok (.aload_n 0, 1) := by decide +kernel
theorem dX7_due_41 : decode cX7_due 41 = .ok (.getfield 36, 3) := by decide +kernel
theorem dX7_due_44 : decode cX7_due 44 = .ok (.getfield 106, 3) := by decide +kernel
theorem dX7_due_47 : decode cX7_due 47 = .ok (.getfield 170, 3) := by decide +kernel
theorem dX7_due_50 : decode cX7_due 50 = .ok (.iload_n 2, 1) := by decide +kernel
theorem dX7_due_51 : decode cX7_due 51 = .ok (.iadd, 1) := by decide +kernel
theorem dX7_due_52 : decode cX7_due 52 = .ok (.ireturn, 1) := by decide +kernel
theorem dX7_served_0 : decode cX7_served 0 = .ok (.aload_n 0, 1) := by decide +kernel
theorem dX7_served_1 : decode cX7_served 1 = .ok (.iload_n 1, 1) := by decide +kernel
theorem dX7_served_2 : decode cX7_served 2 = .ok (.invokevirtual 140, 3) := by decide +kernel
theorem dX7_served_5 : decode cX7_served 5 = .ok (.ifCond .ne 5, 3) := by decide +kernel
theorem dX7_served_8 : decode cX7_served 8 = .ok (.iconst (-1), 1) := by decide +kernel
theorem dX7_served_9 : decode cX7_served 9 = .ok (.ireturn, 1) := by decide +kernel
theorem dX7_served_10 : decode cX7_served 10 = .ok (.aload_n 0, 1) := by decide +kernel
theorem dX7_served_11 : decode cX7_served 11 = .ok (.invokevirtual 199, 3) := by decide +kernel
theorem dX7_served_14 : decode cX7_served 14 = .ok (.astore_n 2, 1) := by decide +kernel
theorem dX7_served_15 : decode cX7_served 15 = .ok (.aload_n 0, 1) := by decide +kernel
theorem dX7_served_16 : decode cX7_served 16 = .ok (.getfield 50, 3) := by decide +kernel
theorem dX7_served_19 : decode cX7_served 19 = .ok (.aload_n 0, 1) := by decide +kernel
theorem dX7_served_20 : decode cX7_served 20 = .ok (.getfield 36, 3) := by decide +kernel
theorem dX7_served_23 : decode cX7_served 23 = .ok (.getfield 106, 3) := by decide +kernel
theorem dX7_served_26 : decode cX7_served 26 = .ok (.invokevirtual 216, 3) := by decide +kernel
theorem dX7_served_29 : decode cX7_served 29 = .ok (.iconst 0, 1) := by decide +kernel
theorem dX7_served_30 : decode cX7_served 30 = .ok (.istore_n 3, 1) := by decide +kernel
theorem dX7_served_31 : decode cX7_served 31 = .ok (.iload_n 3, 1) := by decide +kernel
theorem dX7_served_32 : decode cX7_served 32 = .ok (.bipush 100, 2) := by decide +kernel
theorem dX7_served_34 : decode cX7_served 34 = .ok (.if_icmp .ge 50, 3) := by decide +kernel
theorem dX7_served_37 : decode cX7_served 37 = .ok (.aload_n 0, 1) := by decide +kernel
theorem dX7_served_38 : decode cX7_served 38 = .ok (.getfield 50, 3) := by decide +kernel
theorem dX7_served_41 : decode cX7_served 41 = .ok (.getfield 170, 3) := by decide +kernel
theorem dX7_served_44 : decode cX7_served 44 = .ok (.istore 4, 2) := by decide +kernel
theorem dX7_served_46 : decode cX7_served 46 = .ok (.aload_n 0, 1) := by decide +kernel
theorem dX7_served_47 : decode cX7_served 47 = .ok (.getfield 50, 3) := by decide +kernel
theorem dX7_served_50 : decode cX7_served 50 = .ok (.aload_n 0, 1) := by decide +kernel
theorem dX7_served_51 : decode cX7_served 51 = .ok (.getfield 36, 3) := by decide +kernel
theorem dX7_served_54 : decode cX7_served 54 = .ok (.getfield 88, 3) := by decide +kernel
theorem dX7_served_57 : decode cX7_served 57 = .ok (.aload_n 2, 1) := by decide +kernel
theorem dX7_served_58 : decode cX7_served 58 = .ok (.invokevirtual 203, 3) := by decide +kernel
theorem dX7_served_61 : decode cX7_served 61 = .ok (.aload_n 0, 1) := by decide +kernel
theorem dX7_served_62 : decode cX7_served 62 = .ok (.getfield 50, 3) := by decide +kernel
theorem dX7_served_65 : decode cX7_served 65 = .ok (.getfield 227, 3) := by decide +kernel
theorem dX7_served_68 : decode cX7_served 68 = .ok (.iload_n 1, 1) := by decide +kernel
theorem dX7_served_69 : decode cX7_served 69 = .ok (.ishr, 1) := by decide +kernel
theorem dX7_served_70 : decode cX7_served 70 = .ok (.iconst 1, 1) := by decide +kernel
theorem dX7_served_71 : decode cX7_served 71 = .ok (.iand, 1) := by decide +kernel
theorem dX7_served_72 : decode cX7_served 72 = .ok (.ifCond .eq 6, 3) := by decide +kernel
theorem dX7_served_75 : decode cX7_served 75 = .ok (.iload 4, 2) := by decide +kernel
theorem dX7_served_77 : decode cX7_served 77 = .ok (.ireturn, 1) := by decide +kernel
theorem dX7_served_78 : decode cX7_served 78 = .ok (.iinc 3 1, 3) := by decide +kernel
theorem dX7_served_81 : decode cX7_served 81 = .ok (.goto (-50), 3) := by decide +kernel
theorem dX7_served_84 : decode cX7_served 84 = .ok (.bipush (-2), 2) := by decide +kernel
theorem dX7_served_86 : decode cX7_served 86 = .ok (.ireturn, 1) := by decide +kernel
theorem dX7_shut_0 : decode cX7_shut 0 = .ok (.aload_n 0, 1) := by decide +kernel
theorem dX7_shut_1 : decode cX7_shut 1 = .ok (.invokevirtual 192, 3) := by decide +kernel
theorem dX7_shut_4 : decode cX7_shut 4 = .ok (.ifCond .eq 23, 3) := by decide +kernel
theorem dX7_shut_7 : decode cX7_shut 7 = .ok (.iload_n 1, 1) := by decide +kernel
theorem dX7_shut_8 : decode cX7_shut 8 = .ok (.iconst 1, 1) := by decide +kernel
theorem dX7_shut_9 : decode cX7_shut 9 = .ok (.if_icmp .lt 18, 3) := by decide +kernel
theorem dX7_shut_12 : decode cX7_shut 12 = .ok (.iload_n 1, 1) := by decide +kernel
theorem dX7_shut_13 : decode cX7_shut 13 = .ok (.bipush 60, 2) := by decide +kernel
theorem dX7_shut_15 : decode cX7_shut 15 = .ok (.if_icmp .gt 12, 3) := by decide +kernel
theorem dX7_shut_18 : decode cX7_shut 18 = .ok (.iload_n 2, 1) := by decide +kernel
theorem dX7_shut_19 : decode cX7_shut 19 = .ok (.ifCond .lt 8, 3) := by decide +kernel
theorem dX7_shut_22 : decode cX7_shut 22 = .ok (.iload_n 2, 1) := by decide +kernel
theorem dX7_shut_23 : decode cX7_shut 23 = .ok (.iconst 1, 1) := by decide +kernel
theorem dX7_shut_24 : decode cX7_shut 24 = .ok (.if_icmp .le 6, 3) := by decide +kernel
theorem dX7_shut_27 : decode cX7_shut 27 = .ok (.bipush (-2), 2) := by decide +kernel
theorem dX7_shut_29 : decode cX7_shut 29 = .ok (.ireturn, 1) := by decide +kernel
theorem dX7_shut_30 : decode cX7_shut 30 = .ok (.iconst (-1), 1) := by decide +kernel
theorem dX7_shut_31 : decode cX7_shut 31 = .ok (.istore_n 3, 1) := by decide +kernel
theorem dX7_shut_32 : decode cX7_shut 32 = .ok (.iconst (-1), 1) := by decide +kernel
theorem dX7_shut_33 : decode cX7_shut 33 = .ok (.istore 4, 2) := by decide +kernel
theorem dX7_shut_35 : decode cX7_shut 35 = .ok (.iconst (-1), 1) := by decide +kernel
theorem dX7_shut_36 : decode cX7_shut 36 = .ok (.istore 5, 2) := by decide +kernel
theorem dX7_shut_38 : decode cX7_shut 38 = .ok (.iload 5, 2) := by decide +kernel
theorem dX7_shut_40 : decode cX7_shut 40 = .ok (.aload_n 0, 1) := by decide +kernel
theorem dX7_shut_41 : decode cX7_shut 41 = .ok (.getfield 36, 3) := by decide +kernel
theorem dX7_shut_44 : decode cX7_shut 44 = .ok (.getfield 88, 3) := by decide +kernel
theorem dX7_shut_47 : decode cX7_shut 47 = .ok (.getfield 164, 3) := by decide +kernel
theorem dX7_shut_50 : decode cX7_shut 50 = .ok (.if_icmp .ge 53, 3) := by decide +kernel
theorem dX7_shut_53 : decode cX7_shut 53 = .ok (.aload_n 0, 1) := by decide +kernel
theorem dX7_shut_54 : decode cX7_shut 54 = .ok (.getfield 50, 3) := by decide +kernel
theorem dX7_shut_57 : decode cX7_shut 57 = .ok (.aload_n 0, 1) := by decide +kernel
theorem dX7_shut_58 : decode cX7_shut 58 = .ok (.getfield 36, 3) := by decide +kernel
theorem dX7_shut_61 : decode cX7_shut 61 = .ok (.getfield 106, 3) := by decide +kernel
theorem dX7_shut_64 : decode cX7_shut 64 = .ok (.invokevirtual 216, 3) := by decide +kernel
theorem dX7_shut_67 : decode cX7_shut 67 = .ok (.aload_n 0, 1) := by decide +kernel
theorem dX7_shut_68 : decode cX7_shut 68 = .ok (.getfield 50, 3) := by decide +kernel
theorem dX7_shut_71 : decode cX7_shut 71 = .ok (.iload 5, 2) := by decide +kernel
theorem dX7_shut_73 : decode cX7_shut 73 = .ok (.invokevirtual 230, 3) := by decide +kernel
theorem dX7_shut_76 : decode cX7_shut 76 = .ok (.aload_n 0, 1) := by decide +kernel
theorem dX7_shut_77 : decode cX7_shut 77 = .ok (.iload_n 1, 1) := by decide +kernel
theorem dX7_shut_78 : decode cX7_shut 78 = .ok (.invokevirtual 233, 3) := by decide +kernel
theorem dX7_shut_81 : decode cX7_shut 81 = .ok (.istore 6, 2) := by decide +kernel
theorem dX7_shut_83 : decode cX7_shut 83 = .ok (.iload 6, 2) := by decide +kernel
theorem dX7_shut_85 : decode cX7_shut 85 = .ok (.iload 4, 2) := by decide +kernel
theorem dX7_shut_87 : decode cX7_shut 87 = .ok (.if_icmp .le 10, 3) := by decide +kernel
theorem dX7_shut_90 : decode cX7_shut 90 = .ok (.iload 6, 2) := by decide +kernel
theorem dX7_shut_92 : decode cX7_shut 92 = .ok (.istore 4, 2) := by decide +kernel
theorem dX7_shut_94 : decode cX7_shut 94 = .ok (.iload 5, 2) := by decide +kernel
theorem dX7_shut_96 : decode cX7_shut 96 = .ok (.istore_n 3, 1) := by decide +kernel
theorem dX7_shut_97 : decode cX7_shut 97 = .ok (.iinc 5 1, 3) := by decide +kernel
theorem dX7_shut_100 : decode cX7_shut 100 = .ok (.goto (-62), 3) := by decide +kernel
theorem dX7_shut_103 : decode cX7_shut 103 = .ok (.iload_n 2, 1) := by decide +kernel
theorem dX7_shut_104 : decode cX7_shut 104 = .ok (.ifCond .ne 7, 3) := by decide +kernel
theorem dX7_shut_107 : decode cX7_shut 107 = .ok (.iload_n 3, 1) := by decide +kernel
theorem dX7_shut_108 : decode cX7_shut 108 = .ok (.goto 5, 3) := by decide +kernel
theorem dX7_shut_111 : decode cX7_shut 111 = .ok (.iload 4, 2) := by decide +kernel
theorem dX7_shut_113 : decode cX7_shut 113 = .ok (.ireturn, 1) := by decide +kernel
theorem dX7_moved_0 : decode cX7_moved 0 = .ok (.aload_n 0, 1) := by decide +kernel
theorem dX7_moved_1 : decode cX7_moved 1 = .ok (.iload_n 1, 1) := by decide +kernel
theorem dX7_moved_2 : decode cX7_moved 2 = .ok (.invokevirtual 102, 3) := by decide +kernel
theorem dX7_moved_5 : decode cX7_moved 5 = .ok (.ifCond .eq 23, 3) := by decide +kernel
theorem dX7_moved_8 : decode cX7_moved 8 = .ok (.iload_n 2, 1) := by decide +kernel
theorem dX7_moved_9 : decode cX7_moved 9 = .ok (.iconst 1, 1) := by decide +kernel
theorem dX7_moved_10 : decode cX7_moved 10 = .ok (.if_icmp .lt 18, 3) := by decide +kernel
theorem dX7_moved_13 : decode cX7_moved 13 = .ok (.iload_n 2, 1) := by decide +kernel
theorem dX7_moved_14 : decode cX7_moved 14 = .ok (.bipush 60, 2) := by decide +kernel
theorem dX7_moved_16 : decode cX7_moved 16 = .ok (.if_icmp .gt 12, 3) := by decide +kernel
theorem dX7_moved_19 : decode cX7_moved 19 = .ok (.iload_n 3, 1) := by decide +kernel
theorem dX7_moved_20 : decode cX7_moved 20 = .ok (.ifCond .lt 8, 3) := by decide +kernel
theorem dX7_moved_23 : decode cX7_moved 23 = .ok (.iload_n 3, 1) := by decide +kernel
theorem dX7_moved_24 : decode cX7_moved 24 = .ok (.iconst 1, 1) := by decide +kernel
theorem dX7_moved_25 : decode cX7_moved 25 = .ok (.if_icmp .le 5, 3) := by decide +kernel
theorem dX7_moved_28 : decode cX7_moved 28 = .ok (.iconst (-1), 1) := by decide +kernel
theorem dX7_moved_29 : decode cX7_moved 29 = .ok (.ireturn, 1) := by decide +kernel
theorem dX7_moved_30 : decode cX7_moved 30 = .ok (.aload_n 0, 1) := by decide +kernel
theorem dX7_moved_31 : decode cX7_moved 31 = .ok (.getfield 50, 3) := by decide +kernel
theorem dX7_moved_34 : decode cX7_moved 34 = .ok (.aload_n 0, 1) := by decide +kernel
theorem dX7_moved_35 : decode cX7_moved 35 = .ok (.getfield 36, 3) := by decide +kernel
theorem dX7_moved_38 : decode cX7_moved 38 = .ok (.getfield 106, 3) := by decide +kernel
theorem dX7_moved_41 : decode cX7_moved 41 = .ok (.invokevirtual 216, 3) := by decide +kernel
theorem dX7_moved_44 : decode cX7_moved 44 = .ok (.aload_n 0, 1) := by decide +kernel
theorem dX7_moved_45 : decode cX7_moved 45 = .ok (.getfield 36, 3) := by decide +kernel
theorem dX7_moved_48 : decode cX7_moved 48 = .ok (.getfield 106, 3) := by decide +kernel
theorem dX7_moved_51 : decode cX7_moved 51 = .ok (.getfield 109, 3) := by decide +kernel
theorem dX7_moved_54 : decode cX7_moved 54 = .ok (.iload_n 1, 1) := by decide +kernel
theorem dX7_moved_55 : decode cX7_moved 55 = .ok (.iaload, 1) := by decide +kernel
theorem dX7_moved_56 : decode cX7_moved 56 = .ok (.istore 4, 2) := by decide +kernel
theorem dX7_moved_58 : decode cX7_moved 58 = .ok (.aload_n 0, 1) := by decide +kernel
theorem dX7_moved_59 : decode cX7_moved 59 = .ok (.iload_n 2, 1) := by decide +kernel
theorem dX7_moved_60 : decode cX7_moved 60 = .ok (.invokevirtual 233, 3) := by decide +kernel
theorem dX7_moved_63 : decode cX7_moved 63 = .ok (.istore 5, 2) := by decide +kernel
theorem dX7_moved_65 : decode cX7_moved 65 = .ok (.iconst 0, 1) := by decide +kernel
theorem dX7_moved_66 : decode cX7_moved 66 = .ok (.istore 6, 2) := by decide +kernel
theorem dX7_moved_68 : decode cX7_moved 68 = .ok (.iload 6, 2) := by decide +kernel
theorem dX7_moved_70 : decode cX7_moved 70 = .ok (.aload_n 0, 1) := by decide +kernel
theorem dX7_moved_71 : decode cX7_moved 71 = .ok (.getfield 36, 3) := by decide +kernel
theorem dX7_moved_74 : decode cX7_moved 74 = .ok (.getfield 88, 3) := by decide +kernel
theorem dX7_moved_77 : decode cX7_moved 77 = .ok (.getfield 161, 3) := by decide +kernel
theorem dX7_moved_80 : decode cX7_moved 80 = .ok (.if_icmp .ge 79, 3) := by decide +kernel
theorem dX7_moved_83 : decode cX7_moved 83 = .ok (.iload 6, 2) := by decide +kernel
theorem dX7_moved_85 : decode cX7_moved 85 = .ok (.aload_n 0, 1) := by decide +kernel
theorem dX7_moved_86 : decode cX7_moved 86 = .ok (.getfield 36, 3) := by decide +kernel
theorem dX7_moved_89 : decode cX7_moved 89 = .ok (.getfield 106, 3) := by decide +kernel
theorem dX7_moved_92 : decode cX7_moved 92 = .ok (.getfield 109, 3) := by decide +kernel
theorem dX7_moved_95 : decode cX7_moved 95 = .ok (.iload_n 1, 1) := by decide +kernel
theorem dX7_moved_96 : decode cX7_moved 96 = .ok (.iaload, 1) := by decide +kernel
theorem dX7_moved_97 : decode cX7_moved 97 = .ok (.if_icmp .eq 56, 3) := by decide +kernel
theorem dX7_moved_100 : decode cX7_moved 100 = .ok (.aload_n 0, 1) := by decide +kernel
theorem dX7_moved_101 : decode cX7_moved 101 = .ok (.getfield 50, 3) := by decide +kernel
theorem dX7_moved_104 : decode cX7_moved 104 = .ok (.aload_n 0, 1) := by decide +kernel
theorem dX7_moved_105 : decode cX7_moved 105 = .ok (.getfield 36, 3) := by decide +kernel
theorem dX7_moved_108 : decode cX7_moved 108 = .ok (.getfield 106, 3) := by decide +kernel
theorem dX7_moved_111 : decode cX7_moved 111 = .ok (.invokevirtual 216, 3) := by decide +kernel
theorem dX7_moved_114 : decode cX7_moved 114 = .ok (.aload_n 0, 1) := by decide +kernel
theorem dX7_moved_115 : decode cX7_moved 115 = .ok (.getfield 50, 3) := by decide +kernel
theorem dX7_moved_118 : decode cX7_moved 118 = .ok (.aload_n 0, 1) := by decide +kernel
theorem dX7_moved_119 : decode cX7_moved 119 = .ok (.getfield 36, 3) := by decide +kernel
theorem dX7_moved_122 : decode cX7_moved 122 = .ok (.getfield 88, 3) := by decide +kernel
theorem dX7_moved_125 : decode cX7_moved 125 = .ok (.iload_n 1, 1) := by decide +kernel
theorem dX7_moved_126 : decode cX7_moved 126 = .ok (.iload 6, 2) := by decide +kernel
theorem dX7_moved_128 : decode cX7_moved 128 = .ok (.invokevirtual 237, 3) := by decide +kernel
theorem dX7_moved_131 : decode cX7_moved 131 = .ok (.aload_n 0, 1) := by decide +kernel
theorem dX7_moved_132 : decode cX7_moved 132 = .ok (.iload_n 2, 1) := by decide +kernel
theorem dX7_moved_133 : decode cX7_moved 133 = .ok (.invokevirtual 233, 3) := by decide +kernel
theorem dX7_moved_136 : decode cX7_moved 136 = .ok (.istore 7, 2) := by decide +kernel
theorem dX7_moved_138 : decode cX7_moved 138 = .ok (.iload 7, 2) := by decide +kernel
theorem dX7_moved_140 : decode cX7_moved 140 = .ok (.iload 5, 2) := by decide +kernel
theorem dX7_moved_142 : decode cX7_moved 142 = .ok (.if_icmp .le 11, 3) := by decide +kernel
theorem dX7_moved_145 : decode cX7_moved 145 = .ok (.iload 7, 2) := by decide +kernel
theorem dX7_moved_147 : decode cX7_moved 147 = .ok (.istore 5, 2) := by decide +kernel
theorem dX7_moved_149 : decode cX7_moved 149 = .ok (.iload 6, 2) := by decide +kernel
theorem dX7_moved_151 : decode cX7_moved 151 = .ok (.istore 4, 2) := by decide +kernel
theorem dX7_moved_153 : decode cX7_moved 153 = .ok (.iinc 6 1, 3) := by decide +kernel
theorem dX7_moved_156 : decode cX7_moved 156 = .ok (.goto (-88), 3) := by decide +kernel
theorem dX7_moved_159 : decode cX7_moved 159 = .ok (.iload_n 3, 1) := by decide +kernel
theorem dX7_moved_160 : decode cX7_moved 160 = .ok (.ifCond .ne 8, 3) := by decide +kernel
theorem dX7_moved_163 : decode cX7_moved 163 = .ok (.iload 4, 2) := by decide +kernel
theorem dX7_moved_165 : decode cX7_moved 165 = .ok (.goto 5, 3) := by decide +kernel
theorem dX7_moved_168 : decode cX7_moved 168 = .ok (.iload 5, 2) := by decide +kernel
theorem dX7_moved_170 : decode cX7_moved 170 = .ok (.ireturn, 1) := by decide +kernel
theorem dX7_tray_0 : decode cX7_tray 0 = .ok (.aload_n 0, 1) := by decide +kernel
theorem dX7_tray_1 : decode cX7_tray 1 = .ok (.invokevirtual 192, 3) := by decide +kernel
theorem dX7_tray_4 : decode cX7_tray 4 = .ok (.ifCond .eq 23, 3) := by decide +kernel
theorem dX7_tray_7 : decode cX7_tray 7 = .ok (.iload_n 1, 1) := by decide +kernel
theorem dX7_tray_8 : decode cX7_tray 8 = .ok (.iconst 1, 1) := by decide +kernel
theorem dX7_tray_9 : decode cX7_tray 9 = .ok (.if_icmp .lt 18, 3) := by decide +kernel
theorem dX7_tray_12 : decode cX7_tray 12 = .ok (.iload_n 1, 1) := by decide +kernel
theorem dX7_tray_13 : decode cX7_tray 13 = .ok (.bipush 40, 2) := by decide +kernel
theorem dX7_tray_15 : decode cX7_tray 15 = .ok (.if_icmp .gt 12, 3) := by decide +kernel
theorem dX7_tray_18 : decode cX7_tray 18 = .ok (.iload_n 2, 1) := by decide +kernel
theorem dX7_tray_19 : decode cX7_tray 19 = .ok (.ifCond .lt 8, 3) := by decide +kernel
theorem dX7_tray_22 : decode cX7_tray 22 = .ok (.iload_n 2, 1) := by decide +kernel
theorem dX7_tray_23 : decode cX7_tray 23 = .ok (.iconst 1, 1) := by decide +kernel
theorem dX7_tray_24 : decode cX7_tray 24 = .ok (.if_icmp .le 5, 3) := by decide +kernel
theorem dX7_tray_27 : decode cX7_tray 27 = .ok (.iconst (-1), 1) := by decide +kernel
theorem dX7_tray_28 : decode cX7_tray 28 = .ok (.ireturn, 1) := by decide +kernel
theorem dX7_tray_29 : decode cX7_tray 29 = .ok (.iconst 1, 1) := by decide +kernel
theorem dX7_tray_30 : decode cX7_tray 30 = .ok (.aload_n 0, 1) := by decide +kernel
theorem dX7_tray_31 : decode cX7_tray 31 = .ok (.getfield 36, 3) := by decide +kernel
theorem dX7_tray_34 : decode cX7_tray 34 = .ok (.getfield 88, 3) := by decide +kernel
theorem dX7_tray_37 : decode cX7_tray 37 = .ok (.getfield 167, 3) := by decide +kernel
theorem dX7_tray_40 : decode cX7_tray 40 = .ok (.ishl, 1) := by decide +kernel
theorem dX7_tray_41 : decode cX7_tray 41 = .ok (.istore_n 3, 1) := by decide +kernel
theorem dX7_tray_42 : decode cX7_tray 42 = .ok (.iload_n 3, 1) := by decide +kernel
theorem dX7_tray_43 : decode cX7_tray 43 = .ok (.iconst 1, 1) := by decide +kernel
theorem dX7_tray_44 : decode cX7_tray 44 = .ok (.isub, 1) := by decide +kernel
theorem dX7_tray_45 : decode cX7_tray 45 = .ok (.aload_n 0, 1) := by decide +kernel
theorem dX7_tray_46 : decode cX7_tray 46 = .ok (.getfield 36, 3) := by decide +kernel
theorem dX7_tray_49 : decode cX7_tray 49 = .ok (.getfield 106, 3) := by decide +kernel
theorem dX7_tray_52 : decode cX7_tray 52 = .ok (.getfield 210, 3) := by decide +kernel
theorem dX7_tray_55 : decode cX7_tray 55 = .ok (.iconst (-1), 1) := by decide +kernel
theorem dX7_tray_56 : decode cX7_tray 56 = .ok (.ixor, 1) := by decide +kernel
theorem dX7_tray_57 : decode cX7_tray 57 = .ok (.iand, 1) := by decide +kernel
theorem dX7_tray_58 : decode cX7_tray 58 = .ok (.istore 4, 2) := by decide +kernel
theorem dX7_tray_60 : decode cX7_tray 60 = .ok (.iconst 0, 1) := by decide +kernel
theorem dX7_tray_61 : decode cX7_tray 61 = .ok (.istore 5, 2) := by decide +kernel
theorem dX7_tray_63 : decode cX7_tray 63 = .ok (.iload 5, 2) := by decide +kernel
theorem dX7_tray_65 : decode cX7_tray 65 = .ok (.iload_n 3, 1) := by decide +kernel
theorem dX7_tray_66 : decode cX7_tray 66 = .ok (.if_icmp .ge 64, 3) := by decide +kernel
theorem dX7_tray_69 : decode cX7_tray 69 = .ok (.iload 5, 2) := by decide +kernel
theorem dX7_tray_71 : decode cX7_tray 71 = .ok (.invokestatic 241, 3) := by decide +kernel
theorem dX7_tray_74 : decode cX7_tray 74 = .ok (.iload 4, 2) := by decide +kernel
theorem dX7_tray_76 : decode cX7_tray 76 = .ok (.invokestatic 241, 3) := by decide +kernel
theorem dX7_tray_79 : decode cX7_tray 79 = .ok (.if_icmp .ge 7, 3) := by decide +kernel
theorem dX7_tray_82 : decode cX7_tray 82 = .ok (.iconst 1, 1) := by decide +kernel
theorem dX7_tray_83 : decode cX7_tray 83 = .ok (.goto 4, 3) := by decide +kernel
theorem dX7_tray_86 : decode cX7_tray 86 = .ok (.iconst 0, 1) := by decide +kernel
theorem dX7_tray_87 : decode cX7_tray 87 = .ok (.istore 6, 2) := by decide +kernel
theorem dX7_tray_89 : decode cX7_tray 89 = .ok (.iload 6, 2) := by decide +kernel
theorem dX7_tray_91 : decode cX7_tray 91 = .ok (.ifCond .eq 33, 3) := by decide +kernel
theorem dX7_tray_94 : decode cX7_tray 94 = .ok (.iload 5, 2) := by decide +kernel
theorem dX7_tray_96 : decode cX7_tray 96 = .ok (.aload_n 0, 1) := by decide +kernel
theorem dX7_tray_97 : decode cX7_tray 97 = .ok (.getfield 36, 3) := by decide +kernel
theorem dX7_tray_100 : decode cX7_tray 100 = .ok (.getfield 106, 3) := by decide +kernel
theorem dX7_tray_103 : decode cX7_tray 103 = .ok (.getfield 210, 3) := by decide +kernel
theorem dX7_tray_106 : decode cX7_tray 106 = .ok (.iand, 1) := by decide +kernel
theorem dX7_tray_107 : decode cX7_tray 107 = .ok (.ifCond .ne 17, 3) := by decide +kernel
theorem dX7_tray_110 : decode cX7_tray 110 = .ok (.aload_n 0, 1) := by decide +kernel
theorem dX7_tray_111 : decode cX7_tray 111 = .ok (.iload 5, 2) := by decide +kernel
theorem dX7_tray_113 : decode cX7_tray 113 = .ok (.iload_n 1, 1) := by decide +kernel
theorem dX7_tray_114 : decode cX7_tray 114 = .ok (.invokevirtual 246, 3) := by decide +kernel
theorem dX7_tray_117 : decode cX7_tray 117 = .ok (.ifCond .eq 7, 3) := by decide +kernel
theorem dX7_tray_120 : decode cX7_tray 120 = .ok (.iload 5, 2) := by decide +kernel
theorem dX7_tray_122 : decode cX7_tray 122 = .ok (.istore 4, 2) := by decide +kernel
theorem dX7_tray_124 : decode cX7_tray 124 = .ok (.iinc 5 1, 3) := by decide +kernel
theorem dX7_tray_127 : decode cX7_tray 127 = .ok (.goto (-64), 3) := by decide +kernel
theorem dX7_tray_130 : decode cX7_tray 130 = .ok (.iload_n 2, 1) := by decide +kernel
theorem dX7_tray_131 : decode cX7_tray 131 = .ok (.ifCond .ne 11, 3) := by decide +kernel
theorem dX7_tray_134 : decode cX7_tray 134 = .ok (.iload 4, 2) := by decide +kernel
theorem dX7_tray_136 : decode cX7_tray 136 = .ok (.invokestatic 241, 3) := by decide +kernel
theorem dX7_tray_139 : decode cX7_tray 139 = .ok (.goto 5, 3) := by decide +kernel
theorem dX7_tray_142 : decode cX7_tray 142 = .ok (.iload 4, 2) := by decide +kernel
theorem dX7_tray_144 : decode cX7_tray 144 = .ok (.ireturn, 1) := by decide +kernel
theorem dX7_rests_0 : decode cX7_rests 0 = .ok (.aload_n 0, 1) := by decide +kernel
theorem dX7_rests_1 : decode cX7_rests 1 = .ok (.iload_n 1, 1) := by decide +kernel
theorem dX7_rests_2 : decode cX7_rests 2 = .ok (.invokevirtual 125, 3) := by decide +kernel
theorem dX7_rests_5 : decode cX7_rests 5 = .ok (.ifCond .eq 16, 3) := by decide +kernel
theorem dX7_rests_8 : decode cX7_rests 8 = .ok (.aload_n 0, 1) := by decide +kernel
theorem dX7_rests_9 : decode cX7_rests 9 = .ok (.iload_n 2, 1) := by decide +kernel
theorem dX7_rests_10 : decode cX7_rests 10 = .ok (.invokevirtual 125, 3) := by decide +kernel
theorem dX7_rests_13 : decode cX7_rests 13 = .ok (.ifCond .eq 8, 3) := by decide +kernel
theorem dX7_rests_16 : decode cX7_rests 16 = .ok (.iload_n 1, 1) := by decide +kernel
theorem dX7_rests_17 : decode cX7_rests 17 = .ok (.iload_n 2, 1) := by decide +kernel
theorem dX7_rests_18 : decode cX7_rests 18 = .ok (.if_icmp .ne 5, 3) := by decide +kernel
theorem dX7_rests_21 : decode cX7_rests 21 = .ok (.iconst (-1), 1) := by decide +kernel
theorem dX7_rests_22 : decode cX7_rests 22 = .ok (.ireturn, 1) := by decide +kernel
theorem dX7_rests_23 : decode cX7_rests 23 = .ok (.iload_n 3, 1) := by decide +kernel
theorem dX7_rests_24 : decode cX7_rests 24 = .ok (.iconst 1, 1) := by decide +kernel
theorem dX7_rests_25 : decode cX7_rests 25 = .ok (.if_icmp .lt 20, 3) := by decide +kernel
theorem dX7_rests_28 : decode cX7_rests 28 = .ok (.iload_n 3, 1) := by decide +kernel
theorem dX7_rests_29 : decode cX7_rests 29 = .ok (.bipush 20, 2) := by decide +kernel
theorem dX7_rests_31 : decode cX7_rests 31 = .ok (.if_icmp .gt 14, 3) := by decide +kernel
theorem dX7_rests_34 : decode cX7_rests 34 = .ok (.iload 4, 2) := by decide +kernel
theorem dX7_rests_36 : decode cX7_rests 36 = .ok (.ifCond .lt 9, 3) := by decide +kernel
theorem dX7_rests_39 : decode cX7_rests 39 = .ok (.iload 4, 2) := by decide +kernel
theorem dX7_rests_41 : decode cX7_rests 41 = .ok (.iconst 2, 1) := by decide +kernel
theorem dX7_rests_42 : decode cX7_rests 42 = .ok (.if_icmp .le 5, 3) := by decide +kernel
theorem dX7_rests_45 : decode cX7_rests 45 = .ok (.iconst (-1), 1) := by decide +kernel
theorem dX7_rests_46 : decode cX7_rests 46 = .ok (.ireturn, 1) := by decide +kernel
theorem dX7_rests_47 : decode cX7_rests 47 = .ok (.iconst 0, 1) := by decide +kernel
theorem dX7_rests_48 : decode cX7_rests 48 = .ok (.istore 5, 2) := by decide +kernel
theorem dX7_rests_50 : decode cX7_rests 50 = .ok (.iload 5, 2) := by decide +kernel
theorem dX7_rests_52 : decode cX7_rests 52 = .ok (.bipush 25, 2) := by decide +kernel
theorem dX7_rests_54 : decode cX7_rests 54 = .ok (.if_icmp .ge 18, 3) := by decide +kernel
theorem dX7_rests_57 : decode cX7_rests 57 = .ok (.aload_n 0, 1) := by decide +kernel
theorem dX7_rests_58 : decode cX7_rests 58 = .ok (.iload_n 1, 1) := by decide +kernel
theorem dX7_rests_59 : decode cX7_rests 59 = .ok (.iload_n 2, 1) := by decide +kernel
theorem dX7_rests_60 : decode cX7_rests 60 = .ok (.iload_n 3, 1) := by decide +kernel
theorem dX7_rests_61 : decode cX7_rests 61 = .ok (.iload 5, 2) := by decide +kernel
theorem dX7_rests_63 : decode cX7_rests 63 = .ok (.invokevirtual 250, 3) := by decide +kernel
theorem dX7_rests_66 : decode cX7_rests 66 = .ok (.iinc 5 1, 3) := by decide +kernel
theorem dX7_rests_69 : decode cX7_rests 69 = .ok (.goto (-19), 3) := by decide +kernel
theorem dX7_rests_72 : decode cX7_rests 72 = .ok (.iconst (-1), 1) := by decide +kernel
theorem dX7_rests_73 : decode cX7_rests 73 = .ok (.istore 5, 2) := by decide +kernel
theorem dX7_rests_75 : decode cX7_rests 75 = .ok (.iconst 0, 1) := by decide +kernel
theorem dX7_rests_76 : decode cX7_rests 76 = .ok (.istore 6, 2) := by decide +kernel
theorem dX7_rests_78 : decode cX7_rests 78 = .ok (.iconst 0, 1) := by decide +kernel
theorem dX7_rests_79 : decode cX7_rests 79 = .ok (.istore 7, 2) := by decide +kernel
theorem dX7_rests_81 : decode cX7_rests 81 = .ok (.iload 7, 2) := by decide +kernel
theorem dX7_rests_83 : decode cX7_rests 83 = .ok (.bipush 25, 2) := by decide +kernel
theorem dX7_rests_85 : decode cX7_rests 85 = .ok (.if_icmp .ge 36, 3) := by decide +kernel
theorem dX7_rests_88 : decode cX7_rests 88 = .ok (.aload_n 0, 1) := by decide +kernel
theorem dX7_rests_89 : decode cX7_rests 89 = .ok (.iload 7, 2) := by decide +kernel
theorem dX7_rests_91 : decode cX7_rests 91 = .ok (.invokevirtual 254, 3) := by decide +kernel
theorem dX7_rests_94 : decode cX7_rests 94 = .ok (.ifCond .eq 21, 3) := by decide +kernel
theorem dX7_rests_97 : decode cX7_rests 97 = .ok (.iload 5, 2) := by decide +kernel
theorem dX7_rests_99 : decode cX7_rests 99 = .ok (.iconst (-1), 1) := by decide +kernel
theorem dX7_rests_100 : decode cX7_rests 100 = .ok (.if_icmp .ne 8, 3) := by decide +kernel
theorem dX7_rests_103 : decode cX7_rests 103 = .ok (.iload 7, 2) := by decide +kernel
theorem dX7_rests_105 : decode cX7_rests 105 = .ok (.goto 5, 3) := by decide +kernel
theorem dX7_rests_108 : decode cX7_rests 108 = .ok (.iload 5, 2) := by decide +kernel
theorem dX7_rests_110 : decode cX7_rests 110 = .ok (.istore 5, 2) := by decide +kernel
theorem dX7_rests_112 : decode cX7_rests 112 = .ok (.iinc 6 1, 3) := by decide +kernel
theorem dX7_rests_115 : decode cX7_rests 115 = .ok (.iinc 7 1, 3) := by decide +kernel
theorem dX7_rests_118 : decode cX7_rests 118 = .ok (.goto (-37), 3) := by decide +kernel
theorem dX7_rests_121 : decode cX7_rests 121 = .ok (.iload 4, 2) := by decide +kernel
theorem dX7_rests_123 : decode cX7_rests 123 = .ok (.ifCond .ne 6, 3) := by decide +kernel
theorem dX7_rests_126 : decode cX7_rests 126 = .ok (.iload 6, 2) := by decide +kernel
theorem dX7_rests_128 : decode cX7_rests 128 = .ok (.ireturn, 1) := by decide +kernel
theorem dX7_rests_129 : decode cX7_rests 129 = .ok (.iload 5, 2) := by decide +kernel
theorem dX7_rests_131 : decode cX7_rests 131 = .ok (.iconst (-1), 1) := by decide +kernel
theorem dX7_rests_132 : decode cX7_rests 132 = .ok (.if_icmp .ne 6, 3) := by decide +kernel
theorem dX7_rests_135 : decode cX7_rests 135 = .ok (.bipush (-2), 2) := by decide +kernel
theorem dX7_rests_137 : decode cX7_rests 137 = .ok (.ireturn, 1) := by decide +kernel
theorem dX7_rests_138 : decode cX7_rests 138 = .ok (.iload 4, 2) := by decide +kernel
theorem dX7_rests_140 : decode cX7_rests 140 = .ok (.iconst 1, 1) := by decide +kernel
theorem dX7_rests_141 : decode cX7_rests 141 = .ok (.if_icmp .ne 10, 3) := by decide +kernel
theorem dX7_rests_144 : decode cX7_rests 144 = .ok (.iload 5, 2) := by decide +kernel
theorem dX7_rests_146 : decode cX7_rests 146 = .ok (.iconst 5, 1) := by decide +kernel
theorem dX7_rests_147 : decode cX7_rests 147 = .ok (.idiv, 1) := by decide +kernel
theorem dX7_rests_148 : decode cX7_rests 148 = .ok (.goto 7, 3) := by decide +kernel
theorem dX7_rests_151 : decode cX7_rests 151 = .ok (.iload 5, 2) := by decide +kernel
theorem dX7_rests_153 : decode cX7_rests 153 = .ok (.iconst 5, 1) := by decide +kernel
theorem dX7_rests_154 : decode cX7_rests 154 = .ok (.irem, 1) := by decide +kernel
theorem dX7_rests_155 : decode cX7_rests 155 = .ok (.invokestatic 257, 3) := by decide +kernel
theorem dX7_rests_158 : decode cX7_rests 158 = .ok (.ireturn, 1) := by decide +kernel
theorem dX7_ring_0 : decode cX7_ring 0 = .ok (.aload_n 0, 1) := by decide +kernel
theorem dX7_ring_1 : decode cX7_ring 1 = .ok (.invokevirtual 192, 3) := by decide +kernel
theorem dX7_ring_4 : decode cX7_ring 4 = .ok (.ifCond .eq 12, 3) := by decide +kernel
theorem dX7_ring_7 : decode cX7_ring 7 = .ok (.iload_n 1, 1) := by decide +kernel
theorem dX7_ring_8 : decode cX7_ring 8 = .ok (.ifCond .lt 8, 3) := by decide +kernel
theorem dX7_ring_11 : decode cX7_ring 11 = .ok (.iload_n 1, 1) := by decide +kernel
theorem dX7_ring_12 : decode cX7_ring 12 = .ok (.iconst 1, 1) := by decide +kernel
theorem dX7_ring_13 : decode cX7_ring 13 = .ok (.if_icmp .le 5, 3) := by decide +kernel
theorem dX7_ring_16 : decode cX7_ring 16 = .ok (.iconst (-1), 1) := by decide +kernel
theorem dX7_ring_17 : decode cX7_ring 17 = .ok (.ireturn, 1) := by decide +kernel
theorem dX7_ring_18 : decode cX7_ring 18 = .ok (.aload_n 0, 1) := by decide +kernel
theorem dX7_ring_19 : decode cX7_ring 19 = .ok (.invokevirtual 199, 3) := by decide +kernel
theorem dX7_ring_22 : decode cX7_ring 22 = .ok (.astore_n 2, 1) := by decide +kernel
theorem dX7_ring_23 : decode cX7_ring 23 = .ok (.aload_n 0, 1) := by decide +kernel
theorem dX7_ring_24 : decode cX7_ring 24 = .ok (.getfield 50, 3) := by decide +kernel
theorem dX7_ring_27 : decode cX7_ring 27 = .ok (.aload_n 0, 1) := by decide +kernel
theorem dX7_ring_28 : decode cX7_ring 28 = .ok (.getfield 36, 3) := by decide +kernel
theorem dX7_ring_31 : decode cX7_ring 31 = .ok (.getfield 106, 3) := by decide +kernel
theorem dX7_ring_34 : decode cX7_ring 34 = .ok (.invokevirtual 216, 3) := by decide +kernel
theorem dX7_ring_37 : decode cX7_ring 37 = .ok (.iconst 0, 1) := by decide +kernel
theorem dX7_ring_38 : decode cX7_ring 38 = .ok (.istore_n 3, 1) := by decide +kernel
theorem dX7_ring_39 : decode cX7_ring 39 = .ok (.iload_n 3, 1) := by decide +kernel
theorem dX7_ring_40 : decode cX7_ring 40 = .ok (.bipush 60, 2) := by decide +kernel
theorem dX7_ring_42 : decode cX7_ring 42 = .ok (.if_icmp .gt 44, 3) := by decide +kernel
theorem dX7_ring_45 : decode cX7_ring 45 = .ok (.aload_n 0, 1) := by decide +kernel
theorem dX7_ring_46 : decode cX7_ring 46 = .ok (.getfield 54, 3) := by decide +kernel
theorem dX7_ring_49 : decode cX7_ring 49 = .ok (.iload_n 3, 1) := by decide +kernel
theorem dX7_ring_50 : decode cX7_ring 50 = .ok (.aload_n 0, 1) := by decide +kernel
theorem dX7_ring_51 : decode cX7_ring 51 = .ok (.getfield 50, 3) := by decide +kernel
theorem dX7_ring_54 : decode cX7_ring 54 = .ok (.aload_n 0, 1) := by decide +kernel
theorem dX7_ring_55 : decode cX7_ring 55 = .ok (.getfield 36, 3) := by decide +kernel
theorem dX7_ring_58 : decode cX7_ring 58 = .ok (.getfield 88, 3) := by decide +kernel
theorem dX7_ring_61 : decode cX7_ring 61 = .ok (.invokevirtual 260, 3) := by decide +kernel
theorem dX7_ring_64 : decode cX7_ring 64 = .ok (.iastore, 1) := by decide +kernel
theorem dX7_ring_65 : decode cX7_ring 65 = .ok (.aload_n 0, 1) := by decide +kernel
theorem dX7_ring_66 : decode cX7_ring 66 = .ok (.getfield 50, 3) := by decide +kernel
theorem dX7_ring_69 : decode cX7_ring 69 = .ok (.aload_n 0, 1) := by decide +kernel
theorem dX7_ring_70 : decode cX7_ring 70 = .ok (.getfield 36, 3) := by decide +kernel
theorem dX7_ring_73 : decode cX7_ring 73 = .ok (.getfield 88, 3) := by decide +kernel
theorem dX7_ring_76 : decode cX7_ring 76 = .ok (.aload_n 2, 1) := by decide +kernel
theorem dX7_ring_77 : decode cX7_ring 77 = .ok (.invokevirtual 203, 3) := by decide +kernel
theorem dX7_ring_80 : decode cX7_ring 80 = .ok (.iinc 3 1, 3) := by decide +kernel
theorem dX7_ring_83 : decode cX7_ring 83 = .ok (.goto (-44), 3) := by decide +kernel
theorem dX7_ring_86 : decode cX7_ring 86 = .ok (.iconst 0, 1) := by decide +kernel
theorem dX7_ring_87 : decode cX7_ring 87 = .ok (.istore_n 3, 1) := by decide +kernel
theorem dX7_ring_88 : decode cX7_ring 88 = .ok (.iload_n 3, 1) := by decide +kernel
theorem dX7_ring_89 : decode cX7_ring 89 = .ok (.bipush 60, 2) := by decide +kernel
theorem dX7_ring_91 : decode cX7_ring 91 = .ok (.if_icmp .ge 91, 3) := by decide +kernel
theorem dX7_ring_94 : decode cX7_ring 94 = .ok (.iload_n 3, 1) := by decide +kernel
theorem dX7_ring_95 : decode cX7_ring 95 = .ok (.iconst 1, 1) := by decide +kernel
theorem dX7_ring_96 : decode cX7_ring 96 = .ok (.iadd, 1) := by decide +kernel
theorem dX7_ring_97 : decode cX7_ring 97 = .ok (.istore 4, 2) := by decide +kernel
theorem dX7_ring_99 : decode cX7_ring 99 = .ok (.iload 4, 2) := by decide +kernel
theorem dX7_ring_101 : decode cX7_ring 101 = .ok (.bipush 60, 2) := by decide +kernel
theorem dX7_ring_103 : decode cX7_ring 103 = .ok (.if_icmp .gt 73, 3) := by decide +kernel
theorem dX7_ring_106 : decode cX7_ring 106 = .ok (.aload_n 0, 1) := by decide +kernel
theorem dX7_ring_107 : decode cX7_ring 107 = .ok (.getfield 54, 3) := by decide +kernel
theorem dX7_ring_110 : decode cX7_ring 110 = .ok (.iload_n 3, 1) := by decide +kernel
theorem dX7_ring_111 : decode cX7_ring 111 = .ok (.iaload, 1) := by decide +kernel
theorem dX7_ring_112 : decode cX7_ring 112 = .ok (.aload_n 0, 1) := by decide +kernel
theorem dX7_ring_113 : decode cX7_ring 113 = .ok (.getfield 54, 3) := by decide +kernel
theorem dX7_ring_116 : decode cX7_ring 116 = .ok (.iload 4, 2) := by decide +kernel
theorem dX7_ring_118 : decode cX7_ring 118 = .ok (.iaload, 1) := by decide +kernel
theorem dX7_ring_119 : decode cX7_ring 119 = .ok (.if_icmp .ne 51, 3) := by decide +kernel
theorem dX7_ring_122 : decode cX7_ring 122 = .ok (.aload_n 0, 1) := by decide +kernel
theorem dX7_ring_123 : decode cX7_ring 123 = .ok (.getfield 36, 3) := by decide +kernel
theorem dX7_ring_126 : decode cX7_ring 126 = .ok (.getfield 106, 3) := by decide +kernel
theorem dX7_ring_129 : decode cX7_ring 129 = .ok (.aload_n 0, 1) := by decide +kernel
theorem dX7_ring_130 : decode cX7_ring 130 = .ok (.getfield 36, 3) := by decide +kernel
theorem dX7_ring_133 : decode cX7_ring 133 = .ok (.getfield 88, 3) := by decide +kernel
theorem dX7_ring_136 : decode cX7_ring 136 = .ok (.iload 4, 2) := by decide +kernel
theorem dX7_ring_138 : decode cX7_ring 138 = .ok (.iload_n 3, 1) := by decide +kernel
theorem dX7_ring_139 : decode cX7_ring 139 = .ok (.isub, 1) := by decide +kernel
theorem dX7_ring_140 : decode cX7_ring 140 = .ok (.invokevirtual 263, 3) := by decide +kernel
theorem dX7_ring_143 : decode cX7_ring 143 = .ok (.ifCond .eq 27, 3) := by decide +kernel
theorem dX7_ring_146 : decode cX7_ring 146 = .ok (.iload_n 1, 1) := by decide +kernel
theorem dX7_ring_147 : decode cX7_ring 147 = .ok (.ifCond .ne 18, 3) := by decide +kernel
theorem dX7_ring_150 : decode cX7_ring 150 = .ok (.aload_n 0, 1) := by decide +kernel
theorem dX7_ring_151 : decode cX7_ring 151 = .ok (.getfield 36, 3) := by decide +kernel
theorem dX7_ring_154 : decode cX7_ring 154 = .ok (.getfield 106, 3) := by decide +kernel
theorem dX7_ring_157 : decode cX7_ring 157 = .ok (.getfield 170, 3) := by decide +kernel
theorem dX7_ring_160 : decode cX7_ring 160 = .ok (.iload_n 3, 1) := by decide +kernel
theorem dX7_ring_161 : decode cX7_ring 161 = .ok (.iadd, 1) := by decide +kernel
theorem dX7_ring_162 : decode cX7_ring 162 = .ok (.goto 7, 3) := by decide +kernel
theorem dX7_ring_165 : decode cX7_ring 165 = .ok (.iload 4, 2) := by decide +kernel
theorem dX7_ring_167 : decode cX7_ring 167 = .ok (.iload_n 3, 1) := by decide +kernel
theorem dX7_ring_168 : decode cX7_ring 168 = .ok (.isub, 1) := by decide +kernel
theorem dX7_ring_169 : decode cX7_ring 169 = .ok (.ireturn, 1) := by decide +kernel
theorem dX7_ring_170 : decode cX7_ring 170 = .ok (.iinc 4 1, 3) := by decide +kernel
theorem dX7_ring_173 : decode cX7_ring 173 = .ok (.goto (-74), 3) := by decide +kernel
theorem dX7_ring_176 : decode cX7_ring 176 = .ok (.iinc 3 1, 3) := by decide +kernel
theorem dX7_ring_179 : decode cX7_ring 179 = .ok (.goto (-91), 3) := by decide +kernel
theorem dX7_ring_182 : decode cX7_ring 182 = .ok (.bipush (-2), 2) := by decide +kernel
theorem dX7_ring_184 : decode cX7_ring 184 = .ok (.ireturn, 1) := by decide +kernel
theorem dX7_pence_0 : decode cX7_pence 0 = .ok (.iload_n 1, 1) := by decide +kernel
theorem dX7_pence_1 : decode cX7_pence 1 = .ok (.ifCond .lt 18, 3) := by decide +kernel
theorem dX7_pence_4 : decode cX7_pence 4 = .ok (.iload_n 1, 1) := by decide +kernel
theorem dX7_pence_5 : decode cX7_pence 5 = .ok (.sipush 9999, 3) := by decide +kernel
theorem dX7_pence_8 : decode cX7_pence 8 = .ok (.if_icmp .gt 11, 3) := by decide +kernel
theorem dX7_pence_11 : decode cX7_pence 11 = .ok (.aload_n 0, 1) := by decide +kernel
theorem dX7_pence_12 : decode cX7_pence 12 = .ok (.iload_n 2, 1) := by decide +kernel
theorem dX7_pence_13 : decode cX7_pence 13 = .ok (.invokevirtual 102, 3) := by decide +kernel
theorem dX7_pence_16 : decode cX7_pence 16 = .ok (.ifCond .ne 5, 3) := by decide +kernel
theorem dX7_pence_19 : decode cX7_pence 19 = .ok (.iconst (-1), 1) := by decide +kernel
theorem dX7_pence_20 : decode cX7_pence 20 = .ok (.ireturn, 1) := by decide +kernel
theorem dX7_pence_21 : decode cX7_pence 21 = .ok (.lconst 0, 1) := by decide +kernel
theorem dX7_pence_22 : decode cX7_pence 22 = .ok (.lstore_n 3, 1) := by decide +kernel
theorem dX7_pence_23 : decode cX7_pence 23 = .ok (.iconst 0, 1) := by decide +kernel
theorem dX7_pence_24 : decode cX7_pence 24 = .ok (.istore 5, 2) := by decide +kernel
theorem dX7_pence_26 : decode cX7_pence 26 = .ok (.iload 5, 2) := by decide +kernel
theorem dX7_pence_28 : decode cX7_pence 28 = .ok (.aload_n 0, 1) := by decide +kernel
theorem dX7_pence_29 : decode cX7_pence 29 = .ok (.getfield 36, 3) := by decide +kernel
theorem dX7_pence_32 : decode cX7_pence 32 = .ok (.getfield 88, 3) := by decide +kernel
theorem dX7_pence_35 : decode cX7_pence 35 = .ok (.getfield 91, 3) := by decide +kernel
theorem dX7_pence_38 : decode cX7_pence 38 = .ok (.if_icmp .ge 18, 3) := by decide +kernel
theorem dX7_pence_41 : decode cX7_pence 41 = .ok (.lload_n 3, 1) := by decide +kernel
theorem dX7_pence_42 : decode cX7_pence 42 = .ok (.aload_n 0, 1) := by decide +kernel
theorem dX7_pence_43 : decode cX7_pence 43 = .ok (.iload 5, 2) := by decide +kernel
theorem dX7_pence_45 : decode cX7_pence 45 = .ok (.invokevirtual 267, 3) := by decide +kernel
theorem dX7_pence_48 : decode cX7_pence 48 = .ok (.ladd, 1) := by decide +kernel
theorem dX7_pence_49 : decode cX7_pence 49 = .ok (.lstore_n 3, 1) := by decide +kernel
theorem dX7_pence_50 : decode cX7_pence 50 = .ok (.iinc 5 1, 3) := by decide +kernel
theorem dX7_pence_53 : decode cX7_pence 53 = .ok (.goto (-27), 3) := by decide +kernel
theorem dX7_pence_56 : decode cX7_pence 56 = .ok (.lload_n 3, 1) := by decide +kernel
theorem dX7_pence_57 : decode cX7_pence 57 = .ok (.lconst 0, 1) := by decide +kernel
theorem dX7_pence_58 : decode cX7_pence 58 = .ok (.lcmp, 1) := by decide +kernel
theorem dX7_pence_59 : decode cX7_pence 59 = .ok (.ifCond .gt 5, 3) := by decide +kernel
theorem dX7_pence_62 : decode cX7_pence 62 = .ok (.iconst 0, 1) := by decide +kernel
theorem dX7_pence_63 : decode cX7_pence 63 = .ok (.ireturn, 1) := by decide +kernel
theorem dX7_pence_64 : decode cX7_pence 64 = .ok (.iload_n 1, 1) := by decide +kernel
theorem dX7_pence_65 : decode cX7_pence 65 = .ok (.i2l, 1) := by decide +kernel
theorem dX7_pence_66 : decode cX7_pence 66 = .ok (.lstore 5, 2) := by decide +kernel
theorem dX7_pence_68 : decode cX7_pence 68 = .ok (.iload_n 1, 1) := by decide +kernel
theorem dX7_pence_69 : decode cX7_pence 69 = .ok (.i2l, 1) := by decide +kernel
theorem dX7_pence_70 : decode cX7_pence 70 = .ok (.aload_n 0, 1) := by decide +kernel
theorem dX7_pence_71 : decode cX7_pence 71 = .ok (.iload_n 2, 1) := by decide +kernel
theorem dX7_pence_72 : decode cX7_pence 72 = .ok (.invokevirtual 267, 3) := by decide +kernel
theorem dX7_pence_75 : decode cX7_pence 75 = .ok (.lmul, 1) := by decide +kernel
theorem dX7_pence_76 : decode cX7_pence 76 = .ok (.lload_n 3, 1) := by decide +kernel
theorem dX7_pence_77 : decode cX7_pence 77 = .ok (.lrem, 1) := by decide +kernel
theorem dX7_pence_78 : decode cX7_pence 78 = .ok (.lstore 7, 2) := by decide +kernel
theorem dX7_pence_80 : decode cX7_pence 80 = .ok (.iconst 0, 1) := by decide +kernel
theorem dX7_pence_81 : decode cX7_pence 81 = .ok (.istore 9, 2) := by decide +kernel
theorem dX7_pence_83 : decode cX7_pence 83 = .ok (.iconst 0, 1) := by decide +kernel
theorem dX7_pence_84 : decode cX7_pence 84 = .ok (.istore 10, 2) := by decide +kernel
theorem dX7_pence_86 : decode cX7_pence 86 = .ok (.iload 10, 2) := by decide +kernel
theorem dX7_pence_88 : decode cX7_pence 88 = .ok (.aload_n 0, 1) := by decide +kernel
theorem dX7_pence_89 : decode cX7_pence 89 = .ok (.getfield 36, 3) := by decide +kernel
theorem dX7_pence_92 : decode cX7_pence 92 = .ok (.getfield 88, 3) := by decide +kernel
theorem dX7_pence_95 : decode cX7_pence 95 = .ok (.getfield 91, 3) := by decide +kernel
theorem dX7_pence_98 : decode cX7_pence 98 = .ok (.if_icmp .ge 63, 3) := by decide +kernel
theorem dX7_pence_101 : decode cX7_pence 101 = .ok (.iload_n 1, 1) := by decide +kernel
theorem dX7_pence_102 : decode cX7_pence 102 = .ok (.i2l, 1) := by decide +kernel
theorem dX7_pence_103 : decode cX7_pence 103 = .ok (.aload_n 0, 1) := by decide +kernel
theorem dX7_pence_104 : decode cX7_pence 104 = .ok (.iload 10, 2) := by decide +kernel
theorem dX7_pence_106 : decode cX7_pence 106 = .ok (.invokevirtual 267, 3) := by decide +kernel
theorem dX7_pence_109 : decode cX7_pence 109 = .ok (.lmul, 1) := by decide +kernel
theorem dX7_pence_110 : decode cX7_pence 110 = .ok (.lload_n 3, 1) := by decide +kernel
theorem dX7_pence_111 : decode cX7_pence 111 = .ok (.lrem, 1) := by decide +kernel
theorem dX7_pence_112 : decode cX7_pence 112 = .ok (.lstore 11, 2) := by decide +kernel
theorem dX7_pence_114 : decode cX7_pence 114 = .ok (.lload 5, 2) := by decide +kernel
theorem dX7_pence_116 : decode cX7_pence 116 = .ok (.iload_n 1, 1) := by decide +kernel
theorem dX7_pence_117 : decode cX7_pence 117 = .ok (.i2l, 1) := by decide +kernel
theorem dX7_pence_118 : decode cX7_pence 118 = .ok (.aload_n 0, 1) := by decide +kernel
theorem dX7_pence_119 : decode cX7_pence 119 = .ok (.iload 10, 2) := by decide +kernel
theorem dX7_pence_121 : decode cX7_pence 121 = .ok (.invokevirtual 267, 3) := by decide +kernel
theorem dX7_pence_124 : decode cX7_pence 124 = .ok (.lmul, 1) := by decide +kernel
theorem dX7_pence_125 : decode cX7_pence 125 = .ok (.lload_n 3, 1) := by decide +kernel
theorem dX7_pence_126 : decode cX7_pence 126 = .ok (.ldiv, 1) := by decide +kernel
theorem dX7_pence_127 : decode cX7_pence 127 = .ok (.lsub, 1) := by decide +kernel
theorem dX7_pence_128 : decode cX7_pence 128 = .ok (.lstore 5, 2) := by decide +kernel
theorem dX7_pence_130 : decode cX7_pence 130 = .ok (.lload 11, 2) := by decide +kernel
theorem dX7_pence_132 : decode cX7_pence 132 = .ok (.lload 7, 2) := by decide +kernel
theorem dX7_pence_134 : decode cX7_pence 134 = .ok (.lcmp, 1) := by decide +kernel
theorem dX7_pence_135 : decode cX7_pence 135 = .ok (.ifCond .gt 17, 3) := by decide +kernel
theorem dX7_pence_138 : decode cX7_pence 138 = .ok (.lload 11, 2) := by decide +kernel
theorem dX7_pence_140 : decode cX7_pence 140 = .ok (.lload 7, 2) := by decide +kernel
theorem dX7_pence_142 : decode cX7_pence 142 = .ok (.lcmp, 1) := by decide +kernel
theorem dX7_pence_143 : decode cX7_pence 143 = .ok (.ifCond .ne 12, 3) := by decide +kernel
theorem dX7_pence_146 : decode cX7_pence 146 = .ok (.iload 10, 2) := by decide +kernel
theorem dX7_pence_148 : decode cX7_pence 148 = .ok (.iload_n 2, 1) := by decide +kernel
theorem dX7_pence_149 : decode cX7_pence 149 = .ok (.if_icmp .ge 6, 3) := by decide +kernel
theorem dX7_pence_152 : decode cX7_pence 152 = .ok (.iinc 9 1, 3) := by decide +kernel
theorem dX7_pence_155 : decode cX7_pence 155 = .ok (.iinc 10 1, 3) := by decide +kernel
theorem dX7_pence_158 : decode cX7_pence 158 = .ok (.goto (-72), 3) := by decide +kernel
theorem dX7_pence_161 : decode cX7_pence 161 = .ok (.iload_n 1, 1) := by decide +kernel
theorem dX7_pence_162 : decode cX7_pence 162 = .ok (.i2l, 1) := by decide +kernel
theorem dX7_pence_163 : decode cX7_pence 163 = .ok (.aload_n 0, 1) := by decide +kernel
theorem dX7_pence_164 : decode cX7_pence 164 = .ok (.iload_n 2, 1) := by decide +kernel
theorem dX7_pence_165 : decode cX7_pence 165 = .ok (.invokevirtual 267, 3) := by decide +kernel
theorem dX7_pence_168 : decode cX7_pence 168 = .ok (.lmul, 1) := by decide +kernel
theorem dX7_pence_169 : decode cX7_pence 169 = .ok (.lload_n 3, 1) := by decide +kernel
theorem dX7_pence_170 : decode cX7_pence 170 = .ok (.ldiv, 1) := by decide +kernel
theorem dX7_pence_171 : decode cX7_pence 171 = .ok (.l2i, 1) := by decide +kernel
theorem dX7_pence_172 : decode cX7_pence 172 = .ok (.istore 10, 2) := by decide +kernel
theorem dX7_pence_174 : decode cX7_pence 174 = .ok (.iload 9, 2) := by decide +kernel
theorem dX7_pence_176 : decode cX7_pence 176 = .ok (.i2l, 1) := by decide +kernel
theorem dX7_pence_177 : decode cX7_pence 177 = .ok (.lload 5, 2) := by decide +kernel
theorem dX7_pence_179 : decode cX7_pence 179 = .ok (.lcmp, 1) := by decide +kernel
theorem dX7_pence_180 : decode cX7_pence 180 = .ok (.ifCond .ge 10, 3) := by decide +kernel
theorem dX7_pence_183 : decode cX7_pence 183 = .ok (.iload 10, 2) := by decide +kernel
theorem dX7_pence_185 : decode cX7_pence 185 = .ok (.iconst 1, 1) := by decide +kernel
theorem dX7_pence_186 : decode cX7_pence 186 = .ok (.iadd, 1) := by decide +kernel
theorem dX7_pence_187 : decode cX7_pence 187 = .ok (.goto 5, 3) := by decide +kernel
theorem dX7_pence_190 : decode cX7_pence 190 = .ok (.iload 10, 2) := by decide +kernel
theorem dX7_pence_192 : decode cX7_pence 192 = .ok (.ireturn, 1) := by decide +kernel
theorem dX7_note_0 : decode cX7_note 0 = .ok (.iload_n 1, 1) := by decide +kernel
theorem dX7_note_1 : decode cX7_note 1 = .ok (.iconst (-1), 1) := by decide +kernel
theorem dX7_note_2 : decode cX7_note 2 = .ok (.if_icmp .ne 13, 3) := by decide +kernel
theorem dX7_note_5 : decode cX7_note 5 = .ok (.aload_n 0, 1) := by decide +kernel
theorem dX7_note_6 : decode cX7_note 6 = .ok (.getfield 36, 3) := by decide +kernel
theorem dX7_note_9 : decode cX7_note 9 = .ok (.iconst 0, 1) := by decide +kernel
theorem dX7_note_10 : decode cX7_note 10 = .ok (.putfield 183, 3) := by decide +kernel
theorem dX7_note_13 : decode cX7_note 13 = .ok (.iconst 0, 1) := by decide +kernel
theorem dX7_note_14 : decode cX7_note 14 = .ok (.ireturn, 1) := by decide +kernel
theorem dX7_note_15 : decode cX7_note 15 = .ok (.iload_n 1, 1) := by decide +kernel
theorem dX7_note_16 : decode cX7_note 16 = .ok (.ifCond .lt 30, 3) := by decide +kernel
theorem dX7_note_19 : decode cX7_note 19 = .ok (.iload_n 1, 1) := by decide +kernel
theorem dX7_note_20 : decode cX7_note 20 = .ok (.bipush 60, 2) := by decide +kernel
theorem dX7_note_22 : decode cX7_note 22 = .ok (.if_icmp .gt 24, 3) := by decide +kernel
theorem dX7_note_25 : decode cX7_note 25 = .ok (.aload_n 0, 1) := by decide +kernel
theorem dX7_note_26 : decode cX7_note 26 = .ok (.iload_n 2, 1) := by decide +kernel
theorem dX7_note_27 : decode cX7_note 27 = .ok (.invokevirtual 125, 3) := by decide +kernel
theorem dX7_note_30 : decode cX7_note 30 = .ok (.ifCond .eq 16, 3) := by decide +kernel
theorem dX7_note_33 : decode cX7_note 33 = .ok (.iload_n 3, 1) := by decide +kernel
theorem dX7_note_34 : decode cX7_note 34 = .ok (.iconst (-1), 1) := by decide +kernel
theorem dX7_note_35 : decode cX7_note 35 = .ok (.if_icmp .eq 14, 3) := by decide +kernel
theorem dX7_note_38 : decode cX7_note 38 = .ok (.aload_n 0, 1) := by decide +kernel
theorem dX7_note_39 : decode cX7_note 39 = .ok (.iload_n 3, 1) := by decide +kernel
theorem dX7_note_40 : decode cX7_note 40 = .ok (.invokevirtual 102, 3) := by decide +kernel
theorem dX7_note_43 : decode cX7_note 43 = .ok (.ifCond .ne 6, 3) := by decide +kernel
theorem dX7_note_46 : decode cX7_note 46 = .ok (.bipush (-2), 2) := by decide +kernel
theorem dX7_note_48 : decode cX7_note 48 = .ok (.ireturn, 1) := by decide +kernel
theorem dX7_note_49 : decode cX7_note 49 = .ok (.aload_n 0, 1) := by decide +kernel
theorem dX7_note_50 : decode cX7_note 50 = .ok (.getfield 36, 3) := by decide +kernel
theorem dX7_note_53 : decode cX7_note 53 = .ok (.iload_n 1, 1) := by decide +kernel
theorem dX7_note_54 : decode cX7_note 54 = .ok (.iload_n 2, 1) := by decide +kernel
theorem dX7_note_55 : decode cX7_note 55 = .ok (.iload_n 3, 1) := by decide +kernel
theorem dX7_note_56 : decode cX7_note 56 = .ok (.invokevirtual 271, 3) := by decide +kernel
theorem dX7_note_59 : decode cX7_note 59 = .ok (.ifCond .eq 13, 3) := by decide +kernel
theorem dX7_note_62 : decode cX7_note 62 = .ok (.aload_n 0, 1) := by decide +kernel
theorem dX7_note_63 : decode cX7_note 63 = .ok (.getfield 36, 3) := by decide +kernel
theorem dX7_note_66 : decode cX7_note 66 = .ok (.getfield 183, 3) := by decide +kernel
theorem dX7_note_69 : decode cX7_note 69 = .ok (.goto 5, 3) := by decide +kernel
theorem dX7_note_72 : decode cX7_note 72 = .ok (.bipush (-2), 2) := by decide +kernel
theorem dX7_note_74 : decode cX7_note 74 = .ok (.ireturn, 1) := by decide +kernel
theorem dX7_knowing_0 : decode cX7_knowing 0 = .ok (.aload_n 0, 1) := by decide +kernel
theorem dX7_knowing_1 : decode cX7_knowing 1 = .ok (.iload_n 1, 1) := by decide +kernel
theorem dX7_knowing_2 : decode cX7_knowing 2 = .ok (.invokevirtual 125, 3) := by decide +kernel
theorem dX7_knowing_5 : decode cX7_knowing 5 = .ok (.ifCond .eq 12, 3) := by decide +kernel
theorem dX7_knowing_8 : decode cX7_knowing 8 = .ok (.iload_n 2, 1) := by decide +kernel
theorem dX7_knowing_9 : decode cX7_knowing 9 = .ok (.ifCond .lt 8, 3) := by decide +kernel
theorem dX7_knowing_12 : decode cX7_knowing 12 = .ok (.iload_n 2, 1) := by decide +kernel
theorem dX7_knowing_13 : decode cX7_knowing 13 = .ok (.iconst 1, 1) := by decide +kernel
theorem dX7_knowing_14 : decode cX7_knowing 14 = .ok (.if_icmp .le 5, 3) := by decide +kernel
theorem dX7_knowing_17 : decode cX7_knowing 17 = .ok (.iconst (-1), 1) := by decide +kernel
theorem dX7_knowing_18 : decode cX7_knowing 18 = .ok (.ireturn, 1) := by decide +kernel
theorem dX7_knowing_19 : decode cX7_knowing 19 = .ok (.bipush (-2), 2) := by decide +kernel
theorem dX7_knowing_21 : decode cX7_knowing 21 = .ok (.istore_n 3, 1) := by decide +kernel
theorem dX7_knowing_22 : decode cX7_knowing 22 = .ok (.iconst 0, 1) := by decide +kernel
theorem dX7_knowing_23 : decode cX7_knowing 23 = .ok (.istore 4, 2) := by decide +kernel
theorem dX7_knowing_25 : decode cX7_knowing 25 = .ok (.iconst 1, 1) := by decide +kernel
theorem dX7_knowing_26 : decode cX7_knowing 26 = .ok (.istore 5, 2) := by decide +kernel
theorem dX7_knowing_28 : decode cX7_knowing 28 = .ok (.iload 5, 2) := by decide +kernel
theorem dX7_knowing_30 : decode cX7_knowing 30 = .ok (.bipush 9, 2) := by decide +kernel
theorem dX7_knowing_32 : decode cX7_knowing 32 = .ok (.if_icmp .gt 60, 3) := by decide +kernel
theorem dX7_knowing_35 : decode cX7_knowing 35 = .ok (.aload_n 0, 1) := by decide +kernel
theorem dX7_knowing_36 : decode cX7_knowing 36 = .ok (.getfield 50, 3) := by decide +kernel
theorem dX7_knowing_39 : decode cX7_knowing 39 = .ok (.aload_n 0, 1) := by decide +kernel
theorem dX7_knowing_40 : decode cX7_knowing 40 = .ok (.getfield 36, 3) := by decide +kernel
theorem dX7_knowing_43 : decode cX7_knowing 43 = .ok (.getfield 88, 3) := by decide +kernel
theorem dX7_knowing_46 : decode cX7_knowing 46 = .ok (.invokevirtual 275, 3) := by decide +kernel
theorem dX7_knowing_49 : decode cX7_knowing 49 = .ok (.aload_n 0, 1) := by decide +kernel
theorem dX7_knowing_50 : decode cX7_knowing 50 = .ok (.getfield 50, 3) := by decide +kernel
theorem dX7_knowing_53 : decode cX7_knowing 53 = .ok (.getfield 134, 3) := by decide +kernel
theorem dX7_knowing_56 : decode cX7_knowing 56 = .ok (.iload_n 1, 1) := by decide +kernel
theorem dX7_knowing_57 : decode cX7_knowing 57 = .ok (.iload 5, 2) := by decide +kernel
theorem dX7_knowing_59 : decode cX7_knowing 59 = .ok (.iastore, 1) := by decide +kernel
theorem dX7_knowing_60 : decode cX7_knowing 60 = .ok (.aload_n 0, 1) := by decide +kernel
theorem dX7_knowing_61 : decode cX7_knowing 61 = .ok (.aload_n 0, 1) := by decide +kernel
theorem dX7_knowing_62 : decode cX7_knowing 62 = .ok (.invokevirtual 199, 3) := by decide +kernel
theorem dX7_knowing_65 : decode cX7_knowing 65 = .ok (.invokevirtual 278, 3) := by decide +kernel
theorem dX7_knowing_68 : decode cX7_knowing 68 = .ok (.ifCond .eq 18, 3) := by decide +kernel
theorem dX7_knowing_71 : decode cX7_knowing 71 = .ok (.iload 4, 2) := by decide +kernel
theorem dX7_knowing_73 : decode cX7_knowing 73 = .ok (.ifCond .ne 8, 3) := by decide +kernel
theorem dX7_knowing_76 : decode cX7_knowing 76 = .ok (.iload 5, 2) := by decide +kernel
theorem dX7_knowing_78 : decode cX7_knowing 78 = .ok (.goto 4, 3) := by decide +kernel
theorem dX7_knowing_81 : decode cX7_knowing 81 = .ok (.iload_n 3, 1) := by decide +kernel
theorem dX7_knowing_82 : decode cX7_knowing 82 = .ok (.istore_n 3, 1) := by decide +kernel
theorem dX7_knowing_83 : decode cX7_knowing 83 = .ok (.iinc 4 1, 3) := by decide +kernel
theorem dX7_knowing_86 : decode cX7_knowing 86 = .ok (.iinc 5 1, 3) := by decide +kernel
theorem dX7_knowing_89 : decode cX7_knowing 89 = .ok (.goto (-61), 3) := by decide +kernel
theorem dX7_knowing_92 : decode cX7_knowing 92 = .ok (.iload_n 2, 1) := by decide +kernel
theorem dX7_knowing_93 : decode cX7_knowing 93 = .ok (.ifCond .ne 8, 3) := by decide +kernel
theorem dX7_knowing_96 : decode cX7_knowing 96 = .ok (.iload 4, 2) := by decide +kernel
theorem dX7_knowing_98 : decode cX7_knowing 98 = .ok (.goto 4, 3) := by decide +kernel
theorem dX7_knowing_101 : decode cX7_knowing 101 = .ok (.iload_n 3, 1) := by decide +kernel
theorem dX7_knowing_102 : decode cX7_knowing 102 = .ok (.ireturn, 1) := by decide +kernel
theorem dX7_ruled_0 : decode cX7_ruled 0 = .ok (.aload_n 0, 1) := by decide +kernel
theorem dX7_ruled_1 : decode cX7_ruled 1 = .ok (.invokevirtual 192, 3) := by decide +kernel
theorem dX7_ruled_4 : decode cX7_ruled 4 = .ok (.ifCond .eq 12, 3) := by decide +kernel
theorem dX7_ruled_7 : decode cX7_ruled 7 = .ok (.iload_n 1, 1) := by decide +kernel
theorem dX7_ruled_8 : decode cX7_ruled 8 = .ok (.ifCond .lt 8, 3) := by decide +kernel
theorem dX7_ruled_11 : decode cX7_ruled 11 = .ok (.iload_n 1, 1) := by decide +kernel
theorem dX7_ruled_12 : decode cX7_ruled 12 = .ok (.iconst 1, 1) := by decide +kernel
theorem dX7_ruled_13 : decode cX7_ruled 13 = .ok (.if_icmp .le 6, 3) := by decide +kernel
theorem dX7_ruled_16 : decode cX7_ruled 16 = .ok (.bipush (-3), 2) := by decide +kernel
theorem dX7_ruled_18 : decode cX7_ruled 18 = .ok (.ireturn, 1) := by decide +kernel
theorem dX7_ruled_19 : decode cX7_ruled 19 = .ok (.aload_n 0, 1) := by decide +kernel
theorem dX7_ruled_20 : decode cX7_ruled 20 = .ok (.invokevirtual 282, 3) := by decide +kernel
theorem dX7_ruled_23 : decode cX7_ruled 23 = .ok (.istore_n 2, 1) := by decide +kernel
theorem dX7_ruled_24 : decode cX7_ruled 24 = .ok (.iload_n 1, 1) := by decide +kernel
theorem dX7_ruled_25 : decode cX7_ruled 25 = .ok (.ifCond .ne 8, 3) := by decide +kernel
theorem dX7_ruled_28 : decode cX7_ruled 28 = .ok (.iload_n 2, 1) := by decide +kernel
theorem dX7_ruled_29 : decode cX7_ruled 29 = .ok (.invokestatic 241, 3) := by decide +kernel
theorem dX7_ruled_32 : decode cX7_ruled 32 = .ok (.ireturn, 1) := by decide +kernel
theorem dX7_ruled_33 : decode cX7_ruled 33 = .ok (.iconst (-1), 1) := by decide +kernel
theorem dX7_ruled_34 : decode cX7_ruled 34 = .ok (.istore_n 3, 1) := by decide +kernel
theorem dX7_ruled_35 : decode cX7_ruled 35 = .ok (.iload_n 3, 1) := by decide +kernel
theorem dX7_ruled_36 : decode cX7_ruled 36 = .ok (.aload_n 0, 1) := by decide +kernel
theorem dX7_ruled_37 : decode cX7_ruled 37 = .ok (.getfield 22, 3) := by decide +kernel
theorem dX7_ruled_40 : decode cX7_ruled 40 = .ok (.if_icmp .ge 21, 3) := by decide +kernel
theorem dX7_ruled_43 : decode cX7_ruled 43 = .ok (.iload_n 2, 1) := by decide +kernel
theorem dX7_ruled_44 : decode cX7_ruled 44 = .ok (.iload_n 3, 1) := by decide +kernel
theorem dX7_ruled_45 : decode cX7_ruled 45 = .ok (.iconst 1, 1) := by decide +kernel
theorem dX7_ruled_46 : decode cX7_ruled 46 = .ok (.iadd, 1) := by decide +kernel
theorem dX7_ruled_47 : decode cX7_ruled 47 = .ok (.ishr, 1) := by decide +kernel
theorem dX7_ruled_48 : decode cX7_ruled 48 = .ok (.iconst 1, 1) := by decide +kernel
theorem dX7_ruled_49 : decode cX7_ruled 49 = .ok (.iand, 1) := by decide +kernel
theorem dX7_ruled_50 : decode cX7_ruled 50 = .ok (.ifCond .eq 5, 3) := by decide +kernel
theorem dX7_ruled_53 : decode cX7_ruled 53 = .ok (.iload_n 3, 1) := by decide +kernel
theorem dX7_ruled_54 : decode cX7_ruled 54 = .ok (.ireturn, 1) := by decide +kernel
theorem dX7_ruled_55 : decode cX7_ruled 55 = .ok (.iinc 3 1, 3) := by decide +kernel
theorem dX7_ruled_58 : decode cX7_ruled 58 = .ok (.goto (-23), 3) := by decide +kernel
theorem dX7_ruled_61 : decode cX7_ruled 61 = .ok (.bipush (-2), 2) := by decide +kernel
theorem dX7_ruled_63 : decode cX7_ruled 63 = .ok (.ireturn, 1) := by decide +kernel
theorem dX7_look_0 : decode cX7_look 0 = .ok (.aload_n 0, 1) := by decide +kernel
theorem dX7_look_1 : decode cX7_look 1 = .ok (.invokevirtual 192, 3) := by decide +kernel
theorem dX7_look_4 : decode cX7_look 4 = .ok (.ifCond .eq 22, 3) := by decide +kernel
theorem dX7_look_7 : decode cX7_look 7 = .ok (.iload_n 1, 1) := by decide +kernel
theorem dX7_look_8 : decode cX7_look 8 = .ok (.ifCond .lt 18, 3) := by decide +kernel
theorem dX7_look_11 : decode cX7_look 11 = .ok (.iload_n 1, 1) := by decide +kernel
theorem dX7_look_12 : decode cX7_look 12 = .ok (.bipush 60, 2) := by decide +kernel
theorem dX7_look_14 : decode cX7_look 14 = .ok (.if_icmp .gt 12, 3) := by decide +kernel
theorem dX7_look_17 : decode cX7_look 17 = .ok (.iload_n 2, 1) := by decide +kernel
theorem dX7_look_18 : decode cX7_look 18 = .ok (.ifCond .lt 8, 3) := by decide +kernel
theorem dX7_look_21 : decode cX7_look 21 = .ok (.iload_n 2, 1) := by decide +kernel
theorem dX7_look_22 : decode cX7_look 22 = .ok (.iconst 1, 1) := by decide +kernel
theorem dX7_look_23 : decode cX7_look 23 = .ok (.if_icmp .le 5, 3) := by decide +kernel
theorem dX7_look_26 : decode cX7_look 26 = .ok (.iconst (-1), 1) := by decide +kernel
theorem dX7_look_27 : decode cX7_look 27 = .ok (.ireturn, 1) := by decide +kernel
theorem dX7_look_28 : decode cX7_look 28 = .ok (.aload_n 0, 1) := by decide +kernel
theorem dX7_look_29 : decode cX7_look 29 = .ok (.invokevirtual 282, 3) := by decide +kernel
theorem dX7_look_32 : decode cX7_look 32 = .ok (.istore_n 3, 1) := by decide +kernel
theorem dX7_look_33 : decode cX7_look 33 = .ok (.iload_n 3, 1) := by decide +kernel
theorem dX7_look_34 : decode cX7_look 34 = .ok (.ifCond .eq 16, 3) := by decide +kernel
theorem dX7_look_37 : decode cX7_look 37 = .ok (.aload_n 0, 1) := by decide +kernel
theorem dX7_look_38 : decode cX7_look 38 = .ok (.getfield 36, 3) := by decide +kernel
theorem dX7_look_41 : decode cX7_look 41 = .ok (.getfield 88, 3) := by decide +kernel
theorem dX7_look_44 : decode cX7_look 44 = .ok (.getfield 164, 3) := by decide +kernel
theorem dX7_look_47 : decode cX7_look 47 = .ok (.ifCond .ne 6, 3) := by decide +kernel
theorem dX7_look_50 : decode cX7_look 50 = .ok (.bipush (-2), 2) := by decide +kernel
theorem dX7_look_52 : decode cX7_look 52 = .ok (.ireturn, 1) := by decide +kernel
theorem dX7_look_53 : decode cX7_look 53 = .ok (.aload_n 0, 1) := by decide +kernel
theorem dX7_look_54 : decode cX7_look 54 = .ok (.iload_n 3, 1) := by decide +kernel
theorem dX7_look_55 : decode cX7_look 55 = .ok (.iload_n 1, 1) := by decide +kernel
theorem dX7_look_56 : decode cX7_look 56 = .ok (.invokevirtual 286, 3) := by decide +kernel
theorem dX7_look_59 : decode cX7_look 59 = .ok (.iconst 0, 1) := by decide +kernel
theorem dX7_look_60 : decode cX7_look 60 = .ok (.istore 4, 2) := by decide +kernel
theorem dX7_look_62 : decode cX7_look 62 = .ok (.iconst 1, 1) := by decide +kernel
theorem dX7_look_63 : decode cX7_look 63 = .ok (.istore 5, 2) := by decide +kernel
theorem dX7_look_65 : decode cX7_look 65 = .ok (.iload 5, 2) := by decide +kernel
theorem dX7_look_67 : decode cX7_look 67 = .ok (.aload_n 0, 1) := by decide +kernel
theorem dX7_look_68 : decode cX7_look 68 = .ok (.getfield 36, 3) := by decide +kernel
theorem dX7_look_71 : decode cX7_look 71 = .ok (.getfield 88, 3) := by decide +kernel
theorem dX7_look_74 : decode cX7_look 74 = .ok (.getfield 164, 3) := by decide +kernel
theorem dX7_look_77 : decode cX7_look 77 = .ok (.if_icmp .ge 28, 3) := by decide +kernel
theorem dX7_look_80 : decode cX7_look 80 = .ok (.aload_n 0, 1) := by decide +kernel
theorem dX7_look_81 : decode cX7_look 81 = .ok (.iload 5, 2) := by decide +kernel
theorem dX7_look_83 : decode cX7_look 83 = .ok (.invokevirtual 290, 3) := by decide +kernel
theorem dX7_look_86 : decode cX7_look 86 = .ok (.aload_n 0, 1) := by decide +kernel
theorem dX7_look_87 : decode cX7_look 87 = .ok (.iload 4, 2) := by decide +kernel
theorem dX7_look_89 : decode cX7_look 89 = .ok (.invokevirtual 290, 3) := by decide +kernel
theorem dX7_look_92 : decode cX7_look 92 = .ok (.if_icmp .ge 7, 3) := by decide +kernel
theorem dX7_look_95 : decode cX7_look 95 = .ok (.iload 5, 2) := by decide +kernel
theorem dX7_look_97 : decode cX7_look 97 = .ok (.istore 4, 2) := by decide +kernel
theorem dX7_look_99 : decode cX7_look 99 = .ok (.iinc 5 1, 3) := by decide +kernel
theorem dX7_look_102 : decode cX7_look 102 = .ok (.goto (-37), 3) := by decide +kernel
theorem dX7_look_105 : decode cX7_look 105 = .ok (.iload_n 2, 1) := by decide +kernel
theorem dX7_look_106 : decode cX7_look 106 = .ok (.ifCond .ne 8, 3) := by decide +kernel
theorem dX7_look_109 : decode cX7_look 109 = .ok (.iload 4, 2) := by decide +kernel
theorem dX7_look_111 : decode cX7_look 111 = .ok (.goto 9, 3) := by decide +kernel
theorem dX7_look_114 : decode cX7_look 114 = .ok (.aload_n 0, 1) := by decide +kernel
theorem dX7_look_115 : decode cX7_look 115 = .ok (.iload 4, 2) := by decide +kernel
theorem dX7_look_117 : decode cX7_look 117 = .ok (.invokevirtual 290, 3) := by decide +kernel
theorem dX7_look_120 : decode cX7_look 120 = .ok (.ireturn, 1) := by decide +kernel
theorem dX7_seed_0 : decode cX7_seed 0 = .ok (.iload_n 1, 1) := by decide +kernel
theorem dX7_seed_1 : decode cX7_seed 1 = .ok (.ifCond .ge 5, 3) := by decide +kernel
theorem dX7_seed_4 : decode cX7_seed 4 = .ok (.iconst (-1), 1) := by decide +kernel
theorem dX7_seed_5 : decode cX7_seed 5 = .ok (.ireturn, 1) := by decide +kernel
theorem dX7_seed_6 : decode cX7_seed 6 = .ok (.aload_n 0, 1) := by decide +kernel
theorem dX7_seed_7 : decode cX7_seed 7 = .ok (.getfield 36, 3) := by decide +kernel
theorem dX7_seed_10 : decode cX7_seed 10 = .ok (.getfield 189, 3) := by decide +kernel
theorem dX7_seed_13 : decode cX7_seed 13 = .ok (.istore_n 2, 1) := by decide +kernel
theorem dX7_seed_14 : decode cX7_seed 14 = .ok (.aload_n 0, 1) := by decide +kernel
theorem dX7_seed_15 : decode cX7_seed 15 = .ok (.getfield 36, 3) := by decide +kernel
theorem dX7_seed_18 : decode cX7_seed 18 = .ok (.iload_n 1, 1) := by decide +kernel
theorem dX7_seed_19 : decode cX7_seed 19 = .ok (.putfield 189, 3) := by decide +kernel
theorem dX7_seed_22 : decode cX7_seed 22 = .ok (.iload_n 2, 1) := by decide +kernel
theorem dX7_seed_23 : decode cX7_seed 23 = .ok (.ireturn, 1) := by decide +kernel
theorem dX7_visits_0 : decode cX7_visits 0 = .ok (.aload_n 0, 1) := by decide +kernel
theorem dX7_visits_1 : decode cX7_visits 1 = .ok (.invokevirtual 192, 3) := by decide +kernel
theorem dX7_visits_4 : decode cX7_visits 4 = .ok (.ifCond .eq 25, 3) := by decide +kernel
theorem dX7_visits_7 : decode cX7_visits 7 = .ok (.iload_n 1, 1) := by decide +kernel
theorem dX7_visits_8 : decode cX7_visits 8 = .ok (.iconst 1, 1) := by decide +kernel
theorem dX7_visits_9 : decode cX7_visits 9 = .ok (.if_icmp .lt 20, 3) := by decide +kernel
theorem dX7_visits_12 : decode cX7_visits 12 = .ok (.iload_n 1, 1) := by decide +kernel
theorem dX7_visits_13 : decode cX7_visits 13 = .ok (.bipush 10, 2) := by decide +kernel
theorem dX7_visits_15 : decode cX7_visits 15 = .ok (.if_icmp .gt 14, 3) := by decide +kernel
theorem dX7_visits_18 : decode cX7_visits 18 = .ok (.iload_n 2, 1) := by decide +kernel
theorem dX7_visits_19 : decode cX7_visits 19 = .ok (.iconst 1, 1) := by decide +kernel
theorem dX7_visits_20 : decode cX7_visits 20 = .ok (.if_icmp .lt 9, 3) := by decide +kernel
theorem dX7_visits_23 : decode cX7_visits 23 = .ok (.iload_n 2, 1) := by decide +kernel
theorem dX7_visits_24 : decode cX7_visits 24 = .ok (.bipush 60, 2) := by decide +kernel
theorem dX7_visits_26 : decode cX7_visits 26 = .ok (.if_icmp .le 5, 3) := by decide +kernel
theorem dX7_visits_29 : decode cX7_visits 29 = .ok (.iconst (-1), 1) := by decide +kernel
theorem dX7_visits_30 : decode cX7_visits 30 = .ok (.ireturn, 1) := by decide +kernel
theorem dX7_visits_31 : decode cX7_visits 31 = .ok (.iload_n 3, 1) := by decide +kernel
theorem dX7_visits_32 : decode cX7_visits 32 = .ok (.ifCond .lt 20, 3) := by decide +kernel
theorem dX7_visits_35 : decode cX7_visits 35 = .ok (.iload_n 3, 1) := by decide +kernel
theorem dX7_visits_36 : decode cX7_visits 36 = .ok (.bipush 100, 2) := by decide +kernel
theorem dX7_visits_38 : decode cX7_visits 38 = .ok (.if_icmp .gt 14, 3) := by decide +kernel
theorem dX7_visits_41 : decode cX7_visits 41 = .ok (.iload 4, 2) := by decide +kernel
theorem dX7_visits_43 : decode cX7_visits 43 = .ok (.ifCond .lt 9, 3) := by decide +kernel
theorem dX7_visits_46 : decode cX7_visits 46 = .ok (.iload 4, 2) := by decide +kernel
theorem dX7_visits_48 : decode cX7_visits 48 = .ok (.iconst 1, 1) := by decide +kernel
theorem dX7_visits_49 : decode cX7_visits 49 = .ok (.if_icmp .le 5, 3) := by decide +kernel
theorem dX7_visits_52 : decode cX7_visits 52 = .ok (.iconst (-1), 1) := by decide +kernel
theorem dX7_visits_53 : decode cX7_visits 53 = .ok (.ireturn, 1) := by decide +kernel
theorem dX7_visits_54 : decode cX7_visits 54 = .ok (.aload_n 0, 1) := by decide +kernel
theorem dX7_visits_55 : decode cX7_visits 55 = .ok (.invokevirtual 199, 3) := by decide +kernel
theorem dX7_visits_58 : decode cX7_visits 58 = .ok (.astore 5, 2) := by decide +kernel
theorem dX7_visits_60 : decode cX7_visits 60 = .ok (.aload_n 0, 1) := by decide +kernel
theorem dX7_visits_61 : decode cX7_visits 61 = .ok (.getfield 36, 3) := by decide +kernel
theorem dX7_visits_64 : decode cX7_visits 64 = .ok (.getfield 88, 3) := by decide +kernel
theorem dX7_visits_67 : decode cX7_visits 67 = .ok (.getfield 91, 3) := by decide +kernel
theorem dX7_visits_70 : decode cX7_visits 70 = .ok (.istore 6, 2) := by decide +kernel
theorem dX7_visits_72 : decode cX7_visits 72 = .ok (.aload_n 0, 1) := by decide +kernel
theorem dX7_visits_73 : decode cX7_visits 73 = .ok (.getfield 36, 3) := by decide +kernel
theorem dX7_visits_76 : decode cX7_visits 76 = .ok (.getfield 189, 3) := by decide +kernel
theorem dX7_visits_79 : decode cX7_visits 79 = .ok (.istore 7, 2) := by decide +kernel
theorem dX7_visits_81 : decode cX7_visits 81 = .ok (.iconst 0, 1) := by decide +kernel
theorem dX7_visits_82 : decode cX7_visits 82 = .ok (.istore 8, 2) := by decide +kernel
theorem dX7_visits_84 : decode cX7_visits 84 = .ok (.iconst 0, 1) := by decide +kernel
theorem dX7_visits_85 : decode cX7_visits 85 = .ok (.istore 9, 2) := by decide +kernel
theorem dX7_visits_87 : decode cX7_visits 87 = .ok (.iconst 0, 1) := by decide +kernel
theorem dX7_visits_88 : decode cX7_visits 88 = .ok (.istore 10, 2) := by decide +kernel
theorem dX7_visits_90 : decode cX7_visits 90 = .ok (.iload 10, 2) := by decide +kernel
theorem dX7_visits_92 : decode cX7_visits 92 = .ok (.iload_n 1, 1) := by decide +kernel
theorem dX7_visits_93 : decode cX7_visits 93 = .ok (.iload_n 2, 1) := by decide +kernel
theorem dX7_visits_94 : decode cX7_visits 94 = .ok (.imul, 1) := by decide +kernel
theorem dX7_visits_95 : decode cX7_visits 95 = .ok (.if_icmp .ge 125, 3) := by decide +kernel
theorem dX7_visits_98 : decode cX7_visits 98 = .ok (.iload 10, 2) := by decide +kernel
theorem dX7_visits_100 : decode cX7_visits 100 = .ok (.iload_n 2, 1) := by decide +kernel
theorem dX7_visits_101 : decode cX7_visits 101 = .ok (.irem, 1) := by decide +kernel
theorem dX7_visits_102 : decode cX7_visits 102 = .ok (.ifCond .ne 17, 3) := by decide +kernel
theorem dX7_visits_105 : decode cX7_visits 105 = .ok (.aload_n 0, 1) := by decide +kernel
theorem dX7_visits_106 : decode cX7_visits 106 = .ok (.getfield 50, 3) := by decide +kernel
theorem dX7_visits_109 : decode cX7_visits 109 = .ok (.aload_n 0, 1) := by decide +kernel
theorem dX7_visits_110 : decode cX7_visits 110 = .ok (.getfield 36, 3) := by decide +kernel
theorem dX7_visits_113 : decode cX7_visits 113 = .ok (.getfield 106, 3) := by decide +kernel
theorem dX7_visits_116 : decode cX7_visits 116 = .ok (.invokevirtual 216, 3) := by decide +kernel
theorem dX7_visits_119 : decode cX7_visits 119 = .ok (.iload 7, 2) := by decide +kernel
theorem dX7_visits_121 : decode cX7_visits 121 = .ok (.invokestatic 293, 3) := by decide +kernel
theorem dX7_visits_124 : decode cX7_visits 124 = .ok (.istore 7, 2) := by decide +kernel
theorem dX7_visits_126 : decode cX7_visits 126 = .ok (.iload 7, 2) := by decide +kernel
theorem dX7_visits_128 : decode cX7_visits 128 = .ok (.ldc_w 296, 3) := by decide +kernel
theorem dX7_visits_131 : decode cX7_visits 131 = .ok (.idiv, 1) := by decide +kernel
theorem dX7_visits_132 : decode cX7_visits 132 = .ok (.bipush 100, 2) := by decide +kernel
theorem dX7_visits_134 : decode cX7_visits 134 = .ok (.irem, 1) := by decide +kernel
theorem dX7_visits_135 : decode cX7_visits 135 = .ok (.iload_n 3, 1) := by decide +kernel
theorem dX7_visits_136 : decode cX7_visits 136 = .ok (.if_icmp .ge 12, 3) := by decide +kernel
theorem dX7_visits_139 : decode cX7_visits 139 = .ok (.iload 6, 2) := by decide +kernel
theorem dX7_visits_141 : decode cX7_visits 141 = .ok (.ifCond .le 7, 3) := by decide +kernel
theorem dX7_visits_144 : decode cX7_visits 144 = .ok (.iconst 1, 1) := by decide +kernel
theorem dX7_visits_145 : decode cX7_visits 145 = .ok (.goto 4, 3) := by decide +kernel
theorem dX7_visits_148 : decode cX7_visits 148 = .ok (.iconst 0, 1) := by decide +kernel
theorem dX7_visits_149 : decode cX7_visits 149 = .ok (.istore 11, 2) := by decide +kernel
theorem dX7_visits_151 : decode cX7_visits 151 = .ok (.aload_n 0, 1) := by decide +kernel
theorem dX7_visits_152 : decode cX7_visits 152 = .ok (.getfield 50, 3) := by decide +kernel
theorem dX7_visits_155 : decode cX7_visits 155 = .ok (.aload_n 0, 1) := by decide +kernel
theorem dX7_visits_156 : decode cX7_visits 156 = .ok (.getfield 36, 3) := by decide +kernel
theorem dX7_visits_159 : decode cX7_visits 159 = .ok (.getfield 88, 3) := by decide +kernel
theorem dX7_visits_162 : decode cX7_visits 162 = .ok (.aload 5, 2) := by decide +kernel
theorem dX7_visits_164 : decode cX7_visits 164 = .ok (.invokevirtual 203, 3) := by decide +kernel
theorem dX7_visits_167 : decode cX7_visits 167 = .ok (.iload 11, 2) := by decide +kernel
theorem dX7_visits_169 : decode cX7_visits 169 = .ok (.ifCond .eq 45, 3) := by decide +kernel
theorem dX7_visits_172 : decode cX7_visits 172 = .ok (.iload 7, 2) := by decide +kernel
theorem dX7_visits_174 : decode cX7_visits 174 = .ok (.invokestatic 293, 3) := by decide +kernel
theorem dX7_visits_177 : decode cX7_visits 177 = .ok (.istore 7, 2) := by decide +kernel
theorem dX7_visits_179 : decode cX7_visits 179 = .ok (.aload_n 0, 1) := by decide +kernel
theorem dX7_visits_180 : decode cX7_visits 180 = .ok (.getfield 50, 3) := by decide +kernel
theorem dX7_visits_183 : decode cX7_visits 183 = .ok (.aload_n 0, 1) := by decide +kernel
theorem dX7_visits_184 : decode cX7_visits 184 = .ok (.getfield 36, 3) := by decide +kernel
theorem dX7_visits_187 : decode cX7_visits 187 = .ok (.getfield 88, 3) := by decide +kernel
theorem dX7_visits_190 : decode cX7_visits 190 = .ok (.iload 7, 2) := by decide +kernel
theorem dX7_visits_192 : decode cX7_visits 192 = .ok (.ldc_w 296, 3) := by decide +kernel
theorem dX7_visits_195 : decode cX7_visits 195 = .ok (.idiv, 1) := by decide +kernel
theorem dX7_visits_196 : decode cX7_visits 196 = .ok (.iload 6, 2) := by decide +kernel
theorem dX7_visits_198 : decode cX7_visits 198 = .ok (.irem, 1) := by decide +kernel
theorem dX7_visits_199 : decode cX7_visits 199 = .ok (.invokevirtual 122, 3) := by decide +kernel
theorem dX7_visits_202 : decode cX7_visits 202 = .ok (.ifCond .ne 9, 3) := by decide +kernel
theorem dX7_visits_205 : decode cX7_visits 205 = .ok (.iinc 8 1, 3) := by decide +kernel
theorem dX7_visits_208 : decode cX7_visits 208 = .ok (.goto 6, 3) := by decide +kernel
theorem dX7_visits_211 : decode cX7_visits 211 = .ok (.iinc 9 1, 3) := by decide +kernel
theorem dX7_visits_214 : decode cX7_visits 214 = .ok (.iinc 10 1, 3) := by decide +kernel
theorem dX7_visits_217 : decode cX7_visits 217 = .ok (.goto (-127), 3) := by decide +kernel
theorem dX7_visits_220 : decode cX7_visits 220 = .ok (.iload 4, 2) := by decide +kernel
theorem dX7_visits_222 : decode cX7_visits 222 = .ok (.ifCond .ne 8, 3) := by decide +kernel
theorem dX7_visits_225 : decode cX7_visits 225 = .ok (.iload 8, 2) := by decide +kernel
theorem dX7_visits_227 : decode cX7_visits 227 = .ok (.goto 5, 3) := by decide +kernel
theorem dX7_visits_230 : decode cX7_visits 230 = .ok (.iload 9, 2) := by decide +kernel
theorem dX7_visits_232 : decode cX7_visits 232 = .ok (.ireturn, 1) := by decide +kernel
theorem dX7_image_0 : decode cX7_image 0 = .ok (.iload_n 1, 1) := by decide +kernel
theorem dX7_image_1 : decode cX7_image 1 = .ok (.ifCond .lt 8, 3) := by decide +kernel
theorem dX7_image_4 : decode cX7_image 4 = .ok (.iload_n 1, 1) := by decide +kernel
theorem dX7_image_5 : decode cX7_image 5 = .ok (.iconst 4, 1) := by decide +kernel
theorem dX7_image_6 : decode cX7_image 6 = .ok (.if_icmp .lt 5, 3) := by decide +kernel
theorem dX7_image_9 : decode cX7_image 9 = .ok (.iconst (-1), 1) := by decide +kernel
theorem dX7_image_10 : decode cX7_image 10 = .ok (.ireturn, 1) := by decide +kernel
theorem dX7_image_11 : decode cX7_image 11 = .ok (.aload_n 0, 1) := by decide +kernel
theorem dX7_image_12 : decode cX7_image 12 = .ok (.getfield 40, 3) := by decide +kernel
theorem dX7_image_15 : decode cX7_image 15 = .ok (.iload_n 1, 1) := by decide +kernel
theorem dX7_image_16 : decode cX7_image 16 = .ok (.aaload, 1) := by decide +kernel
theorem dX7_image_17 : decode cX7_image 17 = .ok (.aload_n 0, 1) := by decide +kernel
theorem dX7_image_18 : decode cX7_image 18 = .ok (.getfield 36, 3) := by decide +kernel
theorem dX7_image_21 : decode cX7_image 21 = .ok (.invokevirtual 297, 3) := by decide +kernel
theorem dX7_image_24 : decode cX7_image 24 = .ok (.aload_n 0, 1) := by decide +kernel
theorem dX7_image_25 : decode cX7_image 25 = .ok (.dup, 1) := by decide +kernel
theorem dX7_image_26 : decode cX7_image 26 = .ok (.getfield 44, 3) := by decide +kernel
theorem dX7_image_29 : decode cX7_image 29 = .ok (.iconst 1, 1) := by decide +kernel
theorem dX7_image_30 : decode cX7_image 30 = .ok (.iload_n 1, 1) := by decide +kernel
theorem dX7_image_31 : decode cX7_image 31 = .ok (.ishl, 1) := by decide +kernel
theorem dX7_image_32 : decode cX7_image 32 = .ok (.ior, 1) := by decide +kernel
theorem dX7_image_33 : decode cX7_image 33 = .ok (.putfield 44, 3) := by decide +kernel
theorem dX7_image_36 : decode cX7_image 36 = .ok (.aload_n 0, 1) := by decide +kernel
theorem dX7_image_37 : decode cX7_image 37 = .ok (.getfield 36, 3) := by decide +kernel
theorem dX7_image_40 : decode cX7_image 40 = .ok (.getfield 106, 3) := by decide +kernel
theorem dX7_image_43 : decode cX7_image 43 = .ok (.getfield 170, 3) := by decide +kernel
theorem dX7_image_46 : decode cX7_image 46 = .ok (.ireturn, 1) := by decide +kernel
theorem dX7_back_0 : decode cX7_back 0 = .ok (.iload_n 1, 1) := by decide +kernel
theorem dX7_back_1 : decode cX7_back 1 = .ok (.ifCond .lt 19, 3) := by decide +kernel
theorem dX7_back_4 : decode cX7_back 4 = .ok (.iload_n 1, 1) := by decide +kernel
theorem dX7_back_5 : decode cX7_back 5 = .ok (.iconst 4, 1) := by decide +kernel
theorem dX7_back_6 : decode cX7_back 6 = .ok (.if_icmp .ge 14, 3) := by decide +kernel
theorem dX7_back_9 : decode cX7_back 9 = .ok (.aload_n 0, 1) := by decide +kernel
theorem dX7_back_10 : decode cX7_back 10 = .ok (.getfield 44, 3) := by decide +kernel
theorem dX7_back_13 : decode cX7_back 13 = .ok (.iload_n 1, 1) := by decide +kernel
theorem dX7_back_14 : decode cX7_back 14 = .ok (.ishr, 1) := by decide +kernel
theorem dX7_back_15 : decode cX7_back 15 = .ok (.iconst 1, 1) := by decide +kernel
theorem dX7_back_16 : decode cX7_back 16 = .ok (.iand, 1) := by decide +kernel
theorem dX7_back_17 : decode cX7_back 17 = .ok (.ifCond .ne 5, 3) := by decide +kernel
theorem dX7_back_20 : decode cX7_back 20 = .ok (.iconst (-1), 1) := by decide +kernel
theorem dX7_back_21 : decode cX7_back 21 = .ok (.ireturn, 1) := by decide +kernel
theorem dX7_back_22 : decode cX7_back 22 = .ok (.aload_n 0, 1) := by decide +kernel
theorem dX7_back_23 : decode cX7_back 23 = .ok (.getfield 36, 3) := by decide +kernel
theorem dX7_back_26 : decode cX7_back 26 = .ok (.aload_n 0, 1) := by decide +kernel
theorem dX7_back_27 : decode cX7_back 27 = .ok (.getfield 40, 3) := by decide +kernel
theorem dX7_back_30 : decode cX7_back 30 = .ok (.iload_n 1, 1) := by decide +kernel
theorem dX7_back_31 : decode cX7_back 31 = .ok (.aaload, 1) := by decide +kernel
theorem dX7_back_32 : decode cX7_back 32 = .ok (.invokevirtual 297, 3) := by decide +kernel
theorem dX7_back_35 : decode cX7_back 35 = .ok (.aload_n 0, 1) := by decide +kernel
theorem dX7_back_36 : decode cX7_back 36 = .ok (.getfield 36, 3) := by decide +kernel
theorem dX7_back_39 : decode cX7_back 39 = .ok (.getfield 106, 3) := by decide +kernel
theorem dX7_back_42 : decode cX7_back 42 = .ok (.getfield 170, 3) := by decide +kernel
theorem dX7_back_45 : decode cX7_back 45 = .ok (.ireturn, 1) := by decide +kernel
theorem dX7_stands_0 : decode cX7_stands 0 = .ok (.aload_n 0, 1) := by decide +kernel
theorem dX7_stands_1 : decode cX7_stands 1 = .ok (.getfield 36, 3) := by decide +kernel
theorem dX7_stands_4 : decode cX7_stands 4 = .ok (.getfield 88, 3) := by decide +kernel
theorem dX7_stands_7 : decode cX7_stands 7 = .ok (.getfield 161, 3) := by decide +kernel
theorem dX7_stands_10 : decode cX7_stands 10 = .ok (.ifCond .le 7, 3) := by decide +kernel
theorem dX7_stands_13 : decode cX7_stands 13 = .ok (.iconst 1, 1) := by decide +kernel
theorem dX7_stands_14 : decode cX7_stands 14 = .ok (.goto 4, 3) := by decide +kernel
theorem dX7_stands_17 : decode cX7_stands 17 = .ok (.iconst 0, 1) := by decide +kernel
theorem dX7_stands_18 : decode cX7_stands 18 = .ok (.ireturn, 1) := by decide +kernel
theorem dX7_isThing_0 : decode cX7_isThing 0 = .ok (.iload_n 1, 1) := by decide +kernel
theorem dX7_isThing_1 : decode cX7_isThing 1 = .ok (.ifCond .lt 21, 3) := by decide +kernel
theorem dX7_isThing_4 : decode cX7_isThing 4 = .ok (.iload_n 1, 1) := by decide +kernel
theorem dX7_isThing_5 : decode cX7_isThing 5 = .ok (.aload_n 0, 1) := by decide +kernel
theorem dX7_isThing_6 : decode cX7_isThing 6 = .ok (.getfield 36, 3) := by decide +kernel
theorem dX7_isThing_9 : decode cX7_isThing 9 = .ok (.getfield 88, 3) := by decide +kernel
theorem dX7_isThing_12 : decode cX7_isThing 12 = .ok (.getfield 91, 3) := by decide +kernel
theorem dX7_isThing_15 : decode cX7_isThing 15 = .ok (.if_icmp .ge 7, 3) := by decide +kernel
theorem dX7_isThing_18 : decode cX7_isThing 18 = .ok (.iconst 1, 1) := by decide +kernel
theorem dX7_isThing_19 : decode cX7_isThing 19 = .ok (.goto 4, 3) := by decide +kernel
theorem dX7_isThing_22 : decode cX7_isThing 22 = .ok (.iconst 0, 1) := by decide +kernel
theorem dX7_isThing_23 : decode cX7_isThing 23 = .ok (.ireturn, 1) := by decide +kernel
theorem dX7_isCat_0 : decode cX7_isCat 0 = .ok (.iload_n 1, 1) := by decide +kernel
theorem dX7_isCat_1 : decode cX7_isCat 1 = .ok (.ifCond .lt 21, 3) := by decide +kernel
theorem dX7_isCat_4 : decode cX7_isCat 4 = .ok (.iload_n 1, 1) := by decide +kernel
theorem dX7_isCat_5 : decode cX7_isCat 5 = .ok (.aload_n 0, 1) := by decide +kernel
theorem dX7_isCat_6 : decode cX7_isCat 6 = .ok (.getfield 36, 3) := by decide +kernel
theorem dX7_isCat_9 : decode cX7_isCat 9 = .ok (.getfield 88, 3) := by decide +kernel
theorem dX7_isCat_12 : decode cX7_isCat 12 = .ok (.getfield 164, 3) := by decide +kernel
theorem dX7_isCat_15 : decode cX7_isCat 15 = .ok (.if_icmp .ge 7, 3) := by decide +kernel
theorem dX7_isCat_18 : decode cX7_isCat 18 = .ok (.iconst 1, 1) := by decide +kernel
theorem dX7_isCat_19 : decode cX7_isCat 19 = .ok (.goto 4, 3) := by decide +kernel
theorem dX7_isCat_22 : decode cX7_isCat 22 = .ok (.iconst 0, 1) := by decide +kernel
theorem dX7_isCat_23 : decode cX7_isCat 23 = .ok (.ireturn, 1) := by decide +kernel
theorem dX7_isNeed_0 : decode cX7_isNeed 0 = .ok (.iload_n 1, 1) := by decide +kernel
theorem dX7_isNeed_1 : decode cX7_isNeed 1 = .ok (.ifCond .lt 21, 3) := by decide +kernel
theorem dX7_isNeed_4 : decode cX7_isNeed 4 = .ok (.iload_n 1, 1) := by decide +kernel
theorem dX7_isNeed_5 : decode cX7_isNeed 5 = .ok (.aload_n 0, 1) := by decide +kernel
theorem dX7_isNeed_6 : decode cX7_isNeed 6 = .ok (.getfield 36, 3) := by decide +kernel
theorem dX7_isNeed_9 : decode cX7_isNeed 9 = .ok (.getfield 88, 3) := by decide +kernel
theorem dX7_isNeed_12 : decode cX7_isNeed 12 = .ok (.getfield 167, 3) := by decide +kernel
theorem dX7_isNeed_15 : decode cX7_isNeed 15 = .ok (.if_icmp .ge 7, 3) := by decide +kernel
theorem dX7_isNeed_18 : decode cX7_isNeed 18 = .ok (.iconst 1, 1) := by decide +kernel
theorem dX7_isNeed_19 : decode cX7_isNeed 19 = .ok (.goto 4, 3) := by decide +kernel
theorem dX7_isNeed_22 : decode cX7_isNeed 22 = .ok (.iconst 0, 1) := by decide +kernel
theorem dX7_isNeed_23 : decode cX7_isNeed 23 = .ok (.ireturn, 1) := by decide +kernel
theorem dX7_ruleBy_0 : decode cX7_ruleBy 0 = .ok (.iload_n 1, 1) := by decide +kernel
theorem dX7_ruleBy_1 : decode cX7_ruleBy 1 = .ok (.ifCond .lt 20, 3) := by decide +kernel
theorem dX7_ruleBy_4 : decode cX7_ruleBy 4 = .ok (.iload_n 1, 1) := by decide +kernel
theorem dX7_ruleBy_5 : decode cX7_ruleBy 5 = .ok (.aload_n 0, 1) := by decide +kernel
theorem dX7_ruleBy_6 : decode cX7_ruleBy 6 = .ok (.getfield 22, 3) := by decide +kernel
theorem dX7_ruleBy_9 : decode cX7_ruleBy 9 = .ok (.if_icmp .ge 12, 3) := by decide +kernel
theorem dX7_ruleBy_12 : decode cX7_ruleBy 12 = .ok (.aload_n 0, 1) := by decide +kernel
theorem dX7_ruleBy_13 : decode cX7_ruleBy 13 = .ok (.getfield 18, 3) := by decide +kernel
theorem dX7_ruleBy_16 : decode cX7_ruleBy 16 = .ok (.iload_n 1, 1) := by decide +kernel
theorem dX7_ruleBy_17 : decode cX7_ruleBy 17 = .ok (.aaload, 1) := by decide +kernel
theorem dX7_ruleBy_18 : decode cX7_ruleBy 18 = .ok (.goto 4, 3) := by decide +kernel
theorem dX7_ruleBy_21 : decode cX7_ruleBy 21 = .ok (.aconst_null, 1) := by decide +kernel
theorem dX7_ruleBy_22 : decode cX7_ruleBy 22 = .ok (.areturn, 1) := by decide +kernel
theorem dX7_inForce_0 : decode cX7_inForce 0 = .ok (.aload_n 0, 1) := by decide +kernel
theorem dX7_inForce_1 : decode cX7_inForce 1 = .ok (.aload_n 0, 1) := by decide +kernel
theorem dX7_inForce_2 : decode cX7_inForce 2 = .ok (.getfield 36, 3) := by decide +kernel
theorem dX7_inForce_5 : decode cX7_inForce 5 = .ok (.getfield 99, 3) := by decide +kernel
theorem dX7_inForce_8 : decode cX7_inForce 8 = .ok (.invokevirtual 300, 3) := by decide +kernel
theorem dX7_inForce_11 : decode cX7_inForce 11 = .ok (.areturn, 1) := by decide +kernel
theorem dX7_goOn_0 : decode cX7_goOn 0 = .ok (.iconst 0, 1) := by decide +kernel
theorem dX7_goOn_1 : decode cX7_goOn 1 = .ok (.istore_n 3, 1) := by decide +kernel
theorem dX7_goOn_2 : decode cX7_goOn 2 = .ok (.iload_n 3, 1) := by decide +kernel
theorem dX7_goOn_3 : decode cX7_goOn 3 = .ok (.iload_n 1, 1) := by decide +kernel
theorem dX7_goOn_4 : decode cX7_goOn 4 = .ok (.if_icmp .ge 24, 3) := by decide +kernel
theorem dX7_goOn_7 : decode cX7_goOn 7 = .ok (.aload_n 0, 1) := by decide +kernel
theorem dX7_goOn_8 : decode cX7_goOn 8 = .ok (.getfield 50, 3) := by decide +kernel
theorem dX7_goOn_11 : decode cX7_goOn 11 = .ok (.aload_n 0, 1) := by decide +kernel
theorem dX7_goOn_12 : decode cX7_goOn 12 = .ok (.getfield 36, 3) := by decide +kernel
theorem dX7_goOn_15 : decode cX7_goOn 15 = .ok (.getfield 88, 3) := by decide +kernel
theorem dX7_goOn_18 : decode cX7_goOn 18 = .ok (.aload_n 2, 1) := by decide +kernel
theorem dX7_goOn_19 : decode cX7_goOn 19 = .ok (.invokevirtual 203, 3) := by decide +kernel
theorem dX7_goOn_22 : decode cX7_goOn 22 = .ok (.iinc 3 1, 3) := by decide +kernel
theorem dX7_goOn_25 : decode cX7_goOn 25 = .ok (.goto (-23), 3) := by decide +kernel
theorem dX7_goOn_28 : decode cX7_goOn 28 = .ok (.return_, 1) := by decide +kernel
theorem dX7_worthMet_0 : decode cX7_worthMet 0 = .ok (.aload_n 0, 1) := by decide +kernel
theorem dX7_worthMet_1 : decode cX7_worthMet 1 = .ok (.invokevirtual 199, 3) := by decide +kernel
theorem dX7_worthMet_4 : decode cX7_worthMet 4 = .ok (.astore_n 2, 1) := by decide +kernel
theorem dX7_worthMet_5 : decode cX7_worthMet 5 = .ok (.iconst 0, 1) := by decide +kernel
theorem dX7_worthMet_6 : decode cX7_worthMet 6 = .ok (.istore_n 3, 1) := by decide +kernel
theorem dX7_worthMet_7 : decode cX7_worthMet 7 = .ok (.iconst 0, 1) := by decide +kernel
theorem dX7_worthMet_8 : decode cX7_worthMet 8 = .ok (.istore 4, 2) := by decide +kernel
theorem dX7_worthMet_10 : decode cX7_worthMet 10 = .ok (.iload 4, 2) := by decide +kernel
theorem dX7_worthMet_12 : decode cX7_worthMet 12 = .ok (.iload_n 1, 1) := by decide +kernel
theorem dX7_worthMet_13 : decode cX7_worthMet 13 = .ok (.if_icmp .ge 44, 3) := by decide +kernel
theorem dX7_worthMet_16 : decode cX7_worthMet 16 = .ok (.aload_n 0, 1) := by decide +kernel
theorem dX7_worthMet_17 : decode cX7_worthMet 17 = .ok (.getfield 50, 3) := by decide +kernel
theorem dX7_worthMet_20 : decode cX7_worthMet 20 = .ok (.aload_n 0, 1) := by decide +kernel
theorem dX7_worthMet_21 : decode cX7_worthMet 21 = .ok (.getfield 36, 3) := by decide +kernel
theorem dX7_worthMet_24 : decode cX7_worthMet 24 = .ok (.getfield 88, 3) := by decide +kernel
theorem dX7_worthMet_27 : decode cX7_worthMet 27 = .ok (.aload_n 2, 1) := by decide +kernel
theorem dX7_worthMet_28 : decode cX7_worthMet 28 = .ok (.invokevirtual 203, 3) := by decide +kernel
theorem dX7_worthMet_31 : decode cX7_worthMet 31 = .ok (.iload_n 3, 1) := by decide +kernel
theorem dX7_worthMet_32 : decode cX7_worthMet 32 = .ok (.aload_n 0, 1) := by decide +kernel
theorem dX7_worthMet_33 : decode cX7_worthMet 33 = .ok (.getfield 36, 3) := by decide +kernel
theorem dX7_worthMet_36 : decode cX7_worthMet 36 = .ok (.getfield 88, 3) := by decide +kernel
theorem dX7_worthMet_39 : decode cX7_worthMet 39 = .ok (.aload_n 0, 1) := by decide +kernel
theorem dX7_worthMet_40 : decode cX7_worthMet 40 = .ok (.getfield 50, 3) := by decide +kernel
theorem dX7_worthMet_43 : decode cX7_worthMet 43 = .ok (.getfield 227, 3) := by decide +kernel
theorem dX7_worthMet_46 : decode cX7_worthMet 46 = .ok (.invokevirtual 304, 3) := by decide +kernel
theorem dX7_worthMet_49 : decode cX7_worthMet 49 = .ok (.iadd, 1) := by decide +kernel
theorem dX7_worthMet_50 : decode cX7_worthMet 50 = .ok (.istore_n 3, 1) := by decide +kernel
theorem dX7_worthMet_51 : decode cX7_worthMet 51 = .ok (.iinc 4 1, 3) := by decide +kernel
theorem dX7_worthMet_54 : decode cX7_worthMet 54 = .ok (.goto (-44), 3) := by decide +kernel
theorem dX7_worthMet_57 : decode cX7_worthMet 57 = .ok (.iload_n 3, 1) := by decide +kernel
theorem dX7_worthMet_58 : decode cX7_worthMet 58 = .ok (.ireturn, 1) := by decide +kernel
theorem dX7_losesNone_0 : decode cX7_losesNone 0 = .ok (.aload_n 0, 1) := by decide +kernel
theorem dX7_losesNone_1 : decode cX7_losesNone 1 = .ok (.invokevirtual 199, 3) := by decide +kernel
theorem dX7_losesNone_4 : decode cX7_losesNone 4 = .ok (.astore_n 3, 1) := by decide +kernel
theorem dX7_losesNone_5 : decode cX7_losesNone 5 = .ok (.aload_n 0, 1) := by decide +kernel
theorem dX7_losesNone_6 : decode cX7_losesNone 6 = .ok (.getfield 50, 3) := by decide +kernel
theorem dX7_losesNone_9 : decode cX7_losesNone 9 = .ok (.aload_n 0, 1) := by decide +kernel
theorem dX7_losesNone_10 : decode cX7_losesNone 10 = .ok (.getfield 36, 3) := by decide +kernel
theorem dX7_losesNone_13 : decode cX7_losesNone 13 = .ok (.getfield 106, 3) := by decide +kernel
theorem dX7_losesNone_16 : decode cX7_losesNone 16 = .ok (.invokevirtual 216, 3) := by decide +kernel
theorem dX7_losesNone_19 : decode cX7_losesNone 19 = .ok (.aload_n 0, 1) := by decide +kernel
theorem dX7_losesNone_20 : decode cX7_losesNone 20 = .ok (.getfield 50, 3) := by decide +kernel
theorem dX7_losesNone_23 : decode cX7_losesNone 23 = .ok (.dup, 1) := by decide +kernel
theorem dX7_losesNone_24 : decode cX7_losesNone 24 = .ok (.getfield 210, 3) := by decide +kernel
theorem dX7_losesNone_27 : decode cX7_losesNone 27 = .ok (.iload_n 1, 1) := by decide +kernel
theorem dX7_losesNone_28 : decode cX7_losesNone 28 = .ok (.ior, 1) := by decide +kernel
theorem dX7_losesNone_29 : decode cX7_losesNone 29 = .ok (.putfield 210, 3) := by decide +kernel
theorem dX7_losesNone_32 : decode cX7_losesNone 32 = .ok (.iconst 0, 1) := by decide +kernel
theorem dX7_losesNone_33 : decode cX7_losesNone 33 = .ok (.istore 4, 2) := by decide +kernel
theorem dX7_losesNone_35 : decode cX7_losesNone 35 = .ok (.iload 4, 2) := by decide +kernel
theorem dX7_losesNone_37 : decode cX7_losesNone 37 = .ok (.iload_n 2, 1) := by decide +kernel
theorem dX7_losesNone_38 : decode cX7_losesNone 38 = .ok (.if_icmp .ge 36, 3) := by decide +kernel
theorem dX7_losesNone_41 : decode cX7_losesNone 41 = .ok (.aload_n 0, 1) := by decide +kernel
theorem dX7_losesNone_42 : decode cX7_losesNone 42 = .ok (.getfield 50, 3) := by decide +kernel
theorem dX7_losesNone_45 : decode cX7_losesNone 45 = .ok (.aload_n 0, 1) := by decide +kernel
theorem dX7_losesNone_46 : decode cX7_losesNone 46 = .ok (.getfield 36, 3) := by decide +kernel
theorem dX7_losesNone_49 : decode cX7_losesNone 49 = .ok (.getfield 88, 3) := by decide +kernel
theorem dX7_losesNone_52 : decode cX7_losesNone 52 = .ok (.aload_n 3, 1) := by decide +kernel
theorem dX7_losesNone_53 : decode cX7_losesNone 53 = .ok (.invokevirtual 203, 3) := by decide +kernel
theorem dX7_losesNone_56 : decode cX7_losesNone 56 = .ok (.aload_n 0, 1) := by decide +kernel
theorem dX7_losesNone_57 : decode cX7_losesNone 57 = .ok (.getfield 50, 3) := by decide +kernel
theorem dX7_losesNone_60 : decode cX7_losesNone 60 = .ok (.getfield 207, 3) := by decide +kernel
theorem dX7_losesNone_63 : decode cX7_losesNone 63 = .ok (.ifCond .eq 5, 3) := by decide +kernel
theorem dX7_losesNone_66 : decode cX7_losesNone 66 = .ok (.iconst 0, 1) := by decide +kernel
theorem dX7_losesNone_67 : decode cX7_losesNone 67 = .ok (.ireturn, 1) := by decide +kernel
theorem dX7_losesNone_68 : decode cX7_losesNone 68 = .ok (.iinc 4 1, 3) := by decide +kernel
theorem dX7_losesNone_71 : decode cX7_losesNone 71 = .ok (.goto (-36), 3) := by decide +kernel
theorem dX7_losesNone_74 : decode cX7_losesNone 74 = .ok (.iconst 1, 1) := by decide +kernel
theorem dX7_losesNone_75 : decode cX7_losesNone 75 = .ok (.ireturn, 1) := by decide +kernel
theorem dX7_knowsBy_0 : decode cX7_knowsBy 0 = .ok (.iconst 2, 1) := by decide +kernel
theorem dX7_knowsBy_1 : decode cX7_knowsBy 1 = .ok (.iload_n 0, 1) := by decide +kernel
theorem dX7_knowsBy_2 : decode cX7_knowsBy 2 = .ok (.imul, 1) := by decide +kernel
theorem dX7_knowsBy_3 : decode cX7_knowsBy 3 = .ok (.iconst 1, 1) := by decide +kernel
theorem dX7_knowsBy_4 : decode cX7_knowsBy 4 = .ok (.iadd, 1) := by decide +kernel
theorem dX7_knowsBy_5 : decode cX7_knowsBy 5 = .ok (.ireturn, 1) := by decide +kernel
theorem dX7_weigh_0 : decode cX7_weigh 0 = .ok (.aload_n 0, 1) := by decide +kernel
theorem dX7_weigh_1 : decode cX7_weigh 1 = .ok (.invokevirtual 199, 3) := by decide +kernel
theorem dX7_weigh_4 : decode cX7_weigh 4 = .ok (.astore 5, 2) := by decide +kernel
theorem dX7_weigh_6 : decode cX7_weigh 6 = .ok (.aload_n 0, 1) := by decide +kernel
theorem dX7_weigh_7 : decode cX7_weigh 7 = .ok (.getfield 50, 3) := by decide +kernel
theorem dX7_weigh_10 : decode cX7_weigh 10 = .ok (.aload_n 0, 1) := by decide +kernel
theorem dX7_weigh_11 : decode cX7_weigh 11 = .ok (.getfield 36, 3) := by decide +kernel
theorem dX7_weigh_14 : decode cX7_weigh 14 = .ok (.getfield 106, 3) := by decide +kernel
theorem dX7_weigh_17 : decode cX7_weigh 17 = .ok (.invokevirtual 216, 3) := by decide +kernel
theorem dX7_weigh_20 : decode cX7_weigh 20 = .ok (.aload_n 0, 1) := by decide +kernel
theorem dX7_weigh_21 : decode cX7_weigh 21 = .ok (.getfield 50, 3) := by decide +kernel
theorem dX7_weigh_24 : decode cX7_weigh 24 = .ok (.getfield 134, 3) := by decide +kernel
theorem dX7_weigh_27 : decode cX7_weigh 27 = .ok (.iload_n 1, 1) := by decide +kernel
theorem dX7_weigh_28 : decode cX7_weigh 28 = .ok (.iload 4, 2) := by decide +kernel
theorem dX7_weigh_30 : decode cX7_weigh 30 = .ok (.iconst 5, 1) := by decide +kernel
theorem dX7_weigh_31 : decode cX7_weigh 31 = .ok (.idiv, 1) := by decide +kernel
theorem dX7_weigh_32 : decode cX7_weigh 32 = .ok (.invokestatic 257, 3) := by decide +kernel
theorem dX7_weigh_35 : decode cX7_weigh 35 = .ok (.iastore, 1) := by decide +kernel
theorem dX7_weigh_36 : decode cX7_weigh 36 = .ok (.aload_n 0, 1) := by decide +kernel
theorem dX7_weigh_37 : decode cX7_weigh 37 = .ok (.getfield 50, 3) := by decide +kernel
theorem dX7_weigh_40 : decode cX7_weigh 40 = .ok (.getfield 134, 3) := by decide +kernel
theorem dX7_weigh_43 : decode cX7_weigh 43 = .ok (.iload_n 2, 1) := by decide +kernel
theorem dX7_weigh_44 : decode cX7_weigh 44 = .ok (.iload 4, 2) := by decide +kernel
theorem dX7_weigh_46 : decode cX7_weigh 46 = .ok (.iconst 5, 1) := by decide +kernel
theorem dX7_weigh_47 : decode cX7_weigh 47 = .ok (.irem, 1) := by decide +kernel
theorem dX7_weigh_48 : decode cX7_weigh 48 = .ok (.invokestatic 257, 3) := by decide +kernel
theorem dX7_weigh_51 : decode cX7_weigh 51 = .ok (.iastore, 1) := by decide +kernel
theorem dX7_weigh_52 : decode cX7_weigh 52 = .ok (.aload_n 0, 1) := by decide +kernel
theorem dX7_weigh_53 : decode cX7_weigh 53 = .ok (.getfield 58, 3) := by decide +kernel
theorem dX7_weigh_56 : decode cX7_weigh 56 = .ok (.iload 4, 2) := by decide +kernel
theorem dX7_weigh_58 : decode cX7_weigh 58 = .ok (.iconst 0, 1) := by decide +kernel
theorem dX7_weigh_59 : decode cX7_weigh 59 = .ok (.iastore, 1) := by decide +kernel
theorem dX7_weigh_60 : decode cX7_weigh 60 = .ok (.aload_n 0, 1) := by decide +kernel
theorem dX7_weigh_61 : decode cX7_weigh 61 = .ok (.getfield 61, 3) := by decide +kernel
theorem dX7_weigh_64 : decode cX7_weigh 64 = .ok (.iload 4, 2) := by decide +kernel
theorem dX7_weigh_66 : decode cX7_weigh 66 = .ok (.iconst 0, 1) := by decide +kernel
theorem dX7_weigh_67 : decode cX7_weigh 67 = .ok (.iastore, 1) := by decide +kernel
theorem dX7_weigh_68 : decode cX7_weigh 68 = .ok (.iconst 0, 1) := by decide +kernel
theorem dX7_weigh_69 : decode cX7_weigh 69 = .ok (.istore 6, 2) := by decide +kernel
theorem dX7_weigh_71 : decode cX7_weigh 71 = .ok (.iload 6, 2) := by decide +kernel
theorem dX7_weigh_73 : decode cX7_weigh 73 = .ok (.iload_n 3, 1) := by decide +kernel
theorem dX7_weigh_74 : decode cX7_weigh 74 = .ok (.if_icmp .ge 75, 3) := by decide +kernel
theorem dX7_weigh_77 : decode cX7_weigh 77 = .ok (.aload_n 0, 1) := by decide +kernel
theorem dX7_weigh_78 : decode cX7_weigh 78 = .ok (.getfield 50, 3) := by decide +kernel
theorem dX7_weigh_81 : decode cX7_weigh 81 = .ok (.aload_n 0, 1) := by decide +kernel
theorem dX7_weigh_82 : decode cX7_weigh 82 = .ok (.getfield 36, 3) := by decide +kernel
theorem dX7_weigh_85 : decode cX7_weigh 85 = .ok (.getfield 88, 3) := by decide +kernel
theorem dX7_weigh_88 : decode cX7_weigh 88 = .ok (.aload 5, 2) := by decide +kernel
theorem dX7_weigh_90 : decode cX7_weigh 90 = .ok (.invokevirtual 203, 3) := by decide +kernel
theorem dX7_weigh_93 : decode cX7_weigh 93 = .ok (.aload_n 0, 1) := by decide +kernel
theorem dX7_weigh_94 : decode cX7_weigh 94 = .ok (.getfield 58, 3) := by decide +kernel
theorem dX7_weigh_97 : decode cX7_weigh 97 = .ok (.iload 4, 2) := by decide +kernel
theorem dX7_weigh_99 : decode cX7_weigh 99 = .ok (.dup2, 1) := by decide +kernel
theorem dX7_weigh_100 : decode cX7_weigh 100 = .ok (.iaload, 1) := by decide +kernel
theorem dX7_weigh_101 : decode cX7_weigh 101 = .ok (.aload_n 0, 1) := by decide +kernel
theorem dX7_weigh_102 : decode cX7_weigh 102 = .ok (.getfield 50, 3) := by decide +kernel
theorem dX7_weigh_105 : decode cX7_weigh 105 = .ok (.aload_n 0, 1) := by decide +kernel
theorem dX7_weigh_106 : decode cX7_weigh 106 = .ok (.getfield 36, 3) := by decide +kernel
theorem dX7_weigh_109 : decode cX7_weigh 109 = .ok (.getfield 88, 3) := by decide +kernel
theorem dX7_weigh_112 : decode cX7_weigh 112 = .ok (.iload_n 1, 1) := by decide +kernel
theorem dX7_weigh_113 : decode cX7_weigh 113 = .ok (.invokevirtual 307, 3) := by decide +kernel
theorem dX7_weigh_116 : decode cX7_weigh 116 = .ok (.iadd, 1) := by decide +kernel
theorem dX7_weigh_117 : decode cX7_weigh 117 = .ok (.iastore, 1) := by decide +kernel
theorem dX7_weigh_118 : decode cX7_weigh 118 = .ok (.aload_n 0, 1) := by decide +kernel
theorem dX7_weigh_119 : decode cX7_weigh 119 = .ok (.getfield 61, 3) := by decide +kernel
theorem dX7_weigh_122 : decode cX7_weigh 122 = .ok (.iload 4, 2) := by decide +kernel
theorem dX7_weigh_124 : decode cX7_weigh 124 = .ok (.dup2, 1) := by decide +kernel
theorem dX7_weigh_125 : decode cX7_weigh 125 = .ok (.iaload, 1) := by decide +kernel
theorem dX7_weigh_126 : decode cX7_weigh 126 = .ok (.aload_n 0, 1) := by decide +kernel
theorem dX7_weigh_127 : decode cX7_weigh 127 = .ok (.getfield 50, 3) := by decide +kernel
theorem dX7_weigh_130 : decode cX7_weigh 130 = .ok (.aload_n 0, 1) := by decide +kernel
theorem dX7_weigh_131 : decode cX7_weigh 131 = .ok (.getfield 36, 3) := by decide +kernel
theorem dX7_weigh_134 : decode cX7_weigh 134 = .ok (.getfield 88, 3) := by decide +kernel
theorem dX7_weigh_137 : decode cX7_weigh 137 = .ok (.iload_n 2, 1) := by decide +kernel
theorem dX7_weigh_138 : decode cX7_weigh 138 = .ok (.invokevirtual 307, 3) := by decide +kernel
theorem dX7_weigh_141 : decode cX7_weigh 141 = .ok (.iadd, 1) := by decide +kernel
theorem dX7_weigh_142 : decode cX7_weigh 142 = .ok (.iastore, 1) := by decide +kernel
theorem dX7_weigh_143 : decode cX7_weigh 143 = .ok (.iinc 6 1, 3) := by decide +kernel
theorem dX7_weigh_146 : decode cX7_weigh 146 = .ok (.goto (-75), 3) := by decide +kernel
theorem dX7_weigh_149 : decode cX7_weigh 149 = .ok (.return_, 1) := by decide +kernel
theorem dX7_isRest_0 : decode cX7_isRest 0 = .ok (.iload_n 1, 1) := by decide +kernel
theorem dX7_isRest_1 : decode cX7_isRest 1 = .ok (.iconst 5, 1) := by decide +kernel
theorem dX7_isRest_2 : decode cX7_isRest 2 = .ok (.idiv, 1) := by decide +kernel
theorem dX7_isRest_3 : decode cX7_isRest 3 = .ok (.iconst 5, 1) := by decide +kernel
theorem dX7_isRest_4 : decode cX7_isRest 4 = .ok (.imul, 1) := by decide +kernel
theorem dX7_isRest_5 : decode cX7_isRest 5 = .ok (.istore_n 2, 1) := by decide +kernel
theorem dX7_isRest_6 : decode cX7_isRest 6 = .ok (.iload_n 1, 1) := by decide +kernel
theorem dX7_isRest_7 : decode cX7_isRest 7 = .ok (.iconst 5, 1) := by decide +kernel
theorem dX7_isRest_8 : decode cX7_isRest 8 = .ok (.irem, 1) := by decide +kernel
theorem dX7_isRest_9 : decode cX7_isRest 9 = .ok (.istore_n 3, 1) := by decide +kernel
theorem dX7_isRest_10 : decode cX7_isRest 10 = .ok (.iconst 0, 1) := by decide +kernel
theorem dX7_isRest_11 : decode cX7_isRest 11 = .ok (.istore 4, 2) := by decide +kernel
theorem dX7_isRest_13 : decode cX7_isRest 13 = .ok (.iload 4, 2) := by decide +kernel
theorem dX7_isRest_15 : decode cX7_isRest 15 = .ok (.iconst 5, 1) := by decide +kernel
theorem dX7_isRest_16 : decode cX7_isRest 16 = .ok (.if_icmp .ge 49, 3) := by decide +kernel
theorem dX7_isRest_19 : decode cX7_isRest 19 = .ok (.aload_n 0, 1) := by decide +kernel
theorem dX7_isRest_20 : decode cX7_isRest 20 = .ok (.getfield 58, 3) := by decide +kernel
theorem dX7_isRest_23 : decode cX7_isRest 23 = .ok (.iload 4, 2) := by decide +kernel
theorem dX7_isRest_25 : decode cX7_isRest 25 = .ok (.iconst 5, 1) := by decide +kernel
theorem dX7_isRest_26 : decode cX7_isRest 26 = .ok (.imul, 1) := by decide +kernel
theorem dX7_isRest_27 : decode cX7_isRest 27 = .ok (.iload_n 3, 1) := by decide +kernel
theorem dX7_isRest_28 : decode cX7_isRest 28 = .ok (.iadd, 1) := by decide +kernel
theorem dX7_isRest_29 : decode cX7_isRest 29 = .ok (.iaload, 1) := by decide +kernel
theorem dX7_isRest_30 : decode cX7_isRest 30 = .ok (.aload_n 0, 1) := by decide +kernel
theorem dX7_isRest_31 : decode cX7_isRest 31 = .ok (.getfield 58, 3) := by decide +kernel
theorem dX7_isRest_34 : decode cX7_isRest 34 = .ok (.iload_n 1, 1) := by decide +kernel
theorem dX7_isRest_35 : decode cX7_isRest 35 = .ok (.iaload, 1) := by decide +kernel
theorem dX7_isRest_36 : decode cX7_isRest 36 = .ok (.if_icmp .gt 21, 3) := by decide +kernel
theorem dX7_isRest_39 : decode cX7_isRest 39 = .ok (.aload_n 0, 1) := by decide +kernel
theorem dX7_isRest_40 : decode cX7_isRest 40 = .ok (.getfield 61, 3) := by decide +kernel
theorem dX7_isRest_43 : decode cX7_isRest 43 = .ok (.iload_n 2, 1) := by decide +kernel
theorem dX7_isRest_44 : decode cX7_isRest 44 = .ok (.iload 4, 2) := by decide +kernel
theorem dX7_isRest_46 : decode cX7_isRest 46 = .ok (.iadd, 1) := by decide +kernel
theorem dX7_isRest_47 : decode cX7_isRest 47 = .ok (.iaload, 1) := by decide +kernel
theorem dX7_isRest_48 : decode cX7_isRest 48 = .ok (.aload_n 0, 1) := by decide +kernel
theorem dX7_isRest_49 : decode cX7_isRest 49 = .ok (.getfield 61, 3) := by decide +kernel
theorem dX7_isRest_52 : decode cX7_isRest 52 = .ok (.iload_n 1, 1) := by decide +kernel
theorem dX7_isRest_53 : decode cX7_isRest 53 = .ok (.iaload, 1) := by decide +kernel
theorem dX7_isRest_54 : decode cX7_isRest 54 = .ok (.if_icmp .le 5, 3) := by decide +kernel
theorem dX7_isRest_57 : decode cX7_isRest 57 = .ok (.iconst 0, 1) := by decide +kernel
theorem dX7_isRest_58 : decode cX7_isRest 58 = .ok (.ireturn, 1) := by decide +kernel
theorem dX7_isRest_59 : decode cX7_isRest 59 = .ok (.iinc 4 1, 3) := by decide +kernel
theorem dX7_isRest_62 : decode cX7_isRest 62 = .ok (.goto (-49), 3) := by decide +kernel
theorem dX7_isRest_65 : decode cX7_isRest 65 = .ok (.iconst 1, 1) := by decide +kernel
theorem dX7_isRest_66 : decode cX7_isRest 66 = .ok (.ireturn, 1) := by decide +kernel
theorem dX7_share_0 : decode cX7_share 0 = .ok (.aload_n 0, 1) := by decide +kernel
theorem dX7_share_1 : decode cX7_share 1 = .ok (.getfield 36, 3) := by decide +kernel
theorem dX7_share_4 : decode cX7_share 4 = .ok (.getfield 88, 3) := by decide +kernel
theorem dX7_share_7 : decode cX7_share 7 = .ok (.getfield 112, 3) := by decide +kernel
theorem dX7_share_10 : decode cX7_share 10 = .ok (.iload_n 1, 1) := by decide +kernel
theorem dX7_share_11 : decode cX7_share 11 = .ok (.iaload, 1) := by decide +kernel
theorem dX7_share_12 : decode cX7_share 12 = .ok (.i2l, 1) := by decide +kernel
theorem dX7_share_13 : decode cX7_share 13 = .ok (.aload_n 0, 1) := by decide +kernel
theorem dX7_share_14 : decode cX7_share 14 = .ok (.getfield 36, 3) := by decide +kernel
theorem dX7_share_17 : decode cX7_share 17 = .ok (.getfield 106, 3) := by decide +kernel
theorem dX7_share_20 : decode cX7_share 20 = .ok (.aload_n 0, 1) := by decide +kernel
theorem dX7_share_21 : decode cX7_share 21 = .ok (.getfield 36, 3) := by decide +kernel
theorem dX7_share_24 : decode cX7_share 24 = .ok (.getfield 88, 3) := by decide +kernel
theorem dX7_share_27 : decode cX7_share 27 = .ok (.iload_n 1, 1) := by decide +kernel
theorem dX7_share_28 : decode cX7_share 28 = .ok (.invokevirtual 115, 3) := by decide +kernel
theorem dX7_share_31 : decode cX7_share 31 = .ok (.i2l, 1) := by decide +kernel
theorem dX7_share_32 : decode cX7_share 32 = .ok (.lmul, 1) := by decide +kernel
theorem dX7_share_33 : decode cX7_share 33 = .ok (.lreturn, 1) := by decide +kernel
theorem dX7_notesHold_0 : decode cX7_notesHold 0 = .ok (.aload_n 0, 1) := by decide +kernel
theorem dX7_notesHold_1 : decode cX7_notesHold 1 = .ok (.getfield 36, 3) := by decide +kernel
theorem dX7_notesHold_4 : decode cX7_notesHold 4 = .ok (.invokevirtual 310, 3) := by decide +kernel
theorem dX7_notesHold_7 : decode cX7_notesHold 7 = .ok (.istore_n 2, 1) := by decide +kernel
theorem dX7_notesHold_8 : decode cX7_notesHold 8 = .ok (.iconst 0, 1) := by decide +kernel
theorem dX7_notesHold_9 : decode cX7_notesHold 9 = .ok (.istore_n 3, 1) := by decide +kernel
theorem dX7_notesHold_10 : decode cX7_notesHold 10 = .ok (.iload_n 3, 1) := by decide +kernel
theorem dX7_notesHold_11 : decode cX7_notesHold 11 = .ok (.iload_n 2, 1) := by decide +kernel
theorem dX7_notesHold_12 : decode cX7_notesHold 12 = .ok (.if_icmp .gt 41, 3) := by decide +kernel
theorem dX7_notesHold_15 : decode cX7_notesHold 15 = .ok (.aload_n 0, 1) := by decide +kernel
theorem dX7_notesHold_16 : decode cX7_notesHold 16 = .ok (.getfield 36, 3) := by decide +kernel
theorem dX7_notesHold_19 : decode cX7_notesHold 19 = .ok (.iload_n 3, 1) := by decide +kernel
theorem dX7_notesHold_20 : decode cX7_notesHold 20 = .ok (.aload_n 0, 1) := by decide +kernel
theorem dX7_notesHold_21 : decode cX7_notesHold 21 = .ok (.getfield 50, 3) := by decide +kernel
theorem dX7_notesHold_24 : decode cX7_notesHold 24 = .ok (.invokevirtual 313, 3) := by decide +kernel
theorem dX7_notesHold_27 : decode cX7_notesHold 27 = .ok (.ifCond .ne 5, 3) := by decide +kernel
theorem dX7_notesHold_30 : decode cX7_notesHold 30 = .ok (.iconst 0, 1) := by decide +kernel
theorem dX7_notesHold_31 : decode cX7_notesHold 31 = .ok (.ireturn, 1) := by decide +kernel
theorem dX7_notesHold_32 : decode cX7_notesHold 32 = .ok (.aload_n 0, 1) := by decide +kernel
theorem dX7_notesHold_33 : decode cX7_notesHold 33 = .ok (.getfield 50, 3) := by decide +kernel
theorem dX7_notesHold_36 : decode cX7_notesHold 36 = .ok (.aload_n 0, 1) := by decide +kernel
theorem dX7_notesHold_37 : decode cX7_notesHold 37 = .ok (.getfield 36, 3) := by decide +kernel
theorem dX7_notesHold_40 : decode cX7_notesHold 40 = .ok (.getfield 88, 3) := by decide +kernel
theorem dX7_notesHold_43 : decode cX7_notesHold 43 = .ok (.aload_n 1, 1) := by decide +kernel
theorem dX7_notesHold_44 : decode cX7_notesHold 44 = .ok (.invokevirtual 203, 3) := by decide +kernel
theorem dX7_notesHold_47 : decode cX7_notesHold 47 = .ok (.iinc 3 1, 3) := by decide +kernel
theorem dX7_notesHold_50 : decode cX7_notesHold 50 = .ok (.goto (-40), 3) := by decide +kernel
theorem dX7_notesHold_53 : decode cX7_notesHold 53 = .ok (.iconst 1, 1) := by decide +kernel
theorem dX7_notesHold_54 : decode cX7_notesHold 54 = .ok (.ireturn, 1) := by decide +kernel
theorem dX7_rulesThatHold_0 : decode cX7_rulesThatHold 0 = .ok (.iconst 0, 1) := by decide +kernel
theorem dX7_rulesThatHold_1 : decode cX7_rulesThatHold 1 = .ok (.istore_n 1, 1) := by decide +kernel
theorem dX7_rulesThatHold_2 : decode cX7_rulesThatHold 2 = .ok (.iconst (-1), 1) := by decide +kernel
theorem dX7_rulesThatHold_3 : decode cX7_rulesThatHold 3 = .ok (.istore_n 2, 1) := by decide +kernel
theorem dX7_rulesThatHold_4 : decode cX7_rulesThatHold 4 = .ok (.iload_n 2, 1) := by decide +kernel
theorem dX7_rulesThatHold_5 : decode cX7_rulesThatHold 5 = .ok (.aload_n 0, 1) := by decide +kernel
theorem dX7_rulesThatHold_6 : decode cX7_rulesThatHold 6 = .ok (.getfield 22, 3) := by decide +kernel
theorem dX7_rulesThatHold_9 : decode cX7_rulesThatHold 9 = .ok (.if_icmp .ge 43, 3) := by decide +kernel
theorem dX7_rulesThatHold_12 : decode cX7_rulesThatHold 12 = .ok (.aload_n 0, 1) := by decide +kernel
theorem dX7_rulesThatHold_13 : decode cX7_rulesThatHold 13 = .ok (.getfield 50, 3) := by decide +kernel
theorem dX7_rulesThatHold_16 : decode cX7_rulesThatHold 16 = .ok (.aload_n 0, 1) := by decide +kernel
theorem dX7_rulesThatHold_17 : decode cX7_rulesThatHold 17 = .ok (.getfield 36, 3) := by decide +kernel
theorem dX7_rulesThatHold_20 : decode cX7_rulesThatHold 20 = .ok (.getfield 88, 3) := by decide +kernel
theorem dX7_rulesThatHold_23 : decode cX7_rulesThatHold 23 = .ok (.invokevirtual 275, 3) := by decide +kernel
theorem dX7_rulesThatHold_26 : decode cX7_rulesThatHold 26 = .ok (.aload_n 0, 1) := by decide +kernel
theorem dX7_rulesThatHold_27 : decode cX7_rulesThatHold 27 = .ok (.aload_n 0, 1) := by decide +kernel
theorem dX7_rulesThatHold_28 : decode cX7_rulesThatHold 28 = .ok (.iload_n 2, 1) := by decide +kernel
theorem dX7_rulesThatHold_29 : decode cX7_rulesThatHold 29 = .ok (.invokevirtual 300, 3) := by decide +kernel
theorem dX7_rulesThatHold_32 : decode cX7_rulesThatHold 32 = .ok (.invokevirtual 278, 3) := by decide +kernel
theorem dX7_rulesThatHold_35 : decode cX7_rulesThatHold 35 = .ok (.ifCond .eq 11, 3) := by decide +kernel
theorem dX7_rulesThatHold_38 : decode cX7_rulesThatHold 38 = .ok (.iload_n 1, 1) := by decide +kernel
theorem dX7_rulesThatHold_39 : decode cX7_rulesThatHold 39 = .ok (.iconst 1, 1) := by decide +kernel
theorem dX7_rulesThatHold_40 : decode cX7_rulesThatHold 40 = .ok (.iload_n 2, 1) := by decide +kernel
theorem dX7_rulesThatHold_41 : decode cX7_rulesThatHold 41 = .ok (.iconst 1, 1) := by decide +kernel
theorem dX7_rulesThatHold_42 : decode cX7_rulesThatHold 42 = .ok (.iadd, 1) := by decide +kernel
theorem dX7_rulesThatHold_43 : decode cX7_rulesThatHold 43 = .ok (.ishl, 1) := by decide +kernel
theorem dX7_rulesThatHold_44 : decode cX7_rulesThatHold 44 = .ok (.ior, 1) := by decide +kernel
theorem dX7_rulesThatHold_45 : decode cX7_rulesThatHold 45 = .ok (.istore_n 1, 1) := by decide +kernel
theorem dX7_rulesThatHold_46 : decode cX7_rulesThatHold 46 = .ok (.iinc 2 1, 3) := by decide +kernel
theorem dX7_rulesThatHold_49 : decode cX7_rulesThatHold 49 = .ok (.goto (-45), 3) := by decide +kernel
theorem dX7_rulesThatHold_52 : decode cX7_rulesThatHold 52 = .ok (.iload_n 1, 1) := by decide +kernel
theorem dX7_rulesThatHold_53 : decode cX7_rulesThatHold 53 = .ok (.ireturn, 1) := by decide +kernel
theorem dX7_countAlike_0 : decode cX7_countAlike 0 = .ok (.iconst 0, 1) := by decide +kernel
theorem dX7_countAlike_1 : decode cX7_countAlike 1 = .ok (.istore_n 3, 1) := by decide +kernel
theorem dX7_countAlike_2 : decode cX7_countAlike 2 = .ok (.iload_n 3, 1) := by decide +kernel
theorem dX7_countAlike_3 : decode cX7_countAlike 3 = .ok (.aload_n 0, 1) := by decide +kernel
theorem dX7_countAlike_4 : decode cX7_countAlike 4 = .ok (.getfield 64, 3) := by decide +kernel
theorem dX7_countAlike_7 : decode cX7_countAlike 7 = .ok (.arraylength, 1) := by decide +kernel
theorem dX7_countAlike_8 : decode cX7_countAlike 8 = .ok (.if_icmp .ge 16, 3) := by decide +kernel
theorem dX7_countAlike_11 : decode cX7_countAlike 11 = .ok (.aload_n 0, 1) := by decide +kernel
theorem dX7_countAlike_12 : decode cX7_countAlike 12 = .ok (.getfield 64, 3) := by decide +kernel
theorem dX7_countAlike_15 : decode cX7_countAlike 15 = .ok (.iload_n 3, 1) := by decide +kernel
theorem dX7_countAlike_16 : decode cX7_countAlike 16 = .ok (.iconst 0, 1) := by decide +kernel
theorem dX7_countAlike_17 : decode cX7_countAlike 17 = .ok (.iastore, 1) := by decide +kernel
theorem dX7_countAlike_18 : decode cX7_countAlike 18 = .ok (.iinc 3 1, 3) := by decide +kernel
theorem dX7_countAlike_21 : decode cX7_countAlike 21 = .ok (.goto (-19), 3) := by decide +kernel
theorem dX7_countAlike_24 : decode cX7_countAlike 24 = .ok (.iconst (-1), 1) := by decide +kernel
theorem dX7_countAlike_25 : decode cX7_countAlike 25 = .ok (.istore_n 3, 1) := by decide +kernel
theorem dX7_countAlike_26 : decode cX7_countAlike 26 = .ok (.iload_n 3, 1) := by decide +kernel
theorem dX7_countAlike_27 : decode cX7_countAlike 27 = .ok (.aload_n 0, 1) := by decide +kernel
theorem dX7_countAlike_28 : decode cX7_countAlike 28 = .ok (.getfield 22, 3) := by decide +kernel
theorem dX7_countAlike_31 : decode cX7_countAlike 31 = .ok (.if_icmp .ge 94, 3) := by decide +kernel
theorem dX7_countAlike_34 : decode cX7_countAlike 34 = .ok (.iload_n 1, 1) := by decide +kernel
theorem dX7_countAlike_35 : decode cX7_countAlike 35 = .ok (.iload_n 3, 1) := by decide +kernel
theorem dX7_countAlike_36 : decode cX7_countAlike 36 = .ok (.iconst 1, 1) := by decide +kernel
theorem dX7_countAlike_37 : decode cX7_countAlike 37 = .ok (.iadd, 1) := by decide +kernel
theorem dX7_countAlike_38 : decode cX7_countAlike 38 = .ok (.ishr, 1) := by decide +kernel
theorem dX7_countAlike_39 : decode cX7_countAlike 39 = .ok (.iconst 1, 1) := by decide +kernel
theorem dX7_countAlike_40 : decode cX7_countAlike 40 = .ok (.iand, 1) := by decide +kernel
theorem dX7_countAlike_41 : decode cX7_countAlike 41 = .ok (.ifCond .eq 78, 3) := by decide +kernel
theorem dX7_countAlike_44 : decode cX7_countAlike 44 = .ok (.aload_n 0, 1) := by decide +kernel
theorem dX7_countAlike_45 : decode cX7_countAlike 45 = .ok (.getfield 50, 3) := by decide +kernel
theorem dX7_countAlike_48 : decode cX7_countAlike 48 = .ok (.aload_n 0, 1) := by decide +kernel
theorem dX7_countAlike_49 : decode cX7_countAlike 49 = .ok (.getfield 36, 3) := by decide +kernel
theorem dX7_countAlike_52 : decode cX7_countAlike 52 = .ok (.getfield 88, 3) := by decide +kernel
theorem dX7_countAlike_55 : decode cX7_countAlike 55 = .ok (.invokevirtual 275, 3) := by decide +kernel
theorem dX7_countAlike_58 : decode cX7_countAlike 58 = .ok (.aload_n 0, 1) := by decide +kernel
theorem dX7_countAlike_59 : decode cX7_countAlike 59 = .ok (.iload_n 2, 1) := by decide +kernel
theorem dX7_countAlike_60 : decode cX7_countAlike 60 = .ok (.aload_n 0, 1) := by decide +kernel
theorem dX7_countAlike_61 : decode cX7_countAlike 61 = .ok (.iload_n 3, 1) := by decide +kernel
theorem dX7_countAlike_62 : decode cX7_countAlike 62 = .ok (.invokevirtual 300, 3) := by decide +kernel
theorem dX7_countAlike_65 : decode cX7_countAlike 65 = .ok (.invokevirtual 220, 3) := by decide +kernel
theorem dX7_countAlike_68 : decode cX7_countAlike 68 = .ok (.iconst 0, 1) := by decide +kernel
theorem dX7_countAlike_69 : decode cX7_countAlike 69 = .ok (.istore 4, 2) := by decide +kernel
theorem dX7_countAlike_71 : decode cX7_countAlike 71 = .ok (.iload 4, 2) := by decide +kernel
theorem dX7_countAlike_73 : decode cX7_countAlike 73 = .ok (.aload_n 0, 1) := by decide +kernel
theorem dX7_countAlike_74 : decode cX7_countAlike 74 = .ok (.getfield 36, 3) := by decide +kernel
theorem dX7_countAlike_77 : decode cX7_countAlike 77 = .ok (.getfield 88, 3) := by decide +kernel
theorem dX7_countAlike_80 : decode cX7_countAlike 80 = .ok (.getfield 164, 3) := by decide +kernel
theorem dX7_countAlike_83 : decode cX7_countAlike 83 = .ok (.if_icmp .ge 36, 3) := by decide +kernel
theorem dX7_countAlike_86 : decode cX7_countAlike 86 = .ok (.aload_n 0, 1) := by decide +kernel
theorem dX7_countAlike_87 : decode cX7_countAlike 87 = .ok (.getfield 64, 3) := by decide +kernel
theorem dX7_countAlike_90 : decode cX7_countAlike 90 = .ok (.iload 4, 2) := by decide +kernel
theorem dX7_countAlike_92 : decode cX7_countAlike 92 = .ok (.bipush 7, 2) := by decide +kernel
theorem dX7_countAlike_94 : decode cX7_countAlike 94 = .ok (.imul, 1) := by decide +kernel
theorem dX7_countAlike_95 : decode cX7_countAlike 95 = .ok (.aload_n 0, 1) := by decide +kernel
theorem dX7_countAlike_96 : decode cX7_countAlike 96 = .ok (.getfield 50, 3) := by decide +kernel
theorem dX7_countAlike_99 : decode cX7_countAlike 99 = .ok (.getfield 137, 3) := by decide +kernel
theorem dX7_countAlike_102 : decode cX7_countAlike 102 = .ok (.iload 4, 2) := by decide +kernel
theorem dX7_countAlike_104 : decode cX7_countAlike 104 = .ok (.iaload, 1) := by decide +kernel
theorem dX7_countAlike_105 : decode cX7_countAlike 105 = .ok (.iadd, 1) := by decide +kernel
theorem dX7_countAlike_106 : decode cX7_countAlike 106 = .ok (.iconst 1, 1) := by decide +kernel
theorem dX7_countAlike_107 : decode cX7_countAlike 107 = .ok (.iadd, 1) := by decide +kernel
theorem dX7_countAlike_108 : decode cX7_countAlike 108 = .ok (.dup2, 1) := by decide +kernel
theorem dX7_countAlike_109 : decode cX7_countAlike 109 = .ok (.iaload, 1) := by decide +kernel
theorem dX7_countAlike_110 : decode cX7_countAlike 110 = .ok (.iconst 1, 1) := by decide +kernel
theorem dX7_countAlike_111 : decode cX7_countAlike 111 = .ok (.iadd, 1) := by decide +kernel
theorem dX7_countAlike_112 : decode cX7_countAlike 112 = .ok (.iastore, 1) := by decide +kernel
theorem dX7_countAlike_113 : decode cX7_countAlike 113 = .ok (.iinc 4 1, 3) := by decide +kernel
theorem dX7_countAlike_116 : decode cX7_countAlike 116 = .ok (.goto (-45), 3) := by decide +kernel
theorem dX7_countAlike_119 : decode cX7_countAlike 119 = .ok (.iinc 3 1, 3) := by decide +kernel
theorem dX7_countAlike_122 : decode cX7_countAlike 122 = .ok (.goto (-96), 3) := by decide +kernel
theorem dX7_countAlike_125 : decode cX7_countAlike 125 = .ok (.return_, 1) := by decide +kernel
theorem dX7_mostAlike_0 : decode cX7_mostAlike 0 = .ok (.iconst 0, 1) := by decide +kernel
theorem dX7_mostAlike_1 : decode cX7_mostAlike 1 = .ok (.istore_n 2, 1) := by decide +kernel
theorem dX7_mostAlike_2 : decode cX7_mostAlike 2 = .ok (.iconst 0, 1) := by decide +kernel
theorem dX7_mostAlike_3 : decode cX7_mostAlike 3 = .ok (.istore_n 3, 1) := by decide +kernel
theorem dX7_mostAlike_4 : decode cX7_mostAlike 4 = .ok (.iload_n 3, 1) := by decide +kernel
theorem dX7_mostAlike_5 : decode cX7_mostAlike 5 = .ok (.bipush 6, 2) := by decide +kernel
theorem dX7_mostAlike_7 : decode cX7_mostAlike 7 = .ok (.if_icmp .gt 25, 3) := by decide +kernel
theorem dX7_mostAlike_10 : decode cX7_mostAlike 10 = .ok (.iload_n 2, 1) := by decide +kernel
theorem dX7_mostAlike_11 : decode cX7_mostAlike 11 = .ok (.aload_n 0, 1) := by decide +kernel
theorem dX7_mostAlike_12 : decode cX7_mostAlike 12 = .ok (.getfield 64, 3) := by decide +kernel
theorem dX7_mostAlike_15 : decode cX7_mostAlike 15 = .ok (.iload_n 1, 1) := by decide +kernel
theorem dX7_mostAlike_16 : decode cX7_mostAlike 16 = .ok (.bipush 7, 2) := by decide +kernel
theorem dX7_mostAlike_18 : decode cX7_mostAlike 18 = .ok (.imul, 1) := by decide +kernel
theorem dX7_mostAlike_19 : decode cX7_mostAlike 19 = .ok (.iload_n 3, 1) := by decide +kernel
theorem dX7_mostAlike_20 : decode cX7_mostAlike 20 = .ok (.iadd, 1) := by decide +kernel
theorem dX7_mostAlike_21 : decode cX7_mostAlike 21 = .ok (.iaload, 1) := by decide +kernel
theorem dX7_mostAlike_22 : decode cX7_mostAlike 22 = .ok (.invokestatic 317, 3) := by decide +kernel
theorem dX7_mostAlike_25 : decode cX7_mostAlike 25 = .ok (.istore_n 2, 1) := by decide +kernel
theorem dX7_mostAlike_26 : decode cX7_mostAlike 26 = .ok (.iinc 3 1, 3) := by decide +kernel
theorem dX7_mostAlike_29 : decode cX7_mostAlike 29 = .ok (.goto (-25), 3) := by decide +kernel
theorem dX7_mostAlike_32 : decode cX7_mostAlike 32 = .ok (.iload_n 2, 1) := by decide +kernel
theorem dX7_mostAlike_33 : decode cX7_mostAlike 33 = .ok (.ireturn, 1) := by decide +kernel
theorem dX7_drawn_0 : decode cX7_drawn 0 = .ok (.iload_n 0, 1) := by decide +kernel
theorem dX7_drawn_1 : decode cX7_drawn 1 = .ok (.i2l, 1) := by decide +kernel
theorem dX7_drawn_2 : decode cX7_drawn 2 = .ok (.ldc2_w 323, 3) := by decide +kernel
theorem dX7_drawn_5 : decode cX7_drawn 5 = .ok (.lmul, 1) := by decide +kernel
theorem dX7_drawn_6 : decode cX7_drawn 6 = .ok (.ldc2_w 325, 3) := by decide +kernel
theorem dX7_drawn_9 : decode cX7_drawn 9 = .ok (.ladd, 1) := by decide +kernel
theorem dX7_drawn_10 : decode cX7_drawn 10 = .ok (.ldc2_w 327, 3) := by decide +kernel
theorem dX7_drawn_13 : decode cX7_drawn 13 = .ok (.lrem, 1) := by decide +kernel
theorem dX7_drawn_14 : decode cX7_drawn 14 = .ok (.l2i, 1) := by decide +kernel
theorem dX7_drawn_15 : decode cX7_drawn 15 = .ok (.ireturn, 1) := by decide +kernel
