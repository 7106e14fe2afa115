theorem dX0_init_0 : decode cX0_init 0 = .ok (.aload_n 0, 1) := by decide +kernel
theorem dX0_init_1 : decode cX0_init 1 = .ok (.iload_n 1, 1) := by decide +kernel
theorem dX0_init_2 : decode cX0_init 2 = .ok (.iload_n 2, 1) := by decide +kernel
theorem dX0_init_3 : decode cX0_init 3 = .ok (.iload_n 3, 1) := by decide +kernel
theorem dX0_init_4 : decode cX0_init 4 = .ok (.invokespecial 1, 3) := by decide +kernel
theorem dX0_init_7 : decode cX0_init 7 = .ok (.return_, 1) := by decide +kernel
theorem dX0_speak_0 : decode cX0_speak 0 = .ok (.aload_n 2, 1) := by decide +kernel
theorem dX0_speak_1 : decode cX0_speak 1 = .ok (.bipush 60, 2) := by decide +kernel
theorem dX0_speak_3 : decode cX0_speak 3 = .ok (.invokevirtual 7, 3) := by decide +kernel
theorem dX0_speak_6 : decode cX0_speak 6 = .ok (.aload_n 0, 1) := by decide +kernel
theorem dX0_speak_7 : decode cX0_speak 7 = .ok (.iload_n 1, 1) := by decide +kernel
theorem dX0_speak_8 : decode cX0_speak 8 = .ok (.aload_n 2, 1) := by decide +kernel
theorem dX0_speak_9 : decode cX0_speak 9 = .ok (.invokespecial 13, 3) := by decide +kernel
theorem dX0_speak_12 : decode cX0_speak 12 = .ok (.iconst 5, 1) := by decide +kernel
theorem dX0_speak_13 : decode cX0_speak 13 = .ok (.ixor, 1) := by decide +kernel
theorem dX0_speak_14 : decode cX0_speak 14 = .ok (.ireturn, 1) := by decide +kernel
theorem dX0_walk_0 : decode cX0_walk 0 = .ok (.aload_n 2, 1) := by decide +kernel
theorem dX0_walk_1 : decode cX0_walk 1 = .ok (.bipush 61, 2) := by decide +kernel
theorem dX0_walk_3 : decode cX0_walk 3 = .ok (.invokevirtual 7, 3) := by decide +kernel
theorem dX0_walk_6 : decode cX0_walk 6 = .ok (.aload_n 0, 1) := by decide +kernel
theorem dX0_walk_7 : decode cX0_walk 7 = .ok (.iload_n 1, 1) := by decide +kernel
theorem dX0_walk_8 : decode cX0_walk 8 = .ok (.aload_n 2, 1) := by decide +kernel
theorem dX0_walk_9 : decode cX0_walk 9 = .ok (.invokespecial 17, 3) := by decide +kernel
theorem dX0_walk_12 : decode cX0_walk 12 = .ok (.aload_n 0, 1) := by decide +kernel
theorem dX0_walk_13 : decode cX0_walk 13 = .ok (.iconst 1, 1) := by decide +kernel
theorem dX0_walk_14 : decode cX0_walk 14 = .ok (.aload_n 2, 1) := by decide +kernel
theorem dX0_walk_15 : decode cX0_walk 15 = .ok (.invokevirtual 20, 3) := by decide +kernel
theorem dX0_walk_18 : decode cX0_walk 18 = .ok (.iadd, 1) := by decide +kernel
theorem dX0_walk_19 : decode cX0_walk 19 = .ok (.ireturn, 1) := by decide +kernel
theorem dX1_init_0 : decode cX1_init 0 = .ok (.aload_n 0, 1) := by decide +kernel
theorem dX1_init_1 : decode cX1_init 1 = .ok (.iload_n 1, 1) := by decide +kernel
theorem dX1_init_2 : decode cX1_init 2 = .ok (.iload_n 2, 1) := by decide +kernel
theorem dX1_init_3 : decode cX1_init 3 = .ok (.iload_n 3, 1) := by decide +kernel
theorem dX1_init_4 : decode cX1_init 4 = .ok (.invokespecial 1, 3) := by decide +kernel
theorem dX1_init_7 : decode cX1_init 7 = .ok (.return_, 1) := by decide +kernel
theorem dX1_bow_0 : decode cX1_bow 0 = .ok (.aload_n 2, 1) := by decide +kernel
theorem dX1_bow_1 : decode cX1_bow 1 = .ok (.bipush 50, 2) := by decide +kernel
theorem dX1_bow_3 : decode cX1_bow 3 = .ok (.invokevirtual 7, 3) := by decide +kernel
theorem dX1_bow_6 : decode cX1_bow 6 = .ok (.aload_n 0, 1) := by decide +kernel
theorem dX1_bow_7 : decode cX1_bow 7 = .ok (.iload_n 1, 1) := by decide +kernel
theorem dX1_bow_8 : decode cX1_bow 8 = .ok (.aload_n 2, 1) := by decide +kernel
theorem dX1_bow_9 : decode cX1_bow 9 = .ok (.invokevirtual 13, 3) := by decide +kernel
theorem dX1_bow_12 : decode cX1_bow 12 = .ok (.aload_n 0, 1) := by decide +kernel
theorem dX1_bow_13 : decode cX1_bow 13 = .ok (.iload_n 1, 1) := by decide +kernel
theorem dX1_bow_14 : decode cX1_bow 14 = .ok (.aload_n 2, 1) := by decide +kernel
theorem dX1_bow_15 : decode cX1_bow 15 = .ok (.invokespecial 19, 3) := by decide +kernel
theorem dX1_bow_18 : decode cX1_bow 18 = .ok (.isub, 1) := by decide +kernel
theorem dX1_bow_19 : decode cX1_bow 19 = .ok (.ireturn, 1) := by decide +kernel
theorem dX2_init_0 : decode cX2_init 0 = .ok (.aload_n 0, 1) := by decide +kernel
theorem dX2_init_1 : decode cX2_init 1 = .ok (.iload_n 1, 1) := by decide +kernel
theorem dX2_init_2 : decode cX2_init 2 = .ok (.iload_n 2, 1) := by decide +kernel
theorem dX2_init_3 : decode cX2_init 3 = .ok (.iload_n 3, 1) := by decide +kernel
theorem dX2_init_4 : decode cX2_init 4 = .ok (.invokespecial 1, 3) := by decide +kernel
theorem dX2_init_7 : decode cX2_init 7 = .ok (.return_, 1) := by decide +kernel
theorem dX2_speak_0 : decode cX2_speak 0 = .ok (.aload_n 2, 1) := by decide +kernel
theorem dX2_speak_1 : decode cX2_speak 1 = .ok (.bipush 30, 2) := by decide +kernel
theorem dX2_speak_3 : decode cX2_speak 3 = .ok (.invokevirtual 7, 3) := by decide +kernel
theorem dX2_speak_6 : decode cX2_speak 6 = .ok (.aload_n 0, 1) := by decide +kernel
theorem dX2_speak_7 : decode cX2_speak 7 = .ok (.iload_n 1, 1) := by decide +kernel
theorem dX2_speak_8 : decode cX2_speak 8 = .ok (.aload_n 2, 1) := by decide +kernel
theorem dX2_speak_9 : decode cX2_speak 9 = .ok (.invokespecial 13, 3) := by decide +kernel
theorem dX2_speak_12 : decode cX2_speak 12 = .ok (.iconst 1, 1) := by decide +kernel
theorem dX2_speak_13 : decode cX2_speak 13 = .ok (.isub, 1) := by decide +kernel
theorem dX2_speak_14 : decode cX2_speak 14 = .ok (.ireturn, 1) := by decide +kernel
theorem dX2_bow_0 : decode cX2_bow 0 = .ok (.aload_n 2, 1) := by decide +kernel
theorem dX2_bow_1 : decode cX2_bow 1 = .ok (.bipush 31, 2) := by decide +kernel
theorem dX2_bow_3 : decode cX2_bow 3 = .ok (.invokevirtual 7, 3) := by decide +kernel
theorem dX2_bow_6 : decode cX2_bow 6 = .ok (.aload_n 0, 1) := by decide +kernel
theorem dX2_bow_7 : decode cX2_bow 7 = .ok (.iload_n 1, 1) := by decide +kernel
theorem dX2_bow_8 : decode cX2_bow 8 = .ok (.iconst 1, 1) := by decide +kernel
theorem dX2_bow_9 : decode cX2_bow 9 = .ok (.iadd, 1) := by decide +kernel
theorem dX2_bow_10 : decode cX2_bow 10 = .ok (.aload_n 2, 1) := by decide +kernel
theorem dX2_bow_11 : decode cX2_bow 11 = .ok (.invokespecial 17, 3) := by decide +kernel
theorem dX2_bow_14 : decode cX2_bow 14 = .ok (.ireturn, 1) := by decide +kernel
theorem dX3_init_0 : decode cX3_init 0 = .ok (.aload_n 0, 1) := by decide +kernel
theorem dX3_init_1 : decode cX3_init 1 = .ok (.iload_n 1, 1) := by decide +kernel
theorem dX3_init_2 : decode cX3_init 2 = .ok (.iload_n 2, 1) := by decide +kernel
theorem dX3_init_3 : decode cX3_init 3 = .ok (.iload_n 3, 1) := by decide +kernel
theorem dX3_init_4 : decode cX3_init 4 = .ok (.invokespecial 1, 3) := by decide +kernel
theorem dX3_init_7 : decode cX3_init 7 = .ok (.return_, 1) := by decide +kernel
theorem dX3_die_0 : decode cX3_die 0 = .ok (.aload_n 2, 1) := by decide +kernel
theorem dX3_die_1 : decode cX3_die 1 = .ok (.bipush 40, 2) := by decide +kernel
theorem dX3_die_3 : decode cX3_die 3 = .ok (.invokevirtual 7, 3) := by decide +kernel
theorem dX3_die_6 : decode cX3_die 6 = .ok (.aload_n 0, 1) := by decide +kernel
theorem dX3_die_7 : decode cX3_die 7 = .ok (.iload_n 1, 1) := by decide +kernel
theorem dX3_die_8 : decode cX3_die 8 = .ok (.aload_n 2, 1) := by decide +kernel
theorem dX3_die_9 : decode cX3_die 9 = .ok (.invokespecial 13, 3) := by decide +kernel
theorem dX3_die_12 : decode cX3_die 12 = .ok (.iconst 3, 1) := by decide +kernel
theorem dX3_die_13 : decode cX3_die 13 = .ok (.imul, 1) := by decide +kernel
theorem dX3_die_14 : decode cX3_die 14 = .ok (.ireturn, 1) := by decide +kernel
theorem dX3_walk_0 : decode cX3_walk 0 = .ok (.aload_n 2, 1) := by decide +kernel
theorem dX3_walk_1 : decode cX3_walk 1 = .ok (.bipush 41, 2) := by decide +kernel
theorem dX3_walk_3 : decode cX3_walk 3 = .ok (.invokevirtual 7, 3) := by decide +kernel
theorem dX3_walk_6 : decode cX3_walk 6 = .ok (.aload_n 0, 1) := by decide +kernel
theorem dX3_walk_7 : decode cX3_walk 7 = .ok (.iload_n 1, 1) := by decide +kernel
theorem dX3_walk_8 : decode cX3_walk 8 = .ok (.aload_n 0, 1) := by decide +kernel
theorem dX3_walk_9 : decode cX3_walk 9 = .ok (.getfield 17, 3) := by decide +kernel
theorem dX3_walk_12 : decode cX3_walk 12 = .ok (.isub, 1) := by decide +kernel
theorem dX3_walk_13 : decode cX3_walk 13 = .ok (.aload_n 2, 1) := by decide +kernel
theorem dX3_walk_14 : decode cX3_walk 14 = .ok (.invokespecial 23, 3) := by decide +kernel
theorem dX3_walk_17 : decode cX3_walk 17 = .ok (.ireturn, 1) := by decide +kernel
theorem dX4_init_0 : decode cX4_init 0 = .ok (.aload_n 0, 1) := by decide +kernel
theorem dX4_init_1 : decode cX4_init 1 = .ok (.invokespecial 3, 3) := by decide +kernel
theorem dX4_init_4 : decode cX4_init 4 = .ok (.aload_n 0, 1) := by decide +kernel
theorem dX4_init_5 : decode cX4_init 5 = .ok (.bipush 100, 2) := by decide +kernel
theorem dX4_init_7 : decode cX4_init 7 = .ok (.putfield 9, 3) := by decide +kernel
theorem dX4_init_10 : decode cX4_init 10 = .ok (.aload_n 0, 1) := by decide +kernel
theorem dX4_init_11 : decode cX4_init 11 = .ok (.iconst 0, 1) := by decide +kernel
theorem dX4_init_12 : decode cX4_init 12 = .ok (.putfield 15, 3) := by decide +kernel
theorem dX4_init_15 : decode cX4_init 15 = .ok (.aload_n 0, 1) := by decide +kernel
theorem dX4_init_16 : decode cX4_init 16 = .ok (.iconst 0, 1) := by decide +kernel
theorem dX4_init_17 : decode cX4_init 17 = .ok (.putfield 18, 3) := by decide +kernel
theorem dX4_init_20 : decode cX4_init 20 = .ok (.aload_n 0, 1) := by decide +kernel
theorem dX4_init_21 : decode cX4_init 21 = .ok (.iconst 0, 1) := by decide +kernel
theorem dX4_init_22 : decode cX4_init 22 = .ok (.putfield 21, 3) := by decide +kernel
theorem dX4_init_25 : decode cX4_init 25 = .ok (.aload_n 0, 1) := by decide +kernel
theorem dX4_init_26 : decode cX4_init 26 = .ok (.bipush 10, 2) := by decide +kernel
theorem dX4_init_28 : decode cX4_init 28 = .ok (.anewarray 24, 3) := by decide +kernel
theorem dX4_init_31 : decode cX4_init 31 = .ok (.putfield 26, 3) := by decide +kernel
theorem dX4_init_34 : decode cX4_init 34 = .ok (.aload_n 0, 1) := by decide +kernel
theorem dX4_init_35 : decode cX4_init 35 = .ok (.bipush 10, 2) := by decide +kernel
theorem dX4_init_37 : decode cX4_init 37 = .ok (.newarray .int, 2) := by decide +kernel
theorem dX4_init_39 : decode cX4_init 39 = .ok (.putfield 30, 3) := by decide +kernel
theorem dX4_init_42 : decode cX4_init 42 = .ok (.aload_n 0, 1) := by decide +kernel
theorem dX4_init_43 : decode cX4_init 43 = .ok (.bipush 40, 2) := by decide +kernel
theorem dX4_init_45 : decode cX4_init 45 = .ok (.newarray .int, 2) := by decide +kernel
theorem dX4_init_47 : decode cX4_init 47 = .ok (.putfield 34, 3) := by decide +kernel
theorem dX4_init_50 : decode cX4_init 50 = .ok (.aload_n 0, 1) := by decide +kernel
theorem dX4_init_51 : decode cX4_init 51 = .ok (.bipush 40, 2) := by decide +kernel
theorem dX4_init_53 : decode cX4_init 53 = .ok (.newarray .int, 2) := by decide +kernel
theorem dX4_init_55 : decode cX4_init 55 = .ok (.putfield 37, 3) := by decide +kernel
theorem dX4_init_58 : decode cX4_init 58 = .ok (.aload_n 0, 1) := by decide +kernel
theorem dX4_init_59 : decode cX4_init 59 = .ok (.bipush 40, 2) := by decide +kernel
theorem dX4_init_61 : decode cX4_init 61 = .ok (.newarray .int, 2) := by decide +kernel
theorem dX4_init_63 : decode cX4_init 63 = .ok (.putfield 40, 3) := by decide +kernel
theorem dX4_init_66 : decode cX4_init 66 = .ok (.aload_n 0, 1) := by decide +kernel
theorem dX4_init_67 : decode cX4_init 67 = .ok (.bipush 40, 2) := by decide +kernel
theorem dX4_init_69 : decode cX4_init 69 = .ok (.newarray .int, 2) := by decide +kernel
theorem dX4_init_71 : decode cX4_init 71 = .ok (.putfield 43, 3) := by decide +kernel
theorem dX4_init_74 : decode cX4_init 74 = .ok (.aload_n 0, 1) := by decide +kernel
theorem dX4_init_75 : decode cX4_init 75 = .ok (.bipush 6, 2) := by decide +kernel
theorem dX4_init_77 : decode cX4_init 77 = .ok (.newarray .int, 2) := by decide +kernel
theorem dX4_init_79 : decode cX4_init 79 = .ok (.putfield 46, 3) := by decide +kernel
theorem dX4_init_82 : decode cX4_init 82 = .ok (.aload_n 0, 1) := by decide +kernel
theorem dX4_init_83 : decode cX4_init 83 = .ok (.bipush 6, 2) := by decide +kernel
theorem dX4_init_85 : decode cX4_init 85 = .ok (.newarray .int, 2) := by decide +kernel
theorem dX4_init_87 : decode cX4_init 87 = .ok (.putfield 49, 3) := by decide +kernel
theorem dX4_init_90 : decode cX4_init 90 = .ok (.aload_n 0, 1) := by decide +kernel
theorem dX4_init_91 : decode cX4_init 91 = .ok (.bipush 6, 2) := by decide +kernel
theorem dX4_init_93 : decode cX4_init 93 = .ok (.newarray .int, 2) := by decide +kernel
theorem dX4_init_95 : decode cX4_init 95 = .ok (.putfield 52, 3) := by decide +kernel
theorem dX4_init_98 : decode cX4_init 98 = .ok (.aload_n 0, 1) := by decide +kernel
theorem dX4_init_99 : decode cX4_init 99 = .ok (.new 55, 3) := by decide +kernel
theorem dX4_init_102 : decode cX4_init 102 = .ok (.dup, 1) := by decide +kernel
theorem dX4_init_103 : decode cX4_init 103 = .ok (.bipush 50, 2) := by decide +kernel
theorem dX4_init_105 : decode cX4_init 105 = .ok (.invokespecial 57, 3) := by decide +kernel
theorem dX4_init_108 : decode cX4_init 108 = .ok (.putfield 60, 3) := by decide +kernel
theorem dX4_init_111 : decode cX4_init 111 = .ok (.aload_n 0, 1) := by decide +kernel
theorem dX4_init_112 : decode cX4_init 112 = .ok (.new 55, 3) := by decide +kernel
theorem dX4_init_115 : decode cX4_init 115 = .ok (.dup, 1) := by decide +kernel
theorem dX4_init_116 : decode cX4_init 116 = .ok (.bipush 20, 2) := by decide +kernel
theorem dX4_init_118 : decode cX4_init 118 = .ok (.invokespecial 57, 3) := by decide +kernel
theorem dX4_init_121 : decode cX4_init 121 = .ok (.putfield 64, 3) := by decide +kernel
theorem dX4_init_124 : decode cX4_init 124 = .ok (.aload_n 0, 1) := by decide +kernel
theorem dX4_init_125 : decode cX4_init 125 = .ok (.iconst 3, 1) := by decide +kernel
theorem dX4_init_126 : decode cX4_init 126 = .ok (.anewarray 55, 3) := by decide +kernel
theorem dX4_init_129 : decode cX4_init 129 = .ok (.putfield 67, 3) := by decide +kernel
theorem dX4_init_132 : decode cX4_init 132 = .ok (.iconst 0, 1) := by decide +kernel
theorem dX4_init_133 : decode cX4_init 133 = .ok (.istore_n 1, 1) := by decide +kernel
theorem dX4_init_134 : decode cX4_init 134 = .ok (.iload_n 1, 1) := by decide +kernel
theorem dX4_init_135 : decode cX4_init 135 = .ok (.iconst 3, 1) := by decide +kernel
theorem dX4_init_136 : decode cX4_init 136 = .ok (.if_icmp .ge 24, 3) := by decide +kernel
theorem dX4_init_139 : decode cX4_init 139 = .ok (.aload_n 0, 1) := by decide +kernel
theorem dX4_init_140 : decode cX4_init 140 = .ok (.getfield 67, 3) := by decide +kernel
theorem dX4_init_143 : decode cX4_init 143 = .ok (.iload_n 1, 1) := by decide +kernel
theorem dX4_init_144 : decode cX4_init 144 = .ok (.new 55, 3) := by decide +kernel
theorem dX4_init_147 : decode cX4_init 147 = .ok (.dup, 1) := by decide +kernel
theorem dX4_init_148 : decode cX4_init 148 = .ok (.bipush 50, 2) := by decide +kernel
theorem dX4_init_150 : decode cX4_init 150 = .ok (.invokespecial 57, 3) := by decide +kernel
theorem dX4_init_153 : decode cX4_init 153 = .ok (.aastore, 1) := by decide +kernel
theorem dX4_init_154 : decode cX4_init 154 = .ok (.iinc 1 1, 3) := by decide +kernel
theorem dX4_init_157 : decode cX4_init 157 = .ok (.goto (-23), 3) := by decide +kernel
theorem dX4_init_160 : decode cX4_init 160 = .ok (.return_, 1) := by decide +kernel
theorem dX4_become_0 : decode cX4_become 0 = .ok (.aload_n 0, 1) := by decide +kernel
theorem dX4_become_1 : decode cX4_become 1 = .ok (.aload_n 1, 1) := by decide +kernel
theorem dX4_become_2 : decode cX4_become 2 = .ok (.getfield 9, 3) := by decide +kernel
theorem dX4_become_5 : decode cX4_become 5 = .ok (.putfield 9, 3) := by decide +kernel
theorem dX4_become_8 : decode cX4_become 8 = .ok (.aload_n 0, 1) := by decide +kernel
theorem dX4_become_9 : decode cX4_become 9 = .ok (.aload_n 1, 1) := by decide +kernel
theorem dX4_become_10 : decode cX4_become 10 = .ok (.getfield 15, 3) := by decide +kernel
theorem dX4_become_13 : decode cX4_become 13 = .ok (.putfield 15, 3) := by decide +kernel
theorem dX4_become_16 : decode cX4_become 16 = .ok (.aload_n 0, 1) := by decide +kernel
theorem dX4_become_17 : decode cX4_become 17 = .ok (.aload_n 1, 1) := by decide +kernel
theorem dX4_become_18 : decode cX4_become 18 = .ok (.getfield 18, 3) := by decide +kernel
theorem dX4_become_21 : decode cX4_become 21 = .ok (.putfield 18, 3) := by decide +kernel
theorem dX4_become_24 : decode cX4_become 24 = .ok (.aload_n 0, 1) := by decide +kernel
theorem dX4_become_25 : decode cX4_become 25 = .ok (.aload_n 1, 1) := by decide +kernel
theorem dX4_become_26 : decode cX4_become 26 = .ok (.getfield 21, 3) := by decide +kernel
theorem dX4_become_29 : decode cX4_become 29 = .ok (.putfield 21, 3) := by decide +kernel
theorem dX4_become_32 : decode cX4_become 32 = .ok (.iconst 0, 1) := by decide +kernel
theorem dX4_become_33 : decode cX4_become 33 = .ok (.istore_n 2, 1) := by decide +kernel
theorem dX4_become_34 : decode cX4_become 34 = .ok (.iload_n 2, 1) := by decide +kernel
theorem dX4_become_35 : decode cX4_become 35 = .ok (.aload_n 0, 1) := by decide +kernel
theorem dX4_become_36 : decode cX4_become 36 = .ok (.getfield 15, 3) := by decide +kernel
theorem dX4_become_39 : decode cX4_become 39 = .ok (.if_icmp .ge 21, 3) := by decide +kernel
theorem dX4_become_42 : decode cX4_become 42 = .ok (.aload_n 0, 1) := by decide +kernel
theorem dX4_become_43 : decode cX4_become 43 = .ok (.getfield 26, 3) := by decide +kernel
theorem dX4_become_46 : decode cX4_become 46 = .ok (.iload_n 2, 1) := by decide +kernel
theorem dX4_become_47 : decode cX4_become 47 = .ok (.aload_n 1, 1) := by decide +kernel
theorem dX4_become_48 : decode cX4_become 48 = .ok (.getfield 26, 3) := by decide +kernel
theorem dX4_become_51 : decode cX4_become 51 = .ok (.iload_n 2, 1) := by decide +kernel
theorem dX4_become_52 : decode cX4_become 52 = .ok (.aaload, 1) := by decide +kernel
theorem dX4_become_53 : decode cX4_become 53 = .ok (.aastore, 1) := by decide +kernel
theorem dX4_become_54 : decode cX4_become 54 = .ok (.iinc 2 1, 3) := by decide +kernel
theorem dX4_become_57 : decode cX4_become 57 = .ok (.goto (-23), 3) := by decide +kernel
theorem dX4_become_60 : decode cX4_become 60 = .ok (.aload_n 1, 1) := by decide +kernel
theorem dX4_become_61 : decode cX4_become 61 = .ok (.getfield 30, 3) := by decide +kernel
theorem dX4_become_64 : decode cX4_become 64 = .ok (.iconst 0, 1) := by decide +kernel
theorem dX4_become_65 : decode cX4_become 65 = .ok (.aload_n 0, 1) := by decide +kernel
theorem dX4_become_66 : decode cX4_become 66 = .ok (.getfield 30, 3) := by decide +kernel
theorem dX4_become_69 : decode cX4_become 69 = .ok (.iconst 0, 1) := by decide +kernel
theorem dX4_become_70 : decode cX4_become 70 = .ok (.aload_n 0, 1) := by decide +kernel
theorem dX4_become_71 : decode cX4_become 71 = .ok (.getfield 15, 3) := by decide +kernel
theorem dX4_become_74 : decode cX4_become 74 = .ok (.invokestatic 71, 3) := by decide +kernel
theorem dX4_become_77 : decode cX4_become 77 = .ok (.aload_n 1, 1) := by decide +kernel
theorem dX4_become_78 : decode cX4_become 78 = .ok (.getfield 34, 3) := by decide +kernel
theorem dX4_become_81 : decode cX4_become 81 = .ok (.iconst 0, 1) := by decide +kernel
theorem dX4_become_82 : decode cX4_become 82 = .ok (.aload_n 0, 1) := by decide +kernel
theorem dX4_become_83 : decode cX4_become 83 = .ok (.getfield 34, 3) := by decide +kernel
theorem dX4_become_86 : decode cX4_become 86 = .ok (.iconst 0, 1) := by decide +kernel
theorem dX4_become_87 : decode cX4_become 87 = .ok (.aload_n 0, 1) := by decide +kernel
theorem dX4_become_88 : decode cX4_become 88 = .ok (.getfield 18, 3) := by decide +kernel
theorem dX4_become_91 : decode cX4_become 91 = .ok (.invokestatic 71, 3) := by decide +kernel
theorem dX4_become_94 : decode cX4_become 94 = .ok (.aload_n 1, 1) := by decide +kernel
theorem dX4_become_95 : decode cX4_become 95 = .ok (.getfield 37, 3) := by decide +kernel
theorem dX4_become_98 : decode cX4_become 98 = .ok (.iconst 0, 1) := by decide +kernel
theorem dX4_become_99 : decode cX4_become 99 = .ok (.aload_n 0, 1) := by decide +kernel
theorem dX4_become_100 : decode cX4_become 100 = .ok (.getfield 37, 3) := by decide +kernel
theorem dX4_become_103 : decode cX4_become 103 = .ok (.iconst 0, 1) := by decide +kernel
theorem dX4_become_104 : decode cX4_become 104 = .ok (.aload_n 0, 1) := by decide +kernel
theorem dX4_become_105 : decode cX4_become 105 = .ok (.getfield 18, 3) := by decide +kernel
theorem dX4_become_108 : decode cX4_become 108 = .ok (.invokestatic 71, 3) := by decide +kernel
theorem dX4_become_111 : decode cX4_become 111 = .ok (.aload_n 1, 1) := by decide +kernel
theorem dX4_become_112 : decode cX4_become 112 = .ok (.getfield 40, 3) := by decide +kernel
theorem dX4_become_115 : decode cX4_become 115 = .ok (.iconst 0, 1) := by decide +kernel
theorem dX4_become_116 : decode cX4_become 116 = .ok (.aload_n 0, 1) := by decide +kernel
theorem dX4_become_117 : decode cX4_become 117 = .ok (.getfield 40, 3) := by decide +kernel
theorem dX4_become_120 : decode cX4_become 120 = .ok (.iconst 0, 1) := by decide +kernel
theorem dX4_become_121 : decode cX4_become 121 = .ok (.aload_n 0, 1) := by decide +kernel
theorem dX4_become_122 : decode cX4_become 122 = .ok (.getfield 18, 3) := by decide +kernel
theorem dX4_become_125 : decode cX4_become 125 = .ok (.invokestatic 71, 3) := by decide +kernel
theorem dX4_become_128 : decode cX4_become 128 = .ok (.aload_n 1, 1) := by decide +kernel
theorem dX4_become_129 : decode cX4_become 129 = .ok (.getfield 43, 3) := by decide +kernel
theorem dX4_become_132 : decode cX4_become 132 = .ok (.iconst 0, 1) := by decide +kernel
theorem dX4_become_133 : decode cX4_become 133 = .ok (.aload_n 0, 1) := by decide +kernel
theorem dX4_become_134 : decode cX4_become 134 = .ok (.getfield 43, 3) := by decide +kernel
theorem dX4_become_137 : decode cX4_become 137 = .ok (.iconst 0, 1) := by decide +kernel
theorem dX4_become_138 : decode cX4_become 138 = .ok (.aload_n 0, 1) := by decide +kernel
theorem dX4_become_139 : decode cX4_become 139 = .ok (.getfield 18, 3) := by decide +kernel
theorem dX4_become_142 : decode cX4_become 142 = .ok (.invokestatic 71, 3) := by decide +kernel
theorem dX4_become_145 : decode cX4_become 145 = .ok (.aload_n 1, 1) := by decide +kernel
theorem dX4_become_146 : decode cX4_become 146 = .ok (.getfield 46, 3) := by decide +kernel
theorem dX4_become_149 : decode cX4_become 149 = .ok (.iconst 0, 1) := by decide +kernel
theorem dX4_become_150 : decode cX4_become 150 = .ok (.aload_n 0, 1) := by decide +kernel
theorem dX4_become_151 : decode cX4_become 151 = .ok (.getfield 46, 3) := by decide +kernel
theorem dX4_become_154 : decode cX4_become 154 = .ok (.iconst 0, 1) := by decide +kernel
theorem dX4_become_155 : decode cX4_become 155 = .ok (.aload_n 0, 1) := by decide +kernel
theorem dX4_become_156 : decode cX4_become 156 = .ok (.getfield 21, 3) := by decide +kernel
theorem dX4_become_159 : decode cX4_become 159 = .ok (.invokestatic 71, 3) := by decide +kernel
theorem dX4_become_162 : decode cX4_become 162 = .ok (.aload_n 1, 1) := by decide +kernel
theorem dX4_become_163 : decode cX4_become 163 = .ok (.getfield 49, 3) := by decide +kernel
theorem dX4_become_166 : decode cX4_become 166 = .ok (.iconst 0, 1) := by decide +kernel
theorem dX4_become_167 : decode cX4_become 167 = .ok (.aload_n 0, 1) := by decide +kernel
theorem dX4_become_168 : decode cX4_become 168 = .ok (.getfield 49, 3) := by decide +kernel
theorem dX4_become_171 : decode cX4_become 171 = .ok (.iconst 0, 1) := by decide +kernel
theorem dX4_become_172 : decode cX4_become 172 = .ok (.aload_n 0, 1) := by decide +kernel
theorem dX4_become_173 : decode cX4_become 173 = .ok (.getfield 21, 3) := by decide +kernel
theorem dX4_become_176 : decode cX4_become 176 = .ok (.invokestatic 71, 3) := by decide +kernel
theorem dX4_become_179 : decode cX4_become 179 = .ok (.aload_n 1, 1) := by decide +kernel
theorem dX4_become_180 : decode cX4_become 180 = .ok (.getfield 52, 3) := by decide +kernel
theorem dX4_become_183 : decode cX4_become 183 = .ok (.iconst 0, 1) := by decide +kernel
theorem dX4_become_184 : decode cX4_become 184 = .ok (.aload_n 0, 1) := by decide +kernel
theorem dX4_become_185 : decode cX4_become 185 = .ok (.getfield 52, 3) := by decide +kernel
theorem dX4_become_188 : decode cX4_become 188 = .ok (.iconst 0, 1) := by decide +kernel
theorem dX4_become_189 : decode cX4_become 189 = .ok (.aload_n 0, 1) := by decide +kernel
theorem dX4_become_190 : decode cX4_become 190 = .ok (.getfield 21, 3) := by decide +kernel
theorem dX4_become_193 : decode cX4_become 193 = .ok (.invokestatic 71, 3) := by decide +kernel
theorem dX4_become_196 : decode cX4_become 196 = .ok (.aload_n 0, 1) := by decide +kernel
theorem dX4_become_197 : decode cX4_become 197 = .ok (.getfield 60, 3) := by decide +kernel
theorem dX4_become_200 : decode cX4_become 200 = .ok (.aload_n 1, 1) := by decide +kernel
theorem dX4_become_201 : decode cX4_become 201 = .ok (.getfield 60, 3) := by decide +kernel
theorem dX4_become_204 : decode cX4_become 204 = .ok (.invokevirtual 77, 3) := by decide +kernel
theorem dX4_become_207 : decode cX4_become 207 = .ok (.aload_n 0, 1) := by decide +kernel
theorem dX4_become_208 : decode cX4_become 208 = .ok (.getfield 64, 3) := by decide +kernel
theorem dX4_become_211 : decode cX4_become 211 = .ok (.aload_n 1, 1) := by decide +kernel
theorem dX4_become_212 : decode cX4_become 212 = .ok (.getfield 64, 3) := by decide +kernel
theorem dX4_become_215 : decode cX4_become 215 = .ok (.invokevirtual 77, 3) := by decide +kernel
theorem dX4_become_218 : decode cX4_become 218 = .ok (.iconst 0, 1) := by decide +kernel
theorem dX4_become_219 : decode cX4_become 219 = .ok (.istore_n 2, 1) := by decide +kernel
theorem dX4_become_220 : decode cX4_become 220 = .ok (.iload_n 2, 1) := by decide +kernel
theorem dX4_become_221 : decode cX4_become 221 = .ok (.iconst 3, 1) := by decide +kernel
theorem dX4_become_222 : decode cX4_become 222 = .ok (.if_icmp .ge 24, 3) := by decide +kernel
theorem dX4_become_225 : decode cX4_become 225 = .ok (.aload_n 0, 1) := by decide +kernel
theorem dX4_become_226 : decode cX4_become 226 = .ok (.getfield 67, 3) := by decide +kernel
theorem dX4_become_229 : decode cX4_become 229 = .ok (.iload_n 2, 1) := by decide +kernel
theorem dX4_become_230 : decode cX4_become 230 = .ok (.aaload, 1) := by decide +kernel
theorem dX4_become_231 : decode cX4_become 231 = .ok (.aload_n 1, 1) := by decide +kernel
theorem dX4_become_232 : decode cX4_become 232 = .ok (.getfield 67, 3) := by decide +kernel
theorem dX4_become_235 : decode cX4_become 235 = .ok (.iload_n 2, 1) := by decide +kernel
theorem dX4_become_236 : decode cX4_become 236 = .ok (.aaload, 1) := by decide +kernel
theorem dX4_become_237 : decode cX4_become 237 = .ok (.invokevirtual 77, 3) := by decide +kernel
theorem dX4_become_240 : decode cX4_become 240 = .ok (.iinc 2 1, 3) := by decide +kernel
theorem dX4_become_243 : decode cX4_become 243 = .ok (.goto (-23), 3) := by decide +kernel
theorem dX4_become_246 : decode cX4_become 246 = .ok (.return_, 1) := by decide +kernel
theorem dX4_addPart_0 : decode cX4_addPart 0 = .ok (.aload_n 0, 1) := by decide +kernel
theorem dX4_addPart_1 : decode cX4_addPart 1 = .ok (.getfield 26, 3) := by decide +kernel
theorem dX4_addPart_4 : decode cX4_addPart 4 = .ok (.aload_n 0, 1) := by decide +kernel
theorem dX4_addPart_5 : decode cX4_addPart 5 = .ok (.getfield 15, 3) := by decide +kernel
theorem dX4_addPart_8 : decode cX4_addPart 8 = .ok (.aload_n 1, 1) := by decide +kernel
theorem dX4_addPart_9 : decode cX4_addPart 9 = .ok (.aastore, 1) := by decide +kernel
theorem dX4_addPart_10 : decode cX4_addPart 10 = .ok (.aload_n 0, 1) := by decide +kernel
theorem dX4_addPart_11 : decode cX4_addPart 11 = .ok (.getfield 30, 3) := by decide +kernel
theorem dX4_addPart_14 : decode cX4_addPart 14 = .ok (.aload_n 0, 1) := by decide +kernel
theorem dX4_addPart_15 : decode cX4_addPart 15 = .ok (.getfield 15, 3) := by decide +kernel
theorem dX4_addPart_18 : decode cX4_addPart 18 = .ok (.iconst (-1), 1) := by decide +kernel
theorem dX4_addPart_19 : decode cX4_addPart 19 = .ok (.iastore, 1) := by decide +kernel
theorem dX4_addPart_20 : decode cX4_addPart 20 = .ok (.aload_n 0, 1) := by decide +kernel
theorem dX4_addPart_21 : decode cX4_addPart 21 = .ok (.dup, 1) := by decide +kernel
theorem dX4_addPart_22 : decode cX4_addPart 22 = .ok (.getfield 15, 3) := by decide +kernel
theorem dX4_addPart_25 : decode cX4_addPart 25 = .ok (.iconst 1, 1) := by decide +kernel
theorem dX4_addPart_26 : decode cX4_addPart 26 = .ok (.iadd, 1) := by decide +kernel
theorem dX4_addPart_27 : decode cX4_addPart 27 = .ok (.putfield 15, 3) := by decide +kernel
theorem dX4_addPart_30 : decode cX4_addPart 30 = .ok (.aload_n 0, 1) := by decide +kernel
theorem dX4_addPart_31 : decode cX4_addPart 31 = .ok (.getfield 15, 3) := by decide +kernel
theorem dX4_addPart_34 : decode cX4_addPart 34 = .ok (.iconst 1, 1) := by decide +kernel
theorem dX4_addPart_35 : decode cX4_addPart 35 = .ok (.isub, 1) := by decide +kernel
theorem dX4_addPart_36 : decode cX4_addPart 36 = .ok (.ireturn, 1) := by decide +kernel
theorem dX4_addEntry_0 : decode cX4_addEntry 0 = .ok (.aload_n 0, 1) := by decide +kernel
theorem dX4_addEntry_1 : decode cX4_addEntry 1 = .ok (.getfield 34, 3) := by decide +kernel
theorem dX4_addEntry_4 : decode cX4_addEntry 4 = .ok (.aload_n 0, 1) := by decide +kernel
theorem dX4_addEntry_5 : decode cX4_addEntry 5 = .ok (.getfield 18, 3) := by decide +kernel
theorem dX4_addEntry_8 : decode cX4_addEntry 8 = .ok (.iload_n 1, 1) := by decide +kernel
theorem dX4_addEntry_9 : decode cX4_addEntry 9 = .ok (.iastore, 1) := by decide +kernel
theorem dX4_addEntry_10 : decode cX4_addEntry 10 = .ok (.aload_n 0, 1) := by decide +kernel
theorem dX4_addEntry_11 : decode cX4_addEntry 11 = .ok (.getfield 37, 3) := by decide +kernel
theorem dX4_addEntry_14 : decode cX4_addEntry 14 = .ok (.aload_n 0, 1) := by decide +kernel
theorem dX4_addEntry_15 : decode cX4_addEntry 15 = .ok (.getfield 18, 3) := by decide +kernel
theorem dX4_addEntry_18 : decode cX4_addEntry 18 = .ok (.iload_n 2, 1) := by decide +kernel
theorem dX4_addEntry_19 : decode cX4_addEntry 19 = .ok (.iastore, 1) := by decide +kernel
theorem dX4_addEntry_20 : decode cX4_addEntry 20 = .ok (.aload_n 0, 1) := by decide +kernel
theorem dX4_addEntry_21 : decode cX4_addEntry 21 = .ok (.getfield 40, 3) := by decide +kernel
theorem dX4_addEntry_24 : decode cX4_addEntry 24 = .ok (.aload_n 0, 1) := by decide +kernel
theorem dX4_addEntry_25 : decode cX4_addEntry 25 = .ok (.getfield 18, 3) := by decide +kernel
theorem dX4_addEntry_28 : decode cX4_addEntry 28 = .ok (.iload_n 3, 1) := by decide +kernel
theorem dX4_addEntry_29 : decode cX4_addEntry 29 = .ok (.iastore, 1) := by decide +kernel
theorem dX4_addEntry_30 : decode cX4_addEntry 30 = .ok (.aload_n 0, 1) := by decide +kernel
theorem dX4_addEntry_31 : decode cX4_addEntry 31 = .ok (.getfield 43, 3) := by decide +kernel
theorem dX4_addEntry_34 : decode cX4_addEntry 34 = .ok (.aload_n 0, 1) := by decide +kernel
theorem dX4_addEntry_35 : decode cX4_addEntry 35 = .ok (.getfield 18, 3) := by decide +kernel
theorem dX4_addEntry_38 : decode cX4_addEntry 38 = .ok (.iload 4, 2) := by decide +kernel
theorem dX4_addEntry_40 : decode cX4_addEntry 40 = .ok (.iastore, 1) := by decide +kernel
theorem dX4_addEntry_41 : decode cX4_addEntry 41 = .ok (.aload_n 0, 1) := by decide +kernel
theorem dX4_addEntry_42 : decode cX4_addEntry 42 = .ok (.dup, 1) := by decide +kernel
theorem dX4_addEntry_43 : decode cX4_addEntry 43 = .ok (.getfield 18, 3) := by decide +kernel
theorem dX4_addEntry_46 : decode cX4_addEntry 46 = .ok (.iconst 1, 1) := by decide +kernel
theorem dX4_addEntry_47 : decode cX4_addEntry 47 = .ok (.iadd, 1) := by decide +kernel
theorem dX4_addEntry_48 : decode cX4_addEntry 48 = .ok (.putfield 18, 3) := by decide +kernel
theorem dX4_addEntry_51 : decode cX4_addEntry 51 = .ok (.aload_n 0, 1) := by decide +kernel
theorem dX4_addEntry_52 : decode cX4_addEntry 52 = .ok (.getfield 18, 3) := by decide +kernel
theorem dX4_addEntry_55 : decode cX4_addEntry 55 = .ok (.iconst 1, 1) := by decide +kernel
theorem dX4_addEntry_56 : decode cX4_addEntry 56 = .ok (.isub, 1) := by decide +kernel
theorem dX4_addEntry_57 : decode cX4_addEntry 57 = .ok (.ireturn, 1) := by decide +kernel
theorem dX4_addPlayer_0 : decode cX4_addPlayer 0 = .ok (.aload_n 0, 1) := by decide +kernel
theorem dX4_addPlayer_1 : decode cX4_addPlayer 1 = .ok (.getfield 46, 3) := by decide +kernel
theorem dX4_addPlayer_4 : decode cX4_addPlayer 4 = .ok (.aload_n 0, 1) := by decide +kernel
theorem dX4_addPlayer_5 : decode cX4_addPlayer 5 = .ok (.getfield 21, 3) := by decide +kernel
theorem dX4_addPlayer_8 : decode cX4_addPlayer 8 = .ok (.iload_n 1, 1) := by decide +kernel
theorem dX4_addPlayer_9 : decode cX4_addPlayer 9 = .ok (.iastore, 1) := by decide +kernel
theorem dX4_addPlayer_10 : decode cX4_addPlayer 10 = .ok (.aload_n 0, 1) := by decide +kernel
theorem dX4_addPlayer_11 : decode cX4_addPlayer 11 = .ok (.getfield 49, 3) := by decide +kernel
theorem dX4_addPlayer_14 : decode cX4_addPlayer 14 = .ok (.aload_n 0, 1) := by decide +kernel
theorem dX4_addPlayer_15 : decode cX4_addPlayer 15 = .ok (.getfield 21, 3) := by decide +kernel
theorem dX4_addPlayer_18 : decode cX4_addPlayer 18 = .ok (.iload_n 2, 1) := by decide +kernel
theorem dX4_addPlayer_19 : decode cX4_addPlayer 19 = .ok (.iastore, 1) := by decide +kernel
theorem dX4_addPlayer_20 : decode cX4_addPlayer 20 = .ok (.aload_n 0, 1) := by decide +kernel
theorem dX4_addPlayer_21 : decode cX4_addPlayer 21 = .ok (.getfield 52, 3) := by decide +kernel
theorem dX4_addPlayer_24 : decode cX4_addPlayer 24 = .ok (.aload_n 0, 1) := by decide +kernel
theorem dX4_addPlayer_25 : decode cX4_addPlayer 25 = .ok (.getfield 21, 3) := by decide +kernel
theorem dX4_addPlayer_28 : decode cX4_addPlayer 28 = .ok (.iconst 0, 1) := by decide +kernel
theorem dX4_addPlayer_29 : decode cX4_addPlayer 29 = .ok (.iastore, 1) := by decide +kernel
theorem dX4_addPlayer_30 : decode cX4_addPlayer 30 = .ok (.aload_n 0, 1) := by decide +kernel
theorem dX4_addPlayer_31 : decode cX4_addPlayer 31 = .ok (.dup, 1) := by decide +kernel
theorem dX4_addPlayer_32 : decode cX4_addPlayer 32 = .ok (.getfield 21, 3) := by decide +kernel
theorem dX4_addPlayer_35 : decode cX4_addPlayer 35 = .ok (.iconst 1, 1) := by decide +kernel
theorem dX4_addPlayer_36 : decode cX4_addPlayer 36 = .ok (.iadd, 1) := by decide +kernel
theorem dX4_addPlayer_37 : decode cX4_addPlayer 37 = .ok (.putfield 21, 3) := by decide +kernel
theorem dX4_addPlayer_40 : decode cX4_addPlayer 40 = .ok (.aload_n 0, 1) := by decide +kernel
theorem dX4_addPlayer_41 : decode cX4_addPlayer 41 = .ok (.getfield 21, 3) := by decide +kernel
theorem dX4_addPlayer_44 : decode cX4_addPlayer 44 = .ok (.iconst 1, 1) := by decide +kernel
theorem dX4_addPlayer_45 : decode cX4_addPlayer 45 = .ok (.isub, 1) := by decide +kernel
theorem dX4_addPlayer_46 : decode cX4_addPlayer 46 = .ok (.ireturn, 1) := by decide +kernel
theorem dX4_delay_0 : decode cX4_delay 0 = .ok (.aload_n 0, 1) := by decide +kernel
theorem dX4_delay_1 : decode cX4_delay 1 = .ok (.getfield 37, 3) := by decide +kernel
theorem dX4_delay_4 : decode cX4_delay 4 = .ok (.iload_n 1, 1) := by decide +kernel
theorem dX4_delay_5 : decode cX4_delay 5 = .ok (.dup2, 1) := by decide +kernel
theorem dX4_delay_6 : decode cX4_delay 6 = .ok (.iaload, 1) := by decide +kernel
theorem dX4_delay_7 : decode cX4_delay 7 = .ok (.iload_n 2, 1) := by decide +kernel
theorem dX4_delay_8 : decode cX4_delay 8 = .ok (.iadd, 1) := by decide +kernel
theorem dX4_delay_9 : decode cX4_delay 9 = .ok (.iastore, 1) := by decide +kernel
theorem dX4_delay_10 : decode cX4_delay 10 = .ok (.aload_n 0, 1) := by decide +kernel
theorem dX4_delay_11 : decode cX4_delay 11 = .ok (.getfield 40, 3) := by decide +kernel
theorem dX4_delay_14 : decode cX4_delay 14 = .ok (.iload_n 1, 1) := by decide +kernel
theorem dX4_delay_15 : decode cX4_delay 15 = .ok (.dup2, 1) := by decide +kernel
theorem dX4_delay_16 : decode cX4_delay 16 = .ok (.iaload, 1) := by decide +kernel
theorem dX4_delay_17 : decode cX4_delay 17 = .ok (.iload_n 2, 1) := by decide +kernel
theorem dX4_delay_18 : decode cX4_delay 18 = .ok (.iadd, 1) := by decide +kernel
theorem dX4_delay_19 : decode cX4_delay 19 = .ok (.iastore, 1) := by decide +kernel
theorem dX4_delay_20 : decode cX4_delay 20 = .ok (.return_, 1) := by decide +kernel
theorem dX4_hasPart_0 : decode cX4_hasPart 0 = .ok (.iload_n 1, 1) := by decide +kernel
theorem dX4_hasPart_1 : decode cX4_hasPart 1 = .ok (.aload_n 0, 1) := by decide +kernel
theorem dX4_hasPart_2 : decode cX4_hasPart 2 = .ok (.getfield 15, 3) := by decide +kernel
theorem dX4_hasPart_5 : decode cX4_hasPart 5 = .ok (.invokestatic 81, 3) := by decide +kernel
theorem dX4_hasPart_8 : decode cX4_hasPart 8 = .ok (.ireturn, 1) := by decide +kernel
theorem dX4_hasLine_0 : decode cX4_hasLine 0 = .ok (.iload_n 1, 1) := by decide +kernel
theorem dX4_hasLine_1 : decode cX4_hasLine 1 = .ok (.aload_n 0, 1) := by decide +kernel
theorem dX4_hasLine_2 : decode cX4_hasLine 2 = .ok (.getfield 9, 3) := by decide +kernel
theorem dX4_hasLine_5 : decode cX4_hasLine 5 = .ok (.invokestatic 81, 3) := by decide +kernel
theorem dX4_hasLine_8 : decode cX4_hasLine 8 = .ok (.ireturn, 1) := by decide +kernel
theorem dX4_hasEntry_0 : decode cX4_hasEntry 0 = .ok (.iload_n 1, 1) := by decide +kernel
theorem dX4_hasEntry_1 : decode cX4_hasEntry 1 = .ok (.aload_n 0, 1) := by decide +kernel
theorem dX4_hasEntry_2 : decode cX4_hasEntry 2 = .ok (.getfield 18, 3) := by decide +kernel
theorem dX4_hasEntry_5 : decode cX4_hasEntry 5 = .ok (.invokestatic 81, 3) := by decide +kernel
theorem dX4_hasEntry_8 : decode cX4_hasEntry 8 = .ok (.ireturn, 1) := by decide +kernel
theorem dX4_hasPlayer_0 : decode cX4_hasPlayer 0 = .ok (.iload_n 1, 1) := by decide +kernel
theorem dX4_hasPlayer_1 : decode cX4_hasPlayer 1 = .ok (.aload_n 0, 1) := by decide +kernel
theorem dX4_hasPlayer_2 : decode cX4_hasPlayer 2 = .ok (.getfield 21, 3) := by decide +kernel
theorem dX4_hasPlayer_5 : decode cX4_hasPlayer 5 = .ok (.invokestatic 81, 3) := by decide +kernel
theorem dX4_hasPlayer_8 : decode cX4_hasPlayer 8 = .ok (.ireturn, 1) := by decide +kernel
theorem dX4_isPlayerOrNobody_0 : decode cX4_isPlayerOrNobody 0 = .ok (.iload_n 1, 1) := by decide +kernel
theorem dX4_isPlayerOrNobody_1 : decode cX4_isPlayerOrNobody 1 = .ok (.iconst (-1), 1) := by decide +kernel
theorem dX4_isPlayerOrNobody_2 : decode cX4_isPlayerOrNobody 2 = .ok (.if_icmp .eq 11, 3) := by decide +kernel
theorem dX4_isPlayerOrNobody_5 : decode cX4_isPlayerOrNobody 5 = .ok (.aload_n 0, 1) := by decide +kernel
theorem dX4_isPlayerOrNobody_6 : decode cX4_isPlayerOrNobody 6 = .ok (.iload_n 1, 1) := by decide +kernel
theorem dX4_isPlayerOrNobody_7 : decode cX4_isPlayerOrNobody 7 = .ok (.invokevirtual 85, 3) := by decide +kernel
theorem dX4_isPlayerOrNobody_10 : decode cX4_isPlayerOrNobody 10 = .ok (.ifCond .eq 7, 3) := by decide +kernel
theorem dX4_isPlayerOrNobody_13 : decode cX4_isPlayerOrNobody 13 = .ok (.iconst 1, 1) := by decide +kernel
theorem dX4_isPlayerOrNobody_14 : decode cX4_isPlayerOrNobody 14 = .ok (.goto 4, 3) := by decide +kernel
theorem dX4_isPlayerOrNobody_17 : decode cX4_isPlayerOrNobody 17 = .ok (.iconst 0, 1) := by decide +kernel
theorem dX4_isPlayerOrNobody_18 : decode cX4_isPlayerOrNobody 18 = .ok (.ireturn, 1) := by decide +kernel
theorem dX4_isSet_0 : decode cX4_isSet 0 = .ok (.iload_n 1, 1) := by decide +kernel
theorem dX4_isSet_1 : decode cX4_isSet 1 = .ok (.iconst 1, 1) := by decide +kernel
theorem dX4_isSet_2 : decode cX4_isSet 2 = .ok (.aload_n 0, 1) := by decide +kernel
theorem dX4_isSet_3 : decode cX4_isSet 3 = .ok (.getfield 21, 3) := by decide +kernel
theorem dX4_isSet_6 : decode cX4_isSet 6 = .ok (.ishl, 1) := by decide +kernel
theorem dX4_isSet_7 : decode cX4_isSet 7 = .ok (.invokestatic 81, 3) := by decide +kernel
theorem dX4_isSet_10 : decode cX4_isSet 10 = .ok (.ireturn, 1) := by decide +kernel
theorem dX4_allPlayers_0 : decode cX4_allPlayers 0 = .ok (.iconst 1, 1) := by decide +kernel
theorem dX4_allPlayers_1 : decode cX4_allPlayers 1 = .ok (.aload_n 0, 1) := by decide +kernel
theorem dX4_allPlayers_2 : decode cX4_allPlayers 2 = .ok (.getfield 21, 3) := by decide +kernel
theorem dX4_allPlayers_5 : decode cX4_allPlayers 5 = .ok (.ishl, 1) := by decide +kernel
theorem dX4_allPlayers_6 : decode cX4_allPlayers 6 = .ok (.iconst 1, 1) := by decide +kernel
theorem dX4_allPlayers_7 : decode cX4_allPlayers 7 = .ok (.isub, 1) := by decide +kernel
theorem dX4_allPlayers_8 : decode cX4_allPlayers 8 = .ok (.ireturn, 1) := by decide +kernel
theorem dX4_allParts_0 : decode cX4_allParts 0 = .ok (.iconst 1, 1) := by decide +kernel
theorem dX4_allParts_1 : decode cX4_allParts 1 = .ok (.aload_n 0, 1) := by decide +kernel
theorem dX4_allParts_2 : decode cX4_allParts 2 = .ok (.getfield 15, 3) := by decide +kernel
theorem dX4_allParts_5 : decode cX4_allParts 5 = .ok (.ishl, 1) := by decide +kernel
theorem dX4_allParts_6 : decode cX4_allParts 6 = .ok (.iconst 1, 1) := by decide +kernel
theorem dX4_allParts_7 : decode cX4_allParts 7 = .ok (.isub, 1) := by decide +kernel
theorem dX4_allParts_8 : decode cX4_allParts 8 = .ok (.ireturn, 1) := by decide +kernel
theorem dX4_knows_0 : decode cX4_knows 0 = .ok (.aload_n 0, 1) := by decide +kernel
theorem dX4_knows_1 : decode cX4_knows 1 = .ok (.getfield 52, 3) := by decide +kernel
theorem dX4_knows_4 : decode cX4_knows 4 = .ok (.iload_n 1, 1) := by decide +kernel
theorem dX4_knows_5 : decode cX4_knows 5 = .ok (.iaload, 1) := by decide +kernel
theorem dX4_knows_6 : decode cX4_knows 6 = .ok (.iload_n 2, 1) := by decide +kernel
theorem dX4_knows_7 : decode cX4_knows 7 = .ok (.ishr, 1) := by decide +kernel
theorem dX4_knows_8 : decode cX4_knows 8 = .ok (.iconst 1, 1) := by decide +kernel
theorem dX4_knows_9 : decode cX4_knows 9 = .ok (.iand, 1) := by decide +kernel
theorem dX4_knows_10 : decode cX4_knows 10 = .ok (.ifCond .eq 7, 3) := by decide +kernel
theorem dX4_knows_13 : decode cX4_knows 13 = .ok (.iconst 1, 1) := by decide +kernel
theorem dX4_knows_14 : decode cX4_knows 14 = .ok (.goto 4, 3) := by decide +kernel
theorem dX4_knows_17 : decode cX4_knows 17 = .ok (.iconst 0, 1) := by decide +kernel
theorem dX4_knows_18 : decode cX4_knows 18 = .ok (.ireturn, 1) := by decide +kernel
theorem dX4_covers_0 : decode cX4_covers 0 = .ok (.aload_n 0, 1) := by decide +kernel
theorem dX4_covers_1 : decode cX4_covers 1 = .ok (.getfield 37, 3) := by decide +kernel
theorem dX4_covers_4 : decode cX4_covers 4 = .ok (.iload_n 1, 1) := by decide +kernel
theorem dX4_covers_5 : decode cX4_covers 5 = .ok (.iaload, 1) := by decide +kernel
theorem dX4_covers_6 : decode cX4_covers 6 = .ok (.iload_n 2, 1) := by decide +kernel
theorem dX4_covers_7 : decode cX4_covers 7 = .ok (.if_icmp .gt 17, 3) := by decide +kernel
theorem dX4_covers_10 : decode cX4_covers 10 = .ok (.iload_n 2, 1) := by decide +kernel
theorem dX4_covers_11 : decode cX4_covers 11 = .ok (.aload_n 0, 1) := by decide +kernel
theorem dX4_covers_12 : decode cX4_covers 12 = .ok (.getfield 40, 3) := by decide +kernel
theorem dX4_covers_15 : decode cX4_covers 15 = .ok (.iload_n 1, 1) := by decide +kernel
theorem dX4_covers_16 : decode cX4_covers 16 = .ok (.iaload, 1) := by decide +kernel
theorem dX4_covers_17 : decode cX4_covers 17 = .ok (.if_icmp .gt 7, 3) := by decide +kernel
theorem dX4_covers_20 : decode cX4_covers 20 = .ok (.iconst 1, 1) := by decide +kernel
theorem dX4_covers_21 : decode cX4_covers 21 = .ok (.goto 4, 3) := by decide +kernel
theorem dX4_covers_24 : decode cX4_covers 24 = .ok (.iconst 0, 1) := by decide +kernel
theorem dX4_covers_25 : decode cX4_covers 25 = .ok (.ireturn, 1) := by decide +kernel
theorem dX4_lastLine_0 : decode cX4_lastLine 0 = .ok (.iconst (-1), 1) := by decide +kernel
theorem dX4_lastLine_1 : decode cX4_lastLine 1 = .ok (.istore_n 1, 1) := by decide +kernel
theorem dX4_lastLine_2 : decode cX4_lastLine 2 = .ok (.iconst 0, 1) := by decide +kernel
theorem dX4_lastLine_3 : decode cX4_lastLine 3 = .ok (.istore_n 2, 1) := by decide +kernel
theorem dX4_lastLine_4 : decode cX4_lastLine 4 = .ok (.iload_n 2, 1) := by decide +kernel
theorem dX4_lastLine_5 : decode cX4_lastLine 5 = .ok (.aload_n 0, 1) := by decide +kernel
theorem dX4_lastLine_6 : decode cX4_lastLine 6 = .ok (.getfield 18, 3) := by decide +kernel
theorem dX4_lastLine_9 : decode cX4_lastLine 9 = .ok (.if_icmp .ge 20, 3) := by decide +kernel
theorem dX4_lastLine_12 : decode cX4_lastLine 12 = .ok (.iload_n 1, 1) := by decide +kernel
theorem dX4_lastLine_13 : decode cX4_lastLine 13 = .ok (.aload_n 0, 1) := by decide +kernel
theorem dX4_lastLine_14 : decode cX4_lastLine 14 = .ok (.getfield 40, 3) := by decide +kernel
theorem dX4_lastLine_17 : decode cX4_lastLine 17 = .ok (.iload_n 2, 1) := by decide +kernel
theorem dX4_lastLine_18 : decode cX4_lastLine 18 = .ok (.iaload, 1) := by decide +kernel
theorem dX4_lastLine_19 : decode cX4_lastLine 19 = .ok (.invokestatic 89, 3) := by decide +kernel
theorem dX4_lastLine_22 : decode cX4_lastLine 22 = .ok (.istore_n 1, 1) := by decide +kernel
theorem dX4_lastLine_23 : decode cX4_lastLine 23 = .ok (.iinc 2 1, 3) := by decide +kernel
theorem dX4_lastLine_26 : decode cX4_lastLine 26 = .ok (.goto (-22), 3) := by decide +kernel
theorem dX4_lastLine_29 : decode cX4_lastLine 29 = .ok (.iload_n 1, 1) := by decide +kernel
theorem dX4_lastLine_30 : decode cX4_lastLine 30 = .ok (.ireturn, 1) := by decide +kernel
theorem dX4_isTaken_0 : decode cX4_isTaken 0 = .ok (.iconst 0, 1) := by decide +kernel
theorem dX4_isTaken_1 : decode cX4_isTaken 1 = .ok (.istore 5, 2) := by decide +kernel
theorem dX4_isTaken_3 : decode cX4_isTaken 3 = .ok (.iload 5, 2) := by decide +kernel
theorem dX4_isTaken_5 : decode cX4_isTaken 5 = .ok (.aload_n 0, 1) := by decide +kernel
theorem dX4_isTaken_6 : decode cX4_isTaken 6 = .ok (.getfield 18, 3) := by decide +kernel
theorem dX4_isTaken_9 : decode cX4_isTaken 9 = .ok (.if_icmp .ge 51, 3) := by decide +kernel
theorem dX4_isTaken_12 : decode cX4_isTaken 12 = .ok (.iload 5, 2) := by decide +kernel
theorem dX4_isTaken_14 : decode cX4_isTaken 14 = .ok (.iload 4, 2) := by decide +kernel
theorem dX4_isTaken_16 : decode cX4_isTaken 16 = .ok (.if_icmp .eq 38, 3) := by decide +kernel
theorem dX4_isTaken_19 : decode cX4_isTaken 19 = .ok (.aload_n 0, 1) := by decide +kernel
theorem dX4_isTaken_20 : decode cX4_isTaken 20 = .ok (.getfield 34, 3) := by decide +kernel
theorem dX4_isTaken_23 : decode cX4_isTaken 23 = .ok (.iload 5, 2) := by decide +kernel
theorem dX4_isTaken_25 : decode cX4_isTaken 25 = .ok (.iaload, 1) := by decide +kernel
theorem dX4_isTaken_26 : decode cX4_isTaken 26 = .ok (.iload_n 1, 1) := by decide +kernel
theorem dX4_isTaken_27 : decode cX4_isTaken 27 = .ok (.if_icmp .ne 27, 3) := by decide +kernel
theorem dX4_isTaken_30 : decode cX4_isTaken 30 = .ok (.aload_n 0, 1) := by decide +kernel
theorem dX4_isTaken_31 : decode cX4_isTaken 31 = .ok (.getfield 37, 3) := by decide +kernel
theorem dX4_isTaken_34 : decode cX4_isTaken 34 = .ok (.iload 5, 2) := by decide +kernel
theorem dX4_isTaken_36 : decode cX4_isTaken 36 = .ok (.iaload, 1) := by decide +kernel
theorem dX4_isTaken_37 : decode cX4_isTaken 37 = .ok (.iload_n 3, 1) := by decide +kernel
theorem dX4_isTaken_38 : decode cX4_isTaken 38 = .ok (.if_icmp .gt 16, 3) := by decide +kernel
theorem dX4_isTaken_41 : decode cX4_isTaken 41 = .ok (.iload_n 2, 1) := by decide +kernel
theorem dX4_isTaken_42 : decode cX4_isTaken 42 = .ok (.aload_n 0, 1) := by decide +kernel
theorem dX4_isTaken_43 : decode cX4_isTaken 43 = .ok (.getfield 40, 3) := by decide +kernel
theorem dX4_isTaken_46 : decode cX4_isTaken 46 = .ok (.iload 5, 2) := by decide +kernel
theorem dX4_isTaken_48 : decode cX4_isTaken 48 = .ok (.iaload, 1) := by decide +kernel
theorem dX4_isTaken_49 : decode cX4_isTaken 49 = .ok (.if_icmp .gt 5, 3) := by decide +kernel
theorem dX4_isTaken_52 : decode cX4_isTaken 52 = .ok (.iconst 1, 1) := by decide +kernel
theorem dX4_isTaken_53 : decode cX4_isTaken 53 = .ok (.ireturn, 1) := by decide +kernel
theorem dX4_isTaken_54 : decode cX4_isTaken 54 = .ok (.iinc 5 1, 3) := by decide +kernel
theorem dX4_isTaken_57 : decode cX4_isTaken 57 = .ok (.goto (-54), 3) := by decide +kernel
theorem dX4_isTaken_60 : decode cX4_isTaken 60 = .ok (.iconst 0, 1) := by decide +kernel
theorem dX4_isTaken_61 : decode cX4_isTaken 61 = .ok (.ireturn, 1) := by decide +kernel
theorem dX4_weight_0 : decode cX4_weight 0 = .ok (.iconst 0, 1) := by decide +kernel
theorem dX4_weight_1 : decode cX4_weight 1 = .ok (.istore_n 2, 1) := by decide +kernel
theorem dX4_weight_2 : decode cX4_weight 2 = .ok (.iconst 0, 1) := by decide +kernel
theorem dX4_weight_3 : decode cX4_weight 3 = .ok (.istore_n 3, 1) := by decide +kernel
theorem dX4_weight_4 : decode cX4_weight 4 = .ok (.iload_n 3, 1) := by decide +kernel
theorem dX4_weight_5 : decode cX4_weight 5 = .ok (.aload_n 0, 1) := by decide +kernel
theorem dX4_weight_6 : decode cX4_weight 6 = .ok (.getfield 18, 3) := by decide +kernel
theorem dX4_weight_9 : decode cX4_weight 9 = .ok (.if_icmp .ge 37, 3) := by decide +kernel
theorem dX4_weight_12 : decode cX4_weight 12 = .ok (.aload_n 0, 1) := by decide +kernel
theorem dX4_weight_13 : decode cX4_weight 13 = .ok (.getfield 34, 3) := by decide +kernel
theorem dX4_weight_16 : decode cX4_weight 16 = .ok (.iload_n 3, 1) := by decide +kernel
theorem dX4_weight_17 : decode cX4_weight 17 = .ok (.iaload, 1) := by decide +kernel
theorem dX4_weight_18 : decode cX4_weight 18 = .ok (.iload_n 1, 1) := by decide +kernel
theorem dX4_weight_19 : decode cX4_weight 19 = .ok (.if_icmp .ne 21, 3) := by decide +kernel
theorem dX4_weight_22 : decode cX4_weight 22 = .ok (.iload_n 2, 1) := by decide +kernel
theorem dX4_weight_23 : decode cX4_weight 23 = .ok (.aload_n 0, 1) := by decide +kernel
theorem dX4_weight_24 : decode cX4_weight 24 = .ok (.getfield 40, 3) := by decide +kernel
theorem dX4_weight_27 : decode cX4_weight 27 = .ok (.iload_n 3, 1) := by decide +kernel
theorem dX4_weight_28 : decode cX4_weight 28 = .ok (.iaload, 1) := by decide +kernel
theorem dX4_weight_29 : decode cX4_weight 29 = .ok (.aload_n 0, 1) := by decide +kernel
theorem dX4_weight_30 : decode cX4_weight 30 = .ok (.getfield 37, 3) := by decide +kernel
theorem dX4_weight_33 : decode cX4_weight 33 = .ok (.iload_n 3, 1) := by decide +kernel
theorem dX4_weight_34 : decode cX4_weight 34 = .ok (.iaload, 1) := by decide +kernel
theorem dX4_weight_35 : decode cX4_weight 35 = .ok (.isub, 1) := by decide +kernel
theorem dX4_weight_36 : decode cX4_weight 36 = .ok (.iconst 1, 1) := by decide +kernel
theorem dX4_weight_37 : decode cX4_weight 37 = .ok (.iadd, 1) := by decide +kernel
theorem dX4_weight_38 : decode cX4_weight 38 = .ok (.iadd, 1) := by decide +kernel
theorem dX4_weight_39 : decode cX4_weight 39 = .ok (.istore_n 2, 1) := by decide +kernel
theorem dX4_weight_40 : decode cX4_weight 40 = .ok (.iinc 3 1, 3) := by decide +kernel
theorem dX4_weight_43 : decode cX4_weight 43 = .ok (.goto (-39), 3) := by decide +kernel
theorem dX4_weight_46 : decode cX4_weight 46 = .ok (.iload_n 2, 1) := by decide +kernel
theorem dX4_weight_47 : decode cX4_weight 47 = .ok (.ireturn, 1) := by decide +kernel
theorem dX4_weightOfSet_0 : decode cX4_weightOfSet 0 = .ok (.iconst 0, 1) := by decide +kernel
theorem dX4_weightOfSet_1 : decode cX4_weightOfSet 1 = .ok (.istore_n 2, 1) := by decide +kernel
theorem dX4_weightOfSet_2 : decode cX4_weightOfSet 2 = .ok (.iconst 0, 1) := by decide +kernel
theorem dX4_weightOfSet_3 : decode cX4_weightOfSet 3 = .ok (.istore_n 3, 1) := by decide +kernel
theorem dX4_weightOfSet_4 : decode cX4_weightOfSet 4 = .ok (.iload_n 3, 1) := by decide +kernel
theorem dX4_weightOfSet_5 : decode cX4_weightOfSet 5 = .ok (.aload_n 0, 1) := by decide +kernel
theorem dX4_weightOfSet_6 : decode cX4_weightOfSet 6 = .ok (.getfield 15, 3) := by decide +kernel
theorem dX4_weightOfSet_9 : decode cX4_weightOfSet 9 = .ok (.if_icmp .ge 25, 3) := by decide +kernel
theorem dX4_weightOfSet_12 : decode cX4_weightOfSet 12 = .ok (.iload_n 1, 1) := by decide +kernel
theorem dX4_weightOfSet_13 : decode cX4_weightOfSet 13 = .ok (.iload_n 3, 1) := by decide +kernel
theorem dX4_weightOfSet_14 : decode cX4_weightOfSet 14 = .ok (.ishr, 1) := by decide +kernel
theorem dX4_weightOfSet_15 : decode cX4_weightOfSet 15 = .ok (.iconst 1, 1) := by decide +kernel
theorem dX4_weightOfSet_16 : decode cX4_weightOfSet 16 = .ok (.iand, 1) := by decide +kernel
theorem dX4_weightOfSet_17 : decode cX4_weightOfSet 17 = .ok (.ifCond .eq 11, 3) := by decide +kernel
theorem dX4_weightOfSet_20 : decode cX4_weightOfSet 20 = .ok (.iload_n 2, 1) := by decide +kernel
theorem dX4_weightOfSet_21 : decode cX4_weightOfSet 21 = .ok (.aload_n 0, 1) := by decide +kernel
theorem dX4_weightOfSet_22 : decode cX4_weightOfSet 22 = .ok (.iload_n 3, 1) := by decide +kernel
theorem dX4_weightOfSet_23 : decode cX4_weightOfSet 23 = .ok (.invokevirtual 95, 3) := by decide +kernel
theorem dX4_weightOfSet_26 : decode cX4_weightOfSet 26 = .ok (.iadd, 1) := by decide +kernel
theorem dX4_weightOfSet_27 : decode cX4_weightOfSet 27 = .ok (.istore_n 2, 1) := by decide +kernel
theorem dX4_weightOfSet_28 : decode cX4_weightOfSet 28 = .ok (.iinc 3 1, 3) := by decide +kernel
theorem dX4_weightOfSet_31 : decode cX4_weightOfSet 31 = .ok (.goto (-27), 3) := by decide +kernel
theorem dX4_weightOfSet_34 : decode cX4_weightOfSet 34 = .ok (.iload_n 2, 1) := by decide +kernel
theorem dX4_weightOfSet_35 : decode cX4_weightOfSet 35 = .ok (.ireturn, 1) := by decide +kernel
theorem dX4_entriesOf_0 : decode cX4_entriesOf 0 = .ok (.iconst 0, 1) := by decide +kernel
theorem dX4_entriesOf_1 : decode cX4_entriesOf 1 = .ok (.istore_n 2, 1) := by decide +kernel
theorem dX4_entriesOf_2 : decode cX4_entriesOf 2 = .ok (.iconst 0, 1) := by decide +kernel
theorem dX4_entriesOf_3 : decode cX4_entriesOf 3 = .ok (.istore_n 3, 1) := by decide +kernel
theorem dX4_entriesOf_4 : decode cX4_entriesOf 4 = .ok (.iload_n 3, 1) := by decide +kernel
theorem dX4_entriesOf_5 : decode cX4_entriesOf 5 = .ok (.aload_n 0, 1) := by decide +kernel
theorem dX4_entriesOf_6 : decode cX4_entriesOf 6 = .ok (.getfield 18, 3) := by decide +kernel
theorem dX4_entriesOf_9 : decode cX4_entriesOf 9 = .ok (.if_icmp .ge 22, 3) := by decide +kernel
theorem dX4_entriesOf_12 : decode cX4_entriesOf 12 = .ok (.aload_n 0, 1) := by decide +kernel
theorem dX4_entriesOf_13 : decode cX4_entriesOf 13 = .ok (.getfield 34, 3) := by decide +kernel
theorem dX4_entriesOf_16 : decode cX4_entriesOf 16 = .ok (.iload_n 3, 1) := by decide +kernel
theorem dX4_entriesOf_17 : decode cX4_entriesOf 17 = .ok (.iaload, 1) := by decide +kernel
theorem dX4_entriesOf_18 : decode cX4_entriesOf 18 = .ok (.iload_n 1, 1) := by decide +kernel
theorem dX4_entriesOf_19 : decode cX4_entriesOf 19 = .ok (.if_icmp .ne 6, 3) := by decide +kernel
theorem dX4_entriesOf_22 : decode cX4_entriesOf 22 = .ok (.iinc 2 1, 3) := by decide +kernel
theorem dX4_entriesOf_25 : decode cX4_entriesOf 25 = .ok (.iinc 3 1, 3) := by decide +kernel
theorem dX4_entriesOf_28 : decode cX4_entriesOf 28 = .ok (.goto (-24), 3) := by decide +kernel
theorem dX4_entriesOf_31 : decode cX4_entriesOf 31 = .ok (.iload_n 2, 1) := by decide +kernel
theorem dX4_entriesOf_32 : decode cX4_entriesOf 32 = .ok (.ireturn, 1) := by decide +kernel
theorem dX4_isOnStage_0 : decode cX4_isOnStage 0 = .ok (.iconst 0, 1) := by decide +kernel
theorem dX4_isOnStage_1 : decode cX4_isOnStage 1 = .ok (.istore_n 3, 1) := by decide +kernel
theorem dX4_isOnStage_2 : decode cX4_isOnStage 2 = .ok (.iload_n 3, 1) := by decide +kernel
theorem dX4_isOnStage_3 : decode cX4_isOnStage 3 = .ok (.aload_n 0, 1) := by decide +kernel
theorem dX4_isOnStage_4 : decode cX4_isOnStage 4 = .ok (.getfield 18, 3) := by decide +kernel
theorem dX4_isOnStage_7 : decode cX4_isOnStage 7 = .ok (.if_icmp .ge 35, 3) := by decide +kernel
theorem dX4_isOnStage_10 : decode cX4_isOnStage 10 = .ok (.aload_n 0, 1) := by decide +kernel
theorem dX4_isOnStage_11 : decode cX4_isOnStage 11 = .ok (.getfield 30, 3) := by decide +kernel
theorem dX4_isOnStage_14 : decode cX4_isOnStage 14 = .ok (.aload_n 0, 1) := by decide +kernel
theorem dX4_isOnStage_15 : decode cX4_isOnStage 15 = .ok (.getfield 34, 3) := by decide +kernel
theorem dX4_isOnStage_18 : decode cX4_isOnStage 18 = .ok (.iload_n 3, 1) := by decide +kernel
theorem dX4_isOnStage_19 : decode cX4_isOnStage 19 = .ok (.iaload, 1) := by decide +kernel
theorem dX4_isOnStage_20 : decode cX4_isOnStage 20 = .ok (.iaload, 1) := by decide +kernel
theorem dX4_isOnStage_21 : decode cX4_isOnStage 21 = .ok (.iload_n 1, 1) := by decide +kernel
theorem dX4_isOnStage_22 : decode cX4_isOnStage 22 = .ok (.if_icmp .ne 14, 3) := by decide +kernel
theorem dX4_isOnStage_25 : decode cX4_isOnStage 25 = .ok (.aload_n 0, 1) := by decide +kernel
theorem dX4_isOnStage_26 : decode cX4_isOnStage 26 = .ok (.iload_n 3, 1) := by decide +kernel
theorem dX4_isOnStage_27 : decode cX4_isOnStage 27 = .ok (.iload_n 2, 1) := by decide +kernel
theorem dX4_isOnStage_28 : decode cX4_isOnStage 28 = .ok (.invokevirtual 99, 3) := by decide +kernel
theorem dX4_isOnStage_31 : decode cX4_isOnStage 31 = .ok (.ifCond .eq 5, 3) := by decide +kernel
theorem dX4_isOnStage_34 : decode cX4_isOnStage 34 = .ok (.iconst 1, 1) := by decide +kernel
theorem dX4_isOnStage_35 : decode cX4_isOnStage 35 = .ok (.ireturn, 1) := by decide +kernel
theorem dX4_isOnStage_36 : decode cX4_isOnStage 36 = .ok (.iinc 3 1, 3) := by decide +kernel
theorem dX4_isOnStage_39 : decode cX4_isOnStage 39 = .ok (.goto (-37), 3) := by decide +kernel
theorem dX4_isOnStage_42 : decode cX4_isOnStage 42 = .ok (.iconst 0, 1) := by decide +kernel
theorem dX4_isOnStage_43 : decode cX4_isOnStage 43 = .ok (.ireturn, 1) := by decide +kernel
theorem dX4_seenOn_0 : decode cX4_seenOn 0 = .ok (.iconst 0, 1) := by decide +kernel
theorem dX4_seenOn_1 : decode cX4_seenOn 1 = .ok (.istore_n 2, 1) := by decide +kernel
theorem dX4_seenOn_2 : decode cX4_seenOn 2 = .ok (.iconst 0, 1) := by decide +kernel
theorem dX4_seenOn_3 : decode cX4_seenOn 3 = .ok (.istore_n 3, 1) := by decide +kernel
theorem dX4_seenOn_4 : decode cX4_seenOn 4 = .ok (.iload_n 3, 1) := by decide +kernel
theorem dX4_seenOn_5 : decode cX4_seenOn 5 = .ok (.aload_n 0, 1) := by decide +kernel
theorem dX4_seenOn_6 : decode cX4_seenOn 6 = .ok (.getfield 18, 3) := by decide +kernel
theorem dX4_seenOn_9 : decode cX4_seenOn 9 = .ok (.if_icmp .ge 39, 3) := by decide +kernel
theorem dX4_seenOn_12 : decode cX4_seenOn 12 = .ok (.aload_n 0, 1) := by decide +kernel
theorem dX4_seenOn_13 : decode cX4_seenOn 13 = .ok (.iload_n 3, 1) := by decide +kernel
theorem dX4_seenOn_14 : decode cX4_seenOn 14 = .ok (.iload_n 1, 1) := by decide +kernel
theorem dX4_seenOn_15 : decode cX4_seenOn 15 = .ok (.invokevirtual 99, 3) := by decide +kernel
theorem dX4_seenOn_18 : decode cX4_seenOn 18 = .ok (.ifCond .eq 24, 3) := by decide +kernel
theorem dX4_seenOn_21 : decode cX4_seenOn 21 = .ok (.aload_n 0, 1) := by decide +kernel
theorem dX4_seenOn_22 : decode cX4_seenOn 22 = .ok (.getfield 26, 3) := by decide +kernel
theorem dX4_seenOn_25 : decode cX4_seenOn 25 = .ok (.aload_n 0, 1) := by decide +kernel
theorem dX4_seenOn_26 : decode cX4_seenOn 26 = .ok (.getfield 34, 3) := by decide +kernel
theorem dX4_seenOn_29 : decode cX4_seenOn 29 = .ok (.iload_n 3, 1) := by decide +kernel
theorem dX4_seenOn_30 : decode cX4_seenOn 30 = .ok (.iaload, 1) := by decide +kernel
theorem dX4_seenOn_31 : decode cX4_seenOn 31 = .ok (.aaload, 1) := by decide +kernel
theorem dX4_seenOn_32 : decode cX4_seenOn 32 = .ok (.getfield 102, 3) := by decide +kernel
theorem dX4_seenOn_35 : decode cX4_seenOn 35 = .ok (.iconst 3, 1) := by decide +kernel
theorem dX4_seenOn_36 : decode cX4_seenOn 36 = .ok (.if_icmp .eq 6, 3) := by decide +kernel
theorem dX4_seenOn_39 : decode cX4_seenOn 39 = .ok (.iinc 2 1, 3) := by decide +kernel
theorem dX4_seenOn_42 : decode cX4_seenOn 42 = .ok (.iinc 3 1, 3) := by decide +kernel
theorem dX4_seenOn_45 : decode cX4_seenOn 45 = .ok (.goto (-41), 3) := by decide +kernel
theorem dX4_seenOn_48 : decode cX4_seenOn 48 = .ok (.iload_n 2, 1) := by decide +kernel
theorem dX4_seenOn_49 : decode cX4_seenOn 49 = .ok (.ireturn, 1) := by decide +kernel
theorem dX4_usesWithText_0 : decode cX4_usesWithText 0 = .ok (.iconst 0, 1) := by decide +kernel
theorem dX4_usesWithText_1 : decode cX4_usesWithText 1 = .ok (.istore_n 1, 1) := by decide +kernel
theorem dX4_usesWithText_2 : decode cX4_usesWithText 2 = .ok (.iconst 0, 1) := by decide +kernel
theorem dX4_usesWithText_3 : decode cX4_usesWithText 3 = .ok (.istore_n 2, 1) := by decide +kernel
theorem dX4_usesWithText_4 : decode cX4_usesWithText 4 = .ok (.iload_n 2, 1) := by decide +kernel
theorem dX4_usesWithText_5 : decode cX4_usesWithText 5 = .ok (.iconst 3, 1) := by decide +kernel
theorem dX4_usesWithText_6 : decode cX4_usesWithText 6 = .ok (.if_icmp .ge 24, 3) := by decide +kernel
theorem dX4_usesWithText_9 : decode cX4_usesWithText 9 = .ok (.aload_n 0, 1) := by decide +kernel
theorem dX4_usesWithText_10 : decode cX4_usesWithText 10 = .ok (.getfield 67, 3) := by decide +kernel
theorem dX4_usesWithText_13 : decode cX4_usesWithText 13 = .ok (.iload_n 2, 1) := by decide +kernel
theorem dX4_usesWithText_14 : decode cX4_usesWithText 14 = .ok (.aaload, 1) := by decide +kernel
theorem dX4_usesWithText_15 : decode cX4_usesWithText 15 = .ok (.getfield 105, 3) := by decide +kernel
theorem dX4_usesWithText_18 : decode cX4_usesWithText 18 = .ok (.ifCond .le 6, 3) := by decide +kernel
theorem dX4_usesWithText_21 : decode cX4_usesWithText 21 = .ok (.iinc 1 1, 3) := by decide +kernel
theorem dX4_usesWithText_24 : decode cX4_usesWithText 24 = .ok (.iinc 2 1, 3) := by decide +kernel
theorem dX4_usesWithText_27 : decode cX4_usesWithText 27 = .ok (.goto (-23), 3) := by decide +kernel
theorem dX4_usesWithText_30 : decode cX4_usesWithText 30 = .ok (.iload_n 1, 1) := by decide +kernel
theorem dX4_usesWithText_31 : decode cX4_usesWithText 31 = .ok (.ireturn, 1) := by decide +kernel
theorem dX4_partsGiven_0 : decode cX4_partsGiven 0 = .ok (.iconst 0, 1) := by decide +kernel
theorem dX4_partsGiven_1 : decode cX4_partsGiven 1 = .ok (.istore_n 1, 1) := by decide +kernel
theorem dX4_partsGiven_2 : decode cX4_partsGiven 2 = .ok (.iconst 0, 1) := by decide +kernel
theorem dX4_partsGiven_3 : decode cX4_partsGiven 3 = .ok (.istore_n 2, 1) := by decide +kernel
theorem dX4_partsGiven_4 : decode cX4_partsGiven 4 = .ok (.iload_n 2, 1) := by decide +kernel
theorem dX4_partsGiven_5 : decode cX4_partsGiven 5 = .ok (.aload_n 0, 1) := by decide +kernel
theorem dX4_partsGiven_6 : decode cX4_partsGiven 6 = .ok (.getfield 15, 3) := by decide +kernel
theorem dX4_partsGiven_9 : decode cX4_partsGiven 9 = .ok (.if_icmp .ge 22, 3) := by decide +kernel
theorem dX4_partsGiven_12 : decode cX4_partsGiven 12 = .ok (.aload_n 0, 1) := by decide +kernel
theorem dX4_partsGiven_13 : decode cX4_partsGiven 13 = .ok (.getfield 30, 3) := by decide +kernel
theorem dX4_partsGiven_16 : decode cX4_partsGiven 16 = .ok (.iload_n 2, 1) := by decide +kernel
theorem dX4_partsGiven_17 : decode cX4_partsGiven 17 = .ok (.iaload, 1) := by decide +kernel
theorem dX4_partsGiven_18 : decode cX4_partsGiven 18 = .ok (.iconst (-1), 1) := by decide +kernel
theorem dX4_partsGiven_19 : decode cX4_partsGiven 19 = .ok (.if_icmp .eq 6, 3) := by decide +kernel
theorem dX4_partsGiven_22 : decode cX4_partsGiven 22 = .ok (.iinc 1 1, 3) := by decide +kernel
theorem dX4_partsGiven_25 : decode cX4_partsGiven 25 = .ok (.iinc 2 1, 3) := by decide +kernel
theorem dX4_partsGiven_28 : decode cX4_partsGiven 28 = .ok (.goto (-24), 3) := by decide +kernel
theorem dX4_partsGiven_31 : decode cX4_partsGiven 31 = .ok (.iload_n 1, 1) := by decide +kernel
theorem dX4_partsGiven_32 : decode cX4_partsGiven 32 = .ok (.ireturn, 1) := by decide +kernel
theorem dX5_init_0 : decode cX5_init 0 = .ok (.aload_n 0, 1) := by decide +kernel
theorem dX5_init_1 : decode cX5_init 1 = .ok (.invokespecial 3, 3) := by decide +kernel
theorem dX5_init_4 : decode cX5_init 4 = .ok (.aload_n 0, 1) := by decide +kernel
theorem dX5_init_5 : decode cX5_init 5 = .ok (.new 9, 3) := by decide +kernel
theorem dX5_init_8 : decode cX5_init 8 = .ok (.dup, 1) := by decide +kernel
theorem dX5_init_9 : decode cX5_init 9 = .ok (.bipush 50, 2) := by decide +kernel
theorem dX5_init_11 : decode cX5_init 11 = .ok (.invokespecial 11, 3) := by decide +kernel
theorem dX5_init_14 : decode cX5_init 14 = .ok (.putfield 14, 3) := by decide +kernel
theorem dX5_init_17 : decode cX5_init 17 = .ok (.aload_n 0, 1) := by decide +kernel
theorem dX5_init_18 : decode cX5_init 18 = .ok (.aload_n 0, 1) := by decide +kernel
theorem dX5_init_19 : decode cX5_init 19 = .ok (.getfield 14, 3) := by decide +kernel
theorem dX5_init_22 : decode cX5_init 22 = .ok (.putfield 20, 3) := by decide +kernel
theorem dX5_init_25 : decode cX5_init 25 = .ok (.aload_n 0, 1) := by decide +kernel
theorem dX5_init_26 : decode cX5_init 26 = .ok (.ldc 23, 2) := by decide +kernel
theorem dX5_init_28 : decode cX5_init 28 = .ok (.putfield 25, 3) := by decide +kernel
theorem dX5_init_31 : decode cX5_init 31 = .ok (.aload_n 0, 1) := by decide +kernel
theorem dX5_init_32 : decode cX5_init 32 = .ok (.iconst 0, 1) := by decide +kernel
theorem dX5_init_33 : decode cX5_init 33 = .ok (.putfield 29, 3) := by decide +kernel
theorem dX5_init_36 : decode cX5_init 36 = .ok (.aload_n 0, 1) := by decide +kernel
theorem dX5_init_37 : decode cX5_init 37 = .ok (.iconst 0, 1) := by decide +kernel
theorem dX5_init_38 : decode cX5_init 38 = .ok (.putfield 33, 3) := by decide +kernel
theorem dX5_init_41 : decode cX5_init 41 = .ok (.return_, 1) := by decide +kernel
theorem dX5_reads_0 : decode cX5_reads 0 = .ok (.aload_n 0, 1) := by decide +kernel
theorem dX5_reads_1 : decode cX5_reads 1 = .ok (.aload_n 1, 1) := by decide +kernel
theorem dX5_reads_2 : decode cX5_reads 2 = .ok (.putfield 20, 3) := by decide +kernel
theorem dX5_reads_5 : decode cX5_reads 5 = .ok (.aload_n 0, 1) := by decide +kernel
theorem dX5_reads_6 : decode cX5_reads 6 = .ok (.iload_n 2, 1) := by decide +kernel
theorem dX5_reads_7 : decode cX5_reads 7 = .ok (.invokestatic 37, 3) := by decide +kernel
theorem dX5_reads_10 : decode cX5_reads 10 = .ok (.putfield 25, 3) := by decide +kernel
theorem dX5_reads_13 : decode cX5_reads 13 = .ok (.aload_n 0, 1) := by decide +kernel
theorem dX5_reads_14 : decode cX5_reads 14 = .ok (.iconst 0, 1) := by decide +kernel
theorem dX5_reads_15 : decode cX5_reads 15 = .ok (.putfield 29, 3) := by decide +kernel
theorem dX5_reads_18 : decode cX5_reads 18 = .ok (.aload_n 0, 1) := by decide +kernel
theorem dX5_reads_19 : decode cX5_reads 19 = .ok (.iconst 0, 1) := by decide +kernel
theorem dX5_reads_20 : decode cX5_reads 20 = .ok (.putfield 33, 3) := by decide +kernel
theorem dX5_reads_23 : decode cX5_reads 23 = .ok (.aload_n 0, 1) := by decide +kernel
theorem dX5_reads_24 : decode cX5_reads 24 = .ok (.getfield 14, 3) := by decide +kernel
theorem dX5_reads_27 : decode cX5_reads 27 = .ok (.iconst 0, 1) := by decide +kernel
theorem dX5_reads_28 : decode cX5_reads 28 = .ok (.putfield 41, 3) := by decide +kernel
theorem dX5_reads_31 : decode cX5_reads 31 = .ok (.aload_n 0, 1) := by decide +kernel
theorem dX5_reads_32 : decode cX5_reads 32 = .ok (.iconst 0, 1) := by decide +kernel
theorem dX5_reads_33 : decode cX5_reads 33 = .ok (.iconst 0, 1) := by decide +kernel
theorem dX5_reads_34 : decode cX5_reads 34 = .ok (.invokevirtual 44, 3) := by decide +kernel
theorem dX5_reads_37 : decode cX5_reads 37 = .ok (.aload_n 0, 1) := by decide +kernel
theorem dX5_reads_38 : decode cX5_reads 38 = .ok (.getfield 33, 3) := by decide +kernel
theorem dX5_reads_41 : decode cX5_reads 41 = .ok (.ifCond .ne 21, 3) := by decide +kernel
theorem dX5_reads_44 : decode cX5_reads 44 = .ok (.aload_n 0, 1) := by decide +kernel
theorem dX5_reads_45 : decode cX5_reads 45 = .ok (.getfield 29, 3) := by decide +kernel
theorem dX5_reads_48 : decode cX5_reads 48 = .ok (.aload_n 0, 1) := by decide +kernel
theorem dX5_reads_49 : decode cX5_reads 49 = .ok (.getfield 20, 3) := by decide +kernel
theorem dX5_reads_52 : decode cX5_reads 52 = .ok (.getfield 41, 3) := by decide +kernel
theorem dX5_reads_55 : decode cX5_reads 55 = .ok (.if_icmp .ne 7, 3) := by decide +kernel
theorem dX5_reads_58 : decode cX5_reads 58 = .ok (.iconst 1, 1) := by decide +kernel
theorem dX5_reads_59 : decode cX5_reads 59 = .ok (.goto 4, 3) := by decide +kernel
theorem dX5_reads_62 : decode cX5_reads 62 = .ok (.iconst 0, 1) := by decide +kernel
theorem dX5_reads_63 : decode cX5_reads 63 = .ok (.ireturn, 1) := by decide +kernel
theorem dX5_namesOf_0 : decode cX5_namesOf 0 = .ok (.iload_n 0, 1) := by decide +kernel
theorem dX5_namesOf_1 : decode cX5_namesOf 1 = .ok (.lookupswitch 33 #[(0, 27), (1, 30)], 27) := by decide +kernel
theorem dX5_namesOf_28 : decode cX5_namesOf 28 = .ok (.ldc 48, 2) := by decide +kernel
theorem dX5_namesOf_30 : decode cX5_namesOf 30 = .ok (.areturn, 1) := by decide +kernel
theorem dX5_namesOf_31 : decode cX5_namesOf 31 = .ok (.ldc 50, 2) := by decide +kernel
theorem dX5_namesOf_33 : decode cX5_namesOf 33 = .ok (.areturn, 1) := by decide +kernel
theorem dX5_namesOf_34 : decode cX5_namesOf 34 = .ok (.ldc 52, 2) := by decide +kernel
theorem dX5_namesOf_36 : decode cX5_namesOf 36 = .ok (.areturn, 1) := by decide +kernel
theorem dX5_levelOf_0 : decode cX5_levelOf 0 = .ok (.iload_n 0, 1) := by decide +kernel
theorem dX5_levelOf_1 : decode cX5_levelOf 1 = .ok (.lookupswitch 101 #[(37, 99), (38, 93), (42, 99), (43, 97), (45, 97), (47, 99), (60, 95), (61, 95), (62, 95), (124, 91)], 91) := by decide +kernel
theorem dX5_levelOf_92 : decode cX5_levelOf 92 = .ok (.iconst 0, 1) := by decide +kernel
theorem dX5_levelOf_93 : decode cX5_levelOf 93 = .ok (.ireturn, 1) := by decide +kernel
theorem dX5_levelOf_94 : decode cX5_levelOf 94 = .ok (.iconst 1, 1) := by decide +kernel
theorem dX5_levelOf_95 : decode cX5_levelOf 95 = .ok (.ireturn, 1) := by decide +kernel
theorem dX5_levelOf_96 : decode cX5_levelOf 96 = .ok (.iconst 2, 1) := by decide +kernel
theorem dX5_levelOf_97 : decode cX5_levelOf 97 = .ok (.ireturn, 1) := by decide +kernel
theorem dX5_levelOf_98 : decode cX5_levelOf 98 = .ok (.iconst 3, 1) := by decide +kernel
theorem dX5_levelOf_99 : decode cX5_levelOf 99 = .ok (.ireturn, 1) := by decide +kernel
theorem dX5_levelOf_100 : decode cX5_levelOf 100 = .ok (.iconst 4, 1) := by decide +kernel
theorem dX5_levelOf_101 : decode cX5_levelOf 101 = .ok (.ireturn, 1) := by decide +kernel
theorem dX5_levelOf_102 : decode cX5_levelOf 102 = .ok (.iconst (-1), 1) := by decide +kernel
theorem dX5_levelOf_103 : decode cX5_levelOf 103 = .ok (.ireturn, 1) := by decide +kernel
theorem dX5_next_0 : decode cX5_next 0 = .ok (.aload_n 0, 1) := by decide +kernel
theorem dX5_next_1 : decode cX5_next 1 = .ok (.getfield 29, 3) := by decide +kernel
theorem dX5_next_4 : decode cX5_next 4 = .ok (.aload_n 0, 1) := by decide +kernel
theorem dX5_next_5 : decode cX5_next 5 = .ok (.getfield 20, 3) := by decide +kernel
theorem dX5_next_8 : decode cX5_next 8 = .ok (.getfield 41, 3) := by decide +kernel
theorem dX5_next_11 : decode cX5_next 11 = .ok (.if_icmp .ge 18, 3) := by decide +kernel
theorem dX5_next_14 : decode cX5_next 14 = .ok (.aload_n 0, 1) := by decide +kernel
theorem dX5_next_15 : decode cX5_next 15 = .ok (.getfield 20, 3) := by decide +kernel
theorem dX5_next_18 : decode cX5_next 18 = .ok (.getfield 54, 3) := by decide +kernel
theorem dX5_next_21 : decode cX5_next 21 = .ok (.aload_n 0, 1) := by decide +kernel
theorem dX5_next_22 : decode cX5_next 22 = .ok (.getfield 29, 3) := by decide +kernel
theorem dX5_next_25 : decode cX5_next 25 = .ok (.iaload, 1) := by decide +kernel
theorem dX5_next_26 : decode cX5_next 26 = .ok (.goto 4, 3) := by decide +kernel
theorem dX5_next_29 : decode cX5_next 29 = .ok (.iconst (-1), 1) := by decide +kernel
theorem dX5_next_30 : decode cX5_next 30 = .ok (.ireturn, 1) := by decide +kernel
theorem dX5_isDigit_0 : decode cX5_isDigit 0 = .ok (.iload_n 0, 1) := by decide +kernel
theorem dX5_isDigit_1 : decode cX5_isDigit 1 = .ok (.bipush 48, 2) := by decide +kernel
theorem dX5_isDigit_3 : decode cX5_isDigit 3 = .ok (.if_icmp .lt 13, 3) := by decide +kernel
theorem dX5_isDigit_6 : decode cX5_isDigit 6 = .ok (.iload_n 0, 1) := by decide +kernel
theorem dX5_isDigit_7 : decode cX5_isDigit 7 = .ok (.bipush 57, 2) := by decide +kernel
theorem dX5_isDigit_9 : decode cX5_isDigit 9 = .ok (.if_icmp .gt 7, 3) := by decide +kernel
theorem dX5_isDigit_12 : decode cX5_isDigit 12 = .ok (.iconst 1, 1) := by decide +kernel
theorem dX5_isDigit_13 : decode cX5_isDigit 13 = .ok (.goto 4, 3) := by decide +kernel
theorem dX5_isDigit_16 : decode cX5_isDigit 16 = .ok (.iconst 0, 1) := by decide +kernel
theorem dX5_isDigit_17 : decode cX5_isDigit 17 = .ok (.ireturn, 1) := by decide +kernel
theorem dX5_readLevel_0 : decode cX5_readLevel 0 = .ok (.iload_n 1, 1) := by decide +kernel
theorem dX5_readLevel_1 : decode cX5_readLevel 1 = .ok (.iconst 5, 1) := by decide +kernel
theorem dX5_readLevel_2 : decode cX5_readLevel 2 = .ok (.if_icmp .lt 9, 3) := by decide +kernel
theorem dX5_readLevel_5 : decode cX5_readLevel 5 = .ok (.aload_n 0, 1) := by decide +kernel
theorem dX5_readLevel_6 : decode cX5_readLevel 6 = .ok (.iload_n 2, 1) := by decide +kernel
theorem dX5_readLevel_7 : decode cX5_readLevel 7 = .ok (.invokevirtual 58, 3) := by decide +kernel
theorem dX5_readLevel_10 : decode cX5_readLevel 10 = .ok (.return_, 1) := by decide +kernel
theorem dX5_readLevel_11 : decode cX5_readLevel 11 = .ok (.aload_n 0, 1) := by decide +kernel
theorem dX5_readLevel_12 : decode cX5_readLevel 12 = .ok (.iload_n 1, 1) := by decide +kernel
theorem dX5_readLevel_13 : decode cX5_readLevel 13 = .ok (.iconst 1, 1) := by decide +kernel
theorem dX5_readLevel_14 : decode cX5_readLevel 14 = .ok (.iadd, 1) := by decide +kernel
theorem dX5_readLevel_15 : decode cX5_readLevel 15 = .ok (.iload_n 2, 1) := by decide +kernel
theorem dX5_readLevel_16 : decode cX5_readLevel 16 = .ok (.invokevirtual 44, 3) := by decide +kernel
theorem dX5_readLevel_19 : decode cX5_readLevel 19 = .ok (.iload_n 1, 1) := by decide +kernel
theorem dX5_readLevel_20 : decode cX5_readLevel 20 = .ok (.iconst 2, 1) := by decide +kernel
theorem dX5_readLevel_21 : decode cX5_readLevel 21 = .ok (.if_icmp .ne 7, 3) := by decide +kernel
theorem dX5_readLevel_24 : decode cX5_readLevel 24 = .ok (.iconst 1, 1) := by decide +kernel
theorem dX5_readLevel_25 : decode cX5_readLevel 25 = .ok (.goto 5, 3) := by decide +kernel
theorem dX5_readLevel_28 : decode cX5_readLevel 28 = .ok (.bipush 50, 2) := by decide +kernel
theorem dX5_readLevel_30 : decode cX5_readLevel 30 = .ok (.istore_n 3, 1) := by decide +kernel
theorem dX5_readLevel_31 : decode cX5_readLevel 31 = .ok (.iconst 0, 1) := by decide +kernel
theorem dX5_readLevel_32 : decode cX5_readLevel 32 = .ok (.istore 4, 2) := by decide +kernel
theorem dX5_readLevel_34 : decode cX5_readLevel 34 = .ok (.iload 4, 2) := by decide +kernel
theorem dX5_readLevel_36 : decode cX5_readLevel 36 = .ok (.iload_n 3, 1) := by decide +kernel
theorem dX5_readLevel_37 : decode cX5_readLevel 37 = .ok (.if_icmp .ge 60, 3) := by decide +kernel
theorem dX5_readLevel_40 : decode cX5_readLevel 40 = .ok (.aload_n 0, 1) := by decide +kernel
theorem dX5_readLevel_41 : decode cX5_readLevel 41 = .ok (.getfield 33, 3) := by decide +kernel
theorem dX5_readLevel_44 : decode cX5_readLevel 44 = .ok (.ifCond .ne 53, 3) := by decide +kernel
theorem dX5_readLevel_47 : decode cX5_readLevel 47 = .ok (.aload_n 0, 1) := by decide +kernel
theorem dX5_readLevel_48 : decode cX5_readLevel 48 = .ok (.invokevirtual 61, 3) := by decide +kernel
theorem dX5_readLevel_51 : decode cX5_readLevel 51 = .ok (.invokestatic 65, 3) := by decide +kernel
theorem dX5_readLevel_54 : decode cX5_readLevel 54 = .ok (.iload_n 1, 1) := by decide +kernel
theorem dX5_readLevel_55 : decode cX5_readLevel 55 = .ok (.if_icmp .ne 42, 3) := by decide +kernel
theorem dX5_readLevel_58 : decode cX5_readLevel 58 = .ok (.aload_n 0, 1) := by decide +kernel
theorem dX5_readLevel_59 : decode cX5_readLevel 59 = .ok (.invokevirtual 61, 3) := by decide +kernel
theorem dX5_readLevel_62 : decode cX5_readLevel 62 = .ok (.istore 5, 2) := by decide +kernel
theorem dX5_readLevel_64 : decode cX5_readLevel 64 = .ok (.aload_n 0, 1) := by decide +kernel
theorem dX5_readLevel_65 : decode cX5_readLevel 65 = .ok (.dup, 1) := by decide +kernel
theorem dX5_readLevel_66 : decode cX5_readLevel 66 = .ok (.getfield 29, 3) := by decide +kernel
theorem dX5_readLevel_69 : decode cX5_readLevel 69 = .ok (.iconst 1, 1) := by decide +kernel
theorem dX5_readLevel_70 : decode cX5_readLevel 70 = .ok (.iadd, 1) := by decide +kernel
theorem dX5_readLevel_71 : decode cX5_readLevel 71 = .ok (.putfield 29, 3) := by decide +kernel
theorem dX5_readLevel_74 : decode cX5_readLevel 74 = .ok (.aload_n 0, 1) := by decide +kernel
theorem dX5_readLevel_75 : decode cX5_readLevel 75 = .ok (.iload_n 1, 1) := by decide +kernel
theorem dX5_readLevel_76 : decode cX5_readLevel 76 = .ok (.iconst 1, 1) := by decide +kernel
theorem dX5_readLevel_77 : decode cX5_readLevel 77 = .ok (.iadd, 1) := by decide +kernel
theorem dX5_readLevel_78 : decode cX5_readLevel 78 = .ok (.iload_n 2, 1) := by decide +kernel
theorem dX5_readLevel_79 : decode cX5_readLevel 79 = .ok (.invokevirtual 44, 3) := by decide +kernel
theorem dX5_readLevel_82 : decode cX5_readLevel 82 = .ok (.aload_n 0, 1) := by decide +kernel
theorem dX5_readLevel_83 : decode cX5_readLevel 83 = .ok (.getfield 14, 3) := by decide +kernel
theorem dX5_readLevel_86 : decode cX5_readLevel 86 = .ok (.iload 5, 2) := by decide +kernel
theorem dX5_readLevel_88 : decode cX5_readLevel 88 = .ok (.invokevirtual 69, 3) := by decide +kernel
theorem dX5_readLevel_91 : decode cX5_readLevel 91 = .ok (.iinc 4 1, 3) := by decide +kernel
theorem dX5_readLevel_94 : decode cX5_readLevel 94 = .ok (.goto (-60), 3) := by decide +kernel
theorem dX5_readLevel_97 : decode cX5_readLevel 97 = .ok (.return_, 1) := by decide +kernel
theorem dX5_readUnit_0 : decode cX5_readUnit 0 = .ok (.aload_n 0, 1) := by decide +kernel
theorem dX5_readUnit_1 : decode cX5_readUnit 1 = .ok (.invokevirtual 61, 3) := by decide +kernel
theorem dX5_readUnit_4 : decode cX5_readUnit 4 = .ok (.istore_n 2, 1) := by decide +kernel
theorem dX5_readUnit_5 : decode cX5_readUnit 5 = .ok (.iload_n 2, 1) := by decide +kernel
theorem dX5_readUnit_6 : decode cX5_readUnit 6 = .ok (.invokestatic 72, 3) := by decide +kernel
theorem dX5_readUnit_9 : decode cX5_readUnit 9 = .ok (.ifCond .eq 10, 3) := by decide +kernel
theorem dX5_readUnit_12 : decode cX5_readUnit 12 = .ok (.aload_n 0, 1) := by decide +kernel
theorem dX5_readUnit_13 : decode cX5_readUnit 13 = .ok (.invokevirtual 76, 3) := by decide +kernel
theorem dX5_readUnit_16 : decode cX5_readUnit 16 = .ok (.goto 121, 3) := by decide +kernel
theorem dX5_readUnit_19 : decode cX5_readUnit 19 = .ok (.iload_n 2, 1) := by decide +kernel
theorem dX5_readUnit_20 : decode cX5_readUnit 20 = .ok (.iconst (-1), 1) := by decide +kernel
theorem dX5_readUnit_21 : decode cX5_readUnit 21 = .ok (.if_icmp .eq 36, 3) := by decide +kernel
theorem dX5_readUnit_24 : decode cX5_readUnit 24 = .ok (.aload_n 0, 1) := by decide +kernel
theorem dX5_readUnit_25 : decode cX5_readUnit 25 = .ok (.getfield 25, 3) := by decide +kernel
theorem dX5_readUnit_28 : decode cX5_readUnit 28 = .ok (.iload_n 2, 1) := by decide +kernel
theorem dX5_readUnit_29 : decode cX5_readUnit 29 = .ok (.i2c, 1) := by decide +kernel
theorem dX5_readUnit_30 : decode cX5_readUnit 30 = .ok (.invokevirtual 79, 3) := by decide +kernel
theorem dX5_readUnit_33 : decode cX5_readUnit 33 = .ok (.ifCond .lt 24, 3) := by decide +kernel
theorem dX5_readUnit_36 : decode cX5_readUnit 36 = .ok (.aload_n 0, 1) := by decide +kernel
theorem dX5_readUnit_37 : decode cX5_readUnit 37 = .ok (.getfield 14, 3) := by decide +kernel
theorem dX5_readUnit_40 : decode cX5_readUnit 40 = .ok (.iload_n 2, 1) := by decide +kernel
theorem dX5_readUnit_41 : decode cX5_readUnit 41 = .ok (.invokevirtual 69, 3) := by decide +kernel
theorem dX5_readUnit_44 : decode cX5_readUnit 44 = .ok (.aload_n 0, 1) := by decide +kernel
theorem dX5_readUnit_45 : decode cX5_readUnit 45 = .ok (.dup, 1) := by decide +kernel
theorem dX5_readUnit_46 : decode cX5_readUnit 46 = .ok (.getfield 29, 3) := by decide +kernel
theorem dX5_readUnit_49 : decode cX5_readUnit 49 = .ok (.iconst 1, 1) := by decide +kernel
theorem dX5_readUnit_50 : decode cX5_readUnit 50 = .ok (.iadd, 1) := by decide +kernel
theorem dX5_readUnit_51 : decode cX5_readUnit 51 = .ok (.putfield 29, 3) := by decide +kernel
theorem dX5_readUnit_54 : decode cX5_readUnit 54 = .ok (.goto 83, 3) := by decide +kernel
theorem dX5_readUnit_57 : decode cX5_readUnit 57 = .ok (.iload_n 2, 1) := by decide +kernel
theorem dX5_readUnit_58 : decode cX5_readUnit 58 = .ok (.bipush 33, 2) := by decide +kernel
theorem dX5_readUnit_60 : decode cX5_readUnit 60 = .ok (.if_icmp .ne 36, 3) := by decide +kernel
theorem dX5_readUnit_63 : decode cX5_readUnit 63 = .ok (.iload_n 1, 1) := by decide +kernel
theorem dX5_readUnit_64 : decode cX5_readUnit 64 = .ok (.iconst 5, 1) := by decide +kernel
theorem dX5_readUnit_65 : decode cX5_readUnit 65 = .ok (.if_icmp .ge 31, 3) := by decide +kernel
theorem dX5_readUnit_68 : decode cX5_readUnit 68 = .ok (.aload_n 0, 1) := by decide +kernel
theorem dX5_readUnit_69 : decode cX5_readUnit 69 = .ok (.dup, 1) := by decide +kernel
theorem dX5_readUnit_70 : decode cX5_readUnit 70 = .ok (.getfield 29, 3) := by decide +kernel
theorem dX5_readUnit_73 : decode cX5_readUnit 73 = .ok (.iconst 1, 1) := by decide +kernel
theorem dX5_readUnit_74 : decode cX5_readUnit 74 = .ok (.iadd, 1) := by decide +kernel
theorem dX5_readUnit_75 : decode cX5_readUnit 75 = .ok (.putfield 29, 3) := by decide +kernel
theorem dX5_readUnit_78 : decode cX5_readUnit 78 = .ok (.aload_n 0, 1) := by decide +kernel
theorem dX5_readUnit_79 : decode cX5_readUnit 79 = .ok (.iload_n 1, 1) := by decide +kernel
theorem dX5_readUnit_80 : decode cX5_readUnit 80 = .ok (.iconst 1, 1) := by decide +kernel
theorem dX5_readUnit_81 : decode cX5_readUnit 81 = .ok (.iadd, 1) := by decide +kernel
theorem dX5_readUnit_82 : decode cX5_readUnit 82 = .ok (.invokevirtual 58, 3) := by decide +kernel
theorem dX5_readUnit_85 : decode cX5_readUnit 85 = .ok (.aload_n 0, 1) := by decide +kernel
theorem dX5_readUnit_86 : decode cX5_readUnit 86 = .ok (.getfield 14, 3) := by decide +kernel
theorem dX5_readUnit_89 : decode cX5_readUnit 89 = .ok (.iload_n 2, 1) := by decide +kernel
theorem dX5_readUnit_90 : decode cX5_readUnit 90 = .ok (.invokevirtual 69, 3) := by decide +kernel
theorem dX5_readUnit_93 : decode cX5_readUnit 93 = .ok (.goto 44, 3) := by decide +kernel
theorem dX5_readUnit_96 : decode cX5_readUnit 96 = .ok (.iload_n 2, 1) := by decide +kernel
theorem dX5_readUnit_97 : decode cX5_readUnit 97 = .ok (.bipush 40, 2) := by decide +kernel
theorem dX5_readUnit_99 : decode cX5_readUnit 99 = .ok (.if_icmp .ne 33, 3) := by decide +kernel
theorem dX5_readUnit_102 : decode cX5_readUnit 102 = .ok (.iload_n 1, 1) := by decide +kernel
theorem dX5_readUnit_103 : decode cX5_readUnit 103 = .ok (.iconst 5, 1) := by decide +kernel
theorem dX5_readUnit_104 : decode cX5_readUnit 104 = .ok (.if_icmp .ge 28, 3) := by decide +kernel
theorem dX5_readUnit_107 : decode cX5_readUnit 107 = .ok (.aload_n 0, 1) := by decide +kernel
theorem dX5_readUnit_108 : decode cX5_readUnit 108 = .ok (.dup, 1) := by decide +kernel
theorem dX5_readUnit_109 : decode cX5_readUnit 109 = .ok (.getfield 29, 3) := by decide +kernel
theorem dX5_readUnit_112 : decode cX5_readUnit 112 = .ok (.iconst 1, 1) := by decide +kernel
theorem dX5_readUnit_113 : decode cX5_readUnit 113 = .ok (.iadd, 1) := by decide +kernel
theorem dX5_readUnit_114 : decode cX5_readUnit 114 = .ok (.putfield 29, 3) := by decide +kernel
theorem dX5_readUnit_117 : decode cX5_readUnit 117 = .ok (.aload_n 0, 1) := by decide +kernel
theorem dX5_readUnit_118 : decode cX5_readUnit 118 = .ok (.iconst 0, 1) := by decide +kernel
theorem dX5_readUnit_119 : decode cX5_readUnit 119 = .ok (.iload_n 1, 1) := by decide +kernel
theorem dX5_readUnit_120 : decode cX5_readUnit 120 = .ok (.iconst 1, 1) := by decide +kernel
theorem dX5_readUnit_121 : decode cX5_readUnit 121 = .ok (.iadd, 1) := by decide +kernel
theorem dX5_readUnit_122 : decode cX5_readUnit 122 = .ok (.invokevirtual 44, 3) := by decide +kernel
theorem dX5_readUnit_125 : decode cX5_readUnit 125 = .ok (.aload_n 0, 1) := by decide +kernel
theorem dX5_readUnit_126 : decode cX5_readUnit 126 = .ok (.invokevirtual 84, 3) := by decide +kernel
theorem dX5_readUnit_129 : decode cX5_readUnit 129 = .ok (.goto 8, 3) := by decide +kernel
theorem dX5_readUnit_132 : decode cX5_readUnit 132 = .ok (.aload_n 0, 1) := by decide +kernel
theorem dX5_readUnit_133 : decode cX5_readUnit 133 = .ok (.iconst 1, 1) := by decide +kernel
theorem dX5_readUnit_134 : decode cX5_readUnit 134 = .ok (.putfield 33, 3) := by decide +kernel
theorem dX5_readUnit_137 : decode cX5_readUnit 137 = .ok (.return_, 1) := by decide +kernel
theorem dX5_readNumber_0 : decode cX5_readNumber 0 = .ok (.iconst 0, 1) := by decide +kernel
theorem dX5_readNumber_1 : decode cX5_readNumber 1 = .ok (.istore_n 1, 1) := by decide +kernel
theorem dX5_readNumber_2 : decode cX5_readNumber 2 = .ok (.iconst 0, 1) := by decide +kernel
theorem dX5_readNumber_3 : decode cX5_readNumber 3 = .ok (.istore_n 2, 1) := by decide +kernel
theorem dX5_readNumber_4 : decode cX5_readNumber 4 = .ok (.iload_n 2, 1) := by decide +kernel
theorem dX5_readNumber_5 : decode cX5_readNumber 5 = .ok (.iconst 4, 1) := by decide +kernel
theorem dX5_readNumber_6 : decode cX5_readNumber 6 = .ok (.if_icmp .ge 42, 3) := by decide +kernel
theorem dX5_readNumber_9 : decode cX5_readNumber 9 = .ok (.aload_n 0, 1) := by decide +kernel
theorem dX5_readNumber_10 : decode cX5_readNumber 10 = .ok (.invokevirtual 61, 3) := by decide +kernel
theorem dX5_readNumber_13 : decode cX5_readNumber 13 = .ok (.invokestatic 72, 3) := by decide +kernel
theorem dX5_readNumber_16 : decode cX5_readNumber 16 = .ok (.ifCond .eq 32, 3) := by decide +kernel
theorem dX5_readNumber_19 : decode cX5_readNumber 19 = .ok (.iload_n 1, 1) := by decide +kernel
theorem dX5_readNumber_20 : decode cX5_readNumber 20 = .ok (.bipush 10, 2) := by decide +kernel
theorem dX5_readNumber_22 : decode cX5_readNumber 22 = .ok (.imul, 1) := by decide +kernel
theorem dX5_readNumber_23 : decode cX5_readNumber 23 = .ok (.aload_n 0, 1) := by decide +kernel
theorem dX5_readNumber_24 : decode cX5_readNumber 24 = .ok (.invokevirtual 61, 3) := by decide +kernel
theorem dX5_readNumber_27 : decode cX5_readNumber 27 = .ok (.iadd, 1) := by decide +kernel
theorem dX5_readNumber_28 : decode cX5_readNumber 28 = .ok (.bipush 48, 2) := by decide +kernel
theorem dX5_readNumber_30 : decode cX5_readNumber 30 = .ok (.isub, 1) := by decide +kernel
theorem dX5_readNumber_31 : decode cX5_readNumber 31 = .ok (.istore_n 1, 1) := by decide +kernel
theorem dX5_readNumber_32 : decode cX5_readNumber 32 = .ok (.aload_n 0, 1) := by decide +kernel
theorem dX5_readNumber_33 : decode cX5_readNumber 33 = .ok (.dup, 1) := by decide +kernel
theorem dX5_readNumber_34 : decode cX5_readNumber 34 = .ok (.getfield 29, 3) := by decide +kernel
theorem dX5_readNumber_37 : decode cX5_readNumber 37 = .ok (.iconst 1, 1) := by decide +kernel
theorem dX5_readNumber_38 : decode cX5_readNumber 38 = .ok (.iadd, 1) := by decide +kernel
theorem dX5_readNumber_39 : decode cX5_readNumber 39 = .ok (.putfield 29, 3) := by decide +kernel
theorem dX5_readNumber_42 : decode cX5_readNumber 42 = .ok (.iinc 2 1, 3) := by decide +kernel
theorem dX5_readNumber_45 : decode cX5_readNumber 45 = .ok (.goto (-41), 3) := by decide +kernel
theorem dX5_readNumber_48 : decode cX5_readNumber 48 = .ok (.aload_n 0, 1) := by decide +kernel
theorem dX5_readNumber_49 : decode cX5_readNumber 49 = .ok (.getfield 14, 3) := by decide +kernel
theorem dX5_readNumber_52 : decode cX5_readNumber 52 = .ok (.sipush 256, 3) := by decide +kernel
theorem dX5_readNumber_55 : decode cX5_readNumber 55 = .ok (.iload_n 1, 1) := by decide +kernel
theorem dX5_readNumber_56 : decode cX5_readNumber 56 = .ok (.iadd, 1) := by decide +kernel
theorem dX5_readNumber_57 : decode cX5_readNumber 57 = .ok (.invokevirtual 69, 3) := by decide +kernel
theorem dX5_readNumber_60 : decode cX5_readNumber 60 = .ok (.return_, 1) := by decide +kernel
theorem dX5_readClosing_0 : decode cX5_readClosing 0 = .ok (.aload_n 0, 1) := by decide +kernel
theorem dX5_readClosing_1 : decode cX5_readClosing 1 = .ok (.getfield 33, 3) := by decide +kernel
theorem dX5_readClosing_4 : decode cX5_readClosing 4 = .ok (.ifCond .ne 12, 3) := by decide +kernel
theorem dX5_readClosing_7 : decode cX5_readClosing 7 = .ok (.aload_n 0, 1) := by decide +kernel
theorem dX5_readClosing_8 : decode cX5_readClosing 8 = .ok (.invokevirtual 61, 3) := by decide +kernel
theorem dX5_readClosing_11 : decode cX5_readClosing 11 = .ok (.bipush 41, 2) := by decide +kernel
theorem dX5_readClosing_13 : decode cX5_readClosing 13 = .ok (.if_icmp .eq 11, 3) := by decide +kernel
theorem dX5_readClosing_16 : decode cX5_readClosing 16 = .ok (.aload_n 0, 1) := by decide +kernel
theorem dX5_readClosing_17 : decode cX5_readClosing 17 = .ok (.iconst 1, 1) := by decide +kernel
theorem dX5_readClosing_18 : decode cX5_readClosing 18 = .ok (.putfield 33, 3) := by decide +kernel
theorem dX5_readClosing_21 : decode cX5_readClosing 21 = .ok (.goto 13, 3) := by decide +kernel
theorem dX5_readClosing_24 : decode cX5_readClosing 24 = .ok (.aload_n 0, 1) := by decide +kernel
theorem dX5_readClosing_25 : decode cX5_readClosing 25 = .ok (.dup, 1) := by decide +kernel
theorem dX5_readClosing_26 : decode cX5_readClosing 26 = .ok (.getfield 29, 3) := by decide +kernel
theorem dX5_readClosing_29 : decode cX5_readClosing 29 = .ok (.iconst 1, 1) := by decide +kernel
theorem dX5_readClosing_30 : decode cX5_readClosing 30 = .ok (.iadd, 1) := by decide +kernel
theorem dX5_readClosing_31 : decode cX5_readClosing 31 = .ok (.putfield 29, 3) := by decide +kernel
theorem dX5_readClosing_34 : decode cX5_readClosing 34 = .ok (.return_, 1) := by decide +kernel
theorem dX6_init_0 : decode cX6_init 0 = .ok (.aload_n 0, 1) := by decide +kernel
theorem dX6_init_1 : decode cX6_init 1 = .ok (.invokespecial 3, 3) := by decide +kernel
theorem dX6_init_4 : decode cX6_init 4 = .ok (.aload_n 0, 1) := by decide +kernel
theorem dX6_init_5 : decode cX6_init 5 = .ok (.iload_n 1, 1) := by decide +kernel
theorem dX6_init_6 : decode cX6_init 6 = .ok (.putfield 9, 3) := by decide +kernel
theorem dX6_init_9 : decode cX6_init 9 = .ok (.aload_n 0, 1) := by decide +kernel
theorem dX6_init_10 : decode cX6_init 10 = .ok (.iload_n 2, 1) := by decide +kernel
theorem dX6_init_11 : decode cX6_init 11 = .ok (.putfield 15, 3) := by decide +kernel
theorem dX6_init_14 : decode cX6_init 14 = .ok (.aload_n 0, 1) := by decide +kernel
theorem dX6_init_15 : decode cX6_init 15 = .ok (.iload_n 3, 1) := by decide +kernel
theorem dX6_init_16 : decode cX6_init 16 = .ok (.sipush 1000, 3) := by decide +kernel
theorem dX6_init_19 : decode cX6_init 19 = .ok (.idiv, 1) := by decide +kernel
theorem dX6_init_20 : decode cX6_init 20 = .ok (.putfield 18, 3) := by decide +kernel
theorem dX6_init_23 : decode cX6_init 23 = .ok (.aload_n 0, 1) := by decide +kernel
theorem dX6_init_24 : decode cX6_init 24 = .ok (.iload_n 3, 1) := by decide +kernel
theorem dX6_init_25 : decode cX6_init 25 = .ok (.bipush 10, 2) := by decide +kernel
theorem dX6_init_27 : decode cX6_init 27 = .ok (.idiv, 1) := by decide +kernel
theorem dX6_init_28 : decode cX6_init 28 = .ok (.bipush 100, 2) := by decide +kernel
theorem dX6_init_30 : decode cX6_init 30 = .ok (.irem, 1) := by decide +kernel
theorem dX6_init_31 : decode cX6_init 31 = .ok (.putfield 21, 3) := by decide +kernel
theorem dX6_init_34 : decode cX6_init 34 = .ok (.aload_n 0, 1) := by decide +kernel
theorem dX6_init_35 : decode cX6_init 35 = .ok (.iload_n 3, 1) := by decide +kernel
theorem dX6_init_36 : decode cX6_init 36 = .ok (.bipush 10, 2) := by decide +kernel
theorem dX6_init_38 : decode cX6_init 38 = .ok (.irem, 1) := by decide +kernel
theorem dX6_init_39 : decode cX6_init 39 = .ok (.putfield 24, 3) := by decide +kernel
theorem dX6_init_42 : decode cX6_init 42 = .ok (.return_, 1) := by decide +kernel
theorem dX6_isOf_0 : decode cX6_isOf 0 = .ok (.iload_n 1, 1) := by decide +kernel
theorem dX6_isOf_1 : decode cX6_isOf 1 = .ok (.tableswitch 60 1 5 #[35, 40, 45, 50, 55], 35) := by decide +kernel
theorem dX6_isOf_36 : decode cX6_isOf 36 = .ok (.aload_n 0, 1) := by decide +kernel
theorem dX6_isOf_37 : decode cX6_isOf 37 = .ok (.instanceof 27, 3) := by decide +kernel
theorem dX6_isOf_40 : decode cX6_isOf 40 = .ok (.ireturn, 1) := by decide +kernel
theorem dX6_isOf_41 : decode cX6_isOf 41 = .ok (.aload_n 0, 1) := by decide +kernel
theorem dX6_isOf_42 : decode cX6_isOf 42 = .ok (.instanceof 29, 3) := by decide +kernel
theorem dX6_isOf_45 : decode cX6_isOf 45 = .ok (.ireturn, 1) := by decide +kernel
theorem dX6_isOf_46 : decode cX6_isOf 46 = .ok (.aload_n 0, 1) := by decide +kernel
theorem dX6_isOf_47 : decode cX6_isOf 47 = .ok (.instanceof 31, 3) := by decide +kernel
theorem dX6_isOf_50 : decode cX6_isOf 50 = .ok (.ireturn, 1) := by decide +kernel
theorem dX6_isOf_51 : decode cX6_isOf 51 = .ok (.aload_n 0, 1) := by decide +kernel
theorem dX6_isOf_52 : decode cX6_isOf 52 = .ok (.instanceof 33, 3) := by decide +kernel
theorem dX6_isOf_55 : decode cX6_isOf 55 = .ok (.ireturn, 1) := by decide +kernel
theorem dX6_isOf_56 : decode cX6_isOf 56 = .ok (.aload_n 0, 1) := by decide +kernel
theorem dX6_isOf_57 : decode cX6_isOf 57 = .ok (.instanceof 35, 3) := by decide +kernel
theorem dX6_isOf_60 : decode cX6_isOf 60 = .ok (.ireturn, 1) := by decide +kernel
theorem dX6_isOf_61 : decode cX6_isOf 61 = .ok (.iconst 1, 1) := by decide +kernel
theorem dX6_isOf_62 : decode cX6_isOf 62 = .ok (.ireturn, 1) := by decide +kernel
theorem dX6_speak_0 : decode cX6_speak 0 = .ok (.aload_n 2, 1) := by decide +kernel
theorem dX6_speak_1 : decode cX6_speak 1 = .ok (.bipush 10, 2) := by decide +kernel
theorem dX6_speak_3 : decode cX6_speak 3 = .ok (.invokevirtual 37, 3) := by decide +kernel
theorem dX6_speak_6 : decode cX6_speak 6 = .ok (.iload_n 1, 1) := by decide +kernel
theorem dX6_speak_7 : decode cX6_speak 7 = .ok (.aload_n 0, 1) := by decide +kernel
theorem dX6_speak_8 : decode cX6_speak 8 = .ok (.getfield 9, 3) := by decide +kernel
theorem dX6_speak_11 : decode cX6_speak 11 = .ok (.iadd, 1) := by decide +kernel
theorem dX6_speak_12 : decode cX6_speak 12 = .ok (.ireturn, 1) := by decide +kernel
theorem dX6_walk_0 : decode cX6_walk 0 = .ok (.aload_n 2, 1) := by decide +kernel
theorem dX6_walk_1 : decode cX6_walk 1 = .ok (.bipush 11, 2) := by decide +kernel
theorem dX6_walk_3 : decode cX6_walk 3 = .ok (.invokevirtual 37, 3) := by decide +kernel
theorem dX6_walk_6 : decode cX6_walk 6 = .ok (.aload_n 0, 1) := by decide +kernel
theorem dX6_walk_7 : decode cX6_walk 7 = .ok (.iload_n 1, 1) := by decide +kernel
theorem dX6_walk_8 : decode cX6_walk 8 = .ok (.aload_n 2, 1) := by decide +kernel
theorem dX6_walk_9 : decode cX6_walk 9 = .ok (.invokevirtual 43, 3) := by decide +kernel
theorem dX6_walk_12 : decode cX6_walk 12 = .ok (.iconst 2, 1) := by decide +kernel
theorem dX6_walk_13 : decode cX6_walk 13 = .ok (.imul, 1) := by decide +kernel
theorem dX6_walk_14 : decode cX6_walk 14 = .ok (.ireturn, 1) := by decide +kernel
theorem dX6_die_0 : decode cX6_die 0 = .ok (.aload_n 2, 1) := by decide +kernel
theorem dX6_die_1 : decode cX6_die 1 = .ok (.bipush 12, 2) := by decide +kernel
theorem dX6_die_3 : decode cX6_die 3 = .ok (.invokevirtual 37, 3) := by decide +kernel
theorem dX6_die_6 : decode cX6_die 6 = .ok (.iload_n 1, 1) := by decide +kernel
theorem dX6_die_7 : decode cX6_die 7 = .ok (.aload_n 0, 1) := by decide +kernel
theorem dX6_die_8 : decode cX6_die 8 = .ok (.getfield 24, 3) := by decide +kernel
theorem dX6_die_11 : decode cX6_die 11 = .ok (.isub, 1) := by decide +kernel
theorem dX6_die_12 : decode cX6_die 12 = .ok (.ireturn, 1) := by decide +kernel
theorem dX6_bow_0 : decode cX6_bow 0 = .ok (.aload_n 2, 1) := by decide +kernel
theorem dX6_bow_1 : decode cX6_bow 1 = .ok (.bipush 13, 2) := by decide +kernel
theorem dX6_bow_3 : decode cX6_bow 3 = .ok (.invokevirtual 37, 3) := by decide +kernel
theorem dX6_bow_6 : decode cX6_bow 6 = .ok (.aload_n 0, 1) := by decide +kernel
theorem dX6_bow_7 : decode cX6_bow 7 = .ok (.iload_n 1, 1) := by decide +kernel
theorem dX6_bow_8 : decode cX6_bow 8 = .ok (.aload_n 2, 1) := by decide +kernel
theorem dX6_bow_9 : decode cX6_bow 9 = .ok (.invokevirtual 47, 3) := by decide +kernel
theorem dX6_bow_12 : decode cX6_bow 12 = .ok (.aload_n 0, 1) := by decide +kernel
theorem dX6_bow_13 : decode cX6_bow 13 = .ok (.iload_n 1, 1) := by decide +kernel
theorem dX6_bow_14 : decode cX6_bow 14 = .ok (.aload_n 2, 1) := by decide +kernel
theorem dX6_bow_15 : decode cX6_bow 15 = .ok (.invokevirtual 50, 3) := by decide +kernel
theorem dX6_bow_18 : decode cX6_bow 18 = .ok (.ixor, 1) := by decide +kernel
theorem dX6_bow_19 : decode cX6_bow 19 = .ok (.ireturn, 1) := by decide +kernel
theorem dX7_init_0 : decode cX7_init 0 = .ok (.aload_n 0, 1) := by decide +kernel
theorem dX7_init_1 : decode cX7_init 1 = .ok (.invokespecial 1, 3) := by decide +kernel
theorem dX7_init_4 : decode cX7_init 4 = .ok (.aload_n 0, 1) := by decide +kernel
theorem dX7_init_5 : decode cX7_init 5 = .ok (.iconst 0, 1) := by decide +kernel
theorem dX7_init_6 : decode cX7_init 6 = .ok (.putfield 7, 3) := by decide +kernel
theorem dX7_init_9 : decode cX7_init 9 = .ok (.aload_n 0, 1) := by decide +kernel
theorem dX7_init_10 : decode cX7_init 10 = .ok (.iload_n 1, 1) := by decide +kernel
theorem dX7_init_11 : decode cX7_init 11 = .ok (.newarray .int, 2) := by decide +kernel
theorem dX7_init_13 : decode cX7_init 13 = .ok (.putfield 13, 3) := by decide +kernel
theorem dX7_init_16 : decode cX7_init 16 = .ok (.return_, 1) := by decide +kernel
theorem dX7_add_0 : decode cX7_add 0 = .ok (.aload_n 0, 1) := by decide +kernel
theorem dX7_add_1 : decode cX7_add 1 = .ok (.getfield 7, 3) := by decide +kernel
theorem dX7_add_4 : decode cX7_add 4 = .ok (.aload_n 0, 1) := by decide +kernel
theorem dX7_add_5 : decode cX7_add 5 = .ok (.getfield 13, 3) := by decide +kernel
theorem dX7_add_8 : decode cX7_add 8 = .ok (.arraylength, 1) := by decide +kernel
theorem dX7_add_9 : decode cX7_add 9 = .ok (.if_icmp .ge 23, 3) := by decide +kernel
theorem dX7_add_12 : decode cX7_add 12 = .ok (.aload_n 0, 1) := by decide +kernel
theorem dX7_add_13 : decode cX7_add 13 = .ok (.getfield 13, 3) := by decide +kernel
theorem dX7_add_16 : decode cX7_add 16 = .ok (.aload_n 0, 1) := by decide +kernel
theorem dX7_add_17 : decode cX7_add 17 = .ok (.getfield 7, 3) := by decide +kernel
theorem dX7_add_20 : decode cX7_add 20 = .ok (.iload_n 1, 1) := by decide +kernel
theorem dX7_add_21 : decode cX7_add 21 = .ok (.iastore, 1) := by decide +kernel
theorem dX7_add_22 : decode cX7_add 22 = .ok (.aload_n 0, 1) := by decide +kernel
theorem dX7_add_23 : decode cX7_add 23 = .ok (.dup, 1) := by decide +kernel
theorem dX7_add_24 : decode cX7_add 24 = .ok (.getfield 7, 3) := by decide +kernel
theorem dX7_add_27 : decode cX7_add 27 = .ok (.iconst 1, 1) := by decide +kernel
theorem dX7_add_28 : decode cX7_add 28 = .ok (.iadd, 1) := by decide +kernel
theorem dX7_add_29 : decode cX7_add 29 = .ok (.putfield 7, 3) := by decide +kernel
theorem dX7_add_32 : decode cX7_add 32 = .ok (.return_, 1) := by decide +kernel
theorem dX7_become_0 : decode cX7_become 0 = .ok (.aload_n 1, 1) := by decide +kernel
theorem dX7_become_1 : decode cX7_become 1 = .ok (.getfield 13, 3) := by decide +kernel
theorem dX7_become_4 : decode cX7_become 4 = .ok (.iconst 0, 1) := by decide +kernel
theorem dX7_become_5 : decode cX7_become 5 = .ok (.aload_n 0, 1) := by decide +kernel
theorem dX7_become_6 : decode cX7_become 6 = .ok (.getfield 13, 3) := by decide +kernel
theorem dX7_become_9 : decode cX7_become 9 = .ok (.iconst 0, 1) := by decide +kernel
theorem dX7_become_10 : decode cX7_become 10 = .ok (.aload_n 1, 1) := by decide +kernel
theorem dX7_become_11 : decode cX7_become 11 = .ok (.getfield 7, 3) := by decide +kernel
theorem dX7_become_14 : decode cX7_become 14 = .ok (.invokestatic 17, 3) := by decide +kernel
theorem dX7_become_17 : decode cX7_become 17 = .ok (.aload_n 0, 1) := by decide +kernel
theorem dX7_become_18 : decode cX7_become 18 = .ok (.aload_n 1, 1) := by decide +kernel
theorem dX7_become_19 : decode cX7_become 19 = .ok (.getfield 7, 3) := by decide +kernel
theorem dX7_become_22 : decode cX7_become 22 = .ok (.putfield 7, 3) := by decide +kernel
theorem dX7_become_25 : decode cX7_become 25 = .ok (.return_, 1) := by decide +kernel
theorem dX7_holds_0 : decode cX7_holds 0 = .ok (.iload_n 1, 1) := by decide +kernel
theorem dX7_holds_1 : decode cX7_holds 1 = .ok (.ifCond .lt 25, 3) := by decide +kernel
theorem dX7_holds_4 : decode cX7_holds 4 = .ok (.iload_n 2, 1) := by decide +kernel
theorem dX7_holds_5 : decode cX7_holds 5 = .ok (.ifCond .lt 21, 3) := by decide +kernel
theorem dX7_holds_8 : decode cX7_holds 8 = .ok (.iload_n 1, 1) := by decide +kernel
theorem dX7_holds_9 : decode cX7_holds 9 = .ok (.i2l, 1) := by decide +kernel
theorem dX7_holds_10 : decode cX7_holds 10 = .ok (.iload_n 2, 1) := by decide +kernel
theorem dX7_holds_11 : decode cX7_holds 11 = .ok (.i2l, 1) := by decide +kernel
theorem dX7_holds_12 : decode cX7_holds 12 = .ok (.ladd, 1) := by decide +kernel
theorem dX7_holds_13 : decode cX7_holds 13 = .ok (.aload_n 0, 1) := by decide +kernel
theorem dX7_holds_14 : decode cX7_holds 14 = .ok (.getfield 7, 3) := by decide +kernel
theorem dX7_holds_17 : decode cX7_holds 17 = .ok (.i2l, 1) := by decide +kernel
theorem dX7_holds_18 : decode cX7_holds 18 = .ok (.lcmp, 1) := by decide +kernel
theorem dX7_holds_19 : decode cX7_holds 19 = .ok (.ifCond .gt 7, 3) := by decide +kernel
theorem dX7_holds_22 : decode cX7_holds 22 = .ok (.iconst 1, 1) := by decide +kernel
theorem dX7_holds_23 : decode cX7_holds 23 = .ok (.goto 4, 3) := by decide +kernel
theorem dX7_holds_26 : decode cX7_holds 26 = .ok (.iconst 0, 1) := by decide +kernel
theorem dX7_holds_27 : decode cX7_holds 27 = .ok (.ireturn, 1) := by decide +kernel
theorem dX8_init_0 : decode cX8_init 0 = .ok (.aload_n 0, 1) := by decide +kernel
theorem dX8_init_1 : decode cX8_init 1 = .ok (.invokespecial 3, 3) := by decide +kernel
theorem dX8_init_4 : decode cX8_init 4 = .ok (.aload_n 0, 1) := by decide +kernel
theorem dX8_init_5 : decode cX8_init 5 = .ok (.bipush 10, 2) := by decide +kernel
theorem dX8_init_7 : decode cX8_init 7 = .ok (.newarray .int, 2) := by decide +kernel
theorem dX8_init_9 : decode cX8_init 9 = .ok (.putfield 9, 3) := by decide +kernel
theorem dX8_init_12 : decode cX8_init 12 = .ok (.aload_n 0, 1) := by decide +kernel
theorem dX8_init_13 : decode cX8_init 13 = .ok (.bipush 10, 2) := by decide +kernel
theorem dX8_init_15 : decode cX8_init 15 = .ok (.newarray .int, 2) := by decide +kernel
theorem dX8_init_17 : decode cX8_init 17 = .ok (.putfield 15, 3) := by decide +kernel
theorem dX8_init_20 : decode cX8_init 20 = .ok (.aload_n 0, 1) := by decide +kernel
theorem dX8_init_21 : decode cX8_init 21 = .ok (.bipush 6, 2) := by decide +kernel
theorem dX8_init_23 : decode cX8_init 23 = .ok (.newarray .int, 2) := by decide +kernel
theorem dX8_init_25 : decode cX8_init 25 = .ok (.putfield 18, 3) := by decide +kernel
theorem dX8_init_28 : decode cX8_init 28 = .ok (.aload_n 0, 1) := by decide +kernel
theorem dX8_init_29 : decode cX8_init 29 = .ok (.iconst 0, 1) := by decide +kernel
theorem dX8_init_30 : decode cX8_init 30 = .ok (.putfield 21, 3) := by decide +kernel
theorem dX8_init_33 : decode cX8_init 33 = .ok (.aload_n 0, 1) := by decide +kernel
theorem dX8_init_34 : decode cX8_init 34 = .ok (.bipush 6, 2) := by decide +kernel
theorem dX8_init_36 : decode cX8_init 36 = .ok (.bipush 10, 2) := by decide +kernel
theorem dX8_init_38 : decode cX8_init 38 = .ok (.multianewarray 25 2, 4) := by decide +kernel
theorem dX8_init_42 : decode cX8_init 42 = .ok (.putfield 27, 3) := by decide +kernel
theorem dX8_init_45 : decode cX8_init 45 = .ok (.aload_n 0, 1) := by decide +kernel
theorem dX8_init_46 : decode cX8_init 46 = .ok (.sipush 1024, 3) := by decide +kernel
theorem dX8_init_49 : decode cX8_init 49 = .ok (.newarray .int, 2) := by decide +kernel
theorem dX8_init_51 : decode cX8_init 51 = .ok (.putfield 30, 3) := by decide +kernel
theorem dX8_init_54 : decode cX8_init 54 = .ok (.aload_n 0, 1) := by decide +kernel
theorem dX8_init_55 : decode cX8_init 55 = .ok (.bipush 6, 2) := by decide +kernel
theorem dX8_init_57 : decode cX8_init 57 = .ok (.sipush 1024, 3) := by decide +kernel
theorem dX8_init_60 : decode cX8_init 60 = .ok (.multianewarray 25 2, 4) := by decide +kernel
theorem dX8_init_64 : decode cX8_init 64 = .ok (.putfield 33, 3) := by decide +kernel
theorem dX8_init_67 : decode cX8_init 67 = .ok (.aload_n 0, 1) := by decide +kernel
theorem dX8_init_68 : decode cX8_init 68 = .ok (.aload_n 0, 1) := by decide +kernel
theorem dX8_init_69 : decode cX8_init 69 = .ok (.getfield 33, 3) := by decide +kernel
theorem dX8_init_72 : decode cX8_init 72 = .ok (.iconst 0, 1) := by decide +kernel
theorem dX8_init_73 : decode cX8_init 73 = .ok (.aaload, 1) := by decide +kernel
theorem dX8_init_74 : decode cX8_init 74 = .ok (.putfield 36, 3) := by decide +kernel
theorem dX8_init_77 : decode cX8_init 77 = .ok (.aload_n 0, 1) := by decide +kernel
theorem dX8_init_78 : decode cX8_init 78 = .ok (.bipush 10, 2) := by decide +kernel
theorem dX8_init_80 : decode cX8_init 80 = .ok (.newarray .int, 2) := by decide +kernel
theorem dX8_init_82 : decode cX8_init 82 = .ok (.putfield 39, 3) := by decide +kernel
theorem dX8_init_85 : decode cX8_init 85 = .ok (.aload_n 0, 1) := by decide +kernel
theorem dX8_init_86 : decode cX8_init 86 = .ok (.iconst 0, 1) := by decide +kernel
theorem dX8_init_87 : decode cX8_init 87 = .ok (.putfield 42, 3) := by decide +kernel
theorem dX8_init_90 : decode cX8_init 90 = .ok (.aload_n 0, 1) := by decide +kernel
theorem dX8_init_91 : decode cX8_init 91 = .ok (.iconst 0, 1) := by decide +kernel
theorem dX8_init_92 : decode cX8_init 92 = .ok (.putfield 45, 3) := by decide +kernel
theorem dX8_init_95 : decode cX8_init 95 = .ok (.aload_n 0, 1) := by decide +kernel
theorem dX8_init_96 : decode cX8_init 96 = .ok (.iconst 0, 1) := by decide +kernel
theorem dX8_init_97 : decode cX8_init 97 = .ok (.putfield 48, 3) := by decide +kernel
theorem dX8_init_100 : decode cX8_init 100 = .ok (.aload_n 0, 1) := by decide +kernel
theorem dX8_init_101 : decode cX8_init 101 = .ok (.aload_n 1, 1) := by decide +kernel
theorem dX8_init_102 : decode cX8_init 102 = .ok (.putfield 51, 3) := by decide +kernel
theorem dX8_init_105 : decode cX8_init 105 = .ok (.aload_n 0, 1) := by decide +kernel
theorem dX8_init_106 : decode cX8_init 106 = .ok (.aload_n 2, 1) := by decide +kernel
theorem dX8_init_107 : decode cX8_init 107 = .ok (.putfield 55, 3) := by decide +kernel
theorem dX8_init_110 : decode cX8_init 110 = .ok (.return_, 1) := by decide +kernel
theorem dX8_fewestGroups_0 : decode cX8_fewestGroups 0 = .ok (.aload_n 0, 1) := by decide +kernel
theorem dX8_fewestGroups_1 : decode cX8_fewestGroups 1 = .ok (.getfield 55, 3) := by decide +kernel
theorem dX8_fewestGroups_4 : decode cX8_fewestGroups 4 = .ok (.invokevirtual 59, 3) := by decide +kernel
theorem dX8_fewestGroups_7 : decode cX8_fewestGroups 7 = .ok (.iconst 0, 1) := by decide +kernel
theorem dX8_fewestGroups_8 : decode cX8_fewestGroups 8 = .ok (.istore_n 2, 1) := by decide +kernel
theorem dX8_fewestGroups_9 : decode cX8_fewestGroups 9 = .ok (.iload_n 2, 1) := by decide +kernel
theorem dX8_fewestGroups_10 : decode cX8_fewestGroups 10 = .ok (.aload_n 0, 1) := by decide +kernel
theorem dX8_fewestGroups_11 : decode cX8_fewestGroups 11 = .ok (.getfield 51, 3) := by decide +kernel
theorem dX8_fewestGroups_14 : decode cX8_fewestGroups 14 = .ok (.getfield 64, 3) := by decide +kernel
theorem dX8_fewestGroups_17 : decode cX8_fewestGroups 17 = .ok (.if_icmp .gt 30, 3) := by decide +kernel
theorem dX8_fewestGroups_20 : decode cX8_fewestGroups 20 = .ok (.aload_n 0, 1) := by decide +kernel
theorem dX8_fewestGroups_21 : decode cX8_fewestGroups 21 = .ok (.getfield 15, 3) := by decide +kernel
theorem dX8_fewestGroups_24 : decode cX8_fewestGroups 24 = .ok (.iconst 0, 1) := by decide +kernel
theorem dX8_fewestGroups_25 : decode cX8_fewestGroups 25 = .ok (.invokestatic 69, 3) := by decide +kernel
theorem dX8_fewestGroups_28 : decode cX8_fewestGroups 28 = .ok (.aload_n 0, 1) := by decide +kernel
theorem dX8_fewestGroups_29 : decode cX8_fewestGroups 29 = .ok (.iconst 0, 1) := by decide +kernel
theorem dX8_fewestGroups_30 : decode cX8_fewestGroups 30 = .ok (.iconst 0, 1) := by decide +kernel
theorem dX8_fewestGroups_31 : decode cX8_fewestGroups 31 = .ok (.iload_n 2, 1) := by decide +kernel
theorem dX8_fewestGroups_32 : decode cX8_fewestGroups 32 = .ok (.iload_n 1, 1) := by decide +kernel
theorem dX8_fewestGroups_33 : decode cX8_fewestGroups 33 = .ok (.invokevirtual 75, 3) := by decide +kernel
theorem dX8_fewestGroups_36 : decode cX8_fewestGroups 36 = .ok (.ifCond .eq 5, 3) := by decide +kernel
theorem dX8_fewestGroups_39 : decode cX8_fewestGroups 39 = .ok (.iload_n 2, 1) := by decide +kernel
theorem dX8_fewestGroups_40 : decode cX8_fewestGroups 40 = .ok (.ireturn, 1) := by decide +kernel
theorem dX8_fewestGroups_41 : decode cX8_fewestGroups 41 = .ok (.iinc 2 1, 3) := by decide +kernel
theorem dX8_fewestGroups_44 : decode cX8_fewestGroups 44 = .ok (.goto (-35), 3) := by decide +kernel
theorem dX8_fewestGroups_47 : decode cX8_fewestGroups 47 = .ok (.aload_n 0, 1) := by decide +kernel
theorem dX8_fewestGroups_48 : decode cX8_fewestGroups 48 = .ok (.getfield 51, 3) := by decide +kernel
theorem dX8_fewestGroups_51 : decode cX8_fewestGroups 51 = .ok (.getfield 64, 3) := by decide +kernel
theorem dX8_fewestGroups_54 : decode cX8_fewestGroups 54 = .ok (.ireturn, 1) := by decide +kernel
theorem dX8_settle_0 : decode cX8_settle 0 = .ok (.iload_n 1, 1) := by decide +kernel
theorem dX8_settle_1 : decode cX8_settle 1 = .ok (.aload_n 0, 1) := by decide +kernel
theorem dX8_settle_2 : decode cX8_settle 2 = .ok (.getfield 51, 3) := by decide +kernel
theorem dX8_settle_5 : decode cX8_settle 5 = .ok (.getfield 64, 3) := by decide +kernel
theorem dX8_settle_8 : decode cX8_settle 8 = .ok (.if_icmp .lt 5, 3) := by decide +kernel
theorem dX8_settle_11 : decode cX8_settle 11 = .ok (.iconst 1, 1) := by decide +kernel
theorem dX8_settle_12 : decode cX8_settle 12 = .ok (.ireturn, 1) := by decide +kernel
theorem dX8_settle_13 : decode cX8_settle 13 = .ok (.iload_n 1, 1) := by decide +kernel
theorem dX8_settle_14 : decode cX8_settle 14 = .ok (.iload 4, 2) := by decide +kernel
theorem dX8_settle_16 : decode cX8_settle 16 = .ok (.if_icmp .ne 15, 3) := by decide +kernel
theorem dX8_settle_19 : decode cX8_settle 19 = .ok (.aload_n 0, 1) := by decide +kernel
theorem dX8_settle_20 : decode cX8_settle 20 = .ok (.iload_n 1, 1) := by decide +kernel
theorem dX8_settle_21 : decode cX8_settle 21 = .ok (.iconst 1, 1) := by decide +kernel
theorem dX8_settle_22 : decode cX8_settle 22 = .ok (.iadd, 1) := by decide +kernel
theorem dX8_settle_23 : decode cX8_settle 23 = .ok (.iload_n 2, 1) := by decide +kernel
theorem dX8_settle_24 : decode cX8_settle 24 = .ok (.iload_n 3, 1) := by decide +kernel
theorem dX8_settle_25 : decode cX8_settle 25 = .ok (.iload 4, 2) := by decide +kernel
theorem dX8_settle_27 : decode cX8_settle 27 = .ok (.invokevirtual 75, 3) := by decide +kernel
theorem dX8_settle_30 : decode cX8_settle 30 = .ok (.ireturn, 1) := by decide +kernel
theorem dX8_settle_31 : decode cX8_settle 31 = .ok (.iconst 0, 1) := by decide +kernel
theorem dX8_settle_32 : decode cX8_settle 32 = .ok (.istore 5, 2) := by decide +kernel
theorem dX8_settle_34 : decode cX8_settle 34 = .ok (.iload 5, 2) := by decide +kernel
theorem dX8_settle_36 : decode cX8_settle 36 = .ok (.iload_n 2, 1) := by decide +kernel
theorem dX8_settle_37 : decode cX8_settle 37 = .ok (.if_icmp .gt 99, 3) := by decide +kernel
theorem dX8_settle_40 : decode cX8_settle 40 = .ok (.iload 5, 2) := by decide +kernel
theorem dX8_settle_42 : decode cX8_settle 42 = .ok (.iload_n 3, 1) := by decide +kernel
theorem dX8_settle_43 : decode cX8_settle 43 = .ok (.if_icmp .ge 93, 3) := by decide +kernel
theorem dX8_settle_46 : decode cX8_settle 46 = .ok (.aload_n 0, 1) := by decide +kernel
theorem dX8_settle_47 : decode cX8_settle 47 = .ok (.getfield 15, 3) := by decide +kernel
theorem dX8_settle_50 : decode cX8_settle 50 = .ok (.iload 5, 2) := by decide +kernel
theorem dX8_settle_52 : decode cX8_settle 52 = .ok (.iaload, 1) := by decide +kernel
theorem dX8_settle_53 : decode cX8_settle 53 = .ok (.aload_n 0, 1) := by decide +kernel
theorem dX8_settle_54 : decode cX8_settle 54 = .ok (.getfield 55, 3) := by decide +kernel
theorem dX8_settle_57 : decode cX8_settle 57 = .ok (.getfield 79, 3) := by decide +kernel
theorem dX8_settle_60 : decode cX8_settle 60 = .ok (.iload_n 1, 1) := by decide +kernel
theorem dX8_settle_61 : decode cX8_settle 61 = .ok (.iaload, 1) := by decide +kernel
theorem dX8_settle_62 : decode cX8_settle 62 = .ok (.iand, 1) := by decide +kernel
theorem dX8_settle_63 : decode cX8_settle 63 = .ok (.ifCond .ne 67, 3) := by decide +kernel
theorem dX8_settle_66 : decode cX8_settle 66 = .ok (.aload_n 0, 1) := by decide +kernel
theorem dX8_settle_67 : decode cX8_settle 67 = .ok (.getfield 15, 3) := by decide +kernel
theorem dX8_settle_70 : decode cX8_settle 70 = .ok (.iload 5, 2) := by decide +kernel
theorem dX8_settle_72 : decode cX8_settle 72 = .ok (.dup2, 1) := by decide +kernel
theorem dX8_settle_73 : decode cX8_settle 73 = .ok (.iaload, 1) := by decide +kernel
theorem dX8_settle_74 : decode cX8_settle 74 = .ok (.iconst 1, 1) := by decide +kernel
theorem dX8_settle_75 : decode cX8_settle 75 = .ok (.iload_n 1, 1) := by decide +kernel
theorem dX8_settle_76 : decode cX8_settle 76 = .ok (.ishl, 1) := by decide +kernel
theorem dX8_settle_77 : decode cX8_settle 77 = .ok (.ior, 1) := by decide +kernel
theorem dX8_settle_78 : decode cX8_settle 78 = .ok (.iastore, 1) := by decide +kernel
theorem dX8_settle_79 : decode cX8_settle 79 = .ok (.aload_n 0, 1) := by decide +kernel
theorem dX8_settle_80 : decode cX8_settle 80 = .ok (.getfield 9, 3) := by decide +kernel
theorem dX8_settle_83 : decode cX8_settle 83 = .ok (.iload_n 1, 1) := by decide +kernel
theorem dX8_settle_84 : decode cX8_settle 84 = .ok (.iload 5, 2) := by decide +kernel
theorem dX8_settle_86 : decode cX8_settle 86 = .ok (.iastore, 1) := by decide +kernel
theorem dX8_settle_87 : decode cX8_settle 87 = .ok (.aload_n 0, 1) := by decide +kernel
theorem dX8_settle_88 : decode cX8_settle 88 = .ok (.iload_n 1, 1) := by decide +kernel
theorem dX8_settle_89 : decode cX8_settle 89 = .ok (.iconst 1, 1) := by decide +kernel
theorem dX8_settle_90 : decode cX8_settle 90 = .ok (.iadd, 1) := by decide +kernel
theorem dX8_settle_91 : decode cX8_settle 91 = .ok (.iload 5, 2) := by decide +kernel
theorem dX8_settle_93 : decode cX8_settle 93 = .ok (.iload_n 2, 1) := by decide +kernel
theorem dX8_settle_94 : decode cX8_settle 94 = .ok (.if_icmp .ne 9, 3) := by decide +kernel
theorem dX8_settle_97 : decode cX8_settle 97 = .ok (.iload_n 2, 1) := by decide +kernel
theorem dX8_settle_98 : decode cX8_settle 98 = .ok (.iconst 1, 1) := by decide +kernel
theorem dX8_settle_99 : decode cX8_settle 99 = .ok (.iadd, 1) := by decide +kernel
theorem dX8_settle_100 : decode cX8_settle 100 = .ok (.goto 4, 3) := by decide +kernel
theorem dX8_settle_103 : decode cX8_settle 103 = .ok (.iload_n 2, 1) := by decide +kernel
theorem dX8_settle_104 : decode cX8_settle 104 = .ok (.iload_n 3, 1) := by decide +kernel
theorem dX8_settle_105 : decode cX8_settle 105 = .ok (.iload 4, 2) := by decide +kernel
theorem dX8_settle_107 : decode cX8_settle 107 = .ok (.invokevirtual 75, 3) := by decide +kernel
theorem dX8_settle_110 : decode cX8_settle 110 = .ok (.ifCond .eq 5, 3) := by decide +kernel
theorem dX8_settle_113 : decode cX8_settle 113 = .ok (.iconst 1, 1) := by decide +kernel
theorem dX8_settle_114 : decode cX8_settle 114 = .ok (.ireturn, 1) := by decide +kernel
theorem dX8_settle_115 : decode cX8_settle 115 = .ok (.aload_n 0, 1) := by decide +kernel
theorem dX8_settle_116 : decode cX8_settle 116 = .ok (.getfield 15, 3) := by decide +kernel
theorem dX8_settle_119 : decode cX8_settle 119 = .ok (.iload 5, 2) := by decide +kernel
theorem dX8_settle_121 : decode cX8_settle 121 = .ok (.dup2, 1) := by decide +kernel
theorem dX8_settle_122 : decode cX8_settle 122 = .ok (.iaload, 1) := by decide +kernel
theorem dX8_settle_123 : decode cX8_settle 123 = .ok (.iconst 1, 1) := by decide +kernel
theorem dX8_settle_124 : decode cX8_settle 124 = .ok (.iload_n 1, 1) := by decide +kernel
theorem dX8_settle_125 : decode cX8_settle 125 = .ok (.ishl, 1) := by decide +kernel
theorem dX8_settle_126 : decode cX8_settle 126 = .ok (.iconst (-1), 1) := by decide +kernel
theorem dX8_settle_127 : decode cX8_settle 127 = .ok (.ixor, 1) := by decide +kernel
theorem dX8_settle_128 : decode cX8_settle 128 = .ok (.iand, 1) := by decide +kernel
theorem dX8_settle_129 : decode cX8_settle 129 = .ok (.iastore, 1) := by decide +kernel
theorem dX8_settle_130 : decode cX8_settle 130 = .ok (.iinc 5 1, 3) := by decide +kernel
theorem dX8_settle_133 : decode cX8_settle 133 = .ok (.goto (-99), 3) := by decide +kernel
theorem dX8_settle_136 : decode cX8_settle 136 = .ok (.iconst 0, 1) := by decide +kernel
theorem dX8_settle_137 : decode cX8_settle 137 = .ok (.ireturn, 1) := by decide +kernel
theorem dX8_gather_0 : decode cX8_gather 0 = .ok (.aload_n 0, 1) := by decide +kernel
theorem dX8_gather_1 : decode cX8_gather 1 = .ok (.iconst 0, 1) := by decide +kernel
theorem dX8_gather_2 : decode cX8_gather 2 = .ok (.putfield 21, 3) := by decide +kernel
theorem dX8_gather_5 : decode cX8_gather 5 = .ok (.iconst 0, 1) := by decide +kernel
theorem dX8_gather_6 : decode cX8_gather 6 = .ok (.istore_n 3, 1) := by decide +kernel
theorem dX8_gather_7 : decode cX8_gather 7 = .ok (.iload_n 3, 1) := by decide +kernel
theorem dX8_gather_8 : decode cX8_gather 8 = .ok (.aload_n 0, 1) := by decide +kernel
theorem dX8_gather_9 : decode cX8_gather 9 = .ok (.getfield 51, 3) := by decide +kernel
theorem dX8_gather_12 : decode cX8_gather 12 = .ok (.getfield 82, 3) := by decide +kernel
theorem dX8_gather_15 : decode cX8_gather 15 = .ok (.if_icmp .ge 43, 3) := by decide +kernel
theorem dX8_gather_18 : decode cX8_gather 18 = .ok (.iload_n 1, 1) := by decide +kernel
theorem dX8_gather_19 : decode cX8_gather 19 = .ok (.iload_n 3, 1) := by decide +kernel
theorem dX8_gather_20 : decode cX8_gather 20 = .ok (.ishr, 1) := by decide +kernel
theorem dX8_gather_21 : decode cX8_gather 21 = .ok (.iconst 1, 1) := by decide +kernel
theorem dX8_gather_22 : decode cX8_gather 22 = .ok (.iand, 1) := by decide +kernel
theorem dX8_gather_23 : decode cX8_gather 23 = .ok (.ifCond .eq 29, 3) := by decide +kernel
theorem dX8_gather_26 : decode cX8_gather 26 = .ok (.aload_n 0, 1) := by decide +kernel
theorem dX8_gather_27 : decode cX8_gather 27 = .ok (.getfield 18, 3) := by decide +kernel
theorem dX8_gather_30 : decode cX8_gather 30 = .ok (.aload_n 0, 1) := by decide +kernel
theorem dX8_gather_31 : decode cX8_gather 31 = .ok (.getfield 21, 3) := by decide +kernel
theorem dX8_gather_34 : decode cX8_gather 34 = .ok (.iload_n 3, 1) := by decide +kernel
theorem dX8_gather_35 : decode cX8_gather 35 = .ok (.iastore, 1) := by decide +kernel
theorem dX8_gather_36 : decode cX8_gather 36 = .ok (.aload_n 0, 1) := by decide +kernel
theorem dX8_gather_37 : decode cX8_gather 37 = .ok (.dup, 1) := by decide +kernel
theorem dX8_gather_38 : decode cX8_gather 38 = .ok (.getfield 21, 3) := by decide +kernel
theorem dX8_gather_41 : decode cX8_gather 41 = .ok (.iconst 1, 1) := by decide +kernel
theorem dX8_gather_42 : decode cX8_gather 42 = .ok (.iadd, 1) := by decide +kernel
theorem dX8_gather_43 : decode cX8_gather 43 = .ok (.putfield 21, 3) := by decide +kernel
theorem dX8_gather_46 : decode cX8_gather 46 = .ok (.aload_n 0, 1) := by decide +kernel
theorem dX8_gather_47 : decode cX8_gather 47 = .ok (.iload_n 3, 1) := by decide +kernel
theorem dX8_gather_48 : decode cX8_gather 48 = .ok (.iload_n 2, 1) := by decide +kernel
theorem dX8_gather_49 : decode cX8_gather 49 = .ok (.invokevirtual 85, 3) := by decide +kernel
theorem dX8_gather_52 : decode cX8_gather 52 = .ok (.iinc 3 1, 3) := by decide +kernel
theorem dX8_gather_55 : decode cX8_gather 55 = .ok (.goto (-48), 3) := by decide +kernel
theorem dX8_gather_58 : decode cX8_gather 58 = .ok (.return_, 1) := by decide +kernel
theorem dX8_ask_0 : decode cX8_ask 0 = .ok (.iconst 0, 1) := by decide +kernel
theorem dX8_ask_1 : decode cX8_ask 1 = .ok (.istore_n 3, 1) := by decide +kernel
theorem dX8_ask_2 : decode cX8_ask 2 = .ok (.iload_n 3, 1) := by decide +kernel
theorem dX8_ask_3 : decode cX8_ask 3 = .ok (.aload_n 0, 1) := by decide +kernel
theorem dX8_ask_4 : decode cX8_ask 4 = .ok (.getfield 51, 3) := by decide +kernel
theorem dX8_ask_7 : decode cX8_ask 7 = .ok (.getfield 64, 3) := by decide +kernel
theorem dX8_ask_10 : decode cX8_ask 10 = .ok (.if_icmp .ge 41, 3) := by decide +kernel
theorem dX8_ask_13 : decode cX8_ask 13 = .ok (.aload_n 0, 1) := by decide +kernel
theorem dX8_ask_14 : decode cX8_ask 14 = .ok (.getfield 27, 3) := by decide +kernel
theorem dX8_ask_17 : decode cX8_ask 17 = .ok (.iload_n 1, 1) := by decide +kernel
theorem dX8_ask_18 : decode cX8_ask 18 = .ok (.aaload, 1) := by decide +kernel
theorem dX8_ask_19 : decode cX8_ask 19 = .ok (.iload_n 3, 1) := by decide +kernel
theorem dX8_ask_20 : decode cX8_ask 20 = .ok (.aload_n 0, 1) := by decide +kernel
theorem dX8_ask_21 : decode cX8_ask 21 = .ok (.getfield 55, 3) := by decide +kernel
theorem dX8_ask_24 : decode cX8_ask 24 = .ok (.iload_n 1, 1) := by decide +kernel
theorem dX8_ask_25 : decode cX8_ask 25 = .ok (.iload_n 3, 1) := by decide +kernel
theorem dX8_ask_26 : decode cX8_ask 26 = .ok (.invokevirtual 89, 3) := by decide +kernel
theorem dX8_ask_29 : decode cX8_ask 29 = .ok (.ifCond .eq 13, 3) := by decide +kernel
theorem dX8_ask_32 : decode cX8_ask 32 = .ok (.aload_n 0, 1) := by decide +kernel
theorem dX8_ask_33 : decode cX8_ask 33 = .ok (.iload_n 2, 1) := by decide +kernel
theorem dX8_ask_34 : decode cX8_ask 34 = .ok (.iload_n 1, 1) := by decide +kernel
theorem dX8_ask_35 : decode cX8_ask 35 = .ok (.iload_n 3, 1) := by decide +kernel
theorem dX8_ask_36 : decode cX8_ask 36 = .ok (.invokevirtual 93, 3) := by decide +kernel
theorem dX8_ask_39 : decode cX8_ask 39 = .ok (.goto 5, 3) := by decide +kernel
theorem dX8_ask_42 : decode cX8_ask 42 = .ok (.ldc 97, 2) := by decide +kernel
theorem dX8_ask_44 : decode cX8_ask 44 = .ok (.iastore, 1) := by decide +kernel
theorem dX8_ask_45 : decode cX8_ask 45 = .ok (.iinc 3 1, 3) := by decide +kernel
theorem dX8_ask_48 : decode cX8_ask 48 = .ok (.goto (-46), 3) := by decide +kernel
theorem dX8_ask_51 : decode cX8_ask 51 = .ok (.return_, 1) := by decide +kernel
theorem dX8_price_0 : decode cX8_price 0 = .ok (.aload_n 0, 1) := by decide +kernel
theorem dX8_price_1 : decode cX8_price 1 = .ok (.getfield 30, 3) := by decide +kernel
theorem dX8_price_4 : decode cX8_price 4 = .ok (.iconst 0, 1) := by decide +kernel
theorem dX8_price_5 : decode cX8_price 5 = .ok (.iconst 0, 1) := by decide +kernel
theorem dX8_price_6 : decode cX8_price 6 = .ok (.iastore, 1) := by decide +kernel
theorem dX8_price_7 : decode cX8_price 7 = .ok (.iconst 0, 1) := by decide +kernel
theorem dX8_price_8 : decode cX8_price 8 = .ok (.istore_n 2, 1) := by decide +kernel
theorem dX8_price_9 : decode cX8_price 9 = .ok (.iload_n 2, 1) := by decide +kernel
theorem dX8_price_10 : decode cX8_price 10 = .ok (.aload_n 0, 1) := by decide +kernel
theorem dX8_price_11 : decode cX8_price 11 = .ok (.getfield 51, 3) := by decide +kernel
theorem dX8_price_14 : decode cX8_price 14 = .ok (.getfield 64, 3) := by decide +kernel
theorem dX8_price_17 : decode cX8_price 17 = .ok (.if_icmp .ge 112, 3) := by decide +kernel
theorem dX8_price_20 : decode cX8_price 20 = .ok (.iconst 1, 1) := by decide +kernel
theorem dX8_price_21 : decode cX8_price 21 = .ok (.iload_n 2, 1) := by decide +kernel
theorem dX8_price_22 : decode cX8_price 22 = .ok (.ishl, 1) := by decide +kernel
theorem dX8_price_23 : decode cX8_price 23 = .ok (.istore_n 3, 1) := by decide +kernel
theorem dX8_price_24 : decode cX8_price 24 = .ok (.aload_n 0, 1) := by decide +kernel
theorem dX8_price_25 : decode cX8_price 25 = .ok (.getfield 27, 3) := by decide +kernel
theorem dX8_price_28 : decode cX8_price 28 = .ok (.iload_n 1, 1) := by decide +kernel
theorem dX8_price_29 : decode cX8_price 29 = .ok (.aaload, 1) := by decide +kernel
theorem dX8_price_30 : decode cX8_price 30 = .ok (.iload_n 2, 1) := by decide +kernel
theorem dX8_price_31 : decode cX8_price 31 = .ok (.iaload, 1) := by decide +kernel
theorem dX8_price_32 : decode cX8_price 32 = .ok (.istore 4, 2) := by decide +kernel
theorem dX8_price_34 : decode cX8_price 34 = .ok (.aload_n 0, 1) := by decide +kernel
theorem dX8_price_35 : decode cX8_price 35 = .ok (.getfield 55, 3) := by decide +kernel
theorem dX8_price_38 : decode cX8_price 38 = .ok (.getfield 79, 3) := by decide +kernel
theorem dX8_price_41 : decode cX8_price 41 = .ok (.iload_n 2, 1) := by decide +kernel
theorem dX8_price_42 : decode cX8_price 42 = .ok (.iaload, 1) := by decide +kernel
theorem dX8_price_43 : decode cX8_price 43 = .ok (.istore 5, 2) := by decide +kernel
theorem dX8_price_45 : decode cX8_price 45 = .ok (.iconst 0, 1) := by decide +kernel
theorem dX8_price_46 : decode cX8_price 46 = .ok (.istore 6, 2) := by decide +kernel
theorem dX8_price_48 : decode cX8_price 48 = .ok (.iload 6, 2) := by decide +kernel
theorem dX8_price_50 : decode cX8_price 50 = .ok (.iload_n 3, 1) := by decide +kernel
theorem dX8_price_51 : decode cX8_price 51 = .ok (.if_icmp .ge 72, 3) := by decide +kernel
theorem dX8_price_54 : decode cX8_price 54 = .ok (.iload 4, 2) := by decide +kernel
theorem dX8_price_56 : decode cX8_price 56 = .ok (.ldc 97, 2) := by decide +kernel
theorem dX8_price_58 : decode cX8_price 58 = .ok (.if_icmp .ge 27, 3) := by decide +kernel
theorem dX8_price_61 : decode cX8_price 61 = .ok (.aload_n 0, 1) := by decide +kernel
theorem dX8_price_62 : decode cX8_price 62 = .ok (.getfield 30, 3) := by decide +kernel
theorem dX8_price_65 : decode cX8_price 65 = .ok (.iload 6, 2) := by decide +kernel
theorem dX8_price_67 : decode cX8_price 67 = .ok (.iaload, 1) := by decide +kernel
theorem dX8_price_68 : decode cX8_price 68 = .ok (.ldc 97, 2) := by decide +kernel
theorem dX8_price_70 : decode cX8_price 70 = .ok (.if_icmp .ge 15, 3) := by decide +kernel
theorem dX8_price_73 : decode cX8_price 73 = .ok (.iload 5, 2) := by decide +kernel
theorem dX8_price_75 : decode cX8_price 75 = .ok (.iload 6, 2) := by decide +kernel
theorem dX8_price_77 : decode cX8_price 77 = .ok (.iand, 1) := by decide +kernel
theorem dX8_price_78 : decode cX8_price 78 = .ok (.ifCond .ne 7, 3) := by decide +kernel
theorem dX8_price_81 : decode cX8_price 81 = .ok (.iconst 1, 1) := by decide +kernel
theorem dX8_price_82 : decode cX8_price 82 = .ok (.goto 4, 3) := by decide +kernel
theorem dX8_price_85 : decode cX8_price 85 = .ok (.iconst 0, 1) := by decide +kernel
theorem dX8_price_86 : decode cX8_price 86 = .ok (.istore 7, 2) := by decide +kernel
theorem dX8_price_88 : decode cX8_price 88 = .ok (.aload_n 0, 1) := by decide +kernel
theorem dX8_price_89 : decode cX8_price 89 = .ok (.getfield 30, 3) := by decide +kernel
theorem dX8_price_92 : decode cX8_price 92 = .ok (.iload 6, 2) := by decide +kernel
theorem dX8_price_94 : decode cX8_price 94 = .ok (.iload_n 3, 1) := by decide +kernel
theorem dX8_price_95 : decode cX8_price 95 = .ok (.ior, 1) := by decide +kernel
theorem dX8_price_96 : decode cX8_price 96 = .ok (.iload 7, 2) := by decide +kernel
theorem dX8_price_98 : decode cX8_price 98 = .ok (.ifCond .eq 16, 3) := by decide +kernel
theorem dX8_price_101 : decode cX8_price 101 = .ok (.aload_n 0, 1) := by decide +kernel
theorem dX8_price_102 : decode cX8_price 102 = .ok (.getfield 30, 3) := by decide +kernel
theorem dX8_price_105 : decode cX8_price 105 = .ok (.iload 6, 2) := by decide +kernel
theorem dX8_price_107 : decode cX8_price 107 = .ok (.iaload, 1) := by decide +kernel
theorem dX8_price_108 : decode cX8_price 108 = .ok (.iload 4, 2) := by decide +kernel
theorem dX8_price_110 : decode cX8_price 110 = .ok (.iadd, 1) := by decide +kernel
theorem dX8_price_111 : decode cX8_price 111 = .ok (.goto 5, 3) := by decide +kernel
theorem dX8_price_114 : decode cX8_price 114 = .ok (.ldc 97, 2) := by decide +kernel
theorem dX8_price_116 : decode cX8_price 116 = .ok (.iastore, 1) := by decide +kernel
theorem dX8_price_117 : decode cX8_price 117 = .ok (.iinc 6 1, 3) := by decide +kernel
theorem dX8_price_120 : decode cX8_price 120 = .ok (.goto (-72), 3) := by decide +kernel
theorem dX8_price_123 : decode cX8_price 123 = .ok (.iinc 2 1, 3) := by decide +kernel
theorem dX8_price_126 : decode cX8_price 126 = .ok (.goto (-117), 3) := by decide +kernel
theorem dX8_price_129 : decode cX8_price 129 = .ok (.return_, 1) := by decide +kernel
theorem dX8_costOf_0 : decode cX8_costOf 0 = .ok (.iload_n 1, 1) := by decide +kernel
theorem dX8_costOf_1 : decode cX8_costOf 1 = .ok (.tableswitch 72 0 2 #[27, 38, 63], 27) := by decide +kernel
theorem dX8_costOf_28 : decode cX8_costOf 28 = .ok (.aload_n 0, 1) := by decide +kernel
theorem dX8_costOf_29 : decode cX8_costOf 29 = .ok (.getfield 55, 3) := by decide +kernel
theorem dX8_costOf_32 : decode cX8_costOf 32 = .ok (.iload_n 2, 1) := by decide +kernel
theorem dX8_costOf_33 : decode cX8_costOf 33 = .ok (.iload_n 3, 1) := by decide +kernel
theorem dX8_costOf_34 : decode cX8_costOf 34 = .ok (.invokevirtual 98, 3) := by decide +kernel
theorem dX8_costOf_37 : decode cX8_costOf 37 = .ok (.ineg, 1) := by decide +kernel
theorem dX8_costOf_38 : decode cX8_costOf 38 = .ok (.ireturn, 1) := by decide +kernel
theorem dX8_costOf_39 : decode cX8_costOf 39 = .ok (.aload_n 0, 1) := by decide +kernel
theorem dX8_costOf_40 : decode cX8_costOf 40 = .ok (.getfield 51, 3) := by decide +kernel
theorem dX8_costOf_43 : decode cX8_costOf 43 = .ok (.iload_n 2, 1) := by decide +kernel
theorem dX8_costOf_44 : decode cX8_costOf 44 = .ok (.iload_n 3, 1) := by decide +kernel
theorem dX8_costOf_45 : decode cX8_costOf 45 = .ok (.invokevirtual 102, 3) := by decide +kernel
theorem dX8_costOf_48 : decode cX8_costOf 48 = .ok (.ifCond .eq 7, 3) := by decide +kernel
theorem dX8_costOf_51 : decode cX8_costOf 51 = .ok (.iconst 0, 1) := by decide +kernel
theorem dX8_costOf_52 : decode cX8_costOf 52 = .ok (.goto 11, 3) := by decide +kernel
theorem dX8_costOf_55 : decode cX8_costOf 55 = .ok (.aload_n 0, 1) := by decide +kernel
theorem dX8_costOf_56 : decode cX8_costOf 56 = .ok (.getfield 51, 3) := by decide +kernel
theorem dX8_costOf_59 : decode cX8_costOf 59 = .ok (.iload_n 3, 1) := by decide +kernel
theorem dX8_costOf_60 : decode cX8_costOf 60 = .ok (.invokevirtual 105, 3) := by decide +kernel
theorem dX8_costOf_63 : decode cX8_costOf 63 = .ok (.ireturn, 1) := by decide +kernel
theorem dX8_costOf_64 : decode cX8_costOf 64 = .ok (.aload_n 0, 1) := by decide +kernel
theorem dX8_costOf_65 : decode cX8_costOf 65 = .ok (.getfield 51, 3) := by decide +kernel
theorem dX8_costOf_68 : decode cX8_costOf 68 = .ok (.iload_n 3, 1) := by decide +kernel
theorem dX8_costOf_69 : decode cX8_costOf 69 = .ok (.invokevirtual 105, 3) := by decide +kernel
theorem dX8_costOf_72 : decode cX8_costOf 72 = .ok (.ireturn, 1) := by decide +kernel
theorem dX8_costOf_73 : decode cX8_costOf 73 = .ok (.aload_n 0, 1) := by decide +kernel
theorem dX8_costOf_74 : decode cX8_costOf 74 = .ok (.getfield 51, 3) := by decide +kernel
theorem dX8_costOf_77 : decode cX8_costOf 77 = .ok (.getfield 109, 3) := by decide +kernel
theorem dX8_costOf_80 : decode cX8_costOf 80 = .ok (.iload_n 3, 1) := by decide +kernel
theorem dX8_costOf_81 : decode cX8_costOf 81 = .ok (.iaload, 1) := by decide +kernel
theorem dX8_costOf_82 : decode cX8_costOf 82 = .ok (.iload_n 2, 1) := by decide +kernel
theorem dX8_costOf_83 : decode cX8_costOf 83 = .ok (.if_icmp .ne 7, 3) := by decide +kernel
theorem dX8_costOf_86 : decode cX8_costOf 86 = .ok (.iconst 0, 1) := by decide +kernel
theorem dX8_costOf_87 : decode cX8_costOf 87 = .ok (.goto 4, 3) := by decide +kernel
theorem dX8_costOf_90 : decode cX8_costOf 90 = .ok (.iconst 1, 1) := by decide +kernel
theorem dX8_costOf_91 : decode cX8_costOf 91 = .ok (.ireturn, 1) := by decide +kernel
theorem dX8_findBest_0 : decode cX8_findBest 0 = .ok (.aload_n 0, 1) := by decide +kernel
theorem dX8_findBest_1 : decode cX8_findBest 1 = .ok (.getfield 51, 3) := by decide +kernel
theorem dX8_findBest_4 : decode cX8_findBest 4 = .ok (.invokevirtual 112, 3) := by decide +kernel
theorem dX8_findBest_7 : decode cX8_findBest 7 = .ok (.istore_n 3, 1) := by decide +kernel
theorem dX8_findBest_8 : decode cX8_findBest 8 = .ok (.aload_n 0, 1) := by decide +kernel
theorem dX8_findBest_9 : decode cX8_findBest 9 = .ok (.iconst 0, 1) := by decide +kernel
theorem dX8_findBest_10 : decode cX8_findBest 10 = .ok (.putfield 42, 3) := by decide +kernel
theorem dX8_findBest_13 : decode cX8_findBest 13 = .ok (.aload_n 0, 1) := by decide +kernel
theorem dX8_findBest_14 : decode cX8_findBest 14 = .ok (.iload_n 2, 1) := by decide +kernel
theorem dX8_findBest_15 : decode cX8_findBest 15 = .ok (.iload_n 1, 1) := by decide +kernel
theorem dX8_findBest_16 : decode cX8_findBest 16 = .ok (.invokevirtual 116, 3) := by decide +kernel
theorem dX8_findBest_19 : decode cX8_findBest 19 = .ok (.aload_n 0, 1) := by decide +kernel
theorem dX8_findBest_20 : decode cX8_findBest 20 = .ok (.getfield 21, 3) := by decide +kernel
theorem dX8_findBest_23 : decode cX8_findBest 23 = .ok (.ifCond .ne 13, 3) := by decide +kernel
theorem dX8_findBest_26 : decode cX8_findBest 26 = .ok (.iload_n 3, 1) := by decide +kernel
theorem dX8_findBest_27 : decode cX8_findBest 27 = .ok (.ifCond .ne 7, 3) := by decide +kernel
theorem dX8_findBest_30 : decode cX8_findBest 30 = .ok (.iconst 1, 1) := by decide +kernel
theorem dX8_findBest_31 : decode cX8_findBest 31 = .ok (.goto 4, 3) := by decide +kernel
theorem dX8_findBest_34 : decode cX8_findBest 34 = .ok (.iconst 0, 1) := by decide +kernel
theorem dX8_findBest_35 : decode cX8_findBest 35 = .ok (.ireturn, 1) := by decide +kernel
theorem dX8_findBest_36 : decode cX8_findBest 36 = .ok (.aload_n 0, 1) := by decide +kernel
theorem dX8_findBest_37 : decode cX8_findBest 37 = .ok (.getfield 55, 3) := by decide +kernel
theorem dX8_findBest_40 : decode cX8_findBest 40 = .ok (.invokevirtual 59, 3) := by decide +kernel
theorem dX8_findBest_43 : decode cX8_findBest 43 = .ok (.aload_n 0, 1) := by decide +kernel
theorem dX8_findBest_44 : decode cX8_findBest 44 = .ok (.getfield 21, 3) := by decide +kernel
theorem dX8_findBest_47 : decode cX8_findBest 47 = .ok (.iconst 1, 1) := by decide +kernel
theorem dX8_findBest_48 : decode cX8_findBest 48 = .ok (.isub, 1) := by decide +kernel
theorem dX8_findBest_49 : decode cX8_findBest 49 = .ok (.istore 4, 2) := by decide +kernel
theorem dX8_findBest_51 : decode cX8_findBest 51 = .ok (.aload_n 0, 1) := by decide +kernel
theorem dX8_findBest_52 : decode cX8_findBest 52 = .ok (.aload_n 0, 1) := by decide +kernel
theorem dX8_findBest_53 : decode cX8_findBest 53 = .ok (.getfield 18, 3) := by decide +kernel
theorem dX8_findBest_56 : decode cX8_findBest 56 = .ok (.iload 4, 2) := by decide +kernel
theorem dX8_findBest_58 : decode cX8_findBest 58 = .ok (.iaload, 1) := by decide +kernel
theorem dX8_findBest_59 : decode cX8_findBest 59 = .ok (.invokevirtual 119, 3) := by decide +kernel
theorem dX8_findBest_62 : decode cX8_findBest 62 = .ok (.aload_n 0, 1) := by decide +kernel
theorem dX8_findBest_63 : decode cX8_findBest 63 = .ok (.getfield 30, 3) := by decide +kernel
theorem dX8_findBest_66 : decode cX8_findBest 66 = .ok (.iconst 0, 1) := by decide +kernel
theorem dX8_findBest_67 : decode cX8_findBest 67 = .ok (.aload_n 0, 1) := by decide +kernel
theorem dX8_findBest_68 : decode cX8_findBest 68 = .ok (.getfield 33, 3) := by decide +kernel
theorem dX8_findBest_71 : decode cX8_findBest 71 = .ok (.iload 4, 2) := by decide +kernel
theorem dX8_findBest_73 : decode cX8_findBest 73 = .ok (.aaload, 1) := by decide +kernel
theorem dX8_findBest_74 : decode cX8_findBest 74 = .ok (.iconst 0, 1) := by decide +kernel
theorem dX8_findBest_75 : decode cX8_findBest 75 = .ok (.iload_n 3, 1) := by decide +kernel
theorem dX8_findBest_76 : decode cX8_findBest 76 = .ok (.iconst 1, 1) := by decide +kernel
theorem dX8_findBest_77 : decode cX8_findBest 77 = .ok (.iadd, 1) := by decide +kernel
theorem dX8_findBest_78 : decode cX8_findBest 78 = .ok (.invokestatic 123, 3) := by decide +kernel
theorem dX8_findBest_81 : decode cX8_findBest 81 = .ok (.iload 4, 2) := by decide +kernel
theorem dX8_findBest_83 : decode cX8_findBest 83 = .ok (.iconst 1, 1) := by decide +kernel
theorem dX8_findBest_84 : decode cX8_findBest 84 = .ok (.isub, 1) := by decide +kernel
theorem dX8_findBest_85 : decode cX8_findBest 85 = .ok (.istore 5, 2) := by decide +kernel
theorem dX8_findBest_87 : decode cX8_findBest 87 = .ok (.iload 5, 2) := by decide +kernel
theorem dX8_findBest_89 : decode cX8_findBest 89 = .ok (.ifCond .lt 28, 3) := by decide +kernel
theorem dX8_findBest_92 : decode cX8_findBest 92 = .ok (.aload_n 0, 1) := by decide +kernel
theorem dX8_findBest_93 : decode cX8_findBest 93 = .ok (.aload_n 0, 1) := by decide +kernel
theorem dX8_findBest_94 : decode cX8_findBest 94 = .ok (.getfield 18, 3) := by decide +kernel
theorem dX8_findBest_97 : decode cX8_findBest 97 = .ok (.iload 5, 2) := by decide +kernel
theorem dX8_findBest_99 : decode cX8_findBest 99 = .ok (.iaload, 1) := by decide +kernel
theorem dX8_findBest_100 : decode cX8_findBest 100 = .ok (.invokevirtual 119, 3) := by decide +kernel
theorem dX8_findBest_103 : decode cX8_findBest 103 = .ok (.aload_n 0, 1) := by decide +kernel
theorem dX8_findBest_104 : decode cX8_findBest 104 = .ok (.iload_n 1, 1) := by decide +kernel
theorem dX8_findBest_105 : decode cX8_findBest 105 = .ok (.iload 5, 2) := by decide +kernel
theorem dX8_findBest_107 : decode cX8_findBest 107 = .ok (.iload_n 3, 1) := by decide +kernel
theorem dX8_findBest_108 : decode cX8_findBest 108 = .ok (.invokevirtual 129, 3) := by decide +kernel
theorem dX8_findBest_111 : decode cX8_findBest 111 = .ok (.iinc 5 (-1), 3) := by decide +kernel
theorem dX8_findBest_114 : decode cX8_findBest 114 = .ok (.goto (-27), 3) := by decide +kernel
theorem dX8_findBest_117 : decode cX8_findBest 117 = .ok (.aload_n 0, 1) := by decide +kernel
theorem dX8_findBest_118 : decode cX8_findBest 118 = .ok (.getfield 33, 3) := by decide +kernel
theorem dX8_findBest_121 : decode cX8_findBest 121 = .ok (.iconst 0, 1) := by decide +kernel
theorem dX8_findBest_122 : decode cX8_findBest 122 = .ok (.aaload, 1) := by decide +kernel
theorem dX8_findBest_123 : decode cX8_findBest 123 = .ok (.iload_n 3, 1) := by decide +kernel
theorem dX8_findBest_124 : decode cX8_findBest 124 = .ok (.iaload, 1) := by decide +kernel
theorem dX8_findBest_125 : decode cX8_findBest 125 = .ok (.ldc 97, 2) := by decide +kernel
theorem dX8_findBest_127 : decode cX8_findBest 127 = .ok (.if_icmp .lt 5, 3) := by decide +kernel
theorem dX8_findBest_130 : decode cX8_findBest 130 = .ok (.iconst 0, 1) := by decide +kernel
theorem dX8_findBest_131 : decode cX8_findBest 131 = .ok (.ireturn, 1) := by decide +kernel
theorem dX8_findBest_132 : decode cX8_findBest 132 = .ok (.aload_n 0, 1) := by decide +kernel
theorem dX8_findBest_133 : decode cX8_findBest 133 = .ok (.iload_n 1, 1) := by decide +kernel
theorem dX8_findBest_134 : decode cX8_findBest 134 = .ok (.ifCond .ne 15, 3) := by decide +kernel
theorem dX8_findBest_137 : decode cX8_findBest 137 = .ok (.aload_n 0, 1) := by decide +kernel
theorem dX8_findBest_138 : decode cX8_findBest 138 = .ok (.getfield 33, 3) := by decide +kernel
theorem dX8_findBest_141 : decode cX8_findBest 141 = .ok (.iconst 0, 1) := by decide +kernel
theorem dX8_findBest_142 : decode cX8_findBest 142 = .ok (.aaload, 1) := by decide +kernel
theorem dX8_findBest_143 : decode cX8_findBest 143 = .ok (.iload_n 3, 1) := by decide +kernel
theorem dX8_findBest_144 : decode cX8_findBest 144 = .ok (.iaload, 1) := by decide +kernel
theorem dX8_findBest_145 : decode cX8_findBest 145 = .ok (.ineg, 1) := by decide +kernel
theorem dX8_findBest_146 : decode cX8_findBest 146 = .ok (.goto 11, 3) := by decide +kernel
theorem dX8_findBest_149 : decode cX8_findBest 149 = .ok (.aload_n 0, 1) := by decide +kernel
theorem dX8_findBest_150 : decode cX8_findBest 150 = .ok (.getfield 33, 3) := by decide +kernel
theorem dX8_findBest_153 : decode cX8_findBest 153 = .ok (.iconst 0, 1) := by decide +kernel
theorem dX8_findBest_154 : decode cX8_findBest 154 = .ok (.aaload, 1) := by decide +kernel
theorem dX8_findBest_155 : decode cX8_findBest 155 = .ok (.iload_n 3, 1) := by decide +kernel
theorem dX8_findBest_156 : decode cX8_findBest 156 = .ok (.iaload, 1) := by decide +kernel
theorem dX8_findBest_157 : decode cX8_findBest 157 = .ok (.putfield 42, 3) := by decide +kernel
theorem dX8_findBest_160 : decode cX8_findBest 160 = .ok (.aload_n 0, 1) := by decide +kernel
theorem dX8_findBest_161 : decode cX8_findBest 161 = .ok (.iload_n 1, 1) := by decide +kernel
theorem dX8_findBest_162 : decode cX8_findBest 162 = .ok (.iload_n 3, 1) := by decide +kernel
theorem dX8_findBest_163 : decode cX8_findBest 163 = .ok (.invokevirtual 133, 3) := by decide +kernel
theorem dX8_findBest_166 : decode cX8_findBest 166 = .ok (.iconst 1, 1) := by decide +kernel
theorem dX8_findBest_167 : decode cX8_findBest 167 = .ok (.ireturn, 1) := by decide +kernel
theorem dX8_addToTeam_0 : decode cX8_addToTeam 0 = .ok (.aload_n 0, 1) := by decide +kernel
theorem dX8_addToTeam_1 : decode cX8_addToTeam 1 = .ok (.getfield 33, 3) := by decide +kernel
theorem dX8_addToTeam_4 : decode cX8_addToTeam 4 = .ok (.iload_n 2, 1) := by decide +kernel
theorem dX8_addToTeam_5 : decode cX8_addToTeam 5 = .ok (.iconst 1, 1) := by decide +kernel
theorem dX8_addToTeam_6 : decode cX8_addToTeam 6 = .ok (.iadd, 1) := by decide +kernel
theorem dX8_addToTeam_7 : decode cX8_addToTeam 7 = .ok (.aaload, 1) := by decide +kernel
theorem dX8_addToTeam_8 : decode cX8_addToTeam 8 = .ok (.astore 4, 2) := by decide +kernel
theorem dX8_addToTeam_10 : decode cX8_addToTeam 10 = .ok (.aload_n 0, 1) := by decide +kernel
theorem dX8_addToTeam_11 : decode cX8_addToTeam 11 = .ok (.getfield 33, 3) := by decide +kernel
theorem dX8_addToTeam_14 : decode cX8_addToTeam 14 = .ok (.iload_n 2, 1) := by decide +kernel
theorem dX8_addToTeam_15 : decode cX8_addToTeam 15 = .ok (.aaload, 1) := by decide +kernel
theorem dX8_addToTeam_16 : decode cX8_addToTeam 16 = .ok (.astore 5, 2) := by decide +kernel
theorem dX8_addToTeam_18 : decode cX8_addToTeam 18 = .ok (.aload 5, 2) := by decide +kernel
theorem dX8_addToTeam_20 : decode cX8_addToTeam 20 = .ok (.iconst 0, 1) := by decide +kernel
theorem dX8_addToTeam_21 : decode cX8_addToTeam 21 = .ok (.iload_n 3, 1) := by decide +kernel
theorem dX8_addToTeam_22 : decode cX8_addToTeam 22 = .ok (.iconst 1, 1) := by decide +kernel
theorem dX8_addToTeam_23 : decode cX8_addToTeam 23 = .ok (.iadd, 1) := by decide +kernel
theorem dX8_addToTeam_24 : decode cX8_addToTeam 24 = .ok (.ldc 97, 2) := by decide +kernel
theorem dX8_addToTeam_26 : decode cX8_addToTeam 26 = .ok (.invokestatic 136, 3) := by decide +kernel
theorem dX8_addToTeam_29 : decode cX8_addToTeam 29 = .ok (.iconst 0, 1) := by decide +kernel
theorem dX8_addToTeam_30 : decode cX8_addToTeam 30 = .ok (.istore 6, 2) := by decide +kernel
theorem dX8_addToTeam_32 : decode cX8_addToTeam 32 = .ok (.iload 6, 2) := by decide +kernel
theorem dX8_addToTeam_34 : decode cX8_addToTeam 34 = .ok (.iload_n 3, 1) := by decide +kernel
theorem dX8_addToTeam_35 : decode cX8_addToTeam 35 = .ok (.if_icmp .gt 120, 3) := by decide +kernel
theorem dX8_addToTeam_38 : decode cX8_addToTeam 38 = .ok (.aload_n 0, 1) := by decide +kernel
theorem dX8_addToTeam_39 : decode cX8_addToTeam 39 = .ok (.getfield 30, 3) := by decide +kernel
theorem dX8_addToTeam_42 : decode cX8_addToTeam 42 = .ok (.iload 6, 2) := by decide +kernel
theorem dX8_addToTeam_44 : decode cX8_addToTeam 44 = .ok (.iaload, 1) := by decide +kernel
theorem dX8_addToTeam_45 : decode cX8_addToTeam 45 = .ok (.ldc 97, 2) := by decide +kernel
theorem dX8_addToTeam_47 : decode cX8_addToTeam 47 = .ok (.if_icmp .ge 102, 3) := by decide +kernel
theorem dX8_addToTeam_50 : decode cX8_addToTeam 50 = .ok (.iload_n 3, 1) := by decide +kernel
theorem dX8_addToTeam_51 : decode cX8_addToTeam 51 = .ok (.iload 6, 2) := by decide +kernel
theorem dX8_addToTeam_53 : decode cX8_addToTeam 53 = .ok (.ixor, 1) := by decide +kernel
theorem dX8_addToTeam_54 : decode cX8_addToTeam 54 = .ok (.istore 7, 2) := by decide +kernel
theorem dX8_addToTeam_56 : decode cX8_addToTeam 56 = .ok (.iload_n 2, 1) := by decide +kernel
theorem dX8_addToTeam_57 : decode cX8_addToTeam 57 = .ok (.ifCond .ne 8, 3) := by decide +kernel
theorem dX8_addToTeam_60 : decode cX8_addToTeam 60 = .ok (.iload 7, 2) := by decide +kernel
theorem dX8_addToTeam_62 : decode cX8_addToTeam 62 = .ok (.goto 4, 3) := by decide +kernel
theorem dX8_addToTeam_65 : decode cX8_addToTeam 65 = .ok (.iconst 0, 1) := by decide +kernel
theorem dX8_addToTeam_66 : decode cX8_addToTeam 66 = .ok (.istore 8, 2) := by decide +kernel
theorem dX8_addToTeam_68 : decode cX8_addToTeam 68 = .ok (.iload 7, 2) := by decide +kernel
theorem dX8_addToTeam_70 : decode cX8_addToTeam 70 = .ok (.istore 9, 2) := by decide +kernel
theorem dX8_addToTeam_72 : decode cX8_addToTeam 72 = .ok (.iload 9, 2) := by decide +kernel
theorem dX8_addToTeam_74 : decode cX8_addToTeam 74 = .ok (.iload 8, 2) := by decide +kernel
theorem dX8_addToTeam_76 : decode cX8_addToTeam 76 = .ok (.if_icmp .lt 73, 3) := by decide +kernel
theorem dX8_addToTeam_79 : decode cX8_addToTeam 79 = .ok (.aload 4, 2) := by decide +kernel
theorem dX8_addToTeam_81 : decode cX8_addToTeam 81 = .ok (.iload 9, 2) := by decide +kernel
theorem dX8_addToTeam_83 : decode cX8_addToTeam 83 = .ok (.iaload, 1) := by decide +kernel
theorem dX8_addToTeam_84 : decode cX8_addToTeam 84 = .ok (.ldc 97, 2) := by decide +kernel
theorem dX8_addToTeam_86 : decode cX8_addToTeam 86 = .ok (.if_icmp .ge 42, 3) := by decide +kernel
theorem dX8_addToTeam_89 : decode cX8_addToTeam 89 = .ok (.iload_n 1, 1) := by decide +kernel
theorem dX8_addToTeam_90 : decode cX8_addToTeam 90 = .ok (.aload_n 0, 1) := by decide +kernel
theorem dX8_addToTeam_91 : decode cX8_addToTeam 91 = .ok (.getfield 30, 3) := by decide +kernel
theorem dX8_addToTeam_94 : decode cX8_addToTeam 94 = .ok (.iload 6, 2) := by decide +kernel
theorem dX8_addToTeam_96 : decode cX8_addToTeam 96 = .ok (.iaload, 1) := by decide +kernel
theorem dX8_addToTeam_97 : decode cX8_addToTeam 97 = .ok (.aload 4, 2) := by decide +kernel
theorem dX8_addToTeam_99 : decode cX8_addToTeam 99 = .ok (.iload 9, 2) := by decide +kernel
theorem dX8_addToTeam_101 : decode cX8_addToTeam 101 = .ok (.iaload, 1) := by decide +kernel
theorem dX8_addToTeam_102 : decode cX8_addToTeam 102 = .ok (.invokestatic 139, 3) := by decide +kernel
theorem dX8_addToTeam_105 : decode cX8_addToTeam 105 = .ok (.istore 10, 2) := by decide +kernel
theorem dX8_addToTeam_107 : decode cX8_addToTeam 107 = .ok (.aload 5, 2) := by decide +kernel
theorem dX8_addToTeam_109 : decode cX8_addToTeam 109 = .ok (.iload 6, 2) := by decide +kernel
theorem dX8_addToTeam_111 : decode cX8_addToTeam 111 = .ok (.iload 9, 2) := by decide +kernel
theorem dX8_addToTeam_113 : decode cX8_addToTeam 113 = .ok (.ior, 1) := by decide +kernel
theorem dX8_addToTeam_114 : decode cX8_addToTeam 114 = .ok (.aload 5, 2) := by decide +kernel
theorem dX8_addToTeam_116 : decode cX8_addToTeam 116 = .ok (.iload 6, 2) := by decide +kernel
theorem dX8_addToTeam_118 : decode cX8_addToTeam 118 = .ok (.iload 9, 2) := by decide +kernel
theorem dX8_addToTeam_120 : decode cX8_addToTeam 120 = .ok (.ior, 1) := by decide +kernel
theorem dX8_addToTeam_121 : decode cX8_addToTeam 121 = .ok (.iaload, 1) := by decide +kernel
theorem dX8_addToTeam_122 : decode cX8_addToTeam 122 = .ok (.iload 10, 2) := by decide +kernel
theorem dX8_addToTeam_124 : decode cX8_addToTeam 124 = .ok (.invokestatic 142, 3) := by decide +kernel
theorem dX8_addToTeam_127 : decode cX8_addToTeam 127 = .ok (.iastore, 1) := by decide +kernel
theorem dX8_addToTeam_128 : decode cX8_addToTeam 128 = .ok (.iload 9, 2) := by decide +kernel
theorem dX8_addToTeam_130 : decode cX8_addToTeam 130 = .ok (.ifCond .ne 7, 3) := by decide +kernel
theorem dX8_addToTeam_133 : decode cX8_addToTeam 133 = .ok (.iconst (-1), 1) := by decide +kernel
theorem dX8_addToTeam_134 : decode cX8_addToTeam 134 = .ok (.goto 10, 3) := by decide +kernel
theorem dX8_addToTeam_137 : decode cX8_addToTeam 137 = .ok (.iload 9, 2) := by decide +kernel
theorem dX8_addToTeam_139 : decode cX8_addToTeam 139 = .ok (.iconst 1, 1) := by decide +kernel
theorem dX8_addToTeam_140 : decode cX8_addToTeam 140 = .ok (.isub, 1) := by decide +kernel
theorem dX8_addToTeam_141 : decode cX8_addToTeam 141 = .ok (.iload 7, 2) := by decide +kernel
theorem dX8_addToTeam_143 : decode cX8_addToTeam 143 = .ok (.iand, 1) := by decide +kernel
theorem dX8_addToTeam_144 : decode cX8_addToTeam 144 = .ok (.istore 9, 2) := by decide +kernel
theorem dX8_addToTeam_146 : decode cX8_addToTeam 146 = .ok (.goto (-74), 3) := by decide +kernel
theorem dX8_addToTeam_149 : decode cX8_addToTeam 149 = .ok (.iinc 6 1, 3) := by decide +kernel
theorem dX8_addToTeam_152 : decode cX8_addToTeam 152 = .ok (.goto (-120), 3) := by decide +kernel
theorem dX8_addToTeam_155 : decode cX8_addToTeam 155 = .ok (.return_, 1) := by decide +kernel
theorem dX8_together_0 : decode cX8_together 0 = .ok (.iload_n 0, 1) := by decide +kernel
theorem dX8_together_1 : decode cX8_together 1 = .ok (.iconst 2, 1) := by decide +kernel
theorem dX8_together_2 : decode cX8_together 2 = .ok (.if_icmp .ne 11, 3) := by decide +kernel
theorem dX8_together_5 : decode cX8_together 5 = .ok (.iload_n 1, 1) := by decide +kernel
theorem dX8_together_6 : decode cX8_together 6 = .ok (.iload_n 2, 1) := by decide +kernel
theorem dX8_together_7 : decode cX8_together 7 = .ok (.invokestatic 147, 3) := by decide +kernel
theorem dX8_together_10 : decode cX8_together 10 = .ok (.goto 6, 3) := by decide +kernel
theorem dX8_together_13 : decode cX8_together 13 = .ok (.iload_n 1, 1) := by decide +kernel
theorem dX8_together_14 : decode cX8_together 14 = .ok (.iload_n 2, 1) := by decide +kernel
theorem dX8_together_15 : decode cX8_together 15 = .ok (.iadd, 1) := by decide +kernel
theorem dX8_together_16 : decode cX8_together 16 = .ok (.ireturn, 1) := by decide +kernel
theorem dX8_dealOut_0 : decode cX8_dealOut 0 = .ok (.iload_n 2, 1) := by decide +kernel
theorem dX8_dealOut_1 : decode cX8_dealOut 1 = .ok (.istore_n 3, 1) := by decide +kernel
theorem dX8_dealOut_2 : decode cX8_dealOut 2 = .ok (.aload_n 0, 1) := by decide +kernel
theorem dX8_dealOut_3 : decode cX8_dealOut 3 = .ok (.getfield 33, 3) := by decide +kernel
theorem dX8_dealOut_6 : decode cX8_dealOut 6 = .ok (.iconst 0, 1) := by decide +kernel
theorem dX8_dealOut_7 : decode cX8_dealOut 7 = .ok (.aaload, 1) := by decide +kernel
theorem dX8_dealOut_8 : decode cX8_dealOut 8 = .ok (.iload_n 2, 1) := by decide +kernel
theorem dX8_dealOut_9 : decode cX8_dealOut 9 = .ok (.iaload, 1) := by decide +kernel
theorem dX8_dealOut_10 : decode cX8_dealOut 10 = .ok (.istore 4, 2) := by decide +kernel
theorem dX8_dealOut_12 : decode cX8_dealOut 12 = .ok (.iconst 0, 1) := by decide +kernel
theorem dX8_dealOut_13 : decode cX8_dealOut 13 = .ok (.istore 5, 2) := by decide +kernel
theorem dX8_dealOut_15 : decode cX8_dealOut 15 = .ok (.iload 5, 2) := by decide +kernel
theorem dX8_dealOut_17 : decode cX8_dealOut 17 = .ok (.aload_n 0, 1) := by decide +kernel
theorem dX8_dealOut_18 : decode cX8_dealOut 18 = .ok (.getfield 21, 3) := by decide +kernel
theorem dX8_dealOut_21 : decode cX8_dealOut 21 = .ok (.iconst 1, 1) := by decide +kernel
theorem dX8_dealOut_22 : decode cX8_dealOut 22 = .ok (.isub, 1) := by decide +kernel
theorem dX8_dealOut_23 : decode cX8_dealOut 23 = .ok (.if_icmp .ge 71, 3) := by decide +kernel
theorem dX8_dealOut_26 : decode cX8_dealOut 26 = .ok (.aload_n 0, 1) := by decide +kernel
theorem dX8_dealOut_27 : decode cX8_dealOut 27 = .ok (.aload_n 0, 1) := by decide +kernel
theorem dX8_dealOut_28 : decode cX8_dealOut 28 = .ok (.getfield 18, 3) := by decide +kernel
theorem dX8_dealOut_31 : decode cX8_dealOut 31 = .ok (.iload 5, 2) := by decide +kernel
theorem dX8_dealOut_33 : decode cX8_dealOut 33 = .ok (.iaload, 1) := by decide +kernel
theorem dX8_dealOut_34 : decode cX8_dealOut 34 = .ok (.invokevirtual 119, 3) := by decide +kernel
theorem dX8_dealOut_37 : decode cX8_dealOut 37 = .ok (.aload_n 0, 1) := by decide +kernel
theorem dX8_dealOut_38 : decode cX8_dealOut 38 = .ok (.iload_n 1, 1) := by decide +kernel
theorem dX8_dealOut_39 : decode cX8_dealOut 39 = .ok (.iload 5, 2) := by decide +kernel
theorem dX8_dealOut_41 : decode cX8_dealOut 41 = .ok (.iload_n 3, 1) := by decide +kernel
theorem dX8_dealOut_42 : decode cX8_dealOut 42 = .ok (.iload 4, 2) := by decide +kernel
theorem dX8_dealOut_44 : decode cX8_dealOut 44 = .ok (.invokevirtual 150, 3) := by decide +kernel
theorem dX8_dealOut_47 : decode cX8_dealOut 47 = .ok (.istore 6, 2) := by decide +kernel
theorem dX8_dealOut_49 : decode cX8_dealOut 49 = .ok (.aload_n 0, 1) := by decide +kernel
theorem dX8_dealOut_50 : decode cX8_dealOut 50 = .ok (.iload 6, 2) := by decide +kernel
theorem dX8_dealOut_52 : decode cX8_dealOut 52 = .ok (.aload_n 0, 1) := by decide +kernel
theorem dX8_dealOut_53 : decode cX8_dealOut 53 = .ok (.getfield 18, 3) := by decide +kernel
theorem dX8_dealOut_56 : decode cX8_dealOut 56 = .ok (.iload 5, 2) := by decide +kernel
theorem dX8_dealOut_58 : decode cX8_dealOut 58 = .ok (.iaload, 1) := by decide +kernel
theorem dX8_dealOut_59 : decode cX8_dealOut 59 = .ok (.invokevirtual 154, 3) := by decide +kernel
theorem dX8_dealOut_62 : decode cX8_dealOut 62 = .ok (.iload_n 3, 1) := by decide +kernel
theorem dX8_dealOut_63 : decode cX8_dealOut 63 = .ok (.iload 6, 2) := by decide +kernel
theorem dX8_dealOut_65 : decode cX8_dealOut 65 = .ok (.ixor, 1) := by decide +kernel
theorem dX8_dealOut_66 : decode cX8_dealOut 66 = .ok (.istore_n 3, 1) := by decide +kernel
theorem dX8_dealOut_67 : decode cX8_dealOut 67 = .ok (.iload 4, 2) := by decide +kernel
theorem dX8_dealOut_69 : decode cX8_dealOut 69 = .ok (.iload_n 1, 1) := by decide +kernel
theorem dX8_dealOut_70 : decode cX8_dealOut 70 = .ok (.iconst 2, 1) := by decide +kernel
theorem dX8_dealOut_71 : decode cX8_dealOut 71 = .ok (.if_icmp .ne 7, 3) := by decide +kernel
theorem dX8_dealOut_74 : decode cX8_dealOut 74 = .ok (.iconst 0, 1) := by decide +kernel
theorem dX8_dealOut_75 : decode cX8_dealOut 75 = .ok (.goto 10, 3) := by decide +kernel
theorem dX8_dealOut_78 : decode cX8_dealOut 78 = .ok (.aload_n 0, 1) := by decide +kernel
theorem dX8_dealOut_79 : decode cX8_dealOut 79 = .ok (.getfield 30, 3) := by decide +kernel
theorem dX8_dealOut_82 : decode cX8_dealOut 82 = .ok (.iload 6, 2) := by decide +kernel
theorem dX8_dealOut_84 : decode cX8_dealOut 84 = .ok (.iaload, 1) := by decide +kernel
theorem dX8_dealOut_85 : decode cX8_dealOut 85 = .ok (.isub, 1) := by decide +kernel
theorem dX8_dealOut_86 : decode cX8_dealOut 86 = .ok (.istore 4, 2) := by decide +kernel
theorem dX8_dealOut_88 : decode cX8_dealOut 88 = .ok (.iinc 5 1, 3) := by decide +kernel
theorem dX8_dealOut_91 : decode cX8_dealOut 91 = .ok (.goto (-76), 3) := by decide +kernel
theorem dX8_dealOut_94 : decode cX8_dealOut 94 = .ok (.aload_n 0, 1) := by decide +kernel
theorem dX8_dealOut_95 : decode cX8_dealOut 95 = .ok (.iload_n 3, 1) := by decide +kernel
theorem dX8_dealOut_96 : decode cX8_dealOut 96 = .ok (.aload_n 0, 1) := by decide +kernel
theorem dX8_dealOut_97 : decode cX8_dealOut 97 = .ok (.getfield 18, 3) := by decide +kernel
theorem dX8_dealOut_100 : decode cX8_dealOut 100 = .ok (.aload_n 0, 1) := by decide +kernel
theorem dX8_dealOut_101 : decode cX8_dealOut 101 = .ok (.getfield 21, 3) := by decide +kernel
theorem dX8_dealOut_104 : decode cX8_dealOut 104 = .ok (.iconst 1, 1) := by decide +kernel
theorem dX8_dealOut_105 : decode cX8_dealOut 105 = .ok (.isub, 1) := by decide +kernel
theorem dX8_dealOut_106 : decode cX8_dealOut 106 = .ok (.iaload, 1) := by decide +kernel
theorem dX8_dealOut_107 : decode cX8_dealOut 107 = .ok (.invokevirtual 154, 3) := by decide +kernel
theorem dX8_dealOut_110 : decode cX8_dealOut 110 = .ok (.return_, 1) := by decide +kernel
theorem dX8_leastShare_0 : decode cX8_leastShare 0 = .ok (.aload_n 0, 1) := by decide +kernel
theorem dX8_leastShare_1 : decode cX8_leastShare 1 = .ok (.getfield 33, 3) := by decide +kernel
theorem dX8_leastShare_4 : decode cX8_leastShare 4 = .ok (.iload_n 2, 1) := by decide +kernel
theorem dX8_leastShare_5 : decode cX8_leastShare 5 = .ok (.iconst 1, 1) := by decide +kernel
theorem dX8_leastShare_6 : decode cX8_leastShare 6 = .ok (.iadd, 1) := by decide +kernel
theorem dX8_leastShare_7 : decode cX8_leastShare 7 = .ok (.aaload, 1) := by decide +kernel
theorem dX8_leastShare_8 : decode cX8_leastShare 8 = .ok (.astore 5, 2) := by decide +kernel
theorem dX8_leastShare_10 : decode cX8_leastShare 10 = .ok (.iconst 0, 1) := by decide +kernel
theorem dX8_leastShare_11 : decode cX8_leastShare 11 = .ok (.istore 6, 2) := by decide +kernel
theorem dX8_leastShare_13 : decode cX8_leastShare 13 = .ok (.iload 6, 2) := by decide +kernel
theorem dX8_leastShare_15 : decode cX8_leastShare 15 = .ok (.iload_n 3, 1) := by decide +kernel
theorem dX8_leastShare_16 : decode cX8_leastShare 16 = .ok (.if_icmp .ge 44, 3) := by decide +kernel
theorem dX8_leastShare_19 : decode cX8_leastShare 19 = .ok (.iload 6, 2) := by decide +kernel
theorem dX8_leastShare_21 : decode cX8_leastShare 21 = .ok (.iload_n 3, 1) := by decide +kernel
theorem dX8_leastShare_22 : decode cX8_leastShare 22 = .ok (.iconst (-1), 1) := by decide +kernel
theorem dX8_leastShare_23 : decode cX8_leastShare 23 = .ok (.ixor, 1) := by decide +kernel
theorem dX8_leastShare_24 : decode cX8_leastShare 24 = .ok (.iand, 1) := by decide +kernel
theorem dX8_leastShare_25 : decode cX8_leastShare 25 = .ok (.ifCond .ne 29, 3) := by decide +kernel
theorem dX8_leastShare_28 : decode cX8_leastShare 28 = .ok (.iload_n 1, 1) := by decide +kernel
theorem dX8_leastShare_29 : decode cX8_leastShare 29 = .ok (.aload_n 0, 1) := by decide +kernel
theorem dX8_leastShare_30 : decode cX8_leastShare 30 = .ok (.getfield 30, 3) := by decide +kernel
theorem dX8_leastShare_33 : decode cX8_leastShare 33 = .ok (.iload 6, 2) := by decide +kernel
theorem dX8_leastShare_35 : decode cX8_leastShare 35 = .ok (.iaload, 1) := by decide +kernel
theorem dX8_leastShare_36 : decode cX8_leastShare 36 = .ok (.aload 5, 2) := by decide +kernel
theorem dX8_leastShare_38 : decode cX8_leastShare 38 = .ok (.iload_n 3, 1) := by decide +kernel
theorem dX8_leastShare_39 : decode cX8_leastShare 39 = .ok (.iload 6, 2) := by decide +kernel
theorem dX8_leastShare_41 : decode cX8_leastShare 41 = .ok (.ixor, 1) := by decide +kernel
theorem dX8_leastShare_42 : decode cX8_leastShare 42 = .ok (.iaload, 1) := by decide +kernel
theorem dX8_leastShare_43 : decode cX8_leastShare 43 = .ok (.invokestatic 139, 3) := by decide +kernel
theorem dX8_leastShare_46 : decode cX8_leastShare 46 = .ok (.iload 4, 2) := by decide +kernel
theorem dX8_leastShare_48 : decode cX8_leastShare 48 = .ok (.if_icmp .gt 6, 3) := by decide +kernel
theorem dX8_leastShare_51 : decode cX8_leastShare 51 = .ok (.iload 6, 2) := by decide +kernel
theorem dX8_leastShare_53 : decode cX8_leastShare 53 = .ok (.ireturn, 1) := by decide +kernel
theorem dX8_leastShare_54 : decode cX8_leastShare 54 = .ok (.iinc 6 1, 3) := by decide +kernel
theorem dX8_leastShare_57 : decode cX8_leastShare 57 = .ok (.goto (-44), 3) := by decide +kernel
theorem dX8_leastShare_60 : decode cX8_leastShare 60 = .ok (.iload_n 3, 1) := by decide +kernel
theorem dX8_leastShare_61 : decode cX8_leastShare 61 = .ok (.ireturn, 1) := by decide +kernel
theorem dX8_give_0 : decode cX8_give 0 = .ok (.iconst 0, 1) := by decide +kernel
theorem dX8_give_1 : decode cX8_give 1 = .ok (.istore_n 3, 1) := by decide +kernel
theorem dX8_give_2 : decode cX8_give 2 = .ok (.iload_n 3, 1) := by decide +kernel
theorem dX8_give_3 : decode cX8_give 3 = .ok (.aload_n 0, 1) := by decide +kernel
theorem dX8_give_4 : decode cX8_give 4 = .ok (.getfield 51, 3) := by decide +kernel
theorem dX8_give_7 : decode cX8_give 7 = .ok (.getfield 64, 3) := by decide +kernel
theorem dX8_give_10 : decode cX8_give 10 = .ok (.if_icmp .ge 24, 3) := by decide +kernel
theorem dX8_give_13 : decode cX8_give 13 = .ok (.iload_n 1, 1) := by decide +kernel
theorem dX8_give_14 : decode cX8_give 14 = .ok (.iload_n 3, 1) := by decide +kernel
theorem dX8_give_15 : decode cX8_give 15 = .ok (.ishr, 1) := by decide +kernel
theorem dX8_give_16 : decode cX8_give 16 = .ok (.iconst 1, 1) := by decide +kernel
theorem dX8_give_17 : decode cX8_give 17 = .ok (.iand, 1) := by decide +kernel
theorem dX8_give_18 : decode cX8_give 18 = .ok (.ifCond .eq 10, 3) := by decide +kernel
theorem dX8_give_21 : decode cX8_give 21 = .ok (.aload_n 0, 1) := by decide +kernel
theorem dX8_give_22 : decode cX8_give 22 = .ok (.getfield 39, 3) := by decide +kernel
theorem dX8_give_25 : decode cX8_give 25 = .ok (.iload_n 3, 1) := by decide +kernel
theorem dX8_give_26 : decode cX8_give 26 = .ok (.iload_n 2, 1) := by decide +kernel
theorem dX8_give_27 : decode cX8_give 27 = .ok (.iastore, 1) := by decide +kernel
theorem dX8_give_28 : decode cX8_give 28 = .ok (.iinc 3 1, 3) := by decide +kernel
theorem dX8_give_31 : decode cX8_give 31 = .ok (.goto (-29), 3) := by decide +kernel
theorem dX8_give_34 : decode cX8_give 34 = .ok (.return_, 1) := by decide +kernel
theorem dX8_countCastings_0 : decode cX8_countCastings 0 = .ok (.aload_n 0, 1) := by decide +kernel
theorem dX8_countCastings_1 : decode cX8_countCastings 1 = .ok (.getfield 51, 3) := by decide +kernel
theorem dX8_countCastings_4 : decode cX8_countCastings 4 = .ok (.invokevirtual 112, 3) := by decide +kernel
theorem dX8_countCastings_7 : decode cX8_countCastings 7 = .ok (.istore_n 2, 1) := by decide +kernel
theorem dX8_countCastings_8 : decode cX8_countCastings 8 = .ok (.aload_n 0, 1) := by decide +kernel
theorem dX8_countCastings_9 : decode cX8_countCastings 9 = .ok (.iload_n 1, 1) := by decide +kernel
theorem dX8_countCastings_10 : decode cX8_countCastings 10 = .ok (.iconst 3, 1) := by decide +kernel
theorem dX8_countCastings_11 : decode cX8_countCastings 11 = .ok (.invokevirtual 116, 3) := by decide +kernel
theorem dX8_countCastings_14 : decode cX8_countCastings 14 = .ok (.aload_n 0, 1) := by decide +kernel
theorem dX8_countCastings_15 : decode cX8_countCastings 15 = .ok (.getfield 55, 3) := by decide +kernel
theorem dX8_countCastings_18 : decode cX8_countCastings 18 = .ok (.invokevirtual 59, 3) := by decide +kernel
theorem dX8_countCastings_21 : decode cX8_countCastings 21 = .ok (.aload_n 0, 1) := by decide +kernel
theorem dX8_countCastings_22 : decode cX8_countCastings 22 = .ok (.aload_n 0, 1) := by decide +kernel
theorem dX8_countCastings_23 : decode cX8_countCastings 23 = .ok (.getfield 33, 3) := by decide +kernel
theorem dX8_countCastings_26 : decode cX8_countCastings 26 = .ok (.iconst 0, 1) := by decide +kernel
theorem dX8_countCastings_27 : decode cX8_countCastings 27 = .ok (.aaload, 1) := by decide +kernel
theorem dX8_countCastings_28 : decode cX8_countCastings 28 = .ok (.putfield 36, 3) := by decide +kernel
theorem dX8_countCastings_31 : decode cX8_countCastings 31 = .ok (.aload_n 0, 1) := by decide +kernel
theorem dX8_countCastings_32 : decode cX8_countCastings 32 = .ok (.getfield 36, 3) := by decide +kernel
theorem dX8_countCastings_35 : decode cX8_countCastings 35 = .ok (.iconst 0, 1) := by decide +kernel
theorem dX8_countCastings_36 : decode cX8_countCastings 36 = .ok (.iload_n 2, 1) := by decide +kernel
theorem dX8_countCastings_37 : decode cX8_countCastings 37 = .ok (.iconst 1, 1) := by decide +kernel
theorem dX8_countCastings_38 : decode cX8_countCastings 38 = .ok (.iadd, 1) := by decide +kernel
theorem dX8_countCastings_39 : decode cX8_countCastings 39 = .ok (.iconst 0, 1) := by decide +kernel
theorem dX8_countCastings_40 : decode cX8_countCastings 40 = .ok (.invokestatic 136, 3) := by decide +kernel
theorem dX8_countCastings_43 : decode cX8_countCastings 43 = .ok (.aload_n 0, 1) := by decide +kernel
theorem dX8_countCastings_44 : decode cX8_countCastings 44 = .ok (.getfield 36, 3) := by decide +kernel
theorem dX8_countCastings_47 : decode cX8_countCastings 47 = .ok (.iconst 0, 1) := by decide +kernel
theorem dX8_countCastings_48 : decode cX8_countCastings 48 = .ok (.iconst 1, 1) := by decide +kernel
theorem dX8_countCastings_49 : decode cX8_countCastings 49 = .ok (.iastore, 1) := by decide +kernel
theorem dX8_countCastings_50 : decode cX8_countCastings 50 = .ok (.iconst 0, 1) := by decide +kernel
theorem dX8_countCastings_51 : decode cX8_countCastings 51 = .ok (.istore_n 3, 1) := by decide +kernel
theorem dX8_countCastings_52 : decode cX8_countCastings 52 = .ok (.iload_n 3, 1) := by decide +kernel
theorem dX8_countCastings_53 : decode cX8_countCastings 53 = .ok (.aload_n 0, 1) := by decide +kernel
theorem dX8_countCastings_54 : decode cX8_countCastings 54 = .ok (.getfield 21, 3) := by decide +kernel
theorem dX8_countCastings_57 : decode cX8_countCastings 57 = .ok (.if_icmp .ge 34, 3) := by decide +kernel
theorem dX8_countCastings_60 : decode cX8_countCastings 60 = .ok (.aload_n 0, 1) := by decide +kernel
theorem dX8_countCastings_61 : decode cX8_countCastings 61 = .ok (.aload_n 0, 1) := by decide +kernel
theorem dX8_countCastings_62 : decode cX8_countCastings 62 = .ok (.getfield 18, 3) := by decide +kernel
theorem dX8_countCastings_65 : decode cX8_countCastings 65 = .ok (.iload_n 3, 1) := by decide +kernel
theorem dX8_countCastings_66 : decode cX8_countCastings 66 = .ok (.iaload, 1) := by decide +kernel
theorem dX8_countCastings_67 : decode cX8_countCastings 67 = .ok (.invokevirtual 119, 3) := by decide +kernel
theorem dX8_countCastings_70 : decode cX8_countCastings 70 = .ok (.aload_n 0, 1) := by decide +kernel
theorem dX8_countCastings_71 : decode cX8_countCastings 71 = .ok (.aload_n 0, 1) := by decide +kernel
theorem dX8_countCastings_72 : decode cX8_countCastings 72 = .ok (.getfield 33, 3) := by decide +kernel
theorem dX8_countCastings_75 : decode cX8_countCastings 75 = .ok (.iload_n 3, 1) := by decide +kernel
theorem dX8_countCastings_76 : decode cX8_countCastings 76 = .ok (.iconst 1, 1) := by decide +kernel
theorem dX8_countCastings_77 : decode cX8_countCastings 77 = .ok (.iadd, 1) := by decide +kernel
theorem dX8_countCastings_78 : decode cX8_countCastings 78 = .ok (.iconst 2, 1) := by decide +kernel
theorem dX8_countCastings_79 : decode cX8_countCastings 79 = .ok (.irem, 1) := by decide +kernel
theorem dX8_countCastings_80 : decode cX8_countCastings 80 = .ok (.aaload, 1) := by decide +kernel
theorem dX8_countCastings_81 : decode cX8_countCastings 81 = .ok (.iload_n 2, 1) := by decide +kernel
theorem dX8_countCastings_82 : decode cX8_countCastings 82 = .ok (.invokevirtual 157, 3) := by decide +kernel
theorem dX8_countCastings_85 : decode cX8_countCastings 85 = .ok (.iinc 3 1, 3) := by decide +kernel
theorem dX8_countCastings_88 : decode cX8_countCastings 88 = .ok (.goto (-36), 3) := by decide +kernel
theorem dX8_countCastings_91 : decode cX8_countCastings 91 = .ok (.return_, 1) := by decide +kernel
theorem dX8_countWithOneMore_0 : decode cX8_countWithOneMore 0 = .ok (.aload_n 1, 1) := by decide +kernel
theorem dX8_countWithOneMore_1 : decode cX8_countWithOneMore 1 = .ok (.iconst 0, 1) := by decide +kernel
theorem dX8_countWithOneMore_2 : decode cX8_countWithOneMore 2 = .ok (.iload_n 2, 1) := by decide +kernel
theorem dX8_countWithOneMore_3 : decode cX8_countWithOneMore 3 = .ok (.iconst 1, 1) := by decide +kernel
theorem dX8_countWithOneMore_4 : decode cX8_countWithOneMore 4 = .ok (.iadd, 1) := by decide +kernel
theorem dX8_countWithOneMore_5 : decode cX8_countWithOneMore 5 = .ok (.iconst 0, 1) := by decide +kernel
theorem dX8_countWithOneMore_6 : decode cX8_countWithOneMore 6 = .ok (.invokestatic 136, 3) := by decide +kernel
theorem dX8_countWithOneMore_9 : decode cX8_countWithOneMore 9 = .ok (.iconst 0, 1) := by decide +kernel
theorem dX8_countWithOneMore_10 : decode cX8_countWithOneMore 10 = .ok (.istore_n 3, 1) := by decide +kernel
theorem dX8_countWithOneMore_11 : decode cX8_countWithOneMore 11 = .ok (.iload_n 3, 1) := by decide +kernel
theorem dX8_countWithOneMore_12 : decode cX8_countWithOneMore 12 = .ok (.iload_n 2, 1) := by decide +kernel
theorem dX8_countWithOneMore_13 : decode cX8_countWithOneMore 13 = .ok (.if_icmp .gt 71, 3) := by decide +kernel
theorem dX8_countWithOneMore_16 : decode cX8_countWithOneMore 16 = .ok (.aload_n 0, 1) := by decide +kernel
theorem dX8_countWithOneMore_17 : decode cX8_countWithOneMore 17 = .ok (.getfield 30, 3) := by decide +kernel
theorem dX8_countWithOneMore_20 : decode cX8_countWithOneMore 20 = .ok (.iload_n 3, 1) := by decide +kernel
theorem dX8_countWithOneMore_21 : decode cX8_countWithOneMore 21 = .ok (.iaload, 1) := by decide +kernel
theorem dX8_countWithOneMore_22 : decode cX8_countWithOneMore 22 = .ok (.ldc 97, 2) := by decide +kernel
theorem dX8_countWithOneMore_24 : decode cX8_countWithOneMore 24 = .ok (.if_icmp .ge 54, 3) := by decide +kernel
theorem dX8_countWithOneMore_27 : decode cX8_countWithOneMore 27 = .ok (.iload_n 2, 1) := by decide +kernel
theorem dX8_countWithOneMore_28 : decode cX8_countWithOneMore 28 = .ok (.iload_n 3, 1) := by decide +kernel
theorem dX8_countWithOneMore_29 : decode cX8_countWithOneMore 29 = .ok (.ixor, 1) := by decide +kernel
theorem dX8_countWithOneMore_30 : decode cX8_countWithOneMore 30 = .ok (.istore 4, 2) := by decide +kernel
theorem dX8_countWithOneMore_32 : decode cX8_countWithOneMore 32 = .ok (.iload 4, 2) := by decide +kernel
theorem dX8_countWithOneMore_34 : decode cX8_countWithOneMore 34 = .ok (.istore 5, 2) := by decide +kernel
theorem dX8_countWithOneMore_36 : decode cX8_countWithOneMore 36 = .ok (.iload 5, 2) := by decide +kernel
theorem dX8_countWithOneMore_38 : decode cX8_countWithOneMore 38 = .ok (.ifCond .lt 40, 3) := by decide +kernel
theorem dX8_countWithOneMore_41 : decode cX8_countWithOneMore 41 = .ok (.aload_n 1, 1) := by decide +kernel
theorem dX8_countWithOneMore_42 : decode cX8_countWithOneMore 42 = .ok (.iload_n 3, 1) := by decide +kernel
theorem dX8_countWithOneMore_43 : decode cX8_countWithOneMore 43 = .ok (.iload 5, 2) := by decide +kernel
theorem dX8_countWithOneMore_45 : decode cX8_countWithOneMore 45 = .ok (.ior, 1) := by decide +kernel
theorem dX8_countWithOneMore_46 : decode cX8_countWithOneMore 46 = .ok (.dup2, 1) := by decide +kernel
theorem dX8_countWithOneMore_47 : decode cX8_countWithOneMore 47 = .ok (.iaload, 1) := by decide +kernel
theorem dX8_countWithOneMore_48 : decode cX8_countWithOneMore 48 = .ok (.aload_n 0, 1) := by decide +kernel
theorem dX8_countWithOneMore_49 : decode cX8_countWithOneMore 49 = .ok (.getfield 36, 3) := by decide +kernel
theorem dX8_countWithOneMore_52 : decode cX8_countWithOneMore 52 = .ok (.iload 5, 2) := by decide +kernel
theorem dX8_countWithOneMore_54 : decode cX8_countWithOneMore 54 = .ok (.iaload, 1) := by decide +kernel
theorem dX8_countWithOneMore_55 : decode cX8_countWithOneMore 55 = .ok (.iadd, 1) := by decide +kernel
theorem dX8_countWithOneMore_56 : decode cX8_countWithOneMore 56 = .ok (.iastore, 1) := by decide +kernel
theorem dX8_countWithOneMore_57 : decode cX8_countWithOneMore 57 = .ok (.iload 5, 2) := by decide +kernel
theorem dX8_countWithOneMore_59 : decode cX8_countWithOneMore 59 = .ok (.ifCond .ne 7, 3) := by decide +kernel
theorem dX8_countWithOneMore_62 : decode cX8_countWithOneMore 62 = .ok (.iconst (-1), 1) := by decide +kernel
theorem dX8_countWithOneMore_63 : decode cX8_countWithOneMore 63 = .ok (.goto 10, 3) := by decide +kernel
theorem dX8_countWithOneMore_66 : decode cX8_countWithOneMore 66 = .ok (.iload 5, 2) := by decide +kernel
theorem dX8_countWithOneMore_68 : decode cX8_countWithOneMore 68 = .ok (.iconst 1, 1) := by decide +kernel
theorem dX8_countWithOneMore_69 : decode cX8_countWithOneMore 69 = .ok (.isub, 1) := by decide +kernel
theorem dX8_countWithOneMore_70 : decode cX8_countWithOneMore 70 = .ok (.iload 4, 2) := by decide +kernel
theorem dX8_countWithOneMore_72 : decode cX8_countWithOneMore 72 = .ok (.iand, 1) := by decide +kernel
theorem dX8_countWithOneMore_73 : decode cX8_countWithOneMore 73 = .ok (.istore 5, 2) := by decide +kernel
theorem dX8_countWithOneMore_75 : decode cX8_countWithOneMore 75 = .ok (.goto (-39), 3) := by decide +kernel
theorem dX8_countWithOneMore_78 : decode cX8_countWithOneMore 78 = .ok (.iinc 3 1, 3) := by decide +kernel
theorem dX8_countWithOneMore_81 : decode cX8_countWithOneMore 81 = .ok (.goto (-70), 3) := by decide +kernel
theorem dX8_countWithOneMore_84 : decode cX8_countWithOneMore 84 = .ok (.aload_n 0, 1) := by decide +kernel
theorem dX8_countWithOneMore_85 : decode cX8_countWithOneMore 85 = .ok (.aload_n 1, 1) := by decide +kernel
theorem dX8_countWithOneMore_86 : decode cX8_countWithOneMore 86 = .ok (.putfield 36, 3) := by decide +kernel
theorem dX8_countWithOneMore_89 : decode cX8_countWithOneMore 89 = .ok (.return_, 1) := by decide +kernel
theorem dX8_leftOut_0 : decode cX8_leftOut 0 = .ok (.aload_n 0, 1) := by decide +kernel
theorem dX8_leftOut_1 : decode cX8_leftOut 1 = .ok (.invokevirtual 160, 3) := by decide +kernel
theorem dX8_leftOut_4 : decode cX8_leftOut 4 = .ok (.aload_n 0, 1) := by decide +kernel
theorem dX8_leftOut_5 : decode cX8_leftOut 5 = .ok (.getfield 51, 3) := by decide +kernel
theorem dX8_leftOut_8 : decode cX8_leftOut 8 = .ok (.invokevirtual 112, 3) := by decide +kernel
theorem dX8_leftOut_11 : decode cX8_leftOut 11 = .ok (.istore_n 1, 1) := by decide +kernel
theorem dX8_leftOut_12 : decode cX8_leftOut 12 = .ok (.iload_n 1, 1) := by decide +kernel
theorem dX8_leftOut_13 : decode cX8_leftOut 13 = .ok (.istore_n 2, 1) := by decide +kernel
theorem dX8_leftOut_14 : decode cX8_leftOut 14 = .ok (.iconst 0, 1) := by decide +kernel
theorem dX8_leftOut_15 : decode cX8_leftOut 15 = .ok (.istore_n 3, 1) := by decide +kernel
theorem dX8_leftOut_16 : decode cX8_leftOut 16 = .ok (.iload_n 3, 1) := by decide +kernel
theorem dX8_leftOut_17 : decode cX8_leftOut 17 = .ok (.iload_n 1, 1) := by decide +kernel
theorem dX8_leftOut_18 : decode cX8_leftOut 18 = .ok (.if_icmp .ge 31, 3) := by decide +kernel
theorem dX8_leftOut_21 : decode cX8_leftOut 21 = .ok (.aload_n 0, 1) := by decide +kernel
theorem dX8_leftOut_22 : decode cX8_leftOut 22 = .ok (.getfield 36, 3) := by decide +kernel
theorem dX8_leftOut_25 : decode cX8_leftOut 25 = .ok (.iload_n 1, 1) := by decide +kernel
theorem dX8_leftOut_26 : decode cX8_leftOut 26 = .ok (.iload_n 3, 1) := by decide +kernel
theorem dX8_leftOut_27 : decode cX8_leftOut 27 = .ok (.ixor, 1) := by decide +kernel
theorem dX8_leftOut_28 : decode cX8_leftOut 28 = .ok (.iaload, 1) := by decide +kernel
theorem dX8_leftOut_29 : decode cX8_leftOut 29 = .ok (.ifCond .le 14, 3) := by decide +kernel
theorem dX8_leftOut_32 : decode cX8_leftOut 32 = .ok (.aload_n 0, 1) := by decide +kernel
theorem dX8_leftOut_33 : decode cX8_leftOut 33 = .ok (.iload_n 3, 1) := by decide +kernel
theorem dX8_leftOut_34 : decode cX8_leftOut 34 = .ok (.iload_n 2, 1) := by decide +kernel
theorem dX8_leftOut_35 : decode cX8_leftOut 35 = .ok (.invokevirtual 163, 3) := by decide +kernel
theorem dX8_leftOut_38 : decode cX8_leftOut 38 = .ok (.ifCond .eq 5, 3) := by decide +kernel
theorem dX8_leftOut_41 : decode cX8_leftOut 41 = .ok (.iload_n 3, 1) := by decide +kernel
theorem dX8_leftOut_42 : decode cX8_leftOut 42 = .ok (.istore_n 2, 1) := by decide +kernel
theorem dX8_leftOut_43 : decode cX8_leftOut 43 = .ok (.iinc 3 1, 3) := by decide +kernel
theorem dX8_leftOut_46 : decode cX8_leftOut 46 = .ok (.goto (-30), 3) := by decide +kernel
theorem dX8_leftOut_49 : decode cX8_leftOut 49 = .ok (.iload_n 2, 1) := by decide +kernel
theorem dX8_leftOut_50 : decode cX8_leftOut 50 = .ok (.ireturn, 1) := by decide +kernel
theorem dX8_weighSets_0 : decode cX8_weighSets 0 = .ok (.aload_n 0, 1) := by decide +kernel
theorem dX8_weighSets_1 : decode cX8_weighSets 1 = .ok (.getfield 30, 3) := by decide +kernel
theorem dX8_weighSets_4 : decode cX8_weighSets 4 = .ok (.iconst 0, 1) := by decide +kernel
theorem dX8_weighSets_5 : decode cX8_weighSets 5 = .ok (.iconst 0, 1) := by decide +kernel
theorem dX8_weighSets_6 : decode cX8_weighSets 6 = .ok (.iastore, 1) := by decide +kernel
theorem dX8_weighSets_7 : decode cX8_weighSets 7 = .ok (.iconst 0, 1) := by decide +kernel
theorem dX8_weighSets_8 : decode cX8_weighSets 8 = .ok (.istore_n 1, 1) := by decide +kernel
theorem dX8_weighSets_9 : decode cX8_weighSets 9 = .ok (.iload_n 1, 1) := by decide +kernel
theorem dX8_weighSets_10 : decode cX8_weighSets 10 = .ok (.aload_n 0, 1) := by decide +kernel
theorem dX8_weighSets_11 : decode cX8_weighSets 11 = .ok (.getfield 51, 3) := by decide +kernel
theorem dX8_weighSets_14 : decode cX8_weighSets 14 = .ok (.getfield 64, 3) := by decide +kernel
theorem dX8_weighSets_17 : decode cX8_weighSets 17 = .ok (.if_icmp .ge 55, 3) := by decide +kernel
theorem dX8_weighSets_20 : decode cX8_weighSets 20 = .ok (.iconst 1, 1) := by decide +kernel
theorem dX8_weighSets_21 : decode cX8_weighSets 21 = .ok (.iload_n 1, 1) := by decide +kernel
theorem dX8_weighSets_22 : decode cX8_weighSets 22 = .ok (.ishl, 1) := by decide +kernel
theorem dX8_weighSets_23 : decode cX8_weighSets 23 = .ok (.istore_n 2, 1) := by decide +kernel
theorem dX8_weighSets_24 : decode cX8_weighSets 24 = .ok (.aload_n 0, 1) := by decide +kernel
theorem dX8_weighSets_25 : decode cX8_weighSets 25 = .ok (.getfield 51, 3) := by decide +kernel
theorem dX8_weighSets_28 : decode cX8_weighSets 28 = .ok (.iload_n 1, 1) := by decide +kernel
theorem dX8_weighSets_29 : decode cX8_weighSets 29 = .ok (.invokevirtual 105, 3) := by decide +kernel
theorem dX8_weighSets_32 : decode cX8_weighSets 32 = .ok (.istore_n 3, 1) := by decide +kernel
theorem dX8_weighSets_33 : decode cX8_weighSets 33 = .ok (.iconst 0, 1) := by decide +kernel
theorem dX8_weighSets_34 : decode cX8_weighSets 34 = .ok (.istore 4, 2) := by decide +kernel
theorem dX8_weighSets_36 : decode cX8_weighSets 36 = .ok (.iload 4, 2) := by decide +kernel
theorem dX8_weighSets_38 : decode cX8_weighSets 38 = .ok (.iload_n 2, 1) := by decide +kernel
theorem dX8_weighSets_39 : decode cX8_weighSets 39 = .ok (.if_icmp .ge 27, 3) := by decide +kernel
theorem dX8_weighSets_42 : decode cX8_weighSets 42 = .ok (.aload_n 0, 1) := by decide +kernel
theorem dX8_weighSets_43 : decode cX8_weighSets 43 = .ok (.getfield 30, 3) := by decide +kernel
theorem dX8_weighSets_46 : decode cX8_weighSets 46 = .ok (.iload 4, 2) := by decide +kernel
theorem dX8_weighSets_48 : decode cX8_weighSets 48 = .ok (.iload_n 2, 1) := by decide +kernel
theorem dX8_weighSets_49 : decode cX8_weighSets 49 = .ok (.ior, 1) := by decide +kernel
theorem dX8_weighSets_50 : decode cX8_weighSets 50 = .ok (.aload_n 0, 1) := by decide +kernel
theorem dX8_weighSets_51 : decode cX8_weighSets 51 = .ok (.getfield 30, 3) := by decide +kernel
theorem dX8_weighSets_54 : decode cX8_weighSets 54 = .ok (.iload 4, 2) := by decide +kernel
theorem dX8_weighSets_56 : decode cX8_weighSets 56 = .ok (.iaload, 1) := by decide +kernel
theorem dX8_weighSets_57 : decode cX8_weighSets 57 = .ok (.iload_n 3, 1) := by decide +kernel
theorem dX8_weighSets_58 : decode cX8_weighSets 58 = .ok (.iadd, 1) := by decide +kernel
theorem dX8_weighSets_59 : decode cX8_weighSets 59 = .ok (.iastore, 1) := by decide +kernel
theorem dX8_weighSets_60 : decode cX8_weighSets 60 = .ok (.iinc 4 1, 3) := by decide +kernel
theorem dX8_weighSets_63 : decode cX8_weighSets 63 = .ok (.goto (-27), 3) := by decide +kernel
theorem dX8_weighSets_66 : decode cX8_weighSets 66 = .ok (.iinc 1 1, 3) := by decide +kernel
theorem dX8_weighSets_69 : decode cX8_weighSets 69 = .ok (.goto (-60), 3) := by decide +kernel
theorem dX8_weighSets_72 : decode cX8_weighSets 72 = .ok (.return_, 1) := by decide +kernel
theorem dX8_isLess_0 : decode cX8_isLess 0 = .ok (.aload_n 0, 1) := by decide +kernel
theorem dX8_isLess_1 : decode cX8_isLess 1 = .ok (.getfield 30, 3) := by decide +kernel
theorem dX8_isLess_4 : decode cX8_isLess 4 = .ok (.iload_n 1, 1) := by decide +kernel
theorem dX8_isLess_5 : decode cX8_isLess 5 = .ok (.iaload, 1) := by decide +kernel
theorem dX8_isLess_6 : decode cX8_isLess 6 = .ok (.aload_n 0, 1) := by decide +kernel
theorem dX8_isLess_7 : decode cX8_isLess 7 = .ok (.getfield 30, 3) := by decide +kernel
theorem dX8_isLess_10 : decode cX8_isLess 10 = .ok (.iload_n 2, 1) := by decide +kernel
theorem dX8_isLess_11 : decode cX8_isLess 11 = .ok (.iaload, 1) := by decide +kernel
theorem dX8_isLess_12 : decode cX8_isLess 12 = .ok (.if_icmp .eq 24, 3) := by decide +kernel
theorem dX8_isLess_15 : decode cX8_isLess 15 = .ok (.aload_n 0, 1) := by decide +kernel
theorem dX8_isLess_16 : decode cX8_isLess 16 = .ok (.getfield 30, 3) := by decide +kernel
theorem dX8_isLess_19 : decode cX8_isLess 19 = .ok (.iload_n 1, 1) := by decide +kernel
theorem dX8_isLess_20 : decode cX8_isLess 20 = .ok (.iaload, 1) := by decide +kernel
theorem dX8_isLess_21 : decode cX8_isLess 21 = .ok (.aload_n 0, 1) := by decide +kernel
theorem dX8_isLess_22 : decode cX8_isLess 22 = .ok (.getfield 30, 3) := by decide +kernel
theorem dX8_isLess_25 : decode cX8_isLess 25 = .ok (.iload_n 2, 1) := by decide +kernel
theorem dX8_isLess_26 : decode cX8_isLess 26 = .ok (.iaload, 1) := by decide +kernel
theorem dX8_isLess_27 : decode cX8_isLess 27 = .ok (.if_icmp .ge 7, 3) := by decide +kernel
theorem dX8_isLess_30 : decode cX8_isLess 30 = .ok (.iconst 1, 1) := by decide +kernel
theorem dX8_isLess_31 : decode cX8_isLess 31 = .ok (.goto 4, 3) := by decide +kernel
theorem dX8_isLess_34 : decode cX8_isLess 34 = .ok (.iconst 0, 1) := by decide +kernel
theorem dX8_isLess_35 : decode cX8_isLess 35 = .ok (.ireturn, 1) := by decide +kernel
theorem dX8_isLess_36 : decode cX8_isLess 36 = .ok (.iload_n 1, 1) := by decide +kernel
theorem dX8_isLess_37 : decode cX8_isLess 37 = .ok (.invokestatic 166, 3) := by decide +kernel
theorem dX8_isLess_40 : decode cX8_isLess 40 = .ok (.iload_n 2, 1) := by decide +kernel
theorem dX8_isLess_41 : decode cX8_isLess 41 = .ok (.invokestatic 166, 3) := by decide +kernel
theorem dX8_isLess_44 : decode cX8_isLess 44 = .ok (.isub, 1) := by decide +kernel
theorem dX8_isLess_45 : decode cX8_isLess 45 = .ok (.istore_n 3, 1) := by decide +kernel
theorem dX8_isLess_46 : decode cX8_isLess 46 = .ok (.iload_n 3, 1) := by decide +kernel
theorem dX8_isLess_47 : decode cX8_isLess 47 = .ok (.ifCond .eq 15, 3) := by decide +kernel
theorem dX8_isLess_50 : decode cX8_isLess 50 = .ok (.iload_n 3, 1) := by decide +kernel
theorem dX8_isLess_51 : decode cX8_isLess 51 = .ok (.ifCond .ge 7, 3) := by decide +kernel
theorem dX8_isLess_54 : decode cX8_isLess 54 = .ok (.iconst 1, 1) := by decide +kernel
theorem dX8_isLess_55 : decode cX8_isLess 55 = .ok (.goto 17, 3) := by decide +kernel
theorem dX8_isLess_58 : decode cX8_isLess 58 = .ok (.iconst 0, 1) := by decide +kernel
theorem dX8_isLess_59 : decode cX8_isLess 59 = .ok (.goto 13, 3) := by decide +kernel
theorem dX8_isLess_62 : decode cX8_isLess 62 = .ok (.iload_n 1, 1) := by decide +kernel
theorem dX8_isLess_63 : decode cX8_isLess 63 = .ok (.iload_n 2, 1) := by decide +kernel
theorem dX8_isLess_64 : decode cX8_isLess 64 = .ok (.if_icmp .ge 7, 3) := by decide +kernel
theorem dX8_isLess_67 : decode cX8_isLess 67 = .ok (.iconst 1, 1) := by decide +kernel
theorem dX8_isLess_68 : decode cX8_isLess 68 = .ok (.goto 4, 3) := by decide +kernel
theorem dX8_isLess_71 : decode cX8_isLess 71 = .ok (.iconst 0, 1) := by decide +kernel
theorem dX8_isLess_72 : decode cX8_isLess 72 = .ok (.ireturn, 1) := by decide +kernel
theorem dX8_findShares_0 : decode cX8_findShares 0 = .ok (.aload_n 0, 1) := by decide +kernel
theorem dX8_findShares_1 : decode cX8_findShares 1 = .ok (.getfield 51, 3) := by decide +kernel
theorem dX8_findShares_4 : decode cX8_findShares 4 = .ok (.invokevirtual 112, 3) := by decide +kernel
theorem dX8_findShares_7 : decode cX8_findShares 7 = .ok (.istore_n 3, 1) := by decide +kernel
theorem dX8_findShares_8 : decode cX8_findShares 8 = .ok (.aload_n 0, 1) := by decide +kernel
theorem dX8_findShares_9 : decode cX8_findShares 9 = .ok (.iconst 0, 1) := by decide +kernel
theorem dX8_findShares_10 : decode cX8_findShares 10 = .ok (.putfield 45, 3) := by decide +kernel
theorem dX8_findShares_13 : decode cX8_findShares 13 = .ok (.iload_n 2, 1) := by decide +kernel
theorem dX8_findShares_14 : decode cX8_findShares 14 = .ok (.ifCond .ne 23, 3) := by decide +kernel
theorem dX8_findShares_17 : decode cX8_findShares 17 = .ok (.aload_n 0, 1) := by decide +kernel
theorem dX8_findShares_18 : decode cX8_findShares 18 = .ok (.iconst 0, 1) := by decide +kernel
theorem dX8_findShares_19 : decode cX8_findShares 19 = .ok (.putfield 48, 3) := by decide +kernel
theorem dX8_findShares_22 : decode cX8_findShares 22 = .ok (.aload_n 0, 1) := by decide +kernel
theorem dX8_findShares_23 : decode cX8_findShares 23 = .ok (.getfield 36, 3) := by decide +kernel
theorem dX8_findShares_26 : decode cX8_findShares 26 = .ok (.iload_n 3, 1) := by decide +kernel
theorem dX8_findShares_27 : decode cX8_findShares 27 = .ok (.iaload, 1) := by decide +kernel
theorem dX8_findShares_28 : decode cX8_findShares 28 = .ok (.ifCond .le 7, 3) := by decide +kernel
theorem dX8_findShares_31 : decode cX8_findShares 31 = .ok (.iconst 1, 1) := by decide +kernel
theorem dX8_findShares_32 : decode cX8_findShares 32 = .ok (.goto 4, 3) := by decide +kernel
theorem dX8_findShares_35 : decode cX8_findShares 35 = .ok (.iconst 0, 1) := by decide +kernel
theorem dX8_findShares_36 : decode cX8_findShares 36 = .ok (.ireturn, 1) := by decide +kernel
theorem dX8_findShares_37 : decode cX8_findShares 37 = .ok (.aload_n 0, 1) := by decide +kernel
theorem dX8_findShares_38 : decode cX8_findShares 38 = .ok (.iload_n 3, 1) := by decide +kernel
theorem dX8_findShares_39 : decode cX8_findShares 39 = .ok (.putfield 48, 3) := by decide +kernel
theorem dX8_findShares_42 : decode cX8_findShares 42 = .ok (.aload_n 0, 1) := by decide +kernel
theorem dX8_findShares_43 : decode cX8_findShares 43 = .ok (.iload_n 1, 1) := by decide +kernel
theorem dX8_findShares_44 : decode cX8_findShares 44 = .ok (.iconst 3, 1) := by decide +kernel
theorem dX8_findShares_45 : decode cX8_findShares 45 = .ok (.invokevirtual 85, 3) := by decide +kernel
theorem dX8_findShares_48 : decode cX8_findShares 48 = .ok (.aload_n 0, 1) := by decide +kernel
theorem dX8_findShares_49 : decode cX8_findShares 49 = .ok (.iload_n 1, 1) := by decide +kernel
theorem dX8_findShares_50 : decode cX8_findShares 50 = .ok (.invokevirtual 119, 3) := by decide +kernel
theorem dX8_findShares_53 : decode cX8_findShares 53 = .ok (.iconst 0, 1) := by decide +kernel
theorem dX8_findShares_54 : decode cX8_findShares 54 = .ok (.istore 4, 2) := by decide +kernel
theorem dX8_findShares_56 : decode cX8_findShares 56 = .ok (.iconst 0, 1) := by decide +kernel
theorem dX8_findShares_57 : decode cX8_findShares 57 = .ok (.istore 5, 2) := by decide +kernel
theorem dX8_findShares_59 : decode cX8_findShares 59 = .ok (.iload 5, 2) := by decide +kernel
theorem dX8_findShares_61 : decode cX8_findShares 61 = .ok (.iload_n 3, 1) := by decide +kernel
theorem dX8_findShares_62 : decode cX8_findShares 62 = .ok (.if_icmp .gt 58, 3) := by decide +kernel
theorem dX8_findShares_65 : decode cX8_findShares 65 = .ok (.aload_n 0, 1) := by decide +kernel
theorem dX8_findShares_66 : decode cX8_findShares 66 = .ok (.getfield 30, 3) := by decide +kernel
theorem dX8_findShares_69 : decode cX8_findShares 69 = .ok (.iload 5, 2) := by decide +kernel
theorem dX8_findShares_71 : decode cX8_findShares 71 = .ok (.iaload, 1) := by decide +kernel
theorem dX8_findShares_72 : decode cX8_findShares 72 = .ok (.ldc 97, 2) := by decide +kernel
theorem dX8_findShares_74 : decode cX8_findShares 74 = .ok (.if_icmp .ge 40, 3) := by decide +kernel
theorem dX8_findShares_77 : decode cX8_findShares 77 = .ok (.aload_n 0, 1) := by decide +kernel
theorem dX8_findShares_78 : decode cX8_findShares 78 = .ok (.getfield 36, 3) := by decide +kernel
theorem dX8_findShares_81 : decode cX8_findShares 81 = .ok (.iload_n 3, 1) := by decide +kernel
theorem dX8_findShares_82 : decode cX8_findShares 82 = .ok (.iload 5, 2) := by decide +kernel
theorem dX8_findShares_84 : decode cX8_findShares 84 = .ok (.ixor, 1) := by decide +kernel
theorem dX8_findShares_85 : decode cX8_findShares 85 = .ok (.iaload, 1) := by decide +kernel
theorem dX8_findShares_86 : decode cX8_findShares 86 = .ok (.ifCond .le 28, 3) := by decide +kernel
theorem dX8_findShares_89 : decode cX8_findShares 89 = .ok (.iconst 1, 1) := by decide +kernel
theorem dX8_findShares_90 : decode cX8_findShares 90 = .ok (.istore 4, 2) := by decide +kernel
theorem dX8_findShares_92 : decode cX8_findShares 92 = .ok (.aload_n 0, 1) := by decide +kernel
theorem dX8_findShares_93 : decode cX8_findShares 93 = .ok (.dup, 1) := by decide +kernel
theorem dX8_findShares_94 : decode cX8_findShares 94 = .ok (.getfield 45, 3) := by decide +kernel
theorem dX8_findShares_97 : decode cX8_findShares 97 = .ok (.iload 5, 2) := by decide +kernel
theorem dX8_findShares_99 : decode cX8_findShares 99 = .ok (.ior, 1) := by decide +kernel
theorem dX8_findShares_100 : decode cX8_findShares 100 = .ok (.putfield 45, 3) := by decide +kernel
theorem dX8_findShares_103 : decode cX8_findShares 103 = .ok (.aload_n 0, 1) := by decide +kernel
theorem dX8_findShares_104 : decode cX8_findShares 104 = .ok (.dup, 1) := by decide +kernel
theorem dX8_findShares_105 : decode cX8_findShares 105 = .ok (.getfield 48, 3) := by decide +kernel
theorem dX8_findShares_108 : decode cX8_findShares 108 = .ok (.iload 5, 2) := by decide +kernel
theorem dX8_findShares_110 : decode cX8_findShares 110 = .ok (.iand, 1) := by decide +kernel
theorem dX8_findShares_111 : decode cX8_findShares 111 = .ok (.putfield 48, 3) := by decide +kernel
theorem dX8_findShares_114 : decode cX8_findShares 114 = .ok (.iinc 5 1, 3) := by decide +kernel
theorem dX8_findShares_117 : decode cX8_findShares 117 = .ok (.goto (-58), 3) := by decide +kernel
theorem dX8_findShares_120 : decode cX8_findShares 120 = .ok (.iload 4, 2) := by decide +kernel
theorem dX8_findShares_122 : decode cX8_findShares 122 = .ok (.ireturn, 1) := by decide +kernel
theorem dX9_init_0 : decode cX9_init 0 = .ok (.aload_n 0, 1) := by decide +kernel
theorem dX9_init_1 : decode cX9_init 1 = .ok (.iload_n 1, 1) := by decide +kernel
theorem dX9_init_2 : decode cX9_init 2 = .ok (.iload_n 2, 1) := by decide +kernel
theorem dX9_init_3 : decode cX9_init 3 = .ok (.iload_n 3, 1) := by decide +kernel
theorem dX9_init_4 : decode cX9_init 4 = .ok (.invokespecial 1, 3) := by decide +kernel
theorem dX9_init_7 : decode cX9_init 7 = .ok (.return_, 1) := by decide +kernel
theorem dX9_walk_0 : decode cX9_walk 0 = .ok (.aload_n 2, 1) := by decide +kernel
theorem dX9_walk_1 : decode cX9_walk 1 = .ok (.bipush 20, 2) := by decide +kernel
theorem dX9_walk_3 : decode cX9_walk 3 = .ok (.invokevirtual 7, 3) := by decide +kernel
theorem dX9_walk_6 : decode cX9_walk 6 = .ok (.aload_n 0, 1) := by decide +kernel
theorem dX9_walk_7 : decode cX9_walk 7 = .ok (.iload_n 1, 1) := by decide +kernel
theorem dX9_walk_8 : decode cX9_walk 8 = .ok (.aload_n 2, 1) := by decide +kernel
theorem dX9_walk_9 : decode cX9_walk 9 = .ok (.invokespecial 13, 3) := by decide +kernel
theorem dX9_walk_12 : decode cX9_walk 12 = .ok (.aload_n 0, 1) := by decide +kernel
theorem dX9_walk_13 : decode cX9_walk 13 = .ok (.iload_n 1, 1) := by decide +kernel
theorem dX9_walk_14 : decode cX9_walk 14 = .ok (.aload_n 2, 1) := by decide +kernel
theorem dX9_walk_15 : decode cX9_walk 15 = .ok (.invokevirtual 17, 3) := by decide +kernel
theorem dX9_walk_18 : decode cX9_walk 18 = .ok (.iadd, 1) := by decide +kernel
theorem dX9_walk_19 : decode cX9_walk 19 = .ok (.ireturn, 1) := by decide +kernel
theorem dX10_init_0 : decode cX10_init 0 = .ok (.aload_n 0, 1) := by decide +kernel
theorem dX10_init_1 : decode cX10_init 1 = .ok (.invokespecial 3, 3) := by decide +kernel
theorem dX10_init_4 : decode cX10_init 4 = .ok (.aload_n 0, 1) := by decide +kernel
theorem dX10_init_5 : decode cX10_init 5 = .ok (.bipush 26, 2) := by decide +kernel
theorem dX10_init_7 : decode cX10_init 7 = .ok (.newarray .int, 2) := by decide +kernel
theorem dX10_init_9 : decode cX10_init 9 = .ok (.putfield 9, 3) := by decide +kernel
theorem dX10_init_12 : decode cX10_init 12 = .ok (.aload_n 0, 1) := by decide +kernel
theorem dX10_init_13 : decode cX10_init 13 = .ok (.bipush 50, 2) := by decide +kernel
theorem dX10_init_15 : decode cX10_init 15 = .ok (.newarray .int, 2) := by decide +kernel
theorem dX10_init_17 : decode cX10_init 17 = .ok (.putfield 15, 3) := by decide +kernel
theorem dX10_init_20 : decode cX10_init 20 = .ok (.aload_n 0, 1) := by decide +kernel
theorem dX10_init_21 : decode cX10_init 21 = .ok (.bipush 10, 2) := by decide +kernel
theorem dX10_init_23 : decode cX10_init 23 = .ok (.newarray .int, 2) := by decide +kernel
theorem dX10_init_25 : decode cX10_init 25 = .ok (.putfield 18, 3) := by decide +kernel
theorem dX10_init_28 : decode cX10_init 28 = .ok (.aload_n 0, 1) := by decide +kernel
theorem dX10_init_29 : decode cX10_init 29 = .ok (.iconst 0, 1) := by decide +kernel
theorem dX10_init_30 : decode cX10_init 30 = .ok (.putfield 21, 3) := by decide +kernel
theorem dX10_init_33 : decode cX10_init 33 = .ok (.aload_n 0, 1) := by decide +kernel
theorem dX10_init_34 : decode cX10_init 34 = .ok (.iconst 0, 1) := by decide +kernel
theorem dX10_init_35 : decode cX10_init 35 = .ok (.putfield 25, 3) := by decide +kernel
theorem dX10_init_38 : decode cX10_init 38 = .ok (.aload_n 0, 1) := by decide +kernel
theorem dX10_init_39 : decode cX10_init 39 = .ok (.iconst 0, 1) := by decide +kernel
theorem dX10_init_40 : decode cX10_init 40 = .ok (.putfield 28, 3) := by decide +kernel
theorem dX10_init_43 : decode cX10_init 43 = .ok (.aload_n 0, 1) := by decide +kernel
theorem dX10_init_44 : decode cX10_init 44 = .ok (.aload_n 1, 1) := by decide +kernel
theorem dX10_init_45 : decode cX10_init 45 = .ok (.putfield 31, 3) := by decide +kernel
theorem dX10_init_48 : decode cX10_init 48 = .ok (.return_, 1) := by decide +kernel
theorem dX10_isAble_0 : decode cX10_isAble 0 = .ok (.aload_n 0, 1) := by decide +kernel
theorem dX10_isAble_1 : decode cX10_isAble 1 = .ok (.getfield 31, 3) := by decide +kernel
theorem dX10_isAble_4 : decode cX10_isAble 4 = .ok (.getfield 35, 3) := by decide +kernel
theorem dX10_isAble_7 : decode cX10_isAble 7 = .ok (.iconst 0, 1) := by decide +kernel
theorem dX10_isAble_8 : decode cX10_isAble 8 = .ok (.aaload, 1) := by decide +kernel
theorem dX10_isAble_9 : decode cX10_isAble 9 = .ok (.astore_n 3, 1) := by decide +kernel
theorem dX10_isAble_10 : decode cX10_isAble 10 = .ok (.aload_n 3, 1) := by decide +kernel
theorem dX10_isAble_11 : decode cX10_isAble 11 = .ok (.getfield 41, 3) := by decide +kernel
theorem dX10_isAble_14 : decode cX10_isAble 14 = .ok (.ifCond .ne 33, 3) := by decide +kernel
theorem dX10_isAble_17 : decode cX10_isAble 17 = .ok (.aload_n 0, 1) := by decide +kernel
theorem dX10_isAble_18 : decode cX10_isAble 18 = .ok (.getfield 31, 3) := by decide +kernel
theorem dX10_isAble_21 : decode cX10_isAble 21 = .ok (.getfield 46, 3) := by decide +kernel
theorem dX10_isAble_24 : decode cX10_isAble 24 = .ok (.iload_n 1, 1) := by decide +kernel
theorem dX10_isAble_25 : decode cX10_isAble 25 = .ok (.iaload, 1) := by decide +kernel
theorem dX10_isAble_26 : decode cX10_isAble 26 = .ok (.aload_n 0, 1) := by decide +kernel
theorem dX10_isAble_27 : decode cX10_isAble 27 = .ok (.getfield 31, 3) := by decide +kernel
theorem dX10_isAble_30 : decode cX10_isAble 30 = .ok (.getfield 49, 3) := by decide +kernel
theorem dX10_isAble_33 : decode cX10_isAble 33 = .ok (.iload_n 2, 1) := by decide +kernel
theorem dX10_isAble_34 : decode cX10_isAble 34 = .ok (.aaload, 1) := by decide +kernel
theorem dX10_isAble_35 : decode cX10_isAble 35 = .ok (.getfield 53, 3) := by decide +kernel
theorem dX10_isAble_38 : decode cX10_isAble 38 = .ok (.if_icmp .lt 7, 3) := by decide +kernel
theorem dX10_isAble_41 : decode cX10_isAble 41 = .ok (.iconst 1, 1) := by decide +kernel
theorem dX10_isAble_42 : decode cX10_isAble 42 = .ok (.goto 4, 3) := by decide +kernel
theorem dX10_isAble_45 : decode cX10_isAble 45 = .ok (.iconst 0, 1) := by decide +kernel
theorem dX10_isAble_46 : decode cX10_isAble 46 = .ok (.ireturn, 1) := by decide +kernel
theorem dX10_isAble_47 : decode cX10_isAble 47 = .ok (.aload_n 0, 1) := by decide +kernel
theorem dX10_isAble_48 : decode cX10_isAble 48 = .ok (.iload_n 1, 1) := by decide +kernel
theorem dX10_isAble_49 : decode cX10_isAble 49 = .ok (.iload_n 2, 1) := by decide +kernel
theorem dX10_isAble_50 : decode cX10_isAble 50 = .ok (.invokevirtual 58, 3) := by decide +kernel
theorem dX10_isAble_53 : decode cX10_isAble 53 = .ok (.aload_n 0, 1) := by decide +kernel
theorem dX10_isAble_54 : decode cX10_isAble 54 = .ok (.aload_n 3, 1) := by decide +kernel
theorem dX10_isAble_55 : decode cX10_isAble 55 = .ok (.invokevirtual 62, 3) := by decide +kernel
theorem dX10_isAble_58 : decode cX10_isAble 58 = .ok (.ifCond .eq 7, 3) := by decide +kernel
theorem dX10_isAble_61 : decode cX10_isAble 61 = .ok (.iconst 1, 1) := by decide +kernel
theorem dX10_isAble_62 : decode cX10_isAble 62 = .ok (.goto 4, 3) := by decide +kernel
theorem dX10_isAble_65 : decode cX10_isAble 65 = .ok (.iconst 0, 1) := by decide +kernel
theorem dX10_isAble_66 : decode cX10_isAble 66 = .ok (.ireturn, 1) := by decide +kernel
theorem dX10_wishOf_0 : decode cX10_wishOf 0 = .ok (.aload_n 0, 1) := by decide +kernel
theorem dX10_wishOf_1 : decode cX10_wishOf 1 = .ok (.getfield 31, 3) := by decide +kernel
theorem dX10_wishOf_4 : decode cX10_wishOf 4 = .ok (.getfield 35, 3) := by decide +kernel
theorem dX10_wishOf_7 : decode cX10_wishOf 7 = .ok (.iconst 2, 1) := by decide +kernel
