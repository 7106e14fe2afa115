theorem dX10_wishOf_8 : decode cX10_wishOf 8 = .ok (.aaload, 1) := by decide +kernel
theorem dX10_wishOf_9 : decode cX10_wishOf 9 = .ok (.astore_n 3, 1) := by decide +kernel
theorem dX10_wishOf_10 : decode cX10_wishOf 10 = .ok (.aload_n 3, 1) := by decide +kernel
theorem dX10_wishOf_11 : decode cX10_wishOf 11 = .ok (.getfield 41, 3) := by decide +kernel
theorem dX10_wishOf_14 : decode cX10_wishOf 14 = .ok (.ifCond .ne 13, 3) := by decide +kernel
theorem dX10_wishOf_17 : decode cX10_wishOf 17 = .ok (.aload_n 0, 1) := by decide +kernel
theorem dX10_wishOf_18 : decode cX10_wishOf 18 = .ok (.getfield 31, 3) := by decide +kernel
theorem dX10_wishOf_21 : decode cX10_wishOf 21 = .ok (.getfield 46, 3) := by decide +kernel
theorem dX10_wishOf_24 : decode cX10_wishOf 24 = .ok (.iload_n 1, 1) := by decide +kernel
theorem dX10_wishOf_25 : decode cX10_wishOf 25 = .ok (.iaload, 1) := by decide +kernel
theorem dX10_wishOf_26 : decode cX10_wishOf 26 = .ok (.ireturn, 1) := by decide +kernel
theorem dX10_wishOf_27 : decode cX10_wishOf 27 = .ok (.aload_n 0, 1) := by decide +kernel
theorem dX10_wishOf_28 : decode cX10_wishOf 28 = .ok (.iload_n 1, 1) := by decide +kernel
theorem dX10_wishOf_29 : decode cX10_wishOf 29 = .ok (.iload_n 2, 1) := by decide +kernel
theorem dX10_wishOf_30 : decode cX10_wishOf 30 = .ok (.invokevirtual 58, 3) := by decide +kernel
theorem dX10_wishOf_33 : decode cX10_wishOf 33 = .ok (.aload_n 0, 1) := by decide +kernel
theorem dX10_wishOf_34 : decode cX10_wishOf 34 = .ok (.bipush 108, 2) := by decide +kernel
theorem dX10_wishOf_36 : decode cX10_wishOf 36 = .ok (.aload_n 0, 1) := by decide +kernel
theorem dX10_wishOf_37 : decode cX10_wishOf 37 = .ok (.getfield 31, 3) := by decide +kernel
theorem dX10_wishOf_40 : decode cX10_wishOf 40 = .ok (.iload_n 2, 1) := by decide +kernel
theorem dX10_wishOf_41 : decode cX10_wishOf 41 = .ok (.invokevirtual 66, 3) := by decide +kernel
theorem dX10_wishOf_44 : decode cX10_wishOf 44 = .ok (.invokevirtual 70, 3) := by decide +kernel
theorem dX10_wishOf_47 : decode cX10_wishOf 47 = .ok (.aload_n 0, 1) := by decide +kernel
theorem dX10_wishOf_48 : decode cX10_wishOf 48 = .ok (.aload_n 3, 1) := by decide +kernel
theorem dX10_wishOf_49 : decode cX10_wishOf 49 = .ok (.invokevirtual 62, 3) := by decide +kernel
theorem dX10_wishOf_52 : decode cX10_wishOf 52 = .ok (.sipush 999, 3) := by decide +kernel
theorem dX10_wishOf_55 : decode cX10_wishOf 55 = .ok (.invokestatic 74, 3) := by decide +kernel
theorem dX10_wishOf_58 : decode cX10_wishOf 58 = .ok (.ireturn, 1) := by decide +kernel
theorem dX10_changeOf_0 : decode cX10_changeOf 0 = .ok (.aload_n 0, 1) := by decide +kernel
theorem dX10_changeOf_1 : decode cX10_changeOf 1 = .ok (.getfield 31, 3) := by decide +kernel
theorem dX10_changeOf_4 : decode cX10_changeOf 4 = .ok (.getfield 35, 3) := by decide +kernel
theorem dX10_changeOf_7 : decode cX10_changeOf 7 = .ok (.iconst 1, 1) := by decide +kernel
theorem dX10_changeOf_8 : decode cX10_changeOf 8 = .ok (.aaload, 1) := by decide +kernel
theorem dX10_changeOf_9 : decode cX10_changeOf 9 = .ok (.astore 4, 2) := by decide +kernel
theorem dX10_changeOf_11 : decode cX10_changeOf 11 = .ok (.aload_n 0, 1) := by decide +kernel
theorem dX10_changeOf_12 : decode cX10_changeOf 12 = .ok (.getfield 31, 3) := by decide +kernel
theorem dX10_changeOf_15 : decode cX10_changeOf 15 = .ok (.getfield 49, 3) := by decide +kernel
theorem dX10_changeOf_18 : decode cX10_changeOf 18 = .ok (.iload_n 1, 1) := by decide +kernel
theorem dX10_changeOf_19 : decode cX10_changeOf 19 = .ok (.aaload, 1) := by decide +kernel
theorem dX10_changeOf_20 : decode cX10_changeOf 20 = .ok (.astore 5, 2) := by decide +kernel
theorem dX10_changeOf_22 : decode cX10_changeOf 22 = .ok (.aload_n 0, 1) := by decide +kernel
theorem dX10_changeOf_23 : decode cX10_changeOf 23 = .ok (.getfield 31, 3) := by decide +kernel
theorem dX10_changeOf_26 : decode cX10_changeOf 26 = .ok (.getfield 49, 3) := by decide +kernel
theorem dX10_changeOf_29 : decode cX10_changeOf 29 = .ok (.iload_n 2, 1) := by decide +kernel
theorem dX10_changeOf_30 : decode cX10_changeOf 30 = .ok (.aaload, 1) := by decide +kernel
theorem dX10_changeOf_31 : decode cX10_changeOf 31 = .ok (.astore 6, 2) := by decide +kernel
theorem dX10_changeOf_33 : decode cX10_changeOf 33 = .ok (.aload 4, 2) := by decide +kernel
theorem dX10_changeOf_35 : decode cX10_changeOf 35 = .ok (.getfield 41, 3) := by decide +kernel
theorem dX10_changeOf_38 : decode cX10_changeOf 38 = .ok (.ifCond .ne 20, 3) := by decide +kernel
theorem dX10_changeOf_41 : decode cX10_changeOf 41 = .ok (.iconst 2, 1) := by decide +kernel
theorem dX10_changeOf_42 : decode cX10_changeOf 42 = .ok (.aload 5, 2) := by decide +kernel
theorem dX10_changeOf_44 : decode cX10_changeOf 44 = .ok (.getfield 78, 3) := by decide +kernel
theorem dX10_changeOf_47 : decode cX10_changeOf 47 = .ok (.aload 6, 2) := by decide +kernel
theorem dX10_changeOf_49 : decode cX10_changeOf 49 = .ok (.getfield 78, 3) := by decide +kernel
theorem dX10_changeOf_52 : decode cX10_changeOf 52 = .ok (.isub, 1) := by decide +kernel
theorem dX10_changeOf_53 : decode cX10_changeOf 53 = .ok (.invokestatic 81, 3) := by decide +kernel
theorem dX10_changeOf_56 : decode cX10_changeOf 56 = .ok (.iadd, 1) := by decide +kernel
theorem dX10_changeOf_57 : decode cX10_changeOf 57 = .ok (.ireturn, 1) := by decide +kernel
theorem dX10_changeOf_58 : decode cX10_changeOf 58 = .ok (.aload_n 0, 1) := by decide +kernel
theorem dX10_changeOf_59 : decode cX10_changeOf 59 = .ok (.bipush 119, 2) := by decide +kernel
theorem dX10_changeOf_61 : decode cX10_changeOf 61 = .ok (.aload 5, 2) := by decide +kernel
theorem dX10_changeOf_63 : decode cX10_changeOf 63 = .ok (.getfield 78, 3) := by decide +kernel
theorem dX10_changeOf_66 : decode cX10_changeOf 66 = .ok (.invokevirtual 70, 3) := by decide +kernel
theorem dX10_changeOf_69 : decode cX10_changeOf 69 = .ok (.aload_n 0, 1) := by decide +kernel
theorem dX10_changeOf_70 : decode cX10_changeOf 70 = .ok (.bipush 118, 2) := by decide +kernel
theorem dX10_changeOf_72 : decode cX10_changeOf 72 = .ok (.aload 6, 2) := by decide +kernel
theorem dX10_changeOf_74 : decode cX10_changeOf 74 = .ok (.getfield 78, 3) := by decide +kernel
theorem dX10_changeOf_77 : decode cX10_changeOf 77 = .ok (.invokevirtual 70, 3) := by decide +kernel
theorem dX10_changeOf_80 : decode cX10_changeOf 80 = .ok (.aload_n 0, 1) := by decide +kernel
theorem dX10_changeOf_81 : decode cX10_changeOf 81 = .ok (.bipush 107, 2) := by decide +kernel
theorem dX10_changeOf_83 : decode cX10_changeOf 83 = .ok (.aload 5, 2) := by decide +kernel
theorem dX10_changeOf_85 : decode cX10_changeOf 85 = .ok (.getfield 86, 3) := by decide +kernel
theorem dX10_changeOf_88 : decode cX10_changeOf 88 = .ok (.invokevirtual 70, 3) := by decide +kernel
theorem dX10_changeOf_91 : decode cX10_changeOf 91 = .ok (.aload_n 0, 1) := by decide +kernel
theorem dX10_changeOf_92 : decode cX10_changeOf 92 = .ok (.bipush 113, 2) := by decide +kernel
theorem dX10_changeOf_94 : decode cX10_changeOf 94 = .ok (.aload 6, 2) := by decide +kernel
theorem dX10_changeOf_96 : decode cX10_changeOf 96 = .ok (.getfield 86, 3) := by decide +kernel
theorem dX10_changeOf_99 : decode cX10_changeOf 99 = .ok (.invokevirtual 70, 3) := by decide +kernel
theorem dX10_changeOf_102 : decode cX10_changeOf 102 = .ok (.aload_n 0, 1) := by decide +kernel
theorem dX10_changeOf_103 : decode cX10_changeOf 103 = .ok (.bipush 115, 2) := by decide +kernel
theorem dX10_changeOf_105 : decode cX10_changeOf 105 = .ok (.iload_n 3, 1) := by decide +kernel
theorem dX10_changeOf_106 : decode cX10_changeOf 106 = .ok (.invokevirtual 70, 3) := by decide +kernel
theorem dX10_changeOf_109 : decode cX10_changeOf 109 = .ok (.aload_n 0, 1) := by decide +kernel
theorem dX10_changeOf_110 : decode cX10_changeOf 110 = .ok (.aload 4, 2) := by decide +kernel
theorem dX10_changeOf_112 : decode cX10_changeOf 112 = .ok (.invokevirtual 62, 3) := by decide +kernel
theorem dX10_changeOf_115 : decode cX10_changeOf 115 = .ok (.bipush 99, 2) := by decide +kernel
theorem dX10_changeOf_117 : decode cX10_changeOf 117 = .ok (.invokestatic 74, 3) := by decide +kernel
theorem dX10_changeOf_120 : decode cX10_changeOf 120 = .ok (.ireturn, 1) := by decide +kernel
theorem dX10_namePlayerAndPart_0 : decode cX10_namePlayerAndPart 0 = .ok (.aload_n 0, 1) := by decide +kernel
theorem dX10_namePlayerAndPart_1 : decode cX10_namePlayerAndPart 1 = .ok (.getfield 31, 3) := by decide +kernel
theorem dX10_namePlayerAndPart_4 : decode cX10_namePlayerAndPart 4 = .ok (.getfield 49, 3) := by decide +kernel
theorem dX10_namePlayerAndPart_7 : decode cX10_namePlayerAndPart 7 = .ok (.iload_n 2, 1) := by decide +kernel
theorem dX10_namePlayerAndPart_8 : decode cX10_namePlayerAndPart 8 = .ok (.aaload, 1) := by decide +kernel
theorem dX10_namePlayerAndPart_9 : decode cX10_namePlayerAndPart 9 = .ok (.astore_n 3, 1) := by decide +kernel
theorem dX10_namePlayerAndPart_10 : decode cX10_namePlayerAndPart 10 = .ok (.aload_n 0, 1) := by decide +kernel
theorem dX10_namePlayerAndPart_11 : decode cX10_namePlayerAndPart 11 = .ok (.bipush 103, 2) := by decide +kernel
theorem dX10_namePlayerAndPart_13 : decode cX10_namePlayerAndPart 13 = .ok (.aload_n 0, 1) := by decide +kernel
theorem dX10_namePlayerAndPart_14 : decode cX10_namePlayerAndPart 14 = .ok (.getfield 31, 3) := by decide +kernel
theorem dX10_namePlayerAndPart_17 : decode cX10_namePlayerAndPart 17 = .ok (.getfield 46, 3) := by decide +kernel
theorem dX10_namePlayerAndPart_20 : decode cX10_namePlayerAndPart 20 = .ok (.iload_n 1, 1) := by decide +kernel
theorem dX10_namePlayerAndPart_21 : decode cX10_namePlayerAndPart 21 = .ok (.iaload, 1) := by decide +kernel
theorem dX10_namePlayerAndPart_22 : decode cX10_namePlayerAndPart 22 = .ok (.invokevirtual 70, 3) := by decide +kernel
theorem dX10_namePlayerAndPart_25 : decode cX10_namePlayerAndPart 25 = .ok (.aload_n 0, 1) := by decide +kernel
theorem dX10_namePlayerAndPart_26 : decode cX10_namePlayerAndPart 26 = .ok (.bipush 97, 2) := by decide +kernel
theorem dX10_namePlayerAndPart_28 : decode cX10_namePlayerAndPart 28 = .ok (.aload_n 0, 1) := by decide +kernel
theorem dX10_namePlayerAndPart_29 : decode cX10_namePlayerAndPart 29 = .ok (.getfield 31, 3) := by decide +kernel
theorem dX10_namePlayerAndPart_32 : decode cX10_namePlayerAndPart 32 = .ok (.getfield 89, 3) := by decide +kernel
theorem dX10_namePlayerAndPart_35 : decode cX10_namePlayerAndPart 35 = .ok (.iload_n 1, 1) := by decide +kernel
theorem dX10_namePlayerAndPart_36 : decode cX10_namePlayerAndPart 36 = .ok (.iaload, 1) := by decide +kernel
theorem dX10_namePlayerAndPart_37 : decode cX10_namePlayerAndPart 37 = .ok (.invokevirtual 70, 3) := by decide +kernel
theorem dX10_namePlayerAndPart_40 : decode cX10_namePlayerAndPart 40 = .ok (.aload_n 0, 1) := by decide +kernel
theorem dX10_namePlayerAndPart_41 : decode cX10_namePlayerAndPart 41 = .ok (.bipush 110, 2) := by decide +kernel
theorem dX10_namePlayerAndPart_43 : decode cX10_namePlayerAndPart 43 = .ok (.aload_n 3, 1) := by decide +kernel
theorem dX10_namePlayerAndPart_44 : decode cX10_namePlayerAndPart 44 = .ok (.getfield 53, 3) := by decide +kernel
theorem dX10_namePlayerAndPart_47 : decode cX10_namePlayerAndPart 47 = .ok (.invokevirtual 70, 3) := by decide +kernel
theorem dX10_namePlayerAndPart_50 : decode cX10_namePlayerAndPart 50 = .ok (.aload_n 0, 1) := by decide +kernel
theorem dX10_namePlayerAndPart_51 : decode cX10_namePlayerAndPart 51 = .ok (.bipush 121, 2) := by decide +kernel
theorem dX10_namePlayerAndPart_53 : decode cX10_namePlayerAndPart 53 = .ok (.aload_n 3, 1) := by decide +kernel
theorem dX10_namePlayerAndPart_54 : decode cX10_namePlayerAndPart 54 = .ok (.getfield 92, 3) := by decide +kernel
theorem dX10_namePlayerAndPart_57 : decode cX10_namePlayerAndPart 57 = .ok (.invokevirtual 70, 3) := by decide +kernel
theorem dX10_namePlayerAndPart_60 : decode cX10_namePlayerAndPart 60 = .ok (.aload_n 0, 1) := by decide +kernel
theorem dX10_namePlayerAndPart_61 : decode cX10_namePlayerAndPart 61 = .ok (.bipush 107, 2) := by decide +kernel
theorem dX10_namePlayerAndPart_63 : decode cX10_namePlayerAndPart 63 = .ok (.aload_n 3, 1) := by decide +kernel
theorem dX10_namePlayerAndPart_64 : decode cX10_namePlayerAndPart 64 = .ok (.getfield 86, 3) := by decide +kernel
theorem dX10_namePlayerAndPart_67 : decode cX10_namePlayerAndPart 67 = .ok (.invokevirtual 70, 3) := by decide +kernel
theorem dX10_namePlayerAndPart_70 : decode cX10_namePlayerAndPart 70 = .ok (.return_, 1) := by decide +kernel
theorem dX10_name_0 : decode cX10_name 0 = .ok (.aload_n 0, 1) := by decide +kernel
theorem dX10_name_1 : decode cX10_name 1 = .ok (.getfield 9, 3) := by decide +kernel
theorem dX10_name_4 : decode cX10_name 4 = .ok (.iload_n 1, 1) := by decide +kernel
theorem dX10_name_5 : decode cX10_name 5 = .ok (.bipush 97, 2) := by decide +kernel
theorem dX10_name_7 : decode cX10_name 7 = .ok (.isub, 1) := by decide +kernel
theorem dX10_name_8 : decode cX10_name 8 = .ok (.iload_n 2, 1) := by decide +kernel
theorem dX10_name_9 : decode cX10_name 9 = .ok (.iastore, 1) := by decide +kernel
theorem dX10_name_10 : decode cX10_name 10 = .ok (.return_, 1) := by decide +kernel
theorem dX10_held_0 : decode cX10_held 0 = .ok (.iconst 0, 1) := by decide +kernel
theorem dX10_held_1 : decode cX10_held 1 = .ok (.iload_n 1, 1) := by decide +kernel
theorem dX10_held_2 : decode cX10_held 2 = .ok (.iload_n 0, 1) := by decide +kernel
theorem dX10_held_3 : decode cX10_held 3 = .ok (.invokestatic 94, 3) := by decide +kernel
theorem dX10_held_6 : decode cX10_held 6 = .ok (.invokestatic 97, 3) := by decide +kernel
theorem dX10_held_9 : decode cX10_held 9 = .ok (.ireturn, 1) := by decide +kernel
theorem dX10_worthOf_0 : decode cX10_worthOf 0 = .ok (.iconst 0, 1) := by decide +kernel
theorem dX10_worthOf_1 : decode cX10_worthOf 1 = .ok (.istore_n 2, 1) := by decide +kernel
theorem dX10_worthOf_2 : decode cX10_worthOf 2 = .ok (.iconst 0, 1) := by decide +kernel
theorem dX10_worthOf_3 : decode cX10_worthOf 3 = .ok (.istore_n 3, 1) := by decide +kernel
theorem dX10_worthOf_4 : decode cX10_worthOf 4 = .ok (.iload_n 3, 1) := by decide +kernel
theorem dX10_worthOf_5 : decode cX10_worthOf 5 = .ok (.aload_n 1, 1) := by decide +kernel
theorem dX10_worthOf_6 : decode cX10_worthOf 6 = .ok (.getfield 41, 3) := by decide +kernel
theorem dX10_worthOf_9 : decode cX10_worthOf 9 = .ok (.if_icmp .ge 153, 3) := by decide +kernel
theorem dX10_worthOf_12 : decode cX10_worthOf 12 = .ok (.aload_n 1, 1) := by decide +kernel
theorem dX10_worthOf_13 : decode cX10_worthOf 13 = .ok (.getfield 100, 3) := by decide +kernel
theorem dX10_worthOf_16 : decode cX10_worthOf 16 = .ok (.iload_n 3, 1) := by decide +kernel
theorem dX10_worthOf_17 : decode cX10_worthOf 17 = .ok (.iaload, 1) := by decide +kernel
theorem dX10_worthOf_18 : decode cX10_worthOf 18 = .ok (.istore 4, 2) := by decide +kernel
theorem dX10_worthOf_20 : decode cX10_worthOf 20 = .ok (.iload 4, 2) := by decide +kernel
theorem dX10_worthOf_22 : decode cX10_worthOf 22 = .ok (.sipush 256, 3) := by decide +kernel
theorem dX10_worthOf_25 : decode cX10_worthOf 25 = .ok (.if_icmp .lt 21, 3) := by decide +kernel
theorem dX10_worthOf_28 : decode cX10_worthOf 28 = .ok (.aload_n 0, 1) := by decide +kernel
theorem dX10_worthOf_29 : decode cX10_worthOf 29 = .ok (.getfield 15, 3) := by decide +kernel
theorem dX10_worthOf_32 : decode cX10_worthOf 32 = .ok (.iload_n 2, 1) := by decide +kernel
theorem dX10_worthOf_33 : decode cX10_worthOf 33 = .ok (.iload 4, 2) := by decide +kernel
theorem dX10_worthOf_35 : decode cX10_worthOf 35 = .ok (.sipush 256, 3) := by decide +kernel
theorem dX10_worthOf_38 : decode cX10_worthOf 38 = .ok (.isub, 1) := by decide +kernel
theorem dX10_worthOf_39 : decode cX10_worthOf 39 = .ok (.iastore, 1) := by decide +kernel
theorem dX10_worthOf_40 : decode cX10_worthOf 40 = .ok (.iinc 2 1, 3) := by decide +kernel
theorem dX10_worthOf_43 : decode cX10_worthOf 43 = .ok (.goto 113, 3) := by decide +kernel
theorem dX10_worthOf_46 : decode cX10_worthOf 46 = .ok (.iload 4, 2) := by decide +kernel
theorem dX10_worthOf_48 : decode cX10_worthOf 48 = .ok (.bipush 97, 2) := by decide +kernel
theorem dX10_worthOf_50 : decode cX10_worthOf 50 = .ok (.if_icmp .lt 32, 3) := by decide +kernel
theorem dX10_worthOf_53 : decode cX10_worthOf 53 = .ok (.iload 4, 2) := by decide +kernel
theorem dX10_worthOf_55 : decode cX10_worthOf 55 = .ok (.bipush 122, 2) := by decide +kernel
theorem dX10_worthOf_57 : decode cX10_worthOf 57 = .ok (.if_icmp .gt 25, 3) := by decide +kernel
theorem dX10_worthOf_60 : decode cX10_worthOf 60 = .ok (.aload_n 0, 1) := by decide +kernel
theorem dX10_worthOf_61 : decode cX10_worthOf 61 = .ok (.getfield 15, 3) := by decide +kernel
theorem dX10_worthOf_64 : decode cX10_worthOf 64 = .ok (.iload_n 2, 1) := by decide +kernel
theorem dX10_worthOf_65 : decode cX10_worthOf 65 = .ok (.aload_n 0, 1) := by decide +kernel
theorem dX10_worthOf_66 : decode cX10_worthOf 66 = .ok (.getfield 9, 3) := by decide +kernel
theorem dX10_worthOf_69 : decode cX10_worthOf 69 = .ok (.iload 4, 2) := by decide +kernel
theorem dX10_worthOf_71 : decode cX10_worthOf 71 = .ok (.bipush 97, 2) := by decide +kernel
theorem dX10_worthOf_73 : decode cX10_worthOf 73 = .ok (.isub, 1) := by decide +kernel
theorem dX10_worthOf_74 : decode cX10_worthOf 74 = .ok (.iaload, 1) := by decide +kernel
theorem dX10_worthOf_75 : decode cX10_worthOf 75 = .ok (.iastore, 1) := by decide +kernel
theorem dX10_worthOf_76 : decode cX10_worthOf 76 = .ok (.iinc 2 1, 3) := by decide +kernel
theorem dX10_worthOf_79 : decode cX10_worthOf 79 = .ok (.goto 77, 3) := by decide +kernel
theorem dX10_worthOf_82 : decode cX10_worthOf 82 = .ok (.iload 4, 2) := by decide +kernel
theorem dX10_worthOf_84 : decode cX10_worthOf 84 = .ok (.bipush 33, 2) := by decide +kernel
theorem dX10_worthOf_86 : decode cX10_worthOf 86 = .ok (.if_icmp .ne 35, 3) := by decide +kernel
theorem dX10_worthOf_89 : decode cX10_worthOf 89 = .ok (.iload_n 2, 1) := by decide +kernel
theorem dX10_worthOf_90 : decode cX10_worthOf 90 = .ok (.iconst 1, 1) := by decide +kernel
theorem dX10_worthOf_91 : decode cX10_worthOf 91 = .ok (.if_icmp .lt 30, 3) := by decide +kernel
theorem dX10_worthOf_94 : decode cX10_worthOf 94 = .ok (.aload_n 0, 1) := by decide +kernel
theorem dX10_worthOf_95 : decode cX10_worthOf 95 = .ok (.getfield 15, 3) := by decide +kernel
theorem dX10_worthOf_98 : decode cX10_worthOf 98 = .ok (.iload_n 2, 1) := by decide +kernel
theorem dX10_worthOf_99 : decode cX10_worthOf 99 = .ok (.iconst 1, 1) := by decide +kernel
theorem dX10_worthOf_100 : decode cX10_worthOf 100 = .ok (.isub, 1) := by decide +kernel
theorem dX10_worthOf_101 : decode cX10_worthOf 101 = .ok (.aload_n 0, 1) := by decide +kernel
theorem dX10_worthOf_102 : decode cX10_worthOf 102 = .ok (.getfield 15, 3) := by decide +kernel
theorem dX10_worthOf_105 : decode cX10_worthOf 105 = .ok (.iload_n 2, 1) := by decide +kernel
theorem dX10_worthOf_106 : decode cX10_worthOf 106 = .ok (.iconst 1, 1) := by decide +kernel
theorem dX10_worthOf_107 : decode cX10_worthOf 107 = .ok (.isub, 1) := by decide +kernel
theorem dX10_worthOf_108 : decode cX10_worthOf 108 = .ok (.iaload, 1) := by decide +kernel
theorem dX10_worthOf_109 : decode cX10_worthOf 109 = .ok (.ifCond .ne 7, 3) := by decide +kernel
theorem dX10_worthOf_112 : decode cX10_worthOf 112 = .ok (.iconst 1, 1) := by decide +kernel
theorem dX10_worthOf_113 : decode cX10_worthOf 113 = .ok (.goto 4, 3) := by decide +kernel
theorem dX10_worthOf_116 : decode cX10_worthOf 116 = .ok (.iconst 0, 1) := by decide +kernel
theorem dX10_worthOf_117 : decode cX10_worthOf 117 = .ok (.iastore, 1) := by decide +kernel
theorem dX10_worthOf_118 : decode cX10_worthOf 118 = .ok (.goto 38, 3) := by decide +kernel
theorem dX10_worthOf_121 : decode cX10_worthOf 121 = .ok (.iload_n 2, 1) := by decide +kernel
theorem dX10_worthOf_122 : decode cX10_worthOf 122 = .ok (.iconst 2, 1) := by decide +kernel
theorem dX10_worthOf_123 : decode cX10_worthOf 123 = .ok (.if_icmp .lt 33, 3) := by decide +kernel
theorem dX10_worthOf_126 : decode cX10_worthOf 126 = .ok (.iinc 2 (-1), 3) := by decide +kernel
theorem dX10_worthOf_129 : decode cX10_worthOf 129 = .ok (.aload_n 0, 1) := by decide +kernel
theorem dX10_worthOf_130 : decode cX10_worthOf 130 = .ok (.getfield 15, 3) := by decide +kernel
theorem dX10_worthOf_133 : decode cX10_worthOf 133 = .ok (.iload_n 2, 1) := by decide +kernel
theorem dX10_worthOf_134 : decode cX10_worthOf 134 = .ok (.iconst 1, 1) := by decide +kernel
theorem dX10_worthOf_135 : decode cX10_worthOf 135 = .ok (.isub, 1) := by decide +kernel
theorem dX10_worthOf_136 : decode cX10_worthOf 136 = .ok (.iload 4, 2) := by decide +kernel
theorem dX10_worthOf_138 : decode cX10_worthOf 138 = .ok (.aload_n 0, 1) := by decide +kernel
theorem dX10_worthOf_139 : decode cX10_worthOf 139 = .ok (.getfield 15, 3) := by decide +kernel
theorem dX10_worthOf_142 : decode cX10_worthOf 142 = .ok (.iload_n 2, 1) := by decide +kernel
theorem dX10_worthOf_143 : decode cX10_worthOf 143 = .ok (.iconst 1, 1) := by decide +kernel
theorem dX10_worthOf_144 : decode cX10_worthOf 144 = .ok (.isub, 1) := by decide +kernel
theorem dX10_worthOf_145 : decode cX10_worthOf 145 = .ok (.iaload, 1) := by decide +kernel
theorem dX10_worthOf_146 : decode cX10_worthOf 146 = .ok (.aload_n 0, 1) := by decide +kernel
theorem dX10_worthOf_147 : decode cX10_worthOf 147 = .ok (.getfield 15, 3) := by decide +kernel
theorem dX10_worthOf_150 : decode cX10_worthOf 150 = .ok (.iload_n 2, 1) := by decide +kernel
theorem dX10_worthOf_151 : decode cX10_worthOf 151 = .ok (.iaload, 1) := by decide +kernel
theorem dX10_worthOf_152 : decode cX10_worthOf 152 = .ok (.invokestatic 105, 3) := by decide +kernel
theorem dX10_worthOf_155 : decode cX10_worthOf 155 = .ok (.iastore, 1) := by decide +kernel
theorem dX10_worthOf_156 : decode cX10_worthOf 156 = .ok (.iinc 3 1, 3) := by decide +kernel
theorem dX10_worthOf_159 : decode cX10_worthOf 159 = .ok (.goto (-155), 3) := by decide +kernel
theorem dX10_worthOf_162 : decode cX10_worthOf 162 = .ok (.aload_n 0, 1) := by decide +kernel
theorem dX10_worthOf_163 : decode cX10_worthOf 163 = .ok (.getfield 15, 3) := by decide +kernel
theorem dX10_worthOf_166 : decode cX10_worthOf 166 = .ok (.iconst 0, 1) := by decide +kernel
theorem dX10_worthOf_167 : decode cX10_worthOf 167 = .ok (.iaload, 1) := by decide +kernel
theorem dX10_worthOf_168 : decode cX10_worthOf 168 = .ok (.ireturn, 1) := by decide +kernel
theorem dX10_joined_0 : decode cX10_joined 0 = .ok (.iload_n 0, 1) := by decide +kernel
theorem dX10_joined_1 : decode cX10_joined 1 = .ok (.lookupswitch 168 #[(38, 97), (42, 152), (43, 144), (45, 148), (47, 156), (60, 111), (61, 122), (62, 133), (124, 83)], 83) := by decide +kernel
theorem dX10_joined_84 : decode cX10_joined 84 = .ok (.iload_n 1, 1) := by decide +kernel
theorem dX10_joined_85 : decode cX10_joined 85 = .ok (.ifCond .ne 7, 3) := by decide +kernel
theorem dX10_joined_88 : decode cX10_joined 88 = .ok (.iload_n 2, 1) := by decide +kernel
theorem dX10_joined_89 : decode cX10_joined 89 = .ok (.ifCond .eq 7, 3) := by decide +kernel
theorem dX10_joined_92 : decode cX10_joined 92 = .ok (.iconst 1, 1) := by decide +kernel
theorem dX10_joined_93 : decode cX10_joined 93 = .ok (.goto 4, 3) := by decide +kernel
theorem dX10_joined_96 : decode cX10_joined 96 = .ok (.iconst 0, 1) := by decide +kernel
theorem dX10_joined_97 : decode cX10_joined 97 = .ok (.ireturn, 1) := by decide +kernel
theorem dX10_joined_98 : decode cX10_joined 98 = .ok (.iload_n 1, 1) := by decide +kernel
theorem dX10_joined_99 : decode cX10_joined 99 = .ok (.ifCond .eq 11, 3) := by decide +kernel
theorem dX10_joined_102 : decode cX10_joined 102 = .ok (.iload_n 2, 1) := by decide +kernel
theorem dX10_joined_103 : decode cX10_joined 103 = .ok (.ifCond .eq 7, 3) := by decide +kernel
theorem dX10_joined_106 : decode cX10_joined 106 = .ok (.iconst 1, 1) := by decide +kernel
theorem dX10_joined_107 : decode cX10_joined 107 = .ok (.goto 4, 3) := by decide +kernel
theorem dX10_joined_110 : decode cX10_joined 110 = .ok (.iconst 0, 1) := by decide +kernel
theorem dX10_joined_111 : decode cX10_joined 111 = .ok (.ireturn, 1) := by decide +kernel
theorem dX10_joined_112 : decode cX10_joined 112 = .ok (.iload_n 1, 1) := by decide +kernel
theorem dX10_joined_113 : decode cX10_joined 113 = .ok (.iload_n 2, 1) := by decide +kernel
theorem dX10_joined_114 : decode cX10_joined 114 = .ok (.if_icmp .ge 7, 3) := by decide +kernel
theorem dX10_joined_117 : decode cX10_joined 117 = .ok (.iconst 1, 1) := by decide +kernel
theorem dX10_joined_118 : decode cX10_joined 118 = .ok (.goto 4, 3) := by decide +kernel
theorem dX10_joined_121 : decode cX10_joined 121 = .ok (.iconst 0, 1) := by decide +kernel
theorem dX10_joined_122 : decode cX10_joined 122 = .ok (.ireturn, 1) := by decide +kernel
theorem dX10_joined_123 : decode cX10_joined 123 = .ok (.iload_n 1, 1) := by decide +kernel
theorem dX10_joined_124 : decode cX10_joined 124 = .ok (.iload_n 2, 1) := by decide +kernel
theorem dX10_joined_125 : decode cX10_joined 125 = .ok (.if_icmp .ne 7, 3) := by decide +kernel
theorem dX10_joined_128 : decode cX10_joined 128 = .ok (.iconst 1, 1) := by decide +kernel
theorem dX10_joined_129 : decode cX10_joined 129 = .ok (.goto 4, 3) := by decide +kernel
theorem dX10_joined_132 : decode cX10_joined 132 = .ok (.iconst 0, 1) := by decide +kernel
theorem dX10_joined_133 : decode cX10_joined 133 = .ok (.ireturn, 1) := by decide +kernel
theorem dX10_joined_134 : decode cX10_joined 134 = .ok (.iload_n 1, 1) := by decide +kernel
theorem dX10_joined_135 : decode cX10_joined 135 = .ok (.iload_n 2, 1) := by decide +kernel
theorem dX10_joined_136 : decode cX10_joined 136 = .ok (.if_icmp .le 7, 3) := by decide +kernel
theorem dX10_joined_139 : decode cX10_joined 139 = .ok (.iconst 1, 1) := by decide +kernel
theorem dX10_joined_140 : decode cX10_joined 140 = .ok (.goto 4, 3) := by decide +kernel
theorem dX10_joined_143 : decode cX10_joined 143 = .ok (.iconst 0, 1) := by decide +kernel
theorem dX10_joined_144 : decode cX10_joined 144 = .ok (.ireturn, 1) := by decide +kernel
theorem dX10_joined_145 : decode cX10_joined 145 = .ok (.iload_n 1, 1) := by decide +kernel
theorem dX10_joined_146 : decode cX10_joined 146 = .ok (.iload_n 2, 1) := by decide +kernel
theorem dX10_joined_147 : decode cX10_joined 147 = .ok (.iadd, 1) := by decide +kernel
theorem dX10_joined_148 : decode cX10_joined 148 = .ok (.ireturn, 1) := by decide +kernel
theorem dX10_joined_149 : decode cX10_joined 149 = .ok (.iload_n 1, 1) := by decide +kernel
theorem dX10_joined_150 : decode cX10_joined 150 = .ok (.iload_n 2, 1) := by decide +kernel
theorem dX10_joined_151 : decode cX10_joined 151 = .ok (.isub, 1) := by decide +kernel
theorem dX10_joined_152 : decode cX10_joined 152 = .ok (.ireturn, 1) := by decide +kernel
theorem dX10_joined_153 : decode cX10_joined 153 = .ok (.iload_n 1, 1) := by decide +kernel
theorem dX10_joined_154 : decode cX10_joined 154 = .ok (.iload_n 2, 1) := by decide +kernel
theorem dX10_joined_155 : decode cX10_joined 155 = .ok (.imul, 1) := by decide +kernel
theorem dX10_joined_156 : decode cX10_joined 156 = .ok (.ireturn, 1) := by decide +kernel
theorem dX10_joined_157 : decode cX10_joined 157 = .ok (.iload_n 2, 1) := by decide +kernel
theorem dX10_joined_158 : decode cX10_joined 158 = .ok (.ifCond .ne 7, 3) := by decide +kernel
theorem dX10_joined_161 : decode cX10_joined 161 = .ok (.iconst 0, 1) := by decide +kernel
theorem dX10_joined_162 : decode cX10_joined 162 = .ok (.goto 6, 3) := by decide +kernel
theorem dX10_joined_165 : decode cX10_joined 165 = .ok (.iload_n 1, 1) := by decide +kernel
theorem dX10_joined_166 : decode cX10_joined 166 = .ok (.iload_n 2, 1) := by decide +kernel
theorem dX10_joined_167 : decode cX10_joined 167 = .ok (.idiv, 1) := by decide +kernel
theorem dX10_joined_168 : decode cX10_joined 168 = .ok (.ireturn, 1) := by decide +kernel
theorem dX10_joined_169 : decode cX10_joined 169 = .ok (.iload_n 2, 1) := by decide +kernel
theorem dX10_joined_170 : decode cX10_joined 170 = .ok (.ifCond .ne 7, 3) := by decide +kernel
theorem dX10_joined_173 : decode cX10_joined 173 = .ok (.iconst 0, 1) := by decide +kernel
theorem dX10_joined_174 : decode cX10_joined 174 = .ok (.goto 6, 3) := by decide +kernel
theorem dX10_joined_177 : decode cX10_joined 177 = .ok (.iload_n 1, 1) := by decide +kernel
theorem dX10_joined_178 : decode cX10_joined 178 = .ok (.iload_n 2, 1) := by decide +kernel
theorem dX10_joined_179 : decode cX10_joined 179 = .ok (.irem, 1) := by decide +kernel
theorem dX10_joined_180 : decode cX10_joined 180 = .ok (.ireturn, 1) := by decide +kernel
theorem dX10_howBarred_0 : decode cX10_howBarred 0 = .ok (.aload_n 0, 1) := by decide +kernel
theorem dX10_howBarred_1 : decode cX10_howBarred 1 = .ok (.iload_n 1, 1) := by decide +kernel
theorem dX10_howBarred_2 : decode cX10_howBarred 2 = .ok (.iload_n 2, 1) := by decide +kernel
theorem dX10_howBarred_3 : decode cX10_howBarred 3 = .ok (.invokevirtual 109, 3) := by decide +kernel
theorem dX10_howBarred_6 : decode cX10_howBarred 6 = .ok (.ifCond .eq 5, 3) := by decide +kernel
theorem dX10_howBarred_9 : decode cX10_howBarred 9 = .ok (.iconst 0, 1) := by decide +kernel
theorem dX10_howBarred_10 : decode cX10_howBarred 10 = .ok (.ireturn, 1) := by decide +kernel
theorem dX10_howBarred_11 : decode cX10_howBarred 11 = .ok (.aload_n 0, 1) := by decide +kernel
theorem dX10_howBarred_12 : decode cX10_howBarred 12 = .ok (.aload_n 0, 1) := by decide +kernel
theorem dX10_howBarred_13 : decode cX10_howBarred 13 = .ok (.iload_n 1, 1) := by decide +kernel
theorem dX10_howBarred_14 : decode cX10_howBarred 14 = .ok (.iload_n 2, 1) := by decide +kernel
theorem dX10_howBarred_15 : decode cX10_howBarred 15 = .ok (.invokevirtual 113, 3) := by decide +kernel
theorem dX10_howBarred_18 : decode cX10_howBarred 18 = .ok (.putfield 28, 3) := by decide +kernel
theorem dX10_howBarred_21 : decode cX10_howBarred 21 = .ok (.aload_n 0, 1) := by decide +kernel
theorem dX10_howBarred_22 : decode cX10_howBarred 22 = .ok (.getfield 28, 3) := by decide +kernel
theorem dX10_howBarred_25 : decode cX10_howBarred 25 = .ok (.iconst (-1), 1) := by decide +kernel
theorem dX10_howBarred_26 : decode cX10_howBarred 26 = .ok (.if_icmp .eq 5, 3) := by decide +kernel
theorem dX10_howBarred_29 : decode cX10_howBarred 29 = .ok (.iconst 2, 1) := by decide +kernel
theorem dX10_howBarred_30 : decode cX10_howBarred 30 = .ok (.ireturn, 1) := by decide +kernel
theorem dX10_howBarred_31 : decode cX10_howBarred 31 = .ok (.aload_n 0, 1) := by decide +kernel
theorem dX10_howBarred_32 : decode cX10_howBarred 32 = .ok (.iload_n 1, 1) := by decide +kernel
theorem dX10_howBarred_33 : decode cX10_howBarred 33 = .ok (.invokevirtual 116, 3) := by decide +kernel
theorem dX10_howBarred_36 : decode cX10_howBarred 36 = .ok (.ifCond .ne 11, 3) := by decide +kernel
theorem dX10_howBarred_39 : decode cX10_howBarred 39 = .ok (.aload_n 0, 1) := by decide +kernel
theorem dX10_howBarred_40 : decode cX10_howBarred 40 = .ok (.iload_n 2, 1) := by decide +kernel
theorem dX10_howBarred_41 : decode cX10_howBarred 41 = .ok (.invokevirtual 116, 3) := by decide +kernel
theorem dX10_howBarred_44 : decode cX10_howBarred 44 = .ok (.ifCond .eq 5, 3) := by decide +kernel
theorem dX10_howBarred_47 : decode cX10_howBarred 47 = .ok (.iconst 0, 1) := by decide +kernel
theorem dX10_howBarred_48 : decode cX10_howBarred 48 = .ok (.ireturn, 1) := by decide +kernel
theorem dX10_howBarred_49 : decode cX10_howBarred 49 = .ok (.aload_n 0, 1) := by decide +kernel
theorem dX10_howBarred_50 : decode cX10_howBarred 50 = .ok (.aload_n 0, 1) := by decide +kernel
theorem dX10_howBarred_51 : decode cX10_howBarred 51 = .ok (.iload_n 1, 1) := by decide +kernel
theorem dX10_howBarred_52 : decode cX10_howBarred 52 = .ok (.iload_n 2, 1) := by decide +kernel
theorem dX10_howBarred_53 : decode cX10_howBarred 53 = .ok (.invokevirtual 120, 3) := by decide +kernel
theorem dX10_howBarred_56 : decode cX10_howBarred 56 = .ok (.aload_n 0, 1) := by decide +kernel
theorem dX10_howBarred_57 : decode cX10_howBarred 57 = .ok (.iload_n 2, 1) := by decide +kernel
theorem dX10_howBarred_58 : decode cX10_howBarred 58 = .ok (.iload_n 1, 1) := by decide +kernel
theorem dX10_howBarred_59 : decode cX10_howBarred 59 = .ok (.invokevirtual 120, 3) := by decide +kernel
theorem dX10_howBarred_62 : decode cX10_howBarred 62 = .ok (.invokestatic 123, 3) := by decide +kernel
theorem dX10_howBarred_65 : decode cX10_howBarred 65 = .ok (.putfield 28, 3) := by decide +kernel
theorem dX10_howBarred_68 : decode cX10_howBarred 68 = .ok (.aload_n 0, 1) := by decide +kernel
theorem dX10_howBarred_69 : decode cX10_howBarred 69 = .ok (.getfield 28, 3) := by decide +kernel
theorem dX10_howBarred_72 : decode cX10_howBarred 72 = .ok (.iconst (-1), 1) := by decide +kernel
theorem dX10_howBarred_73 : decode cX10_howBarred 73 = .ok (.if_icmp .eq 7, 3) := by decide +kernel
theorem dX10_howBarred_76 : decode cX10_howBarred 76 = .ok (.iconst 3, 1) := by decide +kernel
theorem dX10_howBarred_77 : decode cX10_howBarred 77 = .ok (.goto 4, 3) := by decide +kernel
theorem dX10_howBarred_80 : decode cX10_howBarred 80 = .ok (.iconst 0, 1) := by decide +kernel
theorem dX10_howBarred_81 : decode cX10_howBarred 81 = .ok (.ireturn, 1) := by decide +kernel
theorem dX10_areApart_0 : decode cX10_areApart 0 = .ok (.aload_n 0, 1) := by decide +kernel
theorem dX10_areApart_1 : decode cX10_areApart 1 = .ok (.iload_n 1, 1) := by decide +kernel
theorem dX10_areApart_2 : decode cX10_areApart 2 = .ok (.invokevirtual 116, 3) := by decide +kernel
theorem dX10_areApart_5 : decode cX10_areApart 5 = .ok (.ifCond .eq 19, 3) := by decide +kernel
theorem dX10_areApart_8 : decode cX10_areApart 8 = .ok (.aload_n 0, 1) := by decide +kernel
theorem dX10_areApart_9 : decode cX10_areApart 9 = .ok (.getfield 31, 3) := by decide +kernel
theorem dX10_areApart_12 : decode cX10_areApart 12 = .ok (.getfield 49, 3) := by decide +kernel
theorem dX10_areApart_15 : decode cX10_areApart 15 = .ok (.iload_n 2, 1) := by decide +kernel
theorem dX10_areApart_16 : decode cX10_areApart 16 = .ok (.aaload, 1) := by decide +kernel
theorem dX10_areApart_17 : decode cX10_areApart 17 = .ok (.iconst 1, 1) := by decide +kernel
theorem dX10_areApart_18 : decode cX10_areApart 18 = .ok (.invokevirtual 126, 3) := by decide +kernel
theorem dX10_areApart_21 : decode cX10_areApart 21 = .ok (.ifCond .eq 27, 3) := by decide +kernel
theorem dX10_areApart_24 : decode cX10_areApart 24 = .ok (.aload_n 0, 1) := by decide +kernel
theorem dX10_areApart_25 : decode cX10_areApart 25 = .ok (.iload_n 2, 1) := by decide +kernel
theorem dX10_areApart_26 : decode cX10_areApart 26 = .ok (.invokevirtual 116, 3) := by decide +kernel
theorem dX10_areApart_29 : decode cX10_areApart 29 = .ok (.ifCond .eq 23, 3) := by decide +kernel
theorem dX10_areApart_32 : decode cX10_areApart 32 = .ok (.aload_n 0, 1) := by decide +kernel
theorem dX10_areApart_33 : decode cX10_areApart 33 = .ok (.getfield 31, 3) := by decide +kernel
theorem dX10_areApart_36 : decode cX10_areApart 36 = .ok (.getfield 49, 3) := by decide +kernel
theorem dX10_areApart_39 : decode cX10_areApart 39 = .ok (.iload_n 1, 1) := by decide +kernel
theorem dX10_areApart_40 : decode cX10_areApart 40 = .ok (.aaload, 1) := by decide +kernel
theorem dX10_areApart_41 : decode cX10_areApart 41 = .ok (.iconst 1, 1) := by decide +kernel
theorem dX10_areApart_42 : decode cX10_areApart 42 = .ok (.invokevirtual 126, 3) := by decide +kernel
theorem dX10_areApart_45 : decode cX10_areApart 45 = .ok (.ifCond .ne 7, 3) := by decide +kernel
theorem dX10_areApart_48 : decode cX10_areApart 48 = .ok (.iconst 1, 1) := by decide +kernel
theorem dX10_areApart_49 : decode cX10_areApart 49 = .ok (.goto 4, 3) := by decide +kernel
theorem dX10_areApart_52 : decode cX10_areApart 52 = .ok (.iconst 0, 1) := by decide +kernel
theorem dX10_areApart_53 : decode cX10_areApart 53 = .ok (.ireturn, 1) := by decide +kernel
theorem dX10_isOff_0 : decode cX10_isOff 0 = .ok (.aload_n 0, 1) := by decide +kernel
theorem dX10_isOff_1 : decode cX10_isOff 1 = .ok (.getfield 31, 3) := by decide +kernel
theorem dX10_isOff_4 : decode cX10_isOff 4 = .ok (.getfield 49, 3) := by decide +kernel
theorem dX10_isOff_7 : decode cX10_isOff 7 = .ok (.iload_n 1, 1) := by decide +kernel
theorem dX10_isOff_8 : decode cX10_isOff 8 = .ok (.aaload, 1) := by decide +kernel
theorem dX10_isOff_9 : decode cX10_isOff 9 = .ok (.getfield 86, 3) := by decide +kernel
theorem dX10_isOff_12 : decode cX10_isOff 12 = .ok (.iconst 3, 1) := by decide +kernel
theorem dX10_isOff_13 : decode cX10_isOff 13 = .ok (.if_icmp .ne 7, 3) := by decide +kernel
theorem dX10_isOff_16 : decode cX10_isOff 16 = .ok (.iconst 1, 1) := by decide +kernel
theorem dX10_isOff_17 : decode cX10_isOff 17 = .ok (.goto 4, 3) := by decide +kernel
theorem dX10_isOff_20 : decode cX10_isOff 20 = .ok (.iconst 0, 1) := by decide +kernel
theorem dX10_isOff_21 : decode cX10_isOff 21 = .ok (.ireturn, 1) := by decide +kernel
theorem dX10_shareOf_0 : decode cX10_shareOf 0 = .ok (.aload_n 0, 1) := by decide +kernel
theorem dX10_shareOf_1 : decode cX10_shareOf 1 = .ok (.getfield 31, 3) := by decide +kernel
theorem dX10_shareOf_4 : decode cX10_shareOf 4 = .ok (.getfield 49, 3) := by decide +kernel
theorem dX10_shareOf_7 : decode cX10_shareOf 7 = .ok (.iload_n 1, 1) := by decide +kernel
theorem dX10_shareOf_8 : decode cX10_shareOf 8 = .ok (.aaload, 1) := by decide +kernel
theorem dX10_shareOf_9 : decode cX10_shareOf 9 = .ok (.getfield 86, 3) := by decide +kernel
theorem dX10_shareOf_12 : decode cX10_shareOf 12 = .ok (.iconst 4, 1) := by decide +kernel
theorem dX10_shareOf_13 : decode cX10_shareOf 13 = .ok (.if_icmp .eq 19, 3) := by decide +kernel
theorem dX10_shareOf_16 : decode cX10_shareOf 16 = .ok (.aload_n 0, 1) := by decide +kernel
theorem dX10_shareOf_17 : decode cX10_shareOf 17 = .ok (.getfield 31, 3) := by decide +kernel
theorem dX10_shareOf_20 : decode cX10_shareOf 20 = .ok (.getfield 49, 3) := by decide +kernel
theorem dX10_shareOf_23 : decode cX10_shareOf 23 = .ok (.iload_n 2, 1) := by decide +kernel
theorem dX10_shareOf_24 : decode cX10_shareOf 24 = .ok (.aaload, 1) := by decide +kernel
theorem dX10_shareOf_25 : decode cX10_shareOf 25 = .ok (.getfield 86, 3) := by decide +kernel
theorem dX10_shareOf_28 : decode cX10_shareOf 28 = .ok (.iconst 4, 1) := by decide +kernel
theorem dX10_shareOf_29 : decode cX10_shareOf 29 = .ok (.if_icmp .ne 7, 3) := by decide +kernel
theorem dX10_shareOf_32 : decode cX10_shareOf 32 = .ok (.iconst 2, 1) := by decide +kernel
theorem dX10_shareOf_33 : decode cX10_shareOf 33 = .ok (.goto 4, 3) := by decide +kernel
theorem dX10_shareOf_36 : decode cX10_shareOf 36 = .ok (.iconst 1, 1) := by decide +kernel
theorem dX10_shareOf_37 : decode cX10_shareOf 37 = .ok (.ireturn, 1) := by decide +kernel
theorem dX10_earlier_0 : decode cX10_earlier 0 = .ok (.iload_n 0, 1) := by decide +kernel
theorem dX10_earlier_1 : decode cX10_earlier 1 = .ok (.iconst (-1), 1) := by decide +kernel
theorem dX10_earlier_2 : decode cX10_earlier 2 = .ok (.if_icmp .eq 8, 3) := by decide +kernel
theorem dX10_earlier_5 : decode cX10_earlier 5 = .ok (.iload_n 1, 1) := by decide +kernel
theorem dX10_earlier_6 : decode cX10_earlier 6 = .ok (.iconst (-1), 1) := by decide +kernel
theorem dX10_earlier_7 : decode cX10_earlier 7 = .ok (.if_icmp .ne 9, 3) := by decide +kernel
theorem dX10_earlier_10 : decode cX10_earlier 10 = .ok (.iload_n 0, 1) := by decide +kernel
theorem dX10_earlier_11 : decode cX10_earlier 11 = .ok (.iload_n 1, 1) := by decide +kernel
theorem dX10_earlier_12 : decode cX10_earlier 12 = .ok (.invokestatic 97, 3) := by decide +kernel
theorem dX10_earlier_15 : decode cX10_earlier 15 = .ok (.ireturn, 1) := by decide +kernel
theorem dX10_earlier_16 : decode cX10_earlier 16 = .ok (.iload_n 0, 1) := by decide +kernel
theorem dX10_earlier_17 : decode cX10_earlier 17 = .ok (.iload_n 1, 1) := by decide +kernel
theorem dX10_earlier_18 : decode cX10_earlier 18 = .ok (.invokestatic 94, 3) := by decide +kernel
theorem dX10_earlier_21 : decode cX10_earlier 21 = .ok (.ireturn, 1) := by decide +kernel
theorem dX10_meetingLine_0 : decode cX10_meetingLine 0 = .ok (.iconst (-1), 1) := by decide +kernel
theorem dX10_meetingLine_1 : decode cX10_meetingLine 1 = .ok (.istore_n 3, 1) := by decide +kernel
theorem dX10_meetingLine_2 : decode cX10_meetingLine 2 = .ok (.iconst 0, 1) := by decide +kernel
theorem dX10_meetingLine_3 : decode cX10_meetingLine 3 = .ok (.istore 4, 2) := by decide +kernel
theorem dX10_meetingLine_5 : decode cX10_meetingLine 5 = .ok (.iload 4, 2) := by decide +kernel
theorem dX10_meetingLine_7 : decode cX10_meetingLine 7 = .ok (.aload_n 0, 1) := by decide +kernel
theorem dX10_meetingLine_8 : decode cX10_meetingLine 8 = .ok (.getfield 31, 3) := by decide +kernel
theorem dX10_meetingLine_11 : decode cX10_meetingLine 11 = .ok (.getfield 129, 3) := by decide +kernel
theorem dX10_meetingLine_14 : decode cX10_meetingLine 14 = .ok (.if_icmp .ge 118, 3) := by decide +kernel
theorem dX10_meetingLine_17 : decode cX10_meetingLine 17 = .ok (.iconst 0, 1) := by decide +kernel
theorem dX10_meetingLine_18 : decode cX10_meetingLine 18 = .ok (.istore 5, 2) := by decide +kernel
theorem dX10_meetingLine_20 : decode cX10_meetingLine 20 = .ok (.iload 5, 2) := by decide +kernel
theorem dX10_meetingLine_22 : decode cX10_meetingLine 22 = .ok (.aload_n 0, 1) := by decide +kernel
theorem dX10_meetingLine_23 : decode cX10_meetingLine 23 = .ok (.getfield 31, 3) := by decide +kernel
theorem dX10_meetingLine_26 : decode cX10_meetingLine 26 = .ok (.getfield 129, 3) := by decide +kernel
theorem dX10_meetingLine_29 : decode cX10_meetingLine 29 = .ok (.if_icmp .ge 97, 3) := by decide +kernel
theorem dX10_meetingLine_32 : decode cX10_meetingLine 32 = .ok (.aload_n 0, 1) := by decide +kernel
theorem dX10_meetingLine_33 : decode cX10_meetingLine 33 = .ok (.getfield 31, 3) := by decide +kernel
theorem dX10_meetingLine_36 : decode cX10_meetingLine 36 = .ok (.getfield 132, 3) := by decide +kernel
theorem dX10_meetingLine_39 : decode cX10_meetingLine 39 = .ok (.iload 4, 2) := by decide +kernel
theorem dX10_meetingLine_41 : decode cX10_meetingLine 41 = .ok (.iaload, 1) := by decide +kernel
theorem dX10_meetingLine_42 : decode cX10_meetingLine 42 = .ok (.iload_n 1, 1) := by decide +kernel
theorem dX10_meetingLine_43 : decode cX10_meetingLine 43 = .ok (.if_icmp .ne 83, 3) := by decide +kernel
theorem dX10_meetingLine_46 : decode cX10_meetingLine 46 = .ok (.aload_n 0, 1) := by decide +kernel
theorem dX10_meetingLine_47 : decode cX10_meetingLine 47 = .ok (.getfield 31, 3) := by decide +kernel
theorem dX10_meetingLine_50 : decode cX10_meetingLine 50 = .ok (.getfield 135, 3) := by decide +kernel
theorem dX10_meetingLine_53 : decode cX10_meetingLine 53 = .ok (.iload 4, 2) := by decide +kernel
theorem dX10_meetingLine_55 : decode cX10_meetingLine 55 = .ok (.iaload, 1) := by decide +kernel
theorem dX10_meetingLine_56 : decode cX10_meetingLine 56 = .ok (.aload_n 0, 1) := by decide +kernel
theorem dX10_meetingLine_57 : decode cX10_meetingLine 57 = .ok (.getfield 31, 3) := by decide +kernel
theorem dX10_meetingLine_60 : decode cX10_meetingLine 60 = .ok (.getfield 135, 3) := by decide +kernel
theorem dX10_meetingLine_63 : decode cX10_meetingLine 63 = .ok (.iload 5, 2) := by decide +kernel
theorem dX10_meetingLine_65 : decode cX10_meetingLine 65 = .ok (.iaload, 1) := by decide +kernel
theorem dX10_meetingLine_66 : decode cX10_meetingLine 66 = .ok (.invokestatic 97, 3) := by decide +kernel
theorem dX10_meetingLine_69 : decode cX10_meetingLine 69 = .ok (.istore 6, 2) := by decide +kernel
theorem dX10_meetingLine_71 : decode cX10_meetingLine 71 = .ok (.aload_n 0, 1) := by decide +kernel
theorem dX10_meetingLine_72 : decode cX10_meetingLine 72 = .ok (.getfield 31, 3) := by decide +kernel
theorem dX10_meetingLine_75 : decode cX10_meetingLine 75 = .ok (.getfield 132, 3) := by decide +kernel
theorem dX10_meetingLine_78 : decode cX10_meetingLine 78 = .ok (.iload 5, 2) := by decide +kernel
theorem dX10_meetingLine_80 : decode cX10_meetingLine 80 = .ok (.iaload, 1) := by decide +kernel
theorem dX10_meetingLine_81 : decode cX10_meetingLine 81 = .ok (.iload_n 2, 1) := by decide +kernel
theorem dX10_meetingLine_82 : decode cX10_meetingLine 82 = .ok (.if_icmp .ne 38, 3) := by decide +kernel
theorem dX10_meetingLine_85 : decode cX10_meetingLine 85 = .ok (.iload 6, 2) := by decide +kernel
theorem dX10_meetingLine_87 : decode cX10_meetingLine 87 = .ok (.aload_n 0, 1) := by decide +kernel
theorem dX10_meetingLine_88 : decode cX10_meetingLine 88 = .ok (.getfield 31, 3) := by decide +kernel
theorem dX10_meetingLine_91 : decode cX10_meetingLine 91 = .ok (.getfield 138, 3) := by decide +kernel
theorem dX10_meetingLine_94 : decode cX10_meetingLine 94 = .ok (.iload 4, 2) := by decide +kernel
theorem dX10_meetingLine_96 : decode cX10_meetingLine 96 = .ok (.iaload, 1) := by decide +kernel
theorem dX10_meetingLine_97 : decode cX10_meetingLine 97 = .ok (.aload_n 0, 1) := by decide +kernel
theorem dX10_meetingLine_98 : decode cX10_meetingLine 98 = .ok (.getfield 31, 3) := by decide +kernel
theorem dX10_meetingLine_101 : decode cX10_meetingLine 101 = .ok (.getfield 138, 3) := by decide +kernel
theorem dX10_meetingLine_104 : decode cX10_meetingLine 104 = .ok (.iload 5, 2) := by decide +kernel
theorem dX10_meetingLine_106 : decode cX10_meetingLine 106 = .ok (.iaload, 1) := by decide +kernel
theorem dX10_meetingLine_107 : decode cX10_meetingLine 107 = .ok (.invokestatic 94, 3) := by decide +kernel
theorem dX10_meetingLine_110 : decode cX10_meetingLine 110 = .ok (.if_icmp .gt 10, 3) := by decide +kernel
theorem dX10_meetingLine_113 : decode cX10_meetingLine 113 = .ok (.iload_n 3, 1) := by decide +kernel
theorem dX10_meetingLine_114 : decode cX10_meetingLine 114 = .ok (.iload 6, 2) := by decide +kernel
theorem dX10_meetingLine_116 : decode cX10_meetingLine 116 = .ok (.invokestatic 123, 3) := by decide +kernel
theorem dX10_meetingLine_119 : decode cX10_meetingLine 119 = .ok (.istore_n 3, 1) := by decide +kernel
theorem dX10_meetingLine_120 : decode cX10_meetingLine 120 = .ok (.iinc 5 1, 3) := by decide +kernel
theorem dX10_meetingLine_123 : decode cX10_meetingLine 123 = .ok (.goto (-103), 3) := by decide +kernel
theorem dX10_meetingLine_126 : decode cX10_meetingLine 126 = .ok (.iinc 4 1, 3) := by decide +kernel
theorem dX10_meetingLine_129 : decode cX10_meetingLine 129 = .ok (.goto (-124), 3) := by decide +kernel
theorem dX10_meetingLine_132 : decode cX10_meetingLine 132 = .ok (.iload_n 3, 1) := by decide +kernel
theorem dX10_meetingLine_133 : decode cX10_meetingLine 133 = .ok (.ireturn, 1) := by decide +kernel
theorem dX10_nearLine_0 : decode cX10_nearLine 0 = .ok (.aload_n 0, 1) := by decide +kernel
theorem dX10_nearLine_1 : decode cX10_nearLine 1 = .ok (.iload_n 1, 1) := by decide +kernel
theorem dX10_nearLine_2 : decode cX10_nearLine 2 = .ok (.iload_n 2, 1) := by decide +kernel
theorem dX10_nearLine_3 : decode cX10_nearLine 3 = .ok (.iconst 0, 1) := by decide +kernel
theorem dX10_nearLine_4 : decode cX10_nearLine 4 = .ok (.invokevirtual 141, 3) := by decide +kernel
theorem dX10_nearLine_7 : decode cX10_nearLine 7 = .ok (.aload_n 0, 1) := by decide +kernel
theorem dX10_nearLine_8 : decode cX10_nearLine 8 = .ok (.iload_n 1, 1) := by decide +kernel
theorem dX10_nearLine_9 : decode cX10_nearLine 9 = .ok (.iload_n 2, 1) := by decide +kernel
theorem dX10_nearLine_10 : decode cX10_nearLine 10 = .ok (.invokevirtual 144, 3) := by decide +kernel
theorem dX10_nearLine_13 : decode cX10_nearLine 13 = .ok (.idiv, 1) := by decide +kernel
theorem dX10_nearLine_14 : decode cX10_nearLine 14 = .ok (.istore_n 3, 1) := by decide +kernel
theorem dX10_nearLine_15 : decode cX10_nearLine 15 = .ok (.aload_n 0, 1) := by decide +kernel
theorem dX10_nearLine_16 : decode cX10_nearLine 16 = .ok (.iload_n 1, 1) := by decide +kernel
theorem dX10_nearLine_17 : decode cX10_nearLine 17 = .ok (.iload_n 2, 1) := by decide +kernel
theorem dX10_nearLine_18 : decode cX10_nearLine 18 = .ok (.iconst 1, 1) := by decide +kernel
theorem dX10_nearLine_19 : decode cX10_nearLine 19 = .ok (.invokevirtual 141, 3) := by decide +kernel
theorem dX10_nearLine_22 : decode cX10_nearLine 22 = .ok (.aload_n 0, 1) := by decide +kernel
theorem dX10_nearLine_23 : decode cX10_nearLine 23 = .ok (.iload_n 1, 1) := by decide +kernel
theorem dX10_nearLine_24 : decode cX10_nearLine 24 = .ok (.iload_n 2, 1) := by decide +kernel
theorem dX10_nearLine_25 : decode cX10_nearLine 25 = .ok (.invokevirtual 144, 3) := by decide +kernel
theorem dX10_nearLine_28 : decode cX10_nearLine 28 = .ok (.idiv, 1) := by decide +kernel
theorem dX10_nearLine_29 : decode cX10_nearLine 29 = .ok (.istore 4, 2) := by decide +kernel
theorem dX10_nearLine_31 : decode cX10_nearLine 31 = .ok (.iconst (-1), 1) := by decide +kernel
theorem dX10_nearLine_32 : decode cX10_nearLine 32 = .ok (.istore 5, 2) := by decide +kernel
theorem dX10_nearLine_34 : decode cX10_nearLine 34 = .ok (.iconst 0, 1) := by decide +kernel
theorem dX10_nearLine_35 : decode cX10_nearLine 35 = .ok (.istore 6, 2) := by decide +kernel
theorem dX10_nearLine_37 : decode cX10_nearLine 37 = .ok (.iload 6, 2) := by decide +kernel
theorem dX10_nearLine_39 : decode cX10_nearLine 39 = .ok (.aload_n 0, 1) := by decide +kernel
theorem dX10_nearLine_40 : decode cX10_nearLine 40 = .ok (.getfield 31, 3) := by decide +kernel
theorem dX10_nearLine_43 : decode cX10_nearLine 43 = .ok (.getfield 129, 3) := by decide +kernel
theorem dX10_nearLine_46 : decode cX10_nearLine 46 = .ok (.if_icmp .ge 131, 3) := by decide +kernel
theorem dX10_nearLine_49 : decode cX10_nearLine 49 = .ok (.iconst 0, 1) := by decide +kernel
theorem dX10_nearLine_50 : decode cX10_nearLine 50 = .ok (.istore 7, 2) := by decide +kernel
theorem dX10_nearLine_52 : decode cX10_nearLine 52 = .ok (.iload 7, 2) := by decide +kernel
theorem dX10_nearLine_54 : decode cX10_nearLine 54 = .ok (.aload_n 0, 1) := by decide +kernel
theorem dX10_nearLine_55 : decode cX10_nearLine 55 = .ok (.getfield 31, 3) := by decide +kernel
theorem dX10_nearLine_58 : decode cX10_nearLine 58 = .ok (.getfield 129, 3) := by decide +kernel
theorem dX10_nearLine_61 : decode cX10_nearLine 61 = .ok (.if_icmp .ge 110, 3) := by decide +kernel
theorem dX10_nearLine_64 : decode cX10_nearLine 64 = .ok (.aload_n 0, 1) := by decide +kernel
theorem dX10_nearLine_65 : decode cX10_nearLine 65 = .ok (.getfield 31, 3) := by decide +kernel
theorem dX10_nearLine_68 : decode cX10_nearLine 68 = .ok (.getfield 132, 3) := by decide +kernel
theorem dX10_nearLine_71 : decode cX10_nearLine 71 = .ok (.iload 6, 2) := by decide +kernel
theorem dX10_nearLine_73 : decode cX10_nearLine 73 = .ok (.iaload, 1) := by decide +kernel
theorem dX10_nearLine_74 : decode cX10_nearLine 74 = .ok (.iload_n 1, 1) := by decide +kernel
theorem dX10_nearLine_75 : decode cX10_nearLine 75 = .ok (.if_icmp .ne 96, 3) := by decide +kernel
theorem dX10_nearLine_78 : decode cX10_nearLine 78 = .ok (.aload_n 0, 1) := by decide +kernel
theorem dX10_nearLine_79 : decode cX10_nearLine 79 = .ok (.getfield 31, 3) := by decide +kernel
theorem dX10_nearLine_82 : decode cX10_nearLine 82 = .ok (.getfield 135, 3) := by decide +kernel
theorem dX10_nearLine_85 : decode cX10_nearLine 85 = .ok (.iload 7, 2) := by decide +kernel
theorem dX10_nearLine_87 : decode cX10_nearLine 87 = .ok (.iaload, 1) := by decide +kernel
theorem dX10_nearLine_88 : decode cX10_nearLine 88 = .ok (.aload_n 0, 1) := by decide +kernel
theorem dX10_nearLine_89 : decode cX10_nearLine 89 = .ok (.getfield 31, 3) := by decide +kernel
theorem dX10_nearLine_92 : decode cX10_nearLine 92 = .ok (.getfield 138, 3) := by decide +kernel
theorem dX10_nearLine_95 : decode cX10_nearLine 95 = .ok (.iload 6, 2) := by decide +kernel
theorem dX10_nearLine_97 : decode cX10_nearLine 97 = .ok (.iaload, 1) := by decide +kernel
theorem dX10_nearLine_98 : decode cX10_nearLine 98 = .ok (.isub, 1) := by decide +kernel
theorem dX10_nearLine_99 : decode cX10_nearLine 99 = .ok (.iconst 1, 1) := by decide +kernel
theorem dX10_nearLine_100 : decode cX10_nearLine 100 = .ok (.isub, 1) := by decide +kernel
theorem dX10_nearLine_101 : decode cX10_nearLine 101 = .ok (.istore 8, 2) := by decide +kernel
theorem dX10_nearLine_103 : decode cX10_nearLine 103 = .ok (.aload_n 0, 1) := by decide +kernel
theorem dX10_nearLine_104 : decode cX10_nearLine 104 = .ok (.iload 6, 2) := by decide +kernel
theorem dX10_nearLine_106 : decode cX10_nearLine 106 = .ok (.iload 7, 2) := by decide +kernel
theorem dX10_nearLine_108 : decode cX10_nearLine 108 = .ok (.invokevirtual 147, 3) := by decide +kernel
theorem dX10_nearLine_111 : decode cX10_nearLine 111 = .ok (.ifCond .eq 8, 3) := by decide +kernel
theorem dX10_nearLine_114 : decode cX10_nearLine 114 = .ok (.iload 4, 2) := by decide +kernel
theorem dX10_nearLine_116 : decode cX10_nearLine 116 = .ok (.goto 4, 3) := by decide +kernel
theorem dX10_nearLine_119 : decode cX10_nearLine 119 = .ok (.iload_n 3, 1) := by decide +kernel
theorem dX10_nearLine_120 : decode cX10_nearLine 120 = .ok (.istore 9, 2) := by decide +kernel
theorem dX10_nearLine_122 : decode cX10_nearLine 122 = .ok (.aload_n 0, 1) := by decide +kernel
theorem dX10_nearLine_123 : decode cX10_nearLine 123 = .ok (.getfield 31, 3) := by decide +kernel
theorem dX10_nearLine_126 : decode cX10_nearLine 126 = .ok (.getfield 132, 3) := by decide +kernel
theorem dX10_nearLine_129 : decode cX10_nearLine 129 = .ok (.iload 7, 2) := by decide +kernel
theorem dX10_nearLine_131 : decode cX10_nearLine 131 = .ok (.iaload, 1) := by decide +kernel
theorem dX10_nearLine_132 : decode cX10_nearLine 132 = .ok (.iload_n 2, 1) := by decide +kernel
theorem dX10_nearLine_133 : decode cX10_nearLine 133 = .ok (.if_icmp .ne 32, 3) := by decide +kernel
theorem dX10_nearLine_136 : decode cX10_nearLine 136 = .ok (.iload 8, 2) := by decide +kernel
theorem dX10_nearLine_138 : decode cX10_nearLine 138 = .ok (.ifCond .lt 27, 3) := by decide +kernel
theorem dX10_nearLine_141 : decode cX10_nearLine 141 = .ok (.iload 8, 2) := by decide +kernel
theorem dX10_nearLine_143 : decode cX10_nearLine 143 = .ok (.iload 9, 2) := by decide +kernel
theorem dX10_nearLine_145 : decode cX10_nearLine 145 = .ok (.if_icmp .ge 20, 3) := by decide +kernel
theorem dX10_nearLine_148 : decode cX10_nearLine 148 = .ok (.iload 5, 2) := by decide +kernel
theorem dX10_nearLine_150 : decode cX10_nearLine 150 = .ok (.aload_n 0, 1) := by decide +kernel
theorem dX10_nearLine_151 : decode cX10_nearLine 151 = .ok (.getfield 31, 3) := by decide +kernel
theorem dX10_nearLine_154 : decode cX10_nearLine 154 = .ok (.getfield 135, 3) := by decide +kernel
theorem dX10_nearLine_157 : decode cX10_nearLine 157 = .ok (.iload 7, 2) := by decide +kernel
theorem dX10_nearLine_159 : decode cX10_nearLine 159 = .ok (.iaload, 1) := by decide +kernel
theorem dX10_nearLine_160 : decode cX10_nearLine 160 = .ok (.invokestatic 123, 3) := by decide +kernel
theorem dX10_nearLine_163 : decode cX10_nearLine 163 = .ok (.istore 5, 2) := by decide +kernel
theorem dX10_nearLine_165 : decode cX10_nearLine 165 = .ok (.iinc 7 1, 3) := by decide +kernel
theorem dX10_nearLine_168 : decode cX10_nearLine 168 = .ok (.goto (-116), 3) := by decide +kernel
theorem dX10_nearLine_171 : decode cX10_nearLine 171 = .ok (.iinc 6 1, 3) := by decide +kernel
theorem dX10_nearLine_174 : decode cX10_nearLine 174 = .ok (.goto (-137), 3) := by decide +kernel
theorem dX10_nearLine_177 : decode cX10_nearLine 177 = .ok (.iload 5, 2) := by decide +kernel
theorem dX10_nearLine_179 : decode cX10_nearLine 179 = .ok (.ireturn, 1) := by decide +kernel
theorem dX10_isSameSide_0 : decode cX10_isSameSide 0 = .ok (.aload_n 0, 1) := by decide +kernel
theorem dX10_isSameSide_1 : decode cX10_isSameSide 1 = .ok (.getfield 31, 3) := by decide +kernel
theorem dX10_isSameSide_4 : decode cX10_isSameSide 4 = .ok (.getfield 150, 3) := by decide +kernel
theorem dX10_isSameSide_7 : decode cX10_isSameSide 7 = .ok (.iload_n 1, 1) := by decide +kernel
theorem dX10_isSameSide_8 : decode cX10_isSameSide 8 = .ok (.iaload, 1) := by decide +kernel
theorem dX10_isSameSide_9 : decode cX10_isSameSide 9 = .ok (.iconst 1, 1) := by decide +kernel
theorem dX10_isSameSide_10 : decode cX10_isSameSide 10 = .ok (.iand, 1) := by decide +kernel
theorem dX10_isSameSide_11 : decode cX10_isSameSide 11 = .ok (.aload_n 0, 1) := by decide +kernel
theorem dX10_isSameSide_12 : decode cX10_isSameSide 12 = .ok (.getfield 31, 3) := by decide +kernel
theorem dX10_isSameSide_15 : decode cX10_isSameSide 15 = .ok (.getfield 150, 3) := by decide +kernel
theorem dX10_isSameSide_18 : decode cX10_isSameSide 18 = .ok (.iload_n 2, 1) := by decide +kernel
theorem dX10_isSameSide_19 : decode cX10_isSameSide 19 = .ok (.iaload, 1) := by decide +kernel
theorem dX10_isSameSide_20 : decode cX10_isSameSide 20 = .ok (.iconst 1, 1) := by decide +kernel
theorem dX10_isSameSide_21 : decode cX10_isSameSide 21 = .ok (.ishr, 1) := by decide +kernel
theorem dX10_isSameSide_22 : decode cX10_isSameSide 22 = .ok (.if_icmp .ne 7, 3) := by decide +kernel
theorem dX10_isSameSide_25 : decode cX10_isSameSide 25 = .ok (.iconst 1, 1) := by decide +kernel
theorem dX10_isSameSide_26 : decode cX10_isSameSide 26 = .ok (.goto 4, 3) := by decide +kernel
theorem dX10_isSameSide_29 : decode cX10_isSameSide 29 = .ok (.iconst 0, 1) := by decide +kernel
theorem dX10_isSameSide_30 : decode cX10_isSameSide 30 = .ok (.ireturn, 1) := by decide +kernel
theorem dX10_findBarred_0 : decode cX10_findBarred 0 = .ok (.aload_n 0, 1) := by decide +kernel
theorem dX10_findBarred_1 : decode cX10_findBarred 1 = .ok (.getfield 18, 3) := by decide +kernel
theorem dX10_findBarred_4 : decode cX10_findBarred 4 = .ok (.iconst 0, 1) := by decide +kernel
theorem dX10_findBarred_5 : decode cX10_findBarred 5 = .ok (.invokestatic 153, 3) := by decide +kernel
theorem dX10_findBarred_8 : decode cX10_findBarred 8 = .ok (.iconst 0, 1) := by decide +kernel
theorem dX10_findBarred_9 : decode cX10_findBarred 9 = .ok (.istore_n 1, 1) := by decide +kernel
theorem dX10_findBarred_10 : decode cX10_findBarred 10 = .ok (.iload_n 1, 1) := by decide +kernel
theorem dX10_findBarred_11 : decode cX10_findBarred 11 = .ok (.aload_n 0, 1) := by decide +kernel
theorem dX10_findBarred_12 : decode cX10_findBarred 12 = .ok (.getfield 31, 3) := by decide +kernel
theorem dX10_findBarred_15 : decode cX10_findBarred 15 = .ok (.getfield 159, 3) := by decide +kernel
theorem dX10_findBarred_18 : decode cX10_findBarred 18 = .ok (.if_icmp .ge 63, 3) := by decide +kernel
theorem dX10_findBarred_21 : decode cX10_findBarred 21 = .ok (.iload_n 1, 1) := by decide +kernel
theorem dX10_findBarred_22 : decode cX10_findBarred 22 = .ok (.iconst 1, 1) := by decide +kernel
theorem dX10_findBarred_23 : decode cX10_findBarred 23 = .ok (.iadd, 1) := by decide +kernel
theorem dX10_findBarred_24 : decode cX10_findBarred 24 = .ok (.istore_n 2, 1) := by decide +kernel
theorem dX10_findBarred_25 : decode cX10_findBarred 25 = .ok (.iload_n 2, 1) := by decide +kernel
theorem dX10_findBarred_26 : decode cX10_findBarred 26 = .ok (.aload_n 0, 1) := by decide +kernel
theorem dX10_findBarred_27 : decode cX10_findBarred 27 = .ok (.getfield 31, 3) := by decide +kernel
theorem dX10_findBarred_30 : decode cX10_findBarred 30 = .ok (.getfield 159, 3) := by decide +kernel
theorem dX10_findBarred_33 : decode cX10_findBarred 33 = .ok (.if_icmp .ge 42, 3) := by decide +kernel
theorem dX10_findBarred_36 : decode cX10_findBarred 36 = .ok (.aload_n 0, 1) := by decide +kernel
theorem dX10_findBarred_37 : decode cX10_findBarred 37 = .ok (.iload_n 1, 1) := by decide +kernel
theorem dX10_findBarred_38 : decode cX10_findBarred 38 = .ok (.iload_n 2, 1) := by decide +kernel
theorem dX10_findBarred_39 : decode cX10_findBarred 39 = .ok (.invokevirtual 162, 3) := by decide +kernel
theorem dX10_findBarred_42 : decode cX10_findBarred 42 = .ok (.ifCond .eq 27, 3) := by decide +kernel
theorem dX10_findBarred_45 : decode cX10_findBarred 45 = .ok (.aload_n 0, 1) := by decide +kernel
theorem dX10_findBarred_46 : decode cX10_findBarred 46 = .ok (.getfield 18, 3) := by decide +kernel
theorem dX10_findBarred_49 : decode cX10_findBarred 49 = .ok (.iload_n 1, 1) := by decide +kernel
theorem dX10_findBarred_50 : decode cX10_findBarred 50 = .ok (.dup2, 1) := by decide +kernel
theorem dX10_findBarred_51 : decode cX10_findBarred 51 = .ok (.iaload, 1) := by decide +kernel
theorem dX10_findBarred_52 : decode cX10_findBarred 52 = .ok (.iconst 1, 1) := by decide +kernel
theorem dX10_findBarred_53 : decode cX10_findBarred 53 = .ok (.iload_n 2, 1) := by decide +kernel
theorem dX10_findBarred_54 : decode cX10_findBarred 54 = .ok (.ishl, 1) := by decide +kernel
theorem dX10_findBarred_55 : decode cX10_findBarred 55 = .ok (.ior, 1) := by decide +kernel
theorem dX10_findBarred_56 : decode cX10_findBarred 56 = .ok (.iastore, 1) := by decide +kernel
theorem dX10_findBarred_57 : decode cX10_findBarred 57 = .ok (.aload_n 0, 1) := by decide +kernel
theorem dX10_findBarred_58 : decode cX10_findBarred 58 = .ok (.getfield 18, 3) := by decide +kernel
theorem dX10_findBarred_61 : decode cX10_findBarred 61 = .ok (.iload_n 2, 1) := by decide +kernel
theorem dX10_findBarred_62 : decode cX10_findBarred 62 = .ok (.dup2, 1) := by decide +kernel
theorem dX10_findBarred_63 : decode cX10_findBarred 63 = .ok (.iaload, 1) := by decide +kernel
theorem dX10_findBarred_64 : decode cX10_findBarred 64 = .ok (.iconst 1, 1) := by decide +kernel
theorem dX10_findBarred_65 : decode cX10_findBarred 65 = .ok (.iload_n 1, 1) := by decide +kernel
theorem dX10_findBarred_66 : decode cX10_findBarred 66 = .ok (.ishl, 1) := by decide +kernel
theorem dX10_findBarred_67 : decode cX10_findBarred 67 = .ok (.ior, 1) := by decide +kernel
theorem dX10_findBarred_68 : decode cX10_findBarred 68 = .ok (.iastore, 1) := by decide +kernel
theorem dX10_findBarred_69 : decode cX10_findBarred 69 = .ok (.iinc 2 1, 3) := by decide +kernel
theorem dX10_findBarred_72 : decode cX10_findBarred 72 = .ok (.goto (-47), 3) := by decide +kernel
theorem dX10_findBarred_75 : decode cX10_findBarred 75 = .ok (.iinc 1 1, 3) := by decide +kernel
theorem dX10_findBarred_78 : decode cX10_findBarred 78 = .ok (.goto (-68), 3) := by decide +kernel
theorem dX10_findBarred_81 : decode cX10_findBarred 81 = .ok (.return_, 1) := by decide +kernel
theorem dX10_findBar_0 : decode cX10_findBar 0 = .ok (.iconst 0, 1) := by decide +kernel
theorem dX10_findBar_1 : decode cX10_findBar 1 = .ok (.istore_n 1, 1) := by decide +kernel
theorem dX10_findBar_2 : decode cX10_findBar 2 = .ok (.iload_n 1, 1) := by decide +kernel
theorem dX10_findBar_3 : decode cX10_findBar 3 = .ok (.aload_n 0, 1) := by decide +kernel
theorem dX10_findBar_4 : decode cX10_findBar 4 = .ok (.getfield 31, 3) := by decide +kernel
theorem dX10_findBar_7 : decode cX10_findBar 7 = .ok (.getfield 159, 3) := by decide +kernel
theorem dX10_findBar_10 : decode cX10_findBar 10 = .ok (.if_icmp .ge 55, 3) := by decide +kernel
theorem dX10_findBar_13 : decode cX10_findBar 13 = .ok (.aload_n 0, 1) := by decide +kernel
theorem dX10_findBar_14 : decode cX10_findBar 14 = .ok (.getfield 31, 3) := by decide +kernel
theorem dX10_findBar_17 : decode cX10_findBar 17 = .ok (.getfield 165, 3) := by decide +kernel
theorem dX10_findBar_20 : decode cX10_findBar 20 = .ok (.iload_n 1, 1) := by decide +kernel
theorem dX10_findBar_21 : decode cX10_findBar 21 = .ok (.iaload, 1) := by decide +kernel
theorem dX10_findBar_22 : decode cX10_findBar 22 = .ok (.istore_n 2, 1) := by decide +kernel
theorem dX10_findBar_23 : decode cX10_findBar 23 = .ok (.iload_n 2, 1) := by decide +kernel
theorem dX10_findBar_24 : decode cX10_findBar 24 = .ok (.iconst (-1), 1) := by decide +kernel
theorem dX10_findBar_25 : decode cX10_findBar 25 = .ok (.if_icmp .eq 34, 3) := by decide +kernel
theorem dX10_findBar_28 : decode cX10_findBar 28 = .ok (.aload_n 0, 1) := by decide +kernel
theorem dX10_findBar_29 : decode cX10_findBar 29 = .ok (.iload_n 1, 1) := by decide +kernel
theorem dX10_findBar_30 : decode cX10_findBar 30 = .ok (.putfield 21, 3) := by decide +kernel
theorem dX10_findBar_33 : decode cX10_findBar 33 = .ok (.aload_n 0, 1) := by decide +kernel
theorem dX10_findBar_34 : decode cX10_findBar 34 = .ok (.iload_n 2, 1) := by decide +kernel
theorem dX10_findBar_35 : decode cX10_findBar 35 = .ok (.iload_n 1, 1) := by decide +kernel
theorem dX10_findBar_36 : decode cX10_findBar 36 = .ok (.invokevirtual 168, 3) := by decide +kernel
theorem dX10_findBar_39 : decode cX10_findBar 39 = .ok (.ifCond .eq 12, 3) := by decide +kernel
theorem dX10_findBar_42 : decode cX10_findBar 42 = .ok (.aload_n 0, 1) := by decide +kernel
theorem dX10_findBar_43 : decode cX10_findBar 43 = .ok (.iload_n 1, 1) := by decide +kernel
theorem dX10_findBar_44 : decode cX10_findBar 44 = .ok (.iload_n 2, 1) := by decide +kernel
theorem dX10_findBar_45 : decode cX10_findBar 45 = .ok (.invokevirtual 171, 3) := by decide +kernel
theorem dX10_findBar_48 : decode cX10_findBar 48 = .ok (.goto 4, 3) := by decide +kernel
theorem dX10_findBar_51 : decode cX10_findBar 51 = .ok (.iconst 1, 1) := by decide +kernel
theorem dX10_findBar_52 : decode cX10_findBar 52 = .ok (.istore_n 3, 1) := by decide +kernel
theorem dX10_findBar_53 : decode cX10_findBar 53 = .ok (.iload_n 3, 1) := by decide +kernel
theorem dX10_findBar_54 : decode cX10_findBar 54 = .ok (.ifCond .eq 5, 3) := by decide +kernel
theorem dX10_findBar_57 : decode cX10_findBar 57 = .ok (.iload_n 3, 1) := by decide +kernel
theorem dX10_findBar_58 : decode cX10_findBar 58 = .ok (.ireturn, 1) := by decide +kernel
theorem dX10_findBar_59 : decode cX10_findBar 59 = .ok (.iinc 1 1, 3) := by decide +kernel
theorem dX10_findBar_62 : decode cX10_findBar 62 = .ok (.goto (-60), 3) := by decide +kernel
theorem dX10_findBar_65 : decode cX10_findBar 65 = .ok (.iconst 0, 1) := by decide +kernel
theorem dX10_findBar_66 : decode cX10_findBar 66 = .ok (.ireturn, 1) := by decide +kernel
theorem dX10_findBarAbove_0 : decode cX10_findBarAbove 0 = .ok (.iload_n 1, 1) := by decide +kernel
theorem dX10_findBarAbove_1 : decode cX10_findBarAbove 1 = .ok (.iconst 1, 1) := by decide +kernel
theorem dX10_findBarAbove_2 : decode cX10_findBarAbove 2 = .ok (.iadd, 1) := by decide +kernel
theorem dX10_findBarAbove_3 : decode cX10_findBarAbove 3 = .ok (.istore_n 3, 1) := by decide +kernel
theorem dX10_findBarAbove_4 : decode cX10_findBarAbove 4 = .ok (.iload_n 3, 1) := by decide +kernel
theorem dX10_findBarAbove_5 : decode cX10_findBarAbove 5 = .ok (.aload_n 0, 1) := by decide +kernel
theorem dX10_findBarAbove_6 : decode cX10_findBarAbove 6 = .ok (.getfield 31, 3) := by decide +kernel
theorem dX10_findBarAbove_9 : decode cX10_findBarAbove 9 = .ok (.getfield 159, 3) := by decide +kernel
theorem dX10_findBarAbove_12 : decode cX10_findBarAbove 12 = .ok (.if_icmp .ge 43, 3) := by decide +kernel
theorem dX10_findBarAbove_15 : decode cX10_findBarAbove 15 = .ok (.aload_n 0, 1) := by decide +kernel
theorem dX10_findBarAbove_16 : decode cX10_findBarAbove 16 = .ok (.getfield 31, 3) := by decide +kernel
theorem dX10_findBarAbove_19 : decode cX10_findBarAbove 19 = .ok (.getfield 165, 3) := by decide +kernel
theorem dX10_findBarAbove_22 : decode cX10_findBarAbove 22 = .ok (.iload_n 3, 1) := by decide +kernel
theorem dX10_findBarAbove_23 : decode cX10_findBarAbove 23 = .ok (.iaload, 1) := by decide +kernel
theorem dX10_findBarAbove_24 : decode cX10_findBarAbove 24 = .ok (.iload_n 2, 1) := by decide +kernel
theorem dX10_findBarAbove_25 : decode cX10_findBarAbove 25 = .ok (.if_icmp .ne 24, 3) := by decide +kernel
theorem dX10_findBarAbove_28 : decode cX10_findBarAbove 28 = .ok (.aload_n 0, 1) := by decide +kernel
theorem dX10_findBarAbove_29 : decode cX10_findBarAbove 29 = .ok (.iload_n 3, 1) := by decide +kernel
theorem dX10_findBarAbove_30 : decode cX10_findBarAbove 30 = .ok (.putfield 25, 3) := by decide +kernel
theorem dX10_findBarAbove_33 : decode cX10_findBarAbove 33 = .ok (.aload_n 0, 1) := by decide +kernel
theorem dX10_findBarAbove_34 : decode cX10_findBarAbove 34 = .ok (.iload_n 1, 1) := by decide +kernel
theorem dX10_findBarAbove_35 : decode cX10_findBarAbove 35 = .ok (.iload_n 3, 1) := by decide +kernel
theorem dX10_findBarAbove_36 : decode cX10_findBarAbove 36 = .ok (.invokevirtual 162, 3) := by decide +kernel
theorem dX10_findBarAbove_39 : decode cX10_findBarAbove 39 = .ok (.istore 4, 2) := by decide +kernel
theorem dX10_findBarAbove_41 : decode cX10_findBarAbove 41 = .ok (.iload 4, 2) := by decide +kernel
theorem dX10_findBarAbove_43 : decode cX10_findBarAbove 43 = .ok (.ifCond .eq 6, 3) := by decide +kernel
theorem dX10_findBarAbove_46 : decode cX10_findBarAbove 46 = .ok (.iload 4, 2) := by decide +kernel
theorem dX10_findBarAbove_48 : decode cX10_findBarAbove 48 = .ok (.ireturn, 1) := by decide +kernel
theorem dX10_findBarAbove_49 : decode cX10_findBarAbove 49 = .ok (.iinc 3 1, 3) := by decide +kernel
theorem dX10_findBarAbove_52 : decode cX10_findBarAbove 52 = .ok (.goto (-48), 3) := by decide +kernel
theorem dX10_findBarAbove_55 : decode cX10_findBarAbove 55 = .ok (.iconst 0, 1) := by decide +kernel
theorem dX10_findBarAbove_56 : decode cX10_findBarAbove 56 = .ok (.ireturn, 1) := by decide +kernel
theorem dX11_init_0 : decode cX11_init 0 = .ok (.aload_n 0, 1) := by decide +kernel
theorem dX11_init_1 : decode cX11_init 1 = .ok (.invokespecial 3, 3) := by decide +kernel
theorem dX11_init_4 : decode cX11_init 4 = .ok (.aload_n 0, 1) := by decide +kernel
theorem dX11_init_5 : decode cX11_init 5 = .ok (.new 9, 3) := by decide +kernel
theorem dX11_init_8 : decode cX11_init 8 = .ok (.dup, 1) := by decide +kernel
theorem dX11_init_9 : decode cX11_init 9 = .ok (.invokespecial 11, 3) := by decide +kernel
theorem dX11_init_12 : decode cX11_init 12 = .ok (.putfield 12, 3) := by decide +kernel
theorem dX11_init_15 : decode cX11_init 15 = .ok (.aload_n 0, 1) := by decide +kernel
theorem dX11_init_16 : decode cX11_init 16 = .ok (.new 16, 3) := by decide +kernel
theorem dX11_init_19 : decode cX11_init 19 = .ok (.dup, 1) := by decide +kernel
theorem dX11_init_20 : decode cX11_init 20 = .ok (.aload_n 0, 1) := by decide +kernel
theorem dX11_init_21 : decode cX11_init 21 = .ok (.getfield 12, 3) := by decide +kernel
theorem dX11_init_24 : decode cX11_init 24 = .ok (.invokespecial 18, 3) := by decide +kernel
theorem dX11_init_27 : decode cX11_init 27 = .ok (.putfield 21, 3) := by decide +kernel
theorem dX11_init_30 : decode cX11_init 30 = .ok (.aload_n 0, 1) := by decide +kernel
theorem dX11_init_31 : decode cX11_init 31 = .ok (.new 25, 3) := by decide +kernel
theorem dX11_init_34 : decode cX11_init 34 = .ok (.dup, 1) := by decide +kernel
theorem dX11_init_35 : decode cX11_init 35 = .ok (.aload_n 0, 1) := by decide +kernel
theorem dX11_init_36 : decode cX11_init 36 = .ok (.getfield 12, 3) := by decide +kernel
theorem dX11_init_39 : decode cX11_init 39 = .ok (.aload_n 0, 1) := by decide +kernel
theorem dX11_init_40 : decode cX11_init 40 = .ok (.getfield 21, 3) := by decide +kernel
theorem dX11_init_43 : decode cX11_init 43 = .ok (.invokespecial 27, 3) := by decide +kernel
theorem dX11_init_46 : decode cX11_init 46 = .ok (.putfield 30, 3) := by decide +kernel
theorem dX11_init_49 : decode cX11_init 49 = .ok (.aload_n 0, 1) := by decide +kernel
theorem dX11_init_50 : decode cX11_init 50 = .ok (.new 34, 3) := by decide +kernel
theorem dX11_init_53 : decode cX11_init 53 = .ok (.dup, 1) := by decide +kernel
theorem dX11_init_54 : decode cX11_init 54 = .ok (.invokespecial 36, 3) := by decide +kernel
theorem dX11_init_57 : decode cX11_init 57 = .ok (.putfield 37, 3) := by decide +kernel
theorem dX11_init_60 : decode cX11_init 60 = .ok (.aload_n 0, 1) := by decide +kernel
theorem dX11_init_61 : decode cX11_init 61 = .ok (.new 9, 3) := by decide +kernel
theorem dX11_init_64 : decode cX11_init 64 = .ok (.dup, 1) := by decide +kernel
theorem dX11_init_65 : decode cX11_init 65 = .ok (.invokespecial 11, 3) := by decide +kernel
theorem dX11_init_68 : decode cX11_init 68 = .ok (.putfield 41, 3) := by decide +kernel
theorem dX11_init_71 : decode cX11_init 71 = .ok (.aload_n 0, 1) := by decide +kernel
theorem dX11_init_72 : decode cX11_init 72 = .ok (.new 44, 3) := by decide +kernel
theorem dX11_init_75 : decode cX11_init 75 = .ok (.dup, 1) := by decide +kernel
theorem dX11_init_76 : decode cX11_init 76 = .ok (.bipush 40, 2) := by decide +kernel
theorem dX11_init_78 : decode cX11_init 78 = .ok (.invokespecial 46, 3) := by decide +kernel
theorem dX11_init_81 : decode cX11_init 81 = .ok (.putfield 49, 3) := by decide +kernel
theorem dX11_init_84 : decode cX11_init 84 = .ok (.aload_n 0, 1) := by decide +kernel
theorem dX11_init_85 : decode cX11_init 85 = .ok (.iconst 4, 1) := by decide +kernel
theorem dX11_init_86 : decode cX11_init 86 = .ok (.anewarray 44, 3) := by decide +kernel
theorem dX11_init_89 : decode cX11_init 89 = .ok (.putfield 53, 3) := by decide +kernel
theorem dX11_init_92 : decode cX11_init 92 = .ok (.aload_n 0, 1) := by decide +kernel
theorem dX11_init_93 : decode cX11_init 93 = .ok (.iconst 4, 1) := by decide +kernel
theorem dX11_init_94 : decode cX11_init 94 = .ok (.newarray .int, 2) := by decide +kernel
theorem dX11_init_96 : decode cX11_init 96 = .ok (.putfield 57, 3) := by decide +kernel
theorem dX11_init_99 : decode cX11_init 99 = .ok (.aload_n 0, 1) := by decide +kernel
theorem dX11_init_100 : decode cX11_init 100 = .ok (.bipush 6, 2) := by decide +kernel
theorem dX11_init_102 : decode cX11_init 102 = .ok (.newarray .int, 2) := by decide +kernel
theorem dX11_init_104 : decode cX11_init 104 = .ok (.putfield 61, 3) := by decide +kernel
theorem dX11_init_107 : decode cX11_init 107 = .ok (.aload_n 0, 1) := by decide +kernel
theorem dX11_init_108 : decode cX11_init 108 = .ok (.iconst 0, 1) := by decide +kernel
theorem dX11_init_109 : decode cX11_init 109 = .ok (.putfield 64, 3) := by decide +kernel
theorem dX11_init_112 : decode cX11_init 112 = .ok (.iconst 0, 1) := by decide +kernel
theorem dX11_init_113 : decode cX11_init 113 = .ok (.istore_n 1, 1) := by decide +kernel
theorem dX11_init_114 : decode cX11_init 114 = .ok (.iload_n 1, 1) := by decide +kernel
theorem dX11_init_115 : decode cX11_init 115 = .ok (.iconst 4, 1) := by decide +kernel
theorem dX11_init_116 : decode cX11_init 116 = .ok (.if_icmp .ge 24, 3) := by decide +kernel
theorem dX11_init_119 : decode cX11_init 119 = .ok (.aload_n 0, 1) := by decide +kernel
theorem dX11_init_120 : decode cX11_init 120 = .ok (.getfield 53, 3) := by decide +kernel
theorem dX11_init_123 : decode cX11_init 123 = .ok (.iload_n 1, 1) := by decide +kernel
theorem dX11_init_124 : decode cX11_init 124 = .ok (.new 44, 3) := by decide +kernel
theorem dX11_init_127 : decode cX11_init 127 = .ok (.dup, 1) := by decide +kernel
theorem dX11_init_128 : decode cX11_init 128 = .ok (.bipush 24, 2) := by decide +kernel
theorem dX11_init_130 : decode cX11_init 130 = .ok (.invokespecial 46, 3) := by decide +kernel
theorem dX11_init_133 : decode cX11_init 133 = .ok (.aastore, 1) := by decide +kernel
theorem dX11_init_134 : decode cX11_init 134 = .ok (.iinc 1 1, 3) := by decide +kernel
theorem dX11_init_137 : decode cX11_init 137 = .ok (.goto (-23), 3) := by decide +kernel
theorem dX11_init_140 : decode cX11_init 140 = .ok (.return_, 1) := by decide +kernel
theorem dX11_lines_0 : decode cX11_lines 0 = .ok (.iload_n 1, 1) := by decide +kernel
theorem dX11_lines_1 : decode cX11_lines 1 = .ok (.bipush 10, 2) := by decide +kernel
theorem dX11_lines_3 : decode cX11_lines 3 = .ok (.if_icmp .lt 10, 3) := by decide +kernel
theorem dX11_lines_6 : decode cX11_lines 6 = .ok (.iload_n 1, 1) := by decide +kernel
theorem dX11_lines_7 : decode cX11_lines 7 = .ok (.sipush 200, 3) := by decide +kernel
theorem dX11_lines_10 : decode cX11_lines 10 = .ok (.if_icmp .le 9, 3) := by decide +kernel
theorem dX11_lines_13 : decode cX11_lines 13 = .ok (.aload_n 0, 1) := by decide +kernel
theorem dX11_lines_14 : decode cX11_lines 14 = .ok (.iconst 1, 1) := by decide +kernel
theorem dX11_lines_15 : decode cX11_lines 15 = .ok (.invokevirtual 68, 3) := by decide +kernel
theorem dX11_lines_18 : decode cX11_lines 18 = .ok (.ireturn, 1) := by decide +kernel
theorem dX11_lines_19 : decode cX11_lines 19 = .ok (.aload_n 0, 1) := by decide +kernel
theorem dX11_lines_20 : decode cX11_lines 20 = .ok (.getfield 12, 3) := by decide +kernel
theorem dX11_lines_23 : decode cX11_lines 23 = .ok (.invokevirtual 72, 3) := by decide +kernel
theorem dX11_lines_26 : decode cX11_lines 26 = .ok (.iload_n 1, 1) := by decide +kernel
theorem dX11_lines_27 : decode cX11_lines 27 = .ok (.if_icmp .lt 9, 3) := by decide +kernel
theorem dX11_lines_30 : decode cX11_lines 30 = .ok (.aload_n 0, 1) := by decide +kernel
theorem dX11_lines_31 : decode cX11_lines 31 = .ok (.iconst 3, 1) := by decide +kernel
theorem dX11_lines_32 : decode cX11_lines 32 = .ok (.invokevirtual 68, 3) := by decide +kernel
theorem dX11_lines_35 : decode cX11_lines 35 = .ok (.ireturn, 1) := by decide +kernel
theorem dX11_lines_36 : decode cX11_lines 36 = .ok (.aload_n 0, 1) := by decide +kernel
theorem dX11_lines_37 : decode cX11_lines 37 = .ok (.getfield 12, 3) := by decide +kernel
theorem dX11_lines_40 : decode cX11_lines 40 = .ok (.getfield 76, 3) := by decide +kernel
theorem dX11_lines_43 : decode cX11_lines 43 = .ok (.istore_n 2, 1) := by decide +kernel
theorem dX11_lines_44 : decode cX11_lines 44 = .ok (.aload_n 0, 1) := by decide +kernel
theorem dX11_lines_45 : decode cX11_lines 45 = .ok (.getfield 12, 3) := by decide +kernel
theorem dX11_lines_48 : decode cX11_lines 48 = .ok (.iload_n 1, 1) := by decide +kernel
theorem dX11_lines_49 : decode cX11_lines 49 = .ok (.putfield 76, 3) := by decide +kernel
theorem dX11_lines_52 : decode cX11_lines 52 = .ok (.iload_n 2, 1) := by decide +kernel
theorem dX11_lines_53 : decode cX11_lines 53 = .ok (.ireturn, 1) := by decide +kernel
theorem dX11_part_0 : decode cX11_part 0 = .ok (.iload_n 1, 1) := by decide +kernel
theorem dX11_part_1 : decode cX11_part 1 = .ok (.bipush 6, 2) := by decide +kernel
theorem dX11_part_3 : decode cX11_part 3 = .ok (.invokestatic 79, 3) := by decide +kernel
theorem dX11_part_6 : decode cX11_part 6 = .ok (.ifCond .eq 13, 3) := by decide +kernel
theorem dX11_part_9 : decode cX11_part 9 = .ok (.iload_n 2, 1) := by decide +kernel
theorem dX11_part_10 : decode cX11_part 10 = .ok (.sipush 10000, 3) := by decide +kernel
theorem dX11_part_13 : decode cX11_part 13 = .ok (.invokestatic 79, 3) := by decide +kernel
theorem dX11_part_16 : decode cX11_part 16 = .ok (.ifCond .ne 9, 3) := by decide +kernel
theorem dX11_part_19 : decode cX11_part 19 = .ok (.aload_n 0, 1) := by decide +kernel
theorem dX11_part_20 : decode cX11_part 20 = .ok (.iconst 1, 1) := by decide +kernel
theorem dX11_part_21 : decode cX11_part 21 = .ok (.invokevirtual 68, 3) := by decide +kernel
theorem dX11_part_24 : decode cX11_part 24 = .ok (.ireturn, 1) := by decide +kernel
theorem dX11_part_25 : decode cX11_part 25 = .ok (.aload_n 0, 1) := by decide +kernel
theorem dX11_part_26 : decode cX11_part 26 = .ok (.getfield 12, 3) := by decide +kernel
theorem dX11_part_29 : decode cX11_part 29 = .ok (.getfield 83, 3) := by decide +kernel
theorem dX11_part_32 : decode cX11_part 32 = .ok (.bipush 10, 2) := by decide +kernel
theorem dX11_part_34 : decode cX11_part 34 = .ok (.if_icmp .lt 9, 3) := by decide +kernel
theorem dX11_part_37 : decode cX11_part 37 = .ok (.aload_n 0, 1) := by decide +kernel
theorem dX11_part_38 : decode cX11_part 38 = .ok (.iconst 4, 1) := by decide +kernel
theorem dX11_part_39 : decode cX11_part 39 = .ok (.invokevirtual 68, 3) := by decide +kernel
theorem dX11_part_42 : decode cX11_part 42 = .ok (.ireturn, 1) := by decide +kernel
theorem dX11_part_43 : decode cX11_part 43 = .ok (.aload_n 0, 1) := by decide +kernel
theorem dX11_part_44 : decode cX11_part 44 = .ok (.getfield 12, 3) := by decide +kernel
theorem dX11_part_47 : decode cX11_part 47 = .ok (.aload_n 0, 1) := by decide +kernel
theorem dX11_part_48 : decode cX11_part 48 = .ok (.iload_n 1, 1) := by decide +kernel
theorem dX11_part_49 : decode cX11_part 49 = .ok (.iload_n 2, 1) := by decide +kernel
theorem dX11_part_50 : decode cX11_part 50 = .ok (.invokevirtual 86, 3) := by decide +kernel
theorem dX11_part_53 : decode cX11_part 53 = .ok (.invokevirtual 90, 3) := by decide +kernel
theorem dX11_part_56 : decode cX11_part 56 = .ok (.ireturn, 1) := by decide +kernel
theorem dX11_as_0 : decode cX11_as 0 = .ok (.aload_n 0, 1) := by decide +kernel
theorem dX11_as_1 : decode cX11_as 1 = .ok (.getfield 12, 3) := by decide +kernel
theorem dX11_as_4 : decode cX11_as 4 = .ok (.iload_n 1, 1) := by decide +kernel
theorem dX11_as_5 : decode cX11_as 5 = .ok (.invokevirtual 94, 3) := by decide +kernel
theorem dX11_as_8 : decode cX11_as 8 = .ok (.ifCond .eq 12, 3) := by decide +kernel
theorem dX11_as_11 : decode cX11_as 11 = .ok (.iload_n 2, 1) := by decide +kernel
theorem dX11_as_12 : decode cX11_as 12 = .ok (.bipush 6, 2) := by decide +kernel
theorem dX11_as_14 : decode cX11_as 14 = .ok (.invokestatic 79, 3) := by decide +kernel
theorem dX11_as_17 : decode cX11_as 17 = .ok (.ifCond .ne 9, 3) := by decide +kernel
theorem dX11_as_20 : decode cX11_as 20 = .ok (.aload_n 0, 1) := by decide +kernel
theorem dX11_as_21 : decode cX11_as 21 = .ok (.iconst 1, 1) := by decide +kernel
theorem dX11_as_22 : decode cX11_as 22 = .ok (.invokevirtual 68, 3) := by decide +kernel
theorem dX11_as_25 : decode cX11_as 25 = .ok (.ireturn, 1) := by decide +kernel
theorem dX11_as_26 : decode cX11_as 26 = .ok (.aload_n 0, 1) := by decide +kernel
theorem dX11_as_27 : decode cX11_as 27 = .ok (.getfield 12, 3) := by decide +kernel
theorem dX11_as_30 : decode cX11_as 30 = .ok (.getfield 98, 3) := by decide +kernel
theorem dX11_as_33 : decode cX11_as 33 = .ok (.iload_n 1, 1) := by decide +kernel
theorem dX11_as_34 : decode cX11_as 34 = .ok (.aaload, 1) := by decide +kernel
theorem dX11_as_35 : decode cX11_as 35 = .ok (.iload_n 2, 1) := by decide +kernel
theorem dX11_as_36 : decode cX11_as 36 = .ok (.invokevirtual 102, 3) := by decide +kernel
theorem dX11_as_39 : decode cX11_as 39 = .ok (.ifCond .ne 9, 3) := by decide +kernel
theorem dX11_as_42 : decode cX11_as 42 = .ok (.aload_n 0, 1) := by decide +kernel
theorem dX11_as_43 : decode cX11_as 43 = .ok (.iconst 5, 1) := by decide +kernel
theorem dX11_as_44 : decode cX11_as 44 = .ok (.invokevirtual 68, 3) := by decide +kernel
theorem dX11_as_47 : decode cX11_as 47 = .ok (.ireturn, 1) := by decide +kernel
theorem dX11_as_48 : decode cX11_as 48 = .ok (.aload_n 0, 1) := by decide +kernel
theorem dX11_as_49 : decode cX11_as 49 = .ok (.getfield 12, 3) := by decide +kernel
theorem dX11_as_52 : decode cX11_as 52 = .ok (.iload_n 1, 1) := by decide +kernel
theorem dX11_as_53 : decode cX11_as 53 = .ok (.invokevirtual 107, 3) := by decide +kernel
theorem dX11_as_56 : decode cX11_as 56 = .ok (.ireturn, 1) := by decide +kernel
theorem dX11_partIs_0 : decode cX11_partIs 0 = .ok (.aload_n 0, 1) := by decide +kernel
theorem dX11_partIs_1 : decode cX11_partIs 1 = .ok (.getfield 12, 3) := by decide +kernel
theorem dX11_partIs_4 : decode cX11_partIs 4 = .ok (.iload_n 1, 1) := by decide +kernel
theorem dX11_partIs_5 : decode cX11_partIs 5 = .ok (.invokevirtual 94, 3) := by decide +kernel
theorem dX11_partIs_8 : decode cX11_partIs 8 = .ok (.ifCond .eq 12, 3) := by decide +kernel
theorem dX11_partIs_11 : decode cX11_partIs 11 = .ok (.iload_n 2, 1) := by decide +kernel
theorem dX11_partIs_12 : decode cX11_partIs 12 = .ok (.bipush 6, 2) := by decide +kernel
theorem dX11_partIs_14 : decode cX11_partIs 14 = .ok (.invokestatic 79, 3) := by decide +kernel
theorem dX11_partIs_17 : decode cX11_partIs 17 = .ok (.ifCond .ne 9, 3) := by decide +kernel
theorem dX11_partIs_20 : decode cX11_partIs 20 = .ok (.aload_n 0, 1) := by decide +kernel
theorem dX11_partIs_21 : decode cX11_partIs 21 = .ok (.iconst 1, 1) := by decide +kernel
theorem dX11_partIs_22 : decode cX11_partIs 22 = .ok (.invokevirtual 68, 3) := by decide +kernel
theorem dX11_partIs_25 : decode cX11_partIs 25 = .ok (.ireturn, 1) := by decide +kernel
theorem dX11_partIs_26 : decode cX11_partIs 26 = .ok (.aload_n 0, 1) := by decide +kernel
theorem dX11_partIs_27 : decode cX11_partIs 27 = .ok (.getfield 12, 3) := by decide +kernel
theorem dX11_partIs_30 : decode cX11_partIs 30 = .ok (.getfield 98, 3) := by decide +kernel
theorem dX11_partIs_33 : decode cX11_partIs 33 = .ok (.iload_n 1, 1) := by decide +kernel
theorem dX11_partIs_34 : decode cX11_partIs 34 = .ok (.aaload, 1) := by decide +kernel
theorem dX11_partIs_35 : decode cX11_partIs 35 = .ok (.astore_n 3, 1) := by decide +kernel
theorem dX11_partIs_36 : decode cX11_partIs 36 = .ok (.iload_n 2, 1) := by decide +kernel
theorem dX11_partIs_37 : decode cX11_partIs 37 = .ok (.tableswitch 64 0 4 #[35, 40, 45, 50, 55], 35) := by decide +kernel
theorem dX11_partIs_72 : decode cX11_partIs 72 = .ok (.aload_n 3, 1) := by decide +kernel
theorem dX11_partIs_73 : decode cX11_partIs 73 = .ok (.getfield 110, 3) := by decide +kernel
theorem dX11_partIs_76 : decode cX11_partIs 76 = .ok (.ireturn, 1) := by decide +kernel
theorem dX11_partIs_77 : decode cX11_partIs 77 = .ok (.aload_n 3, 1) := by decide +kernel
theorem dX11_partIs_78 : decode cX11_partIs 78 = .ok (.getfield 113, 3) := by decide +kernel
theorem dX11_partIs_81 : decode cX11_partIs 81 = .ok (.ireturn, 1) := by decide +kernel
theorem dX11_partIs_82 : decode cX11_partIs 82 = .ok (.aload_n 3, 1) := by decide +kernel
theorem dX11_partIs_83 : decode cX11_partIs 83 = .ok (.getfield 116, 3) := by decide +kernel
theorem dX11_partIs_86 : decode cX11_partIs 86 = .ok (.ireturn, 1) := by decide +kernel
theorem dX11_partIs_87 : decode cX11_partIs 87 = .ok (.aload_n 3, 1) := by decide +kernel
theorem dX11_partIs_88 : decode cX11_partIs 88 = .ok (.getfield 119, 3) := by decide +kernel
theorem dX11_partIs_91 : decode cX11_partIs 91 = .ok (.ireturn, 1) := by decide +kernel
theorem dX11_partIs_92 : decode cX11_partIs 92 = .ok (.aload_n 0, 1) := by decide +kernel
theorem dX11_partIs_93 : decode cX11_partIs 93 = .ok (.getfield 12, 3) := by decide +kernel
theorem dX11_partIs_96 : decode cX11_partIs 96 = .ok (.iload_n 1, 1) := by decide +kernel
theorem dX11_partIs_97 : decode cX11_partIs 97 = .ok (.invokevirtual 107, 3) := by decide +kernel
theorem dX11_partIs_100 : decode cX11_partIs 100 = .ok (.ireturn, 1) := by decide +kernel
theorem dX11_partIs_101 : decode cX11_partIs 101 = .ok (.aload_n 0, 1) := by decide +kernel
theorem dX11_partIs_102 : decode cX11_partIs 102 = .ok (.getfield 12, 3) := by decide +kernel
theorem dX11_partIs_105 : decode cX11_partIs 105 = .ok (.iload_n 1, 1) := by decide +kernel
theorem dX11_partIs_106 : decode cX11_partIs 106 = .ok (.invokevirtual 122, 3) := by decide +kernel
theorem dX11_partIs_109 : decode cX11_partIs 109 = .ok (.ireturn, 1) := by decide +kernel
theorem dX11_entry_0 : decode cX11_entry 0 = .ok (.aload_n 0, 1) := by decide +kernel
theorem dX11_entry_1 : decode cX11_entry 1 = .ok (.getfield 12, 3) := by decide +kernel
theorem dX11_entry_4 : decode cX11_entry 4 = .ok (.iload_n 1, 1) := by decide +kernel
theorem dX11_entry_5 : decode cX11_entry 5 = .ok (.invokevirtual 94, 3) := by decide +kernel
theorem dX11_entry_8 : decode cX11_entry 8 = .ok (.ifCond .eq 39, 3) := by decide +kernel
theorem dX11_entry_11 : decode cX11_entry 11 = .ok (.aload_n 0, 1) := by decide +kernel
theorem dX11_entry_12 : decode cX11_entry 12 = .ok (.getfield 12, 3) := by decide +kernel
theorem dX11_entry_15 : decode cX11_entry 15 = .ok (.iload_n 2, 1) := by decide +kernel
theorem dX11_entry_16 : decode cX11_entry 16 = .ok (.invokevirtual 125, 3) := by decide +kernel
theorem dX11_entry_19 : decode cX11_entry 19 = .ok (.ifCond .eq 28, 3) := by decide +kernel
theorem dX11_entry_22 : decode cX11_entry 22 = .ok (.aload_n 0, 1) := by decide +kernel
theorem dX11_entry_23 : decode cX11_entry 23 = .ok (.getfield 12, 3) := by decide +kernel
theorem dX11_entry_26 : decode cX11_entry 26 = .ok (.iload_n 3, 1) := by decide +kernel
theorem dX11_entry_27 : decode cX11_entry 27 = .ok (.invokevirtual 125, 3) := by decide +kernel
theorem dX11_entry_30 : decode cX11_entry 30 = .ok (.ifCond .eq 17, 3) := by decide +kernel
theorem dX11_entry_33 : decode cX11_entry 33 = .ok (.iload_n 3, 1) := by decide +kernel
theorem dX11_entry_34 : decode cX11_entry 34 = .ok (.iload_n 2, 1) := by decide +kernel
theorem dX11_entry_35 : decode cX11_entry 35 = .ok (.if_icmp .lt 12, 3) := by decide +kernel
theorem dX11_entry_38 : decode cX11_entry 38 = .ok (.iload 4, 2) := by decide +kernel
theorem dX11_entry_40 : decode cX11_entry 40 = .ok (.iconst 4, 1) := by decide +kernel
theorem dX11_entry_41 : decode cX11_entry 41 = .ok (.invokestatic 79, 3) := by decide +kernel
theorem dX11_entry_44 : decode cX11_entry 44 = .ok (.ifCond .ne 9, 3) := by decide +kernel
theorem dX11_entry_47 : decode cX11_entry 47 = .ok (.aload_n 0, 1) := by decide +kernel
theorem dX11_entry_48 : decode cX11_entry 48 = .ok (.iconst 1, 1) := by decide +kernel
theorem dX11_entry_49 : decode cX11_entry 49 = .ok (.invokevirtual 68, 3) := by decide +kernel
theorem dX11_entry_52 : decode cX11_entry 52 = .ok (.ireturn, 1) := by decide +kernel
theorem dX11_entry_53 : decode cX11_entry 53 = .ok (.aload_n 0, 1) := by decide +kernel
theorem dX11_entry_54 : decode cX11_entry 54 = .ok (.getfield 12, 3) := by decide +kernel
theorem dX11_entry_57 : decode cX11_entry 57 = .ok (.iload_n 1, 1) := by decide +kernel
theorem dX11_entry_58 : decode cX11_entry 58 = .ok (.iload_n 2, 1) := by decide +kernel
theorem dX11_entry_59 : decode cX11_entry 59 = .ok (.iload_n 3, 1) := by decide +kernel
theorem dX11_entry_60 : decode cX11_entry 60 = .ok (.iconst (-1), 1) := by decide +kernel
theorem dX11_entry_61 : decode cX11_entry 61 = .ok (.invokevirtual 128, 3) := by decide +kernel
theorem dX11_entry_64 : decode cX11_entry 64 = .ok (.ifCond .eq 9, 3) := by decide +kernel
theorem dX11_entry_67 : decode cX11_entry 67 = .ok (.aload_n 0, 1) := by decide +kernel
theorem dX11_entry_68 : decode cX11_entry 68 = .ok (.iconst 3, 1) := by decide +kernel
theorem dX11_entry_69 : decode cX11_entry 69 = .ok (.invokevirtual 68, 3) := by decide +kernel
theorem dX11_entry_72 : decode cX11_entry 72 = .ok (.ireturn, 1) := by decide +kernel
theorem dX11_entry_73 : decode cX11_entry 73 = .ok (.aload_n 0, 1) := by decide +kernel
theorem dX11_entry_74 : decode cX11_entry 74 = .ok (.getfield 12, 3) := by decide +kernel
theorem dX11_entry_77 : decode cX11_entry 77 = .ok (.getfield 132, 3) := by decide +kernel
theorem dX11_entry_80 : decode cX11_entry 80 = .ok (.bipush 40, 2) := by decide +kernel
theorem dX11_entry_82 : decode cX11_entry 82 = .ok (.if_icmp .lt 9, 3) := by decide +kernel
theorem dX11_entry_85 : decode cX11_entry 85 = .ok (.aload_n 0, 1) := by decide +kernel
theorem dX11_entry_86 : decode cX11_entry 86 = .ok (.iconst 4, 1) := by decide +kernel
theorem dX11_entry_87 : decode cX11_entry 87 = .ok (.invokevirtual 68, 3) := by decide +kernel
theorem dX11_entry_90 : decode cX11_entry 90 = .ok (.ireturn, 1) := by decide +kernel
theorem dX11_entry_91 : decode cX11_entry 91 = .ok (.aload_n 0, 1) := by decide +kernel
theorem dX11_entry_92 : decode cX11_entry 92 = .ok (.getfield 12, 3) := by decide +kernel
theorem dX11_entry_95 : decode cX11_entry 95 = .ok (.iload_n 1, 1) := by decide +kernel
theorem dX11_entry_96 : decode cX11_entry 96 = .ok (.iload_n 2, 1) := by decide +kernel
theorem dX11_entry_97 : decode cX11_entry 97 = .ok (.iload_n 3, 1) := by decide +kernel
theorem dX11_entry_98 : decode cX11_entry 98 = .ok (.iload 4, 2) := by decide +kernel
theorem dX11_entry_100 : decode cX11_entry 100 = .ok (.invokevirtual 135, 3) := by decide +kernel
theorem dX11_entry_103 : decode cX11_entry 103 = .ok (.ireturn, 1) := by decide +kernel
theorem dX11_entryIs_0 : decode cX11_entryIs 0 = .ok (.aload_n 0, 1) := by decide +kernel
theorem dX11_entryIs_1 : decode cX11_entryIs 1 = .ok (.getfield 12, 3) := by decide +kernel
theorem dX11_entryIs_4 : decode cX11_entryIs 4 = .ok (.iload_n 1, 1) := by decide +kernel
theorem dX11_entryIs_5 : decode cX11_entryIs 5 = .ok (.invokevirtual 139, 3) := by decide +kernel
theorem dX11_entryIs_8 : decode cX11_entryIs 8 = .ok (.ifCond .eq 11, 3) := by decide +kernel
theorem dX11_entryIs_11 : decode cX11_entryIs 11 = .ok (.iload_n 2, 1) := by decide +kernel
theorem dX11_entryIs_12 : decode cX11_entryIs 12 = .ok (.iconst 4, 1) := by decide +kernel
theorem dX11_entryIs_13 : decode cX11_entryIs 13 = .ok (.invokestatic 79, 3) := by decide +kernel
theorem dX11_entryIs_16 : decode cX11_entryIs 16 = .ok (.ifCond .ne 9, 3) := by decide +kernel
theorem dX11_entryIs_19 : decode cX11_entryIs 19 = .ok (.aload_n 0, 1) := by decide +kernel
theorem dX11_entryIs_20 : decode cX11_entryIs 20 = .ok (.iconst 1, 1) := by decide +kernel
theorem dX11_entryIs_21 : decode cX11_entryIs 21 = .ok (.invokevirtual 68, 3) := by decide +kernel
theorem dX11_entryIs_24 : decode cX11_entryIs 24 = .ok (.ireturn, 1) := by decide +kernel
theorem dX11_entryIs_25 : decode cX11_entryIs 25 = .ok (.iload_n 2, 1) := by decide +kernel
theorem dX11_entryIs_26 : decode cX11_entryIs 26 = .ok (.tableswitch 56 0 2 #[26, 36, 46], 26) := by decide +kernel
theorem dX11_entryIs_52 : decode cX11_entryIs 52 = .ok (.aload_n 0, 1) := by decide +kernel
theorem dX11_entryIs_53 : decode cX11_entryIs 53 = .ok (.getfield 12, 3) := by decide +kernel
theorem dX11_entryIs_56 : decode cX11_entryIs 56 = .ok (.getfield 142, 3) := by decide +kernel
theorem dX11_entryIs_59 : decode cX11_entryIs 59 = .ok (.iload_n 1, 1) := by decide +kernel
theorem dX11_entryIs_60 : decode cX11_entryIs 60 = .ok (.iaload, 1) := by decide +kernel
theorem dX11_entryIs_61 : decode cX11_entryIs 61 = .ok (.ireturn, 1) := by decide +kernel
theorem dX11_entryIs_62 : decode cX11_entryIs 62 = .ok (.aload_n 0, 1) := by decide +kernel
theorem dX11_entryIs_63 : decode cX11_entryIs 63 = .ok (.getfield 12, 3) := by decide +kernel
theorem dX11_entryIs_66 : decode cX11_entryIs 66 = .ok (.getfield 145, 3) := by decide +kernel
theorem dX11_entryIs_69 : decode cX11_entryIs 69 = .ok (.iload_n 1, 1) := by decide +kernel
theorem dX11_entryIs_70 : decode cX11_entryIs 70 = .ok (.iaload, 1) := by decide +kernel
theorem dX11_entryIs_71 : decode cX11_entryIs 71 = .ok (.ireturn, 1) := by decide +kernel
theorem dX11_entryIs_72 : decode cX11_entryIs 72 = .ok (.aload_n 0, 1) := by decide +kernel
theorem dX11_entryIs_73 : decode cX11_entryIs 73 = .ok (.getfield 12, 3) := by decide +kernel
theorem dX11_entryIs_76 : decode cX11_entryIs 76 = .ok (.getfield 148, 3) := by decide +kernel
theorem dX11_entryIs_79 : decode cX11_entryIs 79 = .ok (.iload_n 1, 1) := by decide +kernel
theorem dX11_entryIs_80 : decode cX11_entryIs 80 = .ok (.iaload, 1) := by decide +kernel
theorem dX11_entryIs_81 : decode cX11_entryIs 81 = .ok (.ireturn, 1) := by decide +kernel
theorem dX11_entryIs_82 : decode cX11_entryIs 82 = .ok (.aload_n 0, 1) := by decide +kernel
theorem dX11_entryIs_83 : decode cX11_entryIs 83 = .ok (.getfield 12, 3) := by decide +kernel
theorem dX11_entryIs_86 : decode cX11_entryIs 86 = .ok (.getfield 151, 3) := by decide +kernel
theorem dX11_entryIs_89 : decode cX11_entryIs 89 = .ok (.iload_n 1, 1) := by decide +kernel
theorem dX11_entryIs_90 : decode cX11_entryIs 90 = .ok (.iaload, 1) := by decide +kernel
theorem dX11_entryIs_91 : decode cX11_entryIs 91 = .ok (.ireturn, 1) := by decide +kernel
theorem dX11_shift_0 : decode cX11_shift 0 = .ok (.aload_n 0, 1) := by decide +kernel
theorem dX11_shift_1 : decode cX11_shift 1 = .ok (.iload_n 1, 1) := by decide +kernel
theorem dX11_shift_2 : decode cX11_shift 2 = .ok (.iload_n 2, 1) := by decide +kernel
theorem dX11_shift_3 : decode cX11_shift 3 = .ok (.invokevirtual 154, 3) := by decide +kernel
theorem dX11_shift_6 : decode cX11_shift 6 = .ok (.istore_n 3, 1) := by decide +kernel
theorem dX11_shift_7 : decode cX11_shift 7 = .ok (.iload_n 3, 1) := by decide +kernel
theorem dX11_shift_8 : decode cX11_shift 8 = .ok (.ifCond .eq 9, 3) := by decide +kernel
theorem dX11_shift_11 : decode cX11_shift 11 = .ok (.aload_n 0, 1) := by decide +kernel
theorem dX11_shift_12 : decode cX11_shift 12 = .ok (.iload_n 3, 1) := by decide +kernel
theorem dX11_shift_13 : decode cX11_shift 13 = .ok (.invokevirtual 68, 3) := by decide +kernel
theorem dX11_shift_16 : decode cX11_shift 16 = .ok (.ireturn, 1) := by decide +kernel
theorem dX11_shift_17 : decode cX11_shift 17 = .ok (.aload_n 0, 1) := by decide +kernel
theorem dX11_shift_18 : decode cX11_shift 18 = .ok (.getfield 12, 3) := by decide +kernel
theorem dX11_shift_21 : decode cX11_shift 21 = .ok (.iload_n 1, 1) := by decide +kernel
theorem dX11_shift_22 : decode cX11_shift 22 = .ok (.iload_n 2, 1) := by decide +kernel
theorem dX11_shift_23 : decode cX11_shift 23 = .ok (.invokevirtual 158, 3) := by decide +kernel
theorem dX11_shift_26 : decode cX11_shift 26 = .ok (.aload_n 0, 1) := by decide +kernel
theorem dX11_shift_27 : decode cX11_shift 27 = .ok (.getfield 12, 3) := by decide +kernel
theorem dX11_shift_30 : decode cX11_shift 30 = .ok (.getfield 145, 3) := by decide +kernel
theorem dX11_shift_33 : decode cX11_shift 33 = .ok (.iload_n 1, 1) := by decide +kernel
theorem dX11_shift_34 : decode cX11_shift 34 = .ok (.iaload, 1) := by decide +kernel
theorem dX11_shift_35 : decode cX11_shift 35 = .ok (.ireturn, 1) := by decide +kernel
theorem dX11_on_0 : decode cX11_on 0 = .ok (.aload_n 0, 1) := by decide +kernel
theorem dX11_on_1 : decode cX11_on 1 = .ok (.getfield 12, 3) := by decide +kernel
theorem dX11_on_4 : decode cX11_on 4 = .ok (.iload_n 1, 1) := by decide +kernel
theorem dX11_on_5 : decode cX11_on 5 = .ok (.invokevirtual 125, 3) := by decide +kernel
theorem dX11_on_8 : decode cX11_on 8 = .ok (.ifCond .ne 9, 3) := by decide +kernel
theorem dX11_on_11 : decode cX11_on 11 = .ok (.aload_n 0, 1) := by decide +kernel
theorem dX11_on_12 : decode cX11_on 12 = .ok (.iconst 1, 1) := by decide +kernel
theorem dX11_on_13 : decode cX11_on 13 = .ok (.invokevirtual 68, 3) := by decide +kernel
theorem dX11_on_16 : decode cX11_on 16 = .ok (.ireturn, 1) := by decide +kernel
theorem dX11_on_17 : decode cX11_on 17 = .ok (.iconst 0, 1) := by decide +kernel
theorem dX11_on_18 : decode cX11_on 18 = .ok (.istore_n 2, 1) := by decide +kernel
theorem dX11_on_19 : decode cX11_on 19 = .ok (.iconst 0, 1) := by decide +kernel
theorem dX11_on_20 : decode cX11_on 20 = .ok (.istore_n 3, 1) := by decide +kernel
theorem dX11_on_21 : decode cX11_on 21 = .ok (.iload_n 3, 1) := by decide +kernel
theorem dX11_on_22 : decode cX11_on 22 = .ok (.aload_n 0, 1) := by decide +kernel
theorem dX11_on_23 : decode cX11_on 23 = .ok (.getfield 12, 3) := by decide +kernel
theorem dX11_on_26 : decode cX11_on 26 = .ok (.getfield 132, 3) := by decide +kernel
theorem dX11_on_29 : decode cX11_on 29 = .ok (.if_icmp .ge 24, 3) := by decide +kernel
theorem dX11_on_32 : decode cX11_on 32 = .ok (.aload_n 0, 1) := by decide +kernel
theorem dX11_on_33 : decode cX11_on 33 = .ok (.getfield 12, 3) := by decide +kernel
theorem dX11_on_36 : decode cX11_on 36 = .ok (.iload_n 3, 1) := by decide +kernel
theorem dX11_on_37 : decode cX11_on 37 = .ok (.iload_n 1, 1) := by decide +kernel
theorem dX11_on_38 : decode cX11_on 38 = .ok (.invokevirtual 162, 3) := by decide +kernel
theorem dX11_on_41 : decode cX11_on 41 = .ok (.ifCond .eq 6, 3) := by decide +kernel
theorem dX11_on_44 : decode cX11_on 44 = .ok (.iinc 2 1, 3) := by decide +kernel
theorem dX11_on_47 : decode cX11_on 47 = .ok (.iinc 3 1, 3) := by decide +kernel
theorem dX11_on_50 : decode cX11_on 50 = .ok (.goto (-29), 3) := by decide +kernel
theorem dX11_on_53 : decode cX11_on 53 = .ok (.iload_n 2, 1) := by decide +kernel
theorem dX11_on_54 : decode cX11_on 54 = .ok (.ireturn, 1) := by decide +kernel
theorem dX11_player_0 : decode cX11_player 0 = .ok (.iload_n 1, 1) := by decide +kernel
theorem dX11_player_1 : decode cX11_player 1 = .ok (.bipush 10, 2) := by decide +kernel
theorem dX11_player_3 : decode cX11_player 3 = .ok (.invokestatic 79, 3) := by decide +kernel
theorem dX11_player_6 : decode cX11_player 6 = .ok (.ifCond .eq 12, 3) := by decide +kernel
theorem dX11_player_9 : decode cX11_player 9 = .ok (.iload_n 2, 1) := by decide +kernel
theorem dX11_player_10 : decode cX11_player 10 = .ok (.bipush 100, 2) := by decide +kernel
theorem dX11_player_12 : decode cX11_player 12 = .ok (.invokestatic 79, 3) := by decide +kernel
theorem dX11_player_15 : decode cX11_player 15 = .ok (.ifCond .ne 9, 3) := by decide +kernel
theorem dX11_player_18 : decode cX11_player 18 = .ok (.aload_n 0, 1) := by decide +kernel
theorem dX11_player_19 : decode cX11_player 19 = .ok (.iconst 1, 1) := by decide +kernel
theorem dX11_player_20 : decode cX11_player 20 = .ok (.invokevirtual 68, 3) := by decide +kernel
theorem dX11_player_23 : decode cX11_player 23 = .ok (.ireturn, 1) := by decide +kernel
theorem dX11_player_24 : decode cX11_player 24 = .ok (.aload_n 0, 1) := by decide +kernel
theorem dX11_player_25 : decode cX11_player 25 = .ok (.getfield 12, 3) := by decide +kernel
theorem dX11_player_28 : decode cX11_player 28 = .ok (.getfield 165, 3) := by decide +kernel
theorem dX11_player_31 : decode cX11_player 31 = .ok (.bipush 6, 2) := by decide +kernel
theorem dX11_player_33 : decode cX11_player 33 = .ok (.if_icmp .lt 9, 3) := by decide +kernel
theorem dX11_player_36 : decode cX11_player 36 = .ok (.aload_n 0, 1) := by decide +kernel
theorem dX11_player_37 : decode cX11_player 37 = .ok (.iconst 4, 1) := by decide +kernel
theorem dX11_player_38 : decode cX11_player 38 = .ok (.invokevirtual 68, 3) := by decide +kernel
theorem dX11_player_41 : decode cX11_player 41 = .ok (.ireturn, 1) := by decide +kernel
theorem dX11_player_42 : decode cX11_player 42 = .ok (.aload_n 0, 1) := by decide +kernel
theorem dX11_player_43 : decode cX11_player 43 = .ok (.getfield 12, 3) := by decide +kernel
theorem dX11_player_46 : decode cX11_player 46 = .ok (.iload_n 1, 1) := by decide +kernel
theorem dX11_player_47 : decode cX11_player 47 = .ok (.iload_n 2, 1) := by decide +kernel
theorem dX11_player_48 : decode cX11_player 48 = .ok (.invokevirtual 168, 3) := by decide +kernel
theorem dX11_player_51 : decode cX11_player 51 = .ok (.ireturn, 1) := by decide +kernel
theorem dX11_know_0 : decode cX11_know 0 = .ok (.aload_n 0, 1) := by decide +kernel
theorem dX11_know_1 : decode cX11_know 1 = .ok (.getfield 12, 3) := by decide +kernel
theorem dX11_know_4 : decode cX11_know 4 = .ok (.iload_n 1, 1) := by decide +kernel
theorem dX11_know_5 : decode cX11_know 5 = .ok (.invokevirtual 171, 3) := by decide +kernel
theorem dX11_know_8 : decode cX11_know 8 = .ok (.ifCond .eq 14, 3) := by decide +kernel
theorem dX11_know_11 : decode cX11_know 11 = .ok (.aload_n 0, 1) := by decide +kernel
theorem dX11_know_12 : decode cX11_know 12 = .ok (.getfield 12, 3) := by decide +kernel
theorem dX11_know_15 : decode cX11_know 15 = .ok (.iload_n 2, 1) := by decide +kernel
theorem dX11_know_16 : decode cX11_know 16 = .ok (.invokevirtual 94, 3) := by decide +kernel
theorem dX11_know_19 : decode cX11_know 19 = .ok (.ifCond .ne 9, 3) := by decide +kernel
theorem dX11_know_22 : decode cX11_know 22 = .ok (.aload_n 0, 1) := by decide +kernel
theorem dX11_know_23 : decode cX11_know 23 = .ok (.iconst 1, 1) := by decide +kernel
theorem dX11_know_24 : decode cX11_know 24 = .ok (.invokevirtual 68, 3) := by decide +kernel
theorem dX11_know_27 : decode cX11_know 27 = .ok (.ireturn, 1) := by decide +kernel
theorem dX11_know_28 : decode cX11_know 28 = .ok (.aload_n 0, 1) := by decide +kernel
theorem dX11_know_29 : decode cX11_know 29 = .ok (.getfield 12, 3) := by decide +kernel
theorem dX11_know_32 : decode cX11_know 32 = .ok (.iload_n 1, 1) := by decide +kernel
theorem dX11_know_33 : decode cX11_know 33 = .ok (.iload_n 2, 1) := by decide +kernel
theorem dX11_know_34 : decode cX11_know 34 = .ok (.invokevirtual 174, 3) := by decide +kernel
theorem dX11_know_37 : decode cX11_know 37 = .ok (.iload_n 3, 1) := by decide +kernel
theorem dX11_know_38 : decode cX11_know 38 = .ok (.if_icmp .ne 5, 3) := by decide +kernel
theorem dX11_know_41 : decode cX11_know 41 = .ok (.iconst 0, 1) := by decide +kernel
theorem dX11_know_42 : decode cX11_know 42 = .ok (.ireturn, 1) := by decide +kernel
theorem dX11_know_43 : decode cX11_know 43 = .ok (.aload_n 0, 1) := by decide +kernel
theorem dX11_know_44 : decode cX11_know 44 = .ok (.getfield 12, 3) := by decide +kernel
theorem dX11_know_47 : decode cX11_know 47 = .ok (.getfield 177, 3) := by decide +kernel
theorem dX11_know_50 : decode cX11_know 50 = .ok (.iload_n 1, 1) := by decide +kernel
theorem dX11_know_51 : decode cX11_know 51 = .ok (.dup2, 1) := by decide +kernel
theorem dX11_know_52 : decode cX11_know 52 = .ok (.iaload, 1) := by decide +kernel
theorem dX11_know_53 : decode cX11_know 53 = .ok (.iconst 1, 1) := by decide +kernel
theorem dX11_know_54 : decode cX11_know 54 = .ok (.iload_n 2, 1) := by decide +kernel
theorem dX11_know_55 : decode cX11_know 55 = .ok (.ishl, 1) := by decide +kernel
theorem dX11_know_56 : decode cX11_know 56 = .ok (.ixor, 1) := by decide +kernel
theorem dX11_know_57 : decode cX11_know 57 = .ok (.iastore, 1) := by decide +kernel
theorem dX11_know_58 : decode cX11_know 58 = .ok (.iconst 1, 1) := by decide +kernel
theorem dX11_know_59 : decode cX11_know 59 = .ok (.ireturn, 1) := by decide +kernel
theorem dX11_can_0 : decode cX11_can 0 = .ok (.aload_n 0, 1) := by decide +kernel
theorem dX11_can_1 : decode cX11_can 1 = .ok (.getfield 12, 3) := by decide +kernel
theorem dX11_can_4 : decode cX11_can 4 = .ok (.iload_n 1, 1) := by decide +kernel
theorem dX11_can_5 : decode cX11_can 5 = .ok (.invokevirtual 171, 3) := by decide +kernel
theorem dX11_can_8 : decode cX11_can 8 = .ok (.ifCond .eq 14, 3) := by decide +kernel
theorem dX11_can_11 : decode cX11_can 11 = .ok (.aload_n 0, 1) := by decide +kernel
theorem dX11_can_12 : decode cX11_can 12 = .ok (.getfield 12, 3) := by decide +kernel
theorem dX11_can_15 : decode cX11_can 15 = .ok (.iload_n 2, 1) := by decide +kernel
theorem dX11_can_16 : decode cX11_can 16 = .ok (.invokevirtual 94, 3) := by decide +kernel
theorem dX11_can_19 : decode cX11_can 19 = .ok (.ifCond .ne 9, 3) := by decide +kernel
theorem dX11_can_22 : decode cX11_can 22 = .ok (.aload_n 0, 1) := by decide +kernel
theorem dX11_can_23 : decode cX11_can 23 = .ok (.iconst 1, 1) := by decide +kernel
theorem dX11_can_24 : decode cX11_can 24 = .ok (.invokevirtual 68, 3) := by decide +kernel
theorem dX11_can_27 : decode cX11_can 27 = .ok (.ireturn, 1) := by decide +kernel
theorem dX11_can_28 : decode cX11_can 28 = .ok (.aload_n 0, 1) := by decide +kernel
theorem dX11_can_29 : decode cX11_can 29 = .ok (.getfield 21, 3) := by decide +kernel
theorem dX11_can_32 : decode cX11_can 32 = .ok (.iload_n 1, 1) := by decide +kernel
theorem dX11_can_33 : decode cX11_can 33 = .ok (.iload_n 2, 1) := by decide +kernel
theorem dX11_can_34 : decode cX11_can 34 = .ok (.invokevirtual 180, 3) := by decide +kernel
theorem dX11_can_37 : decode cX11_can 37 = .ok (.ifCond .eq 7, 3) := by decide +kernel
theorem dX11_can_40 : decode cX11_can 40 = .ok (.iconst 1, 1) := by decide +kernel
theorem dX11_can_41 : decode cX11_can 41 = .ok (.goto 4, 3) := by decide +kernel
theorem dX11_can_44 : decode cX11_can 44 = .ok (.iconst 0, 1) := by decide +kernel
theorem dX11_can_45 : decode cX11_can 45 = .ok (.ireturn, 1) := by decide +kernel
theorem dX11_wish_0 : decode cX11_wish 0 = .ok (.aload_n 0, 1) := by decide +kernel
theorem dX11_wish_1 : decode cX11_wish 1 = .ok (.getfield 12, 3) := by decide +kernel
theorem dX11_wish_4 : decode cX11_wish 4 = .ok (.iload_n 1, 1) := by decide +kernel
theorem dX11_wish_5 : decode cX11_wish 5 = .ok (.invokevirtual 171, 3) := by decide +kernel
theorem dX11_wish_8 : decode cX11_wish 8 = .ok (.ifCond .eq 14, 3) := by decide +kernel
theorem dX11_wish_11 : decode cX11_wish 11 = .ok (.aload_n 0, 1) := by decide +kernel
theorem dX11_wish_12 : decode cX11_wish 12 = .ok (.getfield 12, 3) := by decide +kernel
theorem dX11_wish_15 : decode cX11_wish 15 = .ok (.iload_n 2, 1) := by decide +kernel
theorem dX11_wish_16 : decode cX11_wish 16 = .ok (.invokevirtual 94, 3) := by decide +kernel
theorem dX11_wish_19 : decode cX11_wish 19 = .ok (.ifCond .ne 9, 3) := by decide +kernel
theorem dX11_wish_22 : decode cX11_wish 22 = .ok (.aload_n 0, 1) := by decide +kernel
theorem dX11_wish_23 : decode cX11_wish 23 = .ok (.iconst 1, 1) := by decide +kernel
theorem dX11_wish_24 : decode cX11_wish 24 = .ok (.invokevirtual 68, 3) := by decide +kernel
theorem dX11_wish_27 : decode cX11_wish 27 = .ok (.ireturn, 1) := by decide +kernel
theorem dX11_wish_28 : decode cX11_wish 28 = .ok (.aload_n 0, 1) := by decide +kernel
theorem dX11_wish_29 : decode cX11_wish 29 = .ok (.getfield 21, 3) := by decide +kernel
theorem dX11_wish_32 : decode cX11_wish 32 = .ok (.iload_n 1, 1) := by decide +kernel
theorem dX11_wish_33 : decode cX11_wish 33 = .ok (.iload_n 2, 1) := by decide +kernel
theorem dX11_wish_34 : decode cX11_wish 34 = .ok (.invokevirtual 183, 3) := by decide +kernel
theorem dX11_wish_37 : decode cX11_wish 37 = .ok (.ireturn, 1) := by decide +kernel
theorem dX11_feed_0 : decode cX11_feed 0 = .ok (.iload_n 3, 1) := by decide +kernel
theorem dX11_feed_1 : decode cX11_feed 1 = .ok (.iconst 1, 1) := by decide +kernel
theorem dX11_feed_2 : decode cX11_feed 2 = .ok (.if_icmp .lt 9, 3) := by decide +kernel
theorem dX11_feed_5 : decode cX11_feed 5 = .ok (.iload_n 3, 1) := by decide +kernel
theorem dX11_feed_6 : decode cX11_feed 6 = .ok (.bipush 8, 2) := by decide +kernel
theorem dX11_feed_8 : decode cX11_feed 8 = .ok (.if_icmp .le 9, 3) := by decide +kernel
theorem dX11_feed_11 : decode cX11_feed 11 = .ok (.aload_n 0, 1) := by decide +kernel
theorem dX11_feed_12 : decode cX11_feed 12 = .ok (.iconst 1, 1) := by decide +kernel
theorem dX11_feed_13 : decode cX11_feed 13 = .ok (.invokevirtual 68, 3) := by decide +kernel
theorem dX11_feed_16 : decode cX11_feed 16 = .ok (.ireturn, 1) := by decide +kernel
theorem dX11_feed_17 : decode cX11_feed 17 = .ok (.aload_n 0, 1) := by decide +kernel
theorem dX11_feed_18 : decode cX11_feed 18 = .ok (.getfield 12, 3) := by decide +kernel
theorem dX11_feed_21 : decode cX11_feed 21 = .ok (.getfield 186, 3) := by decide +kernel
theorem dX11_feed_24 : decode cX11_feed 24 = .ok (.getfield 189, 3) := by decide +kernel
theorem dX11_feed_27 : decode cX11_feed 27 = .ok (.iload_n 3, 1) := by decide +kernel
theorem dX11_feed_28 : decode cX11_feed 28 = .ok (.iadd, 1) := by decide +kernel
theorem dX11_feed_29 : decode cX11_feed 29 = .ok (.bipush 50, 2) := by decide +kernel
theorem dX11_feed_31 : decode cX11_feed 31 = .ok (.if_icmp .le 9, 3) := by decide +kernel
theorem dX11_feed_34 : decode cX11_feed 34 = .ok (.aload_n 0, 1) := by decide +kernel
theorem dX11_feed_35 : decode cX11_feed 35 = .ok (.iconst 4, 1) := by decide +kernel
theorem dX11_feed_36 : decode cX11_feed 36 = .ok (.invokevirtual 68, 3) := by decide +kernel
theorem dX11_feed_39 : decode cX11_feed 39 = .ok (.ireturn, 1) := by decide +kernel
theorem dX11_feed_40 : decode cX11_feed 40 = .ok (.iconst 0, 1) := by decide +kernel
theorem dX11_feed_41 : decode cX11_feed 41 = .ok (.istore 4, 2) := by decide +kernel
theorem dX11_feed_43 : decode cX11_feed 43 = .ok (.iload 4, 2) := by decide +kernel
theorem dX11_feed_45 : decode cX11_feed 45 = .ok (.iload_n 3, 1) := by decide +kernel
theorem dX11_feed_46 : decode cX11_feed 46 = .ok (.if_icmp .ge 31, 3) := by decide +kernel
theorem dX11_feed_49 : decode cX11_feed 49 = .ok (.aload_n 0, 1) := by decide +kernel
theorem dX11_feed_50 : decode cX11_feed 50 = .ok (.getfield 12, 3) := by decide +kernel
theorem dX11_feed_53 : decode cX11_feed 53 = .ok (.getfield 186, 3) := by decide +kernel
theorem dX11_feed_56 : decode cX11_feed 56 = .ok (.lload_n 1, 1) := by decide +kernel
theorem dX11_feed_57 : decode cX11_feed 57 = .ok (.bipush 8, 2) := by decide +kernel
theorem dX11_feed_59 : decode cX11_feed 59 = .ok (.iload 4, 2) := by decide +kernel
theorem dX11_feed_61 : decode cX11_feed 61 = .ok (.imul, 1) := by decide +kernel
theorem dX11_feed_62 : decode cX11_feed 62 = .ok (.lushr, 1) := by decide +kernel
theorem dX11_feed_63 : decode cX11_feed 63 = .ok (.l2i, 1) := by decide +kernel
theorem dX11_feed_64 : decode cX11_feed 64 = .ok (.sipush 255, 3) := by decide +kernel
theorem dX11_feed_67 : decode cX11_feed 67 = .ok (.iand, 1) := by decide +kernel
theorem dX11_feed_68 : decode cX11_feed 68 = .ok (.invokevirtual 192, 3) := by decide +kernel
theorem dX11_feed_71 : decode cX11_feed 71 = .ok (.iinc 4 1, 3) := by decide +kernel
theorem dX11_feed_74 : decode cX11_feed 74 = .ok (.goto (-31), 3) := by decide +kernel
theorem dX11_feed_77 : decode cX11_feed 77 = .ok (.aload_n 0, 1) := by decide +kernel
theorem dX11_feed_78 : decode cX11_feed 78 = .ok (.getfield 12, 3) := by decide +kernel
theorem dX11_feed_81 : decode cX11_feed 81 = .ok (.getfield 186, 3) := by decide +kernel
theorem dX11_feed_84 : decode cX11_feed 84 = .ok (.getfield 189, 3) := by decide +kernel
theorem dX11_feed_87 : decode cX11_feed 87 = .ok (.ireturn, 1) := by decide +kernel
theorem dX11_text_0 : decode cX11_text 0 = .ok (.iload_n 1, 1) := by decide +kernel
theorem dX11_text_1 : decode cX11_text 1 = .ok (.iconst 3, 1) := by decide +kernel
theorem dX11_text_2 : decode cX11_text 2 = .ok (.invokestatic 79, 3) := by decide +kernel
theorem dX11_text_5 : decode cX11_text 5 = .ok (.ifCond .ne 9, 3) := by decide +kernel
theorem dX11_text_8 : decode cX11_text 8 = .ok (.aload_n 0, 1) := by decide +kernel
theorem dX11_text_9 : decode cX11_text 9 = .ok (.iconst 1, 1) := by decide +kernel
theorem dX11_text_10 : decode cX11_text 10 = .ok (.invokevirtual 68, 3) := by decide +kernel
theorem dX11_text_13 : decode cX11_text 13 = .ok (.ireturn, 1) := by decide +kernel
theorem dX11_text_14 : decode cX11_text 14 = .ok (.aload_n 0, 1) := by decide +kernel
theorem dX11_text_15 : decode cX11_text 15 = .ok (.getfield 37, 3) := by decide +kernel
theorem dX11_text_18 : decode cX11_text 18 = .ok (.aload_n 0, 1) := by decide +kernel
theorem dX11_text_19 : decode cX11_text 19 = .ok (.getfield 12, 3) := by decide +kernel
theorem dX11_text_22 : decode cX11_text 22 = .ok (.getfield 186, 3) := by decide +kernel
theorem dX11_text_25 : decode cX11_text 25 = .ok (.iload_n 1, 1) := by decide +kernel
theorem dX11_text_26 : decode cX11_text 26 = .ok (.invokevirtual 195, 3) := by decide +kernel
theorem dX11_text_29 : decode cX11_text 29 = .ok (.istore_n 2, 1) := by decide +kernel
theorem dX11_text_30 : decode cX11_text 30 = .ok (.aload_n 0, 1) := by decide +kernel
theorem dX11_text_31 : decode cX11_text 31 = .ok (.getfield 12, 3) := by decide +kernel
theorem dX11_text_34 : decode cX11_text 34 = .ok (.getfield 186, 3) := by decide +kernel
theorem dX11_text_37 : decode cX11_text 37 = .ok (.iconst 0, 1) := by decide +kernel
theorem dX11_text_38 : decode cX11_text 38 = .ok (.putfield 189, 3) := by decide +kernel
theorem dX11_text_41 : decode cX11_text 41 = .ok (.iload_n 2, 1) := by decide +kernel
theorem dX11_text_42 : decode cX11_text 42 = .ok (.ifCond .ne 14, 3) := by decide +kernel
theorem dX11_text_45 : decode cX11_text 45 = .ok (.bipush (-10), 2) := by decide +kernel
theorem dX11_text_47 : decode cX11_text 47 = .ok (.aload_n 0, 1) := by decide +kernel
theorem dX11_text_48 : decode cX11_text 48 = .ok (.getfield 37, 3) := by decide +kernel
theorem dX11_text_51 : decode cX11_text 51 = .ok (.getfield 199, 3) := by decide +kernel
theorem dX11_text_54 : decode cX11_text 54 = .ok (.isub, 1) := by decide +kernel
theorem dX11_text_55 : decode cX11_text 55 = .ok (.ireturn, 1) := by decide +kernel
theorem dX11_text_56 : decode cX11_text 56 = .ok (.aload_n 0, 1) := by decide +kernel
theorem dX11_text_57 : decode cX11_text 57 = .ok (.getfield 12, 3) := by decide +kernel
theorem dX11_text_60 : decode cX11_text 60 = .ok (.getfield 202, 3) := by decide +kernel
theorem dX11_text_63 : decode cX11_text 63 = .ok (.iload_n 1, 1) := by decide +kernel
theorem dX11_text_64 : decode cX11_text 64 = .ok (.aaload, 1) := by decide +kernel
theorem dX11_text_65 : decode cX11_text 65 = .ok (.aload_n 0, 1) := by decide +kernel
theorem dX11_text_66 : decode cX11_text 66 = .ok (.getfield 37, 3) := by decide +kernel
theorem dX11_text_69 : decode cX11_text 69 = .ok (.getfield 205, 3) := by decide +kernel
theorem dX11_text_72 : decode cX11_text 72 = .ok (.invokevirtual 208, 3) := by decide +kernel
theorem dX11_text_75 : decode cX11_text 75 = .ok (.iconst 1, 1) := by decide +kernel
theorem dX11_text_76 : decode cX11_text 76 = .ok (.ireturn, 1) := by decide +kernel
theorem dX11_change_0 : decode cX11_change 0 = .ok (.aload_n 0, 1) := by decide +kernel
theorem dX11_change_1 : decode cX11_change 1 = .ok (.iload_n 1, 1) := by decide +kernel
theorem dX11_change_2 : decode cX11_change 2 = .ok (.iload_n 2, 1) := by decide +kernel
theorem dX11_change_3 : decode cX11_change 3 = .ok (.invokevirtual 212, 3) := by decide +kernel
theorem dX11_change_6 : decode cX11_change 6 = .ok (.ifCond .eq 11, 3) := by decide +kernel
theorem dX11_change_9 : decode cX11_change 9 = .ok (.iload_n 3, 1) := by decide +kernel
theorem dX11_change_10 : decode cX11_change 10 = .ok (.iconst 2, 1) := by decide +kernel
theorem dX11_change_11 : decode cX11_change 11 = .ok (.invokestatic 79, 3) := by decide +kernel
theorem dX11_change_14 : decode cX11_change 14 = .ok (.ifCond .ne 9, 3) := by decide +kernel
theorem dX11_change_17 : decode cX11_change 17 = .ok (.aload_n 0, 1) := by decide +kernel
theorem dX11_change_18 : decode cX11_change 18 = .ok (.iconst 1, 1) := by decide +kernel
theorem dX11_change_19 : decode cX11_change 19 = .ok (.invokevirtual 68, 3) := by decide +kernel
theorem dX11_change_22 : decode cX11_change 22 = .ok (.ireturn, 1) := by decide +kernel
theorem dX11_change_23 : decode cX11_change 23 = .ok (.aload_n 0, 1) := by decide +kernel
theorem dX11_change_24 : decode cX11_change 24 = .ok (.getfield 21, 3) := by decide +kernel
theorem dX11_change_27 : decode cX11_change 27 = .ok (.iload_n 1, 1) := by decide +kernel
theorem dX11_change_28 : decode cX11_change 28 = .ok (.iload_n 2, 1) := by decide +kernel
theorem dX11_change_29 : decode cX11_change 29 = .ok (.iload_n 3, 1) := by decide +kernel
theorem dX11_change_30 : decode cX11_change 30 = .ok (.invokevirtual 215, 3) := by decide +kernel
theorem dX11_change_33 : decode cX11_change 33 = .ok (.ireturn, 1) := by decide +kernel
theorem dX11_two_0 : decode cX11_two 0 = .ok (.aload_n 0, 1) := by decide +kernel
theorem dX11_two_1 : decode cX11_two 1 = .ok (.iload_n 1, 1) := by decide +kernel
theorem dX11_two_2 : decode cX11_two 2 = .ok (.iload_n 2, 1) := by decide +kernel
theorem dX11_two_3 : decode cX11_two 3 = .ok (.invokevirtual 212, 3) := by decide +kernel
theorem dX11_two_6 : decode cX11_two 6 = .ok (.ifCond .eq 11, 3) := by decide +kernel
theorem dX11_two_9 : decode cX11_two 9 = .ok (.iload_n 3, 1) := by decide +kernel
theorem dX11_two_10 : decode cX11_two 10 = .ok (.iconst 2, 1) := by decide +kernel
theorem dX11_two_11 : decode cX11_two 11 = .ok (.invokestatic 79, 3) := by decide +kernel
theorem dX11_two_14 : decode cX11_two 14 = .ok (.ifCond .ne 9, 3) := by decide +kernel
theorem dX11_two_17 : decode cX11_two 17 = .ok (.aload_n 0, 1) := by decide +kernel
theorem dX11_two_18 : decode cX11_two 18 = .ok (.iconst 1, 1) := by decide +kernel
theorem dX11_two_19 : decode cX11_two 19 = .ok (.invokevirtual 68, 3) := by decide +kernel
theorem dX11_two_22 : decode cX11_two 22 = .ok (.ireturn, 1) := by decide +kernel
theorem dX11_two_23 : decode cX11_two 23 = .ok (.aload_n 0, 1) := by decide +kernel
theorem dX11_two_24 : decode cX11_two 24 = .ok (.getfield 21, 3) := by decide +kernel
theorem dX11_two_27 : decode cX11_two 27 = .ok (.iload_n 1, 1) := by decide +kernel
theorem dX11_two_28 : decode cX11_two 28 = .ok (.iload_n 2, 1) := by decide +kernel
theorem dX11_two_29 : decode cX11_two 29 = .ok (.invokevirtual 219, 3) := by decide +kernel
theorem dX11_two_32 : decode cX11_two 32 = .ok (.istore 4, 2) := by decide +kernel
theorem dX11_two_34 : decode cX11_two 34 = .ok (.iload_n 3, 1) := by decide +kernel
theorem dX11_two_35 : decode cX11_two 35 = .ok (.ifCond .ne 6, 3) := by decide +kernel
theorem dX11_two_38 : decode cX11_two 38 = .ok (.iload 4, 2) := by decide +kernel
theorem dX11_two_40 : decode cX11_two 40 = .ok (.ireturn, 1) := by decide +kernel
theorem dX11_two_41 : decode cX11_two 41 = .ok (.iload 4, 2) := by decide +kernel
theorem dX11_two_43 : decode cX11_two 43 = .ok (.ifCond .ne 11, 3) := by decide +kernel
theorem dX11_two_46 : decode cX11_two 46 = .ok (.aload_n 0, 1) := by decide +kernel
theorem dX11_two_47 : decode cX11_two 47 = .ok (.iconst 2, 1) := by decide +kernel
theorem dX11_two_48 : decode cX11_two 48 = .ok (.invokevirtual 68, 3) := by decide +kernel
theorem dX11_two_51 : decode cX11_two 51 = .ok (.goto 10, 3) := by decide +kernel
theorem dX11_two_54 : decode cX11_two 54 = .ok (.aload_n 0, 1) := by decide +kernel
theorem dX11_two_55 : decode cX11_two 55 = .ok (.getfield 21, 3) := by decide +kernel
theorem dX11_two_58 : decode cX11_two 58 = .ok (.getfield 222, 3) := by decide +kernel
theorem dX11_two_61 : decode cX11_two 61 = .ok (.ireturn, 1) := by decide +kernel
theorem dX11_cast_0 : decode cX11_cast 0 = .ok (.aload_n 0, 1) := by decide +kernel
theorem dX11_cast_1 : decode cX11_cast 1 = .ok (.getfield 12, 3) := by decide +kernel
theorem dX11_cast_4 : decode cX11_cast 4 = .ok (.iload_n 1, 1) := by decide +kernel
theorem dX11_cast_5 : decode cX11_cast 5 = .ok (.invokevirtual 94, 3) := by decide +kernel
theorem dX11_cast_8 : decode cX11_cast 8 = .ok (.ifCond .eq 14, 3) := by decide +kernel
theorem dX11_cast_11 : decode cX11_cast 11 = .ok (.aload_n 0, 1) := by decide +kernel
theorem dX11_cast_12 : decode cX11_cast 12 = .ok (.getfield 12, 3) := by decide +kernel
theorem dX11_cast_15 : decode cX11_cast 15 = .ok (.iload_n 2, 1) := by decide +kernel
theorem dX11_cast_16 : decode cX11_cast 16 = .ok (.invokevirtual 225, 3) := by decide +kernel
theorem dX11_cast_19 : decode cX11_cast 19 = .ok (.ifCond .ne 9, 3) := by decide +kernel
theorem dX11_cast_22 : decode cX11_cast 22 = .ok (.aload_n 0, 1) := by decide +kernel
theorem dX11_cast_23 : decode cX11_cast 23 = .ok (.iconst 1, 1) := by decide +kernel
theorem dX11_cast_24 : decode cX11_cast 24 = .ok (.invokevirtual 68, 3) := by decide +kernel
theorem dX11_cast_27 : decode cX11_cast 27 = .ok (.ireturn, 1) := by decide +kernel
theorem dX11_cast_28 : decode cX11_cast 28 = .ok (.aload_n 0, 1) := by decide +kernel
theorem dX11_cast_29 : decode cX11_cast 29 = .ok (.getfield 12, 3) := by decide +kernel
theorem dX11_cast_32 : decode cX11_cast 32 = .ok (.getfield 228, 3) := by decide +kernel
theorem dX11_cast_35 : decode cX11_cast 35 = .ok (.iload_n 1, 1) := by decide +kernel
theorem dX11_cast_36 : decode cX11_cast 36 = .ok (.iaload, 1) := by decide +kernel
theorem dX11_cast_37 : decode cX11_cast 37 = .ok (.istore_n 3, 1) := by decide +kernel
theorem dX11_cast_38 : decode cX11_cast 38 = .ok (.aload_n 0, 1) := by decide +kernel
theorem dX11_cast_39 : decode cX11_cast 39 = .ok (.getfield 12, 3) := by decide +kernel
theorem dX11_cast_42 : decode cX11_cast 42 = .ok (.getfield 228, 3) := by decide +kernel
theorem dX11_cast_45 : decode cX11_cast 45 = .ok (.iload_n 1, 1) := by decide +kernel
theorem dX11_cast_46 : decode cX11_cast 46 = .ok (.iload_n 2, 1) := by decide +kernel
theorem dX11_cast_47 : decode cX11_cast 47 = .ok (.iastore, 1) := by decide +kernel
theorem dX11_cast_48 : decode cX11_cast 48 = .ok (.iload_n 3, 1) := by decide +kernel
theorem dX11_cast_49 : decode cX11_cast 49 = .ok (.ireturn, 1) := by decide +kernel
theorem dX11_block_0 : decode cX11_block 0 = .ok (.iload_n 1, 1) := by decide +kernel
theorem dX11_block_1 : decode cX11_block 1 = .ok (.iconst 4, 1) := by decide +kernel
theorem dX11_block_2 : decode cX11_block 2 = .ok (.invokestatic 79, 3) := by decide +kernel
theorem dX11_block_5 : decode cX11_block 5 = .ok (.ifCond .ne 9, 3) := by decide +kernel
theorem dX11_block_8 : decode cX11_block 8 = .ok (.aload_n 0, 1) := by decide +kernel
theorem dX11_block_9 : decode cX11_block 9 = .ok (.iconst 1, 1) := by decide +kernel
theorem dX11_block_10 : decode cX11_block 10 = .ok (.invokevirtual 68, 3) := by decide +kernel
theorem dX11_block_13 : decode cX11_block 13 = .ok (.ireturn, 1) := by decide +kernel
theorem dX11_block_14 : decode cX11_block 14 = .ok (.aload_n 0, 1) := by decide +kernel
theorem dX11_block_15 : decode cX11_block 15 = .ok (.iload_n 1, 1) := by decide +kernel
theorem dX11_block_16 : decode cX11_block 16 = .ok (.invokevirtual 231, 3) := by decide +kernel
theorem dX11_block_19 : decode cX11_block 19 = .ok (.ifCond .eq 9, 3) := by decide +kernel
theorem dX11_block_22 : decode cX11_block 22 = .ok (.aload_n 0, 1) := by decide +kernel
theorem dX11_block_23 : decode cX11_block 23 = .ok (.iconst 2, 1) := by decide +kernel
theorem dX11_block_24 : decode cX11_block 24 = .ok (.invokevirtual 68, 3) := by decide +kernel
theorem dX11_block_27 : decode cX11_block 27 = .ok (.ireturn, 1) := by decide +kernel
theorem dX11_block_28 : decode cX11_block 28 = .ok (.aload_n 0, 1) := by decide +kernel
theorem dX11_block_29 : decode cX11_block 29 = .ok (.getfield 53, 3) := by decide +kernel
theorem dX11_block_32 : decode cX11_block 32 = .ok (.iload_n 1, 1) := by decide +kernel
theorem dX11_block_33 : decode cX11_block 33 = .ok (.aaload, 1) := by decide +kernel
theorem dX11_block_34 : decode cX11_block 34 = .ok (.astore_n 2, 1) := by decide +kernel
theorem dX11_block_35 : decode cX11_block 35 = .ok (.aload_n 2, 1) := by decide +kernel
theorem dX11_block_36 : decode cX11_block 36 = .ok (.getfield 189, 3) := by decide +kernel
theorem dX11_block_39 : decode cX11_block 39 = .ok (.aload_n 0, 1) := by decide +kernel
theorem dX11_block_40 : decode cX11_block 40 = .ok (.getfield 12, 3) := by decide +kernel
theorem dX11_block_43 : decode cX11_block 43 = .ok (.getfield 83, 3) := by decide +kernel
theorem dX11_block_46 : decode cX11_block 46 = .ok (.invokestatic 234, 3) := by decide +kernel
theorem dX11_block_49 : decode cX11_block 49 = .ok (.istore_n 3, 1) := by decide +kernel
theorem dX11_block_50 : decode cX11_block 50 = .ok (.iconst 0, 1) := by decide +kernel
theorem dX11_block_51 : decode cX11_block 51 = .ok (.istore 4, 2) := by decide +kernel
theorem dX11_block_53 : decode cX11_block 53 = .ok (.iload 4, 2) := by decide +kernel
theorem dX11_block_55 : decode cX11_block 55 = .ok (.iload_n 3, 1) := by decide +kernel
theorem dX11_block_56 : decode cX11_block 56 = .ok (.if_icmp .ge 32, 3) := by decide +kernel
theorem dX11_block_59 : decode cX11_block 59 = .ok (.aload_n 0, 1) := by decide +kernel
theorem dX11_block_60 : decode cX11_block 60 = .ok (.getfield 12, 3) := by decide +kernel
theorem dX11_block_63 : decode cX11_block 63 = .ok (.aload_n 2, 1) := by decide +kernel
theorem dX11_block_64 : decode cX11_block 64 = .ok (.getfield 239, 3) := by decide +kernel
theorem dX11_block_67 : decode cX11_block 67 = .ok (.iload 4, 2) := by decide +kernel
theorem dX11_block_69 : decode cX11_block 69 = .ok (.iaload, 1) := by decide +kernel
theorem dX11_block_70 : decode cX11_block 70 = .ok (.invokevirtual 225, 3) := by decide +kernel
theorem dX11_block_73 : decode cX11_block 73 = .ok (.ifCond .ne 9, 3) := by decide +kernel
theorem dX11_block_76 : decode cX11_block 76 = .ok (.aload_n 0, 1) := by decide +kernel
theorem dX11_block_77 : decode cX11_block 77 = .ok (.iconst 5, 1) := by decide +kernel
theorem dX11_block_78 : decode cX11_block 78 = .ok (.invokevirtual 68, 3) := by decide +kernel
theorem dX11_block_81 : decode cX11_block 81 = .ok (.ireturn, 1) := by decide +kernel
theorem dX11_block_82 : decode cX11_block 82 = .ok (.iinc 4 1, 3) := by decide +kernel
theorem dX11_block_85 : decode cX11_block 85 = .ok (.goto (-32), 3) := by decide +kernel
theorem dX11_block_88 : decode cX11_block 88 = .ok (.aload_n 2, 1) := by decide +kernel
theorem dX11_block_89 : decode cX11_block 89 = .ok (.getfield 239, 3) := by decide +kernel
theorem dX11_block_92 : decode cX11_block 92 = .ok (.iconst 0, 1) := by decide +kernel
theorem dX11_block_93 : decode cX11_block 93 = .ok (.aload_n 0, 1) := by decide +kernel
theorem dX11_block_94 : decode cX11_block 94 = .ok (.getfield 12, 3) := by decide +kernel
theorem dX11_block_97 : decode cX11_block 97 = .ok (.getfield 228, 3) := by decide +kernel
theorem dX11_block_100 : decode cX11_block 100 = .ok (.iconst 0, 1) := by decide +kernel
theorem dX11_block_101 : decode cX11_block 101 = .ok (.iload_n 3, 1) := by decide +kernel
theorem dX11_block_102 : decode cX11_block 102 = .ok (.invokestatic 242, 3) := by decide +kernel
theorem dX11_block_105 : decode cX11_block 105 = .ok (.iload_n 3, 1) := by decide +kernel
theorem dX11_block_106 : decode cX11_block 106 = .ok (.ireturn, 1) := by decide +kernel
theorem dX11_bars_0 : decode cX11_bars 0 = .ok (.iload_n 1, 1) := by decide +kernel
theorem dX11_bars_1 : decode cX11_bars 1 = .ok (.iconst 4, 1) := by decide +kernel
theorem dX11_bars_2 : decode cX11_bars 2 = .ok (.invokestatic 79, 3) := by decide +kernel
theorem dX11_bars_5 : decode cX11_bars 5 = .ok (.ifCond .ne 9, 3) := by decide +kernel
theorem dX11_bars_8 : decode cX11_bars 8 = .ok (.aload_n 0, 1) := by decide +kernel
theorem dX11_bars_9 : decode cX11_bars 9 = .ok (.iconst 1, 1) := by decide +kernel
theorem dX11_bars_10 : decode cX11_bars 10 = .ok (.invokevirtual 68, 3) := by decide +kernel
theorem dX11_bars_13 : decode cX11_bars 13 = .ok (.ireturn, 1) := by decide +kernel
theorem dX11_bars_14 : decode cX11_bars 14 = .ok (.aload_n 0, 1) := by decide +kernel
theorem dX11_bars_15 : decode cX11_bars 15 = .ok (.getfield 21, 3) := by decide +kernel
theorem dX11_bars_18 : decode cX11_bars 18 = .ok (.invokevirtual 248, 3) := by decide +kernel
theorem dX11_bars_21 : decode cX11_bars 21 = .ok (.istore_n 2, 1) := by decide +kernel
theorem dX11_bars_22 : decode cX11_bars 22 = .ok (.iload_n 1, 1) := by decide +kernel
theorem dX11_bars_23 : decode cX11_bars 23 = .ok (.ifCond .ne 5, 3) := by decide +kernel
theorem dX11_bars_26 : decode cX11_bars 26 = .ok (.iload_n 2, 1) := by decide +kernel
theorem dX11_bars_27 : decode cX11_bars 27 = .ok (.ireturn, 1) := by decide +kernel
theorem dX11_bars_28 : decode cX11_bars 28 = .ok (.iload_n 2, 1) := by decide +kernel
theorem dX11_bars_29 : decode cX11_bars 29 = .ok (.ifCond .eq 13, 3) := by decide +kernel
theorem dX11_bars_32 : decode cX11_bars 32 = .ok (.iload_n 2, 1) := by decide +kernel
theorem dX11_bars_33 : decode cX11_bars 33 = .ok (.iconst 1, 1) := by decide +kernel
theorem dX11_bars_34 : decode cX11_bars 34 = .ok (.if_icmp .ne 14, 3) := by decide +kernel
theorem dX11_bars_37 : decode cX11_bars 37 = .ok (.iload_n 1, 1) := by decide +kernel
theorem dX11_bars_38 : decode cX11_bars 38 = .ok (.iconst 1, 1) := by decide +kernel
theorem dX11_bars_39 : decode cX11_bars 39 = .ok (.if_icmp .le 9, 3) := by decide +kernel
theorem dX11_bars_42 : decode cX11_bars 42 = .ok (.aload_n 0, 1) := by decide +kernel
theorem dX11_bars_43 : decode cX11_bars 43 = .ok (.iconst 2, 1) := by decide +kernel
theorem dX11_bars_44 : decode cX11_bars 44 = .ok (.invokevirtual 68, 3) := by decide +kernel
theorem dX11_bars_47 : decode cX11_bars 47 = .ok (.ireturn, 1) := by decide +kernel
theorem dX11_bars_48 : decode cX11_bars 48 = .ok (.iload_n 1, 1) := by decide +kernel
theorem dX11_bars_49 : decode cX11_bars 49 = .ok (.lookupswitch 43 #[(1, 27), (2, 35)], 27) := by decide +kernel
theorem dX11_bars_76 : decode cX11_bars 76 = .ok (.aload_n 0, 1) := by decide +kernel
theorem dX11_bars_77 : decode cX11_bars 77 = .ok (.getfield 21, 3) := by decide +kernel
theorem dX11_bars_80 : decode cX11_bars 80 = .ok (.getfield 251, 3) := by decide +kernel
theorem dX11_bars_83 : decode cX11_bars 83 = .ok (.ireturn, 1) := by decide +kernel
theorem dX11_bars_84 : decode cX11_bars 84 = .ok (.aload_n 0, 1) := by decide +kernel
theorem dX11_bars_85 : decode cX11_bars 85 = .ok (.getfield 21, 3) := by decide +kernel
theorem dX11_bars_88 : decode cX11_bars 88 = .ok (.getfield 254, 3) := by decide +kernel
theorem dX11_bars_91 : decode cX11_bars 91 = .ok (.ireturn, 1) := by decide +kernel
theorem dX11_bars_92 : decode cX11_bars 92 = .ok (.aload_n 0, 1) := by decide +kernel
theorem dX11_bars_93 : decode cX11_bars 93 = .ok (.getfield 21, 3) := by decide +kernel
theorem dX11_bars_96 : decode cX11_bars 96 = .ok (.getfield 222, 3) := by decide +kernel
theorem dX11_bars_99 : decode cX11_bars 99 = .ok (.ireturn, 1) := by decide +kernel
theorem dX11_busy_0 : decode cX11_busy 0 = .ok (.aload_n 0, 1) := by decide +kernel
theorem dX11_busy_1 : decode cX11_busy 1 = .ok (.getfield 12, 3) := by decide +kernel
theorem dX11_busy_4 : decode cX11_busy 4 = .ok (.iload_n 1, 1) := by decide +kernel
theorem dX11_busy_5 : decode cX11_busy 5 = .ok (.invokevirtual 171, 3) := by decide +kernel
theorem dX11_busy_8 : decode cX11_busy 8 = .ok (.ifCond .ne 9, 3) := by decide +kernel
theorem dX11_busy_11 : decode cX11_busy 11 = .ok (.aload_n 0, 1) := by decide +kernel
theorem dX11_busy_12 : decode cX11_busy 12 = .ok (.iconst 1, 1) := by decide +kernel
theorem dX11_busy_13 : decode cX11_busy 13 = .ok (.invokevirtual 68, 3) := by decide +kernel
theorem dX11_busy_16 : decode cX11_busy 16 = .ok (.ireturn, 1) := by decide +kernel
theorem dX11_busy_17 : decode cX11_busy 17 = .ok (.iconst 0, 1) := by decide +kernel
theorem dX11_busy_18 : decode cX11_busy 18 = .ok (.istore_n 2, 1) := by decide +kernel
theorem dX11_busy_19 : decode cX11_busy 19 = .ok (.iconst 0, 1) := by decide +kernel
theorem dX11_busy_20 : decode cX11_busy 20 = .ok (.istore_n 3, 1) := by decide +kernel
theorem dX11_busy_21 : decode cX11_busy 21 = .ok (.iload_n 3, 1) := by decide +kernel
theorem dX11_busy_22 : decode cX11_busy 22 = .ok (.aload_n 0, 1) := by decide +kernel
theorem dX11_busy_23 : decode cX11_busy 23 = .ok (.getfield 12, 3) := by decide +kernel
theorem dX11_busy_26 : decode cX11_busy 26 = .ok (.getfield 76, 3) := by decide +kernel
theorem dX11_busy_29 : decode cX11_busy 29 = .ok (.if_icmp .ge 24, 3) := by decide +kernel
theorem dX11_busy_32 : decode cX11_busy 32 = .ok (.aload_n 0, 1) := by decide +kernel
theorem dX11_busy_33 : decode cX11_busy 33 = .ok (.getfield 12, 3) := by decide +kernel
theorem dX11_busy_36 : decode cX11_busy 36 = .ok (.iload_n 1, 1) := by decide +kernel
theorem dX11_busy_37 : decode cX11_busy 37 = .ok (.iload_n 3, 1) := by decide +kernel
theorem dX11_busy_38 : decode cX11_busy 38 = .ok (.invokevirtual 257, 3) := by decide +kernel
theorem dX11_busy_41 : decode cX11_busy 41 = .ok (.ifCond .eq 6, 3) := by decide +kernel
theorem dX11_busy_44 : decode cX11_busy 44 = .ok (.iinc 2 1, 3) := by decide +kernel
theorem dX11_busy_47 : decode cX11_busy 47 = .ok (.iinc 3 1, 3) := by decide +kernel
theorem dX11_busy_50 : decode cX11_busy 50 = .ok (.goto (-29), 3) := by decide +kernel
theorem dX11_busy_53 : decode cX11_busy 53 = .ok (.iload_n 2, 1) := by decide +kernel
theorem dX11_busy_54 : decode cX11_busy 54 = .ok (.ireturn, 1) := by decide +kernel
theorem dX11_fewest_0 : decode cX11_fewest 0 = .ok (.aload_n 0, 1) := by decide +kernel
theorem dX11_fewest_1 : decode cX11_fewest 1 = .ok (.getfield 30, 3) := by decide +kernel
theorem dX11_fewest_4 : decode cX11_fewest 4 = .ok (.iconst (-1), 1) := by decide +kernel
theorem dX11_fewest_5 : decode cX11_fewest 5 = .ok (.invokevirtual 260, 3) := by decide +kernel
theorem dX11_fewest_8 : decode cX11_fewest 8 = .ok (.ireturn, 1) := by decide +kernel
theorem dX11_group_0 : decode cX11_group 0 = .ok (.aload_n 0, 1) := by decide +kernel
theorem dX11_group_1 : decode cX11_group 1 = .ok (.getfield 12, 3) := by decide +kernel
theorem dX11_group_4 : decode cX11_group 4 = .ok (.iload_n 1, 1) := by decide +kernel
theorem dX11_group_5 : decode cX11_group 5 = .ok (.invokevirtual 94, 3) := by decide +kernel
theorem dX11_group_8 : decode cX11_group 8 = .ok (.ifCond .ne 9, 3) := by decide +kernel
theorem dX11_group_11 : decode cX11_group 11 = .ok (.aload_n 0, 1) := by decide +kernel
theorem dX11_group_12 : decode cX11_group 12 = .ok (.iconst 1, 1) := by decide +kernel
theorem dX11_group_13 : decode cX11_group 13 = .ok (.invokevirtual 68, 3) := by decide +kernel
theorem dX11_group_16 : decode cX11_group 16 = .ok (.ireturn, 1) := by decide +kernel
theorem dX11_group_17 : decode cX11_group 17 = .ok (.aload_n 0, 1) := by decide +kernel
theorem dX11_group_18 : decode cX11_group 18 = .ok (.getfield 30, 3) := by decide +kernel
theorem dX11_group_21 : decode cX11_group 21 = .ok (.iconst (-1), 1) := by decide +kernel
theorem dX11_group_22 : decode cX11_group 22 = .ok (.invokevirtual 260, 3) := by decide +kernel
theorem dX11_group_25 : decode cX11_group 25 = .ok (.pop, 1) := by decide +kernel
theorem dX11_group_26 : decode cX11_group 26 = .ok (.aload_n 0, 1) := by decide +kernel
theorem dX11_group_27 : decode cX11_group 27 = .ok (.getfield 30, 3) := by decide +kernel
theorem dX11_group_30 : decode cX11_group 30 = .ok (.getfield 263, 3) := by decide +kernel
theorem dX11_group_33 : decode cX11_group 33 = .ok (.iload_n 1, 1) := by decide +kernel
theorem dX11_group_34 : decode cX11_group 34 = .ok (.iaload, 1) := by decide +kernel
theorem dX11_group_35 : decode cX11_group 35 = .ok (.ireturn, 1) := by decide +kernel
theorem dX11_crowd_0 : decode cX11_crowd 0 = .ok (.iconst 0, 1) := by decide +kernel
theorem dX11_crowd_1 : decode cX11_crowd 1 = .ok (.istore_n 1, 1) := by decide +kernel
theorem dX11_crowd_2 : decode cX11_crowd 2 = .ok (.iconst 0, 1) := by decide +kernel
theorem dX11_crowd_3 : decode cX11_crowd 3 = .ok (.istore_n 2, 1) := by decide +kernel
theorem dX11_crowd_4 : decode cX11_crowd 4 = .ok (.iload_n 2, 1) := by decide +kernel
theorem dX11_crowd_5 : decode cX11_crowd 5 = .ok (.aload_n 0, 1) := by decide +kernel
theorem dX11_crowd_6 : decode cX11_crowd 6 = .ok (.getfield 12, 3) := by decide +kernel
theorem dX11_crowd_9 : decode cX11_crowd 9 = .ok (.getfield 76, 3) := by decide +kernel
theorem dX11_crowd_12 : decode cX11_crowd 12 = .ok (.if_icmp .ge 22, 3) := by decide +kernel
theorem dX11_crowd_15 : decode cX11_crowd 15 = .ok (.iload_n 1, 1) := by decide +kernel
theorem dX11_crowd_16 : decode cX11_crowd 16 = .ok (.aload_n 0, 1) := by decide +kernel
theorem dX11_crowd_17 : decode cX11_crowd 17 = .ok (.getfield 12, 3) := by decide +kernel
theorem dX11_crowd_20 : decode cX11_crowd 20 = .ok (.iload_n 2, 1) := by decide +kernel
theorem dX11_crowd_21 : decode cX11_crowd 21 = .ok (.invokevirtual 266, 3) := by decide +kernel
theorem dX11_crowd_24 : decode cX11_crowd 24 = .ok (.invokestatic 269, 3) := by decide +kernel
theorem dX11_crowd_27 : decode cX11_crowd 27 = .ok (.istore_n 1, 1) := by decide +kernel
theorem dX11_crowd_28 : decode cX11_crowd 28 = .ok (.iinc 2 1, 3) := by decide +kernel
theorem dX11_crowd_31 : decode cX11_crowd 31 = .ok (.goto (-27), 3) := by decide +kernel
theorem dX11_crowd_34 : decode cX11_crowd 34 = .ok (.iload_n 1, 1) := by decide +kernel
theorem dX11_crowd_35 : decode cX11_crowd 35 = .ok (.ireturn, 1) := by decide +kernel
theorem dX11_helps_0 : decode cX11_helps 0 = .ok (.aload_n 0, 1) := by decide +kernel
theorem dX11_helps_1 : decode cX11_helps 1 = .ok (.iload_n 1, 1) := by decide +kernel
theorem dX11_helps_2 : decode cX11_helps 2 = .ok (.iload_n 2, 1) := by decide +kernel
theorem dX11_helps_3 : decode cX11_helps 3 = .ok (.invokevirtual 154, 3) := by decide +kernel
theorem dX11_helps_6 : decode cX11_helps 6 = .ok (.istore_n 3, 1) := by decide +kernel
theorem dX11_helps_7 : decode cX11_helps 7 = .ok (.iload_n 3, 1) := by decide +kernel
theorem dX11_helps_8 : decode cX11_helps 8 = .ok (.ifCond .eq 9, 3) := by decide +kernel
theorem dX11_helps_11 : decode cX11_helps 11 = .ok (.aload_n 0, 1) := by decide +kernel
theorem dX11_helps_12 : decode cX11_helps 12 = .ok (.iload_n 3, 1) := by decide +kernel
theorem dX11_helps_13 : decode cX11_helps 13 = .ok (.invokevirtual 68, 3) := by decide +kernel
theorem dX11_helps_16 : decode cX11_helps 16 = .ok (.ireturn, 1) := by decide +kernel
theorem dX11_helps_17 : decode cX11_helps 17 = .ok (.aload_n 0, 1) := by decide +kernel
theorem dX11_helps_18 : decode cX11_helps 18 = .ok (.getfield 12, 3) := by decide +kernel
theorem dX11_helps_21 : decode cX11_helps 21 = .ok (.iload_n 1, 1) := by decide +kernel
theorem dX11_helps_22 : decode cX11_helps 22 = .ok (.iload_n 2, 1) := by decide +kernel
theorem dX11_helps_23 : decode cX11_helps 23 = .ok (.invokevirtual 158, 3) := by decide +kernel
theorem dX11_helps_26 : decode cX11_helps 26 = .ok (.aload_n 0, 1) := by decide +kernel
theorem dX11_helps_27 : decode cX11_helps 27 = .ok (.getfield 30, 3) := by decide +kernel
theorem dX11_helps_30 : decode cX11_helps 30 = .ok (.iconst (-1), 1) := by decide +kernel
theorem dX11_helps_31 : decode cX11_helps 31 = .ok (.invokevirtual 260, 3) := by decide +kernel
theorem dX11_helps_34 : decode cX11_helps 34 = .ok (.istore 4, 2) := by decide +kernel
theorem dX11_helps_36 : decode cX11_helps 36 = .ok (.aload_n 0, 1) := by decide +kernel
theorem dX11_helps_37 : decode cX11_helps 37 = .ok (.getfield 12, 3) := by decide +kernel
theorem dX11_helps_40 : decode cX11_helps 40 = .ok (.iload_n 1, 1) := by decide +kernel
theorem dX11_helps_41 : decode cX11_helps 41 = .ok (.iload_n 2, 1) := by decide +kernel
theorem dX11_helps_42 : decode cX11_helps 42 = .ok (.ineg, 1) := by decide +kernel
theorem dX11_helps_43 : decode cX11_helps 43 = .ok (.invokevirtual 158, 3) := by decide +kernel
theorem dX11_helps_46 : decode cX11_helps 46 = .ok (.iload 4, 2) := by decide +kernel
theorem dX11_helps_48 : decode cX11_helps 48 = .ok (.ireturn, 1) := by decide +kernel
theorem dX11_without_0 : decode cX11_without 0 = .ok (.aload_n 0, 1) := by decide +kernel
theorem dX11_without_1 : decode cX11_without 1 = .ok (.getfield 12, 3) := by decide +kernel
theorem dX11_without_4 : decode cX11_without 4 = .ok (.iload_n 1, 1) := by decide +kernel
theorem dX11_without_5 : decode cX11_without 5 = .ok (.invokevirtual 94, 3) := by decide +kernel
theorem dX11_without_8 : decode cX11_without 8 = .ok (.ifCond .ne 9, 3) := by decide +kernel
theorem dX11_without_11 : decode cX11_without 11 = .ok (.aload_n 0, 1) := by decide +kernel
theorem dX11_without_12 : decode cX11_without 12 = .ok (.iconst 1, 1) := by decide +kernel
theorem dX11_without_13 : decode cX11_without 13 = .ok (.invokevirtual 68, 3) := by decide +kernel
theorem dX11_without_16 : decode cX11_without 16 = .ok (.ireturn, 1) := by decide +kernel
theorem dX11_without_17 : decode cX11_without 17 = .ok (.aload_n 0, 1) := by decide +kernel
theorem dX11_without_18 : decode cX11_without 18 = .ok (.getfield 30, 3) := by decide +kernel
theorem dX11_without_21 : decode cX11_without 21 = .ok (.iload_n 1, 1) := by decide +kernel
theorem dX11_without_22 : decode cX11_without 22 = .ok (.invokevirtual 260, 3) := by decide +kernel
theorem dX11_without_25 : decode cX11_without 25 = .ok (.ireturn, 1) := by decide +kernel
theorem dX11_best_0 : decode cX11_best 0 = .ok (.iload_n 1, 1) := by decide +kernel
theorem dX11_best_1 : decode cX11_best 1 = .ok (.iconst 4, 1) := by decide +kernel
theorem dX11_best_2 : decode cX11_best 2 = .ok (.invokestatic 79, 3) := by decide +kernel
theorem dX11_best_5 : decode cX11_best 5 = .ok (.ifCond .eq 30, 3) := by decide +kernel
theorem dX11_best_8 : decode cX11_best 8 = .ok (.aload_n 0, 1) := by decide +kernel
theorem dX11_best_9 : decode cX11_best 9 = .ok (.getfield 12, 3) := by decide +kernel
theorem dX11_best_12 : decode cX11_best 12 = .ok (.iload_n 2, 1) := by decide +kernel
theorem dX11_best_13 : decode cX11_best 13 = .ok (.invokevirtual 272, 3) := by decide +kernel
theorem dX11_best_16 : decode cX11_best 16 = .ok (.ifCond .eq 19, 3) := by decide +kernel
theorem dX11_best_19 : decode cX11_best 19 = .ok (.iload_n 3, 1) := by decide +kernel
theorem dX11_best_20 : decode cX11_best 20 = .ok (.iconst (-1), 1) := by decide +kernel
theorem dX11_best_21 : decode cX11_best 21 = .ok (.if_icmp .lt 14, 3) := by decide +kernel
theorem dX11_best_24 : decode cX11_best 24 = .ok (.iload_n 3, 1) := by decide +kernel
theorem dX11_best_25 : decode cX11_best 25 = .ok (.aload_n 0, 1) := by decide +kernel
theorem dX11_best_26 : decode cX11_best 26 = .ok (.getfield 12, 3) := by decide +kernel
theorem dX11_best_29 : decode cX11_best 29 = .ok (.getfield 83, 3) := by decide +kernel
theorem dX11_best_32 : decode cX11_best 32 = .ok (.if_icmp .lt 9, 3) := by decide +kernel
theorem dX11_best_35 : decode cX11_best 35 = .ok (.aload_n 0, 1) := by decide +kernel
theorem dX11_best_36 : decode cX11_best 36 = .ok (.iconst 1, 1) := by decide +kernel
theorem dX11_best_37 : decode cX11_best 37 = .ok (.invokevirtual 68, 3) := by decide +kernel
theorem dX11_best_40 : decode cX11_best 40 = .ok (.ireturn, 1) := by decide +kernel
theorem dX11_best_41 : decode cX11_best 41 = .ok (.aload_n 0, 1) := by decide +kernel
theorem dX11_best_42 : decode cX11_best 42 = .ok (.getfield 30, 3) := by decide +kernel
theorem dX11_best_45 : decode cX11_best 45 = .ok (.iload_n 1, 1) := by decide +kernel
theorem dX11_best_46 : decode cX11_best 46 = .ok (.iload_n 2, 1) := by decide +kernel
theorem dX11_best_47 : decode cX11_best 47 = .ok (.invokevirtual 275, 3) := by decide +kernel
theorem dX11_best_50 : decode cX11_best 50 = .ok (.ifCond .ne 9, 3) := by decide +kernel
theorem dX11_best_53 : decode cX11_best 53 = .ok (.aload_n 0, 1) := by decide +kernel
theorem dX11_best_54 : decode cX11_best 54 = .ok (.iconst 2, 1) := by decide +kernel
theorem dX11_best_55 : decode cX11_best 55 = .ok (.invokevirtual 68, 3) := by decide +kernel
theorem dX11_best_58 : decode cX11_best 58 = .ok (.ireturn, 1) := by decide +kernel
theorem dX11_best_59 : decode cX11_best 59 = .ok (.iload_n 3, 1) := by decide +kernel
theorem dX11_best_60 : decode cX11_best 60 = .ok (.ifCond .ge 13, 3) := by decide +kernel
theorem dX11_best_63 : decode cX11_best 63 = .ok (.aload_n 0, 1) := by decide +kernel
theorem dX11_best_64 : decode cX11_best 64 = .ok (.getfield 30, 3) := by decide +kernel
theorem dX11_best_67 : decode cX11_best 67 = .ok (.getfield 278, 3) := by decide +kernel
theorem dX11_best_70 : decode cX11_best 70 = .ok (.goto 12, 3) := by decide +kernel
theorem dX11_best_73 : decode cX11_best 73 = .ok (.aload_n 0, 1) := by decide +kernel
theorem dX11_best_74 : decode cX11_best 74 = .ok (.getfield 30, 3) := by decide +kernel
theorem dX11_best_77 : decode cX11_best 77 = .ok (.getfield 281, 3) := by decide +kernel
theorem dX11_best_80 : decode cX11_best 80 = .ok (.iload_n 3, 1) := by decide +kernel
theorem dX11_best_81 : decode cX11_best 81 = .ok (.iaload, 1) := by decide +kernel
theorem dX11_best_82 : decode cX11_best 82 = .ok (.ireturn, 1) := by decide +kernel
theorem dX11_take_0 : decode cX11_take 0 = .ok (.iload_n 1, 1) := by decide +kernel
theorem dX11_take_1 : decode cX11_take 1 = .ok (.iconst 4, 1) := by decide +kernel
theorem dX11_take_2 : decode cX11_take 2 = .ok (.invokestatic 79, 3) := by decide +kernel
theorem dX11_take_5 : decode cX11_take 5 = .ok (.ifCond .eq 14, 3) := by decide +kernel
theorem dX11_take_8 : decode cX11_take 8 = .ok (.aload_n 0, 1) := by decide +kernel
theorem dX11_take_9 : decode cX11_take 9 = .ok (.getfield 12, 3) := by decide +kernel
theorem dX11_take_12 : decode cX11_take 12 = .ok (.iload_n 2, 1) := by decide +kernel
theorem dX11_take_13 : decode cX11_take 13 = .ok (.invokevirtual 272, 3) := by decide +kernel
theorem dX11_take_16 : decode cX11_take 16 = .ok (.ifCond .ne 9, 3) := by decide +kernel
theorem dX11_take_19 : decode cX11_take 19 = .ok (.aload_n 0, 1) := by decide +kernel
theorem dX11_take_20 : decode cX11_take 20 = .ok (.iconst 1, 1) := by decide +kernel
theorem dX11_take_21 : decode cX11_take 21 = .ok (.invokevirtual 68, 3) := by decide +kernel
theorem dX11_take_24 : decode cX11_take 24 = .ok (.ireturn, 1) := by decide +kernel
theorem dX11_take_25 : decode cX11_take 25 = .ok (.aload_n 0, 1) := by decide +kernel
theorem dX11_take_26 : decode cX11_take 26 = .ok (.getfield 30, 3) := by decide +kernel
theorem dX11_take_29 : decode cX11_take 29 = .ok (.iload_n 1, 1) := by decide +kernel
theorem dX11_take_30 : decode cX11_take 30 = .ok (.iload_n 2, 1) := by decide +kernel
theorem dX11_take_31 : decode cX11_take 31 = .ok (.invokevirtual 275, 3) := by decide +kernel
theorem dX11_take_34 : decode cX11_take 34 = .ok (.ifCond .ne 9, 3) := by decide +kernel
theorem dX11_take_37 : decode cX11_take 37 = .ok (.aload_n 0, 1) := by decide +kernel
theorem dX11_take_38 : decode cX11_take 38 = .ok (.iconst 2, 1) := by decide +kernel
theorem dX11_take_39 : decode cX11_take 39 = .ok (.invokevirtual 68, 3) := by decide +kernel
theorem dX11_take_42 : decode cX11_take 42 = .ok (.ireturn, 1) := by decide +kernel
theorem dX11_take_43 : decode cX11_take 43 = .ok (.aload_n 0, 1) := by decide +kernel
theorem dX11_take_44 : decode cX11_take 44 = .ok (.getfield 30, 3) := by decide +kernel
theorem dX11_take_47 : decode cX11_take 47 = .ok (.getfield 281, 3) := by decide +kernel
theorem dX11_take_50 : decode cX11_take 50 = .ok (.iconst 0, 1) := by decide +kernel
theorem dX11_take_51 : decode cX11_take 51 = .ok (.aload_n 0, 1) := by decide +kernel
theorem dX11_take_52 : decode cX11_take 52 = .ok (.getfield 12, 3) := by decide +kernel
theorem dX11_take_55 : decode cX11_take 55 = .ok (.getfield 228, 3) := by decide +kernel
theorem dX11_take_58 : decode cX11_take 58 = .ok (.iconst 0, 1) := by decide +kernel
theorem dX11_take_59 : decode cX11_take 59 = .ok (.aload_n 0, 1) := by decide +kernel
theorem dX11_take_60 : decode cX11_take 60 = .ok (.getfield 12, 3) := by decide +kernel
theorem dX11_take_63 : decode cX11_take 63 = .ok (.getfield 83, 3) := by decide +kernel
theorem dX11_take_66 : decode cX11_take 66 = .ok (.invokestatic 242, 3) := by decide +kernel
theorem dX11_take_69 : decode cX11_take 69 = .ok (.aload_n 0, 1) := by decide +kernel
theorem dX11_take_70 : decode cX11_take 70 = .ok (.getfield 30, 3) := by decide +kernel
theorem dX11_take_73 : decode cX11_take 73 = .ok (.getfield 278, 3) := by decide +kernel
theorem dX11_take_76 : decode cX11_take 76 = .ok (.ireturn, 1) := by decide +kernel
theorem dX11_castings_0 : decode cX11_castings 0 = .ok (.aload_n 0, 1) := by decide +kernel
theorem dX11_castings_1 : decode cX11_castings 1 = .ok (.getfield 12, 3) := by decide +kernel
theorem dX11_castings_4 : decode cX11_castings 4 = .ok (.iload_n 1, 1) := by decide +kernel
theorem dX11_castings_5 : decode cX11_castings 5 = .ok (.invokevirtual 272, 3) := by decide +kernel
theorem dX11_castings_8 : decode cX11_castings 8 = .ok (.ifCond .ne 10, 3) := by decide +kernel
theorem dX11_castings_11 : decode cX11_castings 11 = .ok (.aload_n 0, 1) := by decide +kernel
theorem dX11_castings_12 : decode cX11_castings 12 = .ok (.iconst 1, 1) := by decide +kernel
theorem dX11_castings_13 : decode cX11_castings 13 = .ok (.invokevirtual 68, 3) := by decide +kernel
theorem dX11_castings_16 : decode cX11_castings 16 = .ok (.i2l, 1) := by decide +kernel
theorem dX11_castings_17 : decode cX11_castings 17 = .ok (.lreturn, 1) := by decide +kernel
theorem dX11_castings_18 : decode cX11_castings 18 = .ok (.aload_n 0, 1) := by decide +kernel
theorem dX11_castings_19 : decode cX11_castings 19 = .ok (.getfield 30, 3) := by decide +kernel
theorem dX11_castings_22 : decode cX11_castings 22 = .ok (.iload_n 1, 1) := by decide +kernel
theorem dX11_castings_23 : decode cX11_castings 23 = .ok (.invokevirtual 284, 3) := by decide +kernel
theorem dX11_castings_26 : decode cX11_castings 26 = .ok (.aload_n 0, 1) := by decide +kernel
theorem dX11_castings_27 : decode cX11_castings 27 = .ok (.getfield 30, 3) := by decide +kernel
theorem dX11_castings_30 : decode cX11_castings 30 = .ok (.getfield 287, 3) := by decide +kernel
theorem dX11_castings_33 : decode cX11_castings 33 = .ok (.aload_n 0, 1) := by decide +kernel
theorem dX11_castings_34 : decode cX11_castings 34 = .ok (.getfield 12, 3) := by decide +kernel
theorem dX11_castings_37 : decode cX11_castings 37 = .ok (.invokevirtual 290, 3) := by decide +kernel
theorem dX11_castings_40 : decode cX11_castings 40 = .ok (.iaload, 1) := by decide +kernel
theorem dX11_castings_41 : decode cX11_castings 41 = .ok (.i2l, 1) := by decide +kernel
theorem dX11_castings_42 : decode cX11_castings 42 = .ok (.lreturn, 1) := by decide +kernel
theorem dX11_leave_0 : decode cX11_leave 0 = .ok (.aload_n 0, 1) := by decide +kernel
theorem dX11_leave_1 : decode cX11_leave 1 = .ok (.getfield 12, 3) := by decide +kernel
theorem dX11_leave_4 : decode cX11_leave 4 = .ok (.iload_n 1, 1) := by decide +kernel
theorem dX11_leave_5 : decode cX11_leave 5 = .ok (.invokevirtual 272, 3) := by decide +kernel
theorem dX11_leave_8 : decode cX11_leave 8 = .ok (.ifCond .eq 11, 3) := by decide +kernel
theorem dX11_leave_11 : decode cX11_leave 11 = .ok (.iload_n 2, 1) := by decide +kernel
theorem dX11_leave_12 : decode cX11_leave 12 = .ok (.iconst 2, 1) := by decide +kernel
theorem dX11_leave_13 : decode cX11_leave 13 = .ok (.invokestatic 79, 3) := by decide +kernel
theorem dX11_leave_16 : decode cX11_leave 16 = .ok (.ifCond .ne 9, 3) := by decide +kernel
theorem dX11_leave_19 : decode cX11_leave 19 = .ok (.aload_n 0, 1) := by decide +kernel
theorem dX11_leave_20 : decode cX11_leave 20 = .ok (.iconst 1, 1) := by decide +kernel
theorem dX11_leave_21 : decode cX11_leave 21 = .ok (.invokevirtual 68, 3) := by decide +kernel
theorem dX11_leave_24 : decode cX11_leave 24 = .ok (.ireturn, 1) := by decide +kernel
theorem dX11_leave_25 : decode cX11_leave 25 = .ok (.aload_n 0, 1) := by decide +kernel
theorem dX11_leave_26 : decode cX11_leave 26 = .ok (.getfield 30, 3) := by decide +kernel
theorem dX11_leave_29 : decode cX11_leave 29 = .ok (.iload_n 1, 1) := by decide +kernel
theorem dX11_leave_30 : decode cX11_leave 30 = .ok (.invokevirtual 284, 3) := by decide +kernel
theorem dX11_leave_33 : decode cX11_leave 33 = .ok (.aload_n 0, 1) := by decide +kernel
theorem dX11_leave_34 : decode cX11_leave 34 = .ok (.getfield 30, 3) := by decide +kernel
theorem dX11_leave_37 : decode cX11_leave 37 = .ok (.invokevirtual 293, 3) := by decide +kernel
theorem dX11_leave_40 : decode cX11_leave 40 = .ok (.istore_n 3, 1) := by decide +kernel
theorem dX11_leave_41 : decode cX11_leave 41 = .ok (.iload_n 2, 1) := by decide +kernel
theorem dX11_leave_42 : decode cX11_leave 42 = .ok (.ifCond .ne 14, 3) := by decide +kernel
theorem dX11_leave_45 : decode cX11_leave 45 = .ok (.aload_n 0, 1) := by decide +kernel
theorem dX11_leave_46 : decode cX11_leave 46 = .ok (.getfield 12, 3) := by decide +kernel
theorem dX11_leave_49 : decode cX11_leave 49 = .ok (.iload_n 3, 1) := by decide +kernel
theorem dX11_leave_50 : decode cX11_leave 50 = .ok (.invokevirtual 296, 3) := by decide +kernel
theorem dX11_leave_53 : decode cX11_leave 53 = .ok (.goto 4, 3) := by decide +kernel
theorem dX11_leave_56 : decode cX11_leave 56 = .ok (.iload_n 3, 1) := by decide +kernel
theorem dX11_leave_57 : decode cX11_leave 57 = .ok (.ireturn, 1) := by decide +kernel
theorem dX11_never_0 : decode cX11_never 0 = .ok (.aload_n 0, 1) := by decide +kernel
theorem dX11_never_1 : decode cX11_never 1 = .ok (.getfield 12, 3) := by decide +kernel
theorem dX11_never_4 : decode cX11_never 4 = .ok (.iload_n 1, 1) := by decide +kernel
theorem dX11_never_5 : decode cX11_never 5 = .ok (.invokevirtual 272, 3) := by decide +kernel
theorem dX11_never_8 : decode cX11_never 8 = .ok (.ifCond .eq 22, 3) := by decide +kernel
theorem dX11_never_11 : decode cX11_never 11 = .ok (.aload_n 0, 1) := by decide +kernel
theorem dX11_never_12 : decode cX11_never 12 = .ok (.getfield 12, 3) := by decide +kernel
theorem dX11_never_15 : decode cX11_never 15 = .ok (.iload_n 2, 1) := by decide +kernel
theorem dX11_never_16 : decode cX11_never 16 = .ok (.invokevirtual 171, 3) := by decide +kernel
theorem dX11_never_19 : decode cX11_never 19 = .ok (.ifCond .eq 11, 3) := by decide +kernel
theorem dX11_never_22 : decode cX11_never 22 = .ok (.iload_n 3, 1) := by decide +kernel
theorem dX11_never_23 : decode cX11_never 23 = .ok (.iconst 2, 1) := by decide +kernel
theorem dX11_never_24 : decode cX11_never 24 = .ok (.invokestatic 79, 3) := by decide +kernel
theorem dX11_never_27 : decode cX11_never 27 = .ok (.ifCond .ne 9, 3) := by decide +kernel
theorem dX11_never_30 : decode cX11_never 30 = .ok (.aload_n 0, 1) := by decide +kernel
theorem dX11_never_31 : decode cX11_never 31 = .ok (.iconst 1, 1) := by decide +kernel
theorem dX11_never_32 : decode cX11_never 32 = .ok (.invokevirtual 68, 3) := by decide +kernel
theorem dX11_never_35 : decode cX11_never 35 = .ok (.ireturn, 1) := by decide +kernel
theorem dX11_never_36 : decode cX11_never 36 = .ok (.iconst 1, 1) := by decide +kernel
theorem dX11_never_37 : decode cX11_never 37 = .ok (.iload_n 2, 1) := by decide +kernel
theorem dX11_never_38 : decode cX11_never 38 = .ok (.ishl, 1) := by decide +kernel
theorem dX11_never_39 : decode cX11_never 39 = .ok (.istore 4, 2) := by decide +kernel
theorem dX11_never_41 : decode cX11_never 41 = .ok (.aload_n 0, 1) := by decide +kernel
theorem dX11_never_42 : decode cX11_never 42 = .ok (.getfield 30, 3) := by decide +kernel
theorem dX11_never_45 : decode cX11_never 45 = .ok (.iload_n 1, 1) := by decide +kernel
theorem dX11_never_46 : decode cX11_never 46 = .ok (.iload 4, 2) := by decide +kernel
theorem dX11_never_48 : decode cX11_never 48 = .ok (.iconst (-1), 1) := by decide +kernel
theorem dX11_never_49 : decode cX11_never 49 = .ok (.ixor, 1) := by decide +kernel
theorem dX11_never_50 : decode cX11_never 50 = .ok (.iand, 1) := by decide +kernel
theorem dX11_never_51 : decode cX11_never 51 = .ok (.invokevirtual 284, 3) := by decide +kernel
theorem dX11_never_54 : decode cX11_never 54 = .ok (.aload_n 0, 1) := by decide +kernel
theorem dX11_never_55 : decode cX11_never 55 = .ok (.getfield 30, 3) := by decide +kernel
theorem dX11_never_58 : decode cX11_never 58 = .ok (.iload_n 2, 1) := by decide +kernel
theorem dX11_never_59 : decode cX11_never 59 = .ok (.iload_n 1, 1) := by decide +kernel
theorem dX11_never_60 : decode cX11_never 60 = .ok (.iload 4, 2) := by decide +kernel
theorem dX11_never_62 : decode cX11_never 62 = .ok (.iand, 1) := by decide +kernel
theorem dX11_never_63 : decode cX11_never 63 = .ok (.ifCond .eq 7, 3) := by decide +kernel
theorem dX11_never_66 : decode cX11_never 66 = .ok (.iconst 1, 1) := by decide +kernel
theorem dX11_never_67 : decode cX11_never 67 = .ok (.goto 4, 3) := by decide +kernel
theorem dX11_never_70 : decode cX11_never 70 = .ok (.iconst 0, 1) := by decide +kernel
theorem dX11_never_71 : decode cX11_never 71 = .ok (.invokevirtual 299, 3) := by decide +kernel
theorem dX11_never_74 : decode cX11_never 74 = .ok (.ifCond .ne 9, 3) := by decide +kernel
theorem dX11_never_77 : decode cX11_never 77 = .ok (.aload_n 0, 1) := by decide +kernel
theorem dX11_never_78 : decode cX11_never 78 = .ok (.iconst 2, 1) := by decide +kernel
theorem dX11_never_79 : decode cX11_never 79 = .ok (.invokevirtual 68, 3) := by decide +kernel
theorem dX11_never_82 : decode cX11_never 82 = .ok (.ireturn, 1) := by decide +kernel
theorem dX11_never_83 : decode cX11_never 83 = .ok (.iload_n 3, 1) := by decide +kernel
theorem dX11_never_84 : decode cX11_never 84 = .ok (.ifCond .ne 23, 3) := by decide +kernel
theorem dX11_never_87 : decode cX11_never 87 = .ok (.aload_n 0, 1) := by decide +kernel
theorem dX11_never_88 : decode cX11_never 88 = .ok (.getfield 12, 3) := by decide +kernel
theorem dX11_never_91 : decode cX11_never 91 = .ok (.invokevirtual 290, 3) := by decide +kernel
theorem dX11_never_94 : decode cX11_never 94 = .ok (.aload_n 0, 1) := by decide +kernel
theorem dX11_never_95 : decode cX11_never 95 = .ok (.getfield 30, 3) := by decide +kernel
theorem dX11_never_98 : decode cX11_never 98 = .ok (.getfield 303, 3) := by decide +kernel
theorem dX11_never_101 : decode cX11_never 101 = .ok (.iconst (-1), 1) := by decide +kernel
theorem dX11_never_102 : decode cX11_never 102 = .ok (.ixor, 1) := by decide +kernel
theorem dX11_never_103 : decode cX11_never 103 = .ok (.iand, 1) := by decide +kernel
theorem dX11_never_104 : decode cX11_never 104 = .ok (.goto 10, 3) := by decide +kernel
theorem dX11_never_107 : decode cX11_never 107 = .ok (.aload_n 0, 1) := by decide +kernel
theorem dX11_never_108 : decode cX11_never 108 = .ok (.getfield 30, 3) := by decide +kernel
theorem dX11_never_111 : decode cX11_never 111 = .ok (.getfield 306, 3) := by decide +kernel
theorem dX11_never_114 : decode cX11_never 114 = .ok (.ireturn, 1) := by decide +kernel
theorem dX11_voice_0 : decode cX11_voice 0 = .ok (.aload_n 0, 1) := by decide +kernel
theorem dX11_voice_1 : decode cX11_voice 1 = .ok (.getfield 12, 3) := by decide +kernel
theorem dX11_voice_4 : decode cX11_voice 4 = .ok (.iload_n 1, 1) := by decide +kernel
theorem dX11_voice_5 : decode cX11_voice 5 = .ok (.invokevirtual 94, 3) := by decide +kernel
theorem dX11_voice_8 : decode cX11_voice 8 = .ok (.ifCond .eq 11, 3) := by decide +kernel
theorem dX11_voice_11 : decode cX11_voice 11 = .ok (.iload_n 2, 1) := by decide +kernel
theorem dX11_voice_12 : decode cX11_voice 12 = .ok (.iconst 4, 1) := by decide +kernel
theorem dX11_voice_13 : decode cX11_voice 13 = .ok (.invokestatic 79, 3) := by decide +kernel
theorem dX11_voice_16 : decode cX11_voice 16 = .ok (.ifCond .ne 9, 3) := by decide +kernel
theorem dX11_voice_19 : decode cX11_voice 19 = .ok (.aload_n 0, 1) := by decide +kernel
theorem dX11_voice_20 : decode cX11_voice 20 = .ok (.iconst 1, 1) := by decide +kernel
theorem dX11_voice_21 : decode cX11_voice 21 = .ok (.invokevirtual 68, 3) := by decide +kernel
theorem dX11_voice_24 : decode cX11_voice 24 = .ok (.ireturn, 1) := by decide +kernel
theorem dX11_voice_25 : decode cX11_voice 25 = .ok (.aload_n 0, 1) := by decide +kernel
theorem dX11_voice_26 : decode cX11_voice 26 = .ok (.getfield 12, 3) := by decide +kernel
theorem dX11_voice_29 : decode cX11_voice 29 = .ok (.getfield 98, 3) := by decide +kernel
theorem dX11_voice_32 : decode cX11_voice 32 = .ok (.iload_n 1, 1) := by decide +kernel
theorem dX11_voice_33 : decode cX11_voice 33 = .ok (.aaload, 1) := by decide +kernel
theorem dX11_voice_34 : decode cX11_voice 34 = .ok (.astore 4, 2) := by decide +kernel
theorem dX11_voice_36 : decode cX11_voice 36 = .ok (.aload_n 0, 1) := by decide +kernel
theorem dX11_voice_37 : decode cX11_voice 37 = .ok (.getfield 49, 3) := by decide +kernel
theorem dX11_voice_40 : decode cX11_voice 40 = .ok (.iconst 0, 1) := by decide +kernel
theorem dX11_voice_41 : decode cX11_voice 41 = .ok (.putfield 189, 3) := by decide +kernel
theorem dX11_voice_44 : decode cX11_voice 44 = .ok (.iload_n 2, 1) := by decide +kernel
theorem dX11_voice_45 : decode cX11_voice 45 = .ok (.tableswitch 60 0 2 #[27, 38, 49], 27) := by decide +kernel
theorem dX11_voice_72 : decode cX11_voice 72 = .ok (.aload 4, 2) := by decide +kernel
theorem dX11_voice_74 : decode cX11_voice 74 = .ok (.iload_n 3, 1) := by decide +kernel
theorem dX11_voice_75 : decode cX11_voice 75 = .ok (.aload_n 0, 1) := by decide +kernel
theorem dX11_voice_76 : decode cX11_voice 76 = .ok (.getfield 49, 3) := by decide +kernel
theorem dX11_voice_79 : decode cX11_voice 79 = .ok (.invokevirtual 309, 3) := by decide +kernel
theorem dX11_voice_82 : decode cX11_voice 82 = .ok (.ireturn, 1) := by decide +kernel
theorem dX11_voice_83 : decode cX11_voice 83 = .ok (.aload 4, 2) := by decide +kernel
theorem dX11_voice_85 : decode cX11_voice 85 = .ok (.iload_n 3, 1) := by decide +kernel
theorem dX11_voice_86 : decode cX11_voice 86 = .ok (.aload_n 0, 1) := by decide +kernel
theorem dX11_voice_87 : decode cX11_voice 87 = .ok (.getfield 49, 3) := by decide +kernel
theorem dX11_voice_90 : decode cX11_voice 90 = .ok (.invokevirtual 313, 3) := by decide +kernel
theorem dX11_voice_93 : decode cX11_voice 93 = .ok (.ireturn, 1) := by decide +kernel
theorem dX11_voice_94 : decode cX11_voice 94 = .ok (.aload 4, 2) := by decide +kernel
theorem dX11_voice_96 : decode cX11_voice 96 = .ok (.iload_n 3, 1) := by decide +kernel
theorem dX11_voice_97 : decode cX11_voice 97 = .ok (.aload_n 0, 1) := by decide +kernel
theorem dX11_voice_98 : decode cX11_voice 98 = .ok (.getfield 49, 3) := by decide +kernel
theorem dX11_voice_101 : decode cX11_voice 101 = .ok (.invokevirtual 316, 3) := by decide +kernel
theorem dX11_voice_104 : decode cX11_voice 104 = .ok (.ireturn, 1) := by decide +kernel
theorem dX11_voice_105 : decode cX11_voice 105 = .ok (.aload 4, 2) := by decide +kernel
theorem dX11_voice_107 : decode cX11_voice 107 = .ok (.iload_n 3, 1) := by decide +kernel
theorem dX11_voice_108 : decode cX11_voice 108 = .ok (.aload_n 0, 1) := by decide +kernel
theorem dX11_voice_109 : decode cX11_voice 109 = .ok (.getfield 49, 3) := by decide +kernel
theorem dX11_voice_112 : decode cX11_voice 112 = .ok (.invokevirtual 319, 3) := by decide +kernel
theorem dX11_voice_115 : decode cX11_voice 115 = .ok (.ireturn, 1) := by decide +kernel
theorem dX11_trace_0 : decode cX11_trace 0 = .ok (.iload_n 1, 1) := by decide +kernel
theorem dX11_trace_1 : decode cX11_trace 1 = .ok (.aload_n 0, 1) := by decide +kernel
theorem dX11_trace_2 : decode cX11_trace 2 = .ok (.getfield 49, 3) := by decide +kernel
theorem dX11_trace_5 : decode cX11_trace 5 = .ok (.getfield 189, 3) := by decide +kernel
theorem dX11_trace_8 : decode cX11_trace 8 = .ok (.invokestatic 79, 3) := by decide +kernel
theorem dX11_trace_11 : decode cX11_trace 11 = .ok (.ifCond .ne 9, 3) := by decide +kernel
theorem dX11_trace_14 : decode cX11_trace 14 = .ok (.aload_n 0, 1) := by decide +kernel
theorem dX11_trace_15 : decode cX11_trace 15 = .ok (.iconst 2, 1) := by decide +kernel
theorem dX11_trace_16 : decode cX11_trace 16 = .ok (.invokevirtual 68, 3) := by decide +kernel
theorem dX11_trace_19 : decode cX11_trace 19 = .ok (.ireturn, 1) := by decide +kernel
theorem dX11_trace_20 : decode cX11_trace 20 = .ok (.aload_n 0, 1) := by decide +kernel
theorem dX11_trace_21 : decode cX11_trace 21 = .ok (.getfield 49, 3) := by decide +kernel
theorem dX11_trace_24 : decode cX11_trace 24 = .ok (.getfield 239, 3) := by decide +kernel
theorem dX11_trace_27 : decode cX11_trace 27 = .ok (.iload_n 1, 1) := by decide +kernel
theorem dX11_trace_28 : decode cX11_trace 28 = .ok (.iaload, 1) := by decide +kernel
theorem dX11_trace_29 : decode cX11_trace 29 = .ok (.ireturn, 1) := by decide +kernel
theorem dX11_sheet_0 : decode cX11_sheet 0 = .ok (.iload_n 1, 1) := by decide +kernel
theorem dX11_sheet_1 : decode cX11_sheet 1 = .ok (.iconst 4, 1) := by decide +kernel
theorem dX11_sheet_2 : decode cX11_sheet 2 = .ok (.invokestatic 79, 3) := by decide +kernel
theorem dX11_sheet_5 : decode cX11_sheet 5 = .ok (.ifCond .eq 25, 3) := by decide +kernel
theorem dX11_sheet_8 : decode cX11_sheet 8 = .ok (.iload_n 2, 1) := by decide +kernel
theorem dX11_sheet_9 : decode cX11_sheet 9 = .ok (.ifCond .eq 27, 3) := by decide +kernel
theorem dX11_sheet_12 : decode cX11_sheet 12 = .ok (.iload_n 2, 1) := by decide +kernel
theorem dX11_sheet_13 : decode cX11_sheet 13 = .ok (.bipush 8, 2) := by decide +kernel
theorem dX11_sheet_15 : decode cX11_sheet 15 = .ok (.if_icmp .eq 21, 3) := by decide +kernel
theorem dX11_sheet_18 : decode cX11_sheet 18 = .ok (.iload_n 2, 1) := by decide +kernel
theorem dX11_sheet_19 : decode cX11_sheet 19 = .ok (.bipush 16, 2) := by decide +kernel
theorem dX11_sheet_21 : decode cX11_sheet 21 = .ok (.if_icmp .eq 15, 3) := by decide +kernel
theorem dX11_sheet_24 : decode cX11_sheet 24 = .ok (.iload_n 2, 1) := by decide +kernel
theorem dX11_sheet_25 : decode cX11_sheet 25 = .ok (.bipush 32, 2) := by decide +kernel
theorem dX11_sheet_27 : decode cX11_sheet 27 = .ok (.if_icmp .eq 9, 3) := by decide +kernel
theorem dX11_sheet_30 : decode cX11_sheet 30 = .ok (.aload_n 0, 1) := by decide +kernel
theorem dX11_sheet_31 : decode cX11_sheet 31 = .ok (.iconst 1, 1) := by decide +kernel
theorem dX11_sheet_32 : decode cX11_sheet 32 = .ok (.invokevirtual 68, 3) := by decide +kernel
theorem dX11_sheet_35 : decode cX11_sheet 35 = .ok (.ireturn, 1) := by decide +kernel
theorem dX11_sheet_36 : decode cX11_sheet 36 = .ok (.iload_n 2, 1) := by decide +kernel
theorem dX11_sheet_37 : decode cX11_sheet 37 = .ok (.ifCond .eq 13, 3) := by decide +kernel
theorem dX11_sheet_40 : decode cX11_sheet 40 = .ok (.iload_n 3, 1) := by decide +kernel
theorem dX11_sheet_41 : decode cX11_sheet 41 = .ok (.ifCond .ge 9, 3) := by decide +kernel
theorem dX11_sheet_44 : decode cX11_sheet 44 = .ok (.aload_n 0, 1) := by decide +kernel
theorem dX11_sheet_45 : decode cX11_sheet 45 = .ok (.iconst 3, 1) := by decide +kernel
theorem dX11_sheet_46 : decode cX11_sheet 46 = .ok (.invokevirtual 68, 3) := by decide +kernel
theorem dX11_sheet_49 : decode cX11_sheet 49 = .ok (.ireturn, 1) := by decide +kernel
theorem dX11_sheet_50 : decode cX11_sheet 50 = .ok (.iload_n 2, 1) := by decide +kernel
theorem dX11_sheet_51 : decode cX11_sheet 51 = .ok (.ifCond .eq 15, 3) := by decide +kernel
theorem dX11_sheet_54 : decode cX11_sheet 54 = .ok (.iload_n 3, 1) := by decide +kernel
theorem dX11_sheet_55 : decode cX11_sheet 55 = .ok (.bipush 24, 2) := by decide +kernel
theorem dX11_sheet_57 : decode cX11_sheet 57 = .ok (.if_icmp .le 9, 3) := by decide +kernel
theorem dX11_sheet_60 : decode cX11_sheet 60 = .ok (.aload_n 0, 1) := by decide +kernel
theorem dX11_sheet_61 : decode cX11_sheet 61 = .ok (.iconst 1, 1) := by decide +kernel
theorem dX11_sheet_62 : decode cX11_sheet 62 = .ok (.invokevirtual 68, 3) := by decide +kernel
theorem dX11_sheet_65 : decode cX11_sheet 65 = .ok (.ireturn, 1) := by decide +kernel
theorem dX11_sheet_66 : decode cX11_sheet 66 = .ok (.aload_n 0, 1) := by decide +kernel
theorem dX11_sheet_67 : decode cX11_sheet 67 = .ok (.getfield 57, 3) := by decide +kernel
theorem dX11_sheet_70 : decode cX11_sheet 70 = .ok (.iload_n 1, 1) := by decide +kernel
theorem dX11_sheet_71 : decode cX11_sheet 71 = .ok (.iload_n 2, 1) := by decide +kernel
theorem dX11_sheet_72 : decode cX11_sheet 72 = .ok (.iastore, 1) := by decide +kernel
theorem dX11_sheet_73 : decode cX11_sheet 73 = .ok (.aload_n 0, 1) := by decide +kernel
theorem dX11_sheet_74 : decode cX11_sheet 74 = .ok (.getfield 53, 3) := by decide +kernel
theorem dX11_sheet_77 : decode cX11_sheet 77 = .ok (.iload_n 1, 1) := by decide +kernel
theorem dX11_sheet_78 : decode cX11_sheet 78 = .ok (.aaload, 1) := by decide +kernel
theorem dX11_sheet_79 : decode cX11_sheet 79 = .ok (.iload_n 2, 1) := by decide +kernel
theorem dX11_sheet_80 : decode cX11_sheet 80 = .ok (.ifCond .ne 7, 3) := by decide +kernel
theorem dX11_sheet_83 : decode cX11_sheet 83 = .ok (.iconst 0, 1) := by decide +kernel
theorem dX11_sheet_84 : decode cX11_sheet 84 = .ok (.goto 4, 3) := by decide +kernel
theorem dX11_sheet_87 : decode cX11_sheet 87 = .ok (.iload_n 3, 1) := by decide +kernel
theorem dX11_sheet_88 : decode cX11_sheet 88 = .ok (.putfield 189, 3) := by decide +kernel
theorem dX11_sheet_91 : decode cX11_sheet 91 = .ok (.aload_n 0, 1) := by decide +kernel
theorem dX11_sheet_92 : decode cX11_sheet 92 = .ok (.getfield 53, 3) := by decide +kernel
theorem dX11_sheet_95 : decode cX11_sheet 95 = .ok (.iload_n 1, 1) := by decide +kernel
theorem dX11_sheet_96 : decode cX11_sheet 96 = .ok (.aaload, 1) := by decide +kernel
theorem dX11_sheet_97 : decode cX11_sheet 97 = .ok (.getfield 239, 3) := by decide +kernel
theorem dX11_sheet_100 : decode cX11_sheet 100 = .ok (.iconst 0, 1) := by decide +kernel
theorem dX11_sheet_101 : decode cX11_sheet 101 = .ok (.invokestatic 322, 3) := by decide +kernel
theorem dX11_sheet_104 : decode cX11_sheet 104 = .ok (.iconst 1, 1) := by decide +kernel
theorem dX11_sheet_105 : decode cX11_sheet 105 = .ok (.ireturn, 1) := by decide +kernel
theorem dX11_put_0 : decode cX11_put 0 = .ok (.iload_n 1, 1) := by decide +kernel
theorem dX11_put_1 : decode cX11_put 1 = .ok (.iconst 4, 1) := by decide +kernel
theorem dX11_put_2 : decode cX11_put 2 = .ok (.invokestatic 79, 3) := by decide +kernel
theorem dX11_put_5 : decode cX11_put 5 = .ok (.ifCond .ne 9, 3) := by decide +kernel
theorem dX11_put_8 : decode cX11_put 8 = .ok (.aload_n 0, 1) := by decide +kernel
theorem dX11_put_9 : decode cX11_put 9 = .ok (.iconst 1, 1) := by decide +kernel
theorem dX11_put_10 : decode cX11_put 10 = .ok (.invokevirtual 68, 3) := by decide +kernel
theorem dX11_put_13 : decode cX11_put 13 = .ok (.ireturn, 1) := by decide +kernel
theorem dX11_put_14 : decode cX11_put 14 = .ok (.aload_n 0, 1) := by decide +kernel
theorem dX11_put_15 : decode cX11_put 15 = .ok (.iload_n 1, 1) := by decide +kernel
theorem dX11_put_16 : decode cX11_put 16 = .ok (.invokevirtual 231, 3) := by decide +kernel
theorem dX11_put_19 : decode cX11_put 19 = .ok (.ifCond .eq 9, 3) := by decide +kernel
theorem dX11_put_22 : decode cX11_put 22 = .ok (.aload_n 0, 1) := by decide +kernel
theorem dX11_put_23 : decode cX11_put 23 = .ok (.iconst 2, 1) := by decide +kernel
theorem dX11_put_24 : decode cX11_put 24 = .ok (.invokevirtual 68, 3) := by decide +kernel
theorem dX11_put_27 : decode cX11_put 27 = .ok (.ireturn, 1) := by decide +kernel
theorem dX11_put_28 : decode cX11_put 28 = .ok (.iload_n 2, 1) := by decide +kernel
theorem dX11_put_29 : decode cX11_put 29 = .ok (.aload_n 0, 1) := by decide +kernel
theorem dX11_put_30 : decode cX11_put 30 = .ok (.getfield 53, 3) := by decide +kernel
theorem dX11_put_33 : decode cX11_put 33 = .ok (.iload_n 1, 1) := by decide +kernel
theorem dX11_put_34 : decode cX11_put 34 = .ok (.aaload, 1) := by decide +kernel
theorem dX11_put_35 : decode cX11_put 35 = .ok (.getfield 189, 3) := by decide +kernel
theorem dX11_put_38 : decode cX11_put 38 = .ok (.invokestatic 79, 3) := by decide +kernel
theorem dX11_put_41 : decode cX11_put 41 = .ok (.ifCond .ne 9, 3) := by decide +kernel
theorem dX11_put_44 : decode cX11_put 44 = .ok (.aload_n 0, 1) := by decide +kernel
theorem dX11_put_45 : decode cX11_put 45 = .ok (.iconst 1, 1) := by decide +kernel
theorem dX11_put_46 : decode cX11_put 46 = .ok (.invokevirtual 68, 3) := by decide +kernel
theorem dX11_put_49 : decode cX11_put 49 = .ok (.ireturn, 1) := by decide +kernel
theorem dX11_put_50 : decode cX11_put 50 = .ok (.aload_n 0, 1) := by decide +kernel
theorem dX11_put_51 : decode cX11_put 51 = .ok (.getfield 53, 3) := by decide +kernel
theorem dX11_put_54 : decode cX11_put 54 = .ok (.iload_n 1, 1) := by decide +kernel
theorem dX11_put_55 : decode cX11_put 55 = .ok (.aaload, 1) := by decide +kernel
theorem dX11_put_56 : decode cX11_put 56 = .ok (.getfield 239, 3) := by decide +kernel
theorem dX11_put_59 : decode cX11_put 59 = .ok (.iload_n 2, 1) := by decide +kernel
theorem dX11_put_60 : decode cX11_put 60 = .ok (.iload_n 3, 1) := by decide +kernel
theorem dX11_put_61 : decode cX11_put 61 = .ok (.aload_n 0, 1) := by decide +kernel
theorem dX11_put_62 : decode cX11_put 62 = .ok (.getfield 57, 3) := by decide +kernel
theorem dX11_put_65 : decode cX11_put 65 = .ok (.iload_n 1, 1) := by decide +kernel
theorem dX11_put_66 : decode cX11_put 66 = .ok (.iaload, 1) := by decide +kernel
theorem dX11_put_67 : decode cX11_put 67 = .ok (.invokestatic 328, 3) := by decide +kernel
theorem dX11_put_70 : decode cX11_put 70 = .ok (.iastore, 1) := by decide +kernel
theorem dX11_put_71 : decode cX11_put 71 = .ok (.iconst 1, 1) := by decide +kernel
theorem dX11_put_72 : decode cX11_put 72 = .ok (.ireturn, 1) := by decide +kernel
theorem dX11_move_0 : decode cX11_move 0 = .ok (.iload_n 1, 1) := by decide +kernel
theorem dX11_move_1 : decode cX11_move 1 = .ok (.iconst 4, 1) := by decide +kernel
theorem dX11_move_2 : decode cX11_move 2 = .ok (.invokestatic 79, 3) := by decide +kernel
theorem dX11_move_5 : decode cX11_move 5 = .ok (.ifCond .eq 11, 3) := by decide +kernel
theorem dX11_move_8 : decode cX11_move 8 = .ok (.iload_n 3, 1) := by decide +kernel
theorem dX11_move_9 : decode cX11_move 9 = .ok (.iconst 4, 1) := by decide +kernel
theorem dX11_move_10 : decode cX11_move 10 = .ok (.invokestatic 79, 3) := by decide +kernel
theorem dX11_move_13 : decode cX11_move 13 = .ok (.ifCond .ne 9, 3) := by decide +kernel
theorem dX11_move_16 : decode cX11_move 16 = .ok (.aload_n 0, 1) := by decide +kernel
theorem dX11_move_17 : decode cX11_move 17 = .ok (.iconst 1, 1) := by decide +kernel
theorem dX11_move_18 : decode cX11_move 18 = .ok (.invokevirtual 68, 3) := by decide +kernel
theorem dX11_move_21 : decode cX11_move 21 = .ok (.ireturn, 1) := by decide +kernel
theorem dX11_move_22 : decode cX11_move 22 = .ok (.aload_n 0, 1) := by decide +kernel
theorem dX11_move_23 : decode cX11_move 23 = .ok (.iload_n 1, 1) := by decide +kernel
theorem dX11_move_24 : decode cX11_move 24 = .ok (.invokevirtual 231, 3) := by decide +kernel
theorem dX11_move_27 : decode cX11_move 27 = .ok (.ifCond .ne 11, 3) := by decide +kernel
theorem dX11_move_30 : decode cX11_move 30 = .ok (.aload_n 0, 1) := by decide +kernel
theorem dX11_move_31 : decode cX11_move 31 = .ok (.iload_n 3, 1) := by decide +kernel
theorem dX11_move_32 : decode cX11_move 32 = .ok (.invokevirtual 231, 3) := by decide +kernel
theorem dX11_move_35 : decode cX11_move 35 = .ok (.ifCond .eq 9, 3) := by decide +kernel
theorem dX11_move_38 : decode cX11_move 38 = .ok (.aload_n 0, 1) := by decide +kernel
theorem dX11_move_39 : decode cX11_move 39 = .ok (.iconst 2, 1) := by decide +kernel
theorem dX11_move_40 : decode cX11_move 40 = .ok (.invokevirtual 68, 3) := by decide +kernel
theorem dX11_move_43 : decode cX11_move 43 = .ok (.ireturn, 1) := by decide +kernel
theorem dX11_move_44 : decode cX11_move 44 = .ok (.aload_n 0, 1) := by decide +kernel
theorem dX11_move_45 : decode cX11_move 45 = .ok (.getfield 57, 3) := by decide +kernel
theorem dX11_move_48 : decode cX11_move 48 = .ok (.iload_n 1, 1) := by decide +kernel
theorem dX11_move_49 : decode cX11_move 49 = .ok (.iaload, 1) := by decide +kernel
theorem dX11_move_50 : decode cX11_move 50 = .ok (.aload_n 0, 1) := by decide +kernel
theorem dX11_move_51 : decode cX11_move 51 = .ok (.getfield 57, 3) := by decide +kernel
theorem dX11_move_54 : decode cX11_move 54 = .ok (.iload_n 3, 1) := by decide +kernel
theorem dX11_move_55 : decode cX11_move 55 = .ok (.iaload, 1) := by decide +kernel
theorem dX11_move_56 : decode cX11_move 56 = .ok (.if_icmp .eq 9, 3) := by decide +kernel
theorem dX11_move_59 : decode cX11_move 59 = .ok (.aload_n 0, 1) := by decide +kernel
theorem dX11_move_60 : decode cX11_move 60 = .ok (.iconst 5, 1) := by decide +kernel
theorem dX11_move_61 : decode cX11_move 61 = .ok (.invokevirtual 68, 3) := by decide +kernel
theorem dX11_move_64 : decode cX11_move 64 = .ok (.ireturn, 1) := by decide +kernel
theorem dX11_move_65 : decode cX11_move 65 = .ok (.aload_n 0, 1) := by decide +kernel
theorem dX11_move_66 : decode cX11_move 66 = .ok (.getfield 53, 3) := by decide +kernel
theorem dX11_move_69 : decode cX11_move 69 = .ok (.iload_n 1, 1) := by decide +kernel
theorem dX11_move_70 : decode cX11_move 70 = .ok (.aaload, 1) := by decide +kernel
theorem dX11_move_71 : decode cX11_move 71 = .ok (.iload_n 2, 1) := by decide +kernel
theorem dX11_move_72 : decode cX11_move 72 = .ok (.iload 5, 2) := by decide +kernel
theorem dX11_move_74 : decode cX11_move 74 = .ok (.invokevirtual 331, 3) := by decide +kernel
theorem dX11_move_77 : decode cX11_move 77 = .ok (.ifCond .eq 19, 3) := by decide +kernel
theorem dX11_move_80 : decode cX11_move 80 = .ok (.aload_n 0, 1) := by decide +kernel
theorem dX11_move_81 : decode cX11_move 81 = .ok (.getfield 53, 3) := by decide +kernel
theorem dX11_move_84 : decode cX11_move 84 = .ok (.iload_n 3, 1) := by decide +kernel
theorem dX11_move_85 : decode cX11_move 85 = .ok (.aaload, 1) := by decide +kernel
theorem dX11_move_86 : decode cX11_move 86 = .ok (.iload 4, 2) := by decide +kernel
theorem dX11_move_88 : decode cX11_move 88 = .ok (.iload 5, 2) := by decide +kernel
theorem dX11_move_90 : decode cX11_move 90 = .ok (.invokevirtual 331, 3) := by decide +kernel
theorem dX11_move_93 : decode cX11_move 93 = .ok (.ifCond .ne 9, 3) := by decide +kernel
theorem dX11_move_96 : decode cX11_move 96 = .ok (.aload_n 0, 1) := by decide +kernel
theorem dX11_move_97 : decode cX11_move 97 = .ok (.iconst 1, 1) := by decide +kernel
theorem dX11_move_98 : decode cX11_move 98 = .ok (.invokevirtual 68, 3) := by decide +kernel
theorem dX11_move_101 : decode cX11_move 101 = .ok (.ireturn, 1) := by decide +kernel
theorem dX11_move_102 : decode cX11_move 102 = .ok (.aload_n 0, 1) := by decide +kernel
theorem dX11_move_103 : decode cX11_move 103 = .ok (.getfield 53, 3) := by decide +kernel
theorem dX11_move_106 : decode cX11_move 106 = .ok (.iload_n 1, 1) := by decide +kernel
theorem dX11_move_107 : decode cX11_move 107 = .ok (.aaload, 1) := by decide +kernel
theorem dX11_move_108 : decode cX11_move 108 = .ok (.getfield 239, 3) := by decide +kernel
theorem dX11_move_111 : decode cX11_move 111 = .ok (.iload_n 2, 1) := by decide +kernel
theorem dX11_move_112 : decode cX11_move 112 = .ok (.aload_n 0, 1) := by decide +kernel
theorem dX11_move_113 : decode cX11_move 113 = .ok (.getfield 53, 3) := by decide +kernel
theorem dX11_move_116 : decode cX11_move 116 = .ok (.iload_n 3, 1) := by decide +kernel
theorem dX11_move_117 : decode cX11_move 117 = .ok (.aaload, 1) := by decide +kernel
theorem dX11_move_118 : decode cX11_move 118 = .ok (.getfield 239, 3) := by decide +kernel
theorem dX11_move_121 : decode cX11_move 121 = .ok (.iload 4, 2) := by decide +kernel
theorem dX11_move_123 : decode cX11_move 123 = .ok (.iload 5, 2) := by decide +kernel
theorem dX11_move_125 : decode cX11_move 125 = .ok (.invokestatic 242, 3) := by decide +kernel
theorem dX11_move_128 : decode cX11_move 128 = .ok (.iload 5, 2) := by decide +kernel
theorem dX11_move_130 : decode cX11_move 130 = .ok (.ireturn, 1) := by decide +kernel
theorem dX11_image_0 : decode cX11_image 0 = .ok (.aload_n 0, 1) := by decide +kernel
theorem dX11_image_1 : decode cX11_image 1 = .ok (.getfield 41, 3) := by decide +kernel
theorem dX11_image_4 : decode cX11_image 4 = .ok (.aload_n 0, 1) := by decide +kernel
theorem dX11_image_5 : decode cX11_image 5 = .ok (.getfield 12, 3) := by decide +kernel
theorem dX11_image_8 : decode cX11_image 8 = .ok (.invokevirtual 334, 3) := by decide +kernel
theorem dX11_image_11 : decode cX11_image 11 = .ok (.aload_n 0, 1) := by decide +kernel
theorem dX11_image_12 : decode cX11_image 12 = .ok (.dup, 1) := by decide +kernel
theorem dX11_image_13 : decode cX11_image 13 = .ok (.getfield 64, 3) := by decide +kernel
theorem dX11_image_16 : decode cX11_image 16 = .ok (.iconst 1, 1) := by decide +kernel
theorem dX11_image_17 : decode cX11_image 17 = .ok (.iadd, 1) := by decide +kernel
theorem dX11_image_18 : decode cX11_image 18 = .ok (.putfield 64, 3) := by decide +kernel
theorem dX11_image_21 : decode cX11_image 21 = .ok (.aload_n 0, 1) := by decide +kernel
theorem dX11_image_22 : decode cX11_image 22 = .ok (.getfield 64, 3) := by decide +kernel
theorem dX11_image_25 : decode cX11_image 25 = .ok (.ireturn, 1) := by decide +kernel
theorem dX11_restore_0 : decode cX11_restore 0 = .ok (.aload_n 0, 1) := by decide +kernel
theorem dX11_restore_1 : decode cX11_restore 1 = .ok (.getfield 64, 3) := by decide +kernel
theorem dX11_restore_4 : decode cX11_restore 4 = .ok (.ifCond .ne 9, 3) := by decide +kernel
theorem dX11_restore_7 : decode cX11_restore 7 = .ok (.aload_n 0, 1) := by decide +kernel
theorem dX11_restore_8 : decode cX11_restore 8 = .ok (.iconst 2, 1) := by decide +kernel
theorem dX11_restore_9 : decode cX11_restore 9 = .ok (.invokevirtual 68, 3) := by decide +kernel
theorem dX11_restore_12 : decode cX11_restore 12 = .ok (.ireturn, 1) := by decide +kernel
theorem dX11_restore_13 : decode cX11_restore 13 = .ok (.aload_n 0, 1) := by decide +kernel
theorem dX11_restore_14 : decode cX11_restore 14 = .ok (.getfield 12, 3) := by decide +kernel
theorem dX11_restore_17 : decode cX11_restore 17 = .ok (.aload_n 0, 1) := by decide +kernel
theorem dX11_restore_18 : decode cX11_restore 18 = .ok (.getfield 41, 3) := by decide +kernel
theorem dX11_restore_21 : decode cX11_restore 21 = .ok (.invokevirtual 334, 3) := by decide +kernel
theorem dX11_restore_24 : decode cX11_restore 24 = .ok (.aload_n 0, 1) := by decide +kernel
theorem dX11_restore_25 : decode cX11_restore 25 = .ok (.getfield 12, 3) := by decide +kernel
theorem dX11_restore_28 : decode cX11_restore 28 = .ok (.getfield 83, 3) := by decide +kernel
theorem dX11_restore_31 : decode cX11_restore 31 = .ok (.ireturn, 1) := by decide +kernel
theorem dX11_tell_0 : decode cX11_tell 0 = .ok (.aload_n 0, 1) := by decide +kernel
theorem dX11_tell_1 : decode cX11_tell 1 = .ok (.getfield 12, 3) := by decide +kernel
theorem dX11_tell_4 : decode cX11_tell 4 = .ok (.getfield 336, 3) := by decide +kernel
theorem dX11_tell_7 : decode cX11_tell 7 = .ok (.getfield 189, 3) := by decide +kernel
theorem dX11_tell_10 : decode cX11_tell 10 = .ok (.bipush 20, 2) := by decide +kernel
theorem dX11_tell_12 : decode cX11_tell 12 = .ok (.if_icmp .lt 9, 3) := by decide +kernel
theorem dX11_tell_15 : decode cX11_tell 15 = .ok (.aload_n 0, 1) := by decide +kernel
theorem dX11_tell_16 : decode cX11_tell 16 = .ok (.iconst 4, 1) := by decide +kernel
theorem dX11_tell_17 : decode cX11_tell 17 = .ok (.invokevirtual 68, 3) := by decide +kernel
theorem dX11_tell_20 : decode cX11_tell 20 = .ok (.ireturn, 1) := by decide +kernel
theorem dX11_tell_21 : decode cX11_tell 21 = .ok (.aload_n 0, 1) := by decide +kernel
theorem dX11_tell_22 : decode cX11_tell 22 = .ok (.getfield 12, 3) := by decide +kernel
theorem dX11_tell_25 : decode cX11_tell 25 = .ok (.getfield 336, 3) := by decide +kernel
theorem dX11_tell_28 : decode cX11_tell 28 = .ok (.iload_n 1, 1) := by decide +kernel
theorem dX11_tell_29 : decode cX11_tell 29 = .ok (.invokevirtual 192, 3) := by decide +kernel
theorem dX11_tell_32 : decode cX11_tell 32 = .ok (.aload_n 0, 1) := by decide +kernel
theorem dX11_tell_33 : decode cX11_tell 33 = .ok (.getfield 12, 3) := by decide +kernel
theorem dX11_tell_36 : decode cX11_tell 36 = .ok (.getfield 336, 3) := by decide +kernel
theorem dX11_tell_39 : decode cX11_tell 39 = .ok (.getfield 189, 3) := by decide +kernel
theorem dX11_tell_42 : decode cX11_tell 42 = .ok (.ireturn, 1) := by decide +kernel
theorem dX11_check_0 : decode cX11_check 0 = .ok (.aload_n 0, 1) := by decide +kernel
theorem dX11_check_1 : decode cX11_check 1 = .ok (.getfield 12, 3) := by decide +kernel
theorem dX11_check_4 : decode cX11_check 4 = .ok (.getfield 336, 3) := by decide +kernel
theorem dX11_check_7 : decode cX11_check 7 = .ok (.getfield 189, 3) := by decide +kernel
theorem dX11_check_10 : decode cX11_check 10 = .ok (.istore_n 2, 1) := by decide +kernel
theorem dX11_check_11 : decode cX11_check 11 = .ok (.aload_n 0, 1) := by decide +kernel
theorem dX11_check_12 : decode cX11_check 12 = .ok (.getfield 12, 3) := by decide +kernel
theorem dX11_check_15 : decode cX11_check 15 = .ok (.getfield 336, 3) := by decide +kernel
theorem dX11_check_18 : decode cX11_check 18 = .ok (.iconst 0, 1) := by decide +kernel
theorem dX11_check_19 : decode cX11_check 19 = .ok (.putfield 189, 3) := by decide +kernel
theorem dX11_check_22 : decode cX11_check 22 = .ok (.iload_n 1, 1) := by decide +kernel
theorem dX11_check_23 : decode cX11_check 23 = .ok (.iconst 4, 1) := by decide +kernel
theorem dX11_check_24 : decode cX11_check 24 = .ok (.invokestatic 79, 3) := by decide +kernel
theorem dX11_check_27 : decode cX11_check 27 = .ok (.ifCond .ne 9, 3) := by decide +kernel
theorem dX11_check_30 : decode cX11_check 30 = .ok (.aload_n 0, 1) := by decide +kernel
theorem dX11_check_31 : decode cX11_check 31 = .ok (.iconst 1, 1) := by decide +kernel
theorem dX11_check_32 : decode cX11_check 32 = .ok (.invokevirtual 68, 3) := by decide +kernel
theorem dX11_check_35 : decode cX11_check 35 = .ok (.ireturn, 1) := by decide +kernel
theorem dX11_check_36 : decode cX11_check 36 = .ok (.aload_n 0, 1) := by decide +kernel
theorem dX11_check_37 : decode cX11_check 37 = .ok (.getfield 30, 3) := by decide +kernel
theorem dX11_check_40 : decode cX11_check 40 = .ok (.iload_n 1, 1) := by decide +kernel
theorem dX11_check_41 : decode cX11_check 41 = .ok (.aload_n 0, 1) := by decide +kernel
theorem dX11_check_42 : decode cX11_check 42 = .ok (.getfield 12, 3) := by decide +kernel
theorem dX11_check_45 : decode cX11_check 45 = .ok (.invokevirtual 339, 3) := by decide +kernel
theorem dX11_check_48 : decode cX11_check 48 = .ok (.invokevirtual 275, 3) := by decide +kernel
theorem dX11_check_51 : decode cX11_check 51 = .ok (.ifCond .ne 9, 3) := by decide +kernel
theorem dX11_check_54 : decode cX11_check 54 = .ok (.aload_n 0, 1) := by decide +kernel
theorem dX11_check_55 : decode cX11_check 55 = .ok (.iconst 2, 1) := by decide +kernel
theorem dX11_check_56 : decode cX11_check 56 = .ok (.invokevirtual 68, 3) := by decide +kernel
theorem dX11_check_59 : decode cX11_check 59 = .ok (.ireturn, 1) := by decide +kernel
theorem dX11_check_60 : decode cX11_check 60 = .ok (.iconst 0, 1) := by decide +kernel
theorem dX11_check_61 : decode cX11_check 61 = .ok (.istore_n 3, 1) := by decide +kernel
theorem dX11_check_62 : decode cX11_check 62 = .ok (.iload_n 3, 1) := by decide +kernel
theorem dX11_check_63 : decode cX11_check 63 = .ok (.iload_n 2, 1) := by decide +kernel
theorem dX11_check_64 : decode cX11_check 64 = .ok (.if_icmp .ge 48, 3) := by decide +kernel
theorem dX11_check_67 : decode cX11_check 67 = .ok (.iload_n 3, 1) := by decide +kernel
theorem dX11_check_68 : decode cX11_check 68 = .ok (.aload_n 0, 1) := by decide +kernel
theorem dX11_check_69 : decode cX11_check 69 = .ok (.getfield 12, 3) := by decide +kernel
theorem dX11_check_72 : decode cX11_check 72 = .ok (.getfield 83, 3) := by decide +kernel
theorem dX11_check_75 : decode cX11_check 75 = .ok (.if_icmp .ge 27, 3) := by decide +kernel
theorem dX11_check_78 : decode cX11_check 78 = .ok (.aload_n 0, 1) := by decide +kernel
theorem dX11_check_79 : decode cX11_check 79 = .ok (.getfield 12, 3) := by decide +kernel
theorem dX11_check_82 : decode cX11_check 82 = .ok (.getfield 336, 3) := by decide +kernel
theorem dX11_check_85 : decode cX11_check 85 = .ok (.getfield 239, 3) := by decide +kernel
theorem dX11_check_88 : decode cX11_check 88 = .ok (.iload_n 3, 1) := by decide +kernel
theorem dX11_check_89 : decode cX11_check 89 = .ok (.iaload, 1) := by decide +kernel
theorem dX11_check_90 : decode cX11_check 90 = .ok (.aload_n 0, 1) := by decide +kernel
theorem dX11_check_91 : decode cX11_check 91 = .ok (.getfield 30, 3) := by decide +kernel
theorem dX11_check_94 : decode cX11_check 94 = .ok (.getfield 281, 3) := by decide +kernel
theorem dX11_check_97 : decode cX11_check 97 = .ok (.iload_n 3, 1) := by decide +kernel
theorem dX11_check_98 : decode cX11_check 98 = .ok (.iaload, 1) := by decide +kernel
theorem dX11_check_99 : decode cX11_check 99 = .ok (.if_icmp .eq 7, 3) := by decide +kernel
theorem dX11_check_102 : decode cX11_check 102 = .ok (.iconst 1, 1) := by decide +kernel
theorem dX11_check_103 : decode cX11_check 103 = .ok (.iload_n 3, 1) := by decide +kernel
theorem dX11_check_104 : decode cX11_check 104 = .ok (.iadd, 1) := by decide +kernel
theorem dX11_check_105 : decode cX11_check 105 = .ok (.ireturn, 1) := by decide +kernel
theorem dX11_check_106 : decode cX11_check 106 = .ok (.iinc 3 1, 3) := by decide +kernel
theorem dX11_check_109 : decode cX11_check 109 = .ok (.goto (-47), 3) := by decide +kernel
theorem dX11_check_112 : decode cX11_check 112 = .ok (.iconst 0, 1) := by decide +kernel
theorem dX11_check_113 : decode cX11_check 113 = .ok (.ireturn, 1) := by decide +kernel
theorem dX11_count_0 : decode cX11_count 0 = .ok (.iload_n 1, 1) := by decide +kernel
theorem dX11_count_1 : decode cX11_count 1 = .ok (.tableswitch 129 0 8 #[51, 59, 67, 75, 83, 94, 105, 113, 121], 51) := by decide +kernel
theorem dX11_count_52 : decode cX11_count 52 = .ok (.aload_n 0, 1) := by decide +kernel
theorem dX11_count_53 : decode cX11_count 53 = .ok (.getfield 12, 3) := by decide +kernel
theorem dX11_count_56 : decode cX11_count 56 = .ok (.getfield 76, 3) := by decide +kernel
theorem dX11_count_59 : decode cX11_count 59 = .ok (.ireturn, 1) := by decide +kernel
theorem dX11_count_60 : decode cX11_count 60 = .ok (.aload_n 0, 1) := by decide +kernel
theorem dX11_count_61 : decode cX11_count 61 = .ok (.getfield 12, 3) := by decide +kernel
theorem dX11_count_64 : decode cX11_count 64 = .ok (.getfield 83, 3) := by decide +kernel
theorem dX11_count_67 : decode cX11_count 67 = .ok (.ireturn, 1) := by decide +kernel
theorem dX11_count_68 : decode cX11_count 68 = .ok (.aload_n 0, 1) := by decide +kernel
theorem dX11_count_69 : decode cX11_count 69 = .ok (.getfield 12, 3) := by decide +kernel
theorem dX11_count_72 : decode cX11_count 72 = .ok (.getfield 132, 3) := by decide +kernel
theorem dX11_count_75 : decode cX11_count 75 = .ok (.ireturn, 1) := by decide +kernel
theorem dX11_count_76 : decode cX11_count 76 = .ok (.aload_n 0, 1) := by decide +kernel
theorem dX11_count_77 : decode cX11_count 77 = .ok (.getfield 12, 3) := by decide +kernel
theorem dX11_count_80 : decode cX11_count 80 = .ok (.getfield 165, 3) := by decide +kernel
theorem dX11_count_83 : decode cX11_count 83 = .ok (.ireturn, 1) := by decide +kernel
theorem dX11_count_84 : decode cX11_count 84 = .ok (.aload_n 0, 1) := by decide +kernel
theorem dX11_count_85 : decode cX11_count 85 = .ok (.getfield 12, 3) := by decide +kernel
theorem dX11_count_88 : decode cX11_count 88 = .ok (.getfield 186, 3) := by decide +kernel
theorem dX11_count_91 : decode cX11_count 91 = .ok (.getfield 189, 3) := by decide +kernel
theorem dX11_count_94 : decode cX11_count 94 = .ok (.ireturn, 1) := by decide +kernel
theorem dX11_count_95 : decode cX11_count 95 = .ok (.aload_n 0, 1) := by decide +kernel
theorem dX11_count_96 : decode cX11_count 96 = .ok (.getfield 12, 3) := by decide +kernel
theorem dX11_count_99 : decode cX11_count 99 = .ok (.getfield 336, 3) := by decide +kernel
theorem dX11_count_102 : decode cX11_count 102 = .ok (.getfield 189, 3) := by decide +kernel
theorem dX11_count_105 : decode cX11_count 105 = .ok (.ireturn, 1) := by decide +kernel
theorem dX11_count_106 : decode cX11_count 106 = .ok (.aload_n 0, 1) := by decide +kernel
theorem dX11_count_107 : decode cX11_count 107 = .ok (.getfield 49, 3) := by decide +kernel
theorem dX11_count_110 : decode cX11_count 110 = .ok (.getfield 189, 3) := by decide +kernel
theorem dX11_count_113 : decode cX11_count 113 = .ok (.ireturn, 1) := by decide +kernel
theorem dX11_count_114 : decode cX11_count 114 = .ok (.aload_n 0, 1) := by decide +kernel
theorem dX11_count_115 : decode cX11_count 115 = .ok (.getfield 12, 3) := by decide +kernel
theorem dX11_count_118 : decode cX11_count 118 = .ok (.invokevirtual 342, 3) := by decide +kernel
theorem dX11_count_121 : decode cX11_count 121 = .ok (.ireturn, 1) := by decide +kernel
theorem dX11_count_122 : decode cX11_count 122 = .ok (.aload_n 0, 1) := by decide +kernel
theorem dX11_count_123 : decode cX11_count 123 = .ok (.getfield 12, 3) := by decide +kernel
theorem dX11_count_126 : decode cX11_count 126 = .ok (.invokevirtual 345, 3) := by decide +kernel
theorem dX11_count_129 : decode cX11_count 129 = .ok (.ireturn, 1) := by decide +kernel
theorem dX11_count_130 : decode cX11_count 130 = .ok (.aload_n 0, 1) := by decide +kernel
theorem dX11_count_131 : decode cX11_count 131 = .ok (.iconst 1, 1) := by decide +kernel
theorem dX11_count_132 : decode cX11_count 132 = .ok (.invokevirtual 68, 3) := by decide +kernel
theorem dX11_count_135 : decode cX11_count 135 = .ok (.ireturn, 1) := by decide +kernel
theorem dX11_told_0 : decode cX11_told 0 = .ok (.iload_n 1, 1) := by decide +kernel
theorem dX11_told_1 : decode cX11_told 1 = .ok (.iconst 1, 1) := by decide +kernel
theorem dX11_told_2 : decode cX11_told 2 = .ok (.if_icmp .lt 8, 3) := by decide +kernel
theorem dX11_told_5 : decode cX11_told 5 = .ok (.iload_n 1, 1) := by decide +kernel
theorem dX11_told_6 : decode cX11_told 6 = .ok (.iconst 5, 1) := by decide +kernel
theorem dX11_told_7 : decode cX11_told 7 = .ok (.if_icmp .le 9, 3) := by decide +kernel
theorem dX11_told_10 : decode cX11_told 10 = .ok (.aload_n 0, 1) := by decide +kernel
theorem dX11_told_11 : decode cX11_told 11 = .ok (.iconst 1, 1) := by decide +kernel
theorem dX11_told_12 : decode cX11_told 12 = .ok (.invokevirtual 68, 3) := by decide +kernel
theorem dX11_told_15 : decode cX11_told 15 = .ok (.ireturn, 1) := by decide +kernel
theorem dX11_told_16 : decode cX11_told 16 = .ok (.aload_n 0, 1) := by decide +kernel
theorem dX11_told_17 : decode cX11_told 17 = .ok (.getfield 61, 3) := by decide +kernel
theorem dX11_told_20 : decode cX11_told 20 = .ok (.iload_n 1, 1) := by decide +kernel
theorem dX11_told_21 : decode cX11_told 21 = .ok (.iaload, 1) := by decide +kernel
theorem dX11_told_22 : decode cX11_told 22 = .ok (.ireturn, 1) := by decide +kernel
theorem dX11_error_0 : decode cX11_error 0 = .ok (.aload_n 0, 1) := by decide +kernel
theorem dX11_error_1 : decode cX11_error 1 = .ok (.getfield 61, 3) := by decide +kernel
theorem dX11_error_4 : decode cX11_error 4 = .ok (.iload_n 1, 1) := by decide +kernel
theorem dX11_error_5 : decode cX11_error 5 = .ok (.dup2, 1) := by decide +kernel
theorem dX11_error_6 : decode cX11_error 6 = .ok (.iaload, 1) := by decide +kernel
theorem dX11_error_7 : decode cX11_error 7 = .ok (.iconst 1, 1) := by decide +kernel
theorem dX11_error_8 : decode cX11_error 8 = .ok (.iadd, 1) := by decide +kernel
theorem dX11_error_9 : decode cX11_error 9 = .ok (.iastore, 1) := by decide +kernel
theorem dX11_error_10 : decode cX11_error 10 = .ok (.ldc_w 348, 3) := by decide +kernel
theorem dX11_error_13 : decode cX11_error 13 = .ok (.iload_n 1, 1) := by decide +kernel
theorem dX11_error_14 : decode cX11_error 14 = .ok (.isub, 1) := by decide +kernel
theorem dX11_error_15 : decode cX11_error 15 = .ok (.ireturn, 1) := by decide +kernel
theorem dX11_isWithin_0 : decode cX11_isWithin 0 = .ok (.iload_n 0, 1) := by decide +kernel
theorem dX11_isWithin_1 : decode cX11_isWithin 1 = .ok (.ifCond .lt 12, 3) := by decide +kernel
theorem dX11_isWithin_4 : decode cX11_isWithin 4 = .ok (.iload_n 0, 1) := by decide +kernel
theorem dX11_isWithin_5 : decode cX11_isWithin 5 = .ok (.iload_n 1, 1) := by decide +kernel
theorem dX11_isWithin_6 : decode cX11_isWithin 6 = .ok (.if_icmp .ge 7, 3) := by decide +kernel
theorem dX11_isWithin_9 : decode cX11_isWithin 9 = .ok (.iconst 1, 1) := by decide +kernel
theorem dX11_isWithin_10 : decode cX11_isWithin 10 = .ok (.goto 4, 3) := by decide +kernel
theorem dX11_isWithin_13 : decode cX11_isWithin 13 = .ok (.iconst 0, 1) := by decide +kernel
theorem dX11_isWithin_14 : decode cX11_isWithin 14 = .ok (.ireturn, 1) := by decide +kernel
theorem dX11_isPair_0 : decode cX11_isPair 0 = .ok (.aload_n 0, 1) := by decide +kernel
theorem dX11_isPair_1 : decode cX11_isPair 1 = .ok (.getfield 12, 3) := by decide +kernel
theorem dX11_isPair_4 : decode cX11_isPair 4 = .ok (.iload_n 1, 1) := by decide +kernel
theorem dX11_isPair_5 : decode cX11_isPair 5 = .ok (.invokevirtual 94, 3) := by decide +kernel
theorem dX11_isPair_8 : decode cX11_isPair 8 = .ok (.ifCond .eq 23, 3) := by decide +kernel
theorem dX11_isPair_11 : decode cX11_isPair 11 = .ok (.aload_n 0, 1) := by decide +kernel
theorem dX11_isPair_12 : decode cX11_isPair 12 = .ok (.getfield 12, 3) := by decide +kernel
theorem dX11_isPair_15 : decode cX11_isPair 15 = .ok (.iload_n 2, 1) := by decide +kernel
theorem dX11_isPair_16 : decode cX11_isPair 16 = .ok (.invokevirtual 94, 3) := by decide +kernel
theorem dX11_isPair_19 : decode cX11_isPair 19 = .ok (.ifCond .eq 12, 3) := by decide +kernel
theorem dX11_isPair_22 : decode cX11_isPair 22 = .ok (.iload_n 1, 1) := by decide +kernel
theorem dX11_isPair_23 : decode cX11_isPair 23 = .ok (.iload_n 2, 1) := by decide +kernel
