theorem dX11_isPair_24 : decode cX11_isPair 24 = .ok (.if_icmp .eq 7, 3) := by decide +kernel
theorem dX11_isPair_27 : decode cX11_isPair 27 = .ok (.iconst 1, 1) := by decide +kernel
theorem dX11_isPair_28 : decode cX11_isPair 28 = .ok (.goto 4, 3) := by decide +kernel
theorem dX11_isPair_31 : decode cX11_isPair 31 = .ok (.iconst 0, 1) := by decide +kernel
theorem dX11_isPair_32 : decode cX11_isPair 32 = .ok (.ireturn, 1) := by decide +kernel
theorem dX11_isMissing_0 : decode cX11_isMissing 0 = .ok (.aload_n 0, 1) := by decide +kernel
theorem dX11_isMissing_1 : decode cX11_isMissing 1 = .ok (.getfield 57, 3) := by decide +kernel
theorem dX11_isMissing_4 : decode cX11_isMissing 4 = .ok (.iload_n 1, 1) := by decide +kernel
theorem dX11_isMissing_5 : decode cX11_isMissing 5 = .ok (.iaload, 1) := by decide +kernel
theorem dX11_isMissing_6 : decode cX11_isMissing 6 = .ok (.ifCond .ne 7, 3) := by decide +kernel
theorem dX11_isMissing_9 : decode cX11_isMissing 9 = .ok (.iconst 1, 1) := by decide +kernel
theorem dX11_isMissing_10 : decode cX11_isMissing 10 = .ok (.goto 4, 3) := by decide +kernel
theorem dX11_isMissing_13 : decode cX11_isMissing 13 = .ok (.iconst 0, 1) := by decide +kernel
theorem dX11_isMissing_14 : decode cX11_isMissing 14 = .ok (.ireturn, 1) := by decide +kernel
theorem dX11_lowestBits_0 : decode cX11_lowestBits 0 = .ok (.iload_n 1, 1) := by decide +kernel
theorem dX11_lowestBits_1 : decode cX11_lowestBits 1 = .ok (.lookupswitch 33 #[(8, 27), (16, 30)], 27) := by decide +kernel
theorem dX11_lowestBits_28 : decode cX11_lowestBits 28 = .ok (.iload_n 0, 1) := by decide +kernel
theorem dX11_lowestBits_29 : decode cX11_lowestBits 29 = .ok (.i2b, 1) := by decide +kernel
theorem dX11_lowestBits_30 : decode cX11_lowestBits 30 = .ok (.ireturn, 1) := by decide +kernel
theorem dX11_lowestBits_31 : decode cX11_lowestBits 31 = .ok (.iload_n 0, 1) := by decide +kernel
theorem dX11_lowestBits_32 : decode cX11_lowestBits 32 = .ok (.i2s, 1) := by decide +kernel
theorem dX11_lowestBits_33 : decode cX11_lowestBits 33 = .ok (.ireturn, 1) := by decide +kernel
theorem dX11_lowestBits_34 : decode cX11_lowestBits 34 = .ok (.iload_n 0, 1) := by decide +kernel
theorem dX11_lowestBits_35 : decode cX11_lowestBits 35 = .ok (.ireturn, 1) := by decide +kernel
theorem dX11_newRole_0 : decode cX11_newRole 0 = .ok (.aload_n 0, 1) := by decide +kernel
theorem dX11_newRole_1 : decode cX11_newRole 1 = .ok (.getfield 12, 3) := by decide +kernel
theorem dX11_newRole_4 : decode cX11_newRole 4 = .ok (.getfield 83, 3) := by decide +kernel
theorem dX11_newRole_7 : decode cX11_newRole 7 = .ok (.istore_n 3, 1) := by decide +kernel
theorem dX11_newRole_8 : decode cX11_newRole 8 = .ok (.iload_n 1, 1) := by decide +kernel
theorem dX11_newRole_9 : decode cX11_newRole 9 = .ok (.tableswitch 90 1 5 #[35, 46, 57, 68, 79], 35) := by decide +kernel
theorem dX11_newRole_44 : decode cX11_newRole 44 = .ok (.new 349, 3) := by decide +kernel
theorem dX11_newRole_47 : decode cX11_newRole 47 = .ok (.dup, 1) := by decide +kernel
theorem dX11_newRole_48 : decode cX11_newRole 48 = .ok (.iload_n 3, 1) := by decide +kernel
theorem dX11_newRole_49 : decode cX11_newRole 49 = .ok (.iload_n 1, 1) := by decide +kernel
theorem dX11_newRole_50 : decode cX11_newRole 50 = .ok (.iload_n 2, 1) := by decide +kernel
theorem dX11_newRole_51 : decode cX11_newRole 51 = .ok (.invokespecial 351, 3) := by decide +kernel
theorem dX11_newRole_54 : decode cX11_newRole 54 = .ok (.areturn, 1) := by decide +kernel
theorem dX11_newRole_55 : decode cX11_newRole 55 = .ok (.new 354, 3) := by decide +kernel
theorem dX11_newRole_58 : decode cX11_newRole 58 = .ok (.dup, 1) := by decide +kernel
theorem dX11_newRole_59 : decode cX11_newRole 59 = .ok (.iload_n 3, 1) := by decide +kernel
theorem dX11_newRole_60 : decode cX11_newRole 60 = .ok (.iload_n 1, 1) := by decide +kernel
theorem dX11_newRole_61 : decode cX11_newRole 61 = .ok (.iload_n 2, 1) := by decide +kernel
theorem dX11_newRole_62 : decode cX11_newRole 62 = .ok (.invokespecial 356, 3) := by decide +kernel
theorem dX11_newRole_65 : decode cX11_newRole 65 = .ok (.areturn, 1) := by decide +kernel
theorem dX11_newRole_66 : decode cX11_newRole 66 = .ok (.new 357, 3) := by decide +kernel
theorem dX11_newRole_69 : decode cX11_newRole 69 = .ok (.dup, 1) := by decide +kernel
theorem dX11_newRole_70 : decode cX11_newRole 70 = .ok (.iload_n 3, 1) := by decide +kernel
theorem dX11_newRole_71 : decode cX11_newRole 71 = .ok (.iload_n 1, 1) := by decide +kernel
theorem dX11_newRole_72 : decode cX11_newRole 72 = .ok (.iload_n 2, 1) := by decide +kernel
theorem dX11_newRole_73 : decode cX11_newRole 73 = .ok (.invokespecial 359, 3) := by decide +kernel
theorem dX11_newRole_76 : decode cX11_newRole 76 = .ok (.areturn, 1) := by decide +kernel
theorem dX11_newRole_77 : decode cX11_newRole 77 = .ok (.new 360, 3) := by decide +kernel
theorem dX11_newRole_80 : decode cX11_newRole 80 = .ok (.dup, 1) := by decide +kernel
theorem dX11_newRole_81 : decode cX11_newRole 81 = .ok (.iload_n 3, 1) := by decide +kernel
theorem dX11_newRole_82 : decode cX11_newRole 82 = .ok (.iload_n 1, 1) := by decide +kernel
theorem dX11_newRole_83 : decode cX11_newRole 83 = .ok (.iload_n 2, 1) := by decide +kernel
theorem dX11_newRole_84 : decode cX11_newRole 84 = .ok (.invokespecial 362, 3) := by decide +kernel
theorem dX11_newRole_87 : decode cX11_newRole 87 = .ok (.areturn, 1) := by decide +kernel
theorem dX11_newRole_88 : decode cX11_newRole 88 = .ok (.new 363, 3) := by decide +kernel
theorem dX11_newRole_91 : decode cX11_newRole 91 = .ok (.dup, 1) := by decide +kernel
theorem dX11_newRole_92 : decode cX11_newRole 92 = .ok (.iload_n 3, 1) := by decide +kernel
theorem dX11_newRole_93 : decode cX11_newRole 93 = .ok (.iload_n 1, 1) := by decide +kernel
theorem dX11_newRole_94 : decode cX11_newRole 94 = .ok (.iload_n 2, 1) := by decide +kernel
theorem dX11_newRole_95 : decode cX11_newRole 95 = .ok (.invokespecial 365, 3) := by decide +kernel
theorem dX11_newRole_98 : decode cX11_newRole 98 = .ok (.areturn, 1) := by decide +kernel
theorem dX11_newRole_99 : decode cX11_newRole 99 = .ok (.new 103, 3) := by decide +kernel
theorem dX11_newRole_102 : decode cX11_newRole 102 = .ok (.dup, 1) := by decide +kernel
theorem dX11_newRole_103 : decode cX11_newRole 103 = .ok (.iload_n 3, 1) := by decide +kernel
theorem dX11_newRole_104 : decode cX11_newRole 104 = .ok (.iload_n 1, 1) := by decide +kernel
theorem dX11_newRole_105 : decode cX11_newRole 105 = .ok (.iload_n 2, 1) := by decide +kernel
theorem dX11_newRole_106 : decode cX11_newRole 106 = .ok (.invokespecial 366, 3) := by decide +kernel
theorem dX11_newRole_109 : decode cX11_newRole 109 = .ok (.areturn, 1) := by decide +kernel
theorem dX11_shiftError_0 : decode cX11_shiftError 0 = .ok (.aload_n 0, 1) := by decide +kernel
theorem dX11_shiftError_1 : decode cX11_shiftError 1 = .ok (.getfield 12, 3) := by decide +kernel
theorem dX11_shiftError_4 : decode cX11_shiftError 4 = .ok (.iload_n 1, 1) := by decide +kernel
theorem dX11_shiftError_5 : decode cX11_shiftError 5 = .ok (.invokevirtual 139, 3) := by decide +kernel
theorem dX11_shiftError_8 : decode cX11_shiftError 8 = .ok (.ifCond .ne 5, 3) := by decide +kernel
theorem dX11_shiftError_11 : decode cX11_shiftError 11 = .ok (.iconst 1, 1) := by decide +kernel
theorem dX11_shiftError_12 : decode cX11_shiftError 12 = .ok (.ireturn, 1) := by decide +kernel
theorem dX11_shiftError_13 : decode cX11_shiftError 13 = .ok (.aload_n 0, 1) := by decide +kernel
theorem dX11_shiftError_14 : decode cX11_shiftError 14 = .ok (.getfield 12, 3) := by decide +kernel
theorem dX11_shiftError_17 : decode cX11_shiftError 17 = .ok (.getfield 145, 3) := by decide +kernel
theorem dX11_shiftError_20 : decode cX11_shiftError 20 = .ok (.iload_n 1, 1) := by decide +kernel
theorem dX11_shiftError_21 : decode cX11_shiftError 21 = .ok (.iaload, 1) := by decide +kernel
theorem dX11_shiftError_22 : decode cX11_shiftError 22 = .ok (.i2l, 1) := by decide +kernel
theorem dX11_shiftError_23 : decode cX11_shiftError 23 = .ok (.iload_n 2, 1) := by decide +kernel
theorem dX11_shiftError_24 : decode cX11_shiftError 24 = .ok (.i2l, 1) := by decide +kernel
theorem dX11_shiftError_25 : decode cX11_shiftError 25 = .ok (.ladd, 1) := by decide +kernel
theorem dX11_shiftError_26 : decode cX11_shiftError 26 = .ok (.lstore_n 3, 1) := by decide +kernel
theorem dX11_shiftError_27 : decode cX11_shiftError 27 = .ok (.aload_n 0, 1) := by decide +kernel
theorem dX11_shiftError_28 : decode cX11_shiftError 28 = .ok (.getfield 12, 3) := by decide +kernel
theorem dX11_shiftError_31 : decode cX11_shiftError 31 = .ok (.getfield 148, 3) := by decide +kernel
theorem dX11_shiftError_34 : decode cX11_shiftError 34 = .ok (.iload_n 1, 1) := by decide +kernel
theorem dX11_shiftError_35 : decode cX11_shiftError 35 = .ok (.iaload, 1) := by decide +kernel
theorem dX11_shiftError_36 : decode cX11_shiftError 36 = .ok (.i2l, 1) := by decide +kernel
theorem dX11_shiftError_37 : decode cX11_shiftError 37 = .ok (.iload_n 2, 1) := by decide +kernel
theorem dX11_shiftError_38 : decode cX11_shiftError 38 = .ok (.i2l, 1) := by decide +kernel
theorem dX11_shiftError_39 : decode cX11_shiftError 39 = .ok (.ladd, 1) := by decide +kernel
theorem dX11_shiftError_40 : decode cX11_shiftError 40 = .ok (.lstore 5, 2) := by decide +kernel
theorem dX11_shiftError_42 : decode cX11_shiftError 42 = .ok (.lload_n 3, 1) := by decide +kernel
theorem dX11_shiftError_43 : decode cX11_shiftError 43 = .ok (.lconst 0, 1) := by decide +kernel
theorem dX11_shiftError_44 : decode cX11_shiftError 44 = .ok (.lcmp, 1) := by decide +kernel
theorem dX11_shiftError_45 : decode cX11_shiftError 45 = .ok (.ifCond .lt 17, 3) := by decide +kernel
theorem dX11_shiftError_48 : decode cX11_shiftError 48 = .ok (.lload 5, 2) := by decide +kernel
theorem dX11_shiftError_50 : decode cX11_shiftError 50 = .ok (.aload_n 0, 1) := by decide +kernel
theorem dX11_shiftError_51 : decode cX11_shiftError 51 = .ok (.getfield 12, 3) := by decide +kernel
theorem dX11_shiftError_54 : decode cX11_shiftError 54 = .ok (.getfield 76, 3) := by decide +kernel
theorem dX11_shiftError_57 : decode cX11_shiftError 57 = .ok (.i2l, 1) := by decide +kernel
theorem dX11_shiftError_58 : decode cX11_shiftError 58 = .ok (.lcmp, 1) := by decide +kernel
theorem dX11_shiftError_59 : decode cX11_shiftError 59 = .ok (.ifCond .lt 5, 3) := by decide +kernel
theorem dX11_shiftError_62 : decode cX11_shiftError 62 = .ok (.iconst 1, 1) := by decide +kernel
theorem dX11_shiftError_63 : decode cX11_shiftError 63 = .ok (.ireturn, 1) := by decide +kernel
theorem dX11_shiftError_64 : decode cX11_shiftError 64 = .ok (.aload_n 0, 1) := by decide +kernel
theorem dX11_shiftError_65 : decode cX11_shiftError 65 = .ok (.getfield 12, 3) := by decide +kernel
theorem dX11_shiftError_68 : decode cX11_shiftError 68 = .ok (.aload_n 0, 1) := by decide +kernel
theorem dX11_shiftError_69 : decode cX11_shiftError 69 = .ok (.getfield 12, 3) := by decide +kernel
theorem dX11_shiftError_72 : decode cX11_shiftError 72 = .ok (.getfield 142, 3) := by decide +kernel
theorem dX11_shiftError_75 : decode cX11_shiftError 75 = .ok (.iload_n 1, 1) := by decide +kernel
theorem dX11_shiftError_76 : decode cX11_shiftError 76 = .ok (.iaload, 1) := by decide +kernel
theorem dX11_shiftError_77 : decode cX11_shiftError 77 = .ok (.lload_n 3, 1) := by decide +kernel
theorem dX11_shiftError_78 : decode cX11_shiftError 78 = .ok (.l2i, 1) := by decide +kernel
theorem dX11_shiftError_79 : decode cX11_shiftError 79 = .ok (.lload 5, 2) := by decide +kernel
theorem dX11_shiftError_81 : decode cX11_shiftError 81 = .ok (.l2i, 1) := by decide +kernel
theorem dX11_shiftError_82 : decode cX11_shiftError 82 = .ok (.iload_n 1, 1) := by decide +kernel
theorem dX11_shiftError_83 : decode cX11_shiftError 83 = .ok (.invokevirtual 128, 3) := by decide +kernel
theorem dX11_shiftError_86 : decode cX11_shiftError 86 = .ok (.ifCond .eq 7, 3) := by decide +kernel
theorem dX11_shiftError_89 : decode cX11_shiftError 89 = .ok (.iconst 3, 1) := by decide +kernel
theorem dX11_shiftError_90 : decode cX11_shiftError 90 = .ok (.goto 4, 3) := by decide +kernel
theorem dX11_shiftError_93 : decode cX11_shiftError 93 = .ok (.iconst 0, 1) := by decide +kernel
theorem dX11_shiftError_94 : decode cX11_shiftError 94 = .ok (.ireturn, 1) := by decide +kernel
theorem dX12_init_0 : decode cX12_init 0 = .ok (.aload_n 0, 1) := by decide +kernel
theorem dX12_init_1 : decode cX12_init 1 = .ok (.invokespecial 1, 3) := by decide +kernel
theorem dX12_init_4 : decode cX12_init 4 = .ok (.aload_n 0, 1) := by decide +kernel
theorem dX12_init_5 : decode cX12_init 5 = .ok (.sipush 466, 3) := by decide +kernel
theorem dX12_init_8 : decode cX12_init 8 = .ok (.newarray .int, 2) := by decide +kernel
theorem dX12_init_10 : decode cX12_init 10 = .ok (.putfield 7, 3) := by decide +kernel
theorem dX12_init_13 : decode cX12_init 13 = .ok (.aload_n 0, 1) := by decide +kernel
theorem dX12_init_14 : decode cX12_init 14 = .ok (.sipush 466, 3) := by decide +kernel
theorem dX12_init_17 : decode cX12_init 17 = .ok (.newarray .int, 2) := by decide +kernel
theorem dX12_init_19 : decode cX12_init 19 = .ok (.putfield 13, 3) := by decide +kernel
theorem dX12_init_22 : decode cX12_init 22 = .ok (.aload_n 0, 1) := by decide +kernel
theorem dX12_init_23 : decode cX12_init 23 = .ok (.bipush 6, 2) := by decide +kernel
theorem dX12_init_25 : decode cX12_init 25 = .ok (.newarray .int, 2) := by decide +kernel
theorem dX12_init_27 : decode cX12_init 27 = .ok (.putfield 16, 3) := by decide +kernel
theorem dX12_init_30 : decode cX12_init 30 = .ok (.aload_n 0, 1) := by decide +kernel
theorem dX12_init_31 : decode cX12_init 31 = .ok (.bipush 10, 2) := by decide +kernel
theorem dX12_init_33 : decode cX12_init 33 = .ok (.newarray .int, 2) := by decide +kernel
theorem dX12_init_35 : decode cX12_init 35 = .ok (.putfield 19, 3) := by decide +kernel
theorem dX12_init_38 : decode cX12_init 38 = .ok (.aload_n 0, 1) := by decide +kernel
theorem dX12_init_39 : decode cX12_init 39 = .ok (.bipush 100, 2) := by decide +kernel
theorem dX12_init_41 : decode cX12_init 41 = .ok (.newarray .int, 2) := by decide +kernel
theorem dX12_init_43 : decode cX12_init 43 = .ok (.putfield 22, 3) := by decide +kernel
theorem dX12_init_46 : decode cX12_init 46 = .ok (.aload_n 0, 1) := by decide +kernel
theorem dX12_init_47 : decode cX12_init 47 = .ok (.bipush 100, 2) := by decide +kernel
theorem dX12_init_49 : decode cX12_init 49 = .ok (.newarray .int, 2) := by decide +kernel
theorem dX12_init_51 : decode cX12_init 51 = .ok (.putfield 25, 3) := by decide +kernel
theorem dX12_init_54 : decode cX12_init 54 = .ok (.aload_n 0, 1) := by decide +kernel
theorem dX12_init_55 : decode cX12_init 55 = .ok (.bipush 6, 2) := by decide +kernel
theorem dX12_init_57 : decode cX12_init 57 = .ok (.newarray .int, 2) := by decide +kernel
theorem dX12_init_59 : decode cX12_init 59 = .ok (.putfield 28, 3) := by decide +kernel
theorem dX12_init_62 : decode cX12_init 62 = .ok (.aload_n 0, 1) := by decide +kernel
theorem dX12_init_63 : decode cX12_init 63 = .ok (.bipush 52, 2) := by decide +kernel
theorem dX12_init_65 : decode cX12_init 65 = .ok (.newarray .int, 2) := by decide +kernel
theorem dX12_init_67 : decode cX12_init 67 = .ok (.putfield 31, 3) := by decide +kernel
theorem dX12_init_70 : decode cX12_init 70 = .ok (.aload_n 0, 1) := by decide +kernel
theorem dX12_init_71 : decode cX12_init 71 = .ok (.bipush 52, 2) := by decide +kernel
theorem dX12_init_73 : decode cX12_init 73 = .ok (.newarray .int, 2) := by decide +kernel
theorem dX12_init_75 : decode cX12_init 75 = .ok (.putfield 34, 3) := by decide +kernel
theorem dX12_init_78 : decode cX12_init 78 = .ok (.aload_n 0, 1) := by decide +kernel
theorem dX12_init_79 : decode cX12_init 79 = .ok (.bipush 52, 2) := by decide +kernel
theorem dX12_init_81 : decode cX12_init 81 = .ok (.newarray .int, 2) := by decide +kernel
theorem dX12_init_83 : decode cX12_init 83 = .ok (.putfield 37, 3) := by decide +kernel
theorem dX12_init_86 : decode cX12_init 86 = .ok (.aload_n 0, 1) := by decide +kernel
theorem dX12_init_87 : decode cX12_init 87 = .ok (.iconst 4, 1) := by decide +kernel
theorem dX12_init_88 : decode cX12_init 88 = .ok (.newarray .int, 2) := by decide +kernel
theorem dX12_init_90 : decode cX12_init 90 = .ok (.putfield 40, 3) := by decide +kernel
theorem dX12_init_93 : decode cX12_init 93 = .ok (.aload_n 0, 1) := by decide +kernel
theorem dX12_init_94 : decode cX12_init 94 = .ok (.bipush 11, 2) := by decide +kernel
theorem dX12_init_96 : decode cX12_init 96 = .ok (.newarray .int, 2) := by decide +kernel
theorem dX12_init_98 : decode cX12_init 98 = .ok (.putfield 43, 3) := by decide +kernel
theorem dX12_init_101 : decode cX12_init 101 = .ok (.aload_n 0, 1) := by decide +kernel
theorem dX12_init_102 : decode cX12_init 102 = .ok (.bipush 11, 2) := by decide +kernel
theorem dX12_init_104 : decode cX12_init 104 = .ok (.newarray .int, 2) := by decide +kernel
theorem dX12_init_106 : decode cX12_init 106 = .ok (.putfield 46, 3) := by decide +kernel
theorem dX12_init_109 : decode cX12_init 109 = .ok (.aload_n 0, 1) := by decide +kernel
theorem dX12_init_110 : decode cX12_init 110 = .ok (.bipush 10, 2) := by decide +kernel
theorem dX12_init_112 : decode cX12_init 112 = .ok (.newarray .int, 2) := by decide +kernel
theorem dX12_init_114 : decode cX12_init 114 = .ok (.putfield 49, 3) := by decide +kernel
theorem dX12_init_117 : decode cX12_init 117 = .ok (.aload_n 0, 1) := by decide +kernel
theorem dX12_init_118 : decode cX12_init 118 = .ok (.sipush 1024, 3) := by decide +kernel
theorem dX12_init_121 : decode cX12_init 121 = .ok (.newarray .boolean, 2) := by decide +kernel
theorem dX12_init_123 : decode cX12_init 123 = .ok (.putfield 52, 3) := by decide +kernel
theorem dX12_init_126 : decode cX12_init 126 = .ok (.aload_n 0, 1) := by decide +kernel
theorem dX12_init_127 : decode cX12_init 127 = .ok (.sipush 1024, 3) := by decide +kernel
theorem dX12_init_130 : decode cX12_init 130 = .ok (.newarray .int, 2) := by decide +kernel
theorem dX12_init_132 : decode cX12_init 132 = .ok (.putfield 56, 3) := by decide +kernel
theorem dX12_init_135 : decode cX12_init 135 = .ok (.aload_n 0, 1) := by decide +kernel
theorem dX12_init_136 : decode cX12_init 136 = .ok (.sipush 7168, 3) := by decide +kernel
theorem dX12_init_139 : decode cX12_init 139 = .ok (.newarray .int, 2) := by decide +kernel
theorem dX12_init_141 : decode cX12_init 141 = .ok (.putfield 59, 3) := by decide +kernel
theorem dX12_init_144 : decode cX12_init 144 = .ok (.aload_n 0, 1) := by decide +kernel
theorem dX12_init_145 : decode cX12_init 145 = .ok (.sipush 2048, 3) := by decide +kernel
theorem dX12_init_148 : decode cX12_init 148 = .ok (.newarray .long, 2) := by decide +kernel
theorem dX12_init_150 : decode cX12_init 150 = .ok (.putfield 62, 3) := by decide +kernel
theorem dX12_init_153 : decode cX12_init 153 = .ok (.aload_n 0, 1) := by decide +kernel
theorem dX12_init_154 : decode cX12_init 154 = .ok (.bipush 10, 2) := by decide +kernel
theorem dX12_init_156 : decode cX12_init 156 = .ok (.newarray .int, 2) := by decide +kernel
theorem dX12_init_158 : decode cX12_init 158 = .ok (.putfield 66, 3) := by decide +kernel
theorem dX12_init_161 : decode cX12_init 161 = .ok (.aload_n 0, 1) := by decide +kernel
theorem dX12_init_162 : decode cX12_init 162 = .ok (.bipush 10, 2) := by decide +kernel
theorem dX12_init_164 : decode cX12_init 164 = .ok (.newarray .int, 2) := by decide +kernel
theorem dX12_init_166 : decode cX12_init 166 = .ok (.putfield 69, 3) := by decide +kernel
theorem dX12_init_169 : decode cX12_init 169 = .ok (.aload_n 0, 1) := by decide +kernel
theorem dX12_init_170 : decode cX12_init 170 = .ok (.bipush 10, 2) := by decide +kernel
theorem dX12_init_172 : decode cX12_init 172 = .ok (.newarray .int, 2) := by decide +kernel
theorem dX12_init_174 : decode cX12_init 174 = .ok (.putfield 72, 3) := by decide +kernel
theorem dX12_init_177 : decode cX12_init 177 = .ok (.aload_n 0, 1) := by decide +kernel
theorem dX12_init_178 : decode cX12_init 178 = .ok (.bipush 40, 2) := by decide +kernel
theorem dX12_init_180 : decode cX12_init 180 = .ok (.newarray .int, 2) := by decide +kernel
theorem dX12_init_182 : decode cX12_init 182 = .ok (.putfield 75, 3) := by decide +kernel
theorem dX12_init_185 : decode cX12_init 185 = .ok (.aload_n 0, 1) := by decide +kernel
theorem dX12_init_186 : decode cX12_init 186 = .ok (.iconst 4, 1) := by decide +kernel
theorem dX12_init_187 : decode cX12_init 187 = .ok (.newarray .int, 2) := by decide +kernel
theorem dX12_init_189 : decode cX12_init 189 = .ok (.putfield 78, 3) := by decide +kernel
theorem dX12_init_192 : decode cX12_init 192 = .ok (.aload_n 0, 1) := by decide +kernel
theorem dX12_init_193 : decode cX12_init 193 = .ok (.iconst 4, 1) := by decide +kernel
theorem dX12_init_194 : decode cX12_init 194 = .ok (.newarray .int, 2) := by decide +kernel
theorem dX12_init_196 : decode cX12_init 196 = .ok (.putfield 81, 3) := by decide +kernel
theorem dX12_init_199 : decode cX12_init 199 = .ok (.aload_n 0, 1) := by decide +kernel
theorem dX12_init_200 : decode cX12_init 200 = .ok (.bipush 96, 2) := by decide +kernel
theorem dX12_init_202 : decode cX12_init 202 = .ok (.newarray .int, 2) := by decide +kernel
theorem dX12_init_204 : decode cX12_init 204 = .ok (.putfield 84, 3) := by decide +kernel
theorem dX12_init_207 : decode cX12_init 207 = .ok (.aload_n 0, 1) := by decide +kernel
theorem dX12_init_208 : decode cX12_init 208 = .ok (.bipush 24, 2) := by decide +kernel
theorem dX12_init_210 : decode cX12_init 210 = .ok (.newarray .int, 2) := by decide +kernel
theorem dX12_init_212 : decode cX12_init 212 = .ok (.putfield 87, 3) := by decide +kernel
theorem dX12_init_215 : decode cX12_init 215 = .ok (.aload_n 0, 1) := by decide +kernel
theorem dX12_init_216 : decode cX12_init 216 = .ok (.getfield 7, 3) := by decide +kernel
theorem dX12_init_219 : decode cX12_init 219 = .ok (.iconst 0, 1) := by decide +kernel
theorem dX12_init_220 : decode cX12_init 220 = .ok (.bipush 100, 2) := by decide +kernel
theorem dX12_init_222 : decode cX12_init 222 = .ok (.iastore, 1) := by decide +kernel
theorem dX12_init_223 : decode cX12_init 223 = .ok (.return_, 1) := by decide +kernel
theorem dX12_in_0 : decode cX12_in 0 = .ok (.iload_n 0, 1) := by decide +kernel
theorem dX12_in_1 : decode cX12_in 1 = .ok (.iload_n 1, 1) := by decide +kernel
theorem dX12_in_2 : decode cX12_in 2 = .ok (.if_icmp .lt 12, 3) := by decide +kernel
theorem dX12_in_5 : decode cX12_in 5 = .ok (.iload_n 0, 1) := by decide +kernel
theorem dX12_in_6 : decode cX12_in 6 = .ok (.iload_n 2, 1) := by decide +kernel
theorem dX12_in_7 : decode cX12_in 7 = .ok (.if_icmp .gt 7, 3) := by decide +kernel
theorem dX12_in_10 : decode cX12_in 10 = .ok (.iconst 1, 1) := by decide +kernel
theorem dX12_in_11 : decode cX12_in 11 = .ok (.goto 4, 3) := by decide +kernel
theorem dX12_in_14 : decode cX12_in 14 = .ok (.iconst 0, 1) := by decide +kernel
theorem dX12_in_15 : decode cX12_in 15 = .ok (.ireturn, 1) := by decide +kernel
theorem dX12_finds_0 : decode cX12_finds 0 = .ok (.aload_n 0, 1) := by decide +kernel
theorem dX12_finds_1 : decode cX12_finds 1 = .ok (.getfield 16, 3) := by decide +kernel
theorem dX12_finds_4 : decode cX12_finds 4 = .ok (.iload_n 1, 1) := by decide +kernel
theorem dX12_finds_5 : decode cX12_finds 5 = .ok (.dup2, 1) := by decide +kernel
theorem dX12_finds_6 : decode cX12_finds 6 = .ok (.iaload, 1) := by decide +kernel
theorem dX12_finds_7 : decode cX12_finds 7 = .ok (.iconst 1, 1) := by decide +kernel
theorem dX12_finds_8 : decode cX12_finds 8 = .ok (.iadd, 1) := by decide +kernel
theorem dX12_finds_9 : decode cX12_finds 9 = .ok (.iastore, 1) := by decide +kernel
theorem dX12_finds_10 : decode cX12_finds 10 = .ok (.ldc 90, 2) := by decide +kernel
theorem dX12_finds_12 : decode cX12_finds 12 = .ok (.iload_n 1, 1) := by decide +kernel
theorem dX12_finds_13 : decode cX12_finds 13 = .ok (.isub, 1) := by decide +kernel
theorem dX12_finds_14 : decode cX12_finds 14 = .ok (.ireturn, 1) := by decide +kernel
theorem dX12_isPart_0 : decode cX12_isPart 0 = .ok (.iload_n 1, 1) := by decide +kernel
theorem dX12_isPart_1 : decode cX12_isPart 1 = .ok (.iconst 0, 1) := by decide +kernel
theorem dX12_isPart_2 : decode cX12_isPart 2 = .ok (.aload_n 0, 1) := by decide +kernel
theorem dX12_isPart_3 : decode cX12_isPart 3 = .ok (.getfield 7, 3) := by decide +kernel
theorem dX12_isPart_6 : decode cX12_isPart 6 = .ok (.iconst 1, 1) := by decide +kernel
theorem dX12_isPart_7 : decode cX12_isPart 7 = .ok (.iaload, 1) := by decide +kernel
theorem dX12_isPart_8 : decode cX12_isPart 8 = .ok (.iconst 1, 1) := by decide +kernel
theorem dX12_isPart_9 : decode cX12_isPart 9 = .ok (.isub, 1) := by decide +kernel
theorem dX12_isPart_10 : decode cX12_isPart 10 = .ok (.invokestatic 91, 3) := by decide +kernel
theorem dX12_isPart_13 : decode cX12_isPart 13 = .ok (.ireturn, 1) := by decide +kernel
theorem dX12_isPlayer_0 : decode cX12_isPlayer 0 = .ok (.iload_n 1, 1) := by decide +kernel
theorem dX12_isPlayer_1 : decode cX12_isPlayer 1 = .ok (.iconst 0, 1) := by decide +kernel
theorem dX12_isPlayer_2 : decode cX12_isPlayer 2 = .ok (.aload_n 0, 1) := by decide +kernel
theorem dX12_isPlayer_3 : decode cX12_isPlayer 3 = .ok (.getfield 7, 3) := by decide +kernel
theorem dX12_isPlayer_6 : decode cX12_isPlayer 6 = .ok (.iconst 3, 1) := by decide +kernel
theorem dX12_isPlayer_7 : decode cX12_isPlayer 7 = .ok (.iaload, 1) := by decide +kernel
theorem dX12_isPlayer_8 : decode cX12_isPlayer 8 = .ok (.iconst 1, 1) := by decide +kernel
theorem dX12_isPlayer_9 : decode cX12_isPlayer 9 = .ok (.isub, 1) := by decide +kernel
theorem dX12_isPlayer_10 : decode cX12_isPlayer 10 = .ok (.invokestatic 91, 3) := by decide +kernel
theorem dX12_isPlayer_13 : decode cX12_isPlayer 13 = .ok (.ireturn, 1) := by decide +kernel
theorem dX12_isEntry_0 : decode cX12_isEntry 0 = .ok (.iload_n 1, 1) := by decide +kernel
theorem dX12_isEntry_1 : decode cX12_isEntry 1 = .ok (.iconst 0, 1) := by decide +kernel
theorem dX12_isEntry_2 : decode cX12_isEntry 2 = .ok (.aload_n 0, 1) := by decide +kernel
theorem dX12_isEntry_3 : decode cX12_isEntry 3 = .ok (.getfield 7, 3) := by decide +kernel
theorem dX12_isEntry_6 : decode cX12_isEntry 6 = .ok (.iconst 2, 1) := by decide +kernel
theorem dX12_isEntry_7 : decode cX12_isEntry 7 = .ok (.iaload, 1) := by decide +kernel
theorem dX12_isEntry_8 : decode cX12_isEntry 8 = .ok (.iconst 1, 1) := by decide +kernel
theorem dX12_isEntry_9 : decode cX12_isEntry 9 = .ok (.isub, 1) := by decide +kernel
theorem dX12_isEntry_10 : decode cX12_isEntry 10 = .ok (.invokestatic 91, 3) := by decide +kernel
theorem dX12_isEntry_13 : decode cX12_isEntry 13 = .ok (.ireturn, 1) := by decide +kernel
theorem dX12_its_0 : decode cX12_its 0 = .ok (.aload_n 0, 1) := by decide +kernel
theorem dX12_its_1 : decode cX12_its 1 = .ok (.getfield 7, 3) := by decide +kernel
theorem dX12_its_4 : decode cX12_its 4 = .ok (.bipush 10, 2) := by decide +kernel
theorem dX12_its_6 : decode cX12_its 6 = .ok (.iconst 5, 1) := by decide +kernel
theorem dX12_its_7 : decode cX12_its 7 = .ok (.iload_n 1, 1) := by decide +kernel
theorem dX12_its_8 : decode cX12_its 8 = .ok (.imul, 1) := by decide +kernel
theorem dX12_its_9 : decode cX12_its 9 = .ok (.iadd, 1) := by decide +kernel
theorem dX12_its_10 : decode cX12_its 10 = .ok (.iload_n 2, 1) := by decide +kernel
theorem dX12_its_11 : decode cX12_its 11 = .ok (.iadd, 1) := by decide +kernel
theorem dX12_its_12 : decode cX12_its 12 = .ok (.iaload, 1) := by decide +kernel
theorem dX12_its_13 : decode cX12_its 13 = .ok (.ireturn, 1) := by decide +kernel
theorem dX12_entryOf_0 : decode cX12_entryOf 0 = .ok (.aload_n 0, 1) := by decide +kernel
theorem dX12_entryOf_1 : decode cX12_entryOf 1 = .ok (.getfield 7, 3) := by decide +kernel
theorem dX12_entryOf_4 : decode cX12_entryOf 4 = .ok (.bipush 60, 2) := by decide +kernel
theorem dX12_entryOf_6 : decode cX12_entryOf 6 = .ok (.iconst 4, 1) := by decide +kernel
theorem dX12_entryOf_7 : decode cX12_entryOf 7 = .ok (.iload_n 1, 1) := by decide +kernel
theorem dX12_entryOf_8 : decode cX12_entryOf 8 = .ok (.imul, 1) := by decide +kernel
theorem dX12_entryOf_9 : decode cX12_entryOf 9 = .ok (.iadd, 1) := by decide +kernel
theorem dX12_entryOf_10 : decode cX12_entryOf 10 = .ok (.iload_n 2, 1) := by decide +kernel
theorem dX12_entryOf_11 : decode cX12_entryOf 11 = .ok (.iadd, 1) := by decide +kernel
theorem dX12_entryOf_12 : decode cX12_entryOf 12 = .ok (.iaload, 1) := by decide +kernel
theorem dX12_entryOf_13 : decode cX12_entryOf 13 = .ok (.ireturn, 1) := by decide +kernel
theorem dX12_playerOf_0 : decode cX12_playerOf 0 = .ok (.aload_n 0, 1) := by decide +kernel
theorem dX12_playerOf_1 : decode cX12_playerOf 1 = .ok (.getfield 7, 3) := by decide +kernel
theorem dX12_playerOf_4 : decode cX12_playerOf 4 = .ok (.sipush 220, 3) := by decide +kernel
theorem dX12_playerOf_7 : decode cX12_playerOf 7 = .ok (.iconst 3, 1) := by decide +kernel
theorem dX12_playerOf_8 : decode cX12_playerOf 8 = .ok (.iload_n 1, 1) := by decide +kernel
theorem dX12_playerOf_9 : decode cX12_playerOf 9 = .ok (.imul, 1) := by decide +kernel
theorem dX12_playerOf_10 : decode cX12_playerOf 10 = .ok (.iadd, 1) := by decide +kernel
theorem dX12_playerOf_11 : decode cX12_playerOf 11 = .ok (.iload_n 2, 1) := by decide +kernel
theorem dX12_playerOf_12 : decode cX12_playerOf 12 = .ok (.iadd, 1) := by decide +kernel
theorem dX12_playerOf_13 : decode cX12_playerOf 13 = .ok (.iaload, 1) := by decide +kernel
theorem dX12_playerOf_14 : decode cX12_playerOf 14 = .ok (.ireturn, 1) := by decide +kernel
theorem dX12_lines_0 : decode cX12_lines 0 = .ok (.iload_n 1, 1) := by decide +kernel
theorem dX12_lines_1 : decode cX12_lines 1 = .ok (.bipush 10, 2) := by decide +kernel
theorem dX12_lines_3 : decode cX12_lines 3 = .ok (.sipush 200, 3) := by decide +kernel
theorem dX12_lines_6 : decode cX12_lines 6 = .ok (.invokestatic 91, 3) := by decide +kernel
theorem dX12_lines_9 : decode cX12_lines 9 = .ok (.ifCond .ne 9, 3) := by decide +kernel
theorem dX12_lines_12 : decode cX12_lines 12 = .ok (.aload_n 0, 1) := by decide +kernel
theorem dX12_lines_13 : decode cX12_lines 13 = .ok (.iconst 1, 1) := by decide +kernel
theorem dX12_lines_14 : decode cX12_lines 14 = .ok (.invokevirtual 95, 3) := by decide +kernel
theorem dX12_lines_17 : decode cX12_lines 17 = .ok (.ireturn, 1) := by decide +kernel
theorem dX12_lines_18 : decode cX12_lines 18 = .ok (.iconst 0, 1) := by decide +kernel
theorem dX12_lines_19 : decode cX12_lines 19 = .ok (.istore_n 2, 1) := by decide +kernel
theorem dX12_lines_20 : decode cX12_lines 20 = .ok (.iload_n 2, 1) := by decide +kernel
theorem dX12_lines_21 : decode cX12_lines 21 = .ok (.aload_n 0, 1) := by decide +kernel
theorem dX12_lines_22 : decode cX12_lines 22 = .ok (.getfield 7, 3) := by decide +kernel
theorem dX12_lines_25 : decode cX12_lines 25 = .ok (.iconst 2, 1) := by decide +kernel
theorem dX12_lines_26 : decode cX12_lines 26 = .ok (.iaload, 1) := by decide +kernel
theorem dX12_lines_27 : decode cX12_lines 27 = .ok (.if_icmp .ge 25, 3) := by decide +kernel
theorem dX12_lines_30 : decode cX12_lines 30 = .ok (.aload_n 0, 1) := by decide +kernel
theorem dX12_lines_31 : decode cX12_lines 31 = .ok (.iload_n 2, 1) := by decide +kernel
theorem dX12_lines_32 : decode cX12_lines 32 = .ok (.iconst 2, 1) := by decide +kernel
theorem dX12_lines_33 : decode cX12_lines 33 = .ok (.invokevirtual 99, 3) := by decide +kernel
theorem dX12_lines_36 : decode cX12_lines 36 = .ok (.iload_n 1, 1) := by decide +kernel
theorem dX12_lines_37 : decode cX12_lines 37 = .ok (.if_icmp .lt 9, 3) := by decide +kernel
theorem dX12_lines_40 : decode cX12_lines 40 = .ok (.aload_n 0, 1) := by decide +kernel
theorem dX12_lines_41 : decode cX12_lines 41 = .ok (.iconst 3, 1) := by decide +kernel
theorem dX12_lines_42 : decode cX12_lines 42 = .ok (.invokevirtual 95, 3) := by decide +kernel
theorem dX12_lines_45 : decode cX12_lines 45 = .ok (.ireturn, 1) := by decide +kernel
theorem dX12_lines_46 : decode cX12_lines 46 = .ok (.iinc 2 1, 3) := by decide +kernel
theorem dX12_lines_49 : decode cX12_lines 49 = .ok (.goto (-29), 3) := by decide +kernel
theorem dX12_lines_52 : decode cX12_lines 52 = .ok (.aload_n 0, 1) := by decide +kernel
theorem dX12_lines_53 : decode cX12_lines 53 = .ok (.getfield 7, 3) := by decide +kernel
theorem dX12_lines_56 : decode cX12_lines 56 = .ok (.iconst 0, 1) := by decide +kernel
theorem dX12_lines_57 : decode cX12_lines 57 = .ok (.iaload, 1) := by decide +kernel
theorem dX12_lines_58 : decode cX12_lines 58 = .ok (.istore_n 2, 1) := by decide +kernel
theorem dX12_lines_59 : decode cX12_lines 59 = .ok (.aload_n 0, 1) := by decide +kernel
theorem dX12_lines_60 : decode cX12_lines 60 = .ok (.getfield 7, 3) := by decide +kernel
theorem dX12_lines_63 : decode cX12_lines 63 = .ok (.iconst 0, 1) := by decide +kernel
theorem dX12_lines_64 : decode cX12_lines 64 = .ok (.iload_n 1, 1) := by decide +kernel
theorem dX12_lines_65 : decode cX12_lines 65 = .ok (.iastore, 1) := by decide +kernel
theorem dX12_lines_66 : decode cX12_lines 66 = .ok (.iload_n 2, 1) := by decide +kernel
theorem dX12_lines_67 : decode cX12_lines 67 = .ok (.ireturn, 1) := by decide +kernel
theorem dX12_above_0 : decode cX12_above 0 = .ok (.iload_n 0, 1) := by decide +kernel
theorem dX12_above_1 : decode cX12_above 1 = .ok (.tableswitch 45 0 5 #[39, 45, 45, 41, 43, 41], 39) := by decide +kernel
theorem dX12_above_40 : decode cX12_above 40 = .ok (.iconst (-1), 1) := by decide +kernel
theorem dX12_above_41 : decode cX12_above 41 = .ok (.ireturn, 1) := by decide +kernel
theorem dX12_above_42 : decode cX12_above 42 = .ok (.iconst 1, 1) := by decide +kernel
theorem dX12_above_43 : decode cX12_above 43 = .ok (.ireturn, 1) := by decide +kernel
theorem dX12_above_44 : decode cX12_above 44 = .ok (.iconst 2, 1) := by decide +kernel
theorem dX12_above_45 : decode cX12_above 45 = .ok (.ireturn, 1) := by decide +kernel
theorem dX12_above_46 : decode cX12_above 46 = .ok (.iconst 0, 1) := by decide +kernel
theorem dX12_above_47 : decode cX12_above 47 = .ok (.ireturn, 1) := by decide +kernel
theorem dX12_isUnder_0 : decode cX12_isUnder 0 = .ok (.iload_n 0, 1) := by decide +kernel
theorem dX12_isUnder_1 : decode cX12_isUnder 1 = .ok (.istore_n 2, 1) := by decide +kernel
theorem dX12_isUnder_2 : decode cX12_isUnder 2 = .ok (.iload_n 2, 1) := by decide +kernel
theorem dX12_isUnder_3 : decode cX12_isUnder 3 = .ok (.ifCond .lt 16, 3) := by decide +kernel
theorem dX12_isUnder_6 : decode cX12_isUnder 6 = .ok (.iload_n 2, 1) := by decide +kernel
theorem dX12_isUnder_7 : decode cX12_isUnder 7 = .ok (.iload_n 1, 1) := by decide +kernel
theorem dX12_isUnder_8 : decode cX12_isUnder 8 = .ok (.if_icmp .eq 11, 3) := by decide +kernel
theorem dX12_isUnder_11 : decode cX12_isUnder 11 = .ok (.iload_n 2, 1) := by decide +kernel
theorem dX12_isUnder_12 : decode cX12_isUnder 12 = .ok (.invokestatic 103, 3) := by decide +kernel
theorem dX12_isUnder_15 : decode cX12_isUnder 15 = .ok (.istore_n 2, 1) := by decide +kernel
theorem dX12_isUnder_16 : decode cX12_isUnder 16 = .ok (.goto (-14), 3) := by decide +kernel
theorem dX12_isUnder_19 : decode cX12_isUnder 19 = .ok (.iload_n 2, 1) := by decide +kernel
theorem dX12_isUnder_20 : decode cX12_isUnder 20 = .ok (.iload_n 1, 1) := by decide +kernel
theorem dX12_isUnder_21 : decode cX12_isUnder 21 = .ok (.if_icmp .ne 7, 3) := by decide +kernel
theorem dX12_isUnder_24 : decode cX12_isUnder 24 = .ok (.iconst 1, 1) := by decide +kernel
theorem dX12_isUnder_25 : decode cX12_isUnder 25 = .ok (.goto 4, 3) := by decide +kernel
theorem dX12_isUnder_28 : decode cX12_isUnder 28 = .ok (.iconst 0, 1) := by decide +kernel
theorem dX12_isUnder_29 : decode cX12_isUnder 29 = .ok (.ireturn, 1) := by decide +kernel
theorem dX12_part_0 : decode cX12_part 0 = .ok (.iload_n 1, 1) := by decide +kernel
theorem dX12_part_1 : decode cX12_part 1 = .ok (.iconst 0, 1) := by decide +kernel
theorem dX12_part_2 : decode cX12_part 2 = .ok (.iconst 5, 1) := by decide +kernel
theorem dX12_part_3 : decode cX12_part 3 = .ok (.invokestatic 91, 3) := by decide +kernel
theorem dX12_part_6 : decode cX12_part 6 = .ok (.ifCond .eq 14, 3) := by decide +kernel
theorem dX12_part_9 : decode cX12_part 9 = .ok (.iload_n 2, 1) := by decide +kernel
theorem dX12_part_10 : decode cX12_part 10 = .ok (.iconst 0, 1) := by decide +kernel
theorem dX12_part_11 : decode cX12_part 11 = .ok (.sipush 9999, 3) := by decide +kernel
theorem dX12_part_14 : decode cX12_part 14 = .ok (.invokestatic 91, 3) := by decide +kernel
theorem dX12_part_17 : decode cX12_part 17 = .ok (.ifCond .ne 9, 3) := by decide +kernel
theorem dX12_part_20 : decode cX12_part 20 = .ok (.aload_n 0, 1) := by decide +kernel
theorem dX12_part_21 : decode cX12_part 21 = .ok (.iconst 1, 1) := by decide +kernel
theorem dX12_part_22 : decode cX12_part 22 = .ok (.invokevirtual 95, 3) := by decide +kernel
theorem dX12_part_25 : decode cX12_part 25 = .ok (.ireturn, 1) := by decide +kernel
theorem dX12_part_26 : decode cX12_part 26 = .ok (.aload_n 0, 1) := by decide +kernel
theorem dX12_part_27 : decode cX12_part 27 = .ok (.getfield 7, 3) := by decide +kernel
theorem dX12_part_30 : decode cX12_part 30 = .ok (.iconst 1, 1) := by decide +kernel
theorem dX12_part_31 : decode cX12_part 31 = .ok (.iaload, 1) := by decide +kernel
theorem dX12_part_32 : decode cX12_part 32 = .ok (.bipush 10, 2) := by decide +kernel
theorem dX12_part_34 : decode cX12_part 34 = .ok (.if_icmp .ne 9, 3) := by decide +kernel
theorem dX12_part_37 : decode cX12_part 37 = .ok (.aload_n 0, 1) := by decide +kernel
theorem dX12_part_38 : decode cX12_part 38 = .ok (.iconst 4, 1) := by decide +kernel
theorem dX12_part_39 : decode cX12_part 39 = .ok (.invokevirtual 95, 3) := by decide +kernel
theorem dX12_part_42 : decode cX12_part 42 = .ok (.ireturn, 1) := by decide +kernel
theorem dX12_part_43 : decode cX12_part 43 = .ok (.bipush 10, 2) := by decide +kernel
theorem dX12_part_45 : decode cX12_part 45 = .ok (.iconst 5, 1) := by decide +kernel
theorem dX12_part_46 : decode cX12_part 46 = .ok (.aload_n 0, 1) := by decide +kernel
theorem dX12_part_47 : decode cX12_part 47 = .ok (.getfield 7, 3) := by decide +kernel
theorem dX12_part_50 : decode cX12_part 50 = .ok (.iconst 1, 1) := by decide +kernel
theorem dX12_part_51 : decode cX12_part 51 = .ok (.iaload, 1) := by decide +kernel
theorem dX12_part_52 : decode cX12_part 52 = .ok (.imul, 1) := by decide +kernel
theorem dX12_part_53 : decode cX12_part 53 = .ok (.iadd, 1) := by decide +kernel
theorem dX12_part_54 : decode cX12_part 54 = .ok (.istore_n 3, 1) := by decide +kernel
theorem dX12_part_55 : decode cX12_part 55 = .ok (.aload_n 0, 1) := by decide +kernel
theorem dX12_part_56 : decode cX12_part 56 = .ok (.getfield 7, 3) := by decide +kernel
theorem dX12_part_59 : decode cX12_part 59 = .ok (.iload_n 3, 1) := by decide +kernel
theorem dX12_part_60 : decode cX12_part 60 = .ok (.iload_n 1, 1) := by decide +kernel
theorem dX12_part_61 : decode cX12_part 61 = .ok (.iastore, 1) := by decide +kernel
theorem dX12_part_62 : decode cX12_part 62 = .ok (.aload_n 0, 1) := by decide +kernel
theorem dX12_part_63 : decode cX12_part 63 = .ok (.getfield 7, 3) := by decide +kernel
theorem dX12_part_66 : decode cX12_part 66 = .ok (.iload_n 3, 1) := by decide +kernel
theorem dX12_part_67 : decode cX12_part 67 = .ok (.iconst 1, 1) := by decide +kernel
theorem dX12_part_68 : decode cX12_part 68 = .ok (.iadd, 1) := by decide +kernel
theorem dX12_part_69 : decode cX12_part 69 = .ok (.iload_n 2, 1) := by decide +kernel
theorem dX12_part_70 : decode cX12_part 70 = .ok (.sipush 1000, 3) := by decide +kernel
theorem dX12_part_73 : decode cX12_part 73 = .ok (.idiv, 1) := by decide +kernel
theorem dX12_part_74 : decode cX12_part 74 = .ok (.iastore, 1) := by decide +kernel
theorem dX12_part_75 : decode cX12_part 75 = .ok (.aload_n 0, 1) := by decide +kernel
theorem dX12_part_76 : decode cX12_part 76 = .ok (.getfield 7, 3) := by decide +kernel
theorem dX12_part_79 : decode cX12_part 79 = .ok (.iload_n 3, 1) := by decide +kernel
theorem dX12_part_80 : decode cX12_part 80 = .ok (.iconst 2, 1) := by decide +kernel
theorem dX12_part_81 : decode cX12_part 81 = .ok (.iadd, 1) := by decide +kernel
theorem dX12_part_82 : decode cX12_part 82 = .ok (.iload_n 2, 1) := by decide +kernel
theorem dX12_part_83 : decode cX12_part 83 = .ok (.bipush 10, 2) := by decide +kernel
theorem dX12_part_85 : decode cX12_part 85 = .ok (.idiv, 1) := by decide +kernel
theorem dX12_part_86 : decode cX12_part 86 = .ok (.bipush 100, 2) := by decide +kernel
theorem dX12_part_88 : decode cX12_part 88 = .ok (.irem, 1) := by decide +kernel
theorem dX12_part_89 : decode cX12_part 89 = .ok (.iastore, 1) := by decide +kernel
theorem dX12_part_90 : decode cX12_part 90 = .ok (.aload_n 0, 1) := by decide +kernel
theorem dX12_part_91 : decode cX12_part 91 = .ok (.getfield 7, 3) := by decide +kernel
theorem dX12_part_94 : decode cX12_part 94 = .ok (.iload_n 3, 1) := by decide +kernel
theorem dX12_part_95 : decode cX12_part 95 = .ok (.iconst 3, 1) := by decide +kernel
theorem dX12_part_96 : decode cX12_part 96 = .ok (.iadd, 1) := by decide +kernel
theorem dX12_part_97 : decode cX12_part 97 = .ok (.iload_n 2, 1) := by decide +kernel
theorem dX12_part_98 : decode cX12_part 98 = .ok (.bipush 10, 2) := by decide +kernel
theorem dX12_part_100 : decode cX12_part 100 = .ok (.irem, 1) := by decide +kernel
theorem dX12_part_101 : decode cX12_part 101 = .ok (.iastore, 1) := by decide +kernel
theorem dX12_part_102 : decode cX12_part 102 = .ok (.aload_n 0, 1) := by decide +kernel
theorem dX12_part_103 : decode cX12_part 103 = .ok (.getfield 7, 3) := by decide +kernel
theorem dX12_part_106 : decode cX12_part 106 = .ok (.iload_n 3, 1) := by decide +kernel
theorem dX12_part_107 : decode cX12_part 107 = .ok (.iconst 4, 1) := by decide +kernel
theorem dX12_part_108 : decode cX12_part 108 = .ok (.iadd, 1) := by decide +kernel
theorem dX12_part_109 : decode cX12_part 109 = .ok (.iconst (-1), 1) := by decide +kernel
theorem dX12_part_110 : decode cX12_part 110 = .ok (.iastore, 1) := by decide +kernel
theorem dX12_part_111 : decode cX12_part 111 = .ok (.aload_n 0, 1) := by decide +kernel
theorem dX12_part_112 : decode cX12_part 112 = .ok (.getfield 7, 3) := by decide +kernel
theorem dX12_part_115 : decode cX12_part 115 = .ok (.iconst 1, 1) := by decide +kernel
theorem dX12_part_116 : decode cX12_part 116 = .ok (.dup2, 1) := by decide +kernel
theorem dX12_part_117 : decode cX12_part 117 = .ok (.iaload, 1) := by decide +kernel
theorem dX12_part_118 : decode cX12_part 118 = .ok (.iconst 1, 1) := by decide +kernel
theorem dX12_part_119 : decode cX12_part 119 = .ok (.iadd, 1) := by decide +kernel
theorem dX12_part_120 : decode cX12_part 120 = .ok (.iastore, 1) := by decide +kernel
theorem dX12_part_121 : decode cX12_part 121 = .ok (.aload_n 0, 1) := by decide +kernel
theorem dX12_part_122 : decode cX12_part 122 = .ok (.iconst 0, 1) := by decide +kernel
theorem dX12_part_123 : decode cX12_part 123 = .ok (.putfield 106, 3) := by decide +kernel
theorem dX12_part_126 : decode cX12_part 126 = .ok (.aload_n 0, 1) := by decide +kernel
theorem dX12_part_127 : decode cX12_part 127 = .ok (.getfield 7, 3) := by decide +kernel
theorem dX12_part_130 : decode cX12_part 130 = .ok (.iconst 1, 1) := by decide +kernel
theorem dX12_part_131 : decode cX12_part 131 = .ok (.iaload, 1) := by decide +kernel
theorem dX12_part_132 : decode cX12_part 132 = .ok (.iconst 1, 1) := by decide +kernel
theorem dX12_part_133 : decode cX12_part 133 = .ok (.isub, 1) := by decide +kernel
theorem dX12_part_134 : decode cX12_part 134 = .ok (.ireturn, 1) := by decide +kernel
theorem dX12_weight_0 : decode cX12_weight 0 = .ok (.iconst 0, 1) := by decide +kernel
theorem dX12_weight_1 : decode cX12_weight 1 = .ok (.istore_n 2, 1) := by decide +kernel
theorem dX12_weight_2 : decode cX12_weight 2 = .ok (.iconst 0, 1) := by decide +kernel
theorem dX12_weight_3 : decode cX12_weight 3 = .ok (.istore_n 3, 1) := by decide +kernel
theorem dX12_weight_4 : decode cX12_weight 4 = .ok (.iload_n 3, 1) := by decide +kernel
theorem dX12_weight_5 : decode cX12_weight 5 = .ok (.aload_n 0, 1) := by decide +kernel
theorem dX12_weight_6 : decode cX12_weight 6 = .ok (.getfield 7, 3) := by decide +kernel
theorem dX12_weight_9 : decode cX12_weight 9 = .ok (.iconst 2, 1) := by decide +kernel
theorem dX12_weight_10 : decode cX12_weight 10 = .ok (.iaload, 1) := by decide +kernel
theorem dX12_weight_11 : decode cX12_weight 11 = .ok (.if_icmp .ge 41, 3) := by decide +kernel
theorem dX12_weight_14 : decode cX12_weight 14 = .ok (.iload_n 2, 1) := by decide +kernel
theorem dX12_weight_15 : decode cX12_weight 15 = .ok (.aload_n 0, 1) := by decide +kernel
theorem dX12_weight_16 : decode cX12_weight 16 = .ok (.iload_n 3, 1) := by decide +kernel
theorem dX12_weight_17 : decode cX12_weight 17 = .ok (.iconst 0, 1) := by decide +kernel
theorem dX12_weight_18 : decode cX12_weight 18 = .ok (.invokevirtual 99, 3) := by decide +kernel
theorem dX12_weight_21 : decode cX12_weight 21 = .ok (.iload_n 1, 1) := by decide +kernel
theorem dX12_weight_22 : decode cX12_weight 22 = .ok (.if_icmp .ne 21, 3) := by decide +kernel
theorem dX12_weight_25 : decode cX12_weight 25 = .ok (.aload_n 0, 1) := by decide +kernel
theorem dX12_weight_26 : decode cX12_weight 26 = .ok (.iload_n 3, 1) := by decide +kernel
theorem dX12_weight_27 : decode cX12_weight 27 = .ok (.iconst 2, 1) := by decide +kernel
theorem dX12_weight_28 : decode cX12_weight 28 = .ok (.invokevirtual 99, 3) := by decide +kernel
theorem dX12_weight_31 : decode cX12_weight 31 = .ok (.aload_n 0, 1) := by decide +kernel
theorem dX12_weight_32 : decode cX12_weight 32 = .ok (.iload_n 3, 1) := by decide +kernel
theorem dX12_weight_33 : decode cX12_weight 33 = .ok (.iconst 1, 1) := by decide +kernel
theorem dX12_weight_34 : decode cX12_weight 34 = .ok (.invokevirtual 99, 3) := by decide +kernel
theorem dX12_weight_37 : decode cX12_weight 37 = .ok (.isub, 1) := by decide +kernel
theorem dX12_weight_38 : decode cX12_weight 38 = .ok (.iconst 1, 1) := by decide +kernel
theorem dX12_weight_39 : decode cX12_weight 39 = .ok (.iadd, 1) := by decide +kernel
theorem dX12_weight_40 : decode cX12_weight 40 = .ok (.goto 4, 3) := by decide +kernel
theorem dX12_weight_43 : decode cX12_weight 43 = .ok (.iconst 0, 1) := by decide +kernel
theorem dX12_weight_44 : decode cX12_weight 44 = .ok (.iadd, 1) := by decide +kernel
theorem dX12_weight_45 : decode cX12_weight 45 = .ok (.istore_n 2, 1) := by decide +kernel
theorem dX12_weight_46 : decode cX12_weight 46 = .ok (.iinc 3 1, 3) := by decide +kernel
theorem dX12_weight_49 : decode cX12_weight 49 = .ok (.goto (-45), 3) := by decide +kernel
theorem dX12_weight_52 : decode cX12_weight 52 = .ok (.iload_n 2, 1) := by decide +kernel
theorem dX12_weight_53 : decode cX12_weight 53 = .ok (.ireturn, 1) := by decide +kernel
theorem dX12_entriesOf_0 : decode cX12_entriesOf 0 = .ok (.iconst 0, 1) := by decide +kernel
theorem dX12_entriesOf_1 : decode cX12_entriesOf 1 = .ok (.istore_n 2, 1) := by decide +kernel
theorem dX12_entriesOf_2 : decode cX12_entriesOf 2 = .ok (.iconst 0, 1) := by decide +kernel
theorem dX12_entriesOf_3 : decode cX12_entriesOf 3 = .ok (.istore_n 3, 1) := by decide +kernel
theorem dX12_entriesOf_4 : decode cX12_entriesOf 4 = .ok (.iload_n 3, 1) := by decide +kernel
theorem dX12_entriesOf_5 : decode cX12_entriesOf 5 = .ok (.aload_n 0, 1) := by decide +kernel
theorem dX12_entriesOf_6 : decode cX12_entriesOf 6 = .ok (.getfield 7, 3) := by decide +kernel
theorem dX12_entriesOf_9 : decode cX12_entriesOf 9 = .ok (.iconst 2, 1) := by decide +kernel
theorem dX12_entriesOf_10 : decode cX12_entriesOf 10 = .ok (.iaload, 1) := by decide +kernel
theorem dX12_entriesOf_11 : decode cX12_entriesOf 11 = .ok (.if_icmp .ge 27, 3) := by decide +kernel
theorem dX12_entriesOf_14 : decode cX12_entriesOf 14 = .ok (.iload_n 2, 1) := by decide +kernel
theorem dX12_entriesOf_15 : decode cX12_entriesOf 15 = .ok (.aload_n 0, 1) := by decide +kernel
theorem dX12_entriesOf_16 : decode cX12_entriesOf 16 = .ok (.iload_n 3, 1) := by decide +kernel
theorem dX12_entriesOf_17 : decode cX12_entriesOf 17 = .ok (.iconst 0, 1) := by decide +kernel
theorem dX12_entriesOf_18 : decode cX12_entriesOf 18 = .ok (.invokevirtual 99, 3) := by decide +kernel
theorem dX12_entriesOf_21 : decode cX12_entriesOf 21 = .ok (.iload_n 1, 1) := by decide +kernel
theorem dX12_entriesOf_22 : decode cX12_entriesOf 22 = .ok (.if_icmp .ne 7, 3) := by decide +kernel
theorem dX12_entriesOf_25 : decode cX12_entriesOf 25 = .ok (.iconst 1, 1) := by decide +kernel
theorem dX12_entriesOf_26 : decode cX12_entriesOf 26 = .ok (.goto 4, 3) := by decide +kernel
theorem dX12_entriesOf_29 : decode cX12_entriesOf 29 = .ok (.iconst 0, 1) := by decide +kernel
theorem dX12_entriesOf_30 : decode cX12_entriesOf 30 = .ok (.iadd, 1) := by decide +kernel
theorem dX12_entriesOf_31 : decode cX12_entriesOf 31 = .ok (.istore_n 2, 1) := by decide +kernel
theorem dX12_entriesOf_32 : decode cX12_entriesOf 32 = .ok (.iinc 3 1, 3) := by decide +kernel
theorem dX12_entriesOf_35 : decode cX12_entriesOf 35 = .ok (.goto (-31), 3) := by decide +kernel
theorem dX12_entriesOf_38 : decode cX12_entriesOf 38 = .ok (.iload_n 2, 1) := by decide +kernel
theorem dX12_entriesOf_39 : decode cX12_entriesOf 39 = .ok (.ireturn, 1) := by decide +kernel
theorem dX12_as_0 : decode cX12_as 0 = .ok (.aload_n 0, 1) := by decide +kernel
theorem dX12_as_1 : decode cX12_as 1 = .ok (.iload_n 1, 1) := by decide +kernel
theorem dX12_as_2 : decode cX12_as 2 = .ok (.invokevirtual 110, 3) := by decide +kernel
theorem dX12_as_5 : decode cX12_as 5 = .ok (.ifCond .eq 12, 3) := by decide +kernel
theorem dX12_as_8 : decode cX12_as 8 = .ok (.iload_n 2, 1) := by decide +kernel
theorem dX12_as_9 : decode cX12_as 9 = .ok (.iconst 0, 1) := by decide +kernel
theorem dX12_as_10 : decode cX12_as 10 = .ok (.iconst 5, 1) := by decide +kernel
theorem dX12_as_11 : decode cX12_as 11 = .ok (.invokestatic 91, 3) := by decide +kernel
theorem dX12_as_14 : decode cX12_as 14 = .ok (.ifCond .ne 9, 3) := by decide +kernel
theorem dX12_as_17 : decode cX12_as 17 = .ok (.aload_n 0, 1) := by decide +kernel
theorem dX12_as_18 : decode cX12_as 18 = .ok (.iconst 1, 1) := by decide +kernel
theorem dX12_as_19 : decode cX12_as 19 = .ok (.invokevirtual 95, 3) := by decide +kernel
theorem dX12_as_22 : decode cX12_as 22 = .ok (.ireturn, 1) := by decide +kernel
theorem dX12_as_23 : decode cX12_as 23 = .ok (.aload_n 0, 1) := by decide +kernel
theorem dX12_as_24 : decode cX12_as 24 = .ok (.iload_n 1, 1) := by decide +kernel
theorem dX12_as_25 : decode cX12_as 25 = .ok (.iconst 0, 1) := by decide +kernel
theorem dX12_as_26 : decode cX12_as 26 = .ok (.invokevirtual 114, 3) := by decide +kernel
theorem dX12_as_29 : decode cX12_as 29 = .ok (.iload_n 2, 1) := by decide +kernel
theorem dX12_as_30 : decode cX12_as 30 = .ok (.invokestatic 117, 3) := by decide +kernel
theorem dX12_as_33 : decode cX12_as 33 = .ok (.ifCond .eq 11, 3) := by decide +kernel
theorem dX12_as_36 : decode cX12_as 36 = .ok (.aload_n 0, 1) := by decide +kernel
theorem dX12_as_37 : decode cX12_as 37 = .ok (.iload_n 1, 1) := by decide +kernel
theorem dX12_as_38 : decode cX12_as 38 = .ok (.invokevirtual 121, 3) := by decide +kernel
theorem dX12_as_41 : decode cX12_as 41 = .ok (.goto 8, 3) := by decide +kernel
theorem dX12_as_44 : decode cX12_as 44 = .ok (.aload_n 0, 1) := by decide +kernel
theorem dX12_as_45 : decode cX12_as 45 = .ok (.iconst 5, 1) := by decide +kernel
theorem dX12_as_46 : decode cX12_as 46 = .ok (.invokevirtual 95, 3) := by decide +kernel
theorem dX12_as_49 : decode cX12_as 49 = .ok (.ireturn, 1) := by decide +kernel
theorem dX12_partIs_0 : decode cX12_partIs 0 = .ok (.aload_n 0, 1) := by decide +kernel
theorem dX12_partIs_1 : decode cX12_partIs 1 = .ok (.iload_n 1, 1) := by decide +kernel
theorem dX12_partIs_2 : decode cX12_partIs 2 = .ok (.invokevirtual 110, 3) := by decide +kernel
theorem dX12_partIs_5 : decode cX12_partIs 5 = .ok (.ifCond .eq 12, 3) := by decide +kernel
theorem dX12_partIs_8 : decode cX12_partIs 8 = .ok (.iload_n 2, 1) := by decide +kernel
theorem dX12_partIs_9 : decode cX12_partIs 9 = .ok (.iconst 0, 1) := by decide +kernel
theorem dX12_partIs_10 : decode cX12_partIs 10 = .ok (.iconst 5, 1) := by decide +kernel
theorem dX12_partIs_11 : decode cX12_partIs 11 = .ok (.invokestatic 91, 3) := by decide +kernel
theorem dX12_partIs_14 : decode cX12_partIs 14 = .ok (.ifCond .ne 9, 3) := by decide +kernel
theorem dX12_partIs_17 : decode cX12_partIs 17 = .ok (.aload_n 0, 1) := by decide +kernel
theorem dX12_partIs_18 : decode cX12_partIs 18 = .ok (.iconst 1, 1) := by decide +kernel
theorem dX12_partIs_19 : decode cX12_partIs 19 = .ok (.invokevirtual 95, 3) := by decide +kernel
theorem dX12_partIs_22 : decode cX12_partIs 22 = .ok (.ireturn, 1) := by decide +kernel
theorem dX12_partIs_23 : decode cX12_partIs 23 = .ok (.iload_n 2, 1) := by decide +kernel
theorem dX12_partIs_24 : decode cX12_partIs 24 = .ok (.iconst 4, 1) := by decide +kernel
theorem dX12_partIs_25 : decode cX12_partIs 25 = .ok (.if_icmp .ge 12, 3) := by decide +kernel
theorem dX12_partIs_28 : decode cX12_partIs 28 = .ok (.aload_n 0, 1) := by decide +kernel
theorem dX12_partIs_29 : decode cX12_partIs 29 = .ok (.iload_n 1, 1) := by decide +kernel
theorem dX12_partIs_30 : decode cX12_partIs 30 = .ok (.iload_n 2, 1) := by decide +kernel
theorem dX12_partIs_31 : decode cX12_partIs 31 = .ok (.invokevirtual 114, 3) := by decide +kernel
theorem dX12_partIs_34 : decode cX12_partIs 34 = .ok (.goto 21, 3) := by decide +kernel
theorem dX12_partIs_37 : decode cX12_partIs 37 = .ok (.iload_n 2, 1) := by decide +kernel
theorem dX12_partIs_38 : decode cX12_partIs 38 = .ok (.iconst 4, 1) := by decide +kernel
theorem dX12_partIs_39 : decode cX12_partIs 39 = .ok (.if_icmp .ne 11, 3) := by decide +kernel
theorem dX12_partIs_42 : decode cX12_partIs 42 = .ok (.aload_n 0, 1) := by decide +kernel
theorem dX12_partIs_43 : decode cX12_partIs 43 = .ok (.iload_n 1, 1) := by decide +kernel
theorem dX12_partIs_44 : decode cX12_partIs 44 = .ok (.invokevirtual 121, 3) := by decide +kernel
theorem dX12_partIs_47 : decode cX12_partIs 47 = .ok (.goto 8, 3) := by decide +kernel
theorem dX12_partIs_50 : decode cX12_partIs 50 = .ok (.aload_n 0, 1) := by decide +kernel
theorem dX12_partIs_51 : decode cX12_partIs 51 = .ok (.iload_n 1, 1) := by decide +kernel
theorem dX12_partIs_52 : decode cX12_partIs 52 = .ok (.invokevirtual 124, 3) := by decide +kernel
theorem dX12_partIs_55 : decode cX12_partIs 55 = .ok (.ireturn, 1) := by decide +kernel
theorem dX12_isOn_0 : decode cX12_isOn 0 = .ok (.iconst 0, 1) := by decide +kernel
theorem dX12_isOn_1 : decode cX12_isOn 1 = .ok (.istore 5, 2) := by decide +kernel
theorem dX12_isOn_3 : decode cX12_isOn 3 = .ok (.iload 5, 2) := by decide +kernel
theorem dX12_isOn_5 : decode cX12_isOn 5 = .ok (.aload_n 0, 1) := by decide +kernel
theorem dX12_isOn_6 : decode cX12_isOn 6 = .ok (.getfield 7, 3) := by decide +kernel
theorem dX12_isOn_9 : decode cX12_isOn 9 = .ok (.iconst 2, 1) := by decide +kernel
theorem dX12_isOn_10 : decode cX12_isOn 10 = .ok (.iaload, 1) := by decide +kernel
theorem dX12_isOn_11 : decode cX12_isOn 11 = .ok (.if_icmp .ge 51, 3) := by decide +kernel
theorem dX12_isOn_14 : decode cX12_isOn 14 = .ok (.iload 5, 2) := by decide +kernel
theorem dX12_isOn_16 : decode cX12_isOn 16 = .ok (.iload 4, 2) := by decide +kernel
theorem dX12_isOn_18 : decode cX12_isOn 18 = .ok (.if_icmp .eq 38, 3) := by decide +kernel
theorem dX12_isOn_21 : decode cX12_isOn 21 = .ok (.aload_n 0, 1) := by decide +kernel
theorem dX12_isOn_22 : decode cX12_isOn 22 = .ok (.iload 5, 2) := by decide +kernel
theorem dX12_isOn_24 : decode cX12_isOn 24 = .ok (.iconst 0, 1) := by decide +kernel
theorem dX12_isOn_25 : decode cX12_isOn 25 = .ok (.invokevirtual 99, 3) := by decide +kernel
theorem dX12_isOn_28 : decode cX12_isOn 28 = .ok (.iload_n 1, 1) := by decide +kernel
theorem dX12_isOn_29 : decode cX12_isOn 29 = .ok (.if_icmp .ne 27, 3) := by decide +kernel
theorem dX12_isOn_32 : decode cX12_isOn 32 = .ok (.aload_n 0, 1) := by decide +kernel
theorem dX12_isOn_33 : decode cX12_isOn 33 = .ok (.iload 5, 2) := by decide +kernel
theorem dX12_isOn_35 : decode cX12_isOn 35 = .ok (.iconst 1, 1) := by decide +kernel
theorem dX12_isOn_36 : decode cX12_isOn 36 = .ok (.invokevirtual 99, 3) := by decide +kernel
theorem dX12_isOn_39 : decode cX12_isOn 39 = .ok (.iload_n 3, 1) := by decide +kernel
theorem dX12_isOn_40 : decode cX12_isOn 40 = .ok (.if_icmp .gt 16, 3) := by decide +kernel
theorem dX12_isOn_43 : decode cX12_isOn 43 = .ok (.aload_n 0, 1) := by decide +kernel
theorem dX12_isOn_44 : decode cX12_isOn 44 = .ok (.iload 5, 2) := by decide +kernel
theorem dX12_isOn_46 : decode cX12_isOn 46 = .ok (.iconst 2, 1) := by decide +kernel
theorem dX12_isOn_47 : decode cX12_isOn 47 = .ok (.invokevirtual 99, 3) := by decide +kernel
theorem dX12_isOn_50 : decode cX12_isOn 50 = .ok (.iload_n 2, 1) := by decide +kernel
theorem dX12_isOn_51 : decode cX12_isOn 51 = .ok (.if_icmp .lt 5, 3) := by decide +kernel
theorem dX12_isOn_54 : decode cX12_isOn 54 = .ok (.iconst 1, 1) := by decide +kernel
theorem dX12_isOn_55 : decode cX12_isOn 55 = .ok (.ireturn, 1) := by decide +kernel
theorem dX12_isOn_56 : decode cX12_isOn 56 = .ok (.iinc 5 1, 3) := by decide +kernel
theorem dX12_isOn_59 : decode cX12_isOn 59 = .ok (.goto (-56), 3) := by decide +kernel
theorem dX12_isOn_62 : decode cX12_isOn 62 = .ok (.iconst 0, 1) := by decide +kernel
theorem dX12_isOn_63 : decode cX12_isOn 63 = .ok (.ireturn, 1) := by decide +kernel
theorem dX12_entry_0 : decode cX12_entry 0 = .ok (.aload_n 0, 1) := by decide +kernel
theorem dX12_entry_1 : decode cX12_entry 1 = .ok (.iload_n 1, 1) := by decide +kernel
theorem dX12_entry_2 : decode cX12_entry 2 = .ok (.invokevirtual 110, 3) := by decide +kernel
theorem dX12_entry_5 : decode cX12_entry 5 = .ok (.ifCond .eq 32, 3) := by decide +kernel
theorem dX12_entry_8 : decode cX12_entry 8 = .ok (.iload_n 2, 1) := by decide +kernel
theorem dX12_entry_9 : decode cX12_entry 9 = .ok (.ifCond .lt 28, 3) := by decide +kernel
theorem dX12_entry_12 : decode cX12_entry 12 = .ok (.iload_n 3, 1) := by decide +kernel
theorem dX12_entry_13 : decode cX12_entry 13 = .ok (.iload_n 2, 1) := by decide +kernel
theorem dX12_entry_14 : decode cX12_entry 14 = .ok (.if_icmp .lt 23, 3) := by decide +kernel
theorem dX12_entry_17 : decode cX12_entry 17 = .ok (.iload_n 3, 1) := by decide +kernel
theorem dX12_entry_18 : decode cX12_entry 18 = .ok (.aload_n 0, 1) := by decide +kernel
theorem dX12_entry_19 : decode cX12_entry 19 = .ok (.getfield 7, 3) := by decide +kernel
theorem dX12_entry_22 : decode cX12_entry 22 = .ok (.iconst 0, 1) := by decide +kernel
theorem dX12_entry_23 : decode cX12_entry 23 = .ok (.iaload, 1) := by decide +kernel
theorem dX12_entry_24 : decode cX12_entry 24 = .ok (.if_icmp .ge 13, 3) := by decide +kernel
theorem dX12_entry_27 : decode cX12_entry 27 = .ok (.iload 4, 2) := by decide +kernel
theorem dX12_entry_29 : decode cX12_entry 29 = .ok (.iconst 0, 1) := by decide +kernel
theorem dX12_entry_30 : decode cX12_entry 30 = .ok (.iconst 3, 1) := by decide +kernel
theorem dX12_entry_31 : decode cX12_entry 31 = .ok (.invokestatic 91, 3) := by decide +kernel
theorem dX12_entry_34 : decode cX12_entry 34 = .ok (.ifCond .ne 9, 3) := by decide +kernel
theorem dX12_entry_37 : decode cX12_entry 37 = .ok (.aload_n 0, 1) := by decide +kernel
theorem dX12_entry_38 : decode cX12_entry 38 = .ok (.iconst 1, 1) := by decide +kernel
theorem dX12_entry_39 : decode cX12_entry 39 = .ok (.invokevirtual 95, 3) := by decide +kernel
theorem dX12_entry_42 : decode cX12_entry 42 = .ok (.ireturn, 1) := by decide +kernel
theorem dX12_entry_43 : decode cX12_entry 43 = .ok (.aload_n 0, 1) := by decide +kernel
theorem dX12_entry_44 : decode cX12_entry 44 = .ok (.iload_n 1, 1) := by decide +kernel
theorem dX12_entry_45 : decode cX12_entry 45 = .ok (.iload_n 2, 1) := by decide +kernel
theorem dX12_entry_46 : decode cX12_entry 46 = .ok (.iload_n 3, 1) := by decide +kernel
theorem dX12_entry_47 : decode cX12_entry 47 = .ok (.iconst (-1), 1) := by decide +kernel
theorem dX12_entry_48 : decode cX12_entry 48 = .ok (.invokevirtual 127, 3) := by decide +kernel
theorem dX12_entry_51 : decode cX12_entry 51 = .ok (.ifCond .eq 9, 3) := by decide +kernel
theorem dX12_entry_54 : decode cX12_entry 54 = .ok (.aload_n 0, 1) := by decide +kernel
theorem dX12_entry_55 : decode cX12_entry 55 = .ok (.iconst 3, 1) := by decide +kernel
theorem dX12_entry_56 : decode cX12_entry 56 = .ok (.invokevirtual 95, 3) := by decide +kernel
theorem dX12_entry_59 : decode cX12_entry 59 = .ok (.ireturn, 1) := by decide +kernel
theorem dX12_entry_60 : decode cX12_entry 60 = .ok (.aload_n 0, 1) := by decide +kernel
theorem dX12_entry_61 : decode cX12_entry 61 = .ok (.getfield 7, 3) := by decide +kernel
theorem dX12_entry_64 : decode cX12_entry 64 = .ok (.iconst 2, 1) := by decide +kernel
theorem dX12_entry_65 : decode cX12_entry 65 = .ok (.iaload, 1) := by decide +kernel
theorem dX12_entry_66 : decode cX12_entry 66 = .ok (.bipush 40, 2) := by decide +kernel
theorem dX12_entry_68 : decode cX12_entry 68 = .ok (.if_icmp .ne 9, 3) := by decide +kernel
theorem dX12_entry_71 : decode cX12_entry 71 = .ok (.aload_n 0, 1) := by decide +kernel
theorem dX12_entry_72 : decode cX12_entry 72 = .ok (.iconst 4, 1) := by decide +kernel
theorem dX12_entry_73 : decode cX12_entry 73 = .ok (.invokevirtual 95, 3) := by decide +kernel
theorem dX12_entry_76 : decode cX12_entry 76 = .ok (.ireturn, 1) := by decide +kernel
theorem dX12_entry_77 : decode cX12_entry 77 = .ok (.bipush 60, 2) := by decide +kernel
theorem dX12_entry_79 : decode cX12_entry 79 = .ok (.iconst 4, 1) := by decide +kernel
theorem dX12_entry_80 : decode cX12_entry 80 = .ok (.aload_n 0, 1) := by decide +kernel
theorem dX12_entry_81 : decode cX12_entry 81 = .ok (.getfield 7, 3) := by decide +kernel
theorem dX12_entry_84 : decode cX12_entry 84 = .ok (.iconst 2, 1) := by decide +kernel
theorem dX12_entry_85 : decode cX12_entry 85 = .ok (.iaload, 1) := by decide +kernel
theorem dX12_entry_86 : decode cX12_entry 86 = .ok (.imul, 1) := by decide +kernel
theorem dX12_entry_87 : decode cX12_entry 87 = .ok (.iadd, 1) := by decide +kernel
theorem dX12_entry_88 : decode cX12_entry 88 = .ok (.istore 5, 2) := by decide +kernel
theorem dX12_entry_90 : decode cX12_entry 90 = .ok (.aload_n 0, 1) := by decide +kernel
theorem dX12_entry_91 : decode cX12_entry 91 = .ok (.getfield 7, 3) := by decide +kernel
theorem dX12_entry_94 : decode cX12_entry 94 = .ok (.iload 5, 2) := by decide +kernel
theorem dX12_entry_96 : decode cX12_entry 96 = .ok (.iload_n 1, 1) := by decide +kernel
theorem dX12_entry_97 : decode cX12_entry 97 = .ok (.iastore, 1) := by decide +kernel
theorem dX12_entry_98 : decode cX12_entry 98 = .ok (.aload_n 0, 1) := by decide +kernel
theorem dX12_entry_99 : decode cX12_entry 99 = .ok (.getfield 7, 3) := by decide +kernel
theorem dX12_entry_102 : decode cX12_entry 102 = .ok (.iload 5, 2) := by decide +kernel
theorem dX12_entry_104 : decode cX12_entry 104 = .ok (.iconst 1, 1) := by decide +kernel
theorem dX12_entry_105 : decode cX12_entry 105 = .ok (.iadd, 1) := by decide +kernel
theorem dX12_entry_106 : decode cX12_entry 106 = .ok (.iload_n 2, 1) := by decide +kernel
theorem dX12_entry_107 : decode cX12_entry 107 = .ok (.iastore, 1) := by decide +kernel
theorem dX12_entry_108 : decode cX12_entry 108 = .ok (.aload_n 0, 1) := by decide +kernel
theorem dX12_entry_109 : decode cX12_entry 109 = .ok (.getfield 7, 3) := by decide +kernel
theorem dX12_entry_112 : decode cX12_entry 112 = .ok (.iload 5, 2) := by decide +kernel
theorem dX12_entry_114 : decode cX12_entry 114 = .ok (.iconst 2, 1) := by decide +kernel
theorem dX12_entry_115 : decode cX12_entry 115 = .ok (.iadd, 1) := by decide +kernel
theorem dX12_entry_116 : decode cX12_entry 116 = .ok (.iload_n 3, 1) := by decide +kernel
theorem dX12_entry_117 : decode cX12_entry 117 = .ok (.iastore, 1) := by decide +kernel
theorem dX12_entry_118 : decode cX12_entry 118 = .ok (.aload_n 0, 1) := by decide +kernel
theorem dX12_entry_119 : decode cX12_entry 119 = .ok (.getfield 7, 3) := by decide +kernel
theorem dX12_entry_122 : decode cX12_entry 122 = .ok (.iload 5, 2) := by decide +kernel
theorem dX12_entry_124 : decode cX12_entry 124 = .ok (.iconst 3, 1) := by decide +kernel
theorem dX12_entry_125 : decode cX12_entry 125 = .ok (.iadd, 1) := by decide +kernel
theorem dX12_entry_126 : decode cX12_entry 126 = .ok (.iload 4, 2) := by decide +kernel
theorem dX12_entry_128 : decode cX12_entry 128 = .ok (.iastore, 1) := by decide +kernel
theorem dX12_entry_129 : decode cX12_entry 129 = .ok (.aload_n 0, 1) := by decide +kernel
theorem dX12_entry_130 : decode cX12_entry 130 = .ok (.getfield 7, 3) := by decide +kernel
theorem dX12_entry_133 : decode cX12_entry 133 = .ok (.iconst 2, 1) := by decide +kernel
theorem dX12_entry_134 : decode cX12_entry 134 = .ok (.dup2, 1) := by decide +kernel
theorem dX12_entry_135 : decode cX12_entry 135 = .ok (.iaload, 1) := by decide +kernel
theorem dX12_entry_136 : decode cX12_entry 136 = .ok (.iconst 1, 1) := by decide +kernel
theorem dX12_entry_137 : decode cX12_entry 137 = .ok (.iadd, 1) := by decide +kernel
theorem dX12_entry_138 : decode cX12_entry 138 = .ok (.iastore, 1) := by decide +kernel
theorem dX12_entry_139 : decode cX12_entry 139 = .ok (.aload_n 0, 1) := by decide +kernel
theorem dX12_entry_140 : decode cX12_entry 140 = .ok (.iconst 0, 1) := by decide +kernel
theorem dX12_entry_141 : decode cX12_entry 141 = .ok (.putfield 106, 3) := by decide +kernel
theorem dX12_entry_144 : decode cX12_entry 144 = .ok (.aload_n 0, 1) := by decide +kernel
theorem dX12_entry_145 : decode cX12_entry 145 = .ok (.getfield 7, 3) := by decide +kernel
theorem dX12_entry_148 : decode cX12_entry 148 = .ok (.iconst 2, 1) := by decide +kernel
theorem dX12_entry_149 : decode cX12_entry 149 = .ok (.iaload, 1) := by decide +kernel
theorem dX12_entry_150 : decode cX12_entry 150 = .ok (.iconst 1, 1) := by decide +kernel
theorem dX12_entry_151 : decode cX12_entry 151 = .ok (.isub, 1) := by decide +kernel
theorem dX12_entry_152 : decode cX12_entry 152 = .ok (.ireturn, 1) := by decide +kernel
theorem dX12_entryIs_0 : decode cX12_entryIs 0 = .ok (.aload_n 0, 1) := by decide +kernel
theorem dX12_entryIs_1 : decode cX12_entryIs 1 = .ok (.iload_n 1, 1) := by decide +kernel
theorem dX12_entryIs_2 : decode cX12_entryIs 2 = .ok (.invokevirtual 131, 3) := by decide +kernel
theorem dX12_entryIs_5 : decode cX12_entryIs 5 = .ok (.ifCond .eq 21, 3) := by decide +kernel
theorem dX12_entryIs_8 : decode cX12_entryIs 8 = .ok (.iload_n 2, 1) := by decide +kernel
theorem dX12_entryIs_9 : decode cX12_entryIs 9 = .ok (.iconst 0, 1) := by decide +kernel
theorem dX12_entryIs_10 : decode cX12_entryIs 10 = .ok (.iconst 3, 1) := by decide +kernel
theorem dX12_entryIs_11 : decode cX12_entryIs 11 = .ok (.invokestatic 91, 3) := by decide +kernel
theorem dX12_entryIs_14 : decode cX12_entryIs 14 = .ok (.ifCond .eq 12, 3) := by decide +kernel
theorem dX12_entryIs_17 : decode cX12_entryIs 17 = .ok (.aload_n 0, 1) := by decide +kernel
theorem dX12_entryIs_18 : decode cX12_entryIs 18 = .ok (.iload_n 1, 1) := by decide +kernel
theorem dX12_entryIs_19 : decode cX12_entryIs 19 = .ok (.iload_n 2, 1) := by decide +kernel
theorem dX12_entryIs_20 : decode cX12_entryIs 20 = .ok (.invokevirtual 99, 3) := by decide +kernel
theorem dX12_entryIs_23 : decode cX12_entryIs 23 = .ok (.goto 8, 3) := by decide +kernel
theorem dX12_entryIs_26 : decode cX12_entryIs 26 = .ok (.aload_n 0, 1) := by decide +kernel
theorem dX12_entryIs_27 : decode cX12_entryIs 27 = .ok (.iconst 1, 1) := by decide +kernel
theorem dX12_entryIs_28 : decode cX12_entryIs 28 = .ok (.invokevirtual 95, 3) := by decide +kernel
theorem dX12_entryIs_31 : decode cX12_entryIs 31 = .ok (.ireturn, 1) := by decide +kernel
theorem dX12_whyNot_0 : decode cX12_whyNot 0 = .ok (.aload_n 0, 1) := by decide +kernel
theorem dX12_whyNot_1 : decode cX12_whyNot 1 = .ok (.iload_n 1, 1) := by decide +kernel
theorem dX12_whyNot_2 : decode cX12_whyNot 2 = .ok (.invokevirtual 131, 3) := by decide +kernel
theorem dX12_whyNot_5 : decode cX12_whyNot 5 = .ok (.ifCond .ne 5, 3) := by decide +kernel
theorem dX12_whyNot_8 : decode cX12_whyNot 8 = .ok (.iconst 1, 1) := by decide +kernel
theorem dX12_whyNot_9 : decode cX12_whyNot 9 = .ok (.ireturn, 1) := by decide +kernel
theorem dX12_whyNot_10 : decode cX12_whyNot 10 = .ok (.aload_n 0, 1) := by decide +kernel
theorem dX12_whyNot_11 : decode cX12_whyNot 11 = .ok (.iload_n 1, 1) := by decide +kernel
theorem dX12_whyNot_12 : decode cX12_whyNot 12 = .ok (.iconst 1, 1) := by decide +kernel
theorem dX12_whyNot_13 : decode cX12_whyNot 13 = .ok (.invokevirtual 99, 3) := by decide +kernel
theorem dX12_whyNot_16 : decode cX12_whyNot 16 = .ok (.i2l, 1) := by decide +kernel
theorem dX12_whyNot_17 : decode cX12_whyNot 17 = .ok (.iload_n 2, 1) := by decide +kernel
theorem dX12_whyNot_18 : decode cX12_whyNot 18 = .ok (.i2l, 1) := by decide +kernel
theorem dX12_whyNot_19 : decode cX12_whyNot 19 = .ok (.ladd, 1) := by decide +kernel
theorem dX12_whyNot_20 : decode cX12_whyNot 20 = .ok (.lstore_n 3, 1) := by decide +kernel
theorem dX12_whyNot_21 : decode cX12_whyNot 21 = .ok (.aload_n 0, 1) := by decide +kernel
theorem dX12_whyNot_22 : decode cX12_whyNot 22 = .ok (.iload_n 1, 1) := by decide +kernel
theorem dX12_whyNot_23 : decode cX12_whyNot 23 = .ok (.iconst 2, 1) := by decide +kernel
theorem dX12_whyNot_24 : decode cX12_whyNot 24 = .ok (.invokevirtual 99, 3) := by decide +kernel
theorem dX12_whyNot_27 : decode cX12_whyNot 27 = .ok (.i2l, 1) := by decide +kernel
theorem dX12_whyNot_28 : decode cX12_whyNot 28 = .ok (.iload_n 2, 1) := by decide +kernel
theorem dX12_whyNot_29 : decode cX12_whyNot 29 = .ok (.i2l, 1) := by decide +kernel
theorem dX12_whyNot_30 : decode cX12_whyNot 30 = .ok (.ladd, 1) := by decide +kernel
theorem dX12_whyNot_31 : decode cX12_whyNot 31 = .ok (.lstore 5, 2) := by decide +kernel
theorem dX12_whyNot_33 : decode cX12_whyNot 33 = .ok (.lload_n 3, 1) := by decide +kernel
theorem dX12_whyNot_34 : decode cX12_whyNot 34 = .ok (.lconst 0, 1) := by decide +kernel
theorem dX12_whyNot_35 : decode cX12_whyNot 35 = .ok (.lcmp, 1) := by decide +kernel
theorem dX12_whyNot_36 : decode cX12_whyNot 36 = .ok (.ifCond .lt 16, 3) := by decide +kernel
theorem dX12_whyNot_39 : decode cX12_whyNot 39 = .ok (.lload 5, 2) := by decide +kernel
theorem dX12_whyNot_41 : decode cX12_whyNot 41 = .ok (.aload_n 0, 1) := by decide +kernel
theorem dX12_whyNot_42 : decode cX12_whyNot 42 = .ok (.getfield 7, 3) := by decide +kernel
theorem dX12_whyNot_45 : decode cX12_whyNot 45 = .ok (.iconst 0, 1) := by decide +kernel
theorem dX12_whyNot_46 : decode cX12_whyNot 46 = .ok (.iaload, 1) := by decide +kernel
theorem dX12_whyNot_47 : decode cX12_whyNot 47 = .ok (.i2l, 1) := by decide +kernel
theorem dX12_whyNot_48 : decode cX12_whyNot 48 = .ok (.lcmp, 1) := by decide +kernel
theorem dX12_whyNot_49 : decode cX12_whyNot 49 = .ok (.ifCond .lt 5, 3) := by decide +kernel
theorem dX12_whyNot_52 : decode cX12_whyNot 52 = .ok (.iconst 1, 1) := by decide +kernel
theorem dX12_whyNot_53 : decode cX12_whyNot 53 = .ok (.ireturn, 1) := by decide +kernel
theorem dX12_whyNot_54 : decode cX12_whyNot 54 = .ok (.aload_n 0, 1) := by decide +kernel
theorem dX12_whyNot_55 : decode cX12_whyNot 55 = .ok (.aload_n 0, 1) := by decide +kernel
theorem dX12_whyNot_56 : decode cX12_whyNot 56 = .ok (.iload_n 1, 1) := by decide +kernel
theorem dX12_whyNot_57 : decode cX12_whyNot 57 = .ok (.iconst 0, 1) := by decide +kernel
theorem dX12_whyNot_58 : decode cX12_whyNot 58 = .ok (.invokevirtual 99, 3) := by decide +kernel
theorem dX12_whyNot_61 : decode cX12_whyNot 61 = .ok (.lload_n 3, 1) := by decide +kernel
theorem dX12_whyNot_62 : decode cX12_whyNot 62 = .ok (.l2i, 1) := by decide +kernel
theorem dX12_whyNot_63 : decode cX12_whyNot 63 = .ok (.lload 5, 2) := by decide +kernel
theorem dX12_whyNot_65 : decode cX12_whyNot 65 = .ok (.l2i, 1) := by decide +kernel
theorem dX12_whyNot_66 : decode cX12_whyNot 66 = .ok (.iload_n 1, 1) := by decide +kernel
theorem dX12_whyNot_67 : decode cX12_whyNot 67 = .ok (.invokevirtual 127, 3) := by decide +kernel
theorem dX12_whyNot_70 : decode cX12_whyNot 70 = .ok (.ifCond .eq 7, 3) := by decide +kernel
theorem dX12_whyNot_73 : decode cX12_whyNot 73 = .ok (.iconst 3, 1) := by decide +kernel
theorem dX12_whyNot_74 : decode cX12_whyNot 74 = .ok (.goto 4, 3) := by decide +kernel
theorem dX12_whyNot_77 : decode cX12_whyNot 77 = .ok (.iconst 0, 1) := by decide +kernel
theorem dX12_whyNot_78 : decode cX12_whyNot 78 = .ok (.ireturn, 1) := by decide +kernel
theorem dX12_moves_0 : decode cX12_moves 0 = .ok (.aload_n 0, 1) := by decide +kernel
theorem dX12_moves_1 : decode cX12_moves 1 = .ok (.getfield 7, 3) := by decide +kernel
theorem dX12_moves_4 : decode cX12_moves 4 = .ok (.bipush 60, 2) := by decide +kernel
theorem dX12_moves_6 : decode cX12_moves 6 = .ok (.iconst 4, 1) := by decide +kernel
theorem dX12_moves_7 : decode cX12_moves 7 = .ok (.iload_n 1, 1) := by decide +kernel
theorem dX12_moves_8 : decode cX12_moves 8 = .ok (.imul, 1) := by decide +kernel
theorem dX12_moves_9 : decode cX12_moves 9 = .ok (.iadd, 1) := by decide +kernel
theorem dX12_moves_10 : decode cX12_moves 10 = .ok (.iconst 1, 1) := by decide +kernel
theorem dX12_moves_11 : decode cX12_moves 11 = .ok (.iadd, 1) := by decide +kernel
theorem dX12_moves_12 : decode cX12_moves 12 = .ok (.dup2, 1) := by decide +kernel
theorem dX12_moves_13 : decode cX12_moves 13 = .ok (.iaload, 1) := by decide +kernel
theorem dX12_moves_14 : decode cX12_moves 14 = .ok (.iload_n 2, 1) := by decide +kernel
theorem dX12_moves_15 : decode cX12_moves 15 = .ok (.iadd, 1) := by decide +kernel
theorem dX12_moves_16 : decode cX12_moves 16 = .ok (.iastore, 1) := by decide +kernel
theorem dX12_moves_17 : decode cX12_moves 17 = .ok (.aload_n 0, 1) := by decide +kernel
theorem dX12_moves_18 : decode cX12_moves 18 = .ok (.getfield 7, 3) := by decide +kernel
theorem dX12_moves_21 : decode cX12_moves 21 = .ok (.bipush 60, 2) := by decide +kernel
theorem dX12_moves_23 : decode cX12_moves 23 = .ok (.iconst 4, 1) := by decide +kernel
theorem dX12_moves_24 : decode cX12_moves 24 = .ok (.iload_n 1, 1) := by decide +kernel
theorem dX12_moves_25 : decode cX12_moves 25 = .ok (.imul, 1) := by decide +kernel
theorem dX12_moves_26 : decode cX12_moves 26 = .ok (.iadd, 1) := by decide +kernel
theorem dX12_moves_27 : decode cX12_moves 27 = .ok (.iconst 2, 1) := by decide +kernel
theorem dX12_moves_28 : decode cX12_moves 28 = .ok (.iadd, 1) := by decide +kernel
theorem dX12_moves_29 : decode cX12_moves 29 = .ok (.dup2, 1) := by decide +kernel
theorem dX12_moves_30 : decode cX12_moves 30 = .ok (.iaload, 1) := by decide +kernel
theorem dX12_moves_31 : decode cX12_moves 31 = .ok (.iload_n 2, 1) := by decide +kernel
theorem dX12_moves_32 : decode cX12_moves 32 = .ok (.iadd, 1) := by decide +kernel
theorem dX12_moves_33 : decode cX12_moves 33 = .ok (.iastore, 1) := by decide +kernel
theorem dX12_moves_34 : decode cX12_moves 34 = .ok (.aload_n 0, 1) := by decide +kernel
theorem dX12_moves_35 : decode cX12_moves 35 = .ok (.iconst 0, 1) := by decide +kernel
theorem dX12_moves_36 : decode cX12_moves 36 = .ok (.putfield 106, 3) := by decide +kernel
theorem dX12_moves_39 : decode cX12_moves 39 = .ok (.return_, 1) := by decide +kernel
theorem dX12_shift_0 : decode cX12_shift 0 = .ok (.aload_n 0, 1) := by decide +kernel
theorem dX12_shift_1 : decode cX12_shift 1 = .ok (.iload_n 1, 1) := by decide +kernel
theorem dX12_shift_2 : decode cX12_shift 2 = .ok (.iload_n 2, 1) := by decide +kernel
theorem dX12_shift_3 : decode cX12_shift 3 = .ok (.invokevirtual 134, 3) := by decide +kernel
theorem dX12_shift_6 : decode cX12_shift 6 = .ok (.istore_n 3, 1) := by decide +kernel
theorem dX12_shift_7 : decode cX12_shift 7 = .ok (.iload_n 3, 1) := by decide +kernel
theorem dX12_shift_8 : decode cX12_shift 8 = .ok (.ifCond .eq 9, 3) := by decide +kernel
theorem dX12_shift_11 : decode cX12_shift 11 = .ok (.aload_n 0, 1) := by decide +kernel
theorem dX12_shift_12 : decode cX12_shift 12 = .ok (.iload_n 3, 1) := by decide +kernel
theorem dX12_shift_13 : decode cX12_shift 13 = .ok (.invokevirtual 95, 3) := by decide +kernel
theorem dX12_shift_16 : decode cX12_shift 16 = .ok (.ireturn, 1) := by decide +kernel
theorem dX12_shift_17 : decode cX12_shift 17 = .ok (.aload_n 0, 1) := by decide +kernel
theorem dX12_shift_18 : decode cX12_shift 18 = .ok (.iload_n 1, 1) := by decide +kernel
theorem dX12_shift_19 : decode cX12_shift 19 = .ok (.iload_n 2, 1) := by decide +kernel
theorem dX12_shift_20 : decode cX12_shift 20 = .ok (.invokevirtual 137, 3) := by decide +kernel
theorem dX12_shift_23 : decode cX12_shift 23 = .ok (.aload_n 0, 1) := by decide +kernel
theorem dX12_shift_24 : decode cX12_shift 24 = .ok (.iload_n 1, 1) := by decide +kernel
theorem dX12_shift_25 : decode cX12_shift 25 = .ok (.iconst 1, 1) := by decide +kernel
theorem dX12_shift_26 : decode cX12_shift 26 = .ok (.invokevirtual 99, 3) := by decide +kernel
theorem dX12_shift_29 : decode cX12_shift 29 = .ok (.ireturn, 1) := by decide +kernel
theorem dX12_manyOn_0 : decode cX12_manyOn 0 = .ok (.iconst 0, 1) := by decide +kernel
theorem dX12_manyOn_1 : decode cX12_manyOn 1 = .ok (.istore_n 3, 1) := by decide +kernel
theorem dX12_manyOn_2 : decode cX12_manyOn 2 = .ok (.iconst 0, 1) := by decide +kernel
theorem dX12_manyOn_3 : decode cX12_manyOn 3 = .ok (.istore 4, 2) := by decide +kernel
theorem dX12_manyOn_5 : decode cX12_manyOn 5 = .ok (.iload 4, 2) := by decide +kernel
theorem dX12_manyOn_7 : decode cX12_manyOn 7 = .ok (.aload_n 0, 1) := by decide +kernel
theorem dX12_manyOn_8 : decode cX12_manyOn 8 = .ok (.getfield 7, 3) := by decide +kernel
theorem dX12_manyOn_11 : decode cX12_manyOn 11 = .ok (.iconst 1, 1) := by decide +kernel
theorem dX12_manyOn_12 : decode cX12_manyOn 12 = .ok (.iaload, 1) := by decide +kernel
theorem dX12_manyOn_13 : decode cX12_manyOn 13 = .ok (.if_icmp .ge 44, 3) := by decide +kernel
theorem dX12_manyOn_16 : decode cX12_manyOn 16 = .ok (.iload_n 3, 1) := by decide +kernel
theorem dX12_manyOn_17 : decode cX12_manyOn 17 = .ok (.iload_n 2, 1) := by decide +kernel
theorem dX12_manyOn_18 : decode cX12_manyOn 18 = .ok (.ifCond .ne 14, 3) := by decide +kernel
theorem dX12_manyOn_21 : decode cX12_manyOn 21 = .ok (.aload_n 0, 1) := by decide +kernel
theorem dX12_manyOn_22 : decode cX12_manyOn 22 = .ok (.iload 4, 2) := by decide +kernel
theorem dX12_manyOn_24 : decode cX12_manyOn 24 = .ok (.iconst 0, 1) := by decide +kernel
theorem dX12_manyOn_25 : decode cX12_manyOn 25 = .ok (.invokevirtual 114, 3) := by decide +kernel
theorem dX12_manyOn_28 : decode cX12_manyOn 28 = .ok (.iconst 3, 1) := by decide +kernel
theorem dX12_manyOn_29 : decode cX12_manyOn 29 = .ok (.if_icmp .eq 19, 3) := by decide +kernel
theorem dX12_manyOn_32 : decode cX12_manyOn 32 = .ok (.aload_n 0, 1) := by decide +kernel
theorem dX12_manyOn_33 : decode cX12_manyOn 33 = .ok (.iload 4, 2) := by decide +kernel
theorem dX12_manyOn_35 : decode cX12_manyOn 35 = .ok (.iload_n 1, 1) := by decide +kernel
theorem dX12_manyOn_36 : decode cX12_manyOn 36 = .ok (.iload_n 1, 1) := by decide +kernel
theorem dX12_manyOn_37 : decode cX12_manyOn 37 = .ok (.iconst (-1), 1) := by decide +kernel
theorem dX12_manyOn_38 : decode cX12_manyOn 38 = .ok (.invokevirtual 127, 3) := by decide +kernel
theorem dX12_manyOn_41 : decode cX12_manyOn 41 = .ok (.ifCond .eq 7, 3) := by decide +kernel
theorem dX12_manyOn_44 : decode cX12_manyOn 44 = .ok (.iconst 1, 1) := by decide +kernel
theorem dX12_manyOn_45 : decode cX12_manyOn 45 = .ok (.goto 4, 3) := by decide +kernel
theorem dX12_manyOn_48 : decode cX12_manyOn 48 = .ok (.iconst 0, 1) := by decide +kernel
theorem dX12_manyOn_49 : decode cX12_manyOn 49 = .ok (.iadd, 1) := by decide +kernel
theorem dX12_manyOn_50 : decode cX12_manyOn 50 = .ok (.istore_n 3, 1) := by decide +kernel
theorem dX12_manyOn_51 : decode cX12_manyOn 51 = .ok (.iinc 4 1, 3) := by decide +kernel
theorem dX12_manyOn_54 : decode cX12_manyOn 54 = .ok (.goto (-49), 3) := by decide +kernel
theorem dX12_manyOn_57 : decode cX12_manyOn 57 = .ok (.iload_n 3, 1) := by decide +kernel
theorem dX12_manyOn_58 : decode cX12_manyOn 58 = .ok (.ireturn, 1) := by decide +kernel
theorem dX12_on_0 : decode cX12_on 0 = .ok (.iload_n 1, 1) := by decide +kernel
theorem dX12_on_1 : decode cX12_on 1 = .ok (.iconst 0, 1) := by decide +kernel
theorem dX12_on_2 : decode cX12_on 2 = .ok (.aload_n 0, 1) := by decide +kernel
theorem dX12_on_3 : decode cX12_on 3 = .ok (.getfield 7, 3) := by decide +kernel
theorem dX12_on_6 : decode cX12_on 6 = .ok (.iconst 0, 1) := by decide +kernel
theorem dX12_on_7 : decode cX12_on 7 = .ok (.iaload, 1) := by decide +kernel
theorem dX12_on_8 : decode cX12_on 8 = .ok (.iconst 1, 1) := by decide +kernel
theorem dX12_on_9 : decode cX12_on 9 = .ok (.isub, 1) := by decide +kernel
theorem dX12_on_10 : decode cX12_on 10 = .ok (.invokestatic 91, 3) := by decide +kernel
theorem dX12_on_13 : decode cX12_on 13 = .ok (.ifCond .eq 12, 3) := by decide +kernel
theorem dX12_on_16 : decode cX12_on 16 = .ok (.aload_n 0, 1) := by decide +kernel
theorem dX12_on_17 : decode cX12_on 17 = .ok (.iload_n 1, 1) := by decide +kernel
theorem dX12_on_18 : decode cX12_on 18 = .ok (.iconst 1, 1) := by decide +kernel
theorem dX12_on_19 : decode cX12_on 19 = .ok (.invokevirtual 141, 3) := by decide +kernel
theorem dX12_on_22 : decode cX12_on 22 = .ok (.goto 8, 3) := by decide +kernel
theorem dX12_on_25 : decode cX12_on 25 = .ok (.aload_n 0, 1) := by decide +kernel
theorem dX12_on_26 : decode cX12_on 26 = .ok (.iconst 1, 1) := by decide +kernel
theorem dX12_on_27 : decode cX12_on 27 = .ok (.invokevirtual 95, 3) := by decide +kernel
theorem dX12_on_30 : decode cX12_on 30 = .ok (.ireturn, 1) := by decide +kernel
theorem dX12_player_0 : decode cX12_player 0 = .ok (.iload_n 1, 1) := by decide +kernel
theorem dX12_player_1 : decode cX12_player 1 = .ok (.iconst 0, 1) := by decide +kernel
theorem dX12_player_2 : decode cX12_player 2 = .ok (.bipush 9, 2) := by decide +kernel
theorem dX12_player_4 : decode cX12_player 4 = .ok (.invokestatic 91, 3) := by decide +kernel
theorem dX12_player_7 : decode cX12_player 7 = .ok (.ifCond .eq 13, 3) := by decide +kernel
theorem dX12_player_10 : decode cX12_player 10 = .ok (.iload_n 2, 1) := by decide +kernel
theorem dX12_player_11 : decode cX12_player 11 = .ok (.iconst 0, 1) := by decide +kernel
theorem dX12_player_12 : decode cX12_player 12 = .ok (.bipush 99, 2) := by decide +kernel
theorem dX12_player_14 : decode cX12_player 14 = .ok (.invokestatic 91, 3) := by decide +kernel
theorem dX12_player_17 : decode cX12_player 17 = .ok (.ifCond .ne 9, 3) := by decide +kernel
theorem dX12_player_20 : decode cX12_player 20 = .ok (.aload_n 0, 1) := by decide +kernel
theorem dX12_player_21 : decode cX12_player 21 = .ok (.iconst 1, 1) := by decide +kernel
theorem dX12_player_22 : decode cX12_player 22 = .ok (.invokevirtual 95, 3) := by decide +kernel
theorem dX12_player_25 : decode cX12_player 25 = .ok (.ireturn, 1) := by decide +kernel
theorem dX12_player_26 : decode cX12_player 26 = .ok (.aload_n 0, 1) := by decide +kernel
theorem dX12_player_27 : decode cX12_player 27 = .ok (.getfield 7, 3) := by decide +kernel
theorem dX12_player_30 : decode cX12_player 30 = .ok (.iconst 3, 1) := by decide +kernel
theorem dX12_player_31 : decode cX12_player 31 = .ok (.iaload, 1) := by decide +kernel
theorem dX12_player_32 : decode cX12_player 32 = .ok (.bipush 6, 2) := by decide +kernel
theorem dX12_player_34 : decode cX12_player 34 = .ok (.if_icmp .ne 9, 3) := by decide +kernel
theorem dX12_player_37 : decode cX12_player 37 = .ok (.aload_n 0, 1) := by decide +kernel
theorem dX12_player_38 : decode cX12_player 38 = .ok (.iconst 4, 1) := by decide +kernel
theorem dX12_player_39 : decode cX12_player 39 = .ok (.invokevirtual 95, 3) := by decide +kernel
theorem dX12_player_42 : decode cX12_player 42 = .ok (.ireturn, 1) := by decide +kernel
theorem dX12_player_43 : decode cX12_player 43 = .ok (.sipush 220, 3) := by decide +kernel
theorem dX12_player_46 : decode cX12_player 46 = .ok (.iconst 3, 1) := by decide +kernel
theorem dX12_player_47 : decode cX12_player 47 = .ok (.aload_n 0, 1) := by decide +kernel
theorem dX12_player_48 : decode cX12_player 48 = .ok (.getfield 7, 3) := by decide +kernel
theorem dX12_player_51 : decode cX12_player 51 = .ok (.iconst 3, 1) := by decide +kernel
theorem dX12_player_52 : decode cX12_player 52 = .ok (.iaload, 1) := by decide +kernel
theorem dX12_player_53 : decode cX12_player 53 = .ok (.imul, 1) := by decide +kernel
theorem dX12_player_54 : decode cX12_player 54 = .ok (.iadd, 1) := by decide +kernel
theorem dX12_player_55 : decode cX12_player 55 = .ok (.istore_n 3, 1) := by decide +kernel
theorem dX12_player_56 : decode cX12_player 56 = .ok (.aload_n 0, 1) := by decide +kernel
theorem dX12_player_57 : decode cX12_player 57 = .ok (.getfield 7, 3) := by decide +kernel
theorem dX12_player_60 : decode cX12_player 60 = .ok (.iload_n 3, 1) := by decide +kernel
theorem dX12_player_61 : decode cX12_player 61 = .ok (.iload_n 1, 1) := by decide +kernel
theorem dX12_player_62 : decode cX12_player 62 = .ok (.iastore, 1) := by decide +kernel
theorem dX12_player_63 : decode cX12_player 63 = .ok (.aload_n 0, 1) := by decide +kernel
theorem dX12_player_64 : decode cX12_player 64 = .ok (.getfield 7, 3) := by decide +kernel
theorem dX12_player_67 : decode cX12_player 67 = .ok (.iload_n 3, 1) := by decide +kernel
theorem dX12_player_68 : decode cX12_player 68 = .ok (.iconst 1, 1) := by decide +kernel
theorem dX12_player_69 : decode cX12_player 69 = .ok (.iadd, 1) := by decide +kernel
theorem dX12_player_70 : decode cX12_player 70 = .ok (.iload_n 2, 1) := by decide +kernel
theorem dX12_player_71 : decode cX12_player 71 = .ok (.iastore, 1) := by decide +kernel
theorem dX12_player_72 : decode cX12_player 72 = .ok (.aload_n 0, 1) := by decide +kernel
theorem dX12_player_73 : decode cX12_player 73 = .ok (.getfield 7, 3) := by decide +kernel
theorem dX12_player_76 : decode cX12_player 76 = .ok (.iload_n 3, 1) := by decide +kernel
theorem dX12_player_77 : decode cX12_player 77 = .ok (.iconst 2, 1) := by decide +kernel
theorem dX12_player_78 : decode cX12_player 78 = .ok (.iadd, 1) := by decide +kernel
theorem dX12_player_79 : decode cX12_player 79 = .ok (.iconst 0, 1) := by decide +kernel
theorem dX12_player_80 : decode cX12_player 80 = .ok (.iastore, 1) := by decide +kernel
theorem dX12_player_81 : decode cX12_player 81 = .ok (.aload_n 0, 1) := by decide +kernel
theorem dX12_player_82 : decode cX12_player 82 = .ok (.getfield 7, 3) := by decide +kernel
theorem dX12_player_85 : decode cX12_player 85 = .ok (.iconst 3, 1) := by decide +kernel
theorem dX12_player_86 : decode cX12_player 86 = .ok (.dup2, 1) := by decide +kernel
theorem dX12_player_87 : decode cX12_player 87 = .ok (.iaload, 1) := by decide +kernel
theorem dX12_player_88 : decode cX12_player 88 = .ok (.iconst 1, 1) := by decide +kernel
theorem dX12_player_89 : decode cX12_player 89 = .ok (.iadd, 1) := by decide +kernel
theorem dX12_player_90 : decode cX12_player 90 = .ok (.iastore, 1) := by decide +kernel
theorem dX12_player_91 : decode cX12_player 91 = .ok (.aload_n 0, 1) := by decide +kernel
theorem dX12_player_92 : decode cX12_player 92 = .ok (.getfield 7, 3) := by decide +kernel
theorem dX12_player_95 : decode cX12_player 95 = .ok (.iconst 3, 1) := by decide +kernel
theorem dX12_player_96 : decode cX12_player 96 = .ok (.iaload, 1) := by decide +kernel
theorem dX12_player_97 : decode cX12_player 97 = .ok (.iconst 1, 1) := by decide +kernel
theorem dX12_player_98 : decode cX12_player 98 = .ok (.isub, 1) := by decide +kernel
theorem dX12_player_99 : decode cX12_player 99 = .ok (.ireturn, 1) := by decide +kernel
theorem dX12_know_0 : decode cX12_know 0 = .ok (.aload_n 0, 1) := by decide +kernel
theorem dX12_know_1 : decode cX12_know 1 = .ok (.iload_n 1, 1) := by decide +kernel
theorem dX12_know_2 : decode cX12_know 2 = .ok (.invokevirtual 145, 3) := by decide +kernel
theorem dX12_know_5 : decode cX12_know 5 = .ok (.ifCond .eq 11, 3) := by decide +kernel
theorem dX12_know_8 : decode cX12_know 8 = .ok (.aload_n 0, 1) := by decide +kernel
theorem dX12_know_9 : decode cX12_know 9 = .ok (.iload_n 2, 1) := by decide +kernel
theorem dX12_know_10 : decode cX12_know 10 = .ok (.invokevirtual 110, 3) := by decide +kernel
theorem dX12_know_13 : decode cX12_know 13 = .ok (.ifCond .ne 9, 3) := by decide +kernel
theorem dX12_know_16 : decode cX12_know 16 = .ok (.aload_n 0, 1) := by decide +kernel
theorem dX12_know_17 : decode cX12_know 17 = .ok (.iconst 1, 1) := by decide +kernel
theorem dX12_know_18 : decode cX12_know 18 = .ok (.invokevirtual 95, 3) := by decide +kernel
theorem dX12_know_21 : decode cX12_know 21 = .ok (.ireturn, 1) := by decide +kernel
theorem dX12_know_22 : decode cX12_know 22 = .ok (.sipush 220, 3) := by decide +kernel
theorem dX12_know_25 : decode cX12_know 25 = .ok (.iconst 3, 1) := by decide +kernel
theorem dX12_know_26 : decode cX12_know 26 = .ok (.iload_n 1, 1) := by decide +kernel
theorem dX12_know_27 : decode cX12_know 27 = .ok (.imul, 1) := by decide +kernel
theorem dX12_know_28 : decode cX12_know 28 = .ok (.iadd, 1) := by decide +kernel
theorem dX12_know_29 : decode cX12_know 29 = .ok (.iconst 2, 1) := by decide +kernel
theorem dX12_know_30 : decode cX12_know 30 = .ok (.iadd, 1) := by decide +kernel
theorem dX12_know_31 : decode cX12_know 31 = .ok (.istore 4, 2) := by decide +kernel
theorem dX12_know_33 : decode cX12_know 33 = .ok (.aload_n 0, 1) := by decide +kernel
theorem dX12_know_34 : decode cX12_know 34 = .ok (.getfield 7, 3) := by decide +kernel
theorem dX12_know_37 : decode cX12_know 37 = .ok (.iload 4, 2) := by decide +kernel
theorem dX12_know_39 : decode cX12_know 39 = .ok (.iaload, 1) := by decide +kernel
theorem dX12_know_40 : decode cX12_know 40 = .ok (.iload_n 2, 1) := by decide +kernel
theorem dX12_know_41 : decode cX12_know 41 = .ok (.ishr, 1) := by decide +kernel
theorem dX12_know_42 : decode cX12_know 42 = .ok (.iconst 1, 1) := by decide +kernel
theorem dX12_know_43 : decode cX12_know 43 = .ok (.iand, 1) := by decide +kernel
theorem dX12_know_44 : decode cX12_know 44 = .ok (.iconst 1, 1) := by decide +kernel
theorem dX12_know_45 : decode cX12_know 45 = .ok (.if_icmp .ne 7, 3) := by decide +kernel
theorem dX12_know_48 : decode cX12_know 48 = .ok (.iconst 1, 1) := by decide +kernel
theorem dX12_know_49 : decode cX12_know 49 = .ok (.goto 4, 3) := by decide +kernel
theorem dX12_know_52 : decode cX12_know 52 = .ok (.iconst 0, 1) := by decide +kernel
theorem dX12_know_53 : decode cX12_know 53 = .ok (.istore 5, 2) := by decide +kernel
theorem dX12_know_55 : decode cX12_know 55 = .ok (.aload_n 0, 1) := by decide +kernel
theorem dX12_know_56 : decode cX12_know 56 = .ok (.getfield 7, 3) := by decide +kernel
theorem dX12_know_59 : decode cX12_know 59 = .ok (.iload 4, 2) := by decide +kernel
theorem dX12_know_61 : decode cX12_know 61 = .ok (.iload_n 3, 1) := by decide +kernel
theorem dX12_know_62 : decode cX12_know 62 = .ok (.ifCond .eq 17, 3) := by decide +kernel
theorem dX12_know_65 : decode cX12_know 65 = .ok (.aload_n 0, 1) := by decide +kernel
theorem dX12_know_66 : decode cX12_know 66 = .ok (.getfield 7, 3) := by decide +kernel
theorem dX12_know_69 : decode cX12_know 69 = .ok (.iload 4, 2) := by decide +kernel
theorem dX12_know_71 : decode cX12_know 71 = .ok (.iaload, 1) := by decide +kernel
theorem dX12_know_72 : decode cX12_know 72 = .ok (.iconst 1, 1) := by decide +kernel
theorem dX12_know_73 : decode cX12_know 73 = .ok (.iload_n 2, 1) := by decide +kernel
theorem dX12_know_74 : decode cX12_know 74 = .ok (.ishl, 1) := by decide +kernel
theorem dX12_know_75 : decode cX12_know 75 = .ok (.ior, 1) := by decide +kernel
theorem dX12_know_76 : decode cX12_know 76 = .ok (.goto 16, 3) := by decide +kernel
theorem dX12_know_79 : decode cX12_know 79 = .ok (.aload_n 0, 1) := by decide +kernel
theorem dX12_know_80 : decode cX12_know 80 = .ok (.getfield 7, 3) := by decide +kernel
theorem dX12_know_83 : decode cX12_know 83 = .ok (.iload 4, 2) := by decide +kernel
theorem dX12_know_85 : decode cX12_know 85 = .ok (.iaload, 1) := by decide +kernel
theorem dX12_know_86 : decode cX12_know 86 = .ok (.iconst 1, 1) := by decide +kernel
theorem dX12_know_87 : decode cX12_know 87 = .ok (.iload_n 2, 1) := by decide +kernel
theorem dX12_know_88 : decode cX12_know 88 = .ok (.ishl, 1) := by decide +kernel
theorem dX12_know_89 : decode cX12_know 89 = .ok (.iconst (-1), 1) := by decide +kernel
theorem dX12_know_90 : decode cX12_know 90 = .ok (.ixor, 1) := by decide +kernel
theorem dX12_know_91 : decode cX12_know 91 = .ok (.iand, 1) := by decide +kernel
theorem dX12_know_92 : decode cX12_know 92 = .ok (.iastore, 1) := by decide +kernel
theorem dX12_know_93 : decode cX12_know 93 = .ok (.iload 5, 2) := by decide +kernel
theorem dX12_know_95 : decode cX12_know 95 = .ok (.iload_n 3, 1) := by decide +kernel
theorem dX12_know_96 : decode cX12_know 96 = .ok (.if_icmp .ne 7, 3) := by decide +kernel
theorem dX12_know_99 : decode cX12_know 99 = .ok (.iconst 0, 1) := by decide +kernel
theorem dX12_know_100 : decode cX12_know 100 = .ok (.goto 4, 3) := by decide +kernel
theorem dX12_know_103 : decode cX12_know 103 = .ok (.iconst 1, 1) := by decide +kernel
theorem dX12_know_104 : decode cX12_know 104 = .ok (.ireturn, 1) := by decide +kernel
theorem dX12_isAble_0 : decode cX12_isAble 0 = .ok (.aload_n 0, 1) := by decide +kernel
theorem dX12_isAble_1 : decode cX12_isAble 1 = .ok (.getfield 7, 3) := by decide +kernel
theorem dX12_isAble_4 : decode cX12_isAble 4 = .ok (.sipush 310, 3) := by decide +kernel
theorem dX12_isAble_7 : decode cX12_isAble 7 = .ok (.iaload, 1) := by decide +kernel
theorem dX12_isAble_8 : decode cX12_isAble 8 = .ok (.ifCond .ne 24, 3) := by decide +kernel
theorem dX12_isAble_11 : decode cX12_isAble 11 = .ok (.aload_n 0, 1) := by decide +kernel
theorem dX12_isAble_12 : decode cX12_isAble 12 = .ok (.iload_n 1, 1) := by decide +kernel
theorem dX12_isAble_13 : decode cX12_isAble 13 = .ok (.iconst 0, 1) := by decide +kernel
theorem dX12_isAble_14 : decode cX12_isAble 14 = .ok (.invokevirtual 148, 3) := by decide +kernel
theorem dX12_isAble_17 : decode cX12_isAble 17 = .ok (.aload_n 0, 1) := by decide +kernel
theorem dX12_isAble_18 : decode cX12_isAble 18 = .ok (.iload_n 2, 1) := by decide +kernel
theorem dX12_isAble_19 : decode cX12_isAble 19 = .ok (.iconst 1, 1) := by decide +kernel
theorem dX12_isAble_20 : decode cX12_isAble 20 = .ok (.invokevirtual 114, 3) := by decide +kernel
theorem dX12_isAble_23 : decode cX12_isAble 23 = .ok (.if_icmp .lt 7, 3) := by decide +kernel
theorem dX12_isAble_26 : decode cX12_isAble 26 = .ok (.iconst 1, 1) := by decide +kernel
theorem dX12_isAble_27 : decode cX12_isAble 27 = .ok (.goto 4, 3) := by decide +kernel
theorem dX12_isAble_30 : decode cX12_isAble 30 = .ok (.iconst 0, 1) := by decide +kernel
theorem dX12_isAble_31 : decode cX12_isAble 31 = .ok (.ireturn, 1) := by decide +kernel
theorem dX12_isAble_32 : decode cX12_isAble 32 = .ok (.aload_n 0, 1) := by decide +kernel
theorem dX12_isAble_33 : decode cX12_isAble 33 = .ok (.iload_n 1, 1) := by decide +kernel
theorem dX12_isAble_34 : decode cX12_isAble 34 = .ok (.iload_n 2, 1) := by decide +kernel
theorem dX12_isAble_35 : decode cX12_isAble 35 = .ok (.invokevirtual 151, 3) := by decide +kernel
theorem dX12_isAble_38 : decode cX12_isAble 38 = .ok (.aload_n 0, 1) := by decide +kernel
theorem dX12_isAble_39 : decode cX12_isAble 39 = .ok (.iconst 0, 1) := by decide +kernel
theorem dX12_isAble_40 : decode cX12_isAble 40 = .ok (.invokevirtual 154, 3) := by decide +kernel
theorem dX12_isAble_43 : decode cX12_isAble 43 = .ok (.ifCond .eq 7, 3) := by decide +kernel
theorem dX12_isAble_46 : decode cX12_isAble 46 = .ok (.iconst 1, 1) := by decide +kernel
theorem dX12_isAble_47 : decode cX12_isAble 47 = .ok (.goto 4, 3) := by decide +kernel
theorem dX12_isAble_50 : decode cX12_isAble 50 = .ok (.iconst 0, 1) := by decide +kernel
theorem dX12_isAble_51 : decode cX12_isAble 51 = .ok (.ireturn, 1) := by decide +kernel
theorem dX12_names_0 : decode cX12_names 0 = .ok (.aload_n 0, 1) := by decide +kernel
theorem dX12_names_1 : decode cX12_names 1 = .ok (.getfield 28, 3) := by decide +kernel
theorem dX12_names_4 : decode cX12_names 4 = .ok (.iconst 0, 1) := by decide +kernel
theorem dX12_names_5 : decode cX12_names 5 = .ok (.aload_n 0, 1) := by decide +kernel
theorem dX12_names_6 : decode cX12_names 6 = .ok (.iload_n 1, 1) := by decide +kernel
theorem dX12_names_7 : decode cX12_names 7 = .ok (.iconst 0, 1) := by decide +kernel
theorem dX12_names_8 : decode cX12_names 8 = .ok (.invokevirtual 148, 3) := by decide +kernel
theorem dX12_names_11 : decode cX12_names 11 = .ok (.iastore, 1) := by decide +kernel
theorem dX12_names_12 : decode cX12_names 12 = .ok (.aload_n 0, 1) := by decide +kernel
theorem dX12_names_13 : decode cX12_names 13 = .ok (.getfield 28, 3) := by decide +kernel
theorem dX12_names_16 : decode cX12_names 16 = .ok (.iconst 1, 1) := by decide +kernel
theorem dX12_names_17 : decode cX12_names 17 = .ok (.aload_n 0, 1) := by decide +kernel
theorem dX12_names_18 : decode cX12_names 18 = .ok (.iload_n 1, 1) := by decide +kernel
theorem dX12_names_19 : decode cX12_names 19 = .ok (.iconst 1, 1) := by decide +kernel
theorem dX12_names_20 : decode cX12_names 20 = .ok (.invokevirtual 148, 3) := by decide +kernel
theorem dX12_names_23 : decode cX12_names 23 = .ok (.iastore, 1) := by decide +kernel
theorem dX12_names_24 : decode cX12_names 24 = .ok (.aload_n 0, 1) := by decide +kernel
theorem dX12_names_25 : decode cX12_names 25 = .ok (.getfield 28, 3) := by decide +kernel
theorem dX12_names_28 : decode cX12_names 28 = .ok (.iconst 2, 1) := by decide +kernel
theorem dX12_names_29 : decode cX12_names 29 = .ok (.aload_n 0, 1) := by decide +kernel
theorem dX12_names_30 : decode cX12_names 30 = .ok (.iload_n 2, 1) := by decide +kernel
theorem dX12_names_31 : decode cX12_names 31 = .ok (.iconst 1, 1) := by decide +kernel
theorem dX12_names_32 : decode cX12_names 32 = .ok (.invokevirtual 114, 3) := by decide +kernel
theorem dX12_names_35 : decode cX12_names 35 = .ok (.iastore, 1) := by decide +kernel
theorem dX12_names_36 : decode cX12_names 36 = .ok (.aload_n 0, 1) := by decide +kernel
theorem dX12_names_37 : decode cX12_names 37 = .ok (.getfield 28, 3) := by decide +kernel
theorem dX12_names_40 : decode cX12_names 40 = .ok (.iconst 3, 1) := by decide +kernel
theorem dX12_names_41 : decode cX12_names 41 = .ok (.aload_n 0, 1) := by decide +kernel
theorem dX12_names_42 : decode cX12_names 42 = .ok (.iload_n 2, 1) := by decide +kernel
theorem dX12_names_43 : decode cX12_names 43 = .ok (.iconst 2, 1) := by decide +kernel
theorem dX12_names_44 : decode cX12_names 44 = .ok (.invokevirtual 114, 3) := by decide +kernel
theorem dX12_names_47 : decode cX12_names 47 = .ok (.iastore, 1) := by decide +kernel
theorem dX12_names_48 : decode cX12_names 48 = .ok (.aload_n 0, 1) := by decide +kernel
theorem dX12_names_49 : decode cX12_names 49 = .ok (.getfield 28, 3) := by decide +kernel
theorem dX12_names_52 : decode cX12_names 52 = .ok (.iconst 4, 1) := by decide +kernel
theorem dX12_names_53 : decode cX12_names 53 = .ok (.aload_n 0, 1) := by decide +kernel
theorem dX12_names_54 : decode cX12_names 54 = .ok (.iload_n 2, 1) := by decide +kernel
theorem dX12_names_55 : decode cX12_names 55 = .ok (.iconst 0, 1) := by decide +kernel
theorem dX12_names_56 : decode cX12_names 56 = .ok (.invokevirtual 114, 3) := by decide +kernel
theorem dX12_names_59 : decode cX12_names 59 = .ok (.iastore, 1) := by decide +kernel
theorem dX12_names_60 : decode cX12_names 60 = .ok (.return_, 1) := by decide +kernel
theorem dX12_held_0 : decode cX12_held 0 = .ok (.iload_n 0, 1) := by decide +kernel
theorem dX12_held_1 : decode cX12_held 1 = .ok (.ifCond .ge 7, 3) := by decide +kernel
theorem dX12_held_4 : decode cX12_held 4 = .ok (.iconst 0, 1) := by decide +kernel
theorem dX12_held_5 : decode cX12_held 5 = .ok (.goto 13, 3) := by decide +kernel
theorem dX12_held_8 : decode cX12_held 8 = .ok (.iload_n 0, 1) := by decide +kernel
theorem dX12_held_9 : decode cX12_held 9 = .ok (.iload_n 1, 1) := by decide +kernel
theorem dX12_held_10 : decode cX12_held 10 = .ok (.if_icmp .le 7, 3) := by decide +kernel
theorem dX12_held_13 : decode cX12_held 13 = .ok (.iload_n 1, 1) := by decide +kernel
theorem dX12_held_14 : decode cX12_held 14 = .ok (.goto 4, 3) := by decide +kernel
theorem dX12_held_17 : decode cX12_held 17 = .ok (.iload_n 0, 1) := by decide +kernel
theorem dX12_held_18 : decode cX12_held 18 = .ok (.ireturn, 1) := by decide +kernel
theorem dX12_wishOf_0 : decode cX12_wishOf 0 = .ok (.aload_n 0, 1) := by decide +kernel
theorem dX12_wishOf_1 : decode cX12_wishOf 1 = .ok (.getfield 7, 3) := by decide +kernel
theorem dX12_wishOf_4 : decode cX12_wishOf 4 = .ok (.sipush 414, 3) := by decide +kernel
theorem dX12_wishOf_7 : decode cX12_wishOf 7 = .ok (.iaload, 1) := by decide +kernel
theorem dX12_wishOf_8 : decode cX12_wishOf 8 = .ok (.ifCond .ne 10, 3) := by decide +kernel
theorem dX12_wishOf_11 : decode cX12_wishOf 11 = .ok (.aload_n 0, 1) := by decide +kernel
theorem dX12_wishOf_12 : decode cX12_wishOf 12 = .ok (.iload_n 1, 1) := by decide +kernel
theorem dX12_wishOf_13 : decode cX12_wishOf 13 = .ok (.iconst 0, 1) := by decide +kernel
theorem dX12_wishOf_14 : decode cX12_wishOf 14 = .ok (.invokevirtual 148, 3) := by decide +kernel
theorem dX12_wishOf_17 : decode cX12_wishOf 17 = .ok (.ireturn, 1) := by decide +kernel
theorem dX12_wishOf_18 : decode cX12_wishOf 18 = .ok (.aload_n 0, 1) := by decide +kernel
theorem dX12_wishOf_19 : decode cX12_wishOf 19 = .ok (.iload_n 1, 1) := by decide +kernel
theorem dX12_wishOf_20 : decode cX12_wishOf 20 = .ok (.iload_n 2, 1) := by decide +kernel
theorem dX12_wishOf_21 : decode cX12_wishOf 21 = .ok (.invokevirtual 151, 3) := by decide +kernel
theorem dX12_wishOf_24 : decode cX12_wishOf 24 = .ok (.aload_n 0, 1) := by decide +kernel
theorem dX12_wishOf_25 : decode cX12_wishOf 25 = .ok (.getfield 28, 3) := by decide +kernel
theorem dX12_wishOf_28 : decode cX12_wishOf 28 = .ok (.iconst 5, 1) := by decide +kernel
theorem dX12_wishOf_29 : decode cX12_wishOf 29 = .ok (.aload_n 0, 1) := by decide +kernel
theorem dX12_wishOf_30 : decode cX12_wishOf 30 = .ok (.iload_n 2, 1) := by decide +kernel
theorem dX12_wishOf_31 : decode cX12_wishOf 31 = .ok (.invokevirtual 121, 3) := by decide +kernel
theorem dX12_wishOf_34 : decode cX12_wishOf 34 = .ok (.iastore, 1) := by decide +kernel
theorem dX12_wishOf_35 : decode cX12_wishOf 35 = .ok (.aload_n 0, 1) := by decide +kernel
theorem dX12_wishOf_36 : decode cX12_wishOf 36 = .ok (.iconst 2, 1) := by decide +kernel
theorem dX12_wishOf_37 : decode cX12_wishOf 37 = .ok (.invokevirtual 154, 3) := by decide +kernel
theorem dX12_wishOf_40 : decode cX12_wishOf 40 = .ok (.sipush 999, 3) := by decide +kernel
theorem dX12_wishOf_43 : decode cX12_wishOf 43 = .ok (.invokestatic 157, 3) := by decide +kernel
theorem dX12_wishOf_46 : decode cX12_wishOf 46 = .ok (.ireturn, 1) := by decide +kernel
theorem dX12_can_0 : decode cX12_can 0 = .ok (.aload_n 0, 1) := by decide +kernel
theorem dX12_can_1 : decode cX12_can 1 = .ok (.iload_n 1, 1) := by decide +kernel
theorem dX12_can_2 : decode cX12_can 2 = .ok (.invokevirtual 145, 3) := by decide +kernel
theorem dX12_can_5 : decode cX12_can 5 = .ok (.ifCond .eq 11, 3) := by decide +kernel
theorem dX12_can_8 : decode cX12_can 8 = .ok (.aload_n 0, 1) := by decide +kernel
theorem dX12_can_9 : decode cX12_can 9 = .ok (.iload_n 2, 1) := by decide +kernel
theorem dX12_can_10 : decode cX12_can 10 = .ok (.invokevirtual 110, 3) := by decide +kernel
theorem dX12_can_13 : decode cX12_can 13 = .ok (.ifCond .ne 11, 3) := by decide +kernel
theorem dX12_can_16 : decode cX12_can 16 = .ok (.aload_n 0, 1) := by decide +kernel
theorem dX12_can_17 : decode cX12_can 17 = .ok (.iconst 1, 1) := by decide +kernel
theorem dX12_can_18 : decode cX12_can 18 = .ok (.invokevirtual 95, 3) := by decide +kernel
theorem dX12_can_21 : decode cX12_can 21 = .ok (.goto 17, 3) := by decide +kernel
theorem dX12_can_24 : decode cX12_can 24 = .ok (.aload_n 0, 1) := by decide +kernel
theorem dX12_can_25 : decode cX12_can 25 = .ok (.iload_n 1, 1) := by decide +kernel
theorem dX12_can_26 : decode cX12_can 26 = .ok (.iload_n 2, 1) := by decide +kernel
theorem dX12_can_27 : decode cX12_can 27 = .ok (.invokevirtual 160, 3) := by decide +kernel
theorem dX12_can_30 : decode cX12_can 30 = .ok (.ifCond .eq 7, 3) := by decide +kernel
theorem dX12_can_33 : decode cX12_can 33 = .ok (.iconst 1, 1) := by decide +kernel
theorem dX12_can_34 : decode cX12_can 34 = .ok (.goto 4, 3) := by decide +kernel
theorem dX12_can_37 : decode cX12_can 37 = .ok (.iconst 0, 1) := by decide +kernel
theorem dX12_can_38 : decode cX12_can 38 = .ok (.ireturn, 1) := by decide +kernel
theorem dX12_wish_0 : decode cX12_wish 0 = .ok (.aload_n 0, 1) := by decide +kernel
theorem dX12_wish_1 : decode cX12_wish 1 = .ok (.iload_n 1, 1) := by decide +kernel
theorem dX12_wish_2 : decode cX12_wish 2 = .ok (.invokevirtual 145, 3) := by decide +kernel
theorem dX12_wish_5 : decode cX12_wish 5 = .ok (.ifCond .eq 20, 3) := by decide +kernel
theorem dX12_wish_8 : decode cX12_wish 8 = .ok (.aload_n 0, 1) := by decide +kernel
theorem dX12_wish_9 : decode cX12_wish 9 = .ok (.iload_n 2, 1) := by decide +kernel
theorem dX12_wish_10 : decode cX12_wish 10 = .ok (.invokevirtual 110, 3) := by decide +kernel
theorem dX12_wish_13 : decode cX12_wish 13 = .ok (.ifCond .eq 12, 3) := by decide +kernel
theorem dX12_wish_16 : decode cX12_wish 16 = .ok (.aload_n 0, 1) := by decide +kernel
theorem dX12_wish_17 : decode cX12_wish 17 = .ok (.iload_n 1, 1) := by decide +kernel
theorem dX12_wish_18 : decode cX12_wish 18 = .ok (.iload_n 2, 1) := by decide +kernel
theorem dX12_wish_19 : decode cX12_wish 19 = .ok (.invokevirtual 163, 3) := by decide +kernel
theorem dX12_wish_22 : decode cX12_wish 22 = .ok (.goto 8, 3) := by decide +kernel
theorem dX12_wish_25 : decode cX12_wish 25 = .ok (.aload_n 0, 1) := by decide +kernel
theorem dX12_wish_26 : decode cX12_wish 26 = .ok (.iconst 1, 1) := by decide +kernel
theorem dX12_wish_27 : decode cX12_wish 27 = .ok (.invokevirtual 95, 3) := by decide +kernel
theorem dX12_wish_30 : decode cX12_wish 30 = .ok (.ireturn, 1) := by decide +kernel
theorem dX12_feed_0 : decode cX12_feed 0 = .ok (.iload_n 3, 1) := by decide +kernel
theorem dX12_feed_1 : decode cX12_feed 1 = .ok (.iconst 1, 1) := by decide +kernel
theorem dX12_feed_2 : decode cX12_feed 2 = .ok (.bipush 8, 2) := by decide +kernel
theorem dX12_feed_4 : decode cX12_feed 4 = .ok (.invokestatic 91, 3) := by decide +kernel
theorem dX12_feed_7 : decode cX12_feed 7 = .ok (.ifCond .ne 9, 3) := by decide +kernel
theorem dX12_feed_10 : decode cX12_feed 10 = .ok (.aload_n 0, 1) := by decide +kernel
theorem dX12_feed_11 : decode cX12_feed 11 = .ok (.iconst 1, 1) := by decide +kernel
theorem dX12_feed_12 : decode cX12_feed 12 = .ok (.invokevirtual 95, 3) := by decide +kernel
theorem dX12_feed_15 : decode cX12_feed 15 = .ok (.ireturn, 1) := by decide +kernel
theorem dX12_feed_16 : decode cX12_feed 16 = .ok (.aload_n 0, 1) := by decide +kernel
theorem dX12_feed_17 : decode cX12_feed 17 = .ok (.getfield 7, 3) := by decide +kernel
theorem dX12_feed_20 : decode cX12_feed 20 = .ok (.iconst 4, 1) := by decide +kernel
theorem dX12_feed_21 : decode cX12_feed 21 = .ok (.iaload, 1) := by decide +kernel
theorem dX12_feed_22 : decode cX12_feed 22 = .ok (.iload_n 3, 1) := by decide +kernel
theorem dX12_feed_23 : decode cX12_feed 23 = .ok (.iadd, 1) := by decide +kernel
theorem dX12_feed_24 : decode cX12_feed 24 = .ok (.bipush 50, 2) := by decide +kernel
theorem dX12_feed_26 : decode cX12_feed 26 = .ok (.if_icmp .le 9, 3) := by decide +kernel
theorem dX12_feed_29 : decode cX12_feed 29 = .ok (.aload_n 0, 1) := by decide +kernel
theorem dX12_feed_30 : decode cX12_feed 30 = .ok (.iconst 4, 1) := by decide +kernel
theorem dX12_feed_31 : decode cX12_feed 31 = .ok (.invokevirtual 95, 3) := by decide +kernel
theorem dX12_feed_34 : decode cX12_feed 34 = .ok (.ireturn, 1) := by decide +kernel
theorem dX12_feed_35 : decode cX12_feed 35 = .ok (.iconst 0, 1) := by decide +kernel
theorem dX12_feed_36 : decode cX12_feed 36 = .ok (.istore 4, 2) := by decide +kernel
theorem dX12_feed_38 : decode cX12_feed 38 = .ok (.iload 4, 2) := by decide +kernel
theorem dX12_feed_40 : decode cX12_feed 40 = .ok (.iload_n 3, 1) := by decide +kernel
theorem dX12_feed_41 : decode cX12_feed 41 = .ok (.if_icmp .ge 46, 3) := by decide +kernel
theorem dX12_feed_44 : decode cX12_feed 44 = .ok (.aload_n 0, 1) := by decide +kernel
theorem dX12_feed_45 : decode cX12_feed 45 = .ok (.getfield 7, 3) := by decide +kernel
theorem dX12_feed_48 : decode cX12_feed 48 = .ok (.sipush 240, 3) := by decide +kernel
theorem dX12_feed_51 : decode cX12_feed 51 = .ok (.aload_n 0, 1) := by decide +kernel
theorem dX12_feed_52 : decode cX12_feed 52 = .ok (.getfield 7, 3) := by decide +kernel
theorem dX12_feed_55 : decode cX12_feed 55 = .ok (.iconst 4, 1) := by decide +kernel
theorem dX12_feed_56 : decode cX12_feed 56 = .ok (.iaload, 1) := by decide +kernel
theorem dX12_feed_57 : decode cX12_feed 57 = .ok (.iadd, 1) := by decide +kernel
theorem dX12_feed_58 : decode cX12_feed 58 = .ok (.lload_n 1, 1) := by decide +kernel
theorem dX12_feed_59 : decode cX12_feed 59 = .ok (.bipush 8, 2) := by decide +kernel
theorem dX12_feed_61 : decode cX12_feed 61 = .ok (.iload 4, 2) := by decide +kernel
theorem dX12_feed_63 : decode cX12_feed 63 = .ok (.imul, 1) := by decide +kernel
theorem dX12_feed_64 : decode cX12_feed 64 = .ok (.lushr, 1) := by decide +kernel
theorem dX12_feed_65 : decode cX12_feed 65 = .ok (.ldc2_w 166, 3) := by decide +kernel
theorem dX12_feed_68 : decode cX12_feed 68 = .ok (.land, 1) := by decide +kernel
theorem dX12_feed_69 : decode cX12_feed 69 = .ok (.l2i, 1) := by decide +kernel
theorem dX12_feed_70 : decode cX12_feed 70 = .ok (.iastore, 1) := by decide +kernel
theorem dX12_feed_71 : decode cX12_feed 71 = .ok (.aload_n 0, 1) := by decide +kernel
theorem dX12_feed_72 : decode cX12_feed 72 = .ok (.getfield 7, 3) := by decide +kernel
theorem dX12_feed_75 : decode cX12_feed 75 = .ok (.iconst 4, 1) := by decide +kernel
theorem dX12_feed_76 : decode cX12_feed 76 = .ok (.dup2, 1) := by decide +kernel
theorem dX12_feed_77 : decode cX12_feed 77 = .ok (.iaload, 1) := by decide +kernel
theorem dX12_feed_78 : decode cX12_feed 78 = .ok (.iconst 1, 1) := by decide +kernel
theorem dX12_feed_79 : decode cX12_feed 79 = .ok (.iadd, 1) := by decide +kernel
theorem dX12_feed_80 : decode cX12_feed 80 = .ok (.iastore, 1) := by decide +kernel
theorem dX12_feed_81 : decode cX12_feed 81 = .ok (.iinc 4 1, 3) := by decide +kernel
theorem dX12_feed_84 : decode cX12_feed 84 = .ok (.goto (-46), 3) := by decide +kernel
theorem dX12_feed_87 : decode cX12_feed 87 = .ok (.aload_n 0, 1) := by decide +kernel
theorem dX12_feed_88 : decode cX12_feed 88 = .ok (.getfield 7, 3) := by decide +kernel
theorem dX12_feed_91 : decode cX12_feed 91 = .ok (.iconst 4, 1) := by decide +kernel
theorem dX12_feed_92 : decode cX12_feed 92 = .ok (.iaload, 1) := by decide +kernel
theorem dX12_feed_93 : decode cX12_feed 93 = .ok (.ireturn, 1) := by decide +kernel
theorem dX12_byteAt_0 : decode cX12_byteAt 0 = .ok (.iload_n 1, 1) := by decide +kernel
theorem dX12_byteAt_1 : decode cX12_byteAt 1 = .ok (.aload_n 0, 1) := by decide +kernel
theorem dX12_byteAt_2 : decode cX12_byteAt 2 = .ok (.getfield 7, 3) := by decide +kernel
theorem dX12_byteAt_5 : decode cX12_byteAt 5 = .ok (.iconst 4, 1) := by decide +kernel
theorem dX12_byteAt_6 : decode cX12_byteAt 6 = .ok (.iaload, 1) := by decide +kernel
theorem dX12_byteAt_7 : decode cX12_byteAt 7 = .ok (.if_icmp .ge 16, 3) := by decide +kernel
theorem dX12_byteAt_10 : decode cX12_byteAt 10 = .ok (.aload_n 0, 1) := by decide +kernel
theorem dX12_byteAt_11 : decode cX12_byteAt 11 = .ok (.getfield 7, 3) := by decide +kernel
theorem dX12_byteAt_14 : decode cX12_byteAt 14 = .ok (.sipush 240, 3) := by decide +kernel
theorem dX12_byteAt_17 : decode cX12_byteAt 17 = .ok (.iload_n 1, 1) := by decide +kernel
theorem dX12_byteAt_18 : decode cX12_byteAt 18 = .ok (.iadd, 1) := by decide +kernel
theorem dX12_byteAt_19 : decode cX12_byteAt 19 = .ok (.iaload, 1) := by decide +kernel
theorem dX12_byteAt_20 : decode cX12_byteAt 20 = .ok (.goto 4, 3) := by decide +kernel
theorem dX12_byteAt_23 : decode cX12_byteAt 23 = .ok (.iconst (-1), 1) := by decide +kernel
theorem dX12_byteAt_24 : decode cX12_byteAt 24 = .ok (.ireturn, 1) := by decide +kernel
theorem dX12_isDigit_0 : decode cX12_isDigit 0 = .ok (.iload_n 0, 1) := by decide +kernel
theorem dX12_isDigit_1 : decode cX12_isDigit 1 = .ok (.bipush 48, 2) := by decide +kernel
theorem dX12_isDigit_3 : decode cX12_isDigit 3 = .ok (.bipush 57, 2) := by decide +kernel
theorem dX12_isDigit_5 : decode cX12_isDigit 5 = .ok (.invokestatic 91, 3) := by decide +kernel
theorem dX12_isDigit_8 : decode cX12_isDigit 8 = .ok (.ireturn, 1) := by decide +kernel
theorem dX12_ofThree_0 : decode cX12_ofThree 0 = .ok (.iload_n 0, 1) := by decide +kernel
theorem dX12_ofThree_1 : decode cX12_ofThree 1 = .ok (.iload_n 1, 1) := by decide +kernel
theorem dX12_ofThree_2 : decode cX12_ofThree 2 = .ok (.if_icmp .ne 8, 3) := by decide +kernel
theorem dX12_ofThree_5 : decode cX12_ofThree 5 = .ok (.iload 4, 2) := by decide +kernel
theorem dX12_ofThree_7 : decode cX12_ofThree 7 = .ok (.goto 28, 3) := by decide +kernel
theorem dX12_ofThree_10 : decode cX12_ofThree 10 = .ok (.iload_n 0, 1) := by decide +kernel
theorem dX12_ofThree_11 : decode cX12_ofThree 11 = .ok (.iload_n 2, 1) := by decide +kernel
theorem dX12_ofThree_12 : decode cX12_ofThree 12 = .ok (.if_icmp .ne 10, 3) := by decide +kernel
theorem dX12_ofThree_15 : decode cX12_ofThree 15 = .ok (.iload 4, 2) := by decide +kernel
theorem dX12_ofThree_17 : decode cX12_ofThree 17 = .ok (.iconst 1, 1) := by decide +kernel
theorem dX12_ofThree_18 : decode cX12_ofThree 18 = .ok (.iadd, 1) := by decide +kernel
theorem dX12_ofThree_19 : decode cX12_ofThree 19 = .ok (.goto 16, 3) := by decide +kernel
theorem dX12_ofThree_22 : decode cX12_ofThree 22 = .ok (.iload_n 0, 1) := by decide +kernel
theorem dX12_ofThree_23 : decode cX12_ofThree 23 = .ok (.iload_n 3, 1) := by decide +kernel
theorem dX12_ofThree_24 : decode cX12_ofThree 24 = .ok (.if_icmp .ne 10, 3) := by decide +kernel
theorem dX12_ofThree_27 : decode cX12_ofThree 27 = .ok (.iload 4, 2) := by decide +kernel
theorem dX12_ofThree_29 : decode cX12_ofThree 29 = .ok (.iconst 2, 1) := by decide +kernel
theorem dX12_ofThree_30 : decode cX12_ofThree 30 = .ok (.iadd, 1) := by decide +kernel
theorem dX12_ofThree_31 : decode cX12_ofThree 31 = .ok (.goto 4, 3) := by decide +kernel
theorem dX12_ofThree_34 : decode cX12_ofThree 34 = .ok (.iconst (-1), 1) := by decide +kernel
theorem dX12_ofThree_35 : decode cX12_ofThree 35 = .ok (.ireturn, 1) := by decide +kernel
theorem dX12_nameOf_0 : decode cX12_nameOf 0 = .ok (.iload_n 0, 1) := by decide +kernel
theorem dX12_nameOf_1 : decode cX12_nameOf 1 = .ok (.iconst 1, 1) := by decide +kernel
theorem dX12_nameOf_2 : decode cX12_nameOf 2 = .ok (.if_icmp .ne 17, 3) := by decide +kernel
theorem dX12_nameOf_5 : decode cX12_nameOf 5 = .ok (.iload_n 1, 1) := by decide +kernel
theorem dX12_nameOf_6 : decode cX12_nameOf 6 = .ok (.bipush 119, 2) := by decide +kernel
theorem dX12_nameOf_8 : decode cX12_nameOf 8 = .ok (.bipush 118, 2) := by decide +kernel
theorem dX12_nameOf_10 : decode cX12_nameOf 10 = .ok (.bipush 107, 2) := by decide +kernel
theorem dX12_nameOf_12 : decode cX12_nameOf 12 = .ok (.iconst 0, 1) := by decide +kernel
theorem dX12_nameOf_13 : decode cX12_nameOf 13 = .ok (.invokestatic 168, 3) := by decide +kernel
theorem dX12_nameOf_16 : decode cX12_nameOf 16 = .ok (.goto 14, 3) := by decide +kernel
theorem dX12_nameOf_19 : decode cX12_nameOf 19 = .ok (.iload_n 1, 1) := by decide +kernel
theorem dX12_nameOf_20 : decode cX12_nameOf 20 = .ok (.bipush 103, 2) := by decide +kernel
theorem dX12_nameOf_22 : decode cX12_nameOf 22 = .ok (.bipush 97, 2) := by decide +kernel
theorem dX12_nameOf_24 : decode cX12_nameOf 24 = .ok (.bipush 110, 2) := by decide +kernel
theorem dX12_nameOf_26 : decode cX12_nameOf 26 = .ok (.iconst 0, 1) := by decide +kernel
theorem dX12_nameOf_27 : decode cX12_nameOf 27 = .ok (.invokestatic 168, 3) := by decide +kernel
theorem dX12_nameOf_30 : decode cX12_nameOf 30 = .ok (.istore_n 2, 1) := by decide +kernel
theorem dX12_nameOf_31 : decode cX12_nameOf 31 = .ok (.iload_n 2, 1) := by decide +kernel
theorem dX12_nameOf_32 : decode cX12_nameOf 32 = .ok (.ifCond .ge 44, 3) := by decide +kernel
theorem dX12_nameOf_35 : decode cX12_nameOf 35 = .ok (.iload_n 0, 1) := by decide +kernel
theorem dX12_nameOf_36 : decode cX12_nameOf 36 = .ok (.iconst 1, 1) := by decide +kernel
theorem dX12_nameOf_37 : decode cX12_nameOf 37 = .ok (.if_icmp .ne 17, 3) := by decide +kernel
theorem dX12_nameOf_40 : decode cX12_nameOf 40 = .ok (.iload_n 1, 1) := by decide +kernel
theorem dX12_nameOf_41 : decode cX12_nameOf 41 = .ok (.bipush 113, 2) := by decide +kernel
theorem dX12_nameOf_43 : decode cX12_nameOf 43 = .ok (.bipush 115, 2) := by decide +kernel
theorem dX12_nameOf_45 : decode cX12_nameOf 45 = .ok (.bipush (-2), 2) := by decide +kernel
theorem dX12_nameOf_47 : decode cX12_nameOf 47 = .ok (.iconst 3, 1) := by decide +kernel
theorem dX12_nameOf_48 : decode cX12_nameOf 48 = .ok (.invokestatic 168, 3) := by decide +kernel
theorem dX12_nameOf_51 : decode cX12_nameOf 51 = .ok (.goto 24, 3) := by decide +kernel
theorem dX12_nameOf_54 : decode cX12_nameOf 54 = .ok (.iload_n 1, 1) := by decide +kernel
theorem dX12_nameOf_55 : decode cX12_nameOf 55 = .ok (.bipush 121, 2) := by decide +kernel
theorem dX12_nameOf_57 : decode cX12_nameOf 57 = .ok (.bipush 107, 2) := by decide +kernel
theorem dX12_nameOf_59 : decode cX12_nameOf 59 = .ok (.iload_n 0, 1) := by decide +kernel
theorem dX12_nameOf_60 : decode cX12_nameOf 60 = .ok (.iconst 2, 1) := by decide +kernel
theorem dX12_nameOf_61 : decode cX12_nameOf 61 = .ok (.if_icmp .ne 8, 3) := by decide +kernel
theorem dX12_nameOf_64 : decode cX12_nameOf 64 = .ok (.bipush 108, 2) := by decide +kernel
theorem dX12_nameOf_66 : decode cX12_nameOf 66 = .ok (.goto 5, 3) := by decide +kernel
theorem dX12_nameOf_69 : decode cX12_nameOf 69 = .ok (.bipush (-2), 2) := by decide +kernel
theorem dX12_nameOf_71 : decode cX12_nameOf 71 = .ok (.iconst 3, 1) := by decide +kernel
theorem dX12_nameOf_72 : decode cX12_nameOf 72 = .ok (.invokestatic 168, 3) := by decide +kernel
theorem dX12_nameOf_75 : decode cX12_nameOf 75 = .ok (.istore_n 2, 1) := by decide +kernel
theorem dX12_nameOf_76 : decode cX12_nameOf 76 = .ok (.iload_n 2, 1) := by decide +kernel
theorem dX12_nameOf_77 : decode cX12_nameOf 77 = .ok (.ireturn, 1) := by decide +kernel
theorem dX12_rankOf_0 : decode cX12_rankOf 0 = .ok (.iload_n 0, 1) := by decide +kernel
theorem dX12_rankOf_1 : decode cX12_rankOf 1 = .ok (.lookupswitch 101 #[(37, 99), (38, 93), (42, 99), (43, 97), (45, 97), (47, 99), (60, 95), (61, 95), (62, 95), (124, 91)], 91) := by decide +kernel
theorem dX12_rankOf_92 : decode cX12_rankOf 92 = .ok (.iconst 1, 1) := by decide +kernel
theorem dX12_rankOf_93 : decode cX12_rankOf 93 = .ok (.ireturn, 1) := by decide +kernel
theorem dX12_rankOf_94 : decode cX12_rankOf 94 = .ok (.iconst 2, 1) := by decide +kernel
theorem dX12_rankOf_95 : decode cX12_rankOf 95 = .ok (.ireturn, 1) := by decide +kernel
theorem dX12_rankOf_96 : decode cX12_rankOf 96 = .ok (.iconst 3, 1) := by decide +kernel
theorem dX12_rankOf_97 : decode cX12_rankOf 97 = .ok (.ireturn, 1) := by decide +kernel
theorem dX12_rankOf_98 : decode cX12_rankOf 98 = .ok (.iconst 4, 1) := by decide +kernel
theorem dX12_rankOf_99 : decode cX12_rankOf 99 = .ok (.ireturn, 1) := by decide +kernel
theorem dX12_rankOf_100 : decode cX12_rankOf 100 = .ok (.iconst 5, 1) := by decide +kernel
theorem dX12_rankOf_101 : decode cX12_rankOf 101 = .ok (.ireturn, 1) := by decide +kernel
theorem dX12_rankOf_102 : decode cX12_rankOf 102 = .ok (.iconst 0, 1) := by decide +kernel
theorem dX12_rankOf_103 : decode cX12_rankOf 103 = .ok (.ireturn, 1) := by decide +kernel
theorem dX12_lays_0 : decode cX12_lays 0 = .ok (.aload_n 0, 1) := by decide +kernel
theorem dX12_lays_1 : decode cX12_lays 1 = .ok (.getfield 31, 3) := by decide +kernel
theorem dX12_lays_4 : decode cX12_lays 4 = .ok (.aload_n 0, 1) := by decide +kernel
theorem dX12_lays_5 : decode cX12_lays 5 = .ok (.getfield 172, 3) := by decide +kernel
theorem dX12_lays_8 : decode cX12_lays 8 = .ok (.iload_n 1, 1) := by decide +kernel
theorem dX12_lays_9 : decode cX12_lays 9 = .ok (.iastore, 1) := by decide +kernel
theorem dX12_lays_10 : decode cX12_lays 10 = .ok (.aload_n 0, 1) := by decide +kernel
theorem dX12_lays_11 : decode cX12_lays 11 = .ok (.dup, 1) := by decide +kernel
theorem dX12_lays_12 : decode cX12_lays 12 = .ok (.getfield 172, 3) := by decide +kernel
theorem dX12_lays_15 : decode cX12_lays 15 = .ok (.iconst 1, 1) := by decide +kernel
theorem dX12_lays_16 : decode cX12_lays 16 = .ok (.iadd, 1) := by decide +kernel
theorem dX12_lays_17 : decode cX12_lays 17 = .ok (.putfield 172, 3) := by decide +kernel
theorem dX12_lays_20 : decode cX12_lays 20 = .ok (.return_, 1) := by decide +kernel
theorem dX12_settles_0 : decode cX12_settles 0 = .ok (.aload_n 0, 1) := by decide +kernel
theorem dX12_settles_1 : decode cX12_settles 1 = .ok (.getfield 176, 3) := by decide +kernel
theorem dX12_settles_4 : decode cX12_settles 4 = .ok (.ifCond .le 50, 3) := by decide +kernel
theorem dX12_settles_7 : decode cX12_settles 7 = .ok (.aload_n 0, 1) := by decide +kernel
theorem dX12_settles_8 : decode cX12_settles 8 = .ok (.getfield 34, 3) := by decide +kernel
theorem dX12_settles_11 : decode cX12_settles 11 = .ok (.aload_n 0, 1) := by decide +kernel
theorem dX12_settles_12 : decode cX12_settles 12 = .ok (.getfield 176, 3) := by decide +kernel
theorem dX12_settles_15 : decode cX12_settles 15 = .ok (.iconst 1, 1) := by decide +kernel
theorem dX12_settles_16 : decode cX12_settles 16 = .ok (.isub, 1) := by decide +kernel
theorem dX12_settles_17 : decode cX12_settles 17 = .ok (.iaload, 1) := by decide +kernel
theorem dX12_settles_18 : decode cX12_settles 18 = .ok (.invokestatic 179, 3) := by decide +kernel
theorem dX12_settles_21 : decode cX12_settles 21 = .ok (.iload_n 1, 1) := by decide +kernel
theorem dX12_settles_22 : decode cX12_settles 22 = .ok (.if_icmp .lt 32, 3) := by decide +kernel
theorem dX12_settles_25 : decode cX12_settles 25 = .ok (.aload_n 0, 1) := by decide +kernel
theorem dX12_settles_26 : decode cX12_settles 26 = .ok (.dup, 1) := by decide +kernel
theorem dX12_settles_27 : decode cX12_settles 27 = .ok (.getfield 176, 3) := by decide +kernel
theorem dX12_settles_30 : decode cX12_settles 30 = .ok (.iconst 1, 1) := by decide +kernel
theorem dX12_settles_31 : decode cX12_settles 31 = .ok (.isub, 1) := by decide +kernel
theorem dX12_settles_32 : decode cX12_settles 32 = .ok (.putfield 176, 3) := by decide +kernel
theorem dX12_settles_35 : decode cX12_settles 35 = .ok (.aload_n 0, 1) := by decide +kernel
theorem dX12_settles_36 : decode cX12_settles 36 = .ok (.bipush (-100), 2) := by decide +kernel
theorem dX12_settles_38 : decode cX12_settles 38 = .ok (.aload_n 0, 1) := by decide +kernel
theorem dX12_settles_39 : decode cX12_settles 39 = .ok (.getfield 34, 3) := by decide +kernel
theorem dX12_settles_42 : decode cX12_settles 42 = .ok (.aload_n 0, 1) := by decide +kernel
theorem dX12_settles_43 : decode cX12_settles 43 = .ok (.getfield 176, 3) := by decide +kernel
theorem dX12_settles_46 : decode cX12_settles 46 = .ok (.iaload, 1) := by decide +kernel
theorem dX12_settles_47 : decode cX12_settles 47 = .ok (.isub, 1) := by decide +kernel
theorem dX12_settles_48 : decode cX12_settles 48 = .ok (.invokevirtual 182, 3) := by decide +kernel
theorem dX12_settles_51 : decode cX12_settles 51 = .ok (.goto (-51), 3) := by decide +kernel
theorem dX12_settles_54 : decode cX12_settles 54 = .ok (.return_, 1) := by decide +kernel
theorem dX12_openMany_0 : decode cX12_openMany 0 = .ok (.iconst 0, 1) := by decide +kernel
theorem dX12_openMany_1 : decode cX12_openMany 1 = .ok (.istore_n 1, 1) := by decide +kernel
theorem dX12_openMany_2 : decode cX12_openMany 2 = .ok (.iconst 0, 1) := by decide +kernel
theorem dX12_openMany_3 : decode cX12_openMany 3 = .ok (.istore_n 2, 1) := by decide +kernel
theorem dX12_openMany_4 : decode cX12_openMany 4 = .ok (.iload_n 2, 1) := by decide +kernel
theorem dX12_openMany_5 : decode cX12_openMany 5 = .ok (.aload_n 0, 1) := by decide +kernel
theorem dX12_openMany_6 : decode cX12_openMany 6 = .ok (.getfield 176, 3) := by decide +kernel
theorem dX12_openMany_9 : decode cX12_openMany 9 = .ok (.if_icmp .ge 39, 3) := by decide +kernel
theorem dX12_openMany_12 : decode cX12_openMany 12 = .ok (.iload_n 1, 1) := by decide +kernel
theorem dX12_openMany_13 : decode cX12_openMany 13 = .ok (.aload_n 0, 1) := by decide +kernel
theorem dX12_openMany_14 : decode cX12_openMany 14 = .ok (.getfield 34, 3) := by decide +kernel
theorem dX12_openMany_17 : decode cX12_openMany 17 = .ok (.iload_n 2, 1) := by decide +kernel
theorem dX12_openMany_18 : decode cX12_openMany 18 = .ok (.iaload, 1) := by decide +kernel
theorem dX12_openMany_19 : decode cX12_openMany 19 = .ok (.bipush 33, 2) := by decide +kernel
theorem dX12_openMany_21 : decode cX12_openMany 21 = .ok (.if_icmp .eq 14, 3) := by decide +kernel
theorem dX12_openMany_24 : decode cX12_openMany 24 = .ok (.aload_n 0, 1) := by decide +kernel
theorem dX12_openMany_25 : decode cX12_openMany 25 = .ok (.getfield 34, 3) := by decide +kernel
theorem dX12_openMany_28 : decode cX12_openMany 28 = .ok (.iload_n 2, 1) := by decide +kernel
theorem dX12_openMany_29 : decode cX12_openMany 29 = .ok (.iaload, 1) := by decide +kernel
theorem dX12_openMany_30 : decode cX12_openMany 30 = .ok (.bipush 40, 2) := by decide +kernel
theorem dX12_openMany_32 : decode cX12_openMany 32 = .ok (.if_icmp .ne 7, 3) := by decide +kernel
theorem dX12_openMany_35 : decode cX12_openMany 35 = .ok (.iconst 1, 1) := by decide +kernel
theorem dX12_openMany_36 : decode cX12_openMany 36 = .ok (.goto 4, 3) := by decide +kernel
theorem dX12_openMany_39 : decode cX12_openMany 39 = .ok (.iconst 0, 1) := by decide +kernel
theorem dX12_openMany_40 : decode cX12_openMany 40 = .ok (.iadd, 1) := by decide +kernel
theorem dX12_openMany_41 : decode cX12_openMany 41 = .ok (.istore_n 1, 1) := by decide +kernel
theorem dX12_openMany_42 : decode cX12_openMany 42 = .ok (.iinc 2 1, 3) := by decide +kernel
theorem dX12_openMany_45 : decode cX12_openMany 45 = .ok (.goto (-41), 3) := by decide +kernel
theorem dX12_openMany_48 : decode cX12_openMany 48 = .ok (.iload_n 1, 1) := by decide +kernel
theorem dX12_openMany_49 : decode cX12_openMany 49 = .ok (.ireturn, 1) := by decide +kernel
theorem dX12_isTested_0 : decode cX12_isTested 0 = .ok (.aload_n 0, 1) := by decide +kernel
theorem dX12_isTested_1 : decode cX12_isTested 1 = .ok (.getfield 176, 3) := by decide +kernel
theorem dX12_isTested_4 : decode cX12_isTested 4 = .ok (.iconst 1, 1) := by decide +kernel
theorem dX12_isTested_5 : decode cX12_isTested 5 = .ok (.isub, 1) := by decide +kernel
theorem dX12_isTested_6 : decode cX12_isTested 6 = .ok (.istore_n 1, 1) := by decide +kernel
theorem dX12_isTested_7 : decode cX12_isTested 7 = .ok (.iload_n 1, 1) := by decide +kernel
theorem dX12_isTested_8 : decode cX12_isTested 8 = .ok (.ifCond .lt 22, 3) := by decide +kernel
theorem dX12_isTested_11 : decode cX12_isTested 11 = .ok (.aload_n 0, 1) := by decide +kernel
theorem dX12_isTested_12 : decode cX12_isTested 12 = .ok (.getfield 34, 3) := by decide +kernel
theorem dX12_isTested_15 : decode cX12_isTested 15 = .ok (.iload_n 1, 1) := by decide +kernel
theorem dX12_isTested_16 : decode cX12_isTested 16 = .ok (.iaload, 1) := by decide +kernel
theorem dX12_isTested_17 : decode cX12_isTested 17 = .ok (.invokestatic 179, 3) := by decide +kernel
theorem dX12_isTested_20 : decode cX12_isTested 20 = .ok (.iconst 3, 1) := by decide +kernel
theorem dX12_isTested_21 : decode cX12_isTested 21 = .ok (.if_icmp .le 9, 3) := by decide +kernel
theorem dX12_isTested_24 : decode cX12_isTested 24 = .ok (.iinc 1 (-1), 3) := by decide +kernel
theorem dX12_isTested_27 : decode cX12_isTested 27 = .ok (.goto (-20), 3) := by decide +kernel
theorem dX12_isTested_30 : decode cX12_isTested 30 = .ok (.iload_n 1, 1) := by decide +kernel
theorem dX12_isTested_31 : decode cX12_isTested 31 = .ok (.ifCond .lt 20, 3) := by decide +kernel
theorem dX12_isTested_34 : decode cX12_isTested 34 = .ok (.aload_n 0, 1) := by decide +kernel
theorem dX12_isTested_35 : decode cX12_isTested 35 = .ok (.getfield 34, 3) := by decide +kernel
theorem dX12_isTested_38 : decode cX12_isTested 38 = .ok (.iload_n 1, 1) := by decide +kernel
theorem dX12_isTested_39 : decode cX12_isTested 39 = .ok (.iaload, 1) := by decide +kernel
theorem dX12_isTested_40 : decode cX12_isTested 40 = .ok (.invokestatic 179, 3) := by decide +kernel
theorem dX12_isTested_43 : decode cX12_isTested 43 = .ok (.iconst 3, 1) := by decide +kernel
theorem dX12_isTested_44 : decode cX12_isTested 44 = .ok (.if_icmp .ne 7, 3) := by decide +kernel
theorem dX12_isTested_47 : decode cX12_isTested 47 = .ok (.iconst 1, 1) := by decide +kernel
theorem dX12_isTested_48 : decode cX12_isTested 48 = .ok (.goto 4, 3) := by decide +kernel
theorem dX12_isTested_51 : decode cX12_isTested 51 = .ok (.iconst 0, 1) := by decide +kernel
theorem dX12_isTested_52 : decode cX12_isTested 52 = .ok (.ireturn, 1) := by decide +kernel
theorem dX12_hasOpen_0 : decode cX12_hasOpen 0 = .ok (.iconst 0, 1) := by decide +kernel
theorem dX12_hasOpen_1 : decode cX12_hasOpen 1 = .ok (.istore_n 1, 1) := by decide +kernel
theorem dX12_hasOpen_2 : decode cX12_hasOpen 2 = .ok (.iconst 0, 1) := by decide +kernel
theorem dX12_hasOpen_3 : decode cX12_hasOpen 3 = .ok (.istore_n 2, 1) := by decide +kernel
theorem dX12_hasOpen_4 : decode cX12_hasOpen 4 = .ok (.iload_n 2, 1) := by decide +kernel
theorem dX12_hasOpen_5 : decode cX12_hasOpen 5 = .ok (.aload_n 0, 1) := by decide +kernel
theorem dX12_hasOpen_6 : decode cX12_hasOpen 6 = .ok (.getfield 176, 3) := by decide +kernel
theorem dX12_hasOpen_9 : decode cX12_hasOpen 9 = .ok (.if_icmp .ge 30, 3) := by decide +kernel
theorem dX12_hasOpen_12 : decode cX12_hasOpen 12 = .ok (.iload_n 1, 1) := by decide +kernel
theorem dX12_hasOpen_13 : decode cX12_hasOpen 13 = .ok (.ifCond .ne 14, 3) := by decide +kernel
theorem dX12_hasOpen_16 : decode cX12_hasOpen 16 = .ok (.aload_n 0, 1) := by decide +kernel
theorem dX12_hasOpen_17 : decode cX12_hasOpen 17 = .ok (.getfield 34, 3) := by decide +kernel
theorem dX12_hasOpen_20 : decode cX12_hasOpen 20 = .ok (.iload_n 2, 1) := by decide +kernel
theorem dX12_hasOpen_21 : decode cX12_hasOpen 21 = .ok (.iaload, 1) := by decide +kernel
theorem dX12_hasOpen_22 : decode cX12_hasOpen 22 = .ok (.bipush 40, 2) := by decide +kernel
theorem dX12_hasOpen_24 : decode cX12_hasOpen 24 = .ok (.if_icmp .ne 7, 3) := by decide +kernel
theorem dX12_hasOpen_27 : decode cX12_hasOpen 27 = .ok (.iconst 1, 1) := by decide +kernel
theorem dX12_hasOpen_28 : decode cX12_hasOpen 28 = .ok (.goto 4, 3) := by decide +kernel
theorem dX12_hasOpen_31 : decode cX12_hasOpen 31 = .ok (.iconst 0, 1) := by decide +kernel
theorem dX12_hasOpen_32 : decode cX12_hasOpen 32 = .ok (.istore_n 1, 1) := by decide +kernel
theorem dX12_hasOpen_33 : decode cX12_hasOpen 33 = .ok (.iinc 2 1, 3) := by decide +kernel
theorem dX12_hasOpen_36 : decode cX12_hasOpen 36 = .ok (.goto (-32), 3) := by decide +kernel
theorem dX12_hasOpen_39 : decode cX12_hasOpen 39 = .ok (.iload_n 1, 1) := by decide +kernel
theorem dX12_hasOpen_40 : decode cX12_hasOpen 40 = .ok (.ireturn, 1) := by decide +kernel
theorem dX12_readsOne_0 : decode cX12_readsOne 0 = .ok (.aload_n 0, 1) := by decide +kernel
theorem dX12_readsOne_1 : decode cX12_readsOne 1 = .ok (.aload_n 0, 1) := by decide +kernel
theorem dX12_readsOne_2 : decode cX12_readsOne 2 = .ok (.getfield 186, 3) := by decide +kernel
theorem dX12_readsOne_5 : decode cX12_readsOne 5 = .ok (.invokevirtual 189, 3) := by decide +kernel
theorem dX12_readsOne_8 : decode cX12_readsOne 8 = .ok (.istore_n 2, 1) := by decide +kernel
theorem dX12_readsOne_9 : decode cX12_readsOne 9 = .ok (.iload_n 2, 1) := by decide +kernel
theorem dX12_readsOne_10 : decode cX12_readsOne 10 = .ok (.bipush 33, 2) := by decide +kernel
theorem dX12_readsOne_12 : decode cX12_readsOne 12 = .ok (.if_icmp .eq 9, 3) := by decide +kernel
theorem dX12_readsOne_15 : decode cX12_readsOne 15 = .ok (.iload_n 2, 1) := by decide +kernel
theorem dX12_readsOne_16 : decode cX12_readsOne 16 = .ok (.bipush 40, 2) := by decide +kernel
theorem dX12_readsOne_18 : decode cX12_readsOne 18 = .ok (.if_icmp .ne 55, 3) := by decide +kernel
theorem dX12_readsOne_21 : decode cX12_readsOne 21 = .ok (.aload_n 0, 1) := by decide +kernel
theorem dX12_readsOne_22 : decode cX12_readsOne 22 = .ok (.invokevirtual 192, 3) := by decide +kernel
theorem dX12_readsOne_25 : decode cX12_readsOne 25 = .ok (.iconst 5, 1) := by decide +kernel
theorem dX12_readsOne_26 : decode cX12_readsOne 26 = .ok (.if_icmp .ne 5, 3) := by decide +kernel
theorem dX12_readsOne_29 : decode cX12_readsOne 29 = .ok (.iconst 0, 1) := by decide +kernel
theorem dX12_readsOne_30 : decode cX12_readsOne 30 = .ok (.ireturn, 1) := by decide +kernel
theorem dX12_readsOne_31 : decode cX12_readsOne 31 = .ok (.aload_n 0, 1) := by decide +kernel
theorem dX12_readsOne_32 : decode cX12_readsOne 32 = .ok (.getfield 34, 3) := by decide +kernel
theorem dX12_readsOne_35 : decode cX12_readsOne 35 = .ok (.aload_n 0, 1) := by decide +kernel
theorem dX12_readsOne_36 : decode cX12_readsOne 36 = .ok (.getfield 176, 3) := by decide +kernel
theorem dX12_readsOne_39 : decode cX12_readsOne 39 = .ok (.iload_n 2, 1) := by decide +kernel
theorem dX12_readsOne_40 : decode cX12_readsOne 40 = .ok (.iastore, 1) := by decide +kernel
theorem dX12_readsOne_41 : decode cX12_readsOne 41 = .ok (.aload_n 0, 1) := by decide +kernel
theorem dX12_readsOne_42 : decode cX12_readsOne 42 = .ok (.dup, 1) := by decide +kernel
theorem dX12_readsOne_43 : decode cX12_readsOne 43 = .ok (.getfield 176, 3) := by decide +kernel
theorem dX12_readsOne_46 : decode cX12_readsOne 46 = .ok (.iconst 1, 1) := by decide +kernel
theorem dX12_readsOne_47 : decode cX12_readsOne 47 = .ok (.iadd, 1) := by decide +kernel
theorem dX12_readsOne_48 : decode cX12_readsOne 48 = .ok (.putfield 176, 3) := by decide +kernel
theorem dX12_readsOne_51 : decode cX12_readsOne 51 = .ok (.aload_n 0, 1) := by decide +kernel
theorem dX12_readsOne_52 : decode cX12_readsOne 52 = .ok (.dup, 1) := by decide +kernel
theorem dX12_readsOne_53 : decode cX12_readsOne 53 = .ok (.getfield 186, 3) := by decide +kernel
theorem dX12_readsOne_56 : decode cX12_readsOne 56 = .ok (.iconst 1, 1) := by decide +kernel
theorem dX12_readsOne_57 : decode cX12_readsOne 57 = .ok (.iadd, 1) := by decide +kernel
theorem dX12_readsOne_58 : decode cX12_readsOne 58 = .ok (.putfield 186, 3) := by decide +kernel
theorem dX12_readsOne_61 : decode cX12_readsOne 61 = .ok (.aload_n 0, 1) := by decide +kernel
theorem dX12_readsOne_62 : decode cX12_readsOne 62 = .ok (.aload_n 0, 1) := by decide +kernel
theorem dX12_readsOne_63 : decode cX12_readsOne 63 = .ok (.getfield 186, 3) := by decide +kernel
theorem dX12_readsOne_66 : decode cX12_readsOne 66 = .ok (.invokevirtual 189, 3) := by decide +kernel
theorem dX12_readsOne_69 : decode cX12_readsOne 69 = .ok (.istore_n 2, 1) := by decide +kernel
theorem dX12_readsOne_70 : decode cX12_readsOne 70 = .ok (.goto (-61), 3) := by decide +kernel
theorem dX12_readsOne_73 : decode cX12_readsOne 73 = .ok (.iload_n 2, 1) := by decide +kernel
theorem dX12_readsOne_74 : decode cX12_readsOne 74 = .ok (.ifCond .ge 7, 3) := by decide +kernel
theorem dX12_readsOne_77 : decode cX12_readsOne 77 = .ok (.iconst (-1), 1) := by decide +kernel
theorem dX12_readsOne_78 : decode cX12_readsOne 78 = .ok (.goto 8, 3) := by decide +kernel
theorem dX12_readsOne_81 : decode cX12_readsOne 81 = .ok (.iload_n 1, 1) := by decide +kernel
theorem dX12_readsOne_82 : decode cX12_readsOne 82 = .ok (.iload_n 2, 1) := by decide +kernel
theorem dX12_readsOne_83 : decode cX12_readsOne 83 = .ok (.invokestatic 196, 3) := by decide +kernel
theorem dX12_readsOne_86 : decode cX12_readsOne 86 = .ok (.istore_n 3, 1) := by decide +kernel
theorem dX12_readsOne_87 : decode cX12_readsOne 87 = .ok (.iload_n 3, 1) := by decide +kernel
theorem dX12_readsOne_88 : decode cX12_readsOne 88 = .ok (.ifCond .lt 22, 3) := by decide +kernel
theorem dX12_readsOne_91 : decode cX12_readsOne 91 = .ok (.aload_n 0, 1) := by decide +kernel
theorem dX12_readsOne_92 : decode cX12_readsOne 92 = .ok (.iconst (-1), 1) := by decide +kernel
theorem dX12_readsOne_93 : decode cX12_readsOne 93 = .ok (.iload_n 3, 1) := by decide +kernel
theorem dX12_readsOne_94 : decode cX12_readsOne 94 = .ok (.isub, 1) := by decide +kernel
theorem dX12_readsOne_95 : decode cX12_readsOne 95 = .ok (.invokevirtual 182, 3) := by decide +kernel
theorem dX12_readsOne_98 : decode cX12_readsOne 98 = .ok (.aload_n 0, 1) := by decide +kernel
theorem dX12_readsOne_99 : decode cX12_readsOne 99 = .ok (.dup, 1) := by decide +kernel
theorem dX12_readsOne_100 : decode cX12_readsOne 100 = .ok (.getfield 186, 3) := by decide +kernel
theorem dX12_readsOne_103 : decode cX12_readsOne 103 = .ok (.iconst 1, 1) := by decide +kernel
theorem dX12_readsOne_104 : decode cX12_readsOne 104 = .ok (.iadd, 1) := by decide +kernel
theorem dX12_readsOne_105 : decode cX12_readsOne 105 = .ok (.putfield 186, 3) := by decide +kernel
theorem dX12_readsOne_108 : decode cX12_readsOne 108 = .ok (.iconst 1, 1) := by decide +kernel
theorem dX12_readsOne_109 : decode cX12_readsOne 109 = .ok (.ireturn, 1) := by decide +kernel
theorem dX12_readsOne_110 : decode cX12_readsOne 110 = .ok (.iload_n 2, 1) := by decide +kernel
theorem dX12_readsOne_111 : decode cX12_readsOne 111 = .ok (.invokestatic 199, 3) := by decide +kernel
theorem dX12_readsOne_114 : decode cX12_readsOne 114 = .ok (.ifCond .ne 5, 3) := by decide +kernel
theorem dX12_readsOne_117 : decode cX12_readsOne 117 = .ok (.iconst 0, 1) := by decide +kernel
theorem dX12_readsOne_118 : decode cX12_readsOne 118 = .ok (.ireturn, 1) := by decide +kernel
theorem dX12_readsOne_119 : decode cX12_readsOne 119 = .ok (.iconst 0, 1) := by decide +kernel
theorem dX12_readsOne_120 : decode cX12_readsOne 120 = .ok (.istore 4, 2) := by decide +kernel
theorem dX12_readsOne_122 : decode cX12_readsOne 122 = .ok (.aload_n 0, 1) := by decide +kernel
theorem dX12_readsOne_123 : decode cX12_readsOne 123 = .ok (.getfield 186, 3) := by decide +kernel
theorem dX12_readsOne_126 : decode cX12_readsOne 126 = .ok (.istore 5, 2) := by decide +kernel
theorem dX12_readsOne_128 : decode cX12_readsOne 128 = .ok (.aload_n 0, 1) := by decide +kernel
theorem dX12_readsOne_129 : decode cX12_readsOne 129 = .ok (.aload_n 0, 1) := by decide +kernel
theorem dX12_readsOne_130 : decode cX12_readsOne 130 = .ok (.getfield 186, 3) := by decide +kernel
theorem dX12_readsOne_133 : decode cX12_readsOne 133 = .ok (.invokevirtual 189, 3) := by decide +kernel
theorem dX12_readsOne_136 : decode cX12_readsOne 136 = .ok (.invokestatic 199, 3) := by decide +kernel
theorem dX12_readsOne_139 : decode cX12_readsOne 139 = .ok (.ifCond .eq 46, 3) := by decide +kernel
theorem dX12_readsOne_142 : decode cX12_readsOne 142 = .ok (.aload_n 0, 1) := by decide +kernel
theorem dX12_readsOne_143 : decode cX12_readsOne 143 = .ok (.getfield 186, 3) := by decide +kernel
theorem dX12_readsOne_146 : decode cX12_readsOne 146 = .ok (.iload 5, 2) := by decide +kernel
theorem dX12_readsOne_148 : decode cX12_readsOne 148 = .ok (.isub, 1) := by decide +kernel
theorem dX12_readsOne_149 : decode cX12_readsOne 149 = .ok (.iconst 4, 1) := by decide +kernel
theorem dX12_readsOne_150 : decode cX12_readsOne 150 = .ok (.if_icmp .ge 35, 3) := by decide +kernel
theorem dX12_readsOne_153 : decode cX12_readsOne 153 = .ok (.bipush 10, 2) := by decide +kernel
theorem dX12_readsOne_155 : decode cX12_readsOne 155 = .ok (.iload 4, 2) := by decide +kernel
theorem dX12_readsOne_157 : decode cX12_readsOne 157 = .ok (.imul, 1) := by decide +kernel
theorem dX12_readsOne_158 : decode cX12_readsOne 158 = .ok (.aload_n 0, 1) := by decide +kernel
theorem dX12_readsOne_159 : decode cX12_readsOne 159 = .ok (.aload_n 0, 1) := by decide +kernel
theorem dX12_readsOne_160 : decode cX12_readsOne 160 = .ok (.getfield 186, 3) := by decide +kernel
theorem dX12_readsOne_163 : decode cX12_readsOne 163 = .ok (.invokevirtual 189, 3) := by decide +kernel
theorem dX12_readsOne_166 : decode cX12_readsOne 166 = .ok (.iadd, 1) := by decide +kernel
theorem dX12_readsOne_167 : decode cX12_readsOne 167 = .ok (.bipush 48, 2) := by decide +kernel
theorem dX12_readsOne_169 : decode cX12_readsOne 169 = .ok (.isub, 1) := by decide +kernel
theorem dX12_readsOne_170 : decode cX12_readsOne 170 = .ok (.istore 4, 2) := by decide +kernel
theorem dX12_readsOne_172 : decode cX12_readsOne 172 = .ok (.aload_n 0, 1) := by decide +kernel
theorem dX12_readsOne_173 : decode cX12_readsOne 173 = .ok (.dup, 1) := by decide +kernel
theorem dX12_readsOne_174 : decode cX12_readsOne 174 = .ok (.getfield 186, 3) := by decide +kernel
theorem dX12_readsOne_177 : decode cX12_readsOne 177 = .ok (.iconst 1, 1) := by decide +kernel
theorem dX12_readsOne_178 : decode cX12_readsOne 178 = .ok (.iadd, 1) := by decide +kernel
theorem dX12_readsOne_179 : decode cX12_readsOne 179 = .ok (.putfield 186, 3) := by decide +kernel
theorem dX12_readsOne_182 : decode cX12_readsOne 182 = .ok (.goto (-54), 3) := by decide +kernel
theorem dX12_readsOne_185 : decode cX12_readsOne 185 = .ok (.aload_n 0, 1) := by decide +kernel
theorem dX12_readsOne_186 : decode cX12_readsOne 186 = .ok (.iload 4, 2) := by decide +kernel
theorem dX12_readsOne_188 : decode cX12_readsOne 188 = .ok (.invokevirtual 182, 3) := by decide +kernel
theorem dX12_readsOne_191 : decode cX12_readsOne 191 = .ok (.iconst 1, 1) := by decide +kernel
theorem dX12_readsOne_192 : decode cX12_readsOne 192 = .ok (.ireturn, 1) := by decide +kernel
theorem dX12_denies_0 : decode cX12_denies 0 = .ok (.aload_n 0, 1) := by decide +kernel
theorem dX12_denies_1 : decode cX12_denies 1 = .ok (.getfield 176, 3) := by decide +kernel
theorem dX12_denies_4 : decode cX12_denies 4 = .ok (.ifCond .le 39, 3) := by decide +kernel
theorem dX12_denies_7 : decode cX12_denies 7 = .ok (.aload_n 0, 1) := by decide +kernel
theorem dX12_denies_8 : decode cX12_denies 8 = .ok (.getfield 34, 3) := by decide +kernel
theorem dX12_denies_11 : decode cX12_denies 11 = .ok (.aload_n 0, 1) := by decide +kernel
theorem dX12_denies_12 : decode cX12_denies 12 = .ok (.getfield 176, 3) := by decide +kernel
theorem dX12_denies_15 : decode cX12_denies 15 = .ok (.iconst 1, 1) := by decide +kernel
theorem dX12_denies_16 : decode cX12_denies 16 = .ok (.isub, 1) := by decide +kernel
theorem dX12_denies_17 : decode cX12_denies 17 = .ok (.iaload, 1) := by decide +kernel
theorem dX12_denies_18 : decode cX12_denies 18 = .ok (.bipush 33, 2) := by decide +kernel
theorem dX12_denies_20 : decode cX12_denies 20 = .ok (.if_icmp .ne 23, 3) := by decide +kernel
theorem dX12_denies_23 : decode cX12_denies 23 = .ok (.aload_n 0, 1) := by decide +kernel
theorem dX12_denies_24 : decode cX12_denies 24 = .ok (.dup, 1) := by decide +kernel
theorem dX12_denies_25 : decode cX12_denies 25 = .ok (.getfield 176, 3) := by decide +kernel
theorem dX12_denies_28 : decode cX12_denies 28 = .ok (.iconst 1, 1) := by decide +kernel
theorem dX12_denies_29 : decode cX12_denies 29 = .ok (.isub, 1) := by decide +kernel
theorem dX12_denies_30 : decode cX12_denies 30 = .ok (.putfield 176, 3) := by decide +kernel
theorem dX12_denies_33 : decode cX12_denies 33 = .ok (.aload_n 0, 1) := by decide +kernel
theorem dX12_denies_34 : decode cX12_denies 34 = .ok (.sipush (-133), 3) := by decide +kernel
theorem dX12_denies_37 : decode cX12_denies 37 = .ok (.invokevirtual 182, 3) := by decide +kernel
theorem dX12_denies_40 : decode cX12_denies 40 = .ok (.goto (-40), 3) := by decide +kernel
theorem dX12_denies_43 : decode cX12_denies 43 = .ok (.return_, 1) := by decide +kernel
theorem dX12_reads_0 : decode cX12_reads 0 = .ok (.aload_n 0, 1) := by decide +kernel
theorem dX12_reads_1 : decode cX12_reads 1 = .ok (.iconst 0, 1) := by decide +kernel
theorem dX12_reads_2 : decode cX12_reads 2 = .ok (.putfield 172, 3) := by decide +kernel
theorem dX12_reads_5 : decode cX12_reads 5 = .ok (.aload_n 0, 1) := by decide +kernel
theorem dX12_reads_6 : decode cX12_reads 6 = .ok (.iconst 0, 1) := by decide +kernel
theorem dX12_reads_7 : decode cX12_reads 7 = .ok (.putfield 176, 3) := by decide +kernel
theorem dX12_reads_10 : decode cX12_reads 10 = .ok (.aload_n 0, 1) := by decide +kernel
theorem dX12_reads_11 : decode cX12_reads 11 = .ok (.iconst 0, 1) := by decide +kernel
theorem dX12_reads_12 : decode cX12_reads 12 = .ok (.putfield 186, 3) := by decide +kernel
theorem dX12_reads_15 : decode cX12_reads 15 = .ok (.aload_n 0, 1) := by decide +kernel
theorem dX12_reads_16 : decode cX12_reads 16 = .ok (.iload_n 1, 1) := by decide +kernel
theorem dX12_reads_17 : decode cX12_reads 17 = .ok (.invokevirtual 202, 3) := by decide +kernel
theorem dX12_reads_20 : decode cX12_reads 20 = .ok (.ifCond .ne 5, 3) := by decide +kernel
theorem dX12_reads_23 : decode cX12_reads 23 = .ok (.iconst 0, 1) := by decide +kernel
theorem dX12_reads_24 : decode cX12_reads 24 = .ok (.ireturn, 1) := by decide +kernel
theorem dX12_reads_25 : decode cX12_reads 25 = .ok (.aload_n 0, 1) := by decide +kernel
theorem dX12_reads_26 : decode cX12_reads 26 = .ok (.invokevirtual 205, 3) := by decide +kernel
theorem dX12_reads_29 : decode cX12_reads 29 = .ok (.aload_n 0, 1) := by decide +kernel
theorem dX12_reads_30 : decode cX12_reads 30 = .ok (.aload_n 0, 1) := by decide +kernel
theorem dX12_reads_31 : decode cX12_reads 31 = .ok (.getfield 186, 3) := by decide +kernel
theorem dX12_reads_34 : decode cX12_reads 34 = .ok (.invokevirtual 189, 3) := by decide +kernel
theorem dX12_reads_37 : decode cX12_reads 37 = .ok (.bipush 41, 2) := by decide +kernel
theorem dX12_reads_39 : decode cX12_reads 39 = .ok (.if_icmp .ne 42, 3) := by decide +kernel
theorem dX12_reads_42 : decode cX12_reads 42 = .ok (.aload_n 0, 1) := by decide +kernel
theorem dX12_reads_43 : decode cX12_reads 43 = .ok (.invokevirtual 208, 3) := by decide +kernel
theorem dX12_reads_46 : decode cX12_reads 46 = .ok (.ifCond .eq 35, 3) := by decide +kernel
theorem dX12_reads_49 : decode cX12_reads 49 = .ok (.aload_n 0, 1) := by decide +kernel
theorem dX12_reads_50 : decode cX12_reads 50 = .ok (.iconst 1, 1) := by decide +kernel
theorem dX12_reads_51 : decode cX12_reads 51 = .ok (.invokevirtual 212, 3) := by decide +kernel
theorem dX12_reads_54 : decode cX12_reads 54 = .ok (.aload_n 0, 1) := by decide +kernel
theorem dX12_reads_55 : decode cX12_reads 55 = .ok (.dup, 1) := by decide +kernel
theorem dX12_reads_56 : decode cX12_reads 56 = .ok (.getfield 176, 3) := by decide +kernel
theorem dX12_reads_59 : decode cX12_reads 59 = .ok (.iconst 1, 1) := by decide +kernel
theorem dX12_reads_60 : decode cX12_reads 60 = .ok (.isub, 1) := by decide +kernel
theorem dX12_reads_61 : decode cX12_reads 61 = .ok (.putfield 176, 3) := by decide +kernel
theorem dX12_reads_64 : decode cX12_reads 64 = .ok (.aload_n 0, 1) := by decide +kernel
theorem dX12_reads_65 : decode cX12_reads 65 = .ok (.dup, 1) := by decide +kernel
theorem dX12_reads_66 : decode cX12_reads 66 = .ok (.getfield 186, 3) := by decide +kernel
theorem dX12_reads_69 : decode cX12_reads 69 = .ok (.iconst 1, 1) := by decide +kernel
theorem dX12_reads_70 : decode cX12_reads 70 = .ok (.iadd, 1) := by decide +kernel
theorem dX12_reads_71 : decode cX12_reads 71 = .ok (.putfield 186, 3) := by decide +kernel
theorem dX12_reads_74 : decode cX12_reads 74 = .ok (.aload_n 0, 1) := by decide +kernel
theorem dX12_reads_75 : decode cX12_reads 75 = .ok (.invokevirtual 205, 3) := by decide +kernel
theorem dX12_reads_78 : decode cX12_reads 78 = .ok (.goto (-49), 3) := by decide +kernel
theorem dX12_reads_81 : decode cX12_reads 81 = .ok (.aload_n 0, 1) := by decide +kernel
theorem dX12_reads_82 : decode cX12_reads 82 = .ok (.getfield 186, 3) := by decide +kernel
theorem dX12_reads_85 : decode cX12_reads 85 = .ok (.aload_n 0, 1) := by decide +kernel
theorem dX12_reads_86 : decode cX12_reads 86 = .ok (.getfield 7, 3) := by decide +kernel
theorem dX12_reads_89 : decode cX12_reads 89 = .ok (.iconst 4, 1) := by decide +kernel
theorem dX12_reads_90 : decode cX12_reads 90 = .ok (.iaload, 1) := by decide +kernel
theorem dX12_reads_91 : decode cX12_reads 91 = .ok (.if_icmp .ne 19, 3) := by decide +kernel
theorem dX12_reads_94 : decode cX12_reads 94 = .ok (.aload_n 0, 1) := by decide +kernel
theorem dX12_reads_95 : decode cX12_reads 95 = .ok (.invokevirtual 208, 3) := by decide +kernel
theorem dX12_reads_98 : decode cX12_reads 98 = .ok (.ifCond .eq 5, 3) := by decide +kernel
theorem dX12_reads_101 : decode cX12_reads 101 = .ok (.iconst 0, 1) := by decide +kernel
theorem dX12_reads_102 : decode cX12_reads 102 = .ok (.ireturn, 1) := by decide +kernel
theorem dX12_reads_103 : decode cX12_reads 103 = .ok (.aload_n 0, 1) := by decide +kernel
theorem dX12_reads_104 : decode cX12_reads 104 = .ok (.iconst 1, 1) := by decide +kernel
theorem dX12_reads_105 : decode cX12_reads 105 = .ok (.invokevirtual 212, 3) := by decide +kernel
theorem dX12_reads_108 : decode cX12_reads 108 = .ok (.iconst 1, 1) := by decide +kernel
theorem dX12_reads_109 : decode cX12_reads 109 = .ok (.ireturn, 1) := by decide +kernel
theorem dX12_reads_110 : decode cX12_reads 110 = .ok (.aload_n 0, 1) := by decide +kernel
theorem dX12_reads_111 : decode cX12_reads 111 = .ok (.aload_n 0, 1) := by decide +kernel
theorem dX12_reads_112 : decode cX12_reads 112 = .ok (.getfield 186, 3) := by decide +kernel
theorem dX12_reads_115 : decode cX12_reads 115 = .ok (.invokevirtual 189, 3) := by decide +kernel
theorem dX12_reads_118 : decode cX12_reads 118 = .ok (.istore_n 2, 1) := by decide +kernel
theorem dX12_reads_119 : decode cX12_reads 119 = .ok (.iload_n 2, 1) := by decide +kernel
theorem dX12_reads_120 : decode cX12_reads 120 = .ok (.invokestatic 179, 3) := by decide +kernel
theorem dX12_reads_123 : decode cX12_reads 123 = .ok (.istore_n 3, 1) := by decide +kernel
theorem dX12_reads_124 : decode cX12_reads 124 = .ok (.iload_n 3, 1) := by decide +kernel
theorem dX12_reads_125 : decode cX12_reads 125 = .ok (.ifCond .eq 15, 3) := by decide +kernel
theorem dX12_reads_128 : decode cX12_reads 128 = .ok (.iload_n 3, 1) := by decide +kernel
theorem dX12_reads_129 : decode cX12_reads 129 = .ok (.iconst 3, 1) := by decide +kernel
theorem dX12_reads_130 : decode cX12_reads 130 = .ok (.if_icmp .ne 12, 3) := by decide +kernel
theorem dX12_reads_133 : decode cX12_reads 133 = .ok (.aload_n 0, 1) := by decide +kernel
theorem dX12_reads_134 : decode cX12_reads 134 = .ok (.invokevirtual 215, 3) := by decide +kernel
theorem dX12_reads_137 : decode cX12_reads 137 = .ok (.ifCond .eq 5, 3) := by decide +kernel
theorem dX12_reads_140 : decode cX12_reads 140 = .ok (.iconst 0, 1) := by decide +kernel
theorem dX12_reads_141 : decode cX12_reads 141 = .ok (.ireturn, 1) := by decide +kernel
theorem dX12_reads_142 : decode cX12_reads 142 = .ok (.aload_n 0, 1) := by decide +kernel
theorem dX12_reads_143 : decode cX12_reads 143 = .ok (.iload_n 3, 1) := by decide +kernel
theorem dX12_reads_144 : decode cX12_reads 144 = .ok (.invokevirtual 212, 3) := by decide +kernel
theorem dX12_reads_147 : decode cX12_reads 147 = .ok (.aload_n 0, 1) := by decide +kernel
theorem dX12_reads_148 : decode cX12_reads 148 = .ok (.getfield 34, 3) := by decide +kernel
theorem dX12_reads_151 : decode cX12_reads 151 = .ok (.aload_n 0, 1) := by decide +kernel
theorem dX12_reads_152 : decode cX12_reads 152 = .ok (.getfield 176, 3) := by decide +kernel
theorem dX12_reads_155 : decode cX12_reads 155 = .ok (.iload_n 2, 1) := by decide +kernel
theorem dX12_reads_156 : decode cX12_reads 156 = .ok (.iastore, 1) := by decide +kernel
theorem dX12_reads_157 : decode cX12_reads 157 = .ok (.aload_n 0, 1) := by decide +kernel
theorem dX12_reads_158 : decode cX12_reads 158 = .ok (.dup, 1) := by decide +kernel
theorem dX12_reads_159 : decode cX12_reads 159 = .ok (.getfield 176, 3) := by decide +kernel
theorem dX12_reads_162 : decode cX12_reads 162 = .ok (.iconst 1, 1) := by decide +kernel
theorem dX12_reads_163 : decode cX12_reads 163 = .ok (.iadd, 1) := by decide +kernel
theorem dX12_reads_164 : decode cX12_reads 164 = .ok (.putfield 176, 3) := by decide +kernel
theorem dX12_reads_167 : decode cX12_reads 167 = .ok (.aload_n 0, 1) := by decide +kernel
theorem dX12_reads_168 : decode cX12_reads 168 = .ok (.dup, 1) := by decide +kernel
theorem dX12_reads_169 : decode cX12_reads 169 = .ok (.getfield 186, 3) := by decide +kernel
theorem dX12_reads_172 : decode cX12_reads 172 = .ok (.iconst 1, 1) := by decide +kernel
theorem dX12_reads_173 : decode cX12_reads 173 = .ok (.iadd, 1) := by decide +kernel
theorem dX12_reads_174 : decode cX12_reads 174 = .ok (.putfield 186, 3) := by decide +kernel
theorem dX12_reads_177 : decode cX12_reads 177 = .ok (.goto (-162), 3) := by decide +kernel
theorem dX12_text_0 : decode cX12_text 0 = .ok (.iload_n 1, 1) := by decide +kernel
theorem dX12_text_1 : decode cX12_text 1 = .ok (.iconst 0, 1) := by decide +kernel
theorem dX12_text_2 : decode cX12_text 2 = .ok (.iconst 2, 1) := by decide +kernel
theorem dX12_text_3 : decode cX12_text 3 = .ok (.invokestatic 91, 3) := by decide +kernel
theorem dX12_text_6 : decode cX12_text 6 = .ok (.ifCond .ne 9, 3) := by decide +kernel
theorem dX12_text_9 : decode cX12_text 9 = .ok (.aload_n 0, 1) := by decide +kernel
theorem dX12_text_10 : decode cX12_text 10 = .ok (.iconst 1, 1) := by decide +kernel
theorem dX12_text_11 : decode cX12_text 11 = .ok (.invokevirtual 95, 3) := by decide +kernel
theorem dX12_text_14 : decode cX12_text 14 = .ok (.ireturn, 1) := by decide +kernel
theorem dX12_text_15 : decode cX12_text 15 = .ok (.aload_n 0, 1) := by decide +kernel
theorem dX12_text_16 : decode cX12_text 16 = .ok (.iload_n 1, 1) := by decide +kernel
theorem dX12_text_17 : decode cX12_text 17 = .ok (.invokevirtual 218, 3) := by decide +kernel
theorem dX12_text_20 : decode cX12_text 20 = .ok (.istore_n 2, 1) := by decide +kernel
theorem dX12_text_21 : decode cX12_text 21 = .ok (.aload_n 0, 1) := by decide +kernel
theorem dX12_text_22 : decode cX12_text 22 = .ok (.getfield 7, 3) := by decide +kernel
theorem dX12_text_25 : decode cX12_text 25 = .ok (.iconst 4, 1) := by decide +kernel
theorem dX12_text_26 : decode cX12_text 26 = .ok (.iconst 0, 1) := by decide +kernel
theorem dX12_text_27 : decode cX12_text 27 = .ok (.iastore, 1) := by decide +kernel
theorem dX12_text_28 : decode cX12_text 28 = .ok (.iload_n 2, 1) := by decide +kernel
theorem dX12_text_29 : decode cX12_text 29 = .ok (.ifCond .ne 11, 3) := by decide +kernel
theorem dX12_text_32 : decode cX12_text 32 = .ok (.bipush (-10), 2) := by decide +kernel
theorem dX12_text_34 : decode cX12_text 34 = .ok (.aload_n 0, 1) := by decide +kernel
theorem dX12_text_35 : decode cX12_text 35 = .ok (.getfield 186, 3) := by decide +kernel
theorem dX12_text_38 : decode cX12_text 38 = .ok (.isub, 1) := by decide +kernel
theorem dX12_text_39 : decode cX12_text 39 = .ok (.ireturn, 1) := by decide +kernel
theorem dX12_text_40 : decode cX12_text 40 = .ok (.sipush 310, 3) := by decide +kernel
theorem dX12_text_43 : decode cX12_text 43 = .ok (.bipush 52, 2) := by decide +kernel
theorem dX12_text_45 : decode cX12_text 45 = .ok (.iload_n 1, 1) := by decide +kernel
theorem dX12_text_46 : decode cX12_text 46 = .ok (.imul, 1) := by decide +kernel
theorem dX12_text_47 : decode cX12_text 47 = .ok (.iadd, 1) := by decide +kernel
theorem dX12_text_48 : decode cX12_text 48 = .ok (.istore_n 3, 1) := by decide +kernel
theorem dX12_text_49 : decode cX12_text 49 = .ok (.aload_n 0, 1) := by decide +kernel
theorem dX12_text_50 : decode cX12_text 50 = .ok (.getfield 7, 3) := by decide +kernel
theorem dX12_text_53 : decode cX12_text 53 = .ok (.iload_n 3, 1) := by decide +kernel
theorem dX12_text_54 : decode cX12_text 54 = .ok (.aload_n 0, 1) := by decide +kernel
theorem dX12_text_55 : decode cX12_text 55 = .ok (.getfield 172, 3) := by decide +kernel
theorem dX12_text_58 : decode cX12_text 58 = .ok (.iastore, 1) := by decide +kernel
theorem dX12_text_59 : decode cX12_text 59 = .ok (.iconst 0, 1) := by decide +kernel
theorem dX12_text_60 : decode cX12_text 60 = .ok (.istore 4, 2) := by decide +kernel
theorem dX12_text_62 : decode cX12_text 62 = .ok (.iload 4, 2) := by decide +kernel
theorem dX12_text_64 : decode cX12_text 64 = .ok (.aload_n 0, 1) := by decide +kernel
theorem dX12_text_65 : decode cX12_text 65 = .ok (.getfield 172, 3) := by decide +kernel
theorem dX12_text_68 : decode cX12_text 68 = .ok (.if_icmp .ge 27, 3) := by decide +kernel
theorem dX12_text_71 : decode cX12_text 71 = .ok (.aload_n 0, 1) := by decide +kernel
theorem dX12_text_72 : decode cX12_text 72 = .ok (.getfield 7, 3) := by decide +kernel
theorem dX12_text_75 : decode cX12_text 75 = .ok (.iload_n 3, 1) := by decide +kernel
theorem dX12_text_76 : decode cX12_text 76 = .ok (.iconst 1, 1) := by decide +kernel
theorem dX12_text_77 : decode cX12_text 77 = .ok (.iadd, 1) := by decide +kernel
theorem dX12_text_78 : decode cX12_text 78 = .ok (.iload 4, 2) := by decide +kernel
theorem dX12_text_80 : decode cX12_text 80 = .ok (.iadd, 1) := by decide +kernel
theorem dX12_text_81 : decode cX12_text 81 = .ok (.aload_n 0, 1) := by decide +kernel
theorem dX12_text_82 : decode cX12_text 82 = .ok (.getfield 31, 3) := by decide +kernel
theorem dX12_text_85 : decode cX12_text 85 = .ok (.iload 4, 2) := by decide +kernel
theorem dX12_text_87 : decode cX12_text 87 = .ok (.iaload, 1) := by decide +kernel
theorem dX12_text_88 : decode cX12_text 88 = .ok (.iastore, 1) := by decide +kernel
theorem dX12_text_89 : decode cX12_text 89 = .ok (.iinc 4 1, 3) := by decide +kernel
theorem dX12_text_92 : decode cX12_text 92 = .ok (.goto (-30), 3) := by decide +kernel
theorem dX12_text_95 : decode cX12_text 95 = .ok (.aload_n 0, 1) := by decide +kernel
theorem dX12_text_96 : decode cX12_text 96 = .ok (.iconst 0, 1) := by decide +kernel
theorem dX12_text_97 : decode cX12_text 97 = .ok (.putfield 106, 3) := by decide +kernel
theorem dX12_text_100 : decode cX12_text 100 = .ok (.iconst 1, 1) := by decide +kernel
theorem dX12_text_101 : decode cX12_text 101 = .ok (.ireturn, 1) := by decide +kernel
theorem dX12_done_0 : decode cX12_done 0 = .ok (.iload_n 0, 1) := by decide +kernel
theorem dX12_done_1 : decode cX12_done 1 = .ok (.lookupswitch 166 #[(38, 95), (42, 150), (43, 142), (45, 146), (47, 154), (60, 109), (61, 120), (62, 131), (124, 83)], 83) := by decide +kernel
theorem dX12_done_84 : decode cX12_done 84 = .ok (.iload_n 1, 1) := by decide +kernel
theorem dX12_done_85 : decode cX12_done 85 = .ok (.iload_n 2, 1) := by decide +kernel
theorem dX12_done_86 : decode cX12_done 86 = .ok (.ior, 1) := by decide +kernel
theorem dX12_done_87 : decode cX12_done 87 = .ok (.ifCond .eq 7, 3) := by decide +kernel
theorem dX12_done_90 : decode cX12_done 90 = .ok (.iconst 1, 1) := by decide +kernel
theorem dX12_done_91 : decode cX12_done 91 = .ok (.goto 4, 3) := by decide +kernel
theorem dX12_done_94 : decode cX12_done 94 = .ok (.iconst 0, 1) := by decide +kernel
theorem dX12_done_95 : decode cX12_done 95 = .ok (.ireturn, 1) := by decide +kernel
theorem dX12_done_96 : decode cX12_done 96 = .ok (.iload_n 1, 1) := by decide +kernel
theorem dX12_done_97 : decode cX12_done 97 = .ok (.ifCond .eq 11, 3) := by decide +kernel
theorem dX12_done_100 : decode cX12_done 100 = .ok (.iload_n 2, 1) := by decide +kernel
theorem dX12_done_101 : decode cX12_done 101 = .ok (.ifCond .eq 7, 3) := by decide +kernel
theorem dX12_done_104 : decode cX12_done 104 = .ok (.iconst 1, 1) := by decide +kernel
theorem dX12_done_105 : decode cX12_done 105 = .ok (.goto 4, 3) := by decide +kernel
theorem dX12_done_108 : decode cX12_done 108 = .ok (.iconst 0, 1) := by decide +kernel
theorem dX12_done_109 : decode cX12_done 109 = .ok (.ireturn, 1) := by decide +kernel
theorem dX12_done_110 : decode cX12_done 110 = .ok (.iload_n 1, 1) := by decide +kernel
theorem dX12_done_111 : decode cX12_done 111 = .ok (.iload_n 2, 1) := by decide +kernel
theorem dX12_done_112 : decode cX12_done 112 = .ok (.if_icmp .ge 7, 3) := by decide +kernel
theorem dX12_done_115 : decode cX12_done 115 = .ok (.iconst 1, 1) := by decide +kernel
theorem dX12_done_116 : decode cX12_done 116 = .ok (.goto 4, 3) := by decide +kernel
theorem dX12_done_119 : decode cX12_done 119 = .ok (.iconst 0, 1) := by decide +kernel
theorem dX12_done_120 : decode cX12_done 120 = .ok (.ireturn, 1) := by decide +kernel
theorem dX12_done_121 : decode cX12_done 121 = .ok (.iload_n 1, 1) := by decide +kernel
theorem dX12_done_122 : decode cX12_done 122 = .ok (.iload_n 2, 1) := by decide +kernel
theorem dX12_done_123 : decode cX12_done 123 = .ok (.if_icmp .ne 7, 3) := by decide +kernel
theorem dX12_done_126 : decode cX12_done 126 = .ok (.iconst 1, 1) := by decide +kernel
theorem dX12_done_127 : decode cX12_done 127 = .ok (.goto 4, 3) := by decide +kernel
theorem dX12_done_130 : decode cX12_done 130 = .ok (.iconst 0, 1) := by decide +kernel
theorem dX12_done_131 : decode cX12_done 131 = .ok (.ireturn, 1) := by decide +kernel
theorem dX12_done_132 : decode cX12_done 132 = .ok (.iload_n 1, 1) := by decide +kernel
theorem dX12_done_133 : decode cX12_done 133 = .ok (.iload_n 2, 1) := by decide +kernel
theorem dX12_done_134 : decode cX12_done 134 = .ok (.if_icmp .le 7, 3) := by decide +kernel
theorem dX12_done_137 : decode cX12_done 137 = .ok (.iconst 1, 1) := by decide +kernel
theorem dX12_done_138 : decode cX12_done 138 = .ok (.goto 4, 3) := by decide +kernel
theorem dX12_done_141 : decode cX12_done 141 = .ok (.iconst 0, 1) := by decide +kernel
theorem dX12_done_142 : decode cX12_done 142 = .ok (.ireturn, 1) := by decide +kernel
theorem dX12_done_143 : decode cX12_done 143 = .ok (.iload_n 1, 1) := by decide +kernel
theorem dX12_done_144 : decode cX12_done 144 = .ok (.iload_n 2, 1) := by decide +kernel
theorem dX12_done_145 : decode cX12_done 145 = .ok (.iadd, 1) := by decide +kernel
theorem dX12_done_146 : decode cX12_done 146 = .ok (.ireturn, 1) := by decide +kernel
theorem dX12_done_147 : decode cX12_done 147 = .ok (.iload_n 1, 1) := by decide +kernel
theorem dX12_done_148 : decode cX12_done 148 = .ok (.iload_n 2, 1) := by decide +kernel
theorem dX12_done_149 : decode cX12_done 149 = .ok (.isub, 1) := by decide +kernel
theorem dX12_done_150 : decode cX12_done 150 = .ok (.ireturn, 1) := by decide +kernel
theorem dX12_done_151 : decode cX12_done 151 = .ok (.iload_n 1, 1) := by decide +kernel
theorem dX12_done_152 : decode cX12_done 152 = .ok (.iload_n 2, 1) := by decide +kernel
theorem dX12_done_153 : decode cX12_done 153 = .ok (.imul, 1) := by decide +kernel
theorem dX12_done_154 : decode cX12_done 154 = .ok (.ireturn, 1) := by decide +kernel
theorem dX12_done_155 : decode cX12_done 155 = .ok (.iload_n 2, 1) := by decide +kernel
theorem dX12_done_156 : decode cX12_done 156 = .ok (.ifCond .ne 7, 3) := by decide +kernel
theorem dX12_done_159 : decode cX12_done 159 = .ok (.iconst 0, 1) := by decide +kernel
theorem dX12_done_160 : decode cX12_done 160 = .ok (.goto 6, 3) := by decide +kernel
theorem dX12_done_163 : decode cX12_done 163 = .ok (.iload_n 1, 1) := by decide +kernel
theorem dX12_done_164 : decode cX12_done 164 = .ok (.iload_n 2, 1) := by decide +kernel
theorem dX12_done_165 : decode cX12_done 165 = .ok (.idiv, 1) := by decide +kernel
theorem dX12_done_166 : decode cX12_done 166 = .ok (.ireturn, 1) := by decide +kernel
theorem dX12_done_167 : decode cX12_done 167 = .ok (.iload_n 2, 1) := by decide +kernel
theorem dX12_done_168 : decode cX12_done 168 = .ok (.ifCond .ne 7, 3) := by decide +kernel
theorem dX12_done_171 : decode cX12_done 171 = .ok (.iconst 0, 1) := by decide +kernel
theorem dX12_done_172 : decode cX12_done 172 = .ok (.goto 6, 3) := by decide +kernel
theorem dX12_done_175 : decode cX12_done 175 = .ok (.iload_n 1, 1) := by decide +kernel
theorem dX12_done_176 : decode cX12_done 176 = .ok (.iload_n 2, 1) := by decide +kernel
theorem dX12_done_177 : decode cX12_done 177 = .ok (.irem, 1) := by decide +kernel
theorem dX12_done_178 : decode cX12_done 178 = .ok (.ireturn, 1) := by decide +kernel
theorem dX12_comesTo_0 : decode cX12_comesTo 0 = .ok (.sipush 310, 3) := by decide +kernel
theorem dX12_comesTo_3 : decode cX12_comesTo 3 = .ok (.bipush 52, 2) := by decide +kernel
theorem dX12_comesTo_5 : decode cX12_comesTo 5 = .ok (.iload_n 1, 1) := by decide +kernel
theorem dX12_comesTo_6 : decode cX12_comesTo 6 = .ok (.imul, 1) := by decide +kernel
theorem dX12_comesTo_7 : decode cX12_comesTo 7 = .ok (.iadd, 1) := by decide +kernel
theorem dX12_comesTo_8 : decode cX12_comesTo 8 = .ok (.istore_n 2, 1) := by decide +kernel
theorem dX12_comesTo_9 : decode cX12_comesTo 9 = .ok (.iconst 0, 1) := by decide +kernel
theorem dX12_comesTo_10 : decode cX12_comesTo 10 = .ok (.istore_n 3, 1) := by decide +kernel
theorem dX12_comesTo_11 : decode cX12_comesTo 11 = .ok (.iconst 1, 1) := by decide +kernel
theorem dX12_comesTo_12 : decode cX12_comesTo 12 = .ok (.istore 4, 2) := by decide +kernel
theorem dX12_comesTo_14 : decode cX12_comesTo 14 = .ok (.iload 4, 2) := by decide +kernel
theorem dX12_comesTo_16 : decode cX12_comesTo 16 = .ok (.aload_n 0, 1) := by decide +kernel
theorem dX12_comesTo_17 : decode cX12_comesTo 17 = .ok (.getfield 7, 3) := by decide +kernel
theorem dX12_comesTo_20 : decode cX12_comesTo 20 = .ok (.iload_n 2, 1) := by decide +kernel
theorem dX12_comesTo_21 : decode cX12_comesTo 21 = .ok (.iaload, 1) := by decide +kernel
theorem dX12_comesTo_22 : decode cX12_comesTo 22 = .ok (.if_icmp .gt 126, 3) := by decide +kernel
theorem dX12_comesTo_25 : decode cX12_comesTo 25 = .ok (.aload_n 0, 1) := by decide +kernel
theorem dX12_comesTo_26 : decode cX12_comesTo 26 = .ok (.getfield 7, 3) := by decide +kernel
theorem dX12_comesTo_29 : decode cX12_comesTo 29 = .ok (.iload_n 2, 1) := by decide +kernel
theorem dX12_comesTo_30 : decode cX12_comesTo 30 = .ok (.iload 4, 2) := by decide +kernel
theorem dX12_comesTo_32 : decode cX12_comesTo 32 = .ok (.iadd, 1) := by decide +kernel
theorem dX12_comesTo_33 : decode cX12_comesTo 33 = .ok (.iaload, 1) := by decide +kernel
theorem dX12_comesTo_34 : decode cX12_comesTo 34 = .ok (.istore 5, 2) := by decide +kernel
theorem dX12_comesTo_36 : decode cX12_comesTo 36 = .ok (.iload 5, 2) := by decide +kernel
theorem dX12_comesTo_38 : decode cX12_comesTo 38 = .ok (.bipush (-100), 2) := by decide +kernel
theorem dX12_comesTo_40 : decode cX12_comesTo 40 = .ok (.if_icmp .le 34, 3) := by decide +kernel
theorem dX12_comesTo_43 : decode cX12_comesTo 43 = .ok (.aload_n 0, 1) := by decide +kernel
theorem dX12_comesTo_44 : decode cX12_comesTo 44 = .ok (.getfield 37, 3) := by decide +kernel
theorem dX12_comesTo_47 : decode cX12_comesTo 47 = .ok (.iload_n 3, 1) := by decide +kernel
theorem dX12_comesTo_48 : decode cX12_comesTo 48 = .ok (.iload 5, 2) := by decide +kernel
theorem dX12_comesTo_50 : decode cX12_comesTo 50 = .ok (.ifCond .lt 8, 3) := by decide +kernel
theorem dX12_comesTo_53 : decode cX12_comesTo 53 = .ok (.iload 5, 2) := by decide +kernel
theorem dX12_comesTo_55 : decode cX12_comesTo 55 = .ok (.goto 12, 3) := by decide +kernel
theorem dX12_comesTo_58 : decode cX12_comesTo 58 = .ok (.aload_n 0, 1) := by decide +kernel
theorem dX12_comesTo_59 : decode cX12_comesTo 59 = .ok (.getfield 28, 3) := by decide +kernel
theorem dX12_comesTo_62 : decode cX12_comesTo 62 = .ok (.iconst (-1), 1) := by decide +kernel
theorem dX12_comesTo_63 : decode cX12_comesTo 63 = .ok (.iload 5, 2) := by decide +kernel
theorem dX12_comesTo_65 : decode cX12_comesTo 65 = .ok (.isub, 1) := by decide +kernel
theorem dX12_comesTo_66 : decode cX12_comesTo 66 = .ok (.iaload, 1) := by decide +kernel
theorem dX12_comesTo_67 : decode cX12_comesTo 67 = .ok (.iastore, 1) := by decide +kernel
theorem dX12_comesTo_68 : decode cX12_comesTo 68 = .ok (.iinc 3 1, 3) := by decide +kernel
theorem dX12_comesTo_71 : decode cX12_comesTo 71 = .ok (.goto 71, 3) := by decide +kernel
theorem dX12_comesTo_74 : decode cX12_comesTo 74 = .ok (.iload 5, 2) := by decide +kernel
theorem dX12_comesTo_76 : decode cX12_comesTo 76 = .ok (.sipush (-133), 3) := by decide +kernel
theorem dX12_comesTo_79 : decode cX12_comesTo 79 = .ok (.if_icmp .ne 30, 3) := by decide +kernel
theorem dX12_comesTo_82 : decode cX12_comesTo 82 = .ok (.aload_n 0, 1) := by decide +kernel
theorem dX12_comesTo_83 : decode cX12_comesTo 83 = .ok (.getfield 37, 3) := by decide +kernel
theorem dX12_comesTo_86 : decode cX12_comesTo 86 = .ok (.iload_n 3, 1) := by decide +kernel
theorem dX12_comesTo_87 : decode cX12_comesTo 87 = .ok (.iconst 1, 1) := by decide +kernel
theorem dX12_comesTo_88 : decode cX12_comesTo 88 = .ok (.isub, 1) := by decide +kernel
theorem dX12_comesTo_89 : decode cX12_comesTo 89 = .ok (.aload_n 0, 1) := by decide +kernel
theorem dX12_comesTo_90 : decode cX12_comesTo 90 = .ok (.getfield 37, 3) := by decide +kernel
theorem dX12_comesTo_93 : decode cX12_comesTo 93 = .ok (.iload_n 3, 1) := by decide +kernel
theorem dX12_comesTo_94 : decode cX12_comesTo 94 = .ok (.iconst 1, 1) := by decide +kernel
theorem dX12_comesTo_95 : decode cX12_comesTo 95 = .ok (.isub, 1) := by decide +kernel
theorem dX12_comesTo_96 : decode cX12_comesTo 96 = .ok (.iaload, 1) := by decide +kernel
theorem dX12_comesTo_97 : decode cX12_comesTo 97 = .ok (.ifCond .ne 7, 3) := by decide +kernel
theorem dX12_comesTo_100 : decode cX12_comesTo 100 = .ok (.iconst 1, 1) := by decide +kernel
theorem dX12_comesTo_101 : decode cX12_comesTo 101 = .ok (.goto 4, 3) := by decide +kernel
theorem dX12_comesTo_104 : decode cX12_comesTo 104 = .ok (.iconst 0, 1) := by decide +kernel
theorem dX12_comesTo_105 : decode cX12_comesTo 105 = .ok (.iastore, 1) := by decide +kernel
theorem dX12_comesTo_106 : decode cX12_comesTo 106 = .ok (.goto 36, 3) := by decide +kernel
theorem dX12_comesTo_109 : decode cX12_comesTo 109 = .ok (.iinc 3 (-1), 3) := by decide +kernel
theorem dX12_comesTo_112 : decode cX12_comesTo 112 = .ok (.aload_n 0, 1) := by decide +kernel
theorem dX12_comesTo_113 : decode cX12_comesTo 113 = .ok (.getfield 37, 3) := by decide +kernel
theorem dX12_comesTo_116 : decode cX12_comesTo 116 = .ok (.iload_n 3, 1) := by decide +kernel
theorem dX12_comesTo_117 : decode cX12_comesTo 117 = .ok (.iconst 1, 1) := by decide +kernel
theorem dX12_comesTo_118 : decode cX12_comesTo 118 = .ok (.isub, 1) := by decide +kernel
theorem dX12_comesTo_119 : decode cX12_comesTo 119 = .ok (.bipush (-100), 2) := by decide +kernel
theorem dX12_comesTo_121 : decode cX12_comesTo 121 = .ok (.iload 5, 2) := by decide +kernel
theorem dX12_comesTo_123 : decode cX12_comesTo 123 = .ok (.isub, 1) := by decide +kernel
theorem dX12_comesTo_124 : decode cX12_comesTo 124 = .ok (.aload_n 0, 1) := by decide +kernel
theorem dX12_comesTo_125 : decode cX12_comesTo 125 = .ok (.getfield 37, 3) := by decide +kernel
theorem dX12_comesTo_128 : decode cX12_comesTo 128 = .ok (.iload_n 3, 1) := by decide +kernel
theorem dX12_comesTo_129 : decode cX12_comesTo 129 = .ok (.iconst 1, 1) := by decide +kernel
theorem dX12_comesTo_130 : decode cX12_comesTo 130 = .ok (.isub, 1) := by decide +kernel
theorem dX12_comesTo_131 : decode cX12_comesTo 131 = .ok (.iaload, 1) := by decide +kernel
theorem dX12_comesTo_132 : decode cX12_comesTo 132 = .ok (.aload_n 0, 1) := by decide +kernel
theorem dX12_comesTo_133 : decode cX12_comesTo 133 = .ok (.getfield 37, 3) := by decide +kernel
theorem dX12_comesTo_136 : decode cX12_comesTo 136 = .ok (.iload_n 3, 1) := by decide +kernel
theorem dX12_comesTo_137 : decode cX12_comesTo 137 = .ok (.iaload, 1) := by decide +kernel
theorem dX12_comesTo_138 : decode cX12_comesTo 138 = .ok (.invokestatic 221, 3) := by decide +kernel
theorem dX12_comesTo_141 : decode cX12_comesTo 141 = .ok (.iastore, 1) := by decide +kernel
theorem dX12_comesTo_142 : decode cX12_comesTo 142 = .ok (.iinc 4 1, 3) := by decide +kernel
theorem dX12_comesTo_145 : decode cX12_comesTo 145 = .ok (.goto (-131), 3) := by decide +kernel
theorem dX12_comesTo_148 : decode cX12_comesTo 148 = .ok (.aload_n 0, 1) := by decide +kernel
theorem dX12_comesTo_149 : decode cX12_comesTo 149 = .ok (.getfield 37, 3) := by decide +kernel
theorem dX12_comesTo_152 : decode cX12_comesTo 152 = .ok (.iconst 0, 1) := by decide +kernel
theorem dX12_comesTo_153 : decode cX12_comesTo 153 = .ok (.iaload, 1) := by decide +kernel
theorem dX12_comesTo_154 : decode cX12_comesTo 154 = .ok (.ireturn, 1) := by decide +kernel
theorem dX12_changeOf_0 : decode cX12_changeOf 0 = .ok (.aload_n 0, 1) := by decide +kernel
theorem dX12_changeOf_1 : decode cX12_changeOf 1 = .ok (.iload_n 1, 1) := by decide +kernel
theorem dX12_changeOf_2 : decode cX12_changeOf 2 = .ok (.iconst 3, 1) := by decide +kernel
theorem dX12_changeOf_3 : decode cX12_changeOf 3 = .ok (.invokevirtual 114, 3) := by decide +kernel
theorem dX12_changeOf_6 : decode cX12_changeOf 6 = .ok (.aload_n 0, 1) := by decide +kernel
theorem dX12_changeOf_7 : decode cX12_changeOf 7 = .ok (.iload_n 2, 1) := by decide +kernel
theorem dX12_changeOf_8 : decode cX12_changeOf 8 = .ok (.iconst 3, 1) := by decide +kernel
theorem dX12_changeOf_9 : decode cX12_changeOf 9 = .ok (.invokevirtual 114, 3) := by decide +kernel
theorem dX12_changeOf_12 : decode cX12_changeOf 12 = .ok (.isub, 1) := by decide +kernel
theorem dX12_changeOf_13 : decode cX12_changeOf 13 = .ok (.istore 4, 2) := by decide +kernel
theorem dX12_changeOf_15 : decode cX12_changeOf 15 = .ok (.aload_n 0, 1) := by decide +kernel
theorem dX12_changeOf_16 : decode cX12_changeOf 16 = .ok (.getfield 7, 3) := by decide +kernel
theorem dX12_changeOf_19 : decode cX12_changeOf 19 = .ok (.sipush 362, 3) := by decide +kernel
theorem dX12_changeOf_22 : decode cX12_changeOf 22 = .ok (.iaload, 1) := by decide +kernel
theorem dX12_changeOf_23 : decode cX12_changeOf 23 = .ok (.ifCond .ne 19, 3) := by decide +kernel
theorem dX12_changeOf_26 : decode cX12_changeOf 26 = .ok (.iconst 2, 1) := by decide +kernel
theorem dX12_changeOf_27 : decode cX12_changeOf 27 = .ok (.iload 4, 2) := by decide +kernel
theorem dX12_changeOf_29 : decode cX12_changeOf 29 = .ok (.ifCond .ge 9, 3) := by decide +kernel
theorem dX12_changeOf_32 : decode cX12_changeOf 32 = .ok (.iload 4, 2) := by decide +kernel
theorem dX12_changeOf_34 : decode cX12_changeOf 34 = .ok (.ineg, 1) := by decide +kernel
theorem dX12_changeOf_35 : decode cX12_changeOf 35 = .ok (.goto 5, 3) := by decide +kernel
theorem dX12_changeOf_38 : decode cX12_changeOf 38 = .ok (.iload 4, 2) := by decide +kernel
theorem dX12_changeOf_40 : decode cX12_changeOf 40 = .ok (.iadd, 1) := by decide +kernel
theorem dX12_changeOf_41 : decode cX12_changeOf 41 = .ok (.ireturn, 1) := by decide +kernel
theorem dX12_changeOf_42 : decode cX12_changeOf 42 = .ok (.aload_n 0, 1) := by decide +kernel
theorem dX12_changeOf_43 : decode cX12_changeOf 43 = .ok (.getfield 28, 3) := by decide +kernel
theorem dX12_changeOf_46 : decode cX12_changeOf 46 = .ok (.iconst 0, 1) := by decide +kernel
theorem dX12_changeOf_47 : decode cX12_changeOf 47 = .ok (.aload_n 0, 1) := by decide +kernel
theorem dX12_changeOf_48 : decode cX12_changeOf 48 = .ok (.iload_n 1, 1) := by decide +kernel
theorem dX12_changeOf_49 : decode cX12_changeOf 49 = .ok (.iconst 3, 1) := by decide +kernel
theorem dX12_changeOf_50 : decode cX12_changeOf 50 = .ok (.invokevirtual 114, 3) := by decide +kernel
theorem dX12_changeOf_53 : decode cX12_changeOf 53 = .ok (.iastore, 1) := by decide +kernel
theorem dX12_changeOf_54 : decode cX12_changeOf 54 = .ok (.aload_n 0, 1) := by decide +kernel
theorem dX12_changeOf_55 : decode cX12_changeOf 55 = .ok (.getfield 28, 3) := by decide +kernel
theorem dX12_changeOf_58 : decode cX12_changeOf 58 = .ok (.iconst 1, 1) := by decide +kernel
theorem dX12_changeOf_59 : decode cX12_changeOf 59 = .ok (.aload_n 0, 1) := by decide +kernel
theorem dX12_changeOf_60 : decode cX12_changeOf 60 = .ok (.iload_n 2, 1) := by decide +kernel
theorem dX12_changeOf_61 : decode cX12_changeOf 61 = .ok (.iconst 3, 1) := by decide +kernel
theorem dX12_changeOf_62 : decode cX12_changeOf 62 = .ok (.invokevirtual 114, 3) := by decide +kernel
theorem dX12_changeOf_65 : decode cX12_changeOf 65 = .ok (.iastore, 1) := by decide +kernel
theorem dX12_changeOf_66 : decode cX12_changeOf 66 = .ok (.aload_n 0, 1) := by decide +kernel
theorem dX12_changeOf_67 : decode cX12_changeOf 67 = .ok (.getfield 28, 3) := by decide +kernel
theorem dX12_changeOf_70 : decode cX12_changeOf 70 = .ok (.iconst 2, 1) := by decide +kernel
theorem dX12_changeOf_71 : decode cX12_changeOf 71 = .ok (.aload_n 0, 1) := by decide +kernel
theorem dX12_changeOf_72 : decode cX12_changeOf 72 = .ok (.iload_n 1, 1) := by decide +kernel
theorem dX12_changeOf_73 : decode cX12_changeOf 73 = .ok (.iconst 0, 1) := by decide +kernel
theorem dX12_changeOf_74 : decode cX12_changeOf 74 = .ok (.invokevirtual 114, 3) := by decide +kernel
theorem dX12_changeOf_77 : decode cX12_changeOf 77 = .ok (.iastore, 1) := by decide +kernel
theorem dX12_changeOf_78 : decode cX12_changeOf 78 = .ok (.aload_n 0, 1) := by decide +kernel
theorem dX12_changeOf_79 : decode cX12_changeOf 79 = .ok (.getfield 28, 3) := by decide +kernel
theorem dX12_changeOf_82 : decode cX12_changeOf 82 = .ok (.iconst 3, 1) := by decide +kernel
theorem dX12_changeOf_83 : decode cX12_changeOf 83 = .ok (.aload_n 0, 1) := by decide +kernel
theorem dX12_changeOf_84 : decode cX12_changeOf 84 = .ok (.iload_n 2, 1) := by decide +kernel
theorem dX12_changeOf_85 : decode cX12_changeOf 85 = .ok (.iconst 0, 1) := by decide +kernel
theorem dX12_changeOf_86 : decode cX12_changeOf 86 = .ok (.invokevirtual 114, 3) := by decide +kernel
theorem dX12_changeOf_89 : decode cX12_changeOf 89 = .ok (.iastore, 1) := by decide +kernel
theorem dX12_changeOf_90 : decode cX12_changeOf 90 = .ok (.aload_n 0, 1) := by decide +kernel
theorem dX12_changeOf_91 : decode cX12_changeOf 91 = .ok (.getfield 28, 3) := by decide +kernel
theorem dX12_changeOf_94 : decode cX12_changeOf 94 = .ok (.iconst 4, 1) := by decide +kernel
theorem dX12_changeOf_95 : decode cX12_changeOf 95 = .ok (.iload_n 3, 1) := by decide +kernel
theorem dX12_changeOf_96 : decode cX12_changeOf 96 = .ok (.iastore, 1) := by decide +kernel
theorem dX12_changeOf_97 : decode cX12_changeOf 97 = .ok (.aload_n 0, 1) := by decide +kernel
theorem dX12_changeOf_98 : decode cX12_changeOf 98 = .ok (.iconst 1, 1) := by decide +kernel
theorem dX12_changeOf_99 : decode cX12_changeOf 99 = .ok (.invokevirtual 154, 3) := by decide +kernel
theorem dX12_changeOf_102 : decode cX12_changeOf 102 = .ok (.bipush 99, 2) := by decide +kernel
theorem dX12_changeOf_104 : decode cX12_changeOf 104 = .ok (.invokestatic 157, 3) := by decide +kernel
theorem dX12_changeOf_107 : decode cX12_changeOf 107 = .ok (.ireturn, 1) := by decide +kernel
theorem dX12_change_0 : decode cX12_change 0 = .ok (.aload_n 0, 1) := by decide +kernel
theorem dX12_change_1 : decode cX12_change 1 = .ok (.iload_n 1, 1) := by decide +kernel
theorem dX12_change_2 : decode cX12_change 2 = .ok (.invokevirtual 110, 3) := by decide +kernel
theorem dX12_change_5 : decode cX12_change 5 = .ok (.ifCond .eq 35, 3) := by decide +kernel
theorem dX12_change_8 : decode cX12_change 8 = .ok (.aload_n 0, 1) := by decide +kernel
theorem dX12_change_9 : decode cX12_change 9 = .ok (.iload_n 2, 1) := by decide +kernel
theorem dX12_change_10 : decode cX12_change 10 = .ok (.invokevirtual 110, 3) := by decide +kernel
theorem dX12_change_13 : decode cX12_change 13 = .ok (.ifCond .eq 27, 3) := by decide +kernel
theorem dX12_change_16 : decode cX12_change 16 = .ok (.iload_n 1, 1) := by decide +kernel
theorem dX12_change_17 : decode cX12_change 17 = .ok (.iload_n 2, 1) := by decide +kernel
theorem dX12_change_18 : decode cX12_change 18 = .ok (.if_icmp .eq 22, 3) := by decide +kernel
theorem dX12_change_21 : decode cX12_change 21 = .ok (.iload_n 3, 1) := by decide +kernel
theorem dX12_change_22 : decode cX12_change 22 = .ok (.iconst 0, 1) := by decide +kernel
theorem dX12_change_23 : decode cX12_change 23 = .ok (.iconst 1, 1) := by decide +kernel
theorem dX12_change_24 : decode cX12_change 24 = .ok (.invokestatic 91, 3) := by decide +kernel
theorem dX12_change_27 : decode cX12_change 27 = .ok (.ifCond .eq 13, 3) := by decide +kernel
theorem dX12_change_30 : decode cX12_change 30 = .ok (.aload_n 0, 1) := by decide +kernel
theorem dX12_change_31 : decode cX12_change 31 = .ok (.iload_n 1, 1) := by decide +kernel
theorem dX12_change_32 : decode cX12_change 32 = .ok (.iload_n 2, 1) := by decide +kernel
theorem dX12_change_33 : decode cX12_change 33 = .ok (.iload_n 3, 1) := by decide +kernel
theorem dX12_change_34 : decode cX12_change 34 = .ok (.invokevirtual 225, 3) := by decide +kernel
theorem dX12_change_37 : decode cX12_change 37 = .ok (.goto 8, 3) := by decide +kernel
theorem dX12_change_40 : decode cX12_change 40 = .ok (.aload_n 0, 1) := by decide +kernel
theorem dX12_change_41 : decode cX12_change 41 = .ok (.iconst 1, 1) := by decide +kernel
theorem dX12_change_42 : decode cX12_change 42 = .ok (.invokevirtual 95, 3) := by decide +kernel
theorem dX12_change_45 : decode cX12_change 45 = .ok (.ireturn, 1) := by decide +kernel
theorem dX12_meetAt_0 : decode cX12_meetAt 0 = .ok (.iconst (-1), 1) := by decide +kernel
theorem dX12_meetAt_1 : decode cX12_meetAt 1 = .ok (.istore_n 3, 1) := by decide +kernel
theorem dX12_meetAt_2 : decode cX12_meetAt 2 = .ok (.iconst 0, 1) := by decide +kernel
theorem dX12_meetAt_3 : decode cX12_meetAt 3 = .ok (.istore 4, 2) := by decide +kernel
theorem dX12_meetAt_5 : decode cX12_meetAt 5 = .ok (.iload 4, 2) := by decide +kernel
theorem dX12_meetAt_7 : decode cX12_meetAt 7 = .ok (.aload_n 0, 1) := by decide +kernel
theorem dX12_meetAt_8 : decode cX12_meetAt 8 = .ok (.getfield 7, 3) := by decide +kernel
theorem dX12_meetAt_11 : decode cX12_meetAt 11 = .ok (.iconst 2, 1) := by decide +kernel
theorem dX12_meetAt_12 : decode cX12_meetAt 12 = .ok (.iaload, 1) := by decide +kernel
theorem dX12_meetAt_13 : decode cX12_meetAt 13 = .ok (.if_icmp .ge 143, 3) := by decide +kernel
theorem dX12_meetAt_16 : decode cX12_meetAt 16 = .ok (.iconst 0, 1) := by decide +kernel
theorem dX12_meetAt_17 : decode cX12_meetAt 17 = .ok (.istore 5, 2) := by decide +kernel
theorem dX12_meetAt_19 : decode cX12_meetAt 19 = .ok (.iload 5, 2) := by decide +kernel
theorem dX12_meetAt_21 : decode cX12_meetAt 21 = .ok (.aload_n 0, 1) := by decide +kernel
theorem dX12_meetAt_22 : decode cX12_meetAt 22 = .ok (.getfield 7, 3) := by decide +kernel
theorem dX12_meetAt_25 : decode cX12_meetAt 25 = .ok (.iconst 2, 1) := by decide +kernel
theorem dX12_meetAt_26 : decode cX12_meetAt 26 = .ok (.iaload, 1) := by decide +kernel
theorem dX12_meetAt_27 : decode cX12_meetAt 27 = .ok (.if_icmp .ge 123, 3) := by decide +kernel
theorem dX12_meetAt_30 : decode cX12_meetAt 30 = .ok (.aload_n 0, 1) := by decide +kernel
theorem dX12_meetAt_31 : decode cX12_meetAt 31 = .ok (.iload 4, 2) := by decide +kernel
theorem dX12_meetAt_33 : decode cX12_meetAt 33 = .ok (.iconst 0, 1) := by decide +kernel
theorem dX12_meetAt_34 : decode cX12_meetAt 34 = .ok (.invokevirtual 99, 3) := by decide +kernel
theorem dX12_meetAt_37 : decode cX12_meetAt 37 = .ok (.iload_n 1, 1) := by decide +kernel
theorem dX12_meetAt_38 : decode cX12_meetAt 38 = .ok (.if_icmp .ne 106, 3) := by decide +kernel
theorem dX12_meetAt_41 : decode cX12_meetAt 41 = .ok (.aload_n 0, 1) := by decide +kernel
theorem dX12_meetAt_42 : decode cX12_meetAt 42 = .ok (.iload 5, 2) := by decide +kernel
theorem dX12_meetAt_44 : decode cX12_meetAt 44 = .ok (.iconst 0, 1) := by decide +kernel
theorem dX12_meetAt_45 : decode cX12_meetAt 45 = .ok (.invokevirtual 99, 3) := by decide +kernel
theorem dX12_meetAt_48 : decode cX12_meetAt 48 = .ok (.iload_n 2, 1) := by decide +kernel
theorem dX12_meetAt_49 : decode cX12_meetAt 49 = .ok (.if_icmp .eq 6, 3) := by decide +kernel
theorem dX12_meetAt_52 : decode cX12_meetAt 52 = .ok (.goto 92, 3) := by decide +kernel
theorem dX12_meetAt_55 : decode cX12_meetAt 55 = .ok (.aload_n 0, 1) := by decide +kernel
theorem dX12_meetAt_56 : decode cX12_meetAt 56 = .ok (.iload 4, 2) := by decide +kernel
theorem dX12_meetAt_58 : decode cX12_meetAt 58 = .ok (.iconst 1, 1) := by decide +kernel
theorem dX12_meetAt_59 : decode cX12_meetAt 59 = .ok (.invokevirtual 99, 3) := by decide +kernel
theorem dX12_meetAt_62 : decode cX12_meetAt 62 = .ok (.aload_n 0, 1) := by decide +kernel
theorem dX12_meetAt_63 : decode cX12_meetAt 63 = .ok (.iload 5, 2) := by decide +kernel
theorem dX12_meetAt_65 : decode cX12_meetAt 65 = .ok (.iconst 1, 1) := by decide +kernel
theorem dX12_meetAt_66 : decode cX12_meetAt 66 = .ok (.invokevirtual 99, 3) := by decide +kernel
theorem dX12_meetAt_69 : decode cX12_meetAt 69 = .ok (.if_icmp .le 13, 3) := by decide +kernel
theorem dX12_meetAt_72 : decode cX12_meetAt 72 = .ok (.aload_n 0, 1) := by decide +kernel
theorem dX12_meetAt_73 : decode cX12_meetAt 73 = .ok (.iload 4, 2) := by decide +kernel
theorem dX12_meetAt_75 : decode cX12_meetAt 75 = .ok (.iconst 1, 1) := by decide +kernel
theorem dX12_meetAt_76 : decode cX12_meetAt 76 = .ok (.invokevirtual 99, 3) := by decide +kernel
theorem dX12_meetAt_79 : decode cX12_meetAt 79 = .ok (.goto 10, 3) := by decide +kernel
theorem dX12_meetAt_82 : decode cX12_meetAt 82 = .ok (.aload_n 0, 1) := by decide +kernel
theorem dX12_meetAt_83 : decode cX12_meetAt 83 = .ok (.iload 5, 2) := by decide +kernel
theorem dX12_meetAt_85 : decode cX12_meetAt 85 = .ok (.iconst 1, 1) := by decide +kernel
theorem dX12_meetAt_86 : decode cX12_meetAt 86 = .ok (.invokevirtual 99, 3) := by decide +kernel
theorem dX12_meetAt_89 : decode cX12_meetAt 89 = .ok (.istore 6, 2) := by decide +kernel
theorem dX12_meetAt_91 : decode cX12_meetAt 91 = .ok (.iload 6, 2) := by decide +kernel
theorem dX12_meetAt_93 : decode cX12_meetAt 93 = .ok (.aload_n 0, 1) := by decide +kernel
theorem dX12_meetAt_94 : decode cX12_meetAt 94 = .ok (.iload 4, 2) := by decide +kernel
theorem dX12_meetAt_96 : decode cX12_meetAt 96 = .ok (.iconst 2, 1) := by decide +kernel
theorem dX12_meetAt_97 : decode cX12_meetAt 97 = .ok (.invokevirtual 99, 3) := by decide +kernel
theorem dX12_meetAt_100 : decode cX12_meetAt 100 = .ok (.if_icmp .gt 19, 3) := by decide +kernel
theorem dX12_meetAt_103 : decode cX12_meetAt 103 = .ok (.iload 6, 2) := by decide +kernel
theorem dX12_meetAt_105 : decode cX12_meetAt 105 = .ok (.aload_n 0, 1) := by decide +kernel
theorem dX12_meetAt_106 : decode cX12_meetAt 106 = .ok (.iload 5, 2) := by decide +kernel
theorem dX12_meetAt_108 : decode cX12_meetAt 108 = .ok (.iconst 2, 1) := by decide +kernel
theorem dX12_meetAt_109 : decode cX12_meetAt 109 = .ok (.invokevirtual 99, 3) := by decide +kernel
theorem dX12_meetAt_112 : decode cX12_meetAt 112 = .ok (.if_icmp .gt 7, 3) := by decide +kernel
theorem dX12_meetAt_115 : decode cX12_meetAt 115 = .ok (.iconst 1, 1) := by decide +kernel
theorem dX12_meetAt_116 : decode cX12_meetAt 116 = .ok (.goto 4, 3) := by decide +kernel
theorem dX12_meetAt_119 : decode cX12_meetAt 119 = .ok (.iconst 0, 1) := by decide +kernel
theorem dX12_meetAt_120 : decode cX12_meetAt 120 = .ok (.istore 7, 2) := by decide +kernel
theorem dX12_meetAt_122 : decode cX12_meetAt 122 = .ok (.iload 7, 2) := by decide +kernel
theorem dX12_meetAt_124 : decode cX12_meetAt 124 = .ok (.ifCond .eq 18, 3) := by decide +kernel
theorem dX12_meetAt_127 : decode cX12_meetAt 127 = .ok (.iload_n 3, 1) := by decide +kernel
theorem dX12_meetAt_128 : decode cX12_meetAt 128 = .ok (.ifCond .lt 9, 3) := by decide +kernel
theorem dX12_meetAt_131 : decode cX12_meetAt 131 = .ok (.iload 6, 2) := by decide +kernel
theorem dX12_meetAt_133 : decode cX12_meetAt 133 = .ok (.iload_n 3, 1) := by decide +kernel
theorem dX12_meetAt_134 : decode cX12_meetAt 134 = .ok (.if_icmp .ge 8, 3) := by decide +kernel
theorem dX12_meetAt_137 : decode cX12_meetAt 137 = .ok (.iload 6, 2) := by decide +kernel
theorem dX12_meetAt_139 : decode cX12_meetAt 139 = .ok (.goto 4, 3) := by decide +kernel
theorem dX12_meetAt_142 : decode cX12_meetAt 142 = .ok (.iload_n 3, 1) := by decide +kernel
theorem dX12_meetAt_143 : decode cX12_meetAt 143 = .ok (.istore_n 3, 1) := by decide +kernel
theorem dX12_meetAt_144 : decode cX12_meetAt 144 = .ok (.iinc 5 1, 3) := by decide +kernel
theorem dX12_meetAt_147 : decode cX12_meetAt 147 = .ok (.goto (-128), 3) := by decide +kernel
theorem dX12_meetAt_150 : decode cX12_meetAt 150 = .ok (.iinc 4 1, 3) := by decide +kernel
theorem dX12_meetAt_153 : decode cX12_meetAt 153 = .ok (.goto (-148), 3) := by decide +kernel
theorem dX12_meetAt_156 : decode cX12_meetAt 156 = .ok (.iload_n 3, 1) := by decide +kernel
theorem dX12_meetAt_157 : decode cX12_meetAt 157 = .ok (.ireturn, 1) := by decide +kernel
theorem dX12_nearAt_0 : decode cX12_nearAt 0 = .ok (.iconst (-1), 1) := by decide +kernel
theorem dX12_nearAt_1 : decode cX12_nearAt 1 = .ok (.istore_n 3, 1) := by decide +kernel
theorem dX12_nearAt_2 : decode cX12_nearAt 2 = .ok (.iconst 0, 1) := by decide +kernel
theorem dX12_nearAt_3 : decode cX12_nearAt 3 = .ok (.istore 4, 2) := by decide +kernel
theorem dX12_nearAt_5 : decode cX12_nearAt 5 = .ok (.iload 4, 2) := by decide +kernel
theorem dX12_nearAt_7 : decode cX12_nearAt 7 = .ok (.aload_n 0, 1) := by decide +kernel
theorem dX12_nearAt_8 : decode cX12_nearAt 8 = .ok (.getfield 7, 3) := by decide +kernel
theorem dX12_nearAt_11 : decode cX12_nearAt 11 = .ok (.iconst 2, 1) := by decide +kernel
theorem dX12_nearAt_12 : decode cX12_nearAt 12 = .ok (.iaload, 1) := by decide +kernel
theorem dX12_nearAt_13 : decode cX12_nearAt 13 = .ok (.if_icmp .ge 225, 3) := by decide +kernel
theorem dX12_nearAt_16 : decode cX12_nearAt 16 = .ok (.iconst 0, 1) := by decide +kernel
theorem dX12_nearAt_17 : decode cX12_nearAt 17 = .ok (.istore 5, 2) := by decide +kernel
theorem dX12_nearAt_19 : decode cX12_nearAt 19 = .ok (.iload 5, 2) := by decide +kernel
theorem dX12_nearAt_21 : decode cX12_nearAt 21 = .ok (.aload_n 0, 1) := by decide +kernel
theorem dX12_nearAt_22 : decode cX12_nearAt 22 = .ok (.getfield 7, 3) := by decide +kernel
theorem dX12_nearAt_25 : decode cX12_nearAt 25 = .ok (.iconst 2, 1) := by decide +kernel
theorem dX12_nearAt_26 : decode cX12_nearAt 26 = .ok (.iaload, 1) := by decide +kernel
theorem dX12_nearAt_27 : decode cX12_nearAt 27 = .ok (.if_icmp .ge 205, 3) := by decide +kernel
theorem dX12_nearAt_30 : decode cX12_nearAt 30 = .ok (.aload_n 0, 1) := by decide +kernel
theorem dX12_nearAt_31 : decode cX12_nearAt 31 = .ok (.iload 4, 2) := by decide +kernel
theorem dX12_nearAt_33 : decode cX12_nearAt 33 = .ok (.iconst 0, 1) := by decide +kernel
theorem dX12_nearAt_34 : decode cX12_nearAt 34 = .ok (.invokevirtual 99, 3) := by decide +kernel
theorem dX12_nearAt_37 : decode cX12_nearAt 37 = .ok (.iload_n 1, 1) := by decide +kernel
theorem dX12_nearAt_38 : decode cX12_nearAt 38 = .ok (.if_icmp .ne 188, 3) := by decide +kernel
theorem dX12_nearAt_41 : decode cX12_nearAt 41 = .ok (.aload_n 0, 1) := by decide +kernel
theorem dX12_nearAt_42 : decode cX12_nearAt 42 = .ok (.iload 5, 2) := by decide +kernel
theorem dX12_nearAt_44 : decode cX12_nearAt 44 = .ok (.iconst 0, 1) := by decide +kernel
theorem dX12_nearAt_45 : decode cX12_nearAt 45 = .ok (.invokevirtual 99, 3) := by decide +kernel
theorem dX12_nearAt_48 : decode cX12_nearAt 48 = .ok (.iload_n 2, 1) := by decide +kernel
theorem dX12_nearAt_49 : decode cX12_nearAt 49 = .ok (.if_icmp .ne 177, 3) := by decide +kernel
theorem dX12_nearAt_52 : decode cX12_nearAt 52 = .ok (.aload_n 0, 1) := by decide +kernel
theorem dX12_nearAt_53 : decode cX12_nearAt 53 = .ok (.iload 5, 2) := by decide +kernel
theorem dX12_nearAt_55 : decode cX12_nearAt 55 = .ok (.iconst 1, 1) := by decide +kernel
theorem dX12_nearAt_56 : decode cX12_nearAt 56 = .ok (.invokevirtual 99, 3) := by decide +kernel
theorem dX12_nearAt_59 : decode cX12_nearAt 59 = .ok (.aload_n 0, 1) := by decide +kernel
theorem dX12_nearAt_60 : decode cX12_nearAt 60 = .ok (.iload 4, 2) := by decide +kernel
theorem dX12_nearAt_62 : decode cX12_nearAt 62 = .ok (.iconst 2, 1) := by decide +kernel
theorem dX12_nearAt_63 : decode cX12_nearAt 63 = .ok (.invokevirtual 99, 3) := by decide +kernel
theorem dX12_nearAt_66 : decode cX12_nearAt 66 = .ok (.if_icmp .gt 6, 3) := by decide +kernel
theorem dX12_nearAt_69 : decode cX12_nearAt 69 = .ok (.goto 157, 3) := by decide +kernel
theorem dX12_nearAt_72 : decode cX12_nearAt 72 = .ok (.aload_n 0, 1) := by decide +kernel
theorem dX12_nearAt_73 : decode cX12_nearAt 73 = .ok (.iload 4, 2) := by decide +kernel
theorem dX12_nearAt_75 : decode cX12_nearAt 75 = .ok (.iconst 3, 1) := by decide +kernel
theorem dX12_nearAt_76 : decode cX12_nearAt 76 = .ok (.invokevirtual 99, 3) := by decide +kernel
theorem dX12_nearAt_79 : decode cX12_nearAt 79 = .ok (.iconst 1, 1) := by decide +kernel
theorem dX12_nearAt_80 : decode cX12_nearAt 80 = .ok (.iand, 1) := by decide +kernel
theorem dX12_nearAt_81 : decode cX12_nearAt 81 = .ok (.aload_n 0, 1) := by decide +kernel
theorem dX12_nearAt_82 : decode cX12_nearAt 82 = .ok (.iload 5, 2) := by decide +kernel
theorem dX12_nearAt_84 : decode cX12_nearAt 84 = .ok (.iconst 3, 1) := by decide +kernel
theorem dX12_nearAt_85 : decode cX12_nearAt 85 = .ok (.invokevirtual 99, 3) := by decide +kernel
theorem dX12_nearAt_88 : decode cX12_nearAt 88 = .ok (.iconst 1, 1) := by decide +kernel
theorem dX12_nearAt_89 : decode cX12_nearAt 89 = .ok (.ishr, 1) := by decide +kernel
theorem dX12_nearAt_90 : decode cX12_nearAt 90 = .ok (.if_icmp .ne 7, 3) := by decide +kernel
theorem dX12_nearAt_93 : decode cX12_nearAt 93 = .ok (.iconst 1, 1) := by decide +kernel
theorem dX12_nearAt_94 : decode cX12_nearAt 94 = .ok (.goto 4, 3) := by decide +kernel
theorem dX12_nearAt_97 : decode cX12_nearAt 97 = .ok (.iconst 0, 1) := by decide +kernel
theorem dX12_nearAt_98 : decode cX12_nearAt 98 = .ok (.istore 6, 2) := by decide +kernel
theorem dX12_nearAt_100 : decode cX12_nearAt 100 = .ok (.aload_n 0, 1) := by decide +kernel
theorem dX12_nearAt_101 : decode cX12_nearAt 101 = .ok (.iload_n 1, 1) := by decide +kernel
theorem dX12_nearAt_102 : decode cX12_nearAt 102 = .ok (.iload_n 2, 1) := by decide +kernel
theorem dX12_nearAt_103 : decode cX12_nearAt 103 = .ok (.iload 6, 2) := by decide +kernel
theorem dX12_nearAt_105 : decode cX12_nearAt 105 = .ok (.invokevirtual 225, 3) := by decide +kernel
theorem dX12_nearAt_108 : decode cX12_nearAt 108 = .ok (.istore 7, 2) := by decide +kernel
theorem dX12_nearAt_110 : decode cX12_nearAt 110 = .ok (.aload_n 0, 1) := by decide +kernel
theorem dX12_nearAt_111 : decode cX12_nearAt 111 = .ok (.iload_n 1, 1) := by decide +kernel
theorem dX12_nearAt_112 : decode cX12_nearAt 112 = .ok (.iconst 0, 1) := by decide +kernel
theorem dX12_nearAt_113 : decode cX12_nearAt 113 = .ok (.invokevirtual 114, 3) := by decide +kernel
theorem dX12_nearAt_116 : decode cX12_nearAt 116 = .ok (.iconst 3, 1) := by decide +kernel
theorem dX12_nearAt_117 : decode cX12_nearAt 117 = .ok (.if_icmp .eq 13, 3) := by decide +kernel
theorem dX12_nearAt_120 : decode cX12_nearAt 120 = .ok (.aload_n 0, 1) := by decide +kernel
theorem dX12_nearAt_121 : decode cX12_nearAt 121 = .ok (.iload_n 2, 1) := by decide +kernel
theorem dX12_nearAt_122 : decode cX12_nearAt 122 = .ok (.iconst 0, 1) := by decide +kernel
theorem dX12_nearAt_123 : decode cX12_nearAt 123 = .ok (.invokevirtual 114, 3) := by decide +kernel
theorem dX12_nearAt_126 : decode cX12_nearAt 126 = .ok (.iconst 3, 1) := by decide +kernel
theorem dX12_nearAt_127 : decode cX12_nearAt 127 = .ok (.if_icmp .ne 7, 3) := by decide +kernel
theorem dX12_nearAt_130 : decode cX12_nearAt 130 = .ok (.iconst 0, 1) := by decide +kernel
theorem dX12_nearAt_131 : decode cX12_nearAt 131 = .ok (.goto 32, 3) := by decide +kernel
theorem dX12_nearAt_134 : decode cX12_nearAt 134 = .ok (.aload_n 0, 1) := by decide +kernel
theorem dX12_nearAt_135 : decode cX12_nearAt 135 = .ok (.iload_n 1, 1) := by decide +kernel
theorem dX12_nearAt_136 : decode cX12_nearAt 136 = .ok (.iconst 0, 1) := by decide +kernel
theorem dX12_nearAt_137 : decode cX12_nearAt 137 = .ok (.invokevirtual 114, 3) := by decide +kernel
theorem dX12_nearAt_140 : decode cX12_nearAt 140 = .ok (.iconst 4, 1) := by decide +kernel
theorem dX12_nearAt_141 : decode cX12_nearAt 141 = .ok (.if_icmp .eq 13, 3) := by decide +kernel
theorem dX12_nearAt_144 : decode cX12_nearAt 144 = .ok (.aload_n 0, 1) := by decide +kernel
theorem dX12_nearAt_145 : decode cX12_nearAt 145 = .ok (.iload_n 2, 1) := by decide +kernel
theorem dX12_nearAt_146 : decode cX12_nearAt 146 = .ok (.iconst 0, 1) := by decide +kernel
theorem dX12_nearAt_147 : decode cX12_nearAt 147 = .ok (.invokevirtual 114, 3) := by decide +kernel
theorem dX12_nearAt_150 : decode cX12_nearAt 150 = .ok (.iconst 4, 1) := by decide +kernel
theorem dX12_nearAt_151 : decode cX12_nearAt 151 = .ok (.if_icmp .ne 10, 3) := by decide +kernel
