section
-- ===== PART A: goes FIRST, ahead of the names: the tables' words, and 'selects' of the private methods out of them =====
/-- a private method of a class that the tables say can be made, by its rows of tables_1 -/
def lw_okq (q : MethodName × Nat) : Prop := (q.1.cls ≠ "java/lang/invoke/MethodHandle" ∧ q.1.cls ≠ "java/lang/invoke/VarHandle") ∧ Cond.instantiable q.1.cls q.2 ∈ tables_1 ∧ Cond.privateMethod q.1 ∈ tables_1 ∧ Cond.instanceMethod q.1 ∈ tables_1
theorem lw_p0 : lw_okq (⟨"FivePlayers", "error", "(I)I"⟩, 10) := ⟨⟨by decide +kernel, by decide +kernel⟩, List.mem_of_getElem? (i := 24) (by decide +kernel), List.mem_of_getElem? (i := 293) (by decide +kernel), List.mem_of_getElem? (i := 294) (by decide +kernel)⟩
theorem lw_p1 : lw_okq (⟨"FivePlayers", "newRole", "(II)LFivePlayers$Role;"⟩, 10) := ⟨⟨by decide +kernel, by decide +kernel⟩, List.mem_of_getElem? (i := 24) (by decide +kernel), List.mem_of_getElem? (i := 312) (by decide +kernel), List.mem_of_getElem? (i := 313) (by decide +kernel)⟩
theorem lw_p2 : lw_okq (⟨"FivePlayers", "shiftError", "(II)I"⟩, 10) := ⟨⟨by decide +kernel, by decide +kernel⟩, List.mem_of_getElem? (i := 24) (by decide +kernel), List.mem_of_getElem? (i := 477) (by decide +kernel), List.mem_of_getElem? (i := 478) (by decide +kernel)⟩
theorem lw_p3 : lw_okq (⟨"FivePlayers$Stage", "namePlayerAndPart", "(II)V"⟩, 7) := ⟨⟨by decide +kernel, by decide +kernel⟩, List.mem_of_getElem? (i := 139) (by decide +kernel), List.mem_of_getElem? (i := 521) (by decide +kernel), List.mem_of_getElem? (i := 522) (by decide +kernel)⟩
theorem lw_p4 : lw_okq (⟨"FivePlayers$Stage", "name", "(CI)V"⟩, 7) := ⟨⟨by decide +kernel, by decide +kernel⟩, List.mem_of_getElem? (i := 139) (by decide +kernel), List.mem_of_getElem? (i := 525) (by decide +kernel), List.mem_of_getElem? (i := 526) (by decide +kernel)⟩
theorem lw_p5 : lw_okq (⟨"FivePlayers$Stage", "worthOf", "(LFivePlayers$Row;)I"⟩, 7) := ⟨⟨by decide +kernel, by decide +kernel⟩, List.mem_of_getElem? (i := 139) (by decide +kernel), List.mem_of_getElem? (i := 529) (by decide +kernel), List.mem_of_getElem? (i := 530) (by decide +kernel)⟩
theorem lw_p6 : lw_okq (⟨"FivePlayers$Reader", "readLevel", "(II)V"⟩, 5) := ⟨⟨by decide +kernel, by decide +kernel⟩, List.mem_of_getElem? (i := 228) (by decide +kernel), List.mem_of_getElem? (i := 574) (by decide +kernel), List.mem_of_getElem? (i := 575) (by decide +kernel)⟩
theorem lw_p7 : lw_okq (⟨"FivePlayers$Reader", "readUnit", "(I)V"⟩, 5) := ⟨⟨by decide +kernel, by decide +kernel⟩, List.mem_of_getElem? (i := 228) (by decide +kernel), List.mem_of_getElem? (i := 578) (by decide +kernel), List.mem_of_getElem? (i := 579) (by decide +kernel)⟩
theorem lw_p8 : lw_okq (⟨"FivePlayers$Reader", "next", "()I"⟩, 5) := ⟨⟨by decide +kernel, by decide +kernel⟩, List.mem_of_getElem? (i := 228) (by decide +kernel), List.mem_of_getElem? (i := 582) (by decide +kernel), List.mem_of_getElem? (i := 583) (by decide +kernel)⟩
theorem lw_p9 : lw_okq (⟨"FivePlayers$Reader", "readNumber", "()V"⟩, 5) := ⟨⟨by decide +kernel, by decide +kernel⟩, List.mem_of_getElem? (i := 228) (by decide +kernel), List.mem_of_getElem? (i := 589) (by decide +kernel), List.mem_of_getElem? (i := 590) (by decide +kernel)⟩
theorem lw_p10 : lw_okq (⟨"FivePlayers$Reader", "readClosing", "()V"⟩, 5) := ⟨⟨by decide +kernel, by decide +kernel⟩, List.mem_of_getElem? (i := 228) (by decide +kernel), List.mem_of_getElem? (i := 676) (by decide +kernel), List.mem_of_getElem? (i := 677) (by decide +kernel)⟩
theorem lw_p11 : lw_okq (⟨"FivePlayers", "isPair", "(II)Z"⟩, 10) := ⟨⟨by decide +kernel, by decide +kernel⟩, List.mem_of_getElem? (i := 24) (by decide +kernel), List.mem_of_getElem? (i := 694) (by decide +kernel), List.mem_of_getElem? (i := 695) (by decide +kernel)⟩
theorem lw_p12 : lw_okq (⟨"FivePlayers$Stage", "areApart", "(II)Z"⟩, 7) := ⟨⟨by decide +kernel, by decide +kernel⟩, List.mem_of_getElem? (i := 139) (by decide +kernel), List.mem_of_getElem? (i := 713) (by decide +kernel), List.mem_of_getElem? (i := 714) (by decide +kernel)⟩
theorem lw_p13 : lw_okq (⟨"FivePlayers$Stage", "isOff", "(I)Z"⟩, 7) := ⟨⟨by decide +kernel, by decide +kernel⟩, List.mem_of_getElem? (i := 139) (by decide +kernel), List.mem_of_getElem? (i := 717) (by decide +kernel), List.mem_of_getElem? (i := 718) (by decide +kernel)⟩
theorem lw_p14 : lw_okq (⟨"FivePlayers$Stage", "meetingLine", "(II)I"⟩, 7) := ⟨⟨by decide +kernel, by decide +kernel⟩, List.mem_of_getElem? (i := 139) (by decide +kernel), List.mem_of_getElem? (i := 722) (by decide +kernel), List.mem_of_getElem? (i := 723) (by decide +kernel)⟩
theorem lw_p15 : lw_okq (⟨"FivePlayers$Stage", "nearLine", "(II)I"⟩, 7) := ⟨⟨by decide +kernel, by decide +kernel⟩, List.mem_of_getElem? (i := 139) (by decide +kernel), List.mem_of_getElem? (i := 729) (by decide +kernel), List.mem_of_getElem? (i := 730) (by decide +kernel)⟩
def lw_privs_1 : List (MethodName × Nat) := [(⟨"FivePlayers", "error", "(I)I"⟩, 10), (⟨"FivePlayers", "newRole", "(II)LFivePlayers$Role;"⟩, 10), (⟨"FivePlayers", "shiftError", "(II)I"⟩, 10), (⟨"FivePlayers$Stage", "namePlayerAndPart", "(II)V"⟩, 7), (⟨"FivePlayers$Stage", "name", "(CI)V"⟩, 7), (⟨"FivePlayers$Stage", "worthOf", "(LFivePlayers$Row;)I"⟩, 7), (⟨"FivePlayers$Reader", "readLevel", "(II)V"⟩, 5), (⟨"FivePlayers$Reader", "readUnit", "(I)V"⟩, 5), (⟨"FivePlayers$Reader", "next", "()I"⟩, 5), (⟨"FivePlayers$Reader", "readNumber", "()V"⟩, 5), (⟨"FivePlayers$Reader", "readClosing", "()V"⟩, 5), (⟨"FivePlayers", "isPair", "(II)Z"⟩, 10), (⟨"FivePlayers$Stage", "areApart", "(II)Z"⟩, 7), (⟨"FivePlayers$Stage", "isOff", "(I)Z"⟩, 7), (⟨"FivePlayers$Stage", "meetingLine", "(II)I"⟩, 7), (⟨"FivePlayers$Stage", "nearLine", "(II)I"⟩, 7)]
theorem lw_r1 : ∀ q ∈ lw_privs_1, lw_okq q := List.forall_mem_cons.mpr ⟨lw_p0, List.forall_mem_cons.mpr ⟨lw_p1, List.forall_mem_cons.mpr ⟨lw_p2, List.forall_mem_cons.mpr ⟨lw_p3, List.forall_mem_cons.mpr ⟨lw_p4, List.forall_mem_cons.mpr ⟨lw_p5, List.forall_mem_cons.mpr ⟨lw_p6, List.forall_mem_cons.mpr ⟨lw_p7, List.forall_mem_cons.mpr ⟨lw_p8, List.forall_mem_cons.mpr ⟨lw_p9, List.forall_mem_cons.mpr ⟨lw_p10, List.forall_mem_cons.mpr ⟨lw_p11, List.forall_mem_cons.mpr ⟨lw_p12, List.forall_mem_cons.mpr ⟨lw_p13, List.forall_mem_cons.mpr ⟨lw_p14, List.forall_mem_cons.mpr ⟨lw_p15, fun _ h => absurd h List.not_mem_nil⟩⟩⟩⟩⟩⟩⟩⟩⟩⟩⟩⟩⟩⟩⟩⟩
theorem lw_p16 : lw_okq (⟨"FivePlayers$Stage", "shareOf", "(II)I"⟩, 7) := ⟨⟨by decide +kernel, by decide +kernel⟩, List.mem_of_getElem? (i := 139) (by decide +kernel), List.mem_of_getElem? (i := 734) (by decide +kernel), List.mem_of_getElem? (i := 735) (by decide +kernel)⟩
theorem lw_p17 : lw_okq (⟨"FivePlayers$Stage", "isSameSide", "(II)Z"⟩, 7) := ⟨⟨by decide +kernel, by decide +kernel⟩, List.mem_of_getElem? (i := 139) (by decide +kernel), List.mem_of_getElem? (i := 738) (by decide +kernel), List.mem_of_getElem? (i := 739) (by decide +kernel)⟩
theorem lw_p18 : lw_okq (⟨"FivePlayers", "isMissing", "(I)Z"⟩, 10) := ⟨⟨by decide +kernel, by decide +kernel⟩, List.mem_of_getElem? (i := 24) (by decide +kernel), List.mem_of_getElem? (i := 755) (by decide +kernel), List.mem_of_getElem? (i := 756) (by decide +kernel)⟩
theorem lw_p19 : lw_okq (⟨"FivePlayers$Stage", "findBarAbove", "(II)I"⟩, 7) := ⟨⟨by decide +kernel, by decide +kernel⟩, List.mem_of_getElem? (i := 139) (by decide +kernel), List.mem_of_getElem? (i := 770) (by decide +kernel), List.mem_of_getElem? (i := 771) (by decide +kernel)⟩
theorem lw_p20 : lw_okq (⟨"FivePlayers$Solver", "settle", "(IIII)Z"⟩, 14) := ⟨⟨by decide +kernel, by decide +kernel⟩, List.mem_of_getElem? (i := 171) (by decide +kernel), List.mem_of_getElem? (i := 800) (by decide +kernel), List.mem_of_getElem? (i := 801) (by decide +kernel)⟩
theorem lw_p21 : lw_okq (⟨"FivePlayers$Solver", "gather", "(II)V"⟩, 14) := ⟨⟨by decide +kernel, by decide +kernel⟩, List.mem_of_getElem? (i := 171) (by decide +kernel), List.mem_of_getElem? (i := 841) (by decide +kernel), List.mem_of_getElem? (i := 842) (by decide +kernel)⟩
theorem lw_p22 : lw_okq (⟨"FivePlayers$Solver", "ask", "(II)V"⟩, 14) := ⟨⟨by decide +kernel, by decide +kernel⟩, List.mem_of_getElem? (i := 171) (by decide +kernel), List.mem_of_getElem? (i := 845) (by decide +kernel), List.mem_of_getElem? (i := 846) (by decide +kernel)⟩
theorem lw_p23 : lw_okq (⟨"FivePlayers$Solver", "costOf", "(III)I"⟩, 14) := ⟨⟨by decide +kernel, by decide +kernel⟩, List.mem_of_getElem? (i := 171) (by decide +kernel), List.mem_of_getElem? (i := 850) (by decide +kernel), List.mem_of_getElem? (i := 851) (by decide +kernel)⟩
theorem lw_p24 : lw_okq (⟨"FivePlayers$Solver", "price", "(I)V"⟩, 14) := ⟨⟨by decide +kernel, by decide +kernel⟩, List.mem_of_getElem? (i := 171) (by decide +kernel), List.mem_of_getElem? (i := 858) (by decide +kernel), List.mem_of_getElem? (i := 859) (by decide +kernel)⟩
theorem lw_p25 : lw_okq (⟨"FivePlayers$Solver", "addToTeam", "(III)V"⟩, 14) := ⟨⟨by decide +kernel, by decide +kernel⟩, List.mem_of_getElem? (i := 171) (by decide +kernel), List.mem_of_getElem? (i := 863) (by decide +kernel), List.mem_of_getElem? (i := 864) (by decide +kernel)⟩
theorem lw_p26 : lw_okq (⟨"FivePlayers$Solver", "dealOut", "(II)V"⟩, 14) := ⟨⟨by decide +kernel, by decide +kernel⟩, List.mem_of_getElem? (i := 171) (by decide +kernel), List.mem_of_getElem? (i := 878) (by decide +kernel), List.mem_of_getElem? (i := 879) (by decide +kernel)⟩
theorem lw_p27 : lw_okq (⟨"FivePlayers$Solver", "leastShare", "(IIII)I"⟩, 14) := ⟨⟨by decide +kernel, by decide +kernel⟩, List.mem_of_getElem? (i := 171) (by decide +kernel), List.mem_of_getElem? (i := 882) (by decide +kernel), List.mem_of_getElem? (i := 883) (by decide +kernel)⟩
theorem lw_p28 : lw_okq (⟨"FivePlayers$Solver", "give", "(II)V"⟩, 14) := ⟨⟨by decide +kernel, by decide +kernel⟩, List.mem_of_getElem? (i := 171) (by decide +kernel), List.mem_of_getElem? (i := 886) (by decide +kernel), List.mem_of_getElem? (i := 887) (by decide +kernel)⟩
theorem lw_p29 : lw_okq (⟨"FivePlayers$Solver", "countWithOneMore", "([II)V"⟩, 14) := ⟨⟨by decide +kernel, by decide +kernel⟩, List.mem_of_getElem? (i := 171) (by decide +kernel), List.mem_of_getElem? (i := 902) (by decide +kernel), List.mem_of_getElem? (i := 903) (by decide +kernel)⟩
theorem lw_p30 : lw_okq (⟨"FivePlayers$Solver", "weighSets", "()V"⟩, 14) := ⟨⟨by decide +kernel, by decide +kernel⟩, List.mem_of_getElem? (i := 171) (by decide +kernel), List.mem_of_getElem? (i := 915) (by decide +kernel), List.mem_of_getElem? (i := 916) (by decide +kernel)⟩
theorem lw_p31 : lw_okq (⟨"FivePlayers$Solver", "isLess", "(II)Z"⟩, 14) := ⟨⟨by decide +kernel, by decide +kernel⟩, List.mem_of_getElem? (i := 171) (by decide +kernel), List.mem_of_getElem? (i := 919) (by decide +kernel), List.mem_of_getElem? (i := 920) (by decide +kernel)⟩
def lw_privs_2 : List (MethodName × Nat) := [(⟨"FivePlayers$Stage", "shareOf", "(II)I"⟩, 7), (⟨"FivePlayers$Stage", "isSameSide", "(II)Z"⟩, 7), (⟨"FivePlayers", "isMissing", "(I)Z"⟩, 10), (⟨"FivePlayers$Stage", "findBarAbove", "(II)I"⟩, 7), (⟨"FivePlayers$Solver", "settle", "(IIII)Z"⟩, 14), (⟨"FivePlayers$Solver", "gather", "(II)V"⟩, 14), (⟨"FivePlayers$Solver", "ask", "(II)V"⟩, 14), (⟨"FivePlayers$Solver", "costOf", "(III)I"⟩, 14), (⟨"FivePlayers$Solver", "price", "(I)V"⟩, 14), (⟨"FivePlayers$Solver", "addToTeam", "(III)V"⟩, 14), (⟨"FivePlayers$Solver", "dealOut", "(II)V"⟩, 14), (⟨"FivePlayers$Solver", "leastShare", "(IIII)I"⟩, 14), (⟨"FivePlayers$Solver", "give", "(II)V"⟩, 14), (⟨"FivePlayers$Solver", "countWithOneMore", "([II)V"⟩, 14), (⟨"FivePlayers$Solver", "weighSets", "()V"⟩, 14), (⟨"FivePlayers$Solver", "isLess", "(II)Z"⟩, 14)]
theorem lw_r2 : ∀ q ∈ lw_privs_2, lw_okq q := List.forall_mem_cons.mpr ⟨lw_p16, List.forall_mem_cons.mpr ⟨lw_p17, List.forall_mem_cons.mpr ⟨lw_p18, List.forall_mem_cons.mpr ⟨lw_p19, List.forall_mem_cons.mpr ⟨lw_p20, List.forall_mem_cons.mpr ⟨lw_p21, List.forall_mem_cons.mpr ⟨lw_p22, List.forall_mem_cons.mpr ⟨lw_p23, List.forall_mem_cons.mpr ⟨lw_p24, List.forall_mem_cons.mpr ⟨lw_p25, List.forall_mem_cons.mpr ⟨lw_p26, List.forall_mem_cons.mpr ⟨lw_p27, List.forall_mem_cons.mpr ⟨lw_p28, List.forall_mem_cons.mpr ⟨lw_p29, List.forall_mem_cons.mpr ⟨lw_p30, List.forall_mem_cons.mpr ⟨lw_p31, fun _ h => absurd h List.not_mem_nil⟩⟩⟩⟩⟩⟩⟩⟩⟩⟩⟩⟩⟩⟩⟩⟩
theorem lw_p32 : lw_okq (⟨"FivePlayersModel", "finds", "(I)I"⟩, 35) := ⟨⟨by decide +kernel, by decide +kernel⟩, List.mem_of_getElem? (i := 1090) (by decide +kernel), List.mem_of_getElem? (i := 1211) (by decide +kernel), List.mem_of_getElem? (i := 1212) (by decide +kernel)⟩
theorem lw_p33 : lw_okq (⟨"FivePlayersModel", "entryOf", "(II)I"⟩, 35) := ⟨⟨by decide +kernel, by decide +kernel⟩, List.mem_of_getElem? (i := 1090) (by decide +kernel), List.mem_of_getElem? (i := 1216) (by decide +kernel), List.mem_of_getElem? (i := 1217) (by decide +kernel)⟩
theorem lw_p34 : lw_okq (⟨"FivePlayersModel", "isPart", "(I)Z"⟩, 35) := ⟨⟨by decide +kernel, by decide +kernel⟩, List.mem_of_getElem? (i := 1090) (by decide +kernel), List.mem_of_getElem? (i := 1228) (by decide +kernel), List.mem_of_getElem? (i := 1229) (by decide +kernel)⟩
theorem lw_p35 : lw_okq (⟨"FivePlayersModel", "its", "(II)I"⟩, 35) := ⟨⟨by decide +kernel, by decide +kernel⟩, List.mem_of_getElem? (i := 1090) (by decide +kernel), List.mem_of_getElem? (i := 1232) (by decide +kernel), List.mem_of_getElem? (i := 1233) (by decide +kernel)⟩
theorem lw_p36 : lw_okq (⟨"FivePlayersModel", "weight", "(I)I"⟩, 35) := ⟨⟨by decide +kernel, by decide +kernel⟩, List.mem_of_getElem? (i := 1090) (by decide +kernel), List.mem_of_getElem? (i := 1242) (by decide +kernel), List.mem_of_getElem? (i := 1243) (by decide +kernel)⟩
theorem lw_p37 : lw_okq (⟨"FivePlayersModel", "entriesOf", "(I)I"⟩, 35) := ⟨⟨by decide +kernel, by decide +kernel⟩, List.mem_of_getElem? (i := 1090) (by decide +kernel), List.mem_of_getElem? (i := 1250) (by decide +kernel), List.mem_of_getElem? (i := 1251) (by decide +kernel)⟩
theorem lw_p38 : lw_okq (⟨"FivePlayersModel", "isOn", "(IIII)Z"⟩, 35) := ⟨⟨by decide +kernel, by decide +kernel⟩, List.mem_of_getElem? (i := 1090) (by decide +kernel), List.mem_of_getElem? (i := 1258) (by decide +kernel), List.mem_of_getElem? (i := 1259) (by decide +kernel)⟩
theorem lw_p39 : lw_okq (⟨"FivePlayersModel", "isEntry", "(I)Z"⟩, 35) := ⟨⟨by decide +kernel, by decide +kernel⟩, List.mem_of_getElem? (i := 1090) (by decide +kernel), List.mem_of_getElem? (i := 1266) (by decide +kernel), List.mem_of_getElem? (i := 1267) (by decide +kernel)⟩
theorem lw_p40 : lw_okq (⟨"FivePlayersModel", "whyNot", "(II)I"⟩, 35) := ⟨⟨by decide +kernel, by decide +kernel⟩, List.mem_of_getElem? (i := 1090) (by decide +kernel), List.mem_of_getElem? (i := 1274) (by decide +kernel), List.mem_of_getElem? (i := 1275) (by decide +kernel)⟩
theorem lw_p41 : lw_okq (⟨"FivePlayersModel", "moves", "(II)V"⟩, 35) := ⟨⟨by decide +kernel, by decide +kernel⟩, List.mem_of_getElem? (i := 1090) (by decide +kernel), List.mem_of_getElem? (i := 1278) (by decide +kernel), List.mem_of_getElem? (i := 1279) (by decide +kernel)⟩
theorem lw_p42 : lw_okq (⟨"FivePlayersModel", "manyOn", "(IZ)I"⟩, 35) := ⟨⟨by decide +kernel, by decide +kernel⟩, List.mem_of_getElem? (i := 1090) (by decide +kernel), List.mem_of_getElem? (i := 1286) (by decide +kernel), List.mem_of_getElem? (i := 1287) (by decide +kernel)⟩
theorem lw_p43 : lw_okq (⟨"FivePlayersModel", "isPlayer", "(I)Z"⟩, 35) := ⟨⟨by decide +kernel, by decide +kernel⟩, List.mem_of_getElem? (i := 1090) (by decide +kernel), List.mem_of_getElem? (i := 1298) (by decide +kernel), List.mem_of_getElem? (i := 1299) (by decide +kernel)⟩
theorem lw_p44 : lw_okq (⟨"FivePlayersModel", "isAble", "(II)Z"⟩, 35) := ⟨⟨by decide +kernel, by decide +kernel⟩, List.mem_of_getElem? (i := 1090) (by decide +kernel), List.mem_of_getElem? (i := 1306) (by decide +kernel), List.mem_of_getElem? (i := 1307) (by decide +kernel)⟩
theorem lw_p45 : lw_okq (⟨"FivePlayersModel", "playerOf", "(II)I"⟩, 35) := ⟨⟨by decide +kernel, by decide +kernel⟩, List.mem_of_getElem? (i := 1090) (by decide +kernel), List.mem_of_getElem? (i := 1310) (by decide +kernel), List.mem_of_getElem? (i := 1311) (by decide +kernel)⟩
theorem lw_p46 : lw_okq (⟨"FivePlayersModel", "names", "(II)V"⟩, 35) := ⟨⟨by decide +kernel, by decide +kernel⟩, List.mem_of_getElem? (i := 1090) (by decide +kernel), List.mem_of_getElem? (i := 1314) (by decide +kernel), List.mem_of_getElem? (i := 1315) (by decide +kernel)⟩
theorem lw_p47 : lw_okq (⟨"FivePlayersModel", "comesTo", "(I)I"⟩, 35) := ⟨⟨by decide +kernel, by decide +kernel⟩, List.mem_of_getElem? (i := 1090) (by decide +kernel), List.mem_of_getElem? (i := 1318) (by decide +kernel), List.mem_of_getElem? (i := 1319) (by decide +kernel)⟩
def lw_privs_3 : List (MethodName × Nat) := [(⟨"FivePlayersModel", "finds", "(I)I"⟩, 35), (⟨"FivePlayersModel", "entryOf", "(II)I"⟩, 35), (⟨"FivePlayersModel", "isPart", "(I)Z"⟩, 35), (⟨"FivePlayersModel", "its", "(II)I"⟩, 35), (⟨"FivePlayersModel", "weight", "(I)I"⟩, 35), (⟨"FivePlayersModel", "entriesOf", "(I)I"⟩, 35), (⟨"FivePlayersModel", "isOn", "(IIII)Z"⟩, 35), (⟨"FivePlayersModel", "isEntry", "(I)Z"⟩, 35), (⟨"FivePlayersModel", "whyNot", "(II)I"⟩, 35), (⟨"FivePlayersModel", "moves", "(II)V"⟩, 35), (⟨"FivePlayersModel", "manyOn", "(IZ)I"⟩, 35), (⟨"FivePlayersModel", "isPlayer", "(I)Z"⟩, 35), (⟨"FivePlayersModel", "isAble", "(II)Z"⟩, 35), (⟨"FivePlayersModel", "playerOf", "(II)I"⟩, 35), (⟨"FivePlayersModel", "names", "(II)V"⟩, 35), (⟨"FivePlayersModel", "comesTo", "(I)I"⟩, 35)]
theorem lw_r3 : ∀ q ∈ lw_privs_3, lw_okq q := List.forall_mem_cons.mpr ⟨lw_p32, List.forall_mem_cons.mpr ⟨lw_p33, List.forall_mem_cons.mpr ⟨lw_p34, List.forall_mem_cons.mpr ⟨lw_p35, List.forall_mem_cons.mpr ⟨lw_p36, List.forall_mem_cons.mpr ⟨lw_p37, List.forall_mem_cons.mpr ⟨lw_p38, List.forall_mem_cons.mpr ⟨lw_p39, List.forall_mem_cons.mpr ⟨lw_p40, List.forall_mem_cons.mpr ⟨lw_p41, List.forall_mem_cons.mpr ⟨lw_p42, List.forall_mem_cons.mpr ⟨lw_p43, List.forall_mem_cons.mpr ⟨lw_p44, List.forall_mem_cons.mpr ⟨lw_p45, List.forall_mem_cons.mpr ⟨lw_p46, List.forall_mem_cons.mpr ⟨lw_p47, fun _ h => absurd h List.not_mem_nil⟩⟩⟩⟩⟩⟩⟩⟩⟩⟩⟩⟩⟩⟩⟩⟩
theorem lw_p48 : lw_okq (⟨"FivePlayersModel", "wishOf", "(II)I"⟩, 35) := ⟨⟨by decide +kernel, by decide +kernel⟩, List.mem_of_getElem? (i := 1090) (by decide +kernel), List.mem_of_getElem? (i := 1329) (by decide +kernel), List.mem_of_getElem? (i := 1330) (by decide +kernel)⟩
theorem lw_p49 : lw_okq (⟨"FivePlayersModel", "reads", "(I)Z"⟩, 35) := ⟨⟨by decide +kernel, by decide +kernel⟩, List.mem_of_getElem? (i := 1090) (by decide +kernel), List.mem_of_getElem? (i := 1345) (by decide +kernel), List.mem_of_getElem? (i := 1346) (by decide +kernel)⟩
theorem lw_p50 : lw_okq (⟨"FivePlayersModel", "readsOne", "(I)Z"⟩, 35) := ⟨⟨by decide +kernel, by decide +kernel⟩, List.mem_of_getElem? (i := 1090) (by decide +kernel), List.mem_of_getElem? (i := 1349) (by decide +kernel), List.mem_of_getElem? (i := 1350) (by decide +kernel)⟩
theorem lw_p51 : lw_okq (⟨"FivePlayersModel", "byteAt", "(I)I"⟩, 35) := ⟨⟨by decide +kernel, by decide +kernel⟩, List.mem_of_getElem? (i := 1090) (by decide +kernel), List.mem_of_getElem? (i := 1353) (by decide +kernel), List.mem_of_getElem? (i := 1354) (by decide +kernel)⟩
theorem lw_p52 : lw_okq (⟨"FivePlayersModel", "openMany", "()I"⟩, 35) := ⟨⟨by decide +kernel, by decide +kernel⟩, List.mem_of_getElem? (i := 1090) (by decide +kernel), List.mem_of_getElem? (i := 1357) (by decide +kernel), List.mem_of_getElem? (i := 1358) (by decide +kernel)⟩
theorem lw_p53 : lw_okq (⟨"FivePlayersModel", "lays", "(I)V"⟩, 35) := ⟨⟨by decide +kernel, by decide +kernel⟩, List.mem_of_getElem? (i := 1090) (by decide +kernel), List.mem_of_getElem? (i := 1367) (by decide +kernel), List.mem_of_getElem? (i := 1368) (by decide +kernel)⟩
theorem lw_p54 : lw_okq (⟨"FivePlayersModel", "denies", "()V"⟩, 35) := ⟨⟨by decide +kernel, by decide +kernel⟩, List.mem_of_getElem? (i := 1090) (by decide +kernel), List.mem_of_getElem? (i := 1374) (by decide +kernel), List.mem_of_getElem? (i := 1375) (by decide +kernel)⟩
theorem lw_p55 : lw_okq (⟨"FivePlayersModel", "hasOpen", "()Z"⟩, 35) := ⟨⟨by decide +kernel, by decide +kernel⟩, List.mem_of_getElem? (i := 1090) (by decide +kernel), List.mem_of_getElem? (i := 1378) (by decide +kernel), List.mem_of_getElem? (i := 1379) (by decide +kernel)⟩
theorem lw_p56 : lw_okq (⟨"FivePlayersModel", "settles", "(I)V"⟩, 35) := ⟨⟨by decide +kernel, by decide +kernel⟩, List.mem_of_getElem? (i := 1090) (by decide +kernel), List.mem_of_getElem? (i := 1382) (by decide +kernel), List.mem_of_getElem? (i := 1383) (by decide +kernel)⟩
theorem lw_p57 : lw_okq (⟨"FivePlayersModel", "isTested", "()Z"⟩, 35) := ⟨⟨by decide +kernel, by decide +kernel⟩, List.mem_of_getElem? (i := 1090) (by decide +kernel), List.mem_of_getElem? (i := 1389) (by decide +kernel), List.mem_of_getElem? (i := 1390) (by decide +kernel)⟩
theorem lw_p58 : lw_okq (⟨"FivePlayersModel", "changeOf", "(III)I"⟩, 35) := ⟨⟨by decide +kernel, by decide +kernel⟩, List.mem_of_getElem? (i := 1090) (by decide +kernel), List.mem_of_getElem? (i := 1397) (by decide +kernel), List.mem_of_getElem? (i := 1398) (by decide +kernel)⟩
theorem lw_p59 : lw_okq (⟨"FivePlayersModel", "lay", "()V"⟩, 35) := ⟨⟨by decide +kernel, by decide +kernel⟩, List.mem_of_getElem? (i := 1090) (by decide +kernel), List.mem_of_getElem? (i := 1405) (by decide +kernel), List.mem_of_getElem? (i := 1406) (by decide +kernel)⟩
theorem lw_p60 : lw_okq (⟨"FivePlayersModel", "layTwo", "(II)V"⟩, 35) := ⟨⟨by decide +kernel, by decide +kernel⟩, List.mem_of_getElem? (i := 1090) (by decide +kernel), List.mem_of_getElem? (i := 1409) (by decide +kernel), List.mem_of_getElem? (i := 1410) (by decide +kernel)⟩
theorem lw_p61 : lw_okq (⟨"FivePlayersModel", "meetAt", "(II)I"⟩, 35) := ⟨⟨by decide +kernel, by decide +kernel⟩, List.mem_of_getElem? (i := 1090) (by decide +kernel), List.mem_of_getElem? (i := 1413) (by decide +kernel), List.mem_of_getElem? (i := 1414) (by decide +kernel)⟩
theorem lw_p62 : lw_okq (⟨"FivePlayersModel", "nearAt", "(II)I"⟩, 35) := ⟨⟨by decide +kernel, by decide +kernel⟩, List.mem_of_getElem? (i := 1090) (by decide +kernel), List.mem_of_getElem? (i := 1417) (by decide +kernel), List.mem_of_getElem? (i := 1418) (by decide +kernel)⟩
theorem lw_p63 : lw_okq (⟨"FivePlayersModel", "findBar", "()V"⟩, 35) := ⟨⟨by decide +kernel, by decide +kernel⟩, List.mem_of_getElem? (i := 1090) (by decide +kernel), List.mem_of_getElem? (i := 1436) (by decide +kernel), List.mem_of_getElem? (i := 1437) (by decide +kernel)⟩
def lw_privs_4 : List (MethodName × Nat) := [(⟨"FivePlayersModel", "wishOf", "(II)I"⟩, 35), (⟨"FivePlayersModel", "reads", "(I)Z"⟩, 35), (⟨"FivePlayersModel", "readsOne", "(I)Z"⟩, 35), (⟨"FivePlayersModel", "byteAt", "(I)I"⟩, 35), (⟨"FivePlayersModel", "openMany", "()I"⟩, 35), (⟨"FivePlayersModel", "lays", "(I)V"⟩, 35), (⟨"FivePlayersModel", "denies", "()V"⟩, 35), (⟨"FivePlayersModel", "hasOpen", "()Z"⟩, 35), (⟨"FivePlayersModel", "settles", "(I)V"⟩, 35), (⟨"FivePlayersModel", "isTested", "()Z"⟩, 35), (⟨"FivePlayersModel", "changeOf", "(III)I"⟩, 35), (⟨"FivePlayersModel", "lay", "()V"⟩, 35), (⟨"FivePlayersModel", "layTwo", "(II)V"⟩, 35), (⟨"FivePlayersModel", "meetAt", "(II)I"⟩, 35), (⟨"FivePlayersModel", "nearAt", "(II)I"⟩, 35), (⟨"FivePlayersModel", "findBar", "()V"⟩, 35)]
theorem lw_r4 : ∀ q ∈ lw_privs_4, lw_okq q := List.forall_mem_cons.mpr ⟨lw_p48, List.forall_mem_cons.mpr ⟨lw_p49, List.forall_mem_cons.mpr ⟨lw_p50, List.forall_mem_cons.mpr ⟨lw_p51, List.forall_mem_cons.mpr ⟨lw_p52, List.forall_mem_cons.mpr ⟨lw_p53, List.forall_mem_cons.mpr ⟨lw_p54, List.forall_mem_cons.mpr ⟨lw_p55, List.forall_mem_cons.mpr ⟨lw_p56, List.forall_mem_cons.mpr ⟨lw_p57, List.forall_mem_cons.mpr ⟨lw_p58, List.forall_mem_cons.mpr ⟨lw_p59, List.forall_mem_cons.mpr ⟨lw_p60, List.forall_mem_cons.mpr ⟨lw_p61, List.forall_mem_cons.mpr ⟨lw_p62, List.forall_mem_cons.mpr ⟨lw_p63, fun _ h => absurd h List.not_mem_nil⟩⟩⟩⟩⟩⟩⟩⟩⟩⟩⟩⟩⟩⟩⟩⟩
theorem lw_p64 : lw_okq (⟨"FivePlayersModel", "allParts", "()I"⟩, 35) := ⟨⟨by decide +kernel, by decide +kernel⟩, List.mem_of_getElem? (i := 1090) (by decide +kernel), List.mem_of_getElem? (i := 1448) (by decide +kernel), List.mem_of_getElem? (i := 1449) (by decide +kernel)⟩
theorem lw_p65 : lw_okq (⟨"FivePlayersModel", "fewestOf", "(I)I"⟩, 35) := ⟨⟨by decide +kernel, by decide +kernel⟩, List.mem_of_getElem? (i := 1090) (by decide +kernel), List.mem_of_getElem? (i := 1452) (by decide +kernel), List.mem_of_getElem? (i := 1453) (by decide +kernel)⟩
theorem lw_p66 : lw_okq (⟨"FivePlayersModel", "isIn", "(II)Z"⟩, 35) := ⟨⟨by decide +kernel, by decide +kernel⟩, List.mem_of_getElem? (i := 1090) (by decide +kernel), List.mem_of_getElem? (i := 1456) (by decide +kernel), List.mem_of_getElem? (i := 1457) (by decide +kernel)⟩
theorem lw_p67 : lw_okq (⟨"FivePlayersModel", "isTroupe", "(I)Z"⟩, 35) := ⟨⟨by decide +kernel, by decide +kernel⟩, List.mem_of_getElem? (i := 1090) (by decide +kernel), List.mem_of_getElem? (i := 1480) (by decide +kernel), List.mem_of_getElem? (i := 1481) (by decide +kernel)⟩
theorem lw_p68 : lw_okq (⟨"FivePlayersModel", "findBest", "(II)Z"⟩, 35) := ⟨⟨by decide +kernel, by decide +kernel⟩, List.mem_of_getElem? (i := 1090) (by decide +kernel), List.mem_of_getElem? (i := 1484) (by decide +kernel), List.mem_of_getElem? (i := 1485) (by decide +kernel)⟩
theorem lw_p69 : lw_okq (⟨"FivePlayersModel", "findSums", "(II)V"⟩, 35) := ⟨⟨by decide +kernel, by decide +kernel⟩, List.mem_of_getElem? (i := 1090) (by decide +kernel), List.mem_of_getElem? (i := 1488) (by decide +kernel), List.mem_of_getElem? (i := 1489) (by decide +kernel)⟩
theorem lw_p70 : lw_okq (⟨"FivePlayersModel", "findSets", "(I)V"⟩, 35) := ⟨⟨by decide +kernel, by decide +kernel⟩, List.mem_of_getElem? (i := 1090) (by decide +kernel), List.mem_of_getElem? (i := 1493) (by decide +kernel), List.mem_of_getElem? (i := 1494) (by decide +kernel)⟩
theorem lw_p71 : lw_okq (⟨"FivePlayersModel", "findCosts", "(II)V"⟩, 35) := ⟨⟨by decide +kernel, by decide +kernel⟩, List.mem_of_getElem? (i := 1090) (by decide +kernel), List.mem_of_getElem? (i := 1497) (by decide +kernel), List.mem_of_getElem? (i := 1498) (by decide +kernel)⟩
theorem lw_p72 : lw_okq (⟨"FivePlayersModel", "isBest", "(IIIIII)Z"⟩, 35) := ⟨⟨by decide +kernel, by decide +kernel⟩, List.mem_of_getElem? (i := 1090) (by decide +kernel), List.mem_of_getElem? (i := 1504) (by decide +kernel), List.mem_of_getElem? (i := 1505) (by decide +kernel)⟩
theorem lw_p73 : lw_okq (⟨"FivePlayersModel", "sumOf", "(II)I"⟩, 35) := ⟨⟨by decide +kernel, by decide +kernel⟩, List.mem_of_getElem? (i := 1090) (by decide +kernel), List.mem_of_getElem? (i := 1508) (by decide +kernel), List.mem_of_getElem? (i := 1509) (by decide +kernel)⟩
theorem lw_p74 : lw_okq (⟨"FivePlayersModel", "findWays", "(I)V"⟩, 35) := ⟨⟨by decide +kernel, by decide +kernel⟩, List.mem_of_getElem? (i := 1090) (by decide +kernel), List.mem_of_getElem? (i := 1520) (by decide +kernel), List.mem_of_getElem? (i := 1521) (by decide +kernel)⟩
theorem lw_p75 : lw_okq (⟨"FivePlayersModel", "weightOf", "(I)I"⟩, 35) := ⟨⟨by decide +kernel, by decide +kernel⟩, List.mem_of_getElem? (i := 1090) (by decide +kernel), List.mem_of_getElem? (i := 1528) (by decide +kernel), List.mem_of_getElem? (i := 1529) (by decide +kernel)⟩
theorem lw_p76 : lw_okq (⟨"FivePlayersModel", "speaks", "(I)I"⟩, 35) := ⟨⟨by decide +kernel, by decide +kernel⟩, List.mem_of_getElem? (i := 1090) (by decide +kernel), List.mem_of_getElem? (i := 1543) (by decide +kernel), List.mem_of_getElem? (i := 1544) (by decide +kernel)⟩
theorem lw_p77 : lw_okq (⟨"FivePlayersModel", "runs", "(I)V"⟩, 35) := ⟨⟨by decide +kernel, by decide +kernel⟩, List.mem_of_getElem? (i := 1090) (by decide +kernel), List.mem_of_getElem? (i := 1547) (by decide +kernel), List.mem_of_getElem? (i := 1548) (by decide +kernel)⟩
theorem lw_p78 : lw_okq (⟨"FivePlayersModel", "walks", "(I)I"⟩, 35) := ⟨⟨by decide +kernel, by decide +kernel⟩, List.mem_of_getElem? (i := 1090) (by decide +kernel), List.mem_of_getElem? (i := 1551) (by decide +kernel), List.mem_of_getElem? (i := 1552) (by decide +kernel)⟩
theorem lw_p79 : lw_okq (⟨"FivePlayersModel", "walksSpoken", "(I)I"⟩, 35) := ⟨⟨by decide +kernel, by decide +kernel⟩, List.mem_of_getElem? (i := 1090) (by decide +kernel), List.mem_of_getElem? (i := 1555) (by decide +kernel), List.mem_of_getElem? (i := 1556) (by decide +kernel)⟩
def lw_privs_5 : List (MethodName × Nat) := [(⟨"FivePlayersModel", "allParts", "()I"⟩, 35), (⟨"FivePlayersModel", "fewestOf", "(I)I"⟩, 35), (⟨"FivePlayersModel", "isIn", "(II)Z"⟩, 35), (⟨"FivePlayersModel", "isTroupe", "(I)Z"⟩, 35), (⟨"FivePlayersModel", "findBest", "(II)Z"⟩, 35), (⟨"FivePlayersModel", "findSums", "(II)V"⟩, 35), (⟨"FivePlayersModel", "findSets", "(I)V"⟩, 35), (⟨"FivePlayersModel", "findCosts", "(II)V"⟩, 35), (⟨"FivePlayersModel", "isBest", "(IIIIII)Z"⟩, 35), (⟨"FivePlayersModel", "sumOf", "(II)I"⟩, 35), (⟨"FivePlayersModel", "findWays", "(I)V"⟩, 35), (⟨"FivePlayersModel", "weightOf", "(I)I"⟩, 35), (⟨"FivePlayersModel", "speaks", "(I)I"⟩, 35), (⟨"FivePlayersModel", "runs", "(I)V"⟩, 35), (⟨"FivePlayersModel", "walks", "(I)I"⟩, 35), (⟨"FivePlayersModel", "walksSpoken", "(I)I"⟩, 35)]
theorem lw_r5 : ∀ q ∈ lw_privs_5, lw_okq q := List.forall_mem_cons.mpr ⟨lw_p64, List.forall_mem_cons.mpr ⟨lw_p65, List.forall_mem_cons.mpr ⟨lw_p66, List.forall_mem_cons.mpr ⟨lw_p67, List.forall_mem_cons.mpr ⟨lw_p68, List.forall_mem_cons.mpr ⟨lw_p69, List.forall_mem_cons.mpr ⟨lw_p70, List.forall_mem_cons.mpr ⟨lw_p71, List.forall_mem_cons.mpr ⟨lw_p72, List.forall_mem_cons.mpr ⟨lw_p73, List.forall_mem_cons.mpr ⟨lw_p74, List.forall_mem_cons.mpr ⟨lw_p75, List.forall_mem_cons.mpr ⟨lw_p76, List.forall_mem_cons.mpr ⟨lw_p77, List.forall_mem_cons.mpr ⟨lw_p78, List.forall_mem_cons.mpr ⟨lw_p79, fun _ h => absurd h List.not_mem_nil⟩⟩⟩⟩⟩⟩⟩⟩⟩⟩⟩⟩⟩⟩⟩⟩
theorem lw_p80 : lw_okq (⟨"FivePlayersModel", "walksPart", "(I)I"⟩, 35) := ⟨⟨by decide +kernel, by decide +kernel⟩, List.mem_of_getElem? (i := 1090) (by decide +kernel), List.mem_of_getElem? (i := 1559) (by decide +kernel), List.mem_of_getElem? (i := 1560) (by decide +kernel)⟩
theorem lw_p81 : lw_okq (⟨"FivePlayersModel", "dies", "(I)I"⟩, 35) := ⟨⟨by decide +kernel, by decide +kernel⟩, List.mem_of_getElem? (i := 1090) (by decide +kernel), List.mem_of_getElem? (i := 1563) (by decide +kernel), List.mem_of_getElem? (i := 1564) (by decide +kernel)⟩
theorem lw_p82 : lw_okq (⟨"FivePlayersModel", "bows", "(I)I"⟩, 35) := ⟨⟨by decide +kernel, by decide +kernel⟩, List.mem_of_getElem? (i := 1090) (by decide +kernel), List.mem_of_getElem? (i := 1567) (by decide +kernel), List.mem_of_getElem? (i := 1568) (by decide +kernel)⟩
theorem lw_p83 : lw_okq (⟨"FivePlayersModel", "bowsMute", "(I)I"⟩, 35) := ⟨⟨by decide +kernel, by decide +kernel⟩, List.mem_of_getElem? (i := 1090) (by decide +kernel), List.mem_of_getElem? (i := 1571) (by decide +kernel), List.mem_of_getElem? (i := 1572) (by decide +kernel)⟩
theorem lw_p84 : lw_okq (⟨"FivePlayersModel", "bowsPart", "(I)I"⟩, 35) := ⟨⟨by decide +kernel, by decide +kernel⟩, List.mem_of_getElem? (i := 1090) (by decide +kernel), List.mem_of_getElem? (i := 1575) (by decide +kernel), List.mem_of_getElem? (i := 1576) (by decide +kernel)⟩
def lw_privs_6 : List (MethodName × Nat) := [(⟨"FivePlayersModel", "walksPart", "(I)I"⟩, 35), (⟨"FivePlayersModel", "dies", "(I)I"⟩, 35), (⟨"FivePlayersModel", "bows", "(I)I"⟩, 35), (⟨"FivePlayersModel", "bowsMute", "(I)I"⟩, 35), (⟨"FivePlayersModel", "bowsPart", "(I)I"⟩, 35)]
theorem lw_r6 : ∀ q ∈ lw_privs_6, lw_okq q := List.forall_mem_cons.mpr ⟨lw_p80, List.forall_mem_cons.mpr ⟨lw_p81, List.forall_mem_cons.mpr ⟨lw_p82, List.forall_mem_cons.mpr ⟨lw_p83, List.forall_mem_cons.mpr ⟨lw_p84, fun _ h => absurd h List.not_mem_nil⟩⟩⟩⟩⟩
def lw_privs : List (MethodName × Nat) := lw_privs_1 ++ (lw_privs_2 ++ (lw_privs_3 ++ (lw_privs_4 ++ (lw_privs_5 ++ (lw_privs_6)))))
def lw_tbl : List Cond := k2_sels lw_privs ++ tables_1
theorem lw_privs_ok : ∀ q ∈ lw_privs, lw_okq q := by
  show ∀ q ∈ lw_privs_1 ++ (lw_privs_2 ++ (lw_privs_3 ++ (lw_privs_4 ++ (lw_privs_5 ++ (lw_privs_6))))), lw_okq q
  exact List.forall_mem_append.mpr ⟨lw_r1, List.forall_mem_append.mpr ⟨lw_r2, List.forall_mem_append.mpr ⟨lw_r3, List.forall_mem_append.mpr ⟨lw_r4, List.forall_mem_append.mpr ⟨lw_r5, lw_r6⟩⟩⟩⟩⟩
-- ===== end of PART A; then your names; then what follows =====
end
section
def RX0 : String := "FivePlayers$King"
def TX0 : u_T := fun k => match k with
  | 0 => ("FivePlayers$Role", "number", "I", true)
  | 1 => ("FivePlayers$Role", "kind", "I", true)
  | 2 => ("FivePlayers$Role", "need", "I", true)
  | 3 => ("FivePlayers$Role", "age", "I", true)
  | _ => ("FivePlayers$Role", "wig", "I", true)
def tyX0 : Nat → FieldType := fun k => match k with
  | 0 => .int
  | 1 => .int
  | 2 => .int
  | 3 => .int
  | _ => .int
abbrev wsX00 : List Cond := u_ws RX0 TX0 5
theorem nmX0 : ∀ a, a < 5 → ∀ b, b < 5 → a ≠ b → (TX0 a).2.1 ≠ (TX0 b).2.1 := by decide +kernel
theorem tyX0_ok : ∀ k, k < 5 → parseFieldDescriptor (TX0 k).2.2.1 = some (tyX0 k) := by decide +kernel
abbrev cX0_init : ByteArray := prog_2_method_1_code
def yX0_init : MethodName := ⟨RX0, "<init>", "(III)V"⟩
abbrev cX0_speak : ByteArray := prog_2_method_2_code
def yX0_speak : MethodName := ⟨RX0, "speak", "(ILFivePlayers$Row;)I"⟩
abbrev cX0_walk : ByteArray := prog_2_method_3_code
def yX0_walk : MethodName := ⟨RX0, "walk", "(ILFivePlayers$Row;)I"⟩
def RX1 : String := "FivePlayers$Masked"
def TX1 : u_T := fun k => match k with
  | 0 => ("FivePlayers$Role", "number", "I", true)
  | 1 => ("FivePlayers$Role", "kind", "I", true)
  | 2 => ("FivePlayers$Role", "need", "I", true)
  | 3 => ("FivePlayers$Role", "age", "I", true)
  | _ => ("FivePlayers$Role", "wig", "I", true)
def tyX1 : Nat → FieldType := fun k => match k with
  | 0 => .int
  | 1 => .int
  | 2 => .int
  | 3 => .int
  | _ => .int
abbrev wsX10 : List Cond := u_ws RX1 TX1 5
theorem nmX1 : ∀ a, a < 5 → ∀ b, b < 5 → a ≠ b → (TX1 a).2.1 ≠ (TX1 b).2.1 := by decide +kernel
theorem tyX1_ok : ∀ k, k < 5 → parseFieldDescriptor (TX1 k).2.2.1 = some (tyX1 k) := by decide +kernel
abbrev cX1_init : ByteArray := prog_3_method_1_code
def yX1_init : MethodName := ⟨RX1, "<init>", "(III)V"⟩
abbrev cX1_bow : ByteArray := prog_3_method_2_code
def yX1_bow : MethodName := ⟨RX1, "bow", "(ILFivePlayers$Row;)I"⟩
def RX2 : String := "FivePlayers$Mute"
def TX2 : u_T := fun k => match k with
  | 0 => ("FivePlayers$Role", "number", "I", true)
  | 1 => ("FivePlayers$Role", "kind", "I", true)
  | 2 => ("FivePlayers$Role", "need", "I", true)
  | 3 => ("FivePlayers$Role", "age", "I", true)
  | _ => ("FivePlayers$Role", "wig", "I", true)
def tyX2 : Nat → FieldType := fun k => match k with
  | 0 => .int
  | 1 => .int
  | 2 => .int
  | 3 => .int
  | _ => .int
abbrev wsX20 : List Cond := u_ws RX2 TX2 5
theorem nmX2 : ∀ a, a < 5 → ∀ b, b < 5 → a ≠ b → (TX2 a).2.1 ≠ (TX2 b).2.1 := by decide +kernel
theorem tyX2_ok : ∀ k, k < 5 → parseFieldDescriptor (TX2 k).2.2.1 = some (tyX2 k) := by decide +kernel
abbrev cX2_init : ByteArray := prog_4_method_1_code
def yX2_init : MethodName := ⟨RX2, "<init>", "(III)V"⟩
abbrev cX2_speak : ByteArray := prog_4_method_2_code
def yX2_speak : MethodName := ⟨RX2, "speak", "(ILFivePlayers$Row;)I"⟩
abbrev cX2_bow : ByteArray := prog_4_method_3_code
def yX2_bow : MethodName := ⟨RX2, "bow", "(ILFivePlayers$Row;)I"⟩
def RX3 : String := "FivePlayers$Off"
def TX3 : u_T := fun k => match k with
  | 0 => ("FivePlayers$Role", "number", "I", true)
  | 1 => ("FivePlayers$Role", "kind", "I", true)
  | 2 => ("FivePlayers$Role", "need", "I", true)
  | 3 => ("FivePlayers$Role", "age", "I", true)
  | _ => ("FivePlayers$Role", "wig", "I", true)
def tyX3 : Nat → FieldType := fun k => match k with
  | 0 => .int
  | 1 => .int
  | 2 => .int
  | 3 => .int
  | _ => .int
abbrev wsX30 : List Cond := u_ws RX3 TX3 5
theorem nmX3 : ∀ a, a < 5 → ∀ b, b < 5 → a ≠ b → (TX3 a).2.1 ≠ (TX3 b).2.1 := by decide +kernel
theorem tyX3_ok : ∀ k, k < 5 → parseFieldDescriptor (TX3 k).2.2.1 = some (tyX3 k) := by decide +kernel
abbrev cX3_init : ByteArray := prog_5_method_1_code
def yX3_init : MethodName := ⟨RX3, "<init>", "(III)V"⟩
abbrev cX3_die : ByteArray := prog_5_method_2_code
def yX3_die : MethodName := ⟨RX3, "die", "(ILFivePlayers$Row;)I"⟩
abbrev cX3_walk : ByteArray := prog_5_method_3_code
def yX3_walk : MethodName := ⟨RX3, "walk", "(ILFivePlayers$Row;)I"⟩
def RX4 : String := "FivePlayers$Play"
def TX4 : u_T := fun k => match k with
  | 0 => ("FivePlayers$Play", "lines", "I", false)
  | 1 => ("FivePlayers$Play", "parts", "I", false)
  | 2 => ("FivePlayers$Play", "entries", "I", false)
  | 3 => ("FivePlayers$Play", "players", "I", false)
  | 4 => ("FivePlayers$Play", "role", "[LFivePlayers$Role;", true)
  | 5 => ("FivePlayers$Play", "told", "[I", true)
  | 6 => ("FivePlayers$Play", "whose", "[I", true)
  | 7 => ("FivePlayers$Play", "from", "[I", true)
  | 8 => ("FivePlayers$Play", "to", "[I", true)
  | 9 => ("FivePlayers$Play", "sides", "[I", true)
  | 10 => ("FivePlayers$Play", "gift", "[I", true)
  | 11 => ("FivePlayers$Play", "age", "[I", true)
  | 12 => ("FivePlayers$Play", "known", "[I", true)
  | 13 => ("FivePlayers$Play", "tape", "LFivePlayers$Row;", true)
  | 14 => ("FivePlayers$Play", "waiting", "LFivePlayers$Row;", true)
  | _ => ("FivePlayers$Play", "texts", "[LFivePlayers$Row;", true)
def tyX4 : Nat → FieldType := fun k => match k with
  | 0 => .int
  | 1 => .int
  | 2 => .int
  | 3 => .int
  | 4 => .array (.object "FivePlayers$Role")
  | 5 => .array .int
  | 6 => .array .int
  | 7 => .array .int
  | 8 => .array .int
  | 9 => .array .int
  | 10 => .array .int
  | 11 => .array .int
  | 12 => .array .int
  | 13 => .object "FivePlayers$Row"
  | 14 => .object "FivePlayers$Row"
  | _ => .array (.object "FivePlayers$Row")
abbrev wsX40 : List Cond := u_ws RX4 TX4 16
theorem nmX4 : ∀ a, a < 16 → ∀ b, b < 16 → a ≠ b → (TX4 a).2.1 ≠ (TX4 b).2.1 := by decide +kernel
theorem tyX4_ok : ∀ k, k < 16 → parseFieldDescriptor (TX4 k).2.2.1 = some (tyX4 k) := by decide +kernel
abbrev cX4_init : ByteArray := prog_6_method_1_code
def yX4_init : MethodName := ⟨RX4, "<init>", "()V"⟩
abbrev cX4_become : ByteArray := prog_6_method_2_code
def yX4_become : MethodName := ⟨RX4, "become", "(LFivePlayers$Play;)V"⟩
abbrev cX4_addPart : ByteArray := prog_6_method_3_code
def yX4_addPart : MethodName := ⟨RX4, "addPart", "(LFivePlayers$Role;)I"⟩
abbrev cX4_addEntry : ByteArray := prog_6_method_4_code
def yX4_addEntry : MethodName := ⟨RX4, "addEntry", "(IIII)I"⟩
abbrev cX4_addPlayer : ByteArray := prog_6_method_5_code
def yX4_addPlayer : MethodName := ⟨RX4, "addPlayer", "(II)I"⟩
abbrev cX4_delay : ByteArray := prog_6_method_6_code
def yX4_delay : MethodName := ⟨RX4, "delay", "(II)V"⟩
abbrev cX4_hasPart : ByteArray := prog_6_method_7_code
def yX4_hasPart : MethodName := ⟨RX4, "hasPart", "(I)Z"⟩
abbrev cX4_hasLine : ByteArray := prog_6_method_8_code
def yX4_hasLine : MethodName := ⟨RX4, "hasLine", "(I)Z"⟩
abbrev cX4_hasEntry : ByteArray := prog_6_method_9_code
def yX4_hasEntry : MethodName := ⟨RX4, "hasEntry", "(I)Z"⟩
abbrev cX4_hasPlayer : ByteArray := prog_6_method_10_code
def yX4_hasPlayer : MethodName := ⟨RX4, "hasPlayer", "(I)Z"⟩
abbrev cX4_isPlayerOrNobody : ByteArray := prog_6_method_11_code
def yX4_isPlayerOrNobody : MethodName := ⟨RX4, "isPlayerOrNobody", "(I)Z"⟩
abbrev cX4_isSet : ByteArray := prog_6_method_12_code
def yX4_isSet : MethodName := ⟨RX4, "isSet", "(I)Z"⟩
abbrev cX4_allPlayers : ByteArray := prog_6_method_13_code
def yX4_allPlayers : MethodName := ⟨RX4, "allPlayers", "()I"⟩
abbrev cX4_allParts : ByteArray := prog_6_method_14_code
def yX4_allParts : MethodName := ⟨RX4, "allParts", "()I"⟩
abbrev cX4_knows : ByteArray := prog_6_method_15_code
def yX4_knows : MethodName := ⟨RX4, "knows", "(II)Z"⟩
abbrev cX4_covers : ByteArray := prog_6_method_16_code
def yX4_covers : MethodName := ⟨RX4, "covers", "(II)Z"⟩
abbrev cX4_lastLine : ByteArray := prog_6_method_17_code
def yX4_lastLine : MethodName := ⟨RX4, "lastLine", "()I"⟩
abbrev cX4_isTaken : ByteArray := prog_6_method_18_code
def yX4_isTaken : MethodName := ⟨RX4, "isTaken", "(IIII)Z"⟩
abbrev cX4_weight : ByteArray := prog_6_method_19_code
def yX4_weight : MethodName := ⟨RX4, "weight", "(I)I"⟩
abbrev cX4_weightOfSet : ByteArray := prog_6_method_20_code
def yX4_weightOfSet : MethodName := ⟨RX4, "weightOfSet", "(I)I"⟩
abbrev cX4_entriesOf : ByteArray := prog_6_method_21_code
def yX4_entriesOf : MethodName := ⟨RX4, "entriesOf", "(I)I"⟩
abbrev cX4_isOnStage : ByteArray := prog_6_method_22_code
def yX4_isOnStage : MethodName := ⟨RX4, "isOnStage", "(II)Z"⟩
abbrev cX4_seenOn : ByteArray := prog_6_method_23_code
def yX4_seenOn : MethodName := ⟨RX4, "seenOn", "(I)I"⟩
abbrev cX4_usesWithText : ByteArray := prog_6_method_24_code
def yX4_usesWithText : MethodName := ⟨RX4, "usesWithText", "()I"⟩
abbrev cX4_partsGiven : ByteArray := prog_6_method_25_code
def yX4_partsGiven : MethodName := ⟨RX4, "partsGiven", "()I"⟩
def RX5 : String := "FivePlayers$Reader"
def TX5 : u_T := fun k => match k with
  | 0 => ("FivePlayers$Reader", "code", "LFivePlayers$Row;", true)
  | 1 => ("FivePlayers$Reader", "tape", "LFivePlayers$Row;", false)
  | 2 => ("FivePlayers$Reader", "names", "Ljava/lang/String;", false)
  | 3 => ("FivePlayers$Reader", "place", "I", false)
  | _ => ("FivePlayers$Reader", "faulty", "Z", false)
def tyX5 : Nat → FieldType := fun k => match k with
  | 0 => .object "FivePlayers$Row"
  | 1 => .object "FivePlayers$Row"
  | 2 => .object "java/lang/String"
  | 3 => .int
  | _ => .boolean
abbrev wsX50 : List Cond := u_ws RX5 TX5 5
theorem nmX5 : ∀ a, a < 5 → ∀ b, b < 5 → a ≠ b → (TX5 a).2.1 ≠ (TX5 b).2.1 := by decide +kernel
theorem tyX5_ok : ∀ k, k < 5 → parseFieldDescriptor (TX5 k).2.2.1 = some (tyX5 k) := by decide +kernel
abbrev cX5_init : ByteArray := prog_7_method_1_code
def yX5_init : MethodName := ⟨RX5, "<init>", "()V"⟩
abbrev cX5_reads : ByteArray := prog_7_method_2_code
def yX5_reads : MethodName := ⟨RX5, "reads", "(LFivePlayers$Row;I)Z"⟩
abbrev cX5_namesOf : ByteArray := prog_7_method_3_code
def yX5_namesOf : MethodName := ⟨RX5, "namesOf", "(I)Ljava/lang/String;"⟩
abbrev cX5_levelOf : ByteArray := prog_7_method_4_code
def yX5_levelOf : MethodName := ⟨RX5, "levelOf", "(I)I"⟩
abbrev cX5_next : ByteArray := prog_7_method_5_code
def yX5_next : MethodName := ⟨RX5, "next", "()I"⟩
abbrev cX5_isDigit : ByteArray := prog_7_method_6_code
def yX5_isDigit : MethodName := ⟨RX5, "isDigit", "(I)Z"⟩
abbrev cX5_readLevel : ByteArray := prog_7_method_7_code
def yX5_readLevel : MethodName := ⟨RX5, "readLevel", "(II)V"⟩
abbrev cX5_readUnit : ByteArray := prog_7_method_8_code
def yX5_readUnit : MethodName := ⟨RX5, "readUnit", "(I)V"⟩
abbrev cX5_readNumber : ByteArray := prog_7_method_9_code
def yX5_readNumber : MethodName := ⟨RX5, "readNumber", "()V"⟩
abbrev cX5_readClosing : ByteArray := prog_7_method_10_code
def yX5_readClosing : MethodName := ⟨RX5, "readClosing", "()V"⟩
def RX6 : String := "FivePlayers$Role"
def TX6 : u_T := fun k => match k with
  | 0 => ("FivePlayers$Role", "number", "I", true)
  | 1 => ("FivePlayers$Role", "kind", "I", true)
  | 2 => ("FivePlayers$Role", "need", "I", true)
  | 3 => ("FivePlayers$Role", "age", "I", true)
  | _ => ("FivePlayers$Role", "wig", "I", true)
def tyX6 : Nat → FieldType := fun k => match k with
  | 0 => .int
  | 1 => .int
  | 2 => .int
  | 3 => .int
  | _ => .int
abbrev wsX60 : List Cond := u_ws RX6 TX6 5
theorem nmX6 : ∀ a, a < 5 → ∀ b, b < 5 → a ≠ b → (TX6 a).2.1 ≠ (TX6 b).2.1 := by decide +kernel
theorem tyX6_ok : ∀ k, k < 5 → parseFieldDescriptor (TX6 k).2.2.1 = some (tyX6 k) := by decide +kernel
abbrev cX6_init : ByteArray := prog_8_method_1_code
def yX6_init : MethodName := ⟨RX6, "<init>", "(III)V"⟩
abbrev cX6_isOf : ByteArray := prog_8_method_2_code
def yX6_isOf : MethodName := ⟨RX6, "isOf", "(I)Z"⟩
abbrev cX6_speak : ByteArray := prog_8_method_3_code
def yX6_speak : MethodName := ⟨RX6, "speak", "(ILFivePlayers$Row;)I"⟩
abbrev cX6_walk : ByteArray := prog_8_method_4_code
def yX6_walk : MethodName := ⟨RX6, "walk", "(ILFivePlayers$Row;)I"⟩
abbrev cX6_die : ByteArray := prog_8_method_5_code
def yX6_die : MethodName := ⟨RX6, "die", "(ILFivePlayers$Row;)I"⟩
abbrev cX6_bow : ByteArray := prog_8_method_6_code
def yX6_bow : MethodName := ⟨RX6, "bow", "(ILFivePlayers$Row;)I"⟩
def RX7 : String := "FivePlayers$Row"
def TX7 : u_T := fun k => match k with
  | 0 => ("FivePlayers$Row", "at", "[I", true)
  | _ => ("FivePlayers$Row", "size", "I", false)
def tyX7 : Nat → FieldType := fun k => match k with
  | 0 => .array .int
  | _ => .int
abbrev wsX70 : List Cond := u_ws RX7 TX7 2
theorem nmX7 : ∀ a, a < 2 → ∀ b, b < 2 → a ≠ b → (TX7 a).2.1 ≠ (TX7 b).2.1 := by decide +kernel
theorem tyX7_ok : ∀ k, k < 2 → parseFieldDescriptor (TX7 k).2.2.1 = some (tyX7 k) := by decide +kernel
abbrev cX7_init : ByteArray := prog_9_method_1_code
def yX7_init : MethodName := ⟨RX7, "<init>", "(I)V"⟩
abbrev cX7_add : ByteArray := prog_9_method_2_code
def yX7_add : MethodName := ⟨RX7, "add", "(I)V"⟩
abbrev cX7_become : ByteArray := prog_9_method_3_code
def yX7_become : MethodName := ⟨RX7, "become", "(LFivePlayers$Row;)V"⟩
abbrev cX7_holds : ByteArray := prog_9_method_4_code
def yX7_holds : MethodName := ⟨RX7, "holds", "(II)Z"⟩
def RX8 : String := "FivePlayers$Solver"
def TX8 : u_T := fun k => match k with
  | 0 => ("FivePlayers$Solver", "play", "LFivePlayers$Play;", true)
  | 1 => ("FivePlayers$Solver", "stage", "LFivePlayers$Stage;", true)
  | 2 => ("FivePlayers$Solver", "groupOf", "[I", true)
  | 3 => ("FivePlayers$Solver", "inGroup", "[I", true)
  | 4 => ("FivePlayers$Solver", "team", "[I", true)
  | 5 => ("FivePlayers$Solver", "teamSize", "I", false)
  | 6 => ("FivePlayers$Solver", "single", "[[I", true)
  | 7 => ("FivePlayers$Solver", "cost", "[I", true)
  | 8 => ("FivePlayers$Solver", "least", "[[I", true)
  | 9 => ("FivePlayers$Solver", "castingsOf", "[I", false)
  | 10 => ("FivePlayers$Solver", "playerOf", "[I", true)
  | 11 => ("FivePlayers$Solver", "sum", "I", false)
  | 12 => ("FivePlayers$Solver", "inSome", "I", false)
  | _ => ("FivePlayers$Solver", "inEach", "I", false)
def tyX8 : Nat → FieldType := fun k => match k with
  | 0 => .object "FivePlayers$Play"
  | 1 => .object "FivePlayers$Stage"
  | 2 => .array .int
  | 3 => .array .int
  | 4 => .array .int
  | 5 => .int
  | 6 => .array (.array .int)
  | 7 => .array .int
  | 8 => .array (.array .int)
  | 9 => .array .int
  | 10 => .array .int
  | 11 => .int
  | 12 => .int
  | _ => .int
abbrev wsX80 : List Cond := u_ws RX8 TX8 14
theorem nmX8 : ∀ a, a < 14 → ∀ b, b < 14 → a ≠ b → (TX8 a).2.1 ≠ (TX8 b).2.1 := by decide +kernel
theorem tyX8_ok : ∀ k, k < 14 → parseFieldDescriptor (TX8 k).2.2.1 = some (tyX8 k) := by decide +kernel
abbrev cX8_init : ByteArray := prog_10_method_1_code
def yX8_init : MethodName := ⟨RX8, "<init>", "(LFivePlayers$Play;LFivePlayers$Stage;)V"⟩
abbrev cX8_fewestGroups : ByteArray := prog_10_method_2_code
def yX8_fewestGroups : MethodName := ⟨RX8, "fewestGroups", "(I)I"⟩
abbrev cX8_settle : ByteArray := prog_10_method_3_code
def yX8_settle : MethodName := ⟨RX8, "settle", "(IIII)Z"⟩
abbrev cX8_gather : ByteArray := prog_10_method_4_code
def yX8_gather : MethodName := ⟨RX8, "gather", "(II)V"⟩
abbrev cX8_ask : ByteArray := prog_10_method_5_code
def yX8_ask : MethodName := ⟨RX8, "ask", "(II)V"⟩
abbrev cX8_price : ByteArray := prog_10_method_6_code
def yX8_price : MethodName := ⟨RX8, "price", "(I)V"⟩
abbrev cX8_costOf : ByteArray := prog_10_method_7_code
def yX8_costOf : MethodName := ⟨RX8, "costOf", "(III)I"⟩
abbrev cX8_findBest : ByteArray := prog_10_method_8_code
def yX8_findBest : MethodName := ⟨RX8, "findBest", "(II)Z"⟩
abbrev cX8_addToTeam : ByteArray := prog_10_method_9_code
def yX8_addToTeam : MethodName := ⟨RX8, "addToTeam", "(III)V"⟩
abbrev cX8_together : ByteArray := prog_10_method_10_code
def yX8_together : MethodName := ⟨RX8, "together", "(III)I"⟩
abbrev cX8_dealOut : ByteArray := prog_10_method_11_code
def yX8_dealOut : MethodName := ⟨RX8, "dealOut", "(II)V"⟩
abbrev cX8_leastShare : ByteArray := prog_10_method_12_code
def yX8_leastShare : MethodName := ⟨RX8, "leastShare", "(IIII)I"⟩
abbrev cX8_give : ByteArray := prog_10_method_13_code
def yX8_give : MethodName := ⟨RX8, "give", "(II)V"⟩
abbrev cX8_countCastings : ByteArray := prog_10_method_14_code
def yX8_countCastings : MethodName := ⟨RX8, "countCastings", "(I)V"⟩
abbrev cX8_countWithOneMore : ByteArray := prog_10_method_15_code
def yX8_countWithOneMore : MethodName := ⟨RX8, "countWithOneMore", "([II)V"⟩
abbrev cX8_leftOut : ByteArray := prog_10_method_16_code
def yX8_leftOut : MethodName := ⟨RX8, "leftOut", "()I"⟩
abbrev cX8_weighSets : ByteArray := prog_10_method_17_code
def yX8_weighSets : MethodName := ⟨RX8, "weighSets", "()V"⟩
abbrev cX8_isLess : ByteArray := prog_10_method_18_code
def yX8_isLess : MethodName := ⟨RX8, "isLess", "(II)Z"⟩
abbrev cX8_findShares : ByteArray := prog_10_method_19_code
def yX8_findShares : MethodName := ⟨RX8, "findShares", "(IZ)Z"⟩
def RX9 : String := "FivePlayers$Spoken"
def TX9 : u_T := fun k => match k with
  | 0 => ("FivePlayers$Role", "number", "I", true)
  | 1 => ("FivePlayers$Role", "kind", "I", true)
  | 2 => ("FivePlayers$Role", "need", "I", true)
  | 3 => ("FivePlayers$Role", "age", "I", true)
  | _ => ("FivePlayers$Role", "wig", "I", true)
def tyX9 : Nat → FieldType := fun k => match k with
  | 0 => .int
  | 1 => .int
  | 2 => .int
  | 3 => .int
  | _ => .int
abbrev wsX90 : List Cond := u_ws RX9 TX9 5
theorem nmX9 : ∀ a, a < 5 → ∀ b, b < 5 → a ≠ b → (TX9 a).2.1 ≠ (TX9 b).2.1 := by decide +kernel
theorem tyX9_ok : ∀ k, k < 5 → parseFieldDescriptor (TX9 k).2.2.1 = some (tyX9 k) := by decide +kernel
abbrev cX9_init : ByteArray := prog_11_method_1_code
def yX9_init : MethodName := ⟨RX9, "<init>", "(III)V"⟩
abbrev cX9_walk : ByteArray := prog_11_method_2_code
def yX9_walk : MethodName := ⟨RX9, "walk", "(ILFivePlayers$Row;)I"⟩
def RX10 : String := "FivePlayers$Stage"
def TX10 : u_T := fun k => match k with
  | 0 => ("FivePlayers$Stage", "play", "LFivePlayers$Play;", true)
  | 1 => ("FivePlayers$Stage", "named", "[I", true)
  | 2 => ("FivePlayers$Stage", "stack", "[I", true)
  | 3 => ("FivePlayers$Stage", "barred", "[I", true)
  | 4 => ("FivePlayers$Stage", "barPart", "I", false)
  | 5 => ("FivePlayers$Stage", "barOther", "I", false)
  | _ => ("FivePlayers$Stage", "barLine", "I", false)
def tyX10 : Nat → FieldType := fun k => match k with
  | 0 => .object "FivePlayers$Play"
  | 1 => .array .int
  | 2 => .array .int
  | 3 => .array .int
  | 4 => .int
  | 5 => .int
  | _ => .int
abbrev wsX100 : List Cond := u_ws RX10 TX10 7
theorem nmX10 : ∀ a, a < 7 → ∀ b, b < 7 → a ≠ b → (TX10 a).2.1 ≠ (TX10 b).2.1 := by decide +kernel
theorem tyX10_ok : ∀ k, k < 7 → parseFieldDescriptor (TX10 k).2.2.1 = some (tyX10 k) := by decide +kernel
abbrev cX10_init : ByteArray := prog_12_method_1_code
def yX10_init : MethodName := ⟨RX10, "<init>", "(LFivePlayers$Play;)V"⟩
abbrev cX10_isAble : ByteArray := prog_12_method_2_code
def yX10_isAble : MethodName := ⟨RX10, "isAble", "(II)Z"⟩
abbrev cX10_wishOf : ByteArray := prog_12_method_3_code
def yX10_wishOf : MethodName := ⟨RX10, "wishOf", "(II)I"⟩
abbrev cX10_changeOf : ByteArray := prog_12_method_4_code
def yX10_changeOf : MethodName := ⟨RX10, "changeOf", "(III)I"⟩
abbrev cX10_namePlayerAndPart : ByteArray := prog_12_method_5_code
def yX10_namePlayerAndPart : MethodName := ⟨RX10, "namePlayerAndPart", "(II)V"⟩
abbrev cX10_name : ByteArray := prog_12_method_6_code
def yX10_name : MethodName := ⟨RX10, "name", "(CI)V"⟩
abbrev cX10_held : ByteArray := prog_12_method_7_code
def yX10_held : MethodName := ⟨RX10, "held", "(II)I"⟩
abbrev cX10_worthOf : ByteArray := prog_12_method_8_code
def yX10_worthOf : MethodName := ⟨RX10, "worthOf", "(LFivePlayers$Row;)I"⟩
abbrev cX10_joined : ByteArray := prog_12_method_9_code
def yX10_joined : MethodName := ⟨RX10, "joined", "(III)I"⟩
abbrev cX10_howBarred : ByteArray := prog_12_method_10_code
def yX10_howBarred : MethodName := ⟨RX10, "howBarred", "(II)I"⟩
abbrev cX10_areApart : ByteArray := prog_12_method_11_code
def yX10_areApart : MethodName := ⟨RX10, "areApart", "(II)Z"⟩
abbrev cX10_isOff : ByteArray := prog_12_method_12_code
def yX10_isOff : MethodName := ⟨RX10, "isOff", "(I)Z"⟩
abbrev cX10_shareOf : ByteArray := prog_12_method_13_code
def yX10_shareOf : MethodName := ⟨RX10, "shareOf", "(II)I"⟩
abbrev cX10_earlier : ByteArray := prog_12_method_14_code
def yX10_earlier : MethodName := ⟨RX10, "earlier", "(II)I"⟩
abbrev cX10_meetingLine : ByteArray := prog_12_method_15_code
def yX10_meetingLine : MethodName := ⟨RX10, "meetingLine", "(II)I"⟩
abbrev cX10_nearLine : ByteArray := prog_12_method_16_code
def yX10_nearLine : MethodName := ⟨RX10, "nearLine", "(II)I"⟩
abbrev cX10_isSameSide : ByteArray := prog_12_method_17_code
def yX10_isSameSide : MethodName := ⟨RX10, "isSameSide", "(II)Z"⟩
abbrev cX10_findBarred : ByteArray := prog_12_method_18_code
def yX10_findBarred : MethodName := ⟨RX10, "findBarred", "()V"⟩
abbrev cX10_findBar : ByteArray := prog_12_method_19_code
def yX10_findBar : MethodName := ⟨RX10, "findBar", "()I"⟩
abbrev cX10_findBarAbove : ByteArray := prog_12_method_20_code
def yX10_findBarAbove : MethodName := ⟨RX10, "findBarAbove", "(II)I"⟩
def RX11 : String := "FivePlayers"
def TX11 : u_T := fun k => match k with
  | 0 => ("FivePlayers", "play", "LFivePlayers$Play;", true)
  | 1 => ("FivePlayers", "stage", "LFivePlayers$Stage;", true)
  | 2 => ("FivePlayers", "solver", "LFivePlayers$Solver;", true)
  | 3 => ("FivePlayers", "reader", "LFivePlayers$Reader;", true)
  | 4 => ("FivePlayers", "kept", "LFivePlayers$Play;", true)
  | 5 => ("FivePlayers", "traced", "LFivePlayers$Row;", true)
  | 6 => ("FivePlayers", "sheets", "[LFivePlayers$Row;", true)
  | 7 => ("FivePlayers", "sheetBits", "[I", true)
  | 8 => ("FivePlayers", "errors", "[I", true)
  | _ => ("FivePlayers", "images", "I", false)
def tyX11 : Nat → FieldType := fun k => match k with
  | 0 => .object "FivePlayers$Play"
  | 1 => .object "FivePlayers$Stage"
  | 2 => .object "FivePlayers$Solver"
  | 3 => .object "FivePlayers$Reader"
  | 4 => .object "FivePlayers$Play"
  | 5 => .object "FivePlayers$Row"
  | 6 => .array (.object "FivePlayers$Row")
  | 7 => .array .int
  | 8 => .array .int
  | _ => .int
abbrev wsX110 : List Cond := u_ws RX11 TX11 10
theorem nmX11 : ∀ a, a < 10 → ∀ b, b < 10 → a ≠ b → (TX11 a).2.1 ≠ (TX11 b).2.1 := by decide +kernel
theorem tyX11_ok : ∀ k, k < 10 → parseFieldDescriptor (TX11 k).2.2.1 = some (tyX11 k) := by decide +kernel
abbrev cX11_init : ByteArray := prog_1_method_1_code
def yX11_init : MethodName := ⟨RX11, "<init>", "()V"⟩
abbrev cX11_lines : ByteArray := prog_1_method_2_code
def yX11_lines : MethodName := ⟨RX11, "lines", "(I)I"⟩
abbrev cX11_part : ByteArray := prog_1_method_3_code
def yX11_part : MethodName := ⟨RX11, "part", "(II)I"⟩
abbrev cX11_as : ByteArray := prog_1_method_4_code
def yX11_as : MethodName := ⟨RX11, "as", "(II)I"⟩
abbrev cX11_partIs : ByteArray := prog_1_method_5_code
def yX11_partIs : MethodName := ⟨RX11, "partIs", "(II)I"⟩
abbrev cX11_entry : ByteArray := prog_1_method_6_code
def yX11_entry : MethodName := ⟨RX11, "entry", "(IIII)I"⟩
abbrev cX11_entryIs : ByteArray := prog_1_method_7_code
def yX11_entryIs : MethodName := ⟨RX11, "entryIs", "(II)I"⟩
abbrev cX11_shift : ByteArray := prog_1_method_8_code
def yX11_shift : MethodName := ⟨RX11, "shift", "(II)I"⟩
abbrev cX11_on : ByteArray := prog_1_method_9_code
def yX11_on : MethodName := ⟨RX11, "on", "(I)I"⟩
abbrev cX11_player : ByteArray := prog_1_method_10_code
def yX11_player : MethodName := ⟨RX11, "player", "(II)I"⟩
abbrev cX11_know : ByteArray := prog_1_method_11_code
def yX11_know : MethodName := ⟨RX11, "know", "(IIZ)I"⟩
abbrev cX11_can : ByteArray := prog_1_method_12_code
def yX11_can : MethodName := ⟨RX11, "can", "(II)I"⟩
abbrev cX11_wish : ByteArray := prog_1_method_13_code
def yX11_wish : MethodName := ⟨RX11, "wish", "(II)I"⟩
abbrev cX11_feed : ByteArray := prog_1_method_14_code
def yX11_feed : MethodName := ⟨RX11, "feed", "(JI)I"⟩
abbrev cX11_text : ByteArray := prog_1_method_15_code
def yX11_text : MethodName := ⟨RX11, "text", "(I)I"⟩
abbrev cX11_change : ByteArray := prog_1_method_16_code
def yX11_change : MethodName := ⟨RX11, "change", "(III)I"⟩
abbrev cX11_two : ByteArray := prog_1_method_17_code
def yX11_two : MethodName := ⟨RX11, "two", "(III)I"⟩
abbrev cX11_cast : ByteArray := prog_1_method_18_code
def yX11_cast : MethodName := ⟨RX11, "cast", "(II)I"⟩
abbrev cX11_block : ByteArray := prog_1_method_19_code
def yX11_block : MethodName := ⟨RX11, "block", "(I)I"⟩
abbrev cX11_bars : ByteArray := prog_1_method_20_code
def yX11_bars : MethodName := ⟨RX11, "bars", "(I)I"⟩
abbrev cX11_busy : ByteArray := prog_1_method_21_code
def yX11_busy : MethodName := ⟨RX11, "busy", "(I)I"⟩
abbrev cX11_fewest : ByteArray := prog_1_method_22_code
def yX11_fewest : MethodName := ⟨RX11, "fewest", "()I"⟩
abbrev cX11_group : ByteArray := prog_1_method_23_code
def yX11_group : MethodName := ⟨RX11, "group", "(I)I"⟩
abbrev cX11_crowd : ByteArray := prog_1_method_24_code
def yX11_crowd : MethodName := ⟨RX11, "crowd", "()I"⟩
abbrev cX11_helps : ByteArray := prog_1_method_25_code
def yX11_helps : MethodName := ⟨RX11, "helps", "(II)I"⟩
abbrev cX11_without : ByteArray := prog_1_method_26_code
def yX11_without : MethodName := ⟨RX11, "without", "(I)I"⟩
abbrev cX11_best : ByteArray := prog_1_method_27_code
def yX11_best : MethodName := ⟨RX11, "best", "(III)I"⟩
abbrev cX11_take : ByteArray := prog_1_method_28_code
def yX11_take : MethodName := ⟨RX11, "take", "(II)I"⟩
abbrev cX11_castings : ByteArray := prog_1_method_29_code
def yX11_castings : MethodName := ⟨RX11, "castings", "(I)J"⟩
abbrev cX11_leave : ByteArray := prog_1_method_30_code
def yX11_leave : MethodName := ⟨RX11, "leave", "(II)I"⟩
abbrev cX11_never : ByteArray := prog_1_method_31_code
def yX11_never : MethodName := ⟨RX11, "never", "(III)I"⟩
abbrev cX11_voice : ByteArray := prog_1_method_32_code
def yX11_voice : MethodName := ⟨RX11, "voice", "(III)I"⟩
abbrev cX11_trace : ByteArray := prog_1_method_33_code
def yX11_trace : MethodName := ⟨RX11, "trace", "(I)I"⟩
abbrev cX11_sheet : ByteArray := prog_1_method_34_code
def yX11_sheet : MethodName := ⟨RX11, "sheet", "(III)I"⟩
abbrev cX11_put : ByteArray := prog_1_method_35_code
def yX11_put : MethodName := ⟨RX11, "put", "(III)I"⟩
abbrev cX11_move : ByteArray := prog_1_method_36_code
def yX11_move : MethodName := ⟨RX11, "move", "(IIIII)I"⟩
abbrev cX11_image : ByteArray := prog_1_method_37_code
def yX11_image : MethodName := ⟨RX11, "image", "()I"⟩
abbrev cX11_restore : ByteArray := prog_1_method_38_code
def yX11_restore : MethodName := ⟨RX11, "restore", "()I"⟩
abbrev cX11_tell : ByteArray := prog_1_method_39_code
def yX11_tell : MethodName := ⟨RX11, "tell", "(I)I"⟩
abbrev cX11_check : ByteArray := prog_1_method_40_code
def yX11_check : MethodName := ⟨RX11, "check", "(I)I"⟩
abbrev cX11_count : ByteArray := prog_1_method_41_code
def yX11_count : MethodName := ⟨RX11, "count", "(I)I"⟩
abbrev cX11_told : ByteArray := prog_1_method_42_code
def yX11_told : MethodName := ⟨RX11, "told", "(I)I"⟩
abbrev cX11_error : ByteArray := prog_1_method_43_code
def yX11_error : MethodName := ⟨RX11, "error", "(I)I"⟩
abbrev cX11_isWithin : ByteArray := prog_1_method_44_code
def yX11_isWithin : MethodName := ⟨RX11, "isWithin", "(II)Z"⟩
abbrev cX11_isPair : ByteArray := prog_1_method_45_code
def yX11_isPair : MethodName := ⟨RX11, "isPair", "(II)Z"⟩
abbrev cX11_isMissing : ByteArray := prog_1_method_46_code
def yX11_isMissing : MethodName := ⟨RX11, "isMissing", "(I)Z"⟩
abbrev cX11_lowestBits : ByteArray := prog_1_method_47_code
def yX11_lowestBits : MethodName := ⟨RX11, "lowestBits", "(II)I"⟩
abbrev cX11_newRole : ByteArray := prog_1_method_48_code
def yX11_newRole : MethodName := ⟨RX11, "newRole", "(II)LFivePlayers$Role;"⟩
abbrev cX11_shiftError : ByteArray := prog_1_method_49_code
def yX11_shiftError : MethodName := ⟨RX11, "shiftError", "(II)I"⟩
def RX12 : String := "FivePlayersModel"
def TX12 : u_T := fun k => match k with
  | 0 => ("FivePlayersModel", "now", "[I", true)
  | 1 => ("FivePlayersModel", "kept", "[I", true)
  | 2 => ("FivePlayersModel", "images", "I", false)
  | 3 => ("FivePlayersModel", "errors", "[I", true)
  | 4 => ("FivePlayersModel", "isLaid", "Z", false)
  | 5 => ("FivePlayersModel", "barred", "[I", true)
  | 6 => ("FivePlayersModel", "how", "[I", true)
  | 7 => ("FivePlayersModel", "lineOf", "[I", true)
  | 8 => ("FivePlayersModel", "named", "[I", true)
  | 9 => ("FivePlayersModel", "acts", "[I", true)
  | 10 => ("FivePlayersModel", "acted", "I", false)
  | 11 => ("FivePlayersModel", "waits", "[I", true)
  | 12 => ("FivePlayersModel", "waiting", "I", false)
  | 13 => ("FivePlayersModel", "place", "I", false)
  | 14 => ("FivePlayersModel", "pile", "[I", true)
  | 15 => ("FivePlayersModel", "bar", "[I", true)
  | 16 => ("FivePlayersModel", "groups", "[I", true)
  | 17 => ("FivePlayersModel", "usedBy", "[I", true)
  | 18 => ("FivePlayersModel", "members", "[I", true)
  | 19 => ("FivePlayersModel", "mayPlay", "[Z", true)
  | 20 => ("FivePlayersModel", "cost", "[I", true)
  | 21 => ("FivePlayersModel", "sums", "[I", true)
  | 22 => ("FivePlayersModel", "ways", "[J", true)
  | 23 => ("FivePlayersModel", "wishes", "[I", true)
  | 24 => ("FivePlayersModel", "weights", "[I", true)
  | 25 => ("FivePlayersModel", "who", "[I", true)
  | 26 => ("FivePlayersModel", "bodies", "[I", true)
  | 27 => ("FivePlayersModel", "ran", "I", false)
  | 28 => ("FivePlayersModel", "ownKind", "I", false)
  | 29 => ("FivePlayersModel", "ownNumber", "I", false)
  | 30 => ("FivePlayersModel", "ownWig", "I", false)
  | 31 => ("FivePlayersModel", "bitsOf", "[I", true)
  | 32 => ("FivePlayersModel", "sizeOf", "[I", true)
  | 33 => ("FivePlayersModel", "sheets", "[I", true)
  | _ => ("FivePlayersModel", "carried", "[I", true)
def tyX12 : Nat → FieldType := fun k => match k with
  | 0 => .array .int
  | 1 => .array .int
  | 2 => .int
  | 3 => .array .int
  | 4 => .boolean
  | 5 => .array .int
  | 6 => .array .int
  | 7 => .array .int
  | 8 => .array .int
  | 9 => .array .int
  | 10 => .int
  | 11 => .array .int
  | 12 => .int
  | 13 => .int
  | 14 => .array .int
  | 15 => .array .int
  | 16 => .array .int
  | 17 => .array .int
  | 18 => .array .int
  | 19 => .array .boolean
  | 20 => .array .int
  | 21 => .array .int
  | 22 => .array .long
  | 23 => .array .int
  | 24 => .array .int
  | 25 => .array .int
  | 26 => .array .int
  | 27 => .int
  | 28 => .int
  | 29 => .int
  | 30 => .int
  | 31 => .array .int
  | 32 => .array .int
  | 33 => .array .int
  | _ => .array .int
abbrev wsX120 : List Cond := u_ws RX12 TX12 35
theorem nmX12 : ∀ a, a < 35 → ∀ b, b < 35 → a ≠ b → (TX12 a).2.1 ≠ (TX12 b).2.1 := by decide +kernel
theorem tyX12_ok : ∀ k, k < 35 → parseFieldDescriptor (TX12 k).2.2.1 = some (tyX12 k) := by decide +kernel
abbrev cX12_init : ByteArray := prog_14_method_1_code
def yX12_init : MethodName := ⟨RX12, "<init>", "()V"⟩
abbrev cX12_in : ByteArray := prog_14_method_3_code
def yX12_in : MethodName := ⟨RX12, "in", "(III)Z"⟩
abbrev cX12_finds : ByteArray := prog_14_method_4_code
def yX12_finds : MethodName := ⟨RX12, "finds", "(I)I"⟩
abbrev cX12_isPart : ByteArray := prog_14_method_5_code
def yX12_isPart : MethodName := ⟨RX12, "isPart", "(I)Z"⟩
abbrev cX12_isPlayer : ByteArray := prog_14_method_6_code
def yX12_isPlayer : MethodName := ⟨RX12, "isPlayer", "(I)Z"⟩
abbrev cX12_isEntry : ByteArray := prog_14_method_7_code
def yX12_isEntry : MethodName := ⟨RX12, "isEntry", "(I)Z"⟩
abbrev cX12_its : ByteArray := prog_14_method_8_code
def yX12_its : MethodName := ⟨RX12, "its", "(II)I"⟩
abbrev cX12_entryOf : ByteArray := prog_14_method_9_code
def yX12_entryOf : MethodName := ⟨RX12, "entryOf", "(II)I"⟩
abbrev cX12_playerOf : ByteArray := prog_14_method_10_code
def yX12_playerOf : MethodName := ⟨RX12, "playerOf", "(II)I"⟩
abbrev cX12_lines : ByteArray := prog_14_method_11_code
def yX12_lines : MethodName := ⟨RX12, "lines", "(I)I"⟩
abbrev cX12_above : ByteArray := prog_14_method_12_code
def yX12_above : MethodName := ⟨RX12, "above", "(I)I"⟩
abbrev cX12_isUnder : ByteArray := prog_14_method_13_code
def yX12_isUnder : MethodName := ⟨RX12, "isUnder", "(II)Z"⟩
abbrev cX12_part : ByteArray := prog_14_method_14_code
def yX12_part : MethodName := ⟨RX12, "part", "(II)I"⟩
abbrev cX12_weight : ByteArray := prog_14_method_15_code
def yX12_weight : MethodName := ⟨RX12, "weight", "(I)I"⟩
abbrev cX12_entriesOf : ByteArray := prog_14_method_16_code
def yX12_entriesOf : MethodName := ⟨RX12, "entriesOf", "(I)I"⟩
abbrev cX12_as : ByteArray := prog_14_method_17_code
def yX12_as : MethodName := ⟨RX12, "as", "(II)I"⟩
abbrev cX12_partIs : ByteArray := prog_14_method_18_code
def yX12_partIs : MethodName := ⟨RX12, "partIs", "(II)I"⟩
abbrev cX12_isOn : ByteArray := prog_14_method_19_code
def yX12_isOn : MethodName := ⟨RX12, "isOn", "(IIII)Z"⟩
abbrev cX12_entry : ByteArray := prog_14_method_20_code
def yX12_entry : MethodName := ⟨RX12, "entry", "(IIII)I"⟩
abbrev cX12_entryIs : ByteArray := prog_14_method_21_code
def yX12_entryIs : MethodName := ⟨RX12, "entryIs", "(II)I"⟩
abbrev cX12_whyNot : ByteArray := prog_14_method_22_code
def yX12_whyNot : MethodName := ⟨RX12, "whyNot", "(II)I"⟩
abbrev cX12_moves : ByteArray := prog_14_method_23_code
def yX12_moves : MethodName := ⟨RX12, "moves", "(II)V"⟩
abbrev cX12_shift : ByteArray := prog_14_method_24_code
def yX12_shift : MethodName := ⟨RX12, "shift", "(II)I"⟩
abbrev cX12_manyOn : ByteArray := prog_14_method_25_code
def yX12_manyOn : MethodName := ⟨RX12, "manyOn", "(IZ)I"⟩
abbrev cX12_on : ByteArray := prog_14_method_26_code
def yX12_on : MethodName := ⟨RX12, "on", "(I)I"⟩
abbrev cX12_player : ByteArray := prog_14_method_27_code
def yX12_player : MethodName := ⟨RX12, "player", "(II)I"⟩
abbrev cX12_know : ByteArray := prog_14_method_28_code
def yX12_know : MethodName := ⟨RX12, "know", "(IIZ)I"⟩
abbrev cX12_isAble : ByteArray := prog_14_method_29_code
def yX12_isAble : MethodName := ⟨RX12, "isAble", "(II)Z"⟩
abbrev cX12_names : ByteArray := prog_14_method_30_code
def yX12_names : MethodName := ⟨RX12, "names", "(II)V"⟩
abbrev cX12_held : ByteArray := prog_14_method_31_code
def yX12_held : MethodName := ⟨RX12, "held", "(II)I"⟩
abbrev cX12_wishOf : ByteArray := prog_14_method_32_code
def yX12_wishOf : MethodName := ⟨RX12, "wishOf", "(II)I"⟩
abbrev cX12_can : ByteArray := prog_14_method_33_code
def yX12_can : MethodName := ⟨RX12, "can", "(II)I"⟩
abbrev cX12_wish : ByteArray := prog_14_method_34_code
def yX12_wish : MethodName := ⟨RX12, "wish", "(II)I"⟩
abbrev cX12_feed : ByteArray := prog_14_method_35_code
def yX12_feed : MethodName := ⟨RX12, "feed", "(JI)I"⟩
abbrev cX12_byteAt : ByteArray := prog_14_method_36_code
def yX12_byteAt : MethodName := ⟨RX12, "byteAt", "(I)I"⟩
abbrev cX12_isDigit : ByteArray := prog_14_method_37_code
def yX12_isDigit : MethodName := ⟨RX12, "isDigit", "(I)Z"⟩
abbrev cX12_ofThree : ByteArray := prog_14_method_38_code
def yX12_ofThree : MethodName := ⟨RX12, "ofThree", "(IIIII)I"⟩
abbrev cX12_nameOf : ByteArray := prog_14_method_39_code
def yX12_nameOf : MethodName := ⟨RX12, "nameOf", "(II)I"⟩
abbrev cX12_rankOf : ByteArray := prog_14_method_40_code
def yX12_rankOf : MethodName := ⟨RX12, "rankOf", "(I)I"⟩
abbrev cX12_lays : ByteArray := prog_14_method_41_code
def yX12_lays : MethodName := ⟨RX12, "lays", "(I)V"⟩
abbrev cX12_settles : ByteArray := prog_14_method_42_code
def yX12_settles : MethodName := ⟨RX12, "settles", "(I)V"⟩
abbrev cX12_openMany : ByteArray := prog_14_method_43_code
def yX12_openMany : MethodName := ⟨RX12, "openMany", "()I"⟩
abbrev cX12_isTested : ByteArray := prog_14_method_44_code
def yX12_isTested : MethodName := ⟨RX12, "isTested", "()Z"⟩
abbrev cX12_hasOpen : ByteArray := prog_14_method_45_code
def yX12_hasOpen : MethodName := ⟨RX12, "hasOpen", "()Z"⟩
abbrev cX12_readsOne : ByteArray := prog_14_method_46_code
def yX12_readsOne : MethodName := ⟨RX12, "readsOne", "(I)Z"⟩
abbrev cX12_denies : ByteArray := prog_14_method_47_code
def yX12_denies : MethodName := ⟨RX12, "denies", "()V"⟩
abbrev cX12_reads : ByteArray := prog_14_method_48_code
def yX12_reads : MethodName := ⟨RX12, "reads", "(I)Z"⟩
abbrev cX12_text : ByteArray := prog_14_method_49_code
def yX12_text : MethodName := ⟨RX12, "text", "(I)I"⟩
abbrev cX12_done : ByteArray := prog_14_method_50_code
def yX12_done : MethodName := ⟨RX12, "done", "(III)I"⟩
abbrev cX12_comesTo : ByteArray := prog_14_method_51_code
def yX12_comesTo : MethodName := ⟨RX12, "comesTo", "(I)I"⟩
abbrev cX12_changeOf : ByteArray := prog_14_method_52_code
def yX12_changeOf : MethodName := ⟨RX12, "changeOf", "(III)I"⟩
abbrev cX12_change : ByteArray := prog_14_method_53_code
def yX12_change : MethodName := ⟨RX12, "change", "(III)I"⟩
abbrev cX12_meetAt : ByteArray := prog_14_method_54_code
def yX12_meetAt : MethodName := ⟨RX12, "meetAt", "(II)I"⟩
abbrev cX12_nearAt : ByteArray := prog_14_method_55_code
def yX12_nearAt : MethodName := ⟨RX12, "nearAt", "(II)I"⟩
abbrev cX12_layTwo : ByteArray := prog_14_method_56_code
def yX12_layTwo : MethodName := ⟨RX12, "layTwo", "(II)V"⟩
abbrev cX12_lay : ByteArray := prog_14_method_57_code
def yX12_lay : MethodName := ⟨RX12, "lay", "()V"⟩
abbrev cX12_two : ByteArray := prog_14_method_58_code
def yX12_two : MethodName := ⟨RX12, "two", "(III)I"⟩
abbrev cX12_cast : ByteArray := prog_14_method_59_code
def yX12_cast : MethodName := ⟨RX12, "cast", "(II)I"⟩
abbrev cX12_block : ByteArray := prog_14_method_60_code
def yX12_block : MethodName := ⟨RX12, "block", "(I)I"⟩
abbrev cX12_findBar : ByteArray := prog_14_method_61_code
def yX12_findBar : MethodName := ⟨RX12, "findBar", "()V"⟩
abbrev cX12_bars : ByteArray := prog_14_method_62_code
def yX12_bars : MethodName := ⟨RX12, "bars", "(I)I"⟩
abbrev cX12_busy : ByteArray := prog_14_method_63_code
def yX12_busy : MethodName := ⟨RX12, "busy", "(I)I"⟩
abbrev cX12_isIn : ByteArray := prog_14_method_64_code
def yX12_isIn : MethodName := ⟨RX12, "isIn", "(II)Z"⟩
abbrev cX12_fewestOf : ByteArray := prog_14_method_65_code
def yX12_fewestOf : MethodName := ⟨RX12, "fewestOf", "(I)I"⟩
abbrev cX12_allParts : ByteArray := prog_14_method_66_code
def yX12_allParts : MethodName := ⟨RX12, "allParts", "()I"⟩
abbrev cX12_fewest : ByteArray := prog_14_method_67_code
def yX12_fewest : MethodName := ⟨RX12, "fewest", "()I"⟩
abbrev cX12_group : ByteArray := prog_14_method_68_code
def yX12_group : MethodName := ⟨RX12, "group", "(I)I"⟩
abbrev cX12_crowd : ByteArray := prog_14_method_69_code
def yX12_crowd : MethodName := ⟨RX12, "crowd", "()I"⟩
abbrev cX12_helps : ByteArray := prog_14_method_70_code
def yX12_helps : MethodName := ⟨RX12, "helps", "(II)I"⟩
abbrev cX12_without : ByteArray := prog_14_method_71_code
def yX12_without : MethodName := ⟨RX12, "without", "(I)I"⟩
abbrev cX12_findSets : ByteArray := prog_14_method_72_code
def yX12_findSets : MethodName := ⟨RX12, "findSets", "(I)V"⟩
abbrev cX12_findCosts : ByteArray := prog_14_method_73_code
def yX12_findCosts : MethodName := ⟨RX12, "findCosts", "(II)V"⟩
abbrev cX12_joined : ByteArray := prog_14_method_74_code
def yX12_joined : MethodName := ⟨RX12, "joined", "(III)I"⟩
abbrev cX12_findSums : ByteArray := prog_14_method_75_code
def yX12_findSums : MethodName := ⟨RX12, "findSums", "(II)V"⟩
abbrev cX12_findBest : ByteArray := prog_14_method_76_code
def yX12_findBest : MethodName := ⟨RX12, "findBest", "(II)Z"⟩
abbrev cX12_isBest : ByteArray := prog_14_method_77_code
def yX12_isBest : MethodName := ⟨RX12, "isBest", "(IIIIII)Z"⟩
abbrev cX12_sumOf : ByteArray := prog_14_method_78_code
def yX12_sumOf : MethodName := ⟨RX12, "sumOf", "(II)I"⟩
abbrev cX12_isTroupe : ByteArray := prog_14_method_79_code
def yX12_isTroupe : MethodName := ⟨RX12, "isTroupe", "(I)Z"⟩
abbrev cX12_best : ByteArray := prog_14_method_80_code
def yX12_best : MethodName := ⟨RX12, "best", "(III)I"⟩
abbrev cX12_take : ByteArray := prog_14_method_81_code
def yX12_take : MethodName := ⟨RX12, "take", "(II)I"⟩
abbrev cX12_findWays : ByteArray := prog_14_method_82_code
def yX12_findWays : MethodName := ⟨RX12, "findWays", "(I)V"⟩
abbrev cX12_castings : ByteArray := prog_14_method_83_code
def yX12_castings : MethodName := ⟨RX12, "castings", "(I)J"⟩
abbrev cX12_bits : ByteArray := prog_14_method_84_code
def yX12_bits : MethodName := ⟨RX12, "bits", "(I)I"⟩
abbrev cX12_weightOf : ByteArray := prog_14_method_85_code
def yX12_weightOf : MethodName := ⟨RX12, "weightOf", "(I)I"⟩
abbrev cX12_leave : ByteArray := prog_14_method_86_code
def yX12_leave : MethodName := ⟨RX12, "leave", "(II)I"⟩
abbrev cX12_never : ByteArray := prog_14_method_87_code
def yX12_never : MethodName := ⟨RX12, "never", "(III)I"⟩
abbrev cX12_runs : ByteArray := prog_14_method_88_code
def yX12_runs : MethodName := ⟨RX12, "runs", "(I)V"⟩
abbrev cX12_speaks : ByteArray := prog_14_method_89_code
def yX12_speaks : MethodName := ⟨RX12, "speaks", "(I)I"⟩
abbrev cX12_dies : ByteArray := prog_14_method_90_code
def yX12_dies : MethodName := ⟨RX12, "dies", "(I)I"⟩
abbrev cX12_walksPart : ByteArray := prog_14_method_91_code
def yX12_walksPart : MethodName := ⟨RX12, "walksPart", "(I)I"⟩
abbrev cX12_walksSpoken : ByteArray := prog_14_method_92_code
def yX12_walksSpoken : MethodName := ⟨RX12, "walksSpoken", "(I)I"⟩
abbrev cX12_walks : ByteArray := prog_14_method_93_code
def yX12_walks : MethodName := ⟨RX12, "walks", "(I)I"⟩
abbrev cX12_bowsPart : ByteArray := prog_14_method_94_code
def yX12_bowsPart : MethodName := ⟨RX12, "bowsPart", "(I)I"⟩
abbrev cX12_bowsMute : ByteArray := prog_14_method_95_code
def yX12_bowsMute : MethodName := ⟨RX12, "bowsMute", "(I)I"⟩
abbrev cX12_bows : ByteArray := prog_14_method_96_code
def yX12_bows : MethodName := ⟨RX12, "bows", "(I)I"⟩
abbrev cX12_voice : ByteArray := prog_14_method_97_code
def yX12_voice : MethodName := ⟨RX12, "voice", "(III)I"⟩
abbrev cX12_trace : ByteArray := prog_14_method_98_code
def yX12_trace : MethodName := ⟨RX12, "trace", "(I)I"⟩
abbrev cX12_isSheet : ByteArray := prog_14_method_99_code
def yX12_isSheet : MethodName := ⟨RX12, "isSheet", "(I)Z"⟩
abbrev cX12_sheet : ByteArray := prog_14_method_100_code
def yX12_sheet : MethodName := ⟨RX12, "sheet", "(III)I"⟩
abbrev cX12_put : ByteArray := prog_14_method_101_code
def yX12_put : MethodName := ⟨RX12, "put", "(III)I"⟩
abbrev cX12_move : ByteArray := prog_14_method_102_code
def yX12_move : MethodName := ⟨RX12, "move", "(IIIII)I"⟩
abbrev cX12_image : ByteArray := prog_14_method_103_code
def yX12_image : MethodName := ⟨RX12, "image", "()I"⟩
abbrev cX12_restore : ByteArray := prog_14_method_104_code
def yX12_restore : MethodName := ⟨RX12, "restore", "()I"⟩
abbrev cX12_tell : ByteArray := prog_14_method_105_code
def yX12_tell : MethodName := ⟨RX12, "tell", "(I)I"⟩
abbrev cX12_check : ByteArray := prog_14_method_106_code
def yX12_check : MethodName := ⟨RX12, "check", "(I)I"⟩
abbrev cX12_count : ByteArray := prog_14_method_107_code
def yX12_count : MethodName := ⟨RX12, "count", "(I)I"⟩
abbrev cX12_told : ByteArray := prog_14_method_108_code
def yX12_told : MethodName := ⟨RX12, "told", "(I)I"⟩
def RJx145de : String := "java/io/Serializable"
def TJx145de : u_T := fun k => match k with
  | _ => ("", "", "", false)
def tyJx145de : Nat → FieldType := fun k => match k with
  | _ => .int
theorem nmJx145de : ∀ a, a < 0 → ∀ b, b < 0 → a ≠ b → (TJx145de a).2.1 ≠ (TJx145de b).2.1 := by decide +kernel
theorem tyJx145de_ok : ∀ k, k < 0 → parseFieldDescriptor (TJx145de k).2.2.1 = some (tyJx145de k) := by decide +kernel
def RJx9f9b0 : String := "java/lang/CharSequence"
def TJx9f9b0 : u_T := fun k => match k with
  | _ => ("", "", "", false)
def tyJx9f9b0 : Nat → FieldType := fun k => match k with
  | _ => .int
theorem nmJx9f9b0 : ∀ a, a < 0 → ∀ b, b < 0 → a ≠ b → (TJx9f9b0 a).2.1 ≠ (TJx9f9b0 b).2.1 := by decide +kernel
theorem tyJx9f9b0_ok : ∀ k, k < 0 → parseFieldDescriptor (TJx9f9b0 k).2.2.1 = some (tyJx9f9b0 k) := by decide +kernel
def RJ11 : String := "java/lang/Character"
def TJ11 : u_T := fun k => match k with
  | _ => ("", "", "", false)
def tyJ11 : Nat → FieldType := fun k => match k with
  | _ => .int
theorem nmJ11 : ∀ a, a < 0 → ∀ b, b < 0 → a ≠ b → (TJ11 a).2.1 ≠ (TJ11 b).2.1 := by decide +kernel
theorem tyJ11_ok : ∀ k, k < 0 → parseFieldDescriptor (TJ11 k).2.2.1 = some (tyJ11 k) := by decide +kernel
abbrev cJ11_isValidCodePoint_9a6ad : ByteArray := prog_15_method_11_code
def yJ11_isValidCodePoint_9a6ad : MethodName := ⟨RJ11, "isValidCodePoint", "(I)Z"⟩
abbrev cJ11_highSurrogate_5068e : ByteArray := prog_15_method_28_code
def yJ11_highSurrogate_5068e : MethodName := ⟨RJ11, "highSurrogate", "(I)C"⟩
abbrev cJ11_lowSurrogate_5068e : ByteArray := prog_15_method_29_code
def yJ11_lowSurrogate_5068e : MethodName := ⟨RJ11, "lowSurrogate", "(I)C"⟩
def RJxb160c : String := "java/lang/Comparable"
def TJxb160c : u_T := fun k => match k with
  | _ => ("", "", "", false)
def tyJxb160c : Nat → FieldType := fun k => match k with
  | _ => .int
theorem nmJxb160c : ∀ a, a < 0 → ∀ b, b < 0 → a ≠ b → (TJxb160c a).2.1 ≠ (TJxb160c b).2.1 := by decide +kernel
theorem tyJxb160c_ok : ∀ k, k < 0 → parseFieldDescriptor (TJxb160c k).2.2.1 = some (tyJxb160c k) := by decide +kernel
def RJ6 : String := "java/lang/Integer"
def TJ6 : u_T := fun k => match k with
  | _ => ("", "", "", false)
def tyJ6 : Nat → FieldType := fun k => match k with
  | _ => .int
theorem nmJ6 : ∀ a, a < 0 → ∀ b, b < 0 → a ≠ b → (TJ6 a).2.1 ≠ (TJ6 b).2.1 := by decide +kernel
theorem tyJ6_ok : ∀ k, k < 0 → parseFieldDescriptor (TJ6 k).2.2.1 = some (tyJ6 k) := by decide +kernel
abbrev cJ6_bitCount_0f7a4 : ByteArray := prog_16_method_49_code
def yJ6_bitCount_0f7a4 : MethodName := ⟨RJ6, "bitCount", "(I)I"⟩
def RJ9 : String := "java/lang/Math"
def TJ9 : u_T := fun k => match k with
  | _ => ("", "", "", false)
def tyJ9 : Nat → FieldType := fun k => match k with
  | _ => .int
theorem nmJ9 : ∀ a, a < 0 → ∀ b, b < 0 → a ≠ b → (TJ9 a).2.1 ≠ (TJ9 b).2.1 := by decide +kernel
theorem tyJ9_ok : ∀ k, k < 0 → parseFieldDescriptor (TJ9 k).2.2.1 = some (tyJ9 k) := by decide +kernel
abbrev cJ9_abs_0f7a4 : ByteArray := prog_17_method_59_code
def yJ9_abs_0f7a4 : MethodName := ⟨RJ9, "abs", "(I)I"⟩
abbrev cJ9_max_7cf53 : ByteArray := prog_17_method_65_code
def yJ9_max_7cf53 : MethodName := ⟨RJ9, "max", "(II)I"⟩
abbrev cJ9_min_7cf53 : ByteArray := prog_17_method_69_code
def yJ9_min_7cf53 : MethodName := ⟨RJ9, "min", "(II)I"⟩
def RJ0 : String := "java/lang/String"
def TJ0 : u_T := fun k => match k with
  | _ => ("", "", "", false)
def tyJ0 : Nat → FieldType := fun k => match k with
  | _ => .int
theorem nmJ0 : ∀ a, a < 0 → ∀ b, b < 0 → a ≠ b → (TJ0 a).2.1 ≠ (TJ0 b).2.1 := by decide +kernel
theorem tyJ0_ok : ∀ k, k < 0 → parseFieldDescriptor (TJ0 k).2.2.1 = some (tyJ0 k) := by decide +kernel
abbrev cJ0_length_8abf5 : ByteArray := prog_18_method_54_code
def yJ0_length_8abf5 : MethodName := ⟨RJ0, "length", "()I"⟩
abbrev cJ0_indexOf_0f7a4 : ByteArray := prog_18_method_79_code
def yJ0_indexOf_0f7a4 : MethodName := ⟨RJ0, "indexOf", "(I)I"⟩
abbrev cJ0_indexOf_7cf53 : ByteArray := prog_18_method_80_code
def yJ0_indexOf_7cf53 : MethodName := ⟨RJ0, "indexOf", "(II)I"⟩
abbrev cJ0_coder_7d493 : ByteArray := prog_18_method_152_code
def yJ0_coder_7d493 : MethodName := ⟨RJ0, "coder", "()B"⟩
abbrev cJ0_isLatin1_aae02 : ByteArray := prog_18_method_154_code
def yJ0_isLatin1_aae02 : MethodName := ⟨RJ0, "isLatin1", "()Z"⟩
abbrev cJ0_checkBoundsBeginEnd_23922 : ByteArray := prog_18_method_158_code
def yJ0_checkBoundsBeginEnd_23922 : MethodName := ⟨RJ0, "checkBoundsBeginEnd", "(III)V"⟩
def RJ1 : String := "java/lang/StringLatin1"
def TJ1 : u_T := fun k => match k with
  | _ => ("", "", "", false)
def tyJ1 : Nat → FieldType := fun k => match k with
  | _ => .int
theorem nmJ1 : ∀ a, a < 0 → ∀ b, b < 0 → a ≠ b → (TJ1 a).2.1 ≠ (TJ1 b).2.1 := by decide +kernel
theorem tyJ1_ok : ∀ k, k < 0 → parseFieldDescriptor (TJ1 k).2.2.1 = some (tyJ1 k) := by decide +kernel
abbrev cJ1_canEncode_9a6ad : ByteArray := prog_19_method_4_code
def yJ1_canEncode_9a6ad : MethodName := ⟨RJ1, "canEncode", "(I)Z"⟩
abbrev cJ1_indexOf_4cfef : ByteArray := prog_19_method_22_code
def yJ1_indexOf_4cfef : MethodName := ⟨RJ1, "indexOf", "([BIII)I"⟩
abbrev cJ1_indexOfChar_4cfef : ByteArray := prog_19_method_23_code
def yJ1_indexOfChar_4cfef : MethodName := ⟨RJ1, "indexOfChar", "([BIII)I"⟩
def RJ2 : String := "java/lang/StringUTF16"
def TJ2 : u_T := fun k => match k with
  | _ => ("", "", "", false)
def tyJ2 : Nat → FieldType := fun k => match k with
  | _ => .int
theorem nmJ2 : ∀ a, a < 0 → ∀ b, b < 0 → a ≠ b → (TJ2 a).2.1 ≠ (TJ2 b).2.1 := by decide +kernel
theorem tyJ2_ok : ∀ k, k < 0 → parseFieldDescriptor (TJ2 k).2.2.1 = some (tyJ2 k) := by decide +kernel
abbrev cJ2_getChar_3b067 : ByteArray := prog_20_method_5_code
def yJ2_getChar_3b067 : MethodName := ⟨RJ2, "getChar", "([BI)C"⟩
abbrev cJ2_length_9d52b : ByteArray := prog_20_method_6_code
def yJ2_length_9d52b : MethodName := ⟨RJ2, "length", "([B)I"⟩
abbrev cJ2_indexOf_4cfef : ByteArray := prog_20_method_40_code
def yJ2_indexOf_4cfef : MethodName := ⟨RJ2, "indexOf", "([BIII)I"⟩
abbrev cJ2_indexOfChar_4cfef : ByteArray := prog_20_method_47_code
def yJ2_indexOfChar_4cfef : MethodName := ⟨RJ2, "indexOfChar", "([BIII)I"⟩
abbrev cJ2_indexOfCharUnsafe_4cfef : ByteArray := prog_20_method_48_code
def yJ2_indexOfCharUnsafe_4cfef : MethodName := ⟨RJ2, "indexOfCharUnsafe", "([BIII)I"⟩
abbrev cJ2_indexOfSupplementary_4cfef : ByteArray := prog_20_method_49_code
def yJ2_indexOfSupplementary_4cfef : MethodName := ⟨RJ2, "indexOfSupplementary", "([BIII)I"⟩
abbrev cJ2_checkBoundsBeginEnd_d044e : ByteArray := prog_20_method_93_code
def yJ2_checkBoundsBeginEnd_d044e : MethodName := ⟨RJ2, "checkBoundsBeginEnd", "(II[B)V"⟩
def RJ10 : String := "java/lang/System"
def TJ10 : u_T := fun k => match k with
  | _ => ("", "", "", false)
def tyJ10 : Nat → FieldType := fun k => match k with
  | _ => .int
theorem nmJ10 : ∀ a, a < 0 → ∀ b, b < 0 → a ≠ b → (TJ10 a).2.1 ≠ (TJ10 b).2.1 := by decide +kernel
theorem tyJ10_ok : ∀ k, k < 0 → parseFieldDescriptor (TJ10 k).2.2.1 = some (tyJ10 k) := by decide +kernel
def RJxfd54e : String := "java/lang/constant/Constable"
def TJxfd54e : u_T := fun k => match k with
  | _ => ("", "", "", false)
def tyJxfd54e : Nat → FieldType := fun k => match k with
  | _ => .int
theorem nmJxfd54e : ∀ a, a < 0 → ∀ b, b < 0 → a ≠ b → (TJxfd54e a).2.1 ≠ (TJxfd54e b).2.1 := by decide +kernel
theorem tyJxfd54e_ok : ∀ k, k < 0 → parseFieldDescriptor (TJxfd54e k).2.2.1 = some (tyJxfd54e k) := by decide +kernel
def RJx3cf43 : String := "java/lang/constant/ConstantDesc"
def TJx3cf43 : u_T := fun k => match k with
  | _ => ("", "", "", false)
def tyJx3cf43 : Nat → FieldType := fun k => match k with
  | _ => .int
theorem nmJx3cf43 : ∀ a, a < 0 → ∀ b, b < 0 → a ≠ b → (TJx3cf43 a).2.1 ≠ (TJx3cf43 b).2.1 := by decide +kernel
theorem tyJx3cf43_ok : ∀ k, k < 0 → parseFieldDescriptor (TJx3cf43 k).2.2.1 = some (tyJx3cf43 k) := by decide +kernel
def RJ7 : String := "java/util/Arrays"
def TJ7 : u_T := fun k => match k with
  | _ => ("", "", "", false)
def tyJ7 : Nat → FieldType := fun k => match k with
  | _ => .int
theorem nmJ7 : ∀ a, a < 0 → ∀ b, b < 0 → a ≠ b → (TJ7 a).2.1 ≠ (TJ7 b).2.1 := by decide +kernel
theorem tyJ7_ok : ∀ k, k < 0 → parseFieldDescriptor (TJ7 k).2.2.1 = some (tyJ7 k) := by decide +kernel
abbrev cJ7_rangeCheck_23922 : ByteArray := prog_22_method_30_code
def yJ7_rangeCheck_23922 : MethodName := ⟨RJ7, "rangeCheck", "(III)V"⟩
abbrev cJ7_fill_53178 : ByteArray := prog_22_method_103_code
def yJ7_fill_53178 : MethodName := ⟨RJ7, "fill", "([II)V"⟩
abbrev cJ7_fill_fda19 : ByteArray := prog_22_method_104_code
def yJ7_fill_fda19 : MethodName := ⟨RJ7, "fill", "([IIII)V"⟩
def RJ3 : String := "jdk/internal/util/Preconditions"
def TJ3 : u_T := fun k => match k with
  | _ => ("", "", "", false)
def tyJ3 : Nat → FieldType := fun k => match k with
  | _ => .int
theorem nmJ3 : ∀ a, a < 0 → ∀ b, b < 0 → a ≠ b → (TJ3 a).2.1 ≠ (TJ3 b).2.1 := by decide +kernel
theorem tyJ3_ok : ∀ k, k < 0 → parseFieldDescriptor (TJ3 k).2.2.1 = some (tyJ3 k) := by decide +kernel
abbrev cJ3_checkFromToIndex_8c36e : ByteArray := prog_23_method_12_code
def yJ3_checkFromToIndex_8c36e : MethodName := ⟨RJ3, "checkFromToIndex", "(IIILjava/util/function/BiFunction;)I"⟩
def RL : String := "FivePlayersLaw"
abbrev cL_law : ByteArray := code
def yL_law : MethodName := ⟨RL, "law", "([I)Z"⟩
abbrev vwCl : List vw_C := [(RX0, TX0, 5), (RX1, TX1, 5), (RX2, TX2, 5), (RX3, TX3, 5), (RX4, TX4, 16), (RX5, TX5, 5), (RX6, TX6, 5), (RX7, TX7, 2), (RX8, TX8, 14), (RX9, TX9, 5), (RX10, TX10, 7), (RX11, TX11, 10), (RX12, TX12, 35)]
end
section
def dtab (c : ByteArray) (L : List (Nat × Instr × Nat)) : Bool := L.all (fun q => decide (decode c q.1 = .ok (q.2.1, q.2.2)))
theorem dt_at {c : ByteArray} {L : List (Nat × Instr × Nat)} (h : dtab c L = true) (i : Nat) {pc n : Nat} {ins : Instr} (hi : L[i]? = some (pc, ins, n)) : decode c pc = .ok (ins, n) := by
  have h1 := List.all_eq_true.mp h _ (List.mem_of_getElem? hi)
  simpa using h1
def gtb : List Cond := lw_tbl.filter goodWord
def wtab (L : List (Nat × Cond)) : Bool := L.all (fun q => decide (lw_tbl[q.1]? = some q.2) && goodWord q.2)
theorem wt_at {L : List (Nat × Cond)} (h : wtab L = true) (i : Nat) {k : Nat} {w : Cond} (hi : L[i]? = some (k, w)) : w ∈ gtb := by
  have h1 := List.all_eq_true.mp h _ (List.mem_of_getElem? hi)
  simp only [Bool.and_eq_true, decide_eq_true_eq] at h1
  exact List.mem_filter.mpr ⟨List.mem_of_getElem? h1.1, h1.2⟩
theorem gtb_good : GoodIn gtb gtb := fun w h => ⟨h, good_of_word (List.mem_filter.mp h).2⟩
theorem gtb_code {w : Cond} (h : w ∈ gtb) : GoodIn gtb (w :: gtb) := fun z hz => (List.mem_cons.mp hz).elim (fun e => e ▸ gtb_good w h) (gtb_good z)
/-! the memory: how many roles there are; cell, place: a number; the longs -/
abbrev St : Type := Nat × (Nat → Nat → Int32) × (Nat → Int64)
def fd (σ : St) (k j : Nat) : Int32 := σ.2.1 k j
def rd (σ : St) (k : Nat) (i : Int32) : Int32 := σ.2.1 k i.toNatClampNeg
def rdL (σ : St) (i : Int32) : Int64 := σ.2.2 i.toNatClampNeg
def rc (σ : St) (k j : Nat) : Nat := (σ.2.1 k j).toNatClampNeg
def fw (σ : St) (k j : Nat) (v : Int32) : St := (σ.1, va_up σ.2.1 k (upd (σ.2.1 k) j v), σ.2.2)
def wr (σ : St) (k : Nat) (i v : Int32) : St := fw σ k i.toNatClampNeg v
def wrL (σ : St) (i : Int32) (v : Int64) : St := (σ.1, σ.2.1, vp_updL σ.2.2 i.toNatClampNeg v)
def cpy (σ : St) (k0 : Nat) (sp : Int32) (k1 : Nat) (dp n : Int32) : St := (σ.1, va_up σ.2.1 k1 (va_cpy (σ.2.1 k0) (σ.2.1 k1) sp.toNatClampNeg dp.toNatClampNeg n.toNatClampNeg), σ.2.2)
def inb (i : Int32) (n : Nat) : Bool := decide (0 ≤ i.toInt ∧ i.toInt < n)
theorem inb_in {i : Int32} {n : Nat} (h : inb i n = true) : vp_in i n := vp_in_iff.mpr (of_decide_eq_true h)
def chk {α : Type} (b : Bool) (k : Option α) : Option α := if b = true then k else none
theorem chk_s {α : Type} {b : Bool} {k : Option α} {z : α} (h : chk b k = some z) : b = true ∧ k = some z := by
  unfold chk at h
  split at h
  · exact ⟨by assumption, h⟩
  · cases h
theorem chk_t {α : Type} {b : Bool} {k : Option α} (h : b = true) : chk b k = k := by unfold chk; rw [if_pos h]
def bd {α β : Type} (x : Option α) (k : α → Option β) : Option β := match x with
  | some a => k a
  | none => none
def bd2 {α β γ : Type} (x : Option (α × β)) (k : α → β → Option γ) : Option γ := match x with
  | some q => k q.1 q.2
  | none => none
theorem bd_s {α β : Type} {x : Option α} {k : α → Option β} {z : β} (h : bd x k = some z) : ∃ a, x = some a ∧ k a = some z := by
  cases x with
  | none => cases h
  | some a => exact ⟨a, rfl, h⟩
theorem bd2_s {α β γ : Type} {x : Option (α × β)} {k : α → β → Option γ} {z : γ} (h : bd2 x k = some z) : ∃ a b, x = some (a, b) ∧ k a b = some z := by
  cases x with
  | none => cases h
  | some a => exact ⟨a.1, a.2, rfl, h⟩
theorem bd_e {α β : Type} {x : Option α} {k : α → Option β} {a : α} (h : x = some a) : bd x k = k a := by rw [h]; rfl
theorem bd2_e {α β γ : Type} {x : Option (α × β)} {k : α → β → Option γ} {a : α} {b : β} (h : x = some (a, b)) : bd2 x k = k a b := by rw [h]; rfl
theorem ite_t {α : Type} {c : Prop} [Decidable c] {a b z : α} (q : c) (h : (if c then a else b) = z) : a = z := by rw [if_pos q] at h; exact h
theorem ite_f {α : Type} {c : Prop} [Decidable c] {a b z : α} (q : ¬ c) (h : (if c then a else b) = z) : b = z := by rw [if_neg q] at h; exact h
/-! loops -/
def itn {S T : Type} (f : S → Option (S ⊕ T)) : Nat → S → Option T
  | 0, _ => none
  | n + 1, s => match f s with
    | none => none
    | some (.inl s') => itn f n s'
    | some (.inr t) => some t
theorem itn_mono {S T : Type} {f : S → Option (S ⊕ T)} {t : T} : ∀ (n : Nat) (s : S), itn f n s = some t → ∀ k : Nat, n ≤ k → itn f k s = some t
  | 0, _, h, _, _ => by cases h
  | n + 1, s, h, 0, hk => by omega
  | n + 1, s, h, k + 1, hk => by
    unfold itn at h ⊢
    cases hf : f s with
    | none => rw [hf] at h; cases h
    | some w =>
      rw [hf] at h
      cases w with
      | inl s' => exact itn_mono n s' h k (by omega)
      | inr t' => exact h
noncomputable def it {S T : Type} (f : S → Option (S ⊕ T)) (s : S) : Option T := Classical.epsilon (fun o : Option T => (∃ t n, o = some t ∧ itn f n s = some t) ∨ (o = none ∧ ∀ n, itn f n s = none))
theorem it_spec {S T : Type} (f : S → Option (S ⊕ T)) (s : S) : (∃ t n, it f s = some t ∧ itn f n s = some t) ∨ (it f s = none ∧ ∀ n, itn f n s = none) := by
  unfold it
  apply Classical.epsilon_spec (p := fun o : Option T => (∃ t n, o = some t ∧ itn f n s = some t) ∨ (o = none ∧ ∀ n, itn f n s = none))
  by_cases h : ∃ t n, itn f n s = some t
  · obtain ⟨t, n, h⟩ := h
    exact ⟨some t, Or.inl ⟨t, n, rfl, h⟩⟩
  · refine ⟨none, Or.inr ⟨rfl, fun n => ?_⟩⟩
    cases hx : itn f n s with
    | none => rfl
    | some t => exact absurd ⟨t, n, hx⟩ h
theorem it_of {S T : Type} {f : S → Option (S ⊕ T)} {s : S} {t : T} {n : Nat} (h : itn f n s = some t) : it f s = some t := by
  rcases it_spec f s with ⟨t', n', h1, h2⟩ | ⟨-, h2⟩
  · rw [h1]
    have a := itn_mono n s h (n + n') (by omega)
    have b := itn_mono n' s h2 (n + n') (by omega)
    rw [a] at b
    exact b.symm
  · rw [h2 n] at h; cases h
theorem it_it {S T : Type} {f : S → Option (S ⊕ T)} {s : S} {t : T} (h : it f s = some t) : ∃ n, itn f n s = some t := by
  rcases it_spec f s with ⟨t', n', h1, h2⟩ | ⟨h1, -⟩
  · rw [h1] at h; cases h; exact ⟨n', h2⟩
  · rw [h1] at h; cases h
/-- a round of the it -/
theorem it_l {S T : Type} {f : S → Option (S ⊕ T)} {s s' : S} (h : f s = some (.inl s')) : it f s = it f s' := by
  rcases it_spec f s' with ⟨t, n, h1, h2⟩ | ⟨h1, h2⟩
  · rw [h1]
    exact it_of (n := n + 1) (by unfold itn; rw [h]; exact h2)
  · rw [h1]
    rcases it_spec f s with ⟨t, n, h3, h4⟩ | ⟨h3, -⟩
    · cases n with
      | zero => cases h4
      | succ n =>
        unfold itn at h4
        rw [h] at h4
        have h5 : itn f n s' = some t := h4
        rw [h2 n] at h5
        cases h5
    · exact h3
theorem it_r {S T : Type} {f : S → Option (S ⊕ T)} {s : S} {t : T} (h : f s = some (.inr t)) : it f s = some t := it_of (n := 1) (by unfold itn; rw [h])
theorem it_k {S T : Type} {f : S → Option (S ⊕ T)} {s : S} {k : Option T} (h : f s = k.map .inr) : it f s = k := by
  cases k with
  | some t => exact it_r h
  | none =>
    rcases it_spec f s with ⟨t, n, h3, h4⟩ | ⟨h3, -⟩
    · cases n with
      | zero => cases h4
      | succ n =>
        unfold itn at h4
        rw [h] at h4
        cases h4
    · exact h3
theorem it_v {S T : Type} {f : S → Option (S ⊕ T)} {P : S → Prop} {z : T} (hb : ∀ (s : S) (w : S ⊕ T), f s = some w → (∀ s', w = .inl s' → P s') → (∀ t, w = .inr t → t = z) → P s) (s : S) (h : it f s = some z) : P s := by
  obtain ⟨n, h9⟩ := it_it h
  clear h
  have h := h9
  clear h9
  induction n generalizing s with
  | zero => cases h
  | succ n ih =>
    unfold itn at h
    cases hf : f s with
    | none => rw [hf] at h; cases h
    | some w =>
      rw [hf] at h
      cases w with
      | inl s' => exact hb s _ hf (fun s2 e => by cases e; exact ih s' h) (fun t e => by cases e)
      | inr t => exact hb s _ hf (fun s2 e => by cases e) (fun t2 e => by cases e; exact Option.some.inj h)
theorem map_s {α β : Type} {k : Option α} {g : α → β} {w : β} (h : k.map g = some w) : ∃ t, k = some t ∧ w = g t := by
  cases k with
  | none => cases h
  | some t => exact ⟨t, rfl, (Option.some.inj h).symm⟩
/-! the world -/
abbrev Gx : Type := va_G × (Nat → ClassId) × (Nat → Nat) × Nat × (Nat → Nat) × (Nat → Nat)
def gc (G : Gx) (k : Nat) : ClassId := G.2.1 k
def ga (G : Gx) (k : Nat) : Nat := G.2.2.1 k
def gh (G : Gx) : Nat := G.2.2.2.1
def gs (G : Gx) (k : Nat) : Nat := G.2.2.2.2.1 k
def gv (G : Gx) (k : Nat) : Nat := G.2.2.2.2.2 k
def gA (G : Gx) : Nat → Prop := fun q => gh G ≤ q
def alen (k : Nat) : Nat := ([0, 0, 0, 0, 0, 0, 0, 0, 4, 6, 0, 10, 40, 40, 40, 40, 6, 6, 6, 0, 0, 10, 40, 40, 40, 40, 6, 6, 6, 0, 26, 50, 10, 10, 10, 6, 0, 1024, 0, 10, 10, 10, 10, 10, 10, 10, 1024, 1024, 1024, 1024, 1024, 1024, 0, 50, 0, 20, 0, 50, 0, 50, 0, 50, 0, 50, 0, 20, 0, 50, 0, 50, 0, 50, 0, 50, 0, 40, 0, 24, 0, 24, 0, 24, 0, 24, 466, 466, 6, 10, 100, 100, 6, 52, 52, 52, 4, 11, 11, 10, 1024, 1024, 7168, 2048, 10, 10, 10, 40, 4, 4, 96, 24] : List Nat).getD k 0
def lay (G : Gx) (k : Nat) (f : Nat → Int32) (w : Nat → Int64) : va_E := match k with
  | 0 => .inr (11, [.ref (ga G 1), .ref (ga G 3), .ref (ga G 4), .ref (ga G 5), .ref (ga G 2), .ref (ga G 74), .ref (ga G 7), .ref (ga G 8), .ref (ga G 9), .int (f 9)])
  | 1 => .inr (4, [.int (f 0), .int (f 1), .int (f 2), .int (f 3), .ref (ga G 10), .ref (ga G 11), .ref (ga G 12), .ref (ga G 13), .ref (ga G 14), .ref (ga G 15), .ref (ga G 16), .ref (ga G 17), .ref (ga G 18), .ref (ga G 52), .ref (ga G 54), .ref (ga G 19)])
  | 2 => .inr (4, [.int (f 0), .int (f 1), .int (f 2), .int (f 3), .ref (ga G 20), .ref (ga G 21), .ref (ga G 22), .ref (ga G 23), .ref (ga G 24), .ref (ga G 25), .ref (ga G 26), .ref (ga G 27), .ref (ga G 28), .ref (ga G 62), .ref (ga G 64), .ref (ga G 29)])
  | 3 => .inr (10, [.ref (ga G 1), .ref (ga G 30), .ref (ga G 31), .ref (ga G 32), .int (f 4), .int (f 5), .int (f 6)])
  | 4 => .inr (8, [.ref (ga G 1), .ref (ga G 3), .ref (ga G 33), .ref (ga G 34), .ref (ga G 35), .int (f 5), .ref (ga G 36), .ref (ga G 37), .ref (ga G 38), .ref (ga G (f 9).toNatClampNeg), .ref (ga G 39), .int (f 11), .int (f 12), .int (f 13)])
  | 5 => .inr (5, [.ref (ga G 72), .ref (ga G (f 1).toNatClampNeg), .ref (gs G (f 2).toNatClampNeg), .int (f 3), .int (f 4)])
  | 6 => .inr (12, [.ref (ga G 84), .ref (ga G 85), .int (f 2), .ref (ga G 86), .int (f 4), .ref (ga G 87), .ref (ga G 88), .ref (ga G 89), .ref (ga G 90), .ref (ga G 91), .int (f 10), .ref (ga G 92), .int (f 12), .int (f 13), .ref (ga G 93), .ref (ga G 94), .ref (ga G 95), .ref (ga G 96), .ref (ga G 97), .ref (ga G 98), .ref (ga G 99), .ref (ga G 100), .ref (ga G 101), .ref (ga G 102), .ref (ga G 103), .ref (ga G 104), .ref (ga G 105), .int (f 27), .int (f 28), .int (f 29), .int (f 30), .ref (ga G 106), .ref (ga G 107), .ref (ga G 108), .ref (ga G 109)])
  | 7 => .inl (gc G 4, 4, .inr (.inr (.inr (.inr (fun j => if j < 4 then some (ga G (76 + 2 * j)) else none)))))
  | 10 => .inl (gc G 3, 10, .inr (.inr (.inr (.inr (fun j => if f j = 0 then none else some (ga G (f j).toNatClampNeg))))))
  | 19 => .inl (gc G 4, 3, .inr (.inr (.inr (.inr (fun j => if j < 3 then some (ga G (56 + 2 * j)) else none)))))
  | 20 => .inl (gc G 3, 10, .inr (.inr (.inr (.inr (fun j => if f j = 0 then none else some (ga G (f j).toNatClampNeg))))))
  | 29 => .inl (gc G 4, 3, .inr (.inr (.inr (.inr (fun j => if j < 3 then some (ga G (66 + 2 * j)) else none)))))
  | 36 => .inl (gc G 5, 6, .inr (.inr (.inr (.inr (fun j => if j < 6 then some (ga G (40 + j)) else none)))))
  | 38 => .inl (gc G 5, 6, .inr (.inr (.inr (.inr (fun j => if j < 6 then some (ga G (46 + j)) else none)))))
  | 98 => .inl (gc G 2, 1024, .inl f)
  | 101 => .inl (gc G 1, 2048, .inr (.inl w))
  | k => if k < 110 then (if 52 ≤ k ∧ k < 84 ∧ k % 2 = 0 then .inr (7, [.ref (ga G (k + 1)), .int (f 1)]) else .inl (gc G 0, alen k, .inl f)) else .inr ((f 5).toNatClampNeg, [.int (f 0), .int (f 1), .int (f 2), .int (f 3), .int (f 4)])
def isRow (k : Nat) : Bool := decide (52 ≤ k ∧ k < 84 ∧ k % 2 = 0)
def isLeast (k : Nat) : Bool := decide (46 ≤ k ∧ k < 52)
def isRole (σ : St) (k : Nat) : Bool := decide (110 ≤ k ∧ k < 110 + σ.1 ∧ (rc σ k 5 = 0 ∨ rc σ k 5 = 1 ∨ rc σ k 5 = 2 ∨ rc σ k 5 = 3 ∨ rc σ k 5 = 6 ∨ rc σ k 5 = 9))
theorem lay_w (G : Gx) {k : Nat} (h : k ≠ 101) (f : Nat → Int32) (w w' : Nat → Int64) : lay G k f w = lay G k f w' := by
  unfold lay
  split <;> first | rfl | contradiction
theorem lay_row (G : Gx) {k : Nat} (h : isRow k = true) (f : Nat → Int32) (w : Nat → Int64) : lay G k f w = .inr (7, [.ref (ga G (k + 1)), .int (f 1)]) := by
  obtain ⟨h1, h2, h3⟩ := of_decide_eq_true h
  unfold lay
  split <;> first | omega | skip
  rw [if_pos (by omega), if_pos ⟨h1, h2, h3⟩]
theorem lay_rowA (G : Gx) {k : Nat} (h : isRow k = true) (f : Nat → Int32) (w : Nat → Int64) : lay G (k + 1) f w = .inl (gc G 0, alen (k + 1), .inl f) := by
  obtain ⟨h1, h2, h3⟩ := of_decide_eq_true h
  unfold lay
  split <;> first | omega | skip
  rw [if_pos (by omega), if_neg (by omega)]
theorem lay_least (G : Gx) {k : Nat} (h : isLeast k = true) (f : Nat → Int32) (w : Nat → Int64) : lay G k f w = .inl (gc G 0, 1024, .inl f) := by
  obtain ⟨h1, h2⟩ := of_decide_eq_true h
  have h3 : k = 46 ∨ k = 47 ∨ k = 48 ∨ k = 49 ∨ k = 50 ∨ k = 51 := by omega
  rcases h3 with rfl | rfl | rfl | rfl | rfl | rfl <;> rfl
theorem lay_role (G : Gx) {k : Nat} (h : 110 ≤ k) (f : Nat → Int32) (w : Nat → Int64) : lay G k f w = .inr ((f 5).toNatClampNeg, [.int (f 0), .int (f 1), .int (f 2), .int (f 3), .int (f 4)]) := by
  unfold lay
  split <;> first | omega | skip
  rw [if_neg (by omega)]
def wsl (G : Gx) (σ : St) : va_W := (List.range (110 + σ.1)).map (fun k => (ga G k, lay G k (σ.2.1 k) σ.2.2))
theorem wsl_at {G : Gx} {σ : St} {k : Nat} (h : k < 110 + σ.1) : (wsl G σ)[k]? = some (ga G k, lay G k (σ.2.1 k) σ.2.2) := by
  unfold wsl
  rw [List.getElem?_map, List.getElem?_range h]
  rfl
theorem wsl_set {G : Gx} {σ : St} {k : Nat} (h : k < 110 + σ.1) (g : Nat → Int32) : (wsl G σ).set k (ga G k, lay G k g σ.2.2) = wsl G (σ.1, va_up σ.2.1 k g, σ.2.2) := by
  apply List.ext_getElem?
  intro i
  rw [List.getElem?_set]
  by_cases hi : i < 110 + σ.1
  · rw [wsl_at (σ := (σ.1, va_up σ.2.1 k g, σ.2.2)) (show i < 110 + σ.1 from hi), wsl_at hi]
    by_cases hk : k = i
    · subst hk
      rw [if_pos rfl, if_pos (by unfold wsl; simpa using h)]
      show _ = some (ga G k, lay G k (va_up σ.2.1 k g k) σ.2.2)
      rw [va_up_self]
    · rw [if_neg hk]
      show _ = some (ga G i, lay G i (va_up σ.2.1 k g i) σ.2.2)
      rw [va_up_ne _ _ (Ne.symm hk)]
  · have e1 : (wsl G σ)[i]? = none := List.getElem?_eq_none (by unfold wsl; simp; omega)
    have e2 : (wsl G (σ.1, va_up σ.2.1 k g, σ.2.2))[i]? = none := List.getElem?_eq_none (by unfold wsl; simp; omega)
    rw [e1, e2, if_neg (by omega)]
theorem wsl_setL {G : Gx} {σ : St} (w : Nat → Int64) : (wsl G σ).set 101 (ga G 101, .inl (gc G 1, 2048, .inr (.inl w))) = wsl G (σ.1, σ.2.1, w) := by
  apply List.ext_getElem?
  intro i
  rw [List.getElem?_set]
  by_cases hi : i < 110 + σ.1
  · rw [wsl_at (σ := (σ.1, σ.2.1, w)) (show i < 110 + σ.1 from hi), wsl_at hi]
    by_cases hk : 101 = i
    · subst hk
      rw [if_pos rfl, if_pos (by unfold wsl; simp; omega)]
      rfl
    · rw [if_neg hk, lay_w G (Ne.symm hk) _ σ.2.2 w]
  · have e1 : (wsl G σ)[i]? = none := List.getElem?_eq_none (by unfold wsl; simp; omega)
    have e2 : (wsl G (σ.1, σ.2.1, w))[i]? = none := List.getElem?_eq_none (by unfold wsl; simp; omega)
    rw [e1, e2, if_neg (by omega)]
def tyl (G : Gx) : List (ClassId × FieldType) := [(gc G 0, .int), (gc G 1, .long), (gc G 2, .boolean), (gc G 3, .object "FivePlayers$Role"), (gc G 4, .object "FivePlayers$Row"), (gc G 5, .array .int)]
/-- what is known of the tables, the strings -/
def ncl : List (String × String) := [(RX0, RX2), (RX0, RX3), (RX0, RX1), (RX1, RX9), (RX1, RX3), (RX1, RX0), (RX2, RX9), (RX2, RX3), (RX2, RX1), (RX2, RX0), (RX3, RX2), (RX3, RX1), (RX3, RX0), (RX6, RX9), (RX6, RX2), (RX6, RX3), (RX6, RX1), (RX6, RX0), (RX9, RX2), (RX9, RX3), (RX9, RX1), (RX9, RX0)]
def stl : List (Nat × String × Nat) := [(23, "", 0), (48, "ganyk", 1), (50, "wvkqs", 2), (52, "ganykl", 3)]
def stLen : List Nat := [0, 5, 5, 6]
def stByt : List (List Int32) := [[], [103, 97, 110, 121, 107], [119, 118, 107, 113, 115], [103, 97, 110, 121, 107, 108]]
def Kt (G : Gx) (U : State) : Prop := va_K G.1 vwCl (tyl G) U ∧ va_Nw (.methodLinkNest RX4 81 yX11_isWithin RX11) U ∧ (∀ q ∈ ncl, va_Nc q.1 q.2 U) ∧ (∀ q ∈ stl, vk_R RX5 q.1 q.2.1 (gs G q.2.2) U)
def Ks (G : Gx) (U : State) (H : Heap) : Prop := vk_S 4 stLen stByt (gs G) (gv G) (gA G) U H ∧ va_Z "java/lang/String" "COMPACT_STRINGS" "Z" (.int 1) (gA G) U H
def Kx (G : Gx) (U : State) : Prop := va_K G.1 vwCl (tyl G) U ∧ va_Nw (.methodLinkNest RX4 81 yX11_isWithin RX11) U ∧ (∀ q ∈ ncl, va_Nc q.1 q.2 U) ∧ (∀ q ∈ stl, vk_R RX5 q.1 q.2.1 (gs G q.2.2) U) ∧ vk_S 4 stLen stByt (gs G) (gv G) (gA G) U U.heap ∧ va_Z "java/lang/String" "COMPACT_STRINGS" "Z" (.int 1) (gA G) U U.heap
theorem Kx.same {G : Gx} {u U : State} (hv : u.vm = U.vm) (hh : U.heap = u.heap) (h : Kx G u) : Kx G U := by
  have ha : u.vm.Alike U.vm := by rw [hv]; exact Vm.Alike.refl _
  exact ⟨va_K.moved ha h.1, va_Nw.same rfl hv h.2.1, fun q hq => va_Nc.moved ha (h.2.2.1 q hq), fun q hq => vk_R.same hv.symm (h.2.2.2.1 q hq), by rw [hh]; exact vk_S.moved ha h.2.2.2.2.1, by rw [hh]; exact va_Z.moved ha h.2.2.2.2.2⟩
theorem Kx.warm {G : Gx} {u U : State} (hW : u.WarmedH U.vm) (hq : ∀ a : Nat, a < u.heap.size → ¬ gA G a → U.heap[a]? = u.heap[a]?) (h : Kx G u) : Kx G U :=
  ⟨va_K.moved hW.alike h.1, va_Nw.warmM hW h.2.1, fun q hq => va_Nc.moved hW.alike (h.2.2.1 q hq), fun q hq => vk_R.warm hW (h.2.2.2.1 q hq), vk_S.moved hW.alike (vk_S.kept h.2.2.2.2.1 hq), va_Z.moved hW.alike (va_Z.kept h.2.2.2.2.2 hq)⟩
/-- what a method finds -/
def Wp (G : Gx) (σ : St) (U : State) : Prop := gh G ≤ U.heap.size ∧ va_P G.1 vwCl (wsl G σ) U.heap ∧ va_D (gA G) (wsl G σ) ∧ Kx G U
/-- what it leaves -/
def Wq (G : Gx) (σ : St) (st t : State) : Prop := va_P G.1 vwCl (wsl G σ) t.heap ∧ va_D (gA G) (wsl G σ) ∧ va_F (gA G) st t
def rmD (d mc ms : Nat) : Room := { frames := d, cells := mc, slots := ms, locals := 40 * d }
def MI (l : Launch) (G : Gx) (y : MethodName) (cc : ByteArray) (maxL : Nat) (ret : Option FieldType) (d : Nat) (vals : List Value) (σ : St) (o : Option Value) (σ0 : St) : Prop :=
  Met l y (.code y cc maxL ret :: gtb) (rmD d 0 0) (va_Pc vals (Wp G σ)) (fun _ st oc t => oc = .returned o ∧ Wq G σ0 st t) 0 0 (gA G)
abbrev Xx : Type := Program × Launch × Env × Room × State × MethodId × Array Value × List Frame × Method × Code × (State → Prop)
abbrev xs (X : Xx) : State := X.2.2.2.2.1
abbrev xm (X : Xx) : MethodId := X.2.2.2.2.2.1
abbrev xa (X : Xx) : Array Value := X.2.2.2.2.2.2.1
abbrev xR (X : Xx) : Room := X.2.2.2.1
abbrev xM (X : Xx) : Method := X.2.2.2.2.2.2.2.2.1
abbrev xc (X : Xx) : Code := X.2.2.2.2.2.2.2.2.2.1
abbrev xb (X : Xx) : List Frame := X.2.2.2.2.2.2.2.1
def Hd (G : Gx) (σ : St) (H0 H : Heap) (locs : List Loc) : Prop := va_P G.1 vwCl (wsl G σ) H ∧ va_D (gA G) (wsl G σ) ∧ va_S (gA G) H0 H locs
def V (X : Xx) (G : Gx) (nL cells slots : Nat) (σ : St) (pc : Nat) (lv : List (Nat × Value)) (st : List Value) : Prop :=
  ∀ (H : Heap) (locs : List Loc) (ls : Array Slot), Hd G σ (xs X).heap H locs → lv_has ls nL lv → W X.1 X.2.1 X.2.2.1 (xR X) (xs X) (xm X) (xa X) (xb X) (xM X) (xc X) H locs cells slots X.2.2.2.2.2.2.2.2.2.2 (F0 (xm X) pc ls st)
/-- what holds throughout a method's body -/
def Ck (X : Xx) (G : Gx) (cc : ByteArray) (own : String) (nL d : Nat) : Prop :=
  X.1.tables.exec = Jvm.exec ∧ (xc X).code = cc ∧ (xc X).maxLocals = nL ∧ (xs X).vm.findClass own = some (xm X).cls ∧ (∀ w ∈ gtb, w.before (xa X) (xs X) = true) ∧ Kx G (xs X) ∧ gh G ≤ (xs X).heap.size ∧ (xM X).locks = false ∧ d ≤ (xR X).frames ∧ 40 * d ≤ (xR X).locals
def Rt (X : Xx) (G : Gx) (ret : Option FieldType) (o : Option Value) (σ0 : St) : Prop :=
  (xM X).sig.returnType = ret ∧ X.2.2.2.2.2.2.2.2.2.2 = MQ (xb X) (fun _ st oc t => oc = .returned o ∧ Wq G σ0 st t) (xa X) (xs X) 0 0 (gA G)
theorem MI_of {l : Launch} {G : Gx} {y : MethodName} {cc : ByteArray} {maxL : Nat} {ret : Option FieldType} {d : Nat} {vals : List Value} {σ : St} {o : Option Value} {σ0 : St} (own : String) (hw : y.cls = own) (hy : plainName y.cls = true) (lv : List (Nat × Value)) (hlv : lv_args 0 vals = lv) (hn : (lg_sl vals).length ≤ maxL)
    (h : ∀ X : Xx, X.2.1 = l → Ck X G cc own maxL d → Rt X G ret o σ0 → V X G maxL 0 0 σ 0 lv []) : MI l G y cc maxL ret d vals σ o σ0 := by
  refine Met.ofW (cc := cc) (maxL := maxL) (ret := ret) hy rfl ?_
  intro p e s m args below meth c s₁ B hml hv
  obtain ⟨rfl, hsz, hP, hD, hK⟩ := hv
  have hts := atoms_spec (ws := .code y cc maxL ret :: gtb) B.pre
  have hown : s.vm.findClass own = some m.cls := by rw [← hw]; exact findClass_of_methodNamed B.named
  have hl := lv_entry vals (n := maxL) hn
  rw [lg_entry_eq]
  subst hlv
  exact h (p, l, e, rmD d 0 0, s, m, vals.toArray, below, meth, c, MQ below (fun _ st oc t => oc = .returned o ∧ Wq G σ0 st t) vals.toArray s 0 0 (gA G)) rfl
    ⟨B.exec, B.bytes, hml, hown, fun w hw => hts w (List.mem_cons_of_mem _ hw), hK, hsz, B.notSynchronized, Nat.le_refl _, Nat.le_refl _⟩ ⟨B.returns, rfl⟩ s.heap [] _ ⟨hP, hD, va_S.rf⟩ hl
section VV
variable {X : Xx} {G : Gx} {cc : ByteArray} {own : String} {nL d cells slots pc : Nat} {σ : St} {lv : List (Nat × Value)} {rest : List Value}
theorem V_sub (ks : List Nat) {lv' : List (Nat × Value)} (h : lv_pick lv ks = lv') {st : List Value} (k : V X G nL cells slots σ pc lv' st) : V X G nL cells slots σ pc lv st := fun H locs ls hH hl => k H locs ls hH (lv_sub hl ks h)

theorem V_iconst (C : Ck X G cc own nL d) {n : Int} (v : Int32) (hd : decode cc pc = .ok (.iconst n, 1)) (hv : Int32.ofInt n = v) (k : V X G nL cells slots σ (pc + 1) lv (.int v :: rest)) : V X G nL cells slots σ pc lv (rest) := fun H locs ls hH hl => lv_iconst C.1 C.2.1 hd hv (k H locs ls hH hl)
theorem V_bipush (C : Ck X G cc own nL d) {n : Int} (v : Int32) (hd : decode cc pc = .ok (.bipush n, 2)) (hv : (Int8.ofInt n).toInt32 = v) (k : V X G nL cells slots σ (pc + 2) lv (.int v :: rest)) : V X G nL cells slots σ pc lv (rest) := fun H locs ls hH hl => lv_bipush C.1 C.2.1 hd hv (k H locs ls hH hl)
theorem V_sipush (C : Ck X G cc own nL d) {n : Int} (v : Int32) (hd : decode cc pc = .ok (.sipush n, 3)) (hv : (Int16.ofInt n).toInt32 = v) (k : V X G nL cells slots σ (pc + 3) lv (.int v :: rest)) : V X G nL cells slots σ pc lv (rest) := fun H locs ls hH hl => lv_sipush C.1 C.2.1 hd hv (k H locs ls hH hl)
theorem V_lconst (C : Ck X G cc own nL d) {n : Fin 2} (v : Int64) (hd : decode cc pc = .ok (.lconst n, 1)) (hv : Int64.ofNat (n : Nat) = v) (k : V X G nL cells slots σ (pc + 1) lv (.long v :: rest)) : V X G nL cells slots σ pc lv (rest) := fun H locs ls hH hl => lv_lconst C.1 C.2.1 hd hv (k H locs ls hH hl)
theorem V_ldc (C : Ck X G cc own nL d) {index : Nat} (v : Int32) (hd : decode cc pc = .ok (.ldc index, 2)) (hc : Cond.constant own index v ∈ gtb) (k : V X G nL cells slots σ (pc + 2) lv (.int v :: rest)) : V X G nL cells slots σ pc lv (rest) := fun H locs ls hH hl => lv_ldc C.1 C.2.1 C.2.2.2.1 (C.2.2.2.2.1 _ hc) hd (k H locs ls hH hl)
theorem V_ldc2 (C : Ck X G cc own nL d) {index : Nat} (v : Int64) (hd : decode cc pc = .ok (.ldc2_w index, 3)) (hc : Cond.constantLong own index v ∈ gtb) (k : V X G nL cells slots σ (pc + 3) lv (.long v :: rest)) : V X G nL cells slots σ pc lv (rest) := fun H locs ls hH hl => lv_ldc2 C.1 C.2.1 C.2.2.2.1 (C.2.2.2.2.1 _ hc) hd (k H locs ls hH hl)
theorem V_iload_n (C : Ck X G cc own nL d) {n : Fin 4} {i : Nat} {x : Int32} (hd : decode cc pc = .ok (.iload_n n, 1)) (j : Nat) (hi : (n : Nat) = i) (hj : lv[j]? = some (i, .int x)) (k : V X G nL cells slots σ (pc + 1) lv (.int x :: rest)) : V X G nL cells slots σ pc lv (rest) := fun H locs ls hH hl => lv_iload_n C.1 C.2.1 hd hi (lv_at hl j hj) (k H locs ls hH hl)
theorem V_iload (C : Ck X G cc own nL d) {i : Nat} {x : Int32} (hd : decode cc pc = .ok (.iload i, 2)) (j : Nat) (hj : lv[j]? = some (i, .int x)) (k : V X G nL cells slots σ (pc + 2) lv (.int x :: rest)) : V X G nL cells slots σ pc lv (rest) := fun H locs ls hH hl => lv_iload C.1 C.2.1 hd (lv_at hl j hj) (k H locs ls hH hl)
theorem V_istore_n (C : Ck X G cc own nL d) {n : Fin 4} {i : Nat} {x : Int32} (ks : List Nat) {lv' : List (Nat × Value)} (hd : decode cc pc = .ok (.istore_n n, 1)) (hi : (n : Nat) = i) (hn : i < nL) (hl2 : lv_pick ((i, Value.int x) :: lv.filter (fun q => (!(q.1 == i) && !(q.1 + 1 == i && q.2.category == 2)))) ks = lv') (k : V X G nL cells slots σ (pc + 1) lv' rest) : V X G nL cells slots σ pc lv (.int x :: rest) := fun H locs ls hH hl => lv_istore_n C.1 C.2.1 hd hi hl hn rfl (fun ls' h' => k H locs ls' hH (lv_sub h' ks hl2))
theorem V_istore (C : Ck X G cc own nL d) {i : Nat} {x : Int32} (ks : List Nat) {lv' : List (Nat × Value)} (hd : decode cc pc = .ok (.istore i, 2)) (hn : i < nL) (hl2 : lv_pick ((i, Value.int x) :: lv.filter (fun q => (!(q.1 == i) && !(q.1 + 1 == i && q.2.category == 2)))) ks = lv') (k : V X G nL cells slots σ (pc + 2) lv' rest) : V X G nL cells slots σ pc lv (.int x :: rest) := fun H locs ls hH hl => lv_istore C.1 C.2.1 hd hl hn rfl (fun ls' h' => k H locs ls' hH (lv_sub h' ks hl2))
theorem V_lload_n (C : Ck X G cc own nL d) {n : Fin 4} {i : Nat} {x : Int64} (hd : decode cc pc = .ok (.lload_n n, 1)) (j : Nat) (hi : (n : Nat) = i) (hj : lv[j]? = some (i, .long x)) (k : V X G nL cells slots σ (pc + 1) lv (.long x :: rest)) : V X G nL cells slots σ pc lv (rest) := fun H locs ls hH hl => lv_lload_n C.1 C.2.1 hd hi (lv_at hl j hj) (k H locs ls hH hl)
theorem V_lload (C : Ck X G cc own nL d) {i : Nat} {x : Int64} (hd : decode cc pc = .ok (.lload i, 2)) (j : Nat) (hj : lv[j]? = some (i, .long x)) (k : V X G nL cells slots σ (pc + 2) lv (.long x :: rest)) : V X G nL cells slots σ pc lv (rest) := fun H locs ls hH hl => lv_lload C.1 C.2.1 hd (lv_at hl j hj) (k H locs ls hH hl)
theorem V_lstore_n (C : Ck X G cc own nL d) {n : Fin 4} {i : Nat} {x : Int64} (ks : List Nat) {lv' : List (Nat × Value)} (hd : decode cc pc = .ok (.lstore_n n, 1)) (hi : (n : Nat) = i) (hn : i + 1 < nL) (hl2 : lv_pick ((i, Value.long x) :: lv.filter (fun q => (!(q.1 == i) && (!(q.1 == i + 1) && !(q.1 + 1 == i && q.2.category == 2))))) ks = lv') (k : V X G nL cells slots σ (pc + 1) lv' rest) : V X G nL cells slots σ pc lv (.long x :: rest) := fun H locs ls hH hl => lv_lstore_n C.1 C.2.1 hd hi hl hn rfl (fun ls' h' => k H locs ls' hH (lv_sub h' ks hl2))
theorem V_lstore (C : Ck X G cc own nL d) {i : Nat} {x : Int64} (ks : List Nat) {lv' : List (Nat × Value)} (hd : decode cc pc = .ok (.lstore i, 2)) (hn : i + 1 < nL) (hl2 : lv_pick ((i, Value.long x) :: lv.filter (fun q => (!(q.1 == i) && (!(q.1 == i + 1) && !(q.1 + 1 == i && q.2.category == 2))))) ks = lv') (k : V X G nL cells slots σ (pc + 2) lv' rest) : V X G nL cells slots σ pc lv (.long x :: rest) := fun H locs ls hH hl => lv_lstore C.1 C.2.1 hd hl hn rfl (fun ls' h' => k H locs ls' hH (lv_sub h' ks hl2))
theorem V_aload_n (C : Ck X G cc own nL d) {n : Fin 4} {i : Nat} {x : Nat} (hd : decode cc pc = .ok (.aload_n n, 1)) (j : Nat) (hi : (n : Nat) = i) (hj : lv[j]? = some (i, .ref x)) (k : V X G nL cells slots σ (pc + 1) lv (.ref x :: rest)) : V X G nL cells slots σ pc lv (rest) := fun H locs ls hH hl => lv_aload_n C.1 C.2.1 hd hi (lv_at hl j hj) (k H locs ls hH hl)
theorem V_aload (C : Ck X G cc own nL d) {i : Nat} {x : Nat} (hd : decode cc pc = .ok (.aload i, 2)) (j : Nat) (hj : lv[j]? = some (i, .ref x)) (k : V X G nL cells slots σ (pc + 2) lv (.ref x :: rest)) : V X G nL cells slots σ pc lv (rest) := fun H locs ls hH hl => lv_aload C.1 C.2.1 hd (lv_at hl j hj) (k H locs ls hH hl)
theorem V_astore_n (C : Ck X G cc own nL d) {n : Fin 4} {i : Nat} {x : Nat} (ks : List Nat) {lv' : List (Nat × Value)} (hd : decode cc pc = .ok (.astore_n n, 1)) (hi : (n : Nat) = i) (hn : i < nL) (hl2 : lv_pick ((i, Value.ref x) :: lv.filter (fun q => (!(q.1 == i) && !(q.1 + 1 == i && q.2.category == 2)))) ks = lv') (k : V X G nL cells slots σ (pc + 1) lv' rest) : V X G nL cells slots σ pc lv (.ref x :: rest) := fun H locs ls hH hl => lv_astore_n C.1 C.2.1 hd hi hl hn rfl (fun ls' h' => k H locs ls' hH (lv_sub h' ks hl2))
theorem V_astore (C : Ck X G cc own nL d) {i : Nat} {x : Nat} (ks : List Nat) {lv' : List (Nat × Value)} (hd : decode cc pc = .ok (.astore i, 2)) (hn : i < nL) (hl2 : lv_pick ((i, Value.ref x) :: lv.filter (fun q => (!(q.1 == i) && !(q.1 + 1 == i && q.2.category == 2)))) ks = lv') (k : V X G nL cells slots σ (pc + 2) lv' rest) : V X G nL cells slots σ pc lv (.ref x :: rest) := fun H locs ls hH hl => lv_astore C.1 C.2.1 hd hl hn rfl (fun ls' h' => k H locs ls' hH (lv_sub h' ks hl2))
theorem V_iinc (C : Ck X G cc own nL d) {i : Nat} {n : Int} {x : Int32} (v : Int32) (j : Nat) (ks : List Nat) {lv' : List (Nat × Value)} (hd : decode cc pc = .ok (.iinc i n, 3)) (hj : lv[j]? = some (i, .int x)) (hv : x + Int32.ofInt n = v) (hn : i < nL) (hl2 : lv_pick ((i, Value.int v) :: lv.filter (fun q => !(q.1 == i) && !(q.1 + 1 == i && q.2.category == 2))) ks = lv') (k : V X G nL cells slots σ (pc + 3) lv' rest) : V X G nL cells slots σ pc lv rest := fun H locs ls hH hl => lv_iinc C.1 C.2.1 hd hl hj hv hn rfl (fun ls' h' => k H locs ls' hH (lv_sub h' ks hl2))
theorem V_iadd (C : Ck X G cc own nL d) {x y : Int32} (hd : decode cc pc = .ok (.iadd, 1)) (k : V X G nL cells slots σ (pc + 1) lv (.int (x + y) :: rest)) : V X G nL cells slots σ pc lv (.int y :: .int x :: rest) := fun H locs ls hH hl => lv_iadd C.1 C.2.1 hd (k H locs ls hH hl)
theorem V_isub (C : Ck X G cc own nL d) {x y : Int32} (hd : decode cc pc = .ok (.isub, 1)) (k : V X G nL cells slots σ (pc + 1) lv (.int (x - y) :: rest)) : V X G nL cells slots σ pc lv (.int y :: .int x :: rest) := fun H locs ls hH hl => lv_isub C.1 C.2.1 hd (k H locs ls hH hl)
theorem V_imul (C : Ck X G cc own nL d) {x y : Int32} (hd : decode cc pc = .ok (.imul, 1)) (k : V X G nL cells slots σ (pc + 1) lv (.int (x * y) :: rest)) : V X G nL cells slots σ pc lv (.int y :: .int x :: rest) := fun H locs ls hH hl => lv_imul C.1 C.2.1 hd (k H locs ls hH hl)
theorem V_iand (C : Ck X G cc own nL d) {x y : Int32} (hd : decode cc pc = .ok (.iand, 1)) (k : V X G nL cells slots σ (pc + 1) lv (.int (x &&& y) :: rest)) : V X G nL cells slots σ pc lv (.int y :: .int x :: rest) := fun H locs ls hH hl => lv_iand C.1 C.2.1 hd (k H locs ls hH hl)
theorem V_ior (C : Ck X G cc own nL d) {x y : Int32} (hd : decode cc pc = .ok (.ior, 1)) (k : V X G nL cells slots σ (pc + 1) lv (.int (x ||| y) :: rest)) : V X G nL cells slots σ pc lv (.int y :: .int x :: rest) := fun H locs ls hH hl => lv_ior C.1 C.2.1 hd (k H locs ls hH hl)
theorem V_ixor (C : Ck X G cc own nL d) {x y : Int32} (hd : decode cc pc = .ok (.ixor, 1)) (k : V X G nL cells slots σ (pc + 1) lv (.int (x ^^^ y) :: rest)) : V X G nL cells slots σ pc lv (.int y :: .int x :: rest) := fun H locs ls hH hl => lv_ixor C.1 C.2.1 hd (k H locs ls hH hl)
theorem V_ishl (C : Ck X G cc own nL d) {x y : Int32} (hd : decode cc pc = .ok (.ishl, 1)) (k : V X G nL cells slots σ (pc + 1) lv (.int (x <<< (y &&& 31)) :: rest)) : V X G nL cells slots σ pc lv (.int y :: .int x :: rest) := fun H locs ls hH hl => lv_ishl C.1 C.2.1 hd (k H locs ls hH hl)
theorem V_ishr (C : Ck X G cc own nL d) {x y : Int32} (hd : decode cc pc = .ok (.ishr, 1)) (k : V X G nL cells slots σ (pc + 1) lv (.int (x >>> (y &&& 31)) :: rest)) : V X G nL cells slots σ pc lv (.int y :: .int x :: rest) := fun H locs ls hH hl => lv_ishr C.1 C.2.1 hd (k H locs ls hH hl)
theorem V_iushr (C : Ck X G cc own nL d) {x y : Int32} (hd : decode cc pc = .ok (.iushr, 1)) (k : V X G nL cells slots σ (pc + 1) lv (.int ((x.toUInt32 >>> (y.toUInt32 &&& Int32.toUInt32 31)).toInt32) :: rest)) : V X G nL cells slots σ pc lv (.int y :: .int x :: rest) := fun H locs ls hH hl => lv_iushr C.1 C.2.1 hd rfl (k H locs ls hH hl)
theorem V_idiv (C : Ck X G cc own nL d) {x y : Int32} (hd : decode cc pc = .ok (.idiv, 1)) (hne : ¬ y = 0) (k : V X G nL cells slots σ (pc + 1) lv (.int (x / y) :: rest)) : V X G nL cells slots σ pc lv (.int y :: .int x :: rest) := fun H locs ls hH hl => lv_idiv C.1 C.2.1 hd hne (k H locs ls hH hl)
theorem V_irem (C : Ck X G cc own nL d) {x y : Int32} (hd : decode cc pc = .ok (.irem, 1)) (hne : ¬ y = 0) (k : V X G nL cells slots σ (pc + 1) lv (.int (x - x / y * y) :: rest)) : V X G nL cells slots σ pc lv (.int y :: .int x :: rest) := fun H locs ls hH hl => lv_irem C.1 C.2.1 hd hne (k H locs ls hH hl)
theorem V_ineg (C : Ck X G cc own nL d) {x : Int32} (hd : decode cc pc = .ok (.ineg, 1)) (k : V X G nL cells slots σ (pc + 1) lv (.int (-x) :: rest)) : V X G nL cells slots σ pc lv (.int x :: rest) := fun H locs ls hH hl => lv_ineg C.1 C.2.1 hd (k H locs ls hH hl)
theorem V_ladd (C : Ck X G cc own nL d) {x y : Int64} (hd : decode cc pc = .ok (.ladd, 1)) (k : V X G nL cells slots σ (pc + 1) lv (.long (x + y) :: rest)) : V X G nL cells slots σ pc lv (.long y :: .long x :: rest) := fun H locs ls hH hl => lv_ladd C.1 C.2.1 hd (k H locs ls hH hl)
theorem V_lsub (C : Ck X G cc own nL d) {x y : Int64} (hd : decode cc pc = .ok (.lsub, 1)) (k : V X G nL cells slots σ (pc + 1) lv (.long (x - y) :: rest)) : V X G nL cells slots σ pc lv (.long y :: .long x :: rest) := fun H locs ls hH hl => lv_lsub C.1 C.2.1 hd (k H locs ls hH hl)
theorem V_land (C : Ck X G cc own nL d) {x y : Int64} (hd : decode cc pc = .ok (.land, 1)) (k : V X G nL cells slots σ (pc + 1) lv (.long (x &&& y) :: rest)) : V X G nL cells slots σ pc lv (.long y :: .long x :: rest) := fun H locs ls hH hl => lv_land C.1 C.2.1 hd (k H locs ls hH hl)
theorem V_lor (C : Ck X G cc own nL d) {x y : Int64} (hd : decode cc pc = .ok (.lor, 1)) (k : V X G nL cells slots σ (pc + 1) lv (.long (x ||| y) :: rest)) : V X G nL cells slots σ pc lv (.long y :: .long x :: rest) := fun H locs ls hH hl => lv_lor C.1 C.2.1 hd (k H locs ls hH hl)
theorem V_lushr (C : Ck X G cc own nL d) {x : Int64} {y : Int32} (hd : decode cc pc = .ok (.lushr, 1)) (k : V X G nL cells slots σ (pc + 1) lv (.long ((x.toUInt64 >>> (y.toInt64.toUInt64 &&& Int64.toUInt64 63)).toInt64) :: rest)) : V X G nL cells slots σ pc lv (.int y :: .long x :: rest) := fun H locs ls hH hl => lv_lushr C.1 C.2.1 hd rfl (k H locs ls hH hl)
theorem V_lshl (C : Ck X G cc own nL d) {x : Int64} {y : Int32} (hd : decode cc pc = .ok (.lshl, 1)) (k : V X G nL cells slots σ (pc + 1) lv (.long (x <<< (y.toInt64 &&& 63)) :: rest)) : V X G nL cells slots σ pc lv (.int y :: .long x :: rest) := fun H locs ls hH hl => lv_lshl C.1 C.2.1 hd rfl (k H locs ls hH hl)
theorem V_lcmp (C : Ck X G cc own nL d) {x y : Int64} (hd : decode cc pc = .ok (.lcmp, 1)) (k : V X G nL cells slots σ (pc + 1) lv (.int (lg_cmp x y) :: rest)) : V X G nL cells slots σ pc lv (.long y :: .long x :: rest) := fun H locs ls hH hl => W.lcmp C.1 C.2.1 hd (k H locs ls hH hl)
theorem V_i2l (C : Ck X G cc own nL d) {x : Int32} (hd : decode cc pc = .ok (.i2l, 1)) (k : V X G nL cells slots σ (pc + 1) lv (.long x.toInt64 :: rest)) : V X G nL cells slots σ pc lv (.int x :: rest) := fun H locs ls hH hl => lv_i2l C.1 C.2.1 hd rfl (k H locs ls hH hl)
theorem V_l2i (C : Ck X G cc own nL d) {x : Int64} (hd : decode cc pc = .ok (.l2i, 1)) (k : V X G nL cells slots σ (pc + 1) lv (.int x.toInt32 :: rest)) : V X G nL cells slots σ pc lv (.long x :: rest) := fun H locs ls hH hl => lv_l2i C.1 C.2.1 hd rfl (k H locs ls hH hl)
theorem V_i2b (C : Ck X G cc own nL d) {x : Int32} (hd : decode cc pc = .ok (.i2b, 1)) (k : V X G nL cells slots σ (pc + 1) lv (.int x.toInt8.toInt32 :: rest)) : V X G nL cells slots σ pc lv (.int x :: rest) := fun H locs ls hH hl => lv_i2b C.1 C.2.1 hd rfl (k H locs ls hH hl)
theorem V_i2s (C : Ck X G cc own nL d) {x : Int32} (hd : decode cc pc = .ok (.i2s, 1)) (k : V X G nL cells slots σ (pc + 1) lv (.int x.toInt16.toInt32 :: rest)) : V X G nL cells slots σ pc lv (.int x :: rest) := fun H locs ls hH hl => lv_i2s C.1 C.2.1 hd rfl (k H locs ls hH hl)
theorem V_i2c (C : Ck X G cc own nL d) {x : Int32} (hd : decode cc pc = .ok (.i2c, 1)) (k : V X G nL cells slots σ (pc + 1) lv (.int (x.toUInt32 % 65536).toInt32 :: rest)) : V X G nL cells slots σ pc lv (.int x :: rest) := fun H locs ls hH hl => lv_i2c C.1 C.2.1 hd rfl (k H locs ls hH hl)
theorem V_dup (C : Ck X G cc own nL d) {v : Value} (hd : decode cc pc = .ok (.dup, 1)) (hc : v.category = 1) (k : V X G nL cells slots σ (pc + 1) lv (v :: v :: rest)) : V X G nL cells slots σ pc lv (v :: rest) := fun H locs ls hH hl => lv_dup C.1 C.2.1 hd hc (k H locs ls hH hl)
theorem V_dup2 (C : Ck X G cc own nL d) {v u : Value} (hd : decode cc pc = .ok (.dup2, 1)) (hc : v.category = 1) (hu : u.category = 1) (k : V X G nL cells slots σ (pc + 1) lv (v :: u :: v :: u :: rest)) : V X G nL cells slots σ pc lv (v :: u :: rest) := fun H locs ls hH hl => lv_dup2_11 C.1 C.2.1 hd hc hu (k H locs ls hH hl)
theorem V_pop (C : Ck X G cc own nL d) {v : Value} (hd : decode cc pc = .ok (.pop, 1)) (hc : v.category = 1) (k : V X G nL cells slots σ (pc + 1) lv (rest)) : V X G nL cells slots σ pc lv (v :: rest) := fun H locs ls hH hl => lv_pop C.1 C.2.1 hd hc (k H locs ls hH hl)
theorem V_if_eq (C : Ck X G cc own nL d) {x : Int32} {off : Int} (tgt : Nat) (hd : decode cc pc = .ok (.ifCond .eq off, 3)) (ht : (pc : Int) + off = (tgt : Int)) (kt : x = 0 → V X G nL cells slots σ tgt lv rest) (kf : ¬ (x = 0) → V X G nL cells slots σ (pc + 3) lv rest) : V X G nL cells slots σ pc lv (.int x :: rest) := fun H locs ls hH hl => lv_if_eq C.1 C.2.1 hd ht (fun q => kt (q) H locs ls hH hl) (fun q => kf (q) H locs ls hH hl)
theorem V_if_ne (C : Ck X G cc own nL d) {x : Int32} {off : Int} (tgt : Nat) (hd : decode cc pc = .ok (.ifCond .ne off, 3)) (ht : (pc : Int) + off = (tgt : Int)) (kt : ¬ (x = 0) → V X G nL cells slots σ tgt lv rest) (kf : x = 0 → V X G nL cells slots σ (pc + 3) lv rest) : V X G nL cells slots σ pc lv (.int x :: rest) := fun H locs ls hH hl => lv_if_ne C.1 C.2.1 hd ht (fun q => kt (q) H locs ls hH hl) (fun q => kf (q) H locs ls hH hl)
theorem V_if_lt (C : Ck X G cc own nL d) {x : Int32} {off : Int} (tgt : Nat) (hd : decode cc pc = .ok (.ifCond .lt off, 3)) (ht : (pc : Int) + off = (tgt : Int)) (kt : x < 0 → V X G nL cells slots σ tgt lv rest) (kf : ¬ (x < 0) → V X G nL cells slots σ (pc + 3) lv rest) : V X G nL cells slots σ pc lv (.int x :: rest) := fun H locs ls hH hl => lv_if_lt C.1 C.2.1 hd ht (fun q => kt (q) H locs ls hH hl) (fun q => kf (q) H locs ls hH hl)
theorem V_if_ge (C : Ck X G cc own nL d) {x : Int32} {off : Int} (tgt : Nat) (hd : decode cc pc = .ok (.ifCond .ge off, 3)) (ht : (pc : Int) + off = (tgt : Int)) (kt : ¬ (x < 0) → V X G nL cells slots σ tgt lv rest) (kf : x < 0 → V X G nL cells slots σ (pc + 3) lv rest) : V X G nL cells slots σ pc lv (.int x :: rest) := fun H locs ls hH hl => lv_if_ge C.1 C.2.1 hd ht (fun q => kt (Int32.not_lt.mpr q) H locs ls hH hl) (fun q => kf (Int32.not_le.mp q) H locs ls hH hl)
theorem V_if_gt (C : Ck X G cc own nL d) {x : Int32} {off : Int} (tgt : Nat) (hd : decode cc pc = .ok (.ifCond .gt off, 3)) (ht : (pc : Int) + off = (tgt : Int)) (kt : 0 < x → V X G nL cells slots σ tgt lv rest) (kf : ¬ (0 < x) → V X G nL cells slots σ (pc + 3) lv rest) : V X G nL cells slots σ pc lv (.int x :: rest) := fun H locs ls hH hl => lv_if_gt C.1 C.2.1 hd ht (fun q => kt (q) H locs ls hH hl) (fun q => kf (q) H locs ls hH hl)
theorem V_if_le (C : Ck X G cc own nL d) {x : Int32} {off : Int} (tgt : Nat) (hd : decode cc pc = .ok (.ifCond .le off, 3)) (ht : (pc : Int) + off = (tgt : Int)) (kt : ¬ (0 < x) → V X G nL cells slots σ tgt lv rest) (kf : 0 < x → V X G nL cells slots σ (pc + 3) lv rest) : V X G nL cells slots σ pc lv (.int x :: rest) := fun H locs ls hH hl => lv_if_le C.1 C.2.1 hd ht (fun q => kt (Int32.not_lt.mpr q) H locs ls hH hl) (fun q => kf (Int32.not_le.mp q) H locs ls hH hl)
theorem V_icmp_eq (C : Ck X G cc own nL d) {x y : Int32} {off : Int} (tgt : Nat) (hd : decode cc pc = .ok (.if_icmp .eq off, 3)) (ht : (pc : Int) + off = (tgt : Int)) (kt : x = y → V X G nL cells slots σ tgt lv rest) (kf : ¬ (x = y) → V X G nL cells slots σ (pc + 3) lv rest) : V X G nL cells slots σ pc lv (.int y :: .int x :: rest) := fun H locs ls hH hl => lv_icmp_eq C.1 C.2.1 hd ht (fun q => kt (q) H locs ls hH hl) (fun q => kf (q) H locs ls hH hl)
theorem V_icmp_ne (C : Ck X G cc own nL d) {x y : Int32} {off : Int} (tgt : Nat) (hd : decode cc pc = .ok (.if_icmp .ne off, 3)) (ht : (pc : Int) + off = (tgt : Int)) (kt : ¬ (x = y) → V X G nL cells slots σ tgt lv rest) (kf : x = y → V X G nL cells slots σ (pc + 3) lv rest) : V X G nL cells slots σ pc lv (.int y :: .int x :: rest) := fun H locs ls hH hl => lv_icmp_ne C.1 C.2.1 hd ht (fun q => kt (q) H locs ls hH hl) (fun q => kf (q) H locs ls hH hl)
theorem V_icmp_lt (C : Ck X G cc own nL d) {x y : Int32} {off : Int} (tgt : Nat) (hd : decode cc pc = .ok (.if_icmp .lt off, 3)) (ht : (pc : Int) + off = (tgt : Int)) (kt : x < y → V X G nL cells slots σ tgt lv rest) (kf : ¬ (x < y) → V X G nL cells slots σ (pc + 3) lv rest) : V X G nL cells slots σ pc lv (.int y :: .int x :: rest) := fun H locs ls hH hl => lv_icmp_lt C.1 C.2.1 hd ht (fun q => kt (q) H locs ls hH hl) (fun q => kf (q) H locs ls hH hl)
theorem V_icmp_ge (C : Ck X G cc own nL d) {x y : Int32} {off : Int} (tgt : Nat) (hd : decode cc pc = .ok (.if_icmp .ge off, 3)) (ht : (pc : Int) + off = (tgt : Int)) (kt : ¬ (x < y) → V X G nL cells slots σ tgt lv rest) (kf : x < y → V X G nL cells slots σ (pc + 3) lv rest) : V X G nL cells slots σ pc lv (.int y :: .int x :: rest) := fun H locs ls hH hl => lv_icmp_ge C.1 C.2.1 hd ht (fun q => kt (Int32.not_lt.mpr q) H locs ls hH hl) (fun q => kf (Int32.not_le.mp q) H locs ls hH hl)
theorem V_icmp_gt (C : Ck X G cc own nL d) {x y : Int32} {off : Int} (tgt : Nat) (hd : decode cc pc = .ok (.if_icmp .gt off, 3)) (ht : (pc : Int) + off = (tgt : Int)) (kt : y < x → V X G nL cells slots σ tgt lv rest) (kf : ¬ (y < x) → V X G nL cells slots σ (pc + 3) lv rest) : V X G nL cells slots σ pc lv (.int y :: .int x :: rest) := fun H locs ls hH hl => lv_icmp_gt C.1 C.2.1 hd ht (fun q => kt (q) H locs ls hH hl) (fun q => kf (q) H locs ls hH hl)
theorem V_icmp_le (C : Ck X G cc own nL d) {x y : Int32} {off : Int} (tgt : Nat) (hd : decode cc pc = .ok (.if_icmp .le off, 3)) (ht : (pc : Int) + off = (tgt : Int)) (kt : ¬ (y < x) → V X G nL cells slots σ tgt lv rest) (kf : y < x → V X G nL cells slots σ (pc + 3) lv rest) : V X G nL cells slots σ pc lv (.int y :: .int x :: rest) := fun H locs ls hH hl => lv_icmp_le C.1 C.2.1 hd ht (fun q => kt (Int32.not_lt.mpr q) H locs ls hH hl) (fun q => kf (Int32.not_le.mp q) H locs ls hH hl)
theorem V_goto (C : Ck X G cc own nL d) {off : Int} (tgt : Nat) {st : List Value} (hd : decode cc pc = .ok (.goto off, 3)) (ht : (pc : Int) + off = (tgt : Int)) (k : V X G nL cells slots σ tgt lv st) : V X G nL cells slots σ pc lv st := fun H locs ls hH hl => lv_goto C.1 C.2.1 hd ht (k H locs ls hH hl)
/-! fields -/
theorem V_get (C : Ck X G cc own nL d) {K ci j idx N : Nat} {Cn rf : String} {T : u_T} {fs : List Value} {v : Value} (hK : K < 110 + σ.1) (hlay : lay G K (σ.2.1 K) σ.2.2 = .inr (ci, fs)) (hc : vwCl[ci]? = some (Cn, T, N)) (hin : ∀ w ∈ u_ws Cn T N, w ∈ gtb) (hj : j < N) (hlink : Cond.fieldLink own idx rf (T j).2.1 (T j).2.2.1 ∈ gtb) (hsame : ∀ x, (xs X).fieldFound? (T j).1 (T j).2.1 (T j).2.2.1 = some x → (xs X).fieldFound? rf (T j).2.1 (T j).2.2.1 = some x) (hv : fs[j]? = some v) (hd : decode cc pc = .ok (.getfield idx, 3)) (k : V X G nL cells slots σ (pc + 3) lv (v :: rest)) : V X G nL cells slots σ pc lv (.ref (ga G K) :: rest) := fun H locs ls hH hl =>
  va_get (D := G.1) C.1 C.2.1 C.2.2.2.2.1 hin C.2.2.2.1 C.2.2.2.2.2.1.1 hH.1 K ((wsl_at hK).trans (by rw [hlay])) hc j hj (C.2.2.2.2.1 _ hlink) hsame hv hd (k H locs ls hH hl)
theorem V_put (C : Ck X G cc own nL d) {K ci j idx N : Nat} {Cn rf : String} {T : u_T} {fs : List Value} {v : Value} {ty : FieldType} (g : Nat → Int32) (ty0 : Nat → FieldType) (hty : ∀ k, k < N → parseFieldDescriptor (T k).2.2.1 = some (ty0 k)) (hnm : ∀ a, a < N → ∀ b, b < N → a ≠ b → (T a).2.1 ≠ (T b).2.1) (hK : K < 110 + σ.1) (hlay : lay G K (σ.2.1 K) σ.2.2 = .inr (ci, fs)) (hc : vwCl[ci]? = some (Cn, T, N)) (hin : ∀ w ∈ u_ws Cn T N, w ∈ gtb) (hj : j < N) (hlink : Cond.fieldLink own idx rf (T j).2.1 (T j).2.2.1 ∈ gtb) (hsame : ∀ x, (xs X).fieldFound? (T j).1 (T j).2.1 (T j).2.2.1 = some x → (xs X).fieldFound? rf (T j).2.1 (T j).2.2.1 = some x) (hfin : (T j).2.2.2 = false) (hpd : parseFieldDescriptor (T j).2.2.1 = some ty) (hnar : narrow ty v = v) (hfit : fits ty v = true) (hjl : j < fs.length) (hlay2 : lay G K g σ.2.2 = .inr (ci, fs.set j v)) (hd : decode cc pc = .ok (.putfield idx, 3)) (k : V X G nL cells slots (σ.1, va_up σ.2.1 K g, σ.2.2) (pc + 3) lv rest) : V X G nL cells slots σ pc lv (v :: .ref (ga G K) :: rest) := fun H locs ls hH hl =>
  va_put (D := G.1) C.1 C.2.1 C.2.2.2.2.1 hin ty0 hty hnm C.2.2.2.1 C.2.2.2.2.2.1.1 hH.1 hH.2.1 hH.2.2 K ((wsl_at hK).trans (by rw [hlay])) hc j hj (C.2.2.2.2.1 _ hlink) hsame hfin hpd hnar hfit hjl hd (fun H1 locs1 hP hD hS => k H1 locs1 ls ⟨by rw [← wsl_set hK, hlay2]; exact hP, by rw [← wsl_set hK, hlay2]; exact hD, hS⟩ hl)
/-! arrays -/
theorem V_iald (C : Ck X G cc own nL d) {K n : Nat} {i : Int32} (hK : K < 110 + σ.1) (hlay : lay G K (σ.2.1 K) σ.2.2 = .inl (gc G 0, n, .inl (σ.2.1 K))) (hin : inb i n = true) (hd : decode cc pc = .ok (.iaload, 1)) (k : V X G nL cells slots σ (pc + 1) lv (.int (rd σ K i) :: rest)) : V X G nL cells slots σ pc lv (.int i :: .ref (ga G K) :: rest) := fun H locs ls hH hl =>
  va_iald C.1 C.2.1 C.2.2.2.2.2.1.1 hH.1 K 0 ((wsl_at hK).trans (by rw [hlay])) rfl (inb_in hin) hd (k H locs ls hH hl)
theorem V_zald (C : Ck X G cc own nL d) {i : Int32} (hin : inb i 1024 = true) (hd : decode cc pc = .ok (.baload, 1)) (k : V X G nL cells slots σ (pc + 1) lv (.int (rd σ 98 i) :: rest)) : V X G nL cells slots σ pc lv (.int i :: .ref (ga G 98) :: rest) := fun H locs ls hH hl =>
  va_zald C.1 C.2.1 C.2.2.2.2.2.1.1 hH.1 98 2 (wsl_at (Nat.lt_of_lt_of_le (Nat.le_of_ble_eq_true rfl) (Nat.le_add_right 110 σ.1))) rfl (inb_in hin) hd (k H locs ls hH hl)
theorem V_lald (C : Ck X G cc own nL d) {i : Int32} (hin : inb i 2048 = true) (hd : decode cc pc = .ok (.laload, 1)) (k : V X G nL cells slots σ (pc + 1) lv (.long (rdL σ i) :: rest)) : V X G nL cells slots σ pc lv (.int i :: .ref (ga G 101) :: rest) := fun H locs ls hH hl =>
  va_lald C.1 C.2.1 C.2.2.2.2.2.1.1 hH.1 101 1 (wsl_at (Nat.lt_of_lt_of_le (Nat.le_of_ble_eq_true rfl) (Nat.le_add_right 110 σ.1))) rfl (inb_in hin) hd (k H locs ls hH hl)
theorem V_aald (C : Ck X G cc own nL d) {K n q t : Nat} {cA : ClassId} {ty : FieldType} {f : Nat → Option Nat} {i : Int32} (hK : K < 110 + σ.1) (hlay : lay G K (σ.2.1 K) σ.2.2 = .inl (cA, n, .inr (.inr (.inr (.inr f))))) (ht : (tyl G)[t]? = some (cA, ty)) (hr : ty.isReference = true) (hin : inb i n = true) (hf : f i.toNatClampNeg = some q) (hd : decode cc pc = .ok (.aaload, 1)) (k : V X G nL cells slots σ (pc + 1) lv (.ref q :: rest)) : V X G nL cells slots σ pc lv (.int i :: .ref (ga G K) :: rest) := fun H locs ls hH hl => by
  have h1 := inb_in hin
  have hlt : i.toNatClampNeg < n := Nat.not_le.mp fun q => h1 (Or.inr q)
  have hcell : H[ga G K]? = some (vp_cell cA (n, .inr (.inr (.inr (.inr f))))) := hH.1 K (ga G K, .inl (cA, n, .inr (.inr (.inr (.inr f))))) ((wsl_at hK).trans (by rw [hlay]))
  refine W.aald (v := .ref q) (ty := ty) C.1 C.2.1 hcell ((C.2.2.2.2.2.1.1.2 t _ ht).1 n (fun j => va_rf (f j))) hr (fun q => by cases q) (by show ¬ (i < 0 ∨ (arrV _ _ _).slots.size ≤ _); rw [arrV_size]; exact h1) ?_ rfl rfl hd (k H locs ls hH hl)
  show (arrV _ _ _).slots[_]? = _
  rw [arrV_read _ _ hlt, hf]
  rfl
theorem V_alen (C : Ck X G cc own nL d) {K n : Nat} {f : Nat → Int32} (hK : K < 110 + σ.1) (hlay : lay G K (σ.2.1 K) σ.2.2 = .inl (gc G 0, n, .inl f)) (hd : decode cc pc = .ok (.arraylength, 1)) (k : V X G nL cells slots σ (pc + 1) lv (.int (Int32.ofNat n) :: rest)) : V X G nL cells slots σ pc lv (.ref (ga G K) :: rest) := fun H locs ls hH hl =>
  va_alen (x := (n, .inl f)) C.1 C.2.1 C.2.2.2.2.2.1.1 hH.1 K 0 ((wsl_at hK).trans (by rw [hlay])) rfl rfl hd (k H locs ls hH hl)
theorem V_iast (C : Ck X G cc own nL d) {K n : Nat} {i x : Int32} (hK : K < 110 + σ.1) (hlay : ∀ f, lay G K f σ.2.2 = .inl (gc G 0, n, .inl f)) (hin : inb i n = true) (hd : decode cc pc = .ok (.iastore, 1)) (k : V X G nL cells slots (wr σ K i x) (pc + 1) lv rest) : V X G nL cells slots σ pc lv (.int x :: .int i :: .ref (ga G K) :: rest) := fun H locs ls hH hl =>
  va_iast C.1 C.2.1 C.2.2.2.2.2.1.1 hH.1 hH.2.1 hH.2.2 K 0 ((wsl_at hK).trans (by rw [hlay])) rfl (inb_in hin) hd (fun H1 locs1 hP hD hS => k H1 locs1 ls ⟨by show va_P _ _ (wsl G (σ.1, va_up σ.2.1 K (upd (σ.2.1 K) i.toNatClampNeg x), σ.2.2)) _; rw [← wsl_set hK, hlay]; exact hP, by show va_D _ (wsl G (σ.1, va_up σ.2.1 K (upd (σ.2.1 K) i.toNatClampNeg x), σ.2.2)); rw [← wsl_set hK, hlay]; exact hD, hS⟩ hl)
theorem V_zast (C : Ck X G cc own nL d) {i x : Int32} (hin : inb i 1024 = true) (hd : decode cc pc = .ok (.bastore, 1)) (k : V X G nL cells slots (wr σ 98 i (vp_nar .boolean x)) (pc + 1) lv rest) : V X G nL cells slots σ pc lv (.int x :: .int i :: .ref (ga G 98) :: rest) := fun H locs ls hH hl =>
  have hK : 98 < 110 + σ.1 := Nat.lt_of_lt_of_le (Nat.le_of_ble_eq_true rfl) (Nat.le_add_right 110 σ.1)
  va_zast C.1 C.2.1 C.2.2.2.2.2.1.1 hH.1 hH.2.1 hH.2.2 98 2 (wsl_at hK) rfl (inb_in hin) hd (fun H1 locs1 hP hD hS => k H1 locs1 ls ⟨by show va_P _ _ (wsl G (σ.1, va_up σ.2.1 98 (upd (σ.2.1 98) i.toNatClampNeg (vp_nar .boolean x)), σ.2.2)) _; rw [← wsl_set hK]; exact hP, by show va_D _ (wsl G (σ.1, va_up σ.2.1 98 (upd (σ.2.1 98) i.toNatClampNeg (vp_nar .boolean x)), σ.2.2)); rw [← wsl_set hK]; exact hD, hS⟩ hl)
theorem V_last (C : Ck X G cc own nL d) {i : Int32} {x : Int64} (hin : inb i 2048 = true) (hd : decode cc pc = .ok (.lastore, 1)) (k : V X G nL cells slots (wrL σ i x) (pc + 1) lv rest) : V X G nL cells slots σ pc lv (.long x :: .int i :: .ref (ga G 101) :: rest) := fun H locs ls hH hl =>
  have hK : 101 < 110 + σ.1 := Nat.lt_of_lt_of_le (Nat.le_of_ble_eq_true rfl) (Nat.le_add_right 110 σ.1)
  va_last C.1 C.2.1 C.2.2.2.2.2.1.1 hH.1 hH.2.1 hH.2.2 101 1 (wsl_at hK) rfl (inb_in hin) hd (fun H1 locs1 hP hD hS => k H1 locs1 ls ⟨by show va_P _ _ (wsl G (σ.1, σ.2.1, vp_updL σ.2.2 i.toNatClampNeg x)) _; rw [← wsl_setL]; exact hP, by show va_D _ (wsl G (σ.1, σ.2.1, vp_updL σ.2.2 i.toNatClampNeg x)); rw [← wsl_setL]; exact hD, hS⟩ hl)
/-! answers -/
theorem V_ends {o : Option Value} {H : Heap} {locs : List Loc} (hH : Hd G σ (xs X).heap H locs) : ∀ t : State, t.heap = H → (xs X).WarmedH t.vm → (fun (_ : Array Value) (st : State) (oc : Outcome) (t : State) => oc = .returned o ∧ Wq G σ st t) (xa X) (xs X) (.returned o) t := fun t ht _ => ⟨rfl, by rw [ht]; exact hH.1, hH.2.1, hH.2.2.F ht⟩
theorem V_iret (C : Ck X G cc own nL d) {r : Int32} (hR : Rt X G (some .int) (some (.int r)) σ) (hd : decode cc pc = .ok (.ireturn, 1)) : V X G nL 0 0 σ pc lv [.int r] := fun H locs ls hH hl => by
  rw [hR.2]
  exact W.iret (v := r) C.1 C.2.1 hR.1 (V_ends hH) hH.2.2.2.2 hd C.2.2.2.2.2.2.2.1
theorem V_zret (C : Ck X G cc own nL d) {r : Int32} {ty : FieldType} (hn : narrow ty (.int r) = .int r) (hR : Rt X G (some ty) (some (.int r)) σ) (hd : decode cc pc = .ok (.ireturn, 1)) : V X G nL 0 0 σ pc lv [.int r] := fun H locs ls hH hl => by
  rw [hR.2]
  exact W.zret (v := r) C.1 C.2.1 hR.1 hn (V_ends hH) hH.2.2.2.2 hd C.2.2.2.2.2.2.2.1
theorem V_lret (C : Ck X G cc own nL d) {r : Int64} (hR : Rt X G (some .long) (some (.long r)) σ) (hd : decode cc pc = .ok (.lreturn, 1)) : V X G nL 0 0 σ pc lv [.long r] := fun H locs ls hH hl => by
  rw [hR.2]
  exact W.lret (v := r) C.1 C.2.1 hR.1 (V_ends hH) hH.2.2.2.2 hd C.2.2.2.2.2.2.2.1
theorem V_vret (C : Ck X G cc own nL d) (hR : Rt X G none none σ) (hd : decode cc pc = .ok (.return_, 1)) : V X G nL 0 0 σ pc lv [] := fun H locs ls hH hl => by
  rw [hR.2]
  exact W.vret C.1 C.2.1 hR.1 (V_ends hH) hH.2.2.2.2 hd C.2.2.2.2.2.2.2.1
/-! calls -/
theorem Wp_blind {vals : List Value} : FrameBlind (va_Pc vals (Wp G σ)) := fun a U g mk q => ⟨q.1, q.2.1, q.2.2.1, q.2.2.2.1, Kx.same (u := U) (U := U.calling g mk a) rfl rfl q.2.2.2.2⟩
theorem Wp_pre {vals : List Value} {H : Heap} {locs : List Loc} (C : Ck X G cc own nL d) (hH : Hd G σ (xs X).heap H locs) : ∀ U : State, U.heap = H → (xs X).WarmedH U.vm → va_Pc vals (Wp G σ) vals.toArray U := fun U hU hW => ⟨rfl, by rw [hU]; exact Nat.le_trans C.2.2.2.2.2.2.1 hH.2.2.1, by rw [hU]; exact hH.1, hH.2.1, Kx.warm hW (by rw [hU]; exact hH.2.2.2.1) C.2.2.2.2.2.1⟩
theorem V_ran {o : Option Value} {σ0 : St} {st0 : List Value} {a : Array Value} (k : V X G nL cells slots σ0 (pc + 3) lv (o.toList ++ rest)) {H : Heap} {locs : List Loc} {ls : Array Slot} (hH : Hd G σ (xs X).heap H locs) (hl : lv_has ls nL lv)
    (hr : va_Run X.1 X.2.1 X.2.2.1 (xR X) (xs X) (xm X) (xa X) (xb X) (xM X) (xc X) H locs cells slots 0 0 (F0 (xm X) pc ls st0) rest ((fun (_ : Array Value) (st : State) (oc : Outcome) (t : State) => oc = .returned o ∧ Wq G σ0 st t) a) (gA G)) :
    W X.1 X.2.1 X.2.2.1 (xR X) (xs X) (xm X) (xa X) (xb X) (xM X) (xc X) H locs cells slots X.2.2.2.2.2.2.2.2.2.2 (F0 (xm X) pc ls st0) := by
  intro T hT Y
  obtain ⟨v, st₀, t, T', L, h0, Y', hL, e1, e2, ⟨hv, hP1, hD1, hz, hk⟩, st⟩ := hr T hT Y
  cases hv
  rw [h0] at hz hk
  have hS := hH.2.2
  obtain ⟨t2, a1, b1⟩ := k T'.heap (locs ++ L) ls ⟨by rw [e1]; exact hP1, hD1, ⟨Nat.le_trans hS.1 (by rw [e1]; exact hz), fun q h1 h2 => by rw [e1, hk q (Nat.lt_of_lt_of_le h1 hS.1) h2]; exact hS.2.1 q h1 h2, fun q hq => by
      rcases List.mem_append.mp hq with h | h
      · exact hS.2.2 q h
      · exact hL q h⟩⟩ hl T' rfl Y'
  exact ⟨t2, st t2 a1, b1⟩
/-- what is known of a method by the tables, ahead of any call -/
def Cal (y : MethodName) (bytes : ByteArray) (maxL : Nat) (ret : Option FieldType) (n : Nat) : Prop := Cond.code y bytes maxL ret ∈ gtb ∧ Cond.initialized y.cls ∈ gtb ∧ (y.cls ≠ "java/lang/invoke/MethodHandle" ∧ y.cls ≠ "java/lang/invoke/VarHandle" ∧ (parseMethodDescriptor y.desc).map (fun d => d.parameters.length) = some n) ∧ maxL ≤ 21
theorem callB_v (C : Ck X G cc own nL d) {y : MethodName} {bytes : ByteArray} {maxL n idx d1 : Nat} {ret : Option FieldType} (hc : Cal y bytes maxL ret n) (hl : Cond.methodLink own idx y ∈ gtb) (hdd : d1 + 1 ≤ d) : CallB (xR X) (xs X) (xa X) own idx y bytes maxL ret (.code y bytes maxL ret :: gtb) (rmD d1 0 0) 0 0 n :=
  callB_of n C.2.2.2.2.1 (gtb_code hc.1) rfl rfl rfl (C.2.2.2.2.1 _ hc.2.1) (C.2.2.2.2.1 _ hl) hc.2.2.1 ⟨Nat.le_trans hdd C.2.2.2.2.2.2.2.2.1, by
    have h1 := hc.2.2.2
    have h2 := C.2.2.2.2.2.2.2.2.2
    show 8 + (maxL + 11) + 40 * d1 ≤ _
    omega⟩
theorem V_callV (C : Ck X G cc own nL d) {y : MethodName} {Cn : String} {bytes : ByteArray} {maxL n idx d1 K ci N : Nat} {T : u_T} {fs : List Value} {ret : Option FieldType} {As : List Value} {o : Option Value} {σ0 : St} {st0 : List Value} (hM : MI X.2.1 G y bytes maxL ret d1 (.ref (ga G K) :: As) σ o σ0) (hc : Cal y bytes maxL ret n) (hi : Cond.instanceMethod y ∈ gtb) (hs : Cond.selects Cn y y ∈ gtb) (hlk : Cond.methodLink own idx y ∈ gtb) (hn : As.length = n) (hdd : d1 + 1 ≤ d) (hK : K < 110 + σ.1) (hlay : lay G K (σ.2.1 K) σ.2.2 = .inr (ci, fs)) (hcl : vwCl[ci]? = some (Cn, T, N)) (hst : st0 = As.reverse ++ .ref (ga G K) :: rest) (hroom : (rest.map fun v => v.category).sum ≤ 8) (hcs : cells ≤ (xR X).cells ∧ slots ≤ (xR X).slots) (hd : decode cc pc = .ok (.invokevirtual idx, 3)) (k : V X G nL cells slots σ0 (pc + 3) lv (o.toList ++ rest)) : V X G nL cells slots σ pc lv st0 := fun H locs ls hH hl => by
  refine V_ran (a := #[]) k hH hl (va_runV (As := As) (C := Cn) (b := ga G K) (bytes := bytes) (maxL := maxL) (ret := ret) (n := n) ⟨C.1, C.2.1, C.2.2.1, C.2.2.2.1, C.2.2.2.2.1⟩ hM ⟨callB_v C hc hlk hdd, C.2.2.2.2.1 _ hi, C.2.2.2.2.1 _ hs⟩ ⟨Wp_blind, va_recv C.2.2.2.2.2.1.1 hH.1 (ci := ci) (q0 := K) hcl ((wsl_at hK).trans (by rw [hlay])), Wp_pre C hH⟩ rfl hn hl.1 hst (lv_room hroom) hd hcs)
theorem V_callS (C : Ck X G cc own nL d) {y : MethodName} {bytes : ByteArray} {maxL n idx d1 : Nat} {ret : Option FieldType} {As : List Value} {o : Option Value} {σ0 : St} {st0 : List Value} (hM : MI X.2.1 G y bytes maxL ret d1 As σ o σ0) (hc : Cal y bytes maxL ret n) (hi : Cond.static y ∈ gtb) (hlk : Cond.methodLink own idx y ∈ gtb) (hn : As.length = n) (hdd : d1 + 1 ≤ d) (hst : st0 = As.reverse ++ rest) (hroom : (rest.map fun v => v.category).sum ≤ 8) (hcs : cells ≤ (xR X).cells ∧ slots ≤ (xR X).slots) (hd : decode cc pc = .ok (.invokestatic idx, 3)) (k : V X G nL cells slots σ0 (pc + 3) lv (o.toList ++ rest)) : V X G nL cells slots σ pc lv st0 := fun H locs ls hH hl => by
  refine V_ran (a := #[]) k hH hl (va_runS (As := As) (bytes := bytes) (maxL := maxL) (ret := ret) (n := n) ⟨C.1, C.2.1, C.2.2.1, C.2.2.2.1, C.2.2.2.2.1⟩ hM ⟨callB_v C hc hlk hdd, C.2.2.2.2.1 _ hi⟩ ⟨Wp_blind, Wp_pre C hH⟩ rfl hn hl.1 hst (lv_room hroom) hd hcs)
/-- Play's own call of the outer class's private isWithin -/
theorem V_callN (C : Ck X G cc RX4 nL d) {bytes : ByteArray} {maxL n d1 : Nat} {ret : Option FieldType} {As : List Value} {o : Option Value} {σ0 : St} {st0 : List Value} (hM : MI X.2.1 G yX11_isWithin bytes maxL ret d1 As σ o σ0) (hc : Cal yX11_isWithin bytes maxL ret n) (hi : Cond.static yX11_isWithin ∈ gtb) (hn : As.length = n) (hdd : d1 + 1 ≤ d) (hst : st0 = As.reverse ++ rest) (hroom : (rest.map fun v => v.category).sum ≤ 8) (hcs : cells ≤ (xR X).cells ∧ slots ≤ (xR X).slots) (hd : decode cc pc = .ok (.invokestatic 81, 3)) (k : V X G nL cells slots σ0 (pc + 3) lv (o.toList ++ rest)) : V X G nL cells slots σ pc lv st0 := fun H locs ls hH hl => by
  refine V_ran (a := #[]) k hH hl (va_runSN (As := As) (bytes := bytes) (maxL := maxL) (ret := ret) (n := n) (host := RX11) ⟨C.1, C.2.1, C.2.2.1, C.2.2.2.1, C.2.2.2.2.1⟩ hM ⟨va_cnB n C.2.2.2.2.1 (gtb_code hc.1) rfl rfl rfl C.2.2.2.2.2.1.2.1 (C.2.2.2.2.1 _ hc.2.1) hc.2.2.1 ⟨Nat.le_trans hdd C.2.2.2.2.2.2.2.2.1, by
    have h1 := hc.2.2.2
    have h2 := C.2.2.2.2.2.2.2.2.2
    show 8 + (maxL + 11) + 40 * d1 ≤ _
    omega⟩, C.2.2.2.2.1 _ hi, trivial⟩ ⟨Wp_blind, Wp_pre C hH⟩ rfl hn hl.1 hst (lv_room hroom) hd hcs)
theorem V_max (C : Ck X G cc own nL d) {idx : Nat} {x y : Int32} (hlk : Cond.methodLink own idx Lib.Math.max.name ∈ gtb) (hw : Cond.static Lib.Math.max.name ∈ gtb ∧ Cond.initialized "java/lang/Math" ∈ gtb ∧ Cond.code Lib.Math.max.name Lib.Math.max.code 2 (some .int) ∈ gtb) (hdd : 1 ≤ d) (hroom : (rest.map fun v => v.category).sum ≤ 8) (hcs : cells ≤ (xR X).cells ∧ slots ≤ (xR X).slots) (hd : decode cc pc = .ok (.invokestatic idx, 3)) (k : V X G nL cells slots σ (pc + 3) lv (.int (if x < y then y else x) :: rest)) : V X G nL cells slots σ pc lv (.int y :: .int x :: rest) := fun H locs ls hH hl =>
  va_mmax C.1 C.2.1 (C.2.2.1.trans hl.1.symm) C.2.2.2.1 (C.2.2.2.2.1 _ hlk) (C.2.2.2.2.1 _ hw.1) (C.2.2.2.2.1 _ hw.2.1) (C.2.2.2.2.1 _ hw.2.2) (Nat.le_trans hdd C.2.2.2.2.2.2.2.2.1) (by have := C.2.2.2.2.2.2.2.2.2; omega) hcs.1 hcs.2 hd (k H locs ls hH hl)
theorem V_min (C : Ck X G cc own nL d) {idx : Nat} {x y : Int32} (hlk : Cond.methodLink own idx Lib.Math.min.name ∈ gtb) (hw : Cond.static Lib.Math.min.name ∈ gtb ∧ Cond.initialized "java/lang/Math" ∈ gtb ∧ Cond.code Lib.Math.min.name Lib.Math.min.code 2 (some .int) ∈ gtb) (hdd : 1 ≤ d) (hroom : (rest.map fun v => v.category).sum ≤ 8) (hcs : cells ≤ (xR X).cells ∧ slots ≤ (xR X).slots) (hd : decode cc pc = .ok (.invokestatic idx, 3)) (k : V X G nL cells slots σ (pc + 3) lv (.int (if y < x then y else x) :: rest)) : V X G nL cells slots σ pc lv (.int y :: .int x :: rest) := fun H locs ls hH hl =>
  va_mmin C.1 C.2.1 (C.2.2.1.trans hl.1.symm) C.2.2.2.1 (C.2.2.2.2.1 _ hlk) (C.2.2.2.2.1 _ hw.1) (C.2.2.2.2.1 _ hw.2.1) (C.2.2.2.2.1 _ hw.2.2) (Nat.le_trans hdd C.2.2.2.2.2.2.2.2.1) (by have := C.2.2.2.2.2.2.2.2.2; omega) hcs.1 hcs.2 hd (k H locs ls hH hl)
theorem V_abs (C : Ck X G cc own nL d) {idx : Nat} {x : Int32} (hlk : Cond.methodLink own idx Lib.Math.abs.name ∈ gtb) (hw : Cond.static Lib.Math.abs.name ∈ gtb ∧ Cond.initialized "java/lang/Math" ∈ gtb ∧ Cond.code Lib.Math.abs.name Lib.Math.abs.code 1 (some .int) ∈ gtb) (hdd : 1 ≤ d) (hroom : (rest.map fun v => v.category).sum ≤ 8) (hcs : cells ≤ (xR X).cells ∧ slots ≤ (xR X).slots) (hd : decode cc pc = .ok (.invokestatic idx, 3)) (k : V X G nL cells slots σ (pc + 3) lv (.int (if 0 ≤ x then x else 0 - x) :: rest)) : V X G nL cells slots σ pc lv (.int x :: rest) := fun H locs ls hH hl =>
  va_mabs C.1 C.2.1 (C.2.2.1.trans hl.1.symm) C.2.2.2.1 (C.2.2.2.2.1 _ hlk) (C.2.2.2.2.1 _ hw.1) (C.2.2.2.2.1 _ hw.2.1) (C.2.2.2.2.1 _ hw.2.2) (Nat.le_trans hdd C.2.2.2.2.2.2.2.2.1) (by have := C.2.2.2.2.2.2.2.2.2; omega) hcs.1 hcs.2 hd (k H locs ls hH hl)
def cpok (sp dp n : Int32) (n0 n1 : Nat) : Bool := decide (0 ≤ sp.toInt ∧ 0 ≤ dp.toInt ∧ 0 ≤ n.toInt ∧ sp.toInt + n.toInt ≤ n0 ∧ dp.toInt + n.toInt ≤ n1)
theorem nn_of {z : Int32} (h : 0 ≤ z.toInt) : ¬ z < 0 ∧ z.toInt = (z.toNatClampNeg : Int) := ⟨fun q => by have := Int32.lt_iff_toInt_lt.mp q; simp at this; omega, by show z.toInt = ((z.toInt.toNat : Nat) : Int); omega⟩
theorem V_copy (C : Ck X G cc own nL d) {idx K0 K1 n0 n1 : Nat} {sp dp n : Int32} (hlk : Cond.methodLink own idx arraycopyName ∈ gtb) (hw : Cond.native arraycopyName ∈ gtb ∧ Cond.static arraycopyName ∈ gtb ∧ Cond.initialized "java/lang/System" ∈ gtb) (hK0 : K0 < 110 + σ.1) (hK1 : K1 < 110 + σ.1) (hlay0 : lay G K0 (σ.2.1 K0) σ.2.2 = .inl (gc G 0, n0, .inl (σ.2.1 K0))) (hlay1 : ∀ f, lay G K1 f σ.2.2 = .inl (gc G 0, n1, .inl f)) (hok : cpok sp dp n n0 n1 = true) (hdd : 1 ≤ d) (hroom : (rest.map fun v => v.category).sum ≤ 8) (hd : decode cc pc = .ok (.invokestatic idx, 3)) (k : V X G nL cells slots (cpy σ K0 sp K1 dp n) (pc + 3) lv rest) : V X G nL cells slots σ pc lv (.int n :: .int dp :: .ref (ga G K1) :: .int sp :: .ref (ga G K0) :: rest) := fun H locs ls hH hl => by
  obtain ⟨h1, h2, h3, h4, h5⟩ := of_decide_eq_true hok
  obtain ⟨a1, b1⟩ := nn_of h1
  obtain ⟨a2, b2⟩ := nn_of h2
  obtain ⟨a3, b3⟩ := nn_of h3
  refine va_copyi (ty := .int) C.1 C.2.1 (C.2.2.1.trans hl.1.symm) C.2.2.2.1 (C.2.2.2.2.1 _ hlk) (C.2.2.2.2.1 _ hw.1) (C.2.2.2.2.1 _ hw.2.1) (C.2.2.2.2.1 _ hw.2.2) C.2.2.2.2.2.1.1 hH.1 hH.2.1 hH.2.2 K0 K1 0 0 ((wsl_at hK0).trans (by rw [hlay0])) ((wsl_at hK1).trans (by rw [hlay1])) rfl rfl rfl a1 a2 a3 (by omega) (by omega) (fun i _ => rfl) (Nat.le_trans hdd C.2.2.2.2.2.2.2.2.1) (Nat.le_trans (Nat.add_le_add hroom (Nat.le_refl _)) (Nat.le_trans (show 8 + (nativeFrameWords "java/lang/System" "arraycopy" 5 + 11) ≤ 40 * 1 by decide +kernel) (by have := C.2.2.2.2.2.2.2.2.2; omega))) hd (fun H1 locs1 hP hD hS => k H1 locs1 ls ⟨?_, ?_, hS⟩ hl)
  · show va_P _ _ (wsl G (σ.1, va_up σ.2.1 K1 (va_cpy (σ.2.1 K0) (σ.2.1 K1) sp.toNatClampNeg dp.toNatClampNeg n.toNatClampNeg), σ.2.2)) _
    rw [← wsl_set hK1, hlay1]; exact hP
  · show va_D _ (wsl G (σ.1, va_up σ.2.1 K1 (va_cpy (σ.2.1 K0) (σ.2.1 K1) sp.toNatClampNeg dp.toNatClampNeg n.toNatClampNeg), σ.2.2))
    rw [← wsl_set hK1, hlay1]; exact hD
end VV
end
