theorem ww_838 : Cond.classLink RX6 27 RX9 ∈ gtb := mg2 (i := 191) rfl rfl
theorem ww_839 : Cond.classLink RX6 29 RX2 ∈ gtb := mg2 (i := 192) rfl rfl
theorem ww_840 : Cond.classLink RX6 31 RX3 ∈ gtb := mg2 (i := 193) rfl rfl
theorem ww_841 : Cond.classLink RX6 33 RX1 ∈ gtb := mg2 (i := 194) rfl rfl
theorem ww_842 : Cond.classLink RX6 35 RX0 ∈ gtb := mg2 (i := 195) rfl rfl
theorem ww_843 : Cond.code yX6_isOf cX6_isOf 2 (some .boolean) ∈ gtb := mg2 (i := 190) rfl rfl
theorem ww_844 : Cond.initialized RX6 ∈ gtb := mg1 (i := 9) rfl rfl
theorem ww_845 : Cond.methodLink RX6 37 yX7_add ∈ gtb := mg5 (i := 5) rfl rfl
theorem ww_846 : Cond.fieldLink RX6 9 "FivePlayers$Role" "number" "I" ∈ gtb := mg2 (i := 84) rfl rfl
theorem ww_847 : Cond.code yX6_speak cX6_speak 3 (some .int) ∈ gtb := mg5 (i := 4) rfl rfl
theorem ww_848 : Cond.methodLink RX2 7 yX7_add ∈ gtb := mg4 (i := 239) rfl rfl
theorem ww_849 : Cond.code yX2_speak cX2_speak 3 (some .int) ∈ gtb := mg4 (i := 238) rfl rfl
theorem ww_850 : Cond.initialized RX2 ∈ gtb := mg1 (i := 11) rfl rfl
theorem ww_851 : Cond.methodLink RX2 13 yX6_speak ∈ gtb := mg5 (i := 0) rfl rfl
theorem ww_852 : Cond.sameMethod RX6 RX6 "speak" "(ILFivePlayers$Row;)I" ∈ gtb := mg4 (i := 228) rfl rfl
theorem ww_853 : Cond.instanceMethod yX6_speak ∈ gtb := mg4 (i := 226) rfl rfl
theorem ww_854 : Cond.superclass RX2 RX6 ∈ gtb := mg2 (i := 122) rfl rfl
theorem ww_855 : Cond.methodLink RX0 7 yX7_add ∈ gtb := mg4 (i := 232) rfl rfl
theorem ww_856 : Cond.code yX0_speak cX0_speak 3 (some .int) ∈ gtb := mg4 (i := 231) rfl rfl
theorem ww_857 : Cond.initialized RX0 ∈ gtb := mg1 (i := 14) rfl rfl
theorem ww_858 : Cond.methodLink RX0 13 ⟨RX9, "speak", "(ILFivePlayers$Row;)I"⟩ ∈ gtb := mg4 (i := 233) rfl rfl
theorem ww_859 : Cond.sameMethod RX9 RX6 "speak" "(ILFivePlayers$Row;)I" ∈ gtb := mg4 (i := 234) rfl rfl
theorem ww_860 : Cond.superclass RX9 RX6 ∈ gtb := mg2 (i := 110) rfl rfl
theorem ww_861 : Cond.superclass RX0 RX9 ∈ gtb := mg2 (i := 158) rfl rfl
theorem ww_862 : Cond.fieldLink RX6 24 "FivePlayers$Role" "wig" "I" ∈ gtb := mg2 (i := 95) rfl rfl
theorem ww_863 : Cond.code yX6_die cX6_die 3 (some .int) ∈ gtb := mg5 (i := 28) rfl rfl
theorem ww_864 : Cond.methodLink RX3 7 yX7_add ∈ gtb := mg5 (i := 25) rfl rfl
theorem ww_865 : Cond.code yX3_die cX3_die 3 (some .int) ∈ gtb := mg5 (i := 24) rfl rfl
theorem ww_866 : Cond.initialized RX3 ∈ gtb := mg1 (i := 12) rfl rfl
theorem ww_867 : Cond.methodLink RX3 13 ⟨RX9, "die", "(ILFivePlayers$Row;)I"⟩ ∈ gtb := mg5 (i := 26) rfl rfl
theorem ww_868 : Cond.sameMethod RX9 RX6 "die" "(ILFivePlayers$Row;)I" ∈ gtb := mg5 (i := 19) rfl rfl
theorem ww_869 : Cond.instanceMethod yX6_die ∈ gtb := mg5 (i := 27) rfl rfl
theorem ww_870 : Cond.superclass RX3 RX9 ∈ gtb := mg2 (i := 134) rfl rfl
theorem ww_871 : Cond.code yX6_walk cX6_walk 3 (some .int) ∈ gtb := mg5 (i := 38) rfl rfl
theorem ww_872 : Cond.methodLink RX6 43 yX6_speak ∈ gtb := mg5 (i := 39) rfl rfl
theorem ww_873 : Cond.instanceMethod yX0_speak ∈ gtb := mg4 (i := 230) rfl rfl
theorem ww_874 : Cond.selects RX0 yX6_speak yX0_speak ∈ gtb := mg4 (i := 229) rfl rfl
theorem ww_875 : Cond.instanceMethod yX2_speak ∈ gtb := mg4 (i := 237) rfl rfl
theorem ww_876 : Cond.selects RX1 yX6_speak yX2_speak ∈ gtb := mg4 (i := 236) rfl rfl
theorem ww_877 : Cond.selects RX2 yX6_speak yX2_speak ∈ gtb := mg5 (i := 1) rfl rfl
theorem ww_878 : Cond.selects RX3 yX6_speak yX6_speak ∈ gtb := mg5 (i := 2) rfl rfl
theorem ww_879 : Cond.selects RX6 yX6_speak yX6_speak ∈ gtb := mg4 (i := 227) rfl rfl
theorem ww_880 : Cond.selects RX9 yX6_speak yX6_speak ∈ gtb := mg5 (i := 3) rfl rfl
theorem ww_881 : Cond.methodLink RX9 7 yX7_add ∈ gtb := mg5 (i := 16) rfl rfl
theorem ww_882 : Cond.code yX9_walk cX9_walk 3 (some .int) ∈ gtb := mg5 (i := 15) rfl rfl
theorem ww_883 : Cond.initialized RX9 ∈ gtb := mg1 (i := 10) rfl rfl
theorem ww_884 : Cond.methodLink RX9 13 yX6_walk ∈ gtb := mg5 (i := 17) rfl rfl
theorem ww_885 : Cond.sameMethod RX6 RX6 "walk" "(ILFivePlayers$Row;)I" ∈ gtb := mg5 (i := 9) rfl rfl
theorem ww_886 : Cond.instanceMethod yX6_walk ∈ gtb := mg5 (i := 7) rfl rfl
theorem ww_887 : Cond.methodLink RX9 17 ⟨RX9, "die", "(ILFivePlayers$Row;)I"⟩ ∈ gtb := mg5 (i := 18) rfl rfl
theorem ww_888 : Cond.selects RX0 ⟨RX9, "die", "(ILFivePlayers$Row;)I"⟩ yX6_die ∈ gtb := mg5 (i := 21) rfl rfl
theorem ww_889 : Cond.instanceMethod yX3_die ∈ gtb := mg5 (i := 23) rfl rfl
theorem ww_890 : Cond.selects RX3 ⟨RX9, "die", "(ILFivePlayers$Row;)I"⟩ yX3_die ∈ gtb := mg5 (i := 22) rfl rfl
theorem ww_891 : Cond.selects RX9 ⟨RX9, "die", "(ILFivePlayers$Row;)I"⟩ yX6_die ∈ gtb := mg5 (i := 29) rfl rfl
theorem ww_892 : Cond.sameField "FivePlayers$Off" "FivePlayers$Role" "wig" "I" ∈ gtb := mg2 (i := 97) rfl rfl
theorem ww_893 : Cond.fieldLink RX3 17 "FivePlayers$Off" "wig" "I" ∈ gtb := mg2 (i := 96) rfl rfl
theorem ww_894 : Cond.code yX3_walk cX3_walk 3 (some .int) ∈ gtb := mg5 (i := 35) rfl rfl
theorem ww_895 : Cond.methodLink RX3 23 yX9_walk ∈ gtb := mg5 (i := 36) rfl rfl
theorem ww_896 : Cond.sameMethod RX9 RX9 "walk" "(ILFivePlayers$Row;)I" ∈ gtb := mg7 (i := 179) rfl rfl
theorem ww_897 : Cond.instanceMethod yX9_walk ∈ gtb := mg5 (i := 14) rfl rfl
theorem ww_898 : Cond.code yX0_walk cX0_walk 3 (some .int) ∈ gtb := mg5 (i := 12) rfl rfl
theorem ww_899 : Cond.methodLink RX0 17 yX9_walk ∈ gtb := mg5 (i := 13) rfl rfl
theorem ww_900 : Cond.methodLink RX0 20 yX0_speak ∈ gtb := mg5 (i := 30) rfl rfl
theorem ww_901 : Cond.selects RX0 yX0_speak yX0_speak ∈ gtb := mg7 (i := 180) rfl rfl
theorem ww_902 : Cond.code yX6_bow cX6_bow 3 (some .int) ∈ gtb := mg5 (i := 60) rfl rfl
theorem ww_903 : Cond.methodLink RX6 47 yX6_walk ∈ gtb := mg5 (i := 61) rfl rfl
theorem ww_904 : Cond.instanceMethod yX0_walk ∈ gtb := mg5 (i := 11) rfl rfl
theorem ww_905 : Cond.selects RX0 yX6_walk yX0_walk ∈ gtb := mg5 (i := 10) rfl rfl
theorem ww_906 : Cond.selects RX1 yX6_walk yX6_walk ∈ gtb := mg5 (i := 31) rfl rfl
theorem ww_907 : Cond.selects RX2 yX6_walk yX6_walk ∈ gtb := mg5 (i := 32) rfl rfl
theorem ww_908 : Cond.instanceMethod yX3_walk ∈ gtb := mg5 (i := 34) rfl rfl
theorem ww_909 : Cond.selects RX3 yX6_walk yX3_walk ∈ gtb := mg5 (i := 33) rfl rfl
theorem ww_910 : Cond.selects RX6 yX6_walk yX6_walk ∈ gtb := mg5 (i := 8) rfl rfl
theorem ww_911 : Cond.selects RX9 yX6_walk yX9_walk ∈ gtb := mg5 (i := 37) rfl rfl
theorem ww_912 : Cond.methodLink RX6 50 yX6_die ∈ gtb := mg5 (i := 62) rfl rfl
theorem ww_913 : Cond.sameMethod RX6 RX6 "die" "(ILFivePlayers$Row;)I" ∈ gtb := mg7 (i := 181) rfl rfl
theorem ww_914 : Cond.selects RX0 yX6_die yX6_die ∈ gtb := mg7 (i := 182) rfl rfl
theorem ww_915 : Cond.selects RX1 yX6_die yX6_die ∈ gtb := mg7 (i := 183) rfl rfl
theorem ww_916 : Cond.selects RX2 yX6_die yX6_die ∈ gtb := mg7 (i := 184) rfl rfl
theorem ww_917 : Cond.selects RX3 yX6_die yX3_die ∈ gtb := mg7 (i := 185) rfl rfl
theorem ww_918 : Cond.selects RX6 yX6_die yX6_die ∈ gtb := mg7 (i := 186) rfl rfl
theorem ww_919 : Cond.selects RX9 yX6_die yX6_die ∈ gtb := mg7 (i := 187) rfl rfl
theorem ww_920 : Cond.code yX2_bow cX2_bow 3 (some .int) ∈ gtb := mg5 (i := 55) rfl rfl
theorem ww_921 : Cond.methodLink RX2 17 yX6_bow ∈ gtb := mg5 (i := 56) rfl rfl
theorem ww_922 : Cond.sameMethod RX6 RX6 "bow" "(ILFivePlayers$Row;)I" ∈ gtb := mg5 (i := 44) rfl rfl
theorem ww_923 : Cond.instanceMethod yX6_bow ∈ gtb := mg5 (i := 42) rfl rfl
theorem ww_924 : Cond.methodLink RX1 7 yX7_add ∈ gtb := mg5 (i := 49) rfl rfl
theorem ww_925 : Cond.code yX1_bow cX1_bow 3 (some .int) ∈ gtb := mg5 (i := 48) rfl rfl
theorem ww_926 : Cond.initialized RX1 ∈ gtb := mg1 (i := 13) rfl rfl
theorem ww_927 : Cond.methodLink RX1 13 ⟨RX1, "die", "(ILFivePlayers$Row;)I"⟩ ∈ gtb := mg5 (i := 50) rfl rfl
theorem ww_928 : Cond.sameMethod RX1 RX6 "die" "(ILFivePlayers$Row;)I" ∈ gtb := mg5 (i := 51) rfl rfl
theorem ww_929 : Cond.selects RX1 ⟨RX1, "die", "(ILFivePlayers$Row;)I"⟩ yX6_die ∈ gtb := mg5 (i := 52) rfl rfl
theorem ww_930 : Cond.methodLink RX1 19 yX2_bow ∈ gtb := mg5 (i := 53) rfl rfl
theorem ww_931 : Cond.sameMethod RX2 RX2 "bow" "(ILFivePlayers$Row;)I" ∈ gtb := mg7 (i := 188) rfl rfl
theorem ww_932 : Cond.instanceMethod yX2_bow ∈ gtb := mg5 (i := 54) rfl rfl
theorem ww_933 : Cond.superclass RX1 RX2 ∈ gtb := mg2 (i := 146) rfl rfl
theorem ww_934 : Cond.code yX11_voice cX11_voice 5 (some .int) ∈ gtb := mg4 (i := 224) rfl rfl
theorem ww_935 : Cond.instanceMethod yX11_voice ∈ gtb := mg4 (i := 222) rfl rfl
theorem ww_936 : Cond.selects RX11 yX11_voice yX11_voice ∈ gtb := mg4 (i := 223) rfl rfl
theorem ww_937 : Cond.methodLink RX11 309 yX6_speak ∈ gtb := mg4 (i := 225) rfl rfl
theorem ww_938 : Cond.methodLink RX11 313 yX6_walk ∈ gtb := mg5 (i := 6) rfl rfl
theorem ww_939 : Cond.methodLink RX11 316 yX6_die ∈ gtb := mg5 (i := 40) rfl rfl
theorem ww_940 : Cond.methodLink RX11 319 yX6_bow ∈ gtb := mg5 (i := 41) rfl rfl
theorem ww_941 : Cond.selects RX0 yX6_bow yX6_bow ∈ gtb := mg5 (i := 45) rfl rfl
theorem ww_942 : Cond.instanceMethod yX1_bow ∈ gtb := mg5 (i := 47) rfl rfl
theorem ww_943 : Cond.selects RX1 yX6_bow yX1_bow ∈ gtb := mg5 (i := 46) rfl rfl
theorem ww_944 : Cond.selects RX2 yX6_bow yX2_bow ∈ gtb := mg5 (i := 57) rfl rfl
theorem ww_945 : Cond.selects RX3 yX6_bow yX6_bow ∈ gtb := mg5 (i := 58) rfl rfl
theorem ww_946 : Cond.selects RX6 yX6_bow yX6_bow ∈ gtb := mg5 (i := 43) rfl rfl
theorem ww_947 : Cond.selects RX9 yX6_bow yX6_bow ∈ gtb := mg5 (i := 59) rfl rfl
theorem ww_948 : Cond.methodLink RX10 116 yX10_isOff ∈ gtb := mg3 (i := 236) rfl rfl
theorem ww_949 : Cond.code yX10_areApart cX10_areApart 3 (some .boolean) ∈ gtb := mg3 (i := 235) rfl rfl
theorem ww_950 : Cond.instanceMethod yX10_areApart ∈ gtb := mg3 (i := 234) rfl rfl
theorem ww_951 : Cond.selects RX10 yX10_areApart yX10_areApart ∈ gtb := mg0 (i := 12) rfl rfl
theorem ww_952 : Cond.methodLink RX10 126 yX6_isOf ∈ gtb := mg4 (i := 0) rfl rfl
theorem ww_953 : Cond.sameMethod RX6 RX6 "isOf" "(I)Z" ∈ gtb := mg2 (i := 184) rfl rfl
theorem ww_954 : Cond.instanceMethod yX6_isOf ∈ gtb := mg2 (i := 182) rfl rfl
theorem ww_955 : Cond.selects RX0 yX6_isOf yX6_isOf ∈ gtb := mg2 (i := 185) rfl rfl
theorem ww_956 : Cond.selects RX1 yX6_isOf yX6_isOf ∈ gtb := mg2 (i := 186) rfl rfl
theorem ww_957 : Cond.selects RX2 yX6_isOf yX6_isOf ∈ gtb := mg2 (i := 187) rfl rfl
theorem ww_958 : Cond.selects RX3 yX6_isOf yX6_isOf ∈ gtb := mg2 (i := 188) rfl rfl
theorem ww_959 : Cond.selects RX6 yX6_isOf yX6_isOf ∈ gtb := mg2 (i := 183) rfl rfl
theorem ww_960 : Cond.selects RX9 yX6_isOf yX6_isOf ∈ gtb := mg2 (i := 189) rfl rfl
theorem ww_961 : Cond.methodLink RX10 109 yX10_areApart ∈ gtb := mg3 (i := 232) rfl rfl
theorem ww_962 : Cond.methodLink RX10 113 yX10_meetingLine ∈ gtb := mg4 (i := 1) rfl rfl
theorem ww_963 : Cond.fieldLink RX10 28 "FivePlayers$Stage" "barLine" "I" ∈ gtb := mg1 (i := 153) rfl rfl
theorem ww_964 : Cond.methodLink RX10 120 yX10_nearLine ∈ gtb := mg4 (i := 8) rfl rfl
theorem ww_965 : Cond.code yX10_howBarred cX10_howBarred 3 (some .int) ∈ gtb := mg3 (i := 231) rfl rfl
theorem ww_966 : Cond.instanceMethod yX10_howBarred ∈ gtb := mg3 (i := 229) rfl rfl
theorem ww_967 : Cond.selects RX10 yX10_howBarred yX10_howBarred ∈ gtb := mg3 (i := 230) rfl rfl
theorem ww_968 : Cond.fieldLink RX10 159 "FivePlayers$Play" "parts" "I" ∈ gtb := mg1 (i := 66) rfl rfl
theorem ww_969 : Cond.fieldLink RX10 165 "FivePlayers$Play" "told" "[I" ∈ gtb := mg1 (i := 79) rfl rfl
theorem ww_970 : Cond.fieldLink RX10 25 "FivePlayers$Stage" "barOther" "I" ∈ gtb := mg1 (i := 151) rfl rfl
theorem ww_971 : Cond.methodLink RX10 162 yX10_howBarred ∈ gtb := mg4 (i := 53) rfl rfl
theorem ww_972 : Cond.code yX10_findBarAbove cX10_findBarAbove 5 (some .int) ∈ gtb := mg4 (i := 52) rfl rfl
theorem ww_973 : Cond.instanceMethod yX10_findBarAbove ∈ gtb := mg4 (i := 51) rfl rfl
theorem ww_974 : Cond.selects RX10 yX10_findBarAbove yX10_findBarAbove ∈ gtb := mg0 (i := 19) rfl rfl
theorem ww_975 : Cond.fieldLink RX10 21 "FivePlayers$Stage" "barPart" "I" ∈ gtb := mg1 (i := 149) rfl rfl
theorem ww_976 : Cond.methodLink RX10 168 yX10_isAble ∈ gtb := mg4 (i := 48) rfl rfl
theorem ww_977 : Cond.methodLink RX10 171 yX10_findBarAbove ∈ gtb := mg4 (i := 49) rfl rfl
theorem ww_978 : Cond.code yX10_findBar cX10_findBar 4 (some .int) ∈ gtb := mg4 (i := 47) rfl rfl
theorem ww_979 : Cond.instanceMethod yX10_findBar ∈ gtb := mg4 (i := 45) rfl rfl
theorem ww_980 : Cond.selects RX10 yX10_findBar yX10_findBar ∈ gtb := mg4 (i := 46) rfl rfl
theorem ww_981 : Cond.fieldLink RX10 18 "FivePlayers$Stage" "barred" "[I" ∈ gtb := mg1 (i := 147) rfl rfl
theorem ww_982 : Cond.methodLink RX10 153 yJ7_fill_53178 ∈ gtb := mg4 (i := 75) rfl rfl
theorem ww_983 : Cond.code yX10_findBarred cX10_findBarred 3 none ∈ gtb := mg4 (i := 74) rfl rfl
theorem ww_984 : Cond.instanceMethod yX10_findBarred ∈ gtb := mg4 (i := 72) rfl rfl
theorem ww_985 : Cond.selects RX10 yX10_findBarred yX10_findBarred ∈ gtb := mg4 (i := 73) rfl rfl
theorem ww_986 : Cond.code yX11_as cX11_as 3 (some .int) ∈ gtb := mg2 (i := 175) rfl rfl
theorem ww_987 : Cond.instanceMethod yX11_as ∈ gtb := mg2 (i := 173) rfl rfl
theorem ww_988 : Cond.selects RX11 yX11_as yX11_as ∈ gtb := mg2 (i := 174) rfl rfl
theorem ww_989 : Cond.methodLink RX11 102 yX6_isOf ∈ gtb := mg2 (i := 181) rfl rfl
theorem ww_990 : Cond.methodLink RX11 248 yX10_findBar ∈ gtb := mg4 (i := 44) rfl rfl
theorem ww_991 : Cond.fieldLink RX11 251 "FivePlayers$Stage" "barPart" "I" ∈ gtb := mg1 (i := 150) rfl rfl
theorem ww_992 : Cond.fieldLink RX11 254 "FivePlayers$Stage" "barOther" "I" ∈ gtb := mg1 (i := 152) rfl rfl
theorem ww_993 : Cond.fieldLink RX11 222 "FivePlayers$Stage" "barLine" "I" ∈ gtb := mg1 (i := 154) rfl rfl
theorem ww_994 : Cond.code yX11_bars cX11_bars 3 (some .int) ∈ gtb := mg4 (i := 43) rfl rfl
theorem ww_995 : Cond.instanceMethod yX11_bars ∈ gtb := mg4 (i := 41) rfl rfl
theorem ww_996 : Cond.selects RX11 yX11_bars yX11_bars ∈ gtb := mg4 (i := 42) rfl rfl
theorem ww_997 : Cond.methodLink RX11 219 yX10_howBarred ∈ gtb := mg3 (i := 228) rfl rfl
theorem ww_998 : Cond.code yX11_two cX11_two 5 (some .int) ∈ gtb := mg3 (i := 227) rfl rfl
theorem ww_999 : Cond.instanceMethod yX11_two ∈ gtb := mg3 (i := 225) rfl rfl
theorem ww_1000 : Cond.selects RX11 yX11_two yX11_two ∈ gtb := mg3 (i := 226) rfl rfl
theorem ww_1001 : Cond.fieldLink RX8 42 "FivePlayers$Solver" "sum" "I" ∈ gtb := mg1 (i := 192) rfl rfl
theorem ww_1002 : Cond.methodLink RX8 116 yX8_gather ∈ gtb := mg4 (i := 120) rfl rfl
theorem ww_1003 : Cond.methodLink RX8 59 yX10_findBarred ∈ gtb := mg4 (i := 71) rfl rfl
theorem ww_1004 : Cond.methodLink RX8 123 arraycopyName ∈ gtb := mg4 (i := 141) rfl rfl
theorem ww_1005 : Cond.methodLink RX8 129 yX8_addToTeam ∈ gtb := mg4 (i := 142) rfl rfl
theorem ww_1006 : Cond.methodLink RX8 133 yX8_dealOut ∈ gtb := mg4 (i := 157) rfl rfl
theorem ww_1007 : Cond.code yX8_findBest cX8_findBest 6 (some .boolean) ∈ gtb := mg4 (i := 115) rfl rfl
theorem ww_1008 : Cond.instanceMethod yX8_findBest ∈ gtb := mg4 (i := 113) rfl rfl
theorem ww_1009 : Cond.selects RX8 yX8_findBest yX8_findBest ∈ gtb := mg4 (i := 114) rfl rfl
theorem ww_1010 : Cond.methodLink RX11 272 yX4_isSet ∈ gtb := mg4 (i := 108) rfl rfl
theorem ww_1011 : Cond.fieldLink RX11 30 "FivePlayers" "solver" "LFivePlayers$Solver;" ∈ gtb := mg2 (i := 19) rfl rfl
theorem ww_1012 : Cond.methodLink RX11 275 yX8_findBest ∈ gtb := mg4 (i := 112) rfl rfl
theorem ww_1013 : Cond.fieldLink RX11 281 "FivePlayers$Solver" "playerOf" "[I" ∈ gtb := mg1 (i := 191) rfl rfl
theorem ww_1014 : Cond.fieldLink RX11 278 "FivePlayers$Solver" "sum" "I" ∈ gtb := mg1 (i := 193) rfl rfl
theorem ww_1015 : Cond.code yX11_best cX11_best 4 (some .int) ∈ gtb := mg4 (i := 107) rfl rfl
theorem ww_1016 : Cond.instanceMethod yX11_best ∈ gtb := mg4 (i := 105) rfl rfl
theorem ww_1017 : Cond.selects RX11 yX11_best yX11_best ∈ gtb := mg4 (i := 106) rfl rfl
theorem ww_1018 : Cond.methodLink RX8 157 yX8_countWithOneMore ∈ gtb := mg4 (i := 181) rfl rfl
theorem ww_1019 : Cond.code yX8_countCastings cX8_countCastings 4 none ∈ gtb := mg4 (i := 180) rfl rfl
theorem ww_1020 : Cond.instanceMethod yX8_countCastings ∈ gtb := mg4 (i := 178) rfl rfl
theorem ww_1021 : Cond.selects RX8 yX8_countCastings yX8_countCastings ∈ gtb := mg4 (i := 179) rfl rfl
theorem ww_1022 : Cond.methodLink RX11 284 yX8_countCastings ∈ gtb := mg4 (i := 177) rfl rfl
theorem ww_1023 : Cond.fieldLink RX11 287 "FivePlayers$Solver" "castingsOf" "[I" ∈ gtb := mg1 (i := 189) rfl rfl
theorem ww_1024 : Cond.methodLink RX11 290 yX4_allParts ∈ gtb := mg4 (i := 185) rfl rfl
theorem ww_1025 : Cond.code yX11_castings cX11_castings 2 (some .long) ∈ gtb := mg4 (i := 176) rfl rfl
theorem ww_1026 : Cond.instanceMethod yX11_castings ∈ gtb := mg4 (i := 174) rfl rfl
theorem ww_1027 : Cond.selects RX11 yX11_castings yX11_castings ∈ gtb := mg4 (i := 175) rfl rfl
theorem ww_1028 : Cond.methodLink RX11 339 yX4_allPlayers ∈ gtb := mg5 (i := 109) rfl rfl
theorem ww_1029 : Cond.code yX11_check cX11_check 4 (some .int) ∈ gtb := mg5 (i := 108) rfl rfl
theorem ww_1030 : Cond.instanceMethod yX11_check ∈ gtb := mg5 (i := 106) rfl rfl
theorem ww_1031 : Cond.selects RX11 yX11_check yX11_check ∈ gtb := mg5 (i := 107) rfl rfl
theorem ww_1032 : Cond.methodLink RX11 293 yX8_leftOut ∈ gtb := mg4 (i := 190) rfl rfl
theorem ww_1033 : Cond.methodLink RX11 296 yX4_weightOfSet ∈ gtb := mg4 (i := 208) rfl rfl
theorem ww_1034 : Cond.code yX11_leave cX11_leave 4 (some .int) ∈ gtb := mg4 (i := 189) rfl rfl
theorem ww_1035 : Cond.instanceMethod yX11_leave ∈ gtb := mg4 (i := 187) rfl rfl
theorem ww_1036 : Cond.selects RX11 yX11_leave yX11_leave ∈ gtb := mg4 (i := 188) rfl rfl
theorem ww_1037 : Cond.methodLink RX11 299 yX8_findShares ∈ gtb := mg4 (i := 217) rfl rfl
theorem ww_1038 : Cond.fieldLink RX11 306 "FivePlayers$Solver" "inEach" "I" ∈ gtb := mg1 (i := 197) rfl rfl
theorem ww_1039 : Cond.fieldLink RX11 303 "FivePlayers$Solver" "inSome" "I" ∈ gtb := mg1 (i := 195) rfl rfl
theorem ww_1040 : Cond.code yX11_never cX11_never 5 (some .int) ∈ gtb := mg4 (i := 216) rfl rfl
theorem ww_1041 : Cond.instanceMethod yX11_never ∈ gtb := mg4 (i := 214) rfl rfl
theorem ww_1042 : Cond.selects RX11 yX11_never yX11_never ∈ gtb := mg4 (i := 215) rfl rfl
theorem ww_1043 : Cond.code yX11_take cX11_take 3 (some .int) ∈ gtb := mg4 (i := 172) rfl rfl
theorem ww_1044 : Cond.instanceMethod yX11_take ∈ gtb := mg4 (i := 170) rfl rfl
theorem ww_1045 : Cond.selects RX11 yX11_take yX11_take ∈ gtb := mg4 (i := 171) rfl rfl
theorem ww_1046 : Cond.methodLink RX4 71 arraycopyName ∈ gtb := mg5 (i := 95) rfl rfl
theorem ww_1047 : Cond.fieldLink RX4 60 "FivePlayers$Play" "tape" "LFivePlayers$Row;" ∈ gtb := mg1 (i := 98) rfl rfl
theorem ww_1048 : Cond.methodLink RX4 77 yX7_become ∈ gtb := mg5 (i := 96) rfl rfl
theorem ww_1049 : Cond.fieldLink RX4 64 "FivePlayers$Play" "waiting" "LFivePlayers$Row;" ∈ gtb := mg1 (i := 100) rfl rfl
theorem ww_1050 : Cond.code yX4_become cX4_become 3 none ∈ gtb := mg5 (i := 94) rfl rfl
theorem ww_1051 : Cond.instanceMethod yX4_become ∈ gtb := mg5 (i := 92) rfl rfl
theorem ww_1052 : Cond.selects RX4 yX4_become yX4_become ∈ gtb := mg5 (i := 93) rfl rfl
theorem ww_1053 : Cond.code yX4_addPart cX4_addPart 2 (some .int) ∈ gtb := mg2 (i := 171) rfl rfl
theorem ww_1054 : Cond.instanceMethod yX4_addPart ∈ gtb := mg2 (i := 169) rfl rfl
theorem ww_1055 : Cond.selects RX4 yX4_addPart yX4_addPart ∈ gtb := mg2 (i := 170) rfl rfl
theorem ww_1056 : Cond.fieldLink RX11 41 "FivePlayers" "kept" "LFivePlayers$Play;" ∈ gtb := mg2 (i := 21) rfl rfl
theorem ww_1057 : Cond.methodLink RX11 334 yX4_become ∈ gtb := mg5 (i := 91) rfl rfl
theorem ww_1058 : Cond.fieldLink RX11 64 "FivePlayers" "images" "I" ∈ gtb := mg2 (i := 26) rfl rfl
theorem ww_1059 : Cond.code yX11_image cX11_image 1 (some .int) ∈ gtb := mg5 (i := 90) rfl rfl
theorem ww_1060 : Cond.instanceMethod yX11_image ∈ gtb := mg5 (i := 88) rfl rfl
theorem ww_1061 : Cond.selects RX11 yX11_image yX11_image ∈ gtb := mg5 (i := 89) rfl rfl
theorem ww_1062 : Cond.code yX11_restore cX11_restore 1 (some .int) ∈ gtb := mg5 (i := 100) rfl rfl
theorem ww_1063 : Cond.instanceMethod yX11_restore ∈ gtb := mg5 (i := 98) rfl rfl
theorem ww_1064 : Cond.selects RX11 yX11_restore yX11_restore ∈ gtb := mg5 (i := 99) rfl rfl
theorem ww_1065 : Cond.code yX5_namesOf cX5_namesOf 1 (some (.object "java/lang/String")) ∈ gtb := mg3 (i := 89) rfl rfl
theorem ww_1066 : Cond.static yX5_namesOf ∈ gtb := mg3 (i := 88) rfl rfl
