theorem tw32 : Cond.selects RX11 yX11_begin yX11_begin ∈ tb := tb_at 32 (by decide +kernel) (by decide +kernel)
theorem tw33 : Cond.selects RX11 yX11_beginLine yX11_beginLine ∈ tb := tb_at 33 (by decide +kernel) (by decide +kernel)
theorem tw34 : Cond.selects RX11 yX11_goRun yX11_goRun ∈ tb := tb_at 34 (by decide +kernel) (by decide +kernel)
theorem tw35 : Cond.selects RX11 yX11_addCell yX11_addCell ∈ tb := tb_at 35 (by decide +kernel) (by decide +kernel)
theorem tw36 : Cond.selects RX11 yX11_takeRead yX11_takeRead ∈ tb := tb_at 36 (by decide +kernel) (by decide +kernel)
theorem tw37 : Cond.selects RX11 yX11_readText yX11_readText ∈ tb := tb_at 37 (by decide +kernel) (by decide +kernel)
theorem tw38 : Cond.selects RX11 yX11_readItem yX11_readItem ∈ tb := tb_at 38 (by decide +kernel) (by decide +kernel)
theorem tw39 : Cond.selects RX11 yX11_readSizes yX11_readSizes ∈ tb := tb_at 39 (by decide +kernel) (by decide +kernel)
theorem tw40 : Cond.selects RX11 yX11_takeNumber yX11_takeNumber ∈ tb := tb_at 40 (by decide +kernel) (by decide +kernel)
theorem tw41 : Cond.selects RX11 yX11_takeSign yX11_takeSign ∈ tb := tb_at 41 (by decide +kernel) (by decide +kernel)
theorem tw42 : Cond.selects RX11 yX11_readTheBag yX11_readTheBag ∈ tb := tb_at 42 (by decide +kernel) (by decide +kernel)
theorem tw43 : Cond.selects RX11 yX11_readLine yX11_readLine ∈ tb := tb_at 43 (by decide +kernel) (by decide +kernel)
theorem tw44 : Cond.selects RX11 yX11_note yX11_note ∈ tb := tb_at 44 (by decide +kernel) (by decide +kernel)
theorem tw45 : Cond.selects RX11 yX11_isLine yX11_isLine ∈ tb := tb_at 45 (by decide +kernel) (by decide +kernel)
theorem tw46 : Cond.selects RX11 yX11_ownMany yX11_ownMany ∈ tb := tb_at 46 (by decide +kernel) (by decide +kernel)
theorem tw47 : Cond.selects RX11 yX11_isCovered yX11_isCovered ∈ tb := tb_at 47 (by decide +kernel) (by decide +kernel)
theorem tw48 : Cond.selects RX11 yX11_findPieces yX11_findPieces ∈ tb := tb_at 48 (by decide +kernel) (by decide +kernel)
theorem tw49 : Cond.selects RX11 yX11_endPiece yX11_endPiece ∈ tb := tb_at 49 (by decide +kernel) (by decide +kernel)
theorem tw50 : Cond.selects RX11 yX11_findWay yX11_findWay ∈ tb := tb_at 50 (by decide +kernel) (by decide +kernel)
theorem tw51 : Cond.selects RX11 yX11_layRest yX11_layRest ∈ tb := tb_at 51 (by decide +kernel) (by decide +kernel)
theorem tw52 : Cond.selects RX11 yX11_leastAt yX11_leastAt ∈ tb := tb_at 52 (by decide +kernel) (by decide +kernel)
theorem tw53 : Cond.selects RX11 yX11_costBy yX11_costBy ∈ tb := tb_at 53 (by decide +kernel) (by decide +kernel)
theorem tw54 : Cond.selects RX11 yX11_costAt yX11_costAt ∈ tb := tb_at 54 (by decide +kernel) (by decide +kernel)
theorem tw55 : Cond.selects RX11 yX11_isCutAslant yX11_isCutAslant ∈ tb := tb_at 55 (by decide +kernel) (by decide +kernel)
theorem tw56 : Cond.selects RX11 yX11_firstStone yX11_firstStone ∈ tb := tb_at 56 (by decide +kernel) (by decide +kernel)
theorem tw57 : Cond.selects RX11 yX11_coverBy yX11_coverBy ∈ tb := tb_at 57 (by decide +kernel) (by decide +kernel)
theorem tw58 : Cond.selects RX11 yX11_layTurns yX11_layTurns ∈ tb := tb_at 58 (by decide +kernel) (by decide +kernel)
theorem tw59 : Cond.selects RX11 yX11_isTurns yX11_isTurns ∈ tb := tb_at 59 (by decide +kernel) (by decide +kernel)
theorem tw60 : Cond.selects RX11 yX11_cutsByTurns yX11_cutsByTurns ∈ tb := tb_at 60 (by decide +kernel) (by decide +kernel)
theorem tw61 : Cond.selects RX11 yX11_isOn yX11_isOn ∈ tb := tb_at 61 (by decide +kernel) (by decide +kernel)
theorem tw62 : Cond.selects RX11 yX11_sharedCells yX11_sharedCells ∈ tb := tb_at 62 (by decide +kernel) (by decide +kernel)
theorem tw81 : Cond.initialized RX11 ∈ tb := tb_at 81 (by decide +kernel) (by decide +kernel)
theorem tw860 : Cond.methodLink RX11 89 yX11_begin ∈ tb := tb_at 860 (by decide +kernel) (by decide +kernel)
theorem tw862 : Cond.instanceMethod yX11_begin ∈ tb := tb_at 862 (by decide +kernel) (by decide +kernel)
theorem tw863 : Cond.code yX11_begin cX11_begin 2 (Option.none : Option Jvm.ClassFile.FieldType) ∈ tb := tb_at 863 (by decide +kernel) (by decide +kernel)
theorem tw864 : Cond.methodLink RX11 92 yX11_beginLine ∈ tb := tb_at 864 (by decide +kernel) (by decide +kernel)
theorem tw866 : Cond.instanceMethod yX11_beginLine ∈ tb := tb_at 866 (by decide +kernel) (by decide +kernel)
theorem tw867 : Cond.code yX11_beginLine cX11_beginLine 3 (Option.none : Option Jvm.ClassFile.FieldType) ∈ tb := tb_at 867 (by decide +kernel) (by decide +kernel)
theorem tw868 : Cond.methodLink RX11 96 yX11_goRun ∈ tb := tb_at 868 (by decide +kernel) (by decide +kernel)
theorem tw870 : Cond.instanceMethod yX11_goRun ∈ tb := tb_at 870 (by decide +kernel) (by decide +kernel)
theorem tw871 : Cond.code yX11_goRun cX11_goRun 7 (Option.some Jvm.ClassFile.FieldType.boolean) ∈ tb := tb_at 871 (by decide +kernel) (by decide +kernel)
theorem tw872 : Cond.methodLink RX11 110 yX11_in ∈ tb := tb_at 872 (by decide +kernel) (by decide +kernel)
theorem tw873 : Cond.static yX11_in ∈ tb := tb_at 873 (by decide +kernel) (by decide +kernel)
theorem tw874 : Cond.code yX11_in cX11_in 3 (Option.some Jvm.ClassFile.FieldType.boolean) ∈ tb := tb_at 874 (by decide +kernel) (by decide +kernel)
theorem tw875 : Cond.methodLink RX11 130 yX11_addCell ∈ tb := tb_at 875 (by decide +kernel) (by decide +kernel)
theorem tw877 : Cond.instanceMethod yX11_addCell ∈ tb := tb_at 877 (by decide +kernel) (by decide +kernel)
theorem tw878 : Cond.code yX11_addCell cX11_addCell 5 (Option.some Jvm.ClassFile.FieldType.boolean) ∈ tb := tb_at 878 (by decide +kernel) (by decide +kernel)
theorem tw879 : Cond.methodLink RX11 104 yX11_takeRead ∈ tb := tb_at 879 (by decide +kernel) (by decide +kernel)
theorem tw881 : Cond.instanceMethod yX11_takeRead ∈ tb := tb_at 881 (by decide +kernel) (by decide +kernel)
theorem tw882 : Cond.code yX11_takeRead cX11_takeRead 2 (Option.none : Option Jvm.ClassFile.FieldType) ∈ tb := tb_at 882 (by decide +kernel) (by decide +kernel)
theorem tw883 : Cond.fieldLink RX11 7 RX11 "now" "[I" ∈ tb := tb_at 883 (by decide +kernel) (by decide +kernel)
theorem tw884 : Cond.fieldLink RX11 13 RX11 "aside" "[I" ∈ tb := tb_at 884 (by decide +kernel) (by decide +kernel)
theorem tw885 : Cond.fieldLink RX11 16 RX11 "past" "[I" ∈ tb := tb_at 885 (by decide +kernel) (by decide +kernel)
theorem tw886 : Cond.fieldLink RX11 163 RX11 "deeds" "I" ∈ tb := tb_at 886 (by decide +kernel) (by decide +kernel)
theorem tw887 : Cond.fieldLink RX11 19 RX11 "text" "[I" ∈ tb := tb_at 887 (by decide +kernel) (by decide +kernel)
theorem tw888 : Cond.fieldLink RX11 137 RX11 "letters" "I" ∈ tb := tb_at 888 (by decide +kernel) (by decide +kernel)
theorem tw889 : Cond.fieldLink RX11 134 RX11 "at" "I" ∈ tb := tb_at 889 (by decide +kernel) (by decide +kernel)
theorem tw890 : Cond.fieldLink RX11 22 RX11 "readSize" "[I" ∈ tb := tb_at 890 (by decide +kernel) (by decide +kernel)
theorem tw891 : Cond.fieldLink RX11 114 RX11 "readJoint" "I" ∈ tb := tb_at 891 (by decide +kernel) (by decide +kernel)
theorem tw892 : Cond.fieldLink RX11 25 RX11 "readBag" "[I" ∈ tb := tb_at 892 (by decide +kernel) (by decide +kernel)
theorem tw893 : Cond.fieldLink RX11 100 RX11 "readLines" "I" ∈ tb := tb_at 893 (by decide +kernel) (by decide +kernel)
theorem tw894 : Cond.fieldLink RX11 28 RX11 "readRuns" "[I" ∈ tb := tb_at 894 (by decide +kernel) (by decide +kernel)
theorem tw895 : Cond.fieldLink RX11 31 RX11 "readLong" "[I" ∈ tb := tb_at 895 (by decide +kernel) (by decide +kernel)
theorem tw896 : Cond.fieldLink RX11 34 RX11 "readMany" "[I" ∈ tb := tb_at 896 (by decide +kernel) (by decide +kernel)
theorem tw897 : Cond.fieldLink RX11 37 RX11 "readCell" "[I" ∈ tb := tb_at 897 (by decide +kernel) (by decide +kernel)
theorem tw898 : Cond.fieldLink RX11 117 RX11 "headX" "I" ∈ tb := tb_at 898 (by decide +kernel) (by decide +kernel)
theorem tw899 : Cond.fieldLink RX11 120 RX11 "headY" "I" ∈ tb := tb_at 899 (by decide +kernel) (by decide +kernel)
theorem tw900 : Cond.fieldLink RX11 123 RX11 "isFirst" "Z" ∈ tb := tb_at 900 (by decide +kernel) (by decide +kernel)
theorem tw901 : Cond.fieldLink RX11 127 RX11 "wasAcross" "Z" ∈ tb := tb_at 901 (by decide +kernel) (by decide +kernel)
theorem tw902 : Cond.fieldLink RX11 40 RX11 "size" "[I" ∈ tb := tb_at 902 (by decide +kernel) (by decide +kernel)
theorem tw903 : Cond.fieldLink RX11 107 RX11 "lines" "I" ∈ tb := tb_at 903 (by decide +kernel) (by decide +kernel)
theorem tw904 : Cond.fieldLink RX11 43 RX11 "runs" "[I" ∈ tb := tb_at 904 (by decide +kernel) (by decide +kernel)
theorem tw905 : Cond.fieldLink RX11 46 RX11 "runLong" "[I" ∈ tb := tb_at 905 (by decide +kernel) (by decide +kernel)
theorem tw906 : Cond.fieldLink RX11 49 RX11 "cellMany" "[I" ∈ tb := tb_at 906 (by decide +kernel) (by decide +kernel)
theorem tw907 : Cond.fieldLink RX11 52 RX11 "cellAt" "[I" ∈ tb := tb_at 907 (by decide +kernel) (by decide +kernel)
theorem tw908 : Cond.fieldLink RX11 55 RX11 "pieceLong" "[I" ∈ tb := tb_at 908 (by decide +kernel) (by decide +kernel)
theorem tw909 : Cond.fieldLink RX11 58 RX11 "isBent" "[Z" ∈ tb := tb_at 909 (by decide +kernel) (by decide +kernel)
theorem tw910 : Cond.fieldLink RX11 183 RX11 "pieces" "I" ∈ tb := tb_at 910 (by decide +kernel) (by decide +kernel)
theorem tw911 : Cond.fieldLink RX11 62 RX11 "leftEven" "[I" ∈ tb := tb_at 911 (by decide +kernel) (by decide +kernel)
theorem tw912 : Cond.fieldLink RX11 65 RX11 "leftOdd" "[I" ∈ tb := tb_at 912 (by decide +kernel) (by decide +kernel)
theorem tw913 : Cond.fieldLink RX11 68 RX11 "leftOfPiece" "[I" ∈ tb := tb_at 913 (by decide +kernel) (by decide +kernel)
theorem tw914 : Cond.fieldLink RX11 71 RX11 "isBentAt" "[Z" ∈ tb := tb_at 914 (by decide +kernel) (by decide +kernel)
theorem tw915 : Cond.fieldLink RX11 74 RX11 "wayLong" "[I" ∈ tb := tb_at 915 (by decide +kernel) (by decide +kernel)
theorem tw916 : Cond.fieldLink RX11 77 RX11 "waySize" "[I" ∈ tb := tb_at 916 (by decide +kernel) (by decide +kernel)
theorem tw917 : Cond.fieldLink RX11 80 RX11 "isAslant" "[Z" ∈ tb := tb_at 917 (by decide +kernel) (by decide +kernel)
theorem tw918 : Cond.fieldLink RX11 221 RX11 "wayStones" "I" ∈ tb := tb_at 918 (by decide +kernel) (by decide +kernel)
theorem tw919 : Cond.fieldLink RX11 218 RX11 "wayCuts" "I" ∈ tb := tb_at 919 (by decide +kernel) (by decide +kernel)
theorem tw920 : Cond.fieldLink RX11 83 RX11 "asked" "[I" ∈ tb := tb_at 920 (by decide +kernel) (by decide +kernel)
theorem tw921 : Cond.fieldLink RX11 86 RX11 "turn" "[I" ∈ tb := tb_at 921 (by decide +kernel) (by decide +kernel)
theorem tw1013 : Cond.methodLink RX11 166 yX11_readText ∈ tb := tb_at 1013 (by decide +kernel) (by decide +kernel)
theorem tw1015 : Cond.instanceMethod yX11_readText ∈ tb := tb_at 1015 (by decide +kernel) (by decide +kernel)
theorem tw1016 : Cond.code yX11_readText cX11_readText 2 (Option.some Jvm.ClassFile.FieldType.int) ∈ tb := tb_at 1016 (by decide +kernel) (by decide +kernel)
theorem tw1017 : Cond.methodLink RX11 160 yX11_readItem ∈ tb := tb_at 1017 (by decide +kernel) (by decide +kernel)
theorem tw1019 : Cond.instanceMethod yX11_readItem ∈ tb := tb_at 1019 (by decide +kernel) (by decide +kernel)
theorem tw1020 : Cond.code yX11_readItem cX11_readItem 3 (Option.some Jvm.ClassFile.FieldType.boolean) ∈ tb := tb_at 1020 (by decide +kernel) (by decide +kernel)
theorem tw1021 : Cond.methodLink RX11 151 yX11_readSizes ∈ tb := tb_at 1021 (by decide +kernel) (by decide +kernel)
theorem tw1023 : Cond.instanceMethod yX11_readSizes ∈ tb := tb_at 1023 (by decide +kernel) (by decide +kernel)
theorem tw1024 : Cond.code yX11_readSizes cX11_readSizes 6 (Option.some Jvm.ClassFile.FieldType.boolean) ∈ tb := tb_at 1024 (by decide +kernel) (by decide +kernel)
theorem tw1025 : Cond.methodLink RX11 140 yX11_takeNumber ∈ tb := tb_at 1025 (by decide +kernel) (by decide +kernel)
theorem tw1027 : Cond.instanceMethod yX11_takeNumber ∈ tb := tb_at 1027 (by decide +kernel) (by decide +kernel)
theorem tw1028 : Cond.code yX11_takeNumber cX11_takeNumber 3 (Option.some Jvm.ClassFile.FieldType.int) ∈ tb := tb_at 1028 (by decide +kernel) (by decide +kernel)
theorem tw1029 : Cond.methodLink RX11 144 yX11_takeSign ∈ tb := tb_at 1029 (by decide +kernel) (by decide +kernel)
theorem tw1031 : Cond.instanceMethod yX11_takeSign ∈ tb := tb_at 1031 (by decide +kernel) (by decide +kernel)
theorem tw1032 : Cond.code yX11_takeSign cX11_takeSign 3 (Option.some Jvm.ClassFile.FieldType.boolean) ∈ tb := tb_at 1032 (by decide +kernel) (by decide +kernel)
theorem tw1033 : Cond.methodLink RX11 154 yX11_readTheBag ∈ tb := tb_at 1033 (by decide +kernel) (by decide +kernel)
theorem tw1035 : Cond.instanceMethod yX11_readTheBag ∈ tb := tb_at 1035 (by decide +kernel) (by decide +kernel)
theorem tw1036 : Cond.code yX11_readTheBag cX11_readTheBag 6 (Option.some Jvm.ClassFile.FieldType.boolean) ∈ tb := tb_at 1036 (by decide +kernel) (by decide +kernel)
theorem tw1037 : Cond.methodLink RX11 148 yX11_isColour ∈ tb := tb_at 1037 (by decide +kernel) (by decide +kernel)
theorem tw1038 : Cond.static yX11_isColour ∈ tb := tb_at 1038 (by decide +kernel) (by decide +kernel)
theorem tw1039 : Cond.code yX11_isColour cX11_isColour 1 (Option.some Jvm.ClassFile.FieldType.boolean) ∈ tb := tb_at 1039 (by decide +kernel) (by decide +kernel)
theorem tw1040 : Cond.methodLink RX11 157 yX11_readLine ∈ tb := tb_at 1040 (by decide +kernel) (by decide +kernel)
theorem tw1042 : Cond.instanceMethod yX11_readLine ∈ tb := tb_at 1042 (by decide +kernel) (by decide +kernel)
theorem tw1043 : Cond.code yX11_readLine cX11_readLine 7 (Option.some Jvm.ClassFile.FieldType.boolean) ∈ tb := tb_at 1043 (by decide +kernel) (by decide +kernel)
theorem tw1052 : Cond.methodLink RX11 169 yX11_bring ∈ tb := tb_at 1052 (by decide +kernel) (by decide +kernel)
theorem tw1053 : Cond.static yX11_bring ∈ tb := tb_at 1053 (by decide +kernel) (by decide +kernel)
theorem tw1054 : Cond.code yX11_bring cX11_bring 5 (Option.none : Option Jvm.ClassFile.FieldType) ∈ tb := tb_at 1054 (by decide +kernel) (by decide +kernel)
theorem tw1059 : Cond.methodLink RX11 173 yX11_note ∈ tb := tb_at 1059 (by decide +kernel) (by decide +kernel)
theorem tw1061 : Cond.instanceMethod yX11_note ∈ tb := tb_at 1061 (by decide +kernel) (by decide +kernel)
theorem tw1062 : Cond.code yX11_note cX11_note 2 (Option.none : Option Jvm.ClassFile.FieldType) ∈ tb := tb_at 1062 (by decide +kernel) (by decide +kernel)
theorem tw1067 : Cond.methodLink RX11 176 yX11_isLine ∈ tb := tb_at 1067 (by decide +kernel) (by decide +kernel)
theorem tw1069 : Cond.instanceMethod yX11_isLine ∈ tb := tb_at 1069 (by decide +kernel) (by decide +kernel)
theorem tw1070 : Cond.code yX11_isLine cX11_isLine 2 (Option.some Jvm.ClassFile.FieldType.boolean) ∈ tb := tb_at 1070 (by decide +kernel) (by decide +kernel)
theorem tw1071 : Cond.methodLink RX11 179 yX11_ownMany ∈ tb := tb_at 1071 (by decide +kernel) (by decide +kernel)
theorem tw1073 : Cond.instanceMethod yX11_ownMany ∈ tb := tb_at 1073 (by decide +kernel) (by decide +kernel)
theorem tw1074 : Cond.code yX11_ownMany cX11_ownMany 4 (Option.some Jvm.ClassFile.FieldType.int) ∈ tb := tb_at 1074 (by decide +kernel) (by decide +kernel)
theorem tw1087 : Cond.methodLink RX11 190 yX11_isCovered ∈ tb := tb_at 1087 (by decide +kernel) (by decide +kernel)
theorem tw1089 : Cond.instanceMethod yX11_isCovered ∈ tb := tb_at 1089 (by decide +kernel) (by decide +kernel)
theorem tw1090 : Cond.code yX11_isCovered cX11_isCovered 2 (Option.some Jvm.ClassFile.FieldType.boolean) ∈ tb := tb_at 1090 (by decide +kernel) (by decide +kernel)
theorem tw1091 : Cond.methodLink RX11 193 yX11_findPieces ∈ tb := tb_at 1091 (by decide +kernel) (by decide +kernel)
theorem tw1093 : Cond.instanceMethod yX11_findPieces ∈ tb := tb_at 1093 (by decide +kernel) (by decide +kernel)
theorem tw1094 : Cond.code yX11_findPieces cX11_findPieces 7 (Option.none : Option Jvm.ClassFile.FieldType) ∈ tb := tb_at 1094 (by decide +kernel) (by decide +kernel)
theorem tw1095 : Cond.methodLink RX11 186 yX11_endPiece ∈ tb := tb_at 1095 (by decide +kernel) (by decide +kernel)
theorem tw1097 : Cond.instanceMethod yX11_endPiece ∈ tb := tb_at 1097 (by decide +kernel) (by decide +kernel)
theorem tw1098 : Cond.code yX11_endPiece cX11_endPiece 3 (Option.none : Option Jvm.ClassFile.FieldType) ∈ tb := tb_at 1098 (by decide +kernel) (by decide +kernel)
theorem tw1103 : Cond.methodLink RX11 228 yX11_findWay ∈ tb := tb_at 1103 (by decide +kernel) (by decide +kernel)
theorem tw1105 : Cond.instanceMethod yX11_findWay ∈ tb := tb_at 1105 (by decide +kernel) (by decide +kernel)
theorem tw1106 : Cond.code yX11_findWay cX11_findWay 11 (Option.some Jvm.ClassFile.FieldType.boolean) ∈ tb := tb_at 1106 (by decide +kernel) (by decide +kernel)
theorem tw1107 : Cond.methodLink RX11 212 yX11_layRest ∈ tb := tb_at 1107 (by decide +kernel) (by decide +kernel)
theorem tw1109 : Cond.instanceMethod yX11_layRest ∈ tb := tb_at 1109 (by decide +kernel) (by decide +kernel)
theorem tw1110 : Cond.code yX11_layRest cX11_layRest 4 (Option.some Jvm.ClassFile.FieldType.int) ∈ tb := tb_at 1110 (by decide +kernel) (by decide +kernel)
theorem tw1111 : Cond.methodLink RX11 215 yX11_leastAt ∈ tb := tb_at 1111 (by decide +kernel) (by decide +kernel)
theorem tw1113 : Cond.instanceMethod yX11_leastAt ∈ tb := tb_at 1113 (by decide +kernel) (by decide +kernel)
theorem tw1114 : Cond.code yX11_leastAt cX11_leastAt 7 (Option.some Jvm.ClassFile.FieldType.int) ∈ tb := tb_at 1114 (by decide +kernel) (by decide +kernel)
theorem tw1115 : Cond.constant RX11 200 1000000 ∈ tb := tb_at 1115 (by decide +kernel) (by decide +kernel)
theorem tw1116 : Cond.methodLink RX11 208 yX11_costBy ∈ tb := tb_at 1116 (by decide +kernel) (by decide +kernel)
theorem tw1118 : Cond.instanceMethod yX11_costBy ∈ tb := tb_at 1118 (by decide +kernel) (by decide +kernel)
theorem tw1119 : Cond.code yX11_costBy cX11_costBy 8 (Option.some Jvm.ClassFile.FieldType.int) ∈ tb := tb_at 1119 (by decide +kernel) (by decide +kernel)
theorem tw1120 : Cond.methodLink RX11 197 yX11_oneOf ∈ tb := tb_at 1120 (by decide +kernel) (by decide +kernel)
theorem tw1121 : Cond.static yX11_oneOf ∈ tb := tb_at 1121 (by decide +kernel) (by decide +kernel)
theorem tw1122 : Cond.code yX11_oneOf cX11_oneOf 1 (Option.some Jvm.ClassFile.FieldType.int) ∈ tb := tb_at 1122 (by decide +kernel) (by decide +kernel)
theorem tw1123 : Cond.methodLink RX11 201 yX11_costAt ∈ tb := tb_at 1123 (by decide +kernel) (by decide +kernel)
theorem tw1125 : Cond.instanceMethod yX11_costAt ∈ tb := tb_at 1125 (by decide +kernel) (by decide +kernel)
theorem tw1126 : Cond.code yX11_costAt cX11_costAt 4 (Option.some Jvm.ClassFile.FieldType.int) ∈ tb := tb_at 1126 (by decide +kernel) (by decide +kernel)
theorem tw1127 : Cond.methodLink RX11 205 yX11_isCutAslant ∈ tb := tb_at 1127 (by decide +kernel) (by decide +kernel)
theorem tw1129 : Cond.instanceMethod yX11_isCutAslant ∈ tb := tb_at 1129 (by decide +kernel) (by decide +kernel)
theorem tw1130 : Cond.code yX11_isCutAslant cX11_isCutAslant 4 (Option.some Jvm.ClassFile.FieldType.boolean) ∈ tb := tb_at 1130 (by decide +kernel) (by decide +kernel)
theorem tw1131 : Cond.methodLink RX11 224 yX11_firstStone ∈ tb := tb_at 1131 (by decide +kernel) (by decide +kernel)
theorem tw1133 : Cond.instanceMethod yX11_firstStone ∈ tb := tb_at 1133 (by decide +kernel) (by decide +kernel)
theorem tw1134 : Cond.code yX11_firstStone cX11_firstStone 8 (Option.some Jvm.ClassFile.FieldType.int) ∈ tb := tb_at 1134 (by decide +kernel) (by decide +kernel)
theorem tw1143 : Cond.methodLink RX11 231 yX11_coverBy ∈ tb := tb_at 1143 (by decide +kernel) (by decide +kernel)
theorem tw1145 : Cond.instanceMethod yX11_coverBy ∈ tb := tb_at 1145 (by decide +kernel) (by decide +kernel)
theorem tw1146 : Cond.code yX11_coverBy cX11_coverBy 7 (Option.none : Option Jvm.ClassFile.FieldType) ∈ tb := tb_at 1146 (by decide +kernel) (by decide +kernel)
theorem tw1155 : Cond.methodLink RX11 234 yX11_layTurns ∈ tb := tb_at 1155 (by decide +kernel) (by decide +kernel)
theorem tw1157 : Cond.instanceMethod yX11_layTurns ∈ tb := tb_at 1157 (by decide +kernel) (by decide +kernel)
theorem tw1158 : Cond.code yX11_layTurns cX11_layTurns 2 (Option.none : Option Jvm.ClassFile.FieldType) ∈ tb := tb_at 1158 (by decide +kernel) (by decide +kernel)
theorem tw1159 : Cond.methodLink RX11 237 yX11_isTurns ∈ tb := tb_at 1159 (by decide +kernel) (by decide +kernel)
theorem tw1161 : Cond.instanceMethod yX11_isTurns ∈ tb := tb_at 1161 (by decide +kernel) (by decide +kernel)
theorem tw1162 : Cond.code yX11_isTurns cX11_isTurns 5 (Option.some Jvm.ClassFile.FieldType.boolean) ∈ tb := tb_at 1162 (by decide +kernel) (by decide +kernel)
theorem tw1163 : Cond.methodLink RX11 240 yX11_cutsByTurns ∈ tb := tb_at 1163 (by decide +kernel) (by decide +kernel)
theorem tw1165 : Cond.instanceMethod yX11_cutsByTurns ∈ tb := tb_at 1165 (by decide +kernel) (by decide +kernel)
theorem tw1166 : Cond.code yX11_cutsByTurns cX11_cutsByTurns 4 (Option.some Jvm.ClassFile.FieldType.int) ∈ tb := tb_at 1166 (by decide +kernel) (by decide +kernel)
theorem tw1179 : Cond.methodLink RX11 243 yX11_isOn ∈ tb := tb_at 1179 (by decide +kernel) (by decide +kernel)
theorem tw1181 : Cond.instanceMethod yX11_isOn ∈ tb := tb_at 1181 (by decide +kernel) (by decide +kernel)
theorem tw1182 : Cond.code yX11_isOn cX11_isOn 5 (Option.some Jvm.ClassFile.FieldType.boolean) ∈ tb := tb_at 1182 (by decide +kernel) (by decide +kernel)
theorem tw1187 : Cond.methodLink RX11 246 yX11_sharedCells ∈ tb := tb_at 1187 (by decide +kernel) (by decide +kernel)
theorem tw1189 : Cond.instanceMethod yX11_sharedCells ∈ tb := tb_at 1189 (by decide +kernel) (by decide +kernel)
theorem tw1190 : Cond.code yX11_sharedCells cX11_sharedCells 5 (Option.some Jvm.ClassFile.FieldType.int) ∈ tb := tb_at 1190 (by decide +kernel) (by decide +kernel)
theorem iRX0 : ∀ w ∈ u_ws RX0 TX0 9, w ∈ tb := by
  have h : (u_ws RX0 TX0 9).all (fun w => decide (w ∈ lw_tbl) && goodWord w) = true := by decide +kernel
  intro w hw
  have h1 := List.all_eq_true.mp h w hw
  simp only [Bool.and_eq_true, decide_eq_true_eq] at h1
  exact tb_of h1.1 h1.2
theorem iRX1 : ∀ w ∈ u_ws RX1 TX1 10, w ∈ tb := by
  have h : (u_ws RX1 TX1 10).all (fun w => decide (w ∈ lw_tbl) && goodWord w) = true := by decide +kernel
  intro w hw
  have h1 := List.all_eq_true.mp h w hw
  simp only [Bool.and_eq_true, decide_eq_true_eq] at h1
  exact tb_of h1.1 h1.2
theorem iRX2 : ∀ w ∈ u_ws RX2 TX2 4, w ∈ tb := by
  have h : (u_ws RX2 TX2 4).all (fun w => decide (w ∈ lw_tbl) && goodWord w) = true := by decide +kernel
  intro w hw
  have h1 := List.all_eq_true.mp h w hw
  simp only [Bool.and_eq_true, decide_eq_true_eq] at h1
  exact tb_of h1.1 h1.2
theorem iRX3 : ∀ w ∈ u_ws RX3 TX3 9, w ∈ tb := by
  have h : (u_ws RX3 TX3 9).all (fun w => decide (w ∈ lw_tbl) && goodWord w) = true := by decide +kernel
  intro w hw
  have h1 := List.all_eq_true.mp h w hw
  simp only [Bool.and_eq_true, decide_eq_true_eq] at h1
  exact tb_of h1.1 h1.2
theorem iRX4 : ∀ w ∈ u_ws RX4 TX4 2, w ∈ tb := by
  have h : (u_ws RX4 TX4 2).all (fun w => decide (w ∈ lw_tbl) && goodWord w) = true := by decide +kernel
  intro w hw
  have h1 := List.all_eq_true.mp h w hw
  simp only [Bool.and_eq_true, decide_eq_true_eq] at h1
  exact tb_of h1.1 h1.2
theorem iRX5 : ∀ w ∈ u_ws RX5 TX5 7, w ∈ tb := by
  have h : (u_ws RX5 TX5 7).all (fun w => decide (w ∈ lw_tbl) && goodWord w) = true := by decide +kernel
  intro w hw
  have h1 := List.all_eq_true.mp h w hw
  simp only [Bool.and_eq_true, decide_eq_true_eq] at h1
  exact tb_of h1.1 h1.2
theorem iRX6 : ∀ w ∈ u_ws RX6 TX6 3, w ∈ tb := by
  have h : (u_ws RX6 TX6 3).all (fun w => decide (w ∈ lw_tbl) && goodWord w) = true := by decide +kernel
  intro w hw
  have h1 := List.all_eq_true.mp h w hw
  simp only [Bool.and_eq_true, decide_eq_true_eq] at h1
  exact tb_of h1.1 h1.2
theorem iRX7 : ∀ w ∈ u_ws RX7 TX7 6, w ∈ tb := by
  have h : (u_ws RX7 TX7 6).all (fun w => decide (w ∈ lw_tbl) && goodWord w) = true := by decide +kernel
  intro w hw
  have h1 := List.all_eq_true.mp h w hw
  simp only [Bool.and_eq_true, decide_eq_true_eq] at h1
  exact tb_of h1.1 h1.2
theorem iRX8 : ∀ w ∈ u_ws RX8 TX8 4, w ∈ tb := by
  have h : (u_ws RX8 TX8 4).all (fun w => decide (w ∈ lw_tbl) && goodWord w) = true := by decide +kernel
  intro w hw
  have h1 := List.all_eq_true.mp h w hw
  simp only [Bool.and_eq_true, decide_eq_true_eq] at h1
  exact tb_of h1.1 h1.2
theorem iRX9 : ∀ w ∈ u_ws RX9 TX9 9, w ∈ tb := by
  have h : (u_ws RX9 TX9 9).all (fun w => decide (w ∈ lw_tbl) && goodWord w) = true := by decide +kernel
  intro w hw
  have h1 := List.all_eq_true.mp h w hw
  simp only [Bool.and_eq_true, decide_eq_true_eq] at h1
  exact tb_of h1.1 h1.2
theorem iRX10 : ∀ w ∈ u_ws RX10 TX10 8, w ∈ tb := by
  have h : (u_ws RX10 TX10 8).all (fun w => decide (w ∈ lw_tbl) && goodWord w) = true := by decide +kernel
  intro w hw
  have h1 := List.all_eq_true.mp h w hw
  simp only [Bool.and_eq_true, decide_eq_true_eq] at h1
  exact tb_of h1.1 h1.2
theorem iRX11 : ∀ w ∈ u_ws RX11 TX11 39, w ∈ tb := by
  have h : (u_ws RX11 TX11 39).all (fun w => decide (w ∈ lw_tbl) && goodWord w) = true := by decide +kernel
  intro w hw
  have h1 := List.all_eq_true.mp h w hw
  simp only [Bool.and_eq_true, decide_eq_true_eq] at h1
  exact tb_of h1.1 h1.2
theorem fo_RX11_107 : FOK RX11 107 12 20 := ⟨RX11, TX11, 39, rfl, iRX11, by decide, by decide, tw903⟩
theorem fo_RX11_7 : FOK RX11 7 12 0 := ⟨RX11, TX11, 39, rfl, iRX11, by decide, by decide, tw883⟩
theorem fo_RX11_22 : FOK RX11 22 12 7 := ⟨RX11, TX11, 39, rfl, iRX11, by decide, by decide, tw890⟩
theorem fo_RX11_25 : FOK RX11 25 12 9 := ⟨RX11, TX11, 39, rfl, iRX11, by decide, by decide, tw892⟩
theorem fo_RX11_100 : FOK RX11 100 12 10 := ⟨RX11, TX11, 39, rfl, iRX11, by decide, by decide, tw893⟩
theorem fo_RX11_114 : FOK RX11 114 12 8 := ⟨RX11, TX11, 39, rfl, iRX11, by decide, by decide, tw891⟩
theorem fo_RX11_28 : FOK RX11 28 12 11 := ⟨RX11, TX11, 39, rfl, iRX11, by decide, by decide, tw894⟩
theorem fo_RX11_34 : FOK RX11 34 12 13 := ⟨RX11, TX11, 39, rfl, iRX11, by decide, by decide, tw896⟩
theorem fo_RX11_117 : FOK RX11 117 12 15 := ⟨RX11, TX11, 39, rfl, iRX11, by decide, by decide, tw898⟩
theorem fo_RX11_120 : FOK RX11 120 12 16 := ⟨RX11, TX11, 39, rfl, iRX11, by decide, by decide, tw899⟩
theorem fo_RX11_123 : FOK RX11 123 12 17 := ⟨RX11, TX11, 39, rfl, iRX11, by decide, by decide, tw900⟩
theorem fo_RX11_37 : FOK RX11 37 12 14 := ⟨RX11, TX11, 39, rfl, iRX11, by decide, by decide, tw897⟩
theorem fo_RX11_127 : FOK RX11 127 12 18 := ⟨RX11, TX11, 39, rfl, iRX11, by decide, by decide, tw901⟩
theorem fo_RX11_31 : FOK RX11 31 12 12 := ⟨RX11, TX11, 39, rfl, iRX11, by decide, by decide, tw895⟩
theorem fo_RX11_134 : FOK RX11 134 12 6 := ⟨RX11, TX11, 39, rfl, iRX11, by decide, by decide, tw889⟩
theorem fo_RX11_137 : FOK RX11 137 12 5 := ⟨RX11, TX11, 39, rfl, iRX11, by decide, by decide, tw888⟩
theorem fo_RX11_19 : FOK RX11 19 12 4 := ⟨RX11, TX11, 39, rfl, iRX11, by decide, by decide, tw887⟩
theorem fo_RX11_40 : FOK RX11 40 12 19 := ⟨RX11, TX11, 39, rfl, iRX11, by decide, by decide, tw902⟩
theorem fo_RX11_43 : FOK RX11 43 12 21 := ⟨RX11, TX11, 39, rfl, iRX11, by decide, by decide, tw904⟩
theorem fo_RX11_49 : FOK RX11 49 12 23 := ⟨RX11, TX11, 39, rfl, iRX11, by decide, by decide, tw906⟩
theorem fo_RX11_46 : FOK RX11 46 12 22 := ⟨RX11, TX11, 39, rfl, iRX11, by decide, by decide, tw905⟩
theorem fo_RX11_52 : FOK RX11 52 12 24 := ⟨RX11, TX11, 39, rfl, iRX11, by decide, by decide, tw907⟩
theorem fo_RX11_163 : FOK RX11 163 12 3 := ⟨RX11, TX11, 39, rfl, iRX11, by decide, by decide, tw886⟩
theorem fo_RX11_16 : FOK RX11 16 12 2 := ⟨RX11, TX11, 39, rfl, iRX11, by decide, by decide, tw885⟩
theorem fo_RX11_55 : FOK RX11 55 12 25 := ⟨RX11, TX11, 39, rfl, iRX11, by decide, by decide, tw908⟩
theorem fo_RX11_183 : FOK RX11 183 12 27 := ⟨RX11, TX11, 39, rfl, iRX11, by decide, by decide, tw910⟩
theorem fo_RX11_58 : FOK RX11 58 12 26 := ⟨RX11, TX11, 39, rfl, iRX11, by decide, by decide, tw909⟩
theorem fo_RX11_62 : FOK RX11 62 12 28 := ⟨RX11, TX11, 39, rfl, iRX11, by decide, by decide, tw911⟩
theorem fo_RX11_65 : FOK RX11 65 12 29 := ⟨RX11, TX11, 39, rfl, iRX11, by decide, by decide, tw912⟩
theorem fo_RX11_68 : FOK RX11 68 12 30 := ⟨RX11, TX11, 39, rfl, iRX11, by decide, by decide, tw913⟩
theorem fo_RX11_71 : FOK RX11 71 12 31 := ⟨RX11, TX11, 39, rfl, iRX11, by decide, by decide, tw914⟩
theorem fo_RX11_221 : FOK RX11 221 12 35 := ⟨RX11, TX11, 39, rfl, iRX11, by decide, by decide, tw918⟩
theorem fo_RX11_74 : FOK RX11 74 12 32 := ⟨RX11, TX11, 39, rfl, iRX11, by decide, by decide, tw915⟩
theorem fo_RX11_77 : FOK RX11 77 12 33 := ⟨RX11, TX11, 39, rfl, iRX11, by decide, by decide, tw916⟩
theorem fo_RX11_80 : FOK RX11 80 12 34 := ⟨RX11, TX11, 39, rfl, iRX11, by decide, by decide, tw917⟩
theorem fo_RX11_218 : FOK RX11 218 12 36 := ⟨RX11, TX11, 39, rfl, iRX11, by decide, by decide, tw919⟩
theorem fo_RX11_86 : FOK RX11 86 12 38 := ⟨RX11, TX11, 39, rfl, iRX11, by decide, by decide, tw921⟩
theorem fo_RX11_13 : FOK RX11 13 12 1 := ⟨RX11, TX11, 39, rfl, iRX11, by decide, by decide, tw884⟩
theorem fo_RX11_83 : FOK RX11 83 12 37 := ⟨RX11, TX11, 39, rfl, iRX11, by decide, by decide, tw920⟩
theorem fp_12_10 : FPK 12 10 false (.int) := ⟨RX11, TX11, 39, rfl, ⟨tyX11, tyX11_ok, rfl⟩, nmX11, rfl, rfl⟩
theorem fp_12_8 : FPK 12 8 false (.int) := ⟨RX11, TX11, 39, rfl, ⟨tyX11, tyX11_ok, rfl⟩, nmX11, rfl, rfl⟩
theorem fp_12_15 : FPK 12 15 false (.int) := ⟨RX11, TX11, 39, rfl, ⟨tyX11, tyX11_ok, rfl⟩, nmX11, rfl, rfl⟩
theorem fp_12_16 : FPK 12 16 false (.int) := ⟨RX11, TX11, 39, rfl, ⟨tyX11, tyX11_ok, rfl⟩, nmX11, rfl, rfl⟩
theorem fp_12_17 : FPK 12 17 false (.boolean) := ⟨RX11, TX11, 39, rfl, ⟨tyX11, tyX11_ok, rfl⟩, nmX11, rfl, rfl⟩
theorem fp_12_18 : FPK 12 18 false (.boolean) := ⟨RX11, TX11, 39, rfl, ⟨tyX11, tyX11_ok, rfl⟩, nmX11, rfl, rfl⟩
theorem fp_12_6 : FPK 12 6 false (.int) := ⟨RX11, TX11, 39, rfl, ⟨tyX11, tyX11_ok, rfl⟩, nmX11, rfl, rfl⟩
theorem fp_12_3 : FPK 12 3 false (.int) := ⟨RX11, TX11, 39, rfl, ⟨tyX11, tyX11_ok, rfl⟩, nmX11, rfl, rfl⟩
theorem fp_12_20 : FPK 12 20 false (.int) := ⟨RX11, TX11, 39, rfl, ⟨tyX11, tyX11_ok, rfl⟩, nmX11, rfl, rfl⟩
theorem fp_12_5 : FPK 12 5 false (.int) := ⟨RX11, TX11, 39, rfl, ⟨tyX11, tyX11_ok, rfl⟩, nmX11, rfl, rfl⟩
theorem fp_12_27 : FPK 12 27 false (.int) := ⟨RX11, TX11, 39, rfl, ⟨tyX11, tyX11_ok, rfl⟩, nmX11, rfl, rfl⟩
theorem fp_12_36 : FPK 12 36 false (.int) := ⟨RX11, TX11, 39, rfl, ⟨tyX11, tyX11_ok, rfl⟩, nmX11, rfl, rfl⟩
theorem fp_12_35 : FPK 12 35 false (.int) := ⟨RX11, TX11, 39, rfl, ⟨tyX11, tyX11_ok, rfl⟩, nmX11, rfl, rfl⟩
theorem hd_X11_in : yX11_in.cls ≠ "java/lang/invoke/MethodHandle" ∧ yX11_in.cls ≠ "java/lang/invoke/VarHandle" ∧ (parseMethodDescriptor yX11_in.desc).map (fun d => d.parameters.length) = some 3 := by decide +kernel
theorem hdV_X11_addCell : yX11_addCell.cls = RX11 ∧ yX11_addCell.cls ≠ "java/lang/invoke/MethodHandle" ∧ yX11_addCell.cls ≠ "java/lang/invoke/VarHandle" ∧ (parseMethodDescriptor yX11_addCell.desc).map (fun d => d.parameters.length) = some 0 := by decide +kernel
theorem hdV_X11_takeNumber : yX11_takeNumber.cls = RX11 ∧ yX11_takeNumber.cls ≠ "java/lang/invoke/MethodHandle" ∧ yX11_takeNumber.cls ≠ "java/lang/invoke/VarHandle" ∧ (parseMethodDescriptor yX11_takeNumber.desc).map (fun d => d.parameters.length) = some 0 := by decide +kernel
theorem hdV_X11_takeSign : yX11_takeSign.cls = RX11 ∧ yX11_takeSign.cls ≠ "java/lang/invoke/MethodHandle" ∧ yX11_takeSign.cls ≠ "java/lang/invoke/VarHandle" ∧ (parseMethodDescriptor yX11_takeSign.desc).map (fun d => d.parameters.length) = some 1 := by decide +kernel
theorem hd_X11_isColour : yX11_isColour.cls ≠ "java/lang/invoke/MethodHandle" ∧ yX11_isColour.cls ≠ "java/lang/invoke/VarHandle" ∧ (parseMethodDescriptor yX11_isColour.desc).map (fun d => d.parameters.length) = some 1 := by decide +kernel
theorem hdV_X11_goRun : yX11_goRun.cls = RX11 ∧ yX11_goRun.cls ≠ "java/lang/invoke/MethodHandle" ∧ yX11_goRun.cls ≠ "java/lang/invoke/VarHandle" ∧ (parseMethodDescriptor yX11_goRun.desc).map (fun d => d.parameters.length) = some 2 := by decide +kernel
theorem hdV_X11_beginLine : yX11_beginLine.cls = RX11 ∧ yX11_beginLine.cls ≠ "java/lang/invoke/MethodHandle" ∧ yX11_beginLine.cls ≠ "java/lang/invoke/VarHandle" ∧ (parseMethodDescriptor yX11_beginLine.desc).map (fun d => d.parameters.length) = some 2 := by decide +kernel
theorem hdV_X11_readTheBag : yX11_readTheBag.cls = RX11 ∧ yX11_readTheBag.cls ≠ "java/lang/invoke/MethodHandle" ∧ yX11_readTheBag.cls ≠ "java/lang/invoke/VarHandle" ∧ (parseMethodDescriptor yX11_readTheBag.desc).map (fun d => d.parameters.length) = some 0 := by decide +kernel
theorem hdV_X11_readLine : yX11_readLine.cls = RX11 ∧ yX11_readLine.cls ≠ "java/lang/invoke/MethodHandle" ∧ yX11_readLine.cls ≠ "java/lang/invoke/VarHandle" ∧ (parseMethodDescriptor yX11_readLine.desc).map (fun d => d.parameters.length) = some 0 := by decide +kernel
theorem hdV_X11_readSizes : yX11_readSizes.cls = RX11 ∧ yX11_readSizes.cls ≠ "java/lang/invoke/MethodHandle" ∧ yX11_readSizes.cls ≠ "java/lang/invoke/VarHandle" ∧ (parseMethodDescriptor yX11_readSizes.desc).map (fun d => d.parameters.length) = some 0 := by decide +kernel
theorem hdV_X11_readItem : yX11_readItem.cls = RX11 ∧ yX11_readItem.cls ≠ "java/lang/invoke/MethodHandle" ∧ yX11_readItem.cls ≠ "java/lang/invoke/VarHandle" ∧ (parseMethodDescriptor yX11_readItem.desc).map (fun d => d.parameters.length) = some 0 := by decide +kernel
theorem hdV_X11_begin : yX11_begin.cls = RX11 ∧ yX11_begin.cls ≠ "java/lang/invoke/MethodHandle" ∧ yX11_begin.cls ≠ "java/lang/invoke/VarHandle" ∧ (parseMethodDescriptor yX11_begin.desc).map (fun d => d.parameters.length) = some 0 := by decide +kernel
theorem hdV_X11_readText : yX11_readText.cls = RX11 ∧ yX11_readText.cls ≠ "java/lang/invoke/MethodHandle" ∧ yX11_readText.cls ≠ "java/lang/invoke/VarHandle" ∧ (parseMethodDescriptor yX11_readText.desc).map (fun d => d.parameters.length) = some 0 := by decide +kernel
theorem hdV_X11_takeRead : yX11_takeRead.cls = RX11 ∧ yX11_takeRead.cls ≠ "java/lang/invoke/MethodHandle" ∧ yX11_takeRead.cls ≠ "java/lang/invoke/VarHandle" ∧ (parseMethodDescriptor yX11_takeRead.desc).map (fun d => d.parameters.length) = some 0 := by decide +kernel
theorem hd_X11_bring : yX11_bring.cls ≠ "java/lang/invoke/MethodHandle" ∧ yX11_bring.cls ≠ "java/lang/invoke/VarHandle" ∧ (parseMethodDescriptor yX11_bring.desc).map (fun d => d.parameters.length) = some 4 := by decide +kernel
theorem hdV_X11_note : yX11_note.cls = RX11 ∧ yX11_note.cls ≠ "java/lang/invoke/MethodHandle" ∧ yX11_note.cls ≠ "java/lang/invoke/VarHandle" ∧ (parseMethodDescriptor yX11_note.desc).map (fun d => d.parameters.length) = some 0 := by decide +kernel
theorem hdV_X11_isLine : yX11_isLine.cls = RX11 ∧ yX11_isLine.cls ≠ "java/lang/invoke/MethodHandle" ∧ yX11_isLine.cls ≠ "java/lang/invoke/VarHandle" ∧ (parseMethodDescriptor yX11_isLine.desc).map (fun d => d.parameters.length) = some 1 := by decide +kernel
theorem hdV_X11_ownMany : yX11_ownMany.cls = RX11 ∧ yX11_ownMany.cls ≠ "java/lang/invoke/MethodHandle" ∧ yX11_ownMany.cls ≠ "java/lang/invoke/VarHandle" ∧ (parseMethodDescriptor yX11_ownMany.desc).map (fun d => d.parameters.length) = some 1 := by decide +kernel
theorem hdV_X11_endPiece : yX11_endPiece.cls = RX11 ∧ yX11_endPiece.cls ≠ "java/lang/invoke/MethodHandle" ∧ yX11_endPiece.cls ≠ "java/lang/invoke/VarHandle" ∧ (parseMethodDescriptor yX11_endPiece.desc).map (fun d => d.parameters.length) = some 2 := by decide +kernel
theorem hdV_X11_isCovered : yX11_isCovered.cls = RX11 ∧ yX11_isCovered.cls ≠ "java/lang/invoke/MethodHandle" ∧ yX11_isCovered.cls ≠ "java/lang/invoke/VarHandle" ∧ (parseMethodDescriptor yX11_isCovered.desc).map (fun d => d.parameters.length) = some 1 := by decide +kernel
theorem hdV_X11_findPieces : yX11_findPieces.cls = RX11 ∧ yX11_findPieces.cls ≠ "java/lang/invoke/MethodHandle" ∧ yX11_findPieces.cls ≠ "java/lang/invoke/VarHandle" ∧ (parseMethodDescriptor yX11_findPieces.desc).map (fun d => d.parameters.length) = some 1 := by decide +kernel
theorem hdV_X11_isCutAslant : yX11_isCutAslant.cls = RX11 ∧ yX11_isCutAslant.cls ≠ "java/lang/invoke/MethodHandle" ∧ yX11_isCutAslant.cls ≠ "java/lang/invoke/VarHandle" ∧ (parseMethodDescriptor yX11_isCutAslant.desc).map (fun d => d.parameters.length) = some 3 := by decide +kernel
theorem hd_X11_oneOf : yX11_oneOf.cls ≠ "java/lang/invoke/MethodHandle" ∧ yX11_oneOf.cls ≠ "java/lang/invoke/VarHandle" ∧ (parseMethodDescriptor yX11_oneOf.desc).map (fun d => d.parameters.length) = some 1 := by decide +kernel
theorem hdV_X11_costAt : yX11_costAt.cls = RX11 ∧ yX11_costAt.cls ≠ "java/lang/invoke/MethodHandle" ∧ yX11_costAt.cls ≠ "java/lang/invoke/VarHandle" ∧ (parseMethodDescriptor yX11_costAt.desc).map (fun d => d.parameters.length) = some 2 := by decide +kernel
theorem hdV_X11_costBy : yX11_costBy.cls = RX11 ∧ yX11_costBy.cls ≠ "java/lang/invoke/MethodHandle" ∧ yX11_costBy.cls ≠ "java/lang/invoke/VarHandle" ∧ (parseMethodDescriptor yX11_costBy.desc).map (fun d => d.parameters.length) = some 4 := by decide +kernel
theorem hdV_X11_leastAt : yX11_leastAt.cls = RX11 ∧ yX11_leastAt.cls ≠ "java/lang/invoke/MethodHandle" ∧ yX11_leastAt.cls ≠ "java/lang/invoke/VarHandle" ∧ (parseMethodDescriptor yX11_leastAt.desc).map (fun d => d.parameters.length) = some 2 := by decide +kernel
theorem hdV_X11_firstStone : yX11_firstStone.cls = RX11 ∧ yX11_firstStone.cls ≠ "java/lang/invoke/MethodHandle" ∧ yX11_firstStone.cls ≠ "java/lang/invoke/VarHandle" ∧ (parseMethodDescriptor yX11_firstStone.desc).map (fun d => d.parameters.length) = some 3 := by decide +kernel
theorem hdV_X11_layRest : yX11_layRest.cls = RX11 ∧ yX11_layRest.cls ≠ "java/lang/invoke/MethodHandle" ∧ yX11_layRest.cls ≠ "java/lang/invoke/VarHandle" ∧ (parseMethodDescriptor yX11_layRest.desc).map (fun d => d.parameters.length) = some 0 := by decide +kernel
theorem hdV_X11_findWay : yX11_findWay.cls = RX11 ∧ yX11_findWay.cls ≠ "java/lang/invoke/MethodHandle" ∧ yX11_findWay.cls ≠ "java/lang/invoke/VarHandle" ∧ (parseMethodDescriptor yX11_findWay.desc).map (fun d => d.parameters.length) = some 2 := by decide +kernel
theorem hdV_X11_coverBy : yX11_coverBy.cls = RX11 ∧ yX11_coverBy.cls ≠ "java/lang/invoke/MethodHandle" ∧ yX11_coverBy.cls ≠ "java/lang/invoke/VarHandle" ∧ (parseMethodDescriptor yX11_coverBy.desc).map (fun d => d.parameters.length) = some 2 := by decide +kernel
theorem hdV_X11_layTurns : yX11_layTurns.cls = RX11 ∧ yX11_layTurns.cls ≠ "java/lang/invoke/MethodHandle" ∧ yX11_layTurns.cls ≠ "java/lang/invoke/VarHandle" ∧ (parseMethodDescriptor yX11_layTurns.desc).map (fun d => d.parameters.length) = some 1 := by decide +kernel
theorem hdV_X11_isTurns : yX11_isTurns.cls = RX11 ∧ yX11_isTurns.cls ≠ "java/lang/invoke/MethodHandle" ∧ yX11_isTurns.cls ≠ "java/lang/invoke/VarHandle" ∧ (parseMethodDescriptor yX11_isTurns.desc).map (fun d => d.parameters.length) = some 1 := by decide +kernel
theorem hdV_X11_cutsByTurns : yX11_cutsByTurns.cls = RX11 ∧ yX11_cutsByTurns.cls ≠ "java/lang/invoke/MethodHandle" ∧ yX11_cutsByTurns.cls ≠ "java/lang/invoke/VarHandle" ∧ (parseMethodDescriptor yX11_cutsByTurns.desc).map (fun d => d.parameters.length) = some 1 := by decide +kernel
theorem hdV_X11_isOn : yX11_isOn.cls = RX11 ∧ yX11_isOn.cls ≠ "java/lang/invoke/MethodHandle" ∧ yX11_isOn.cls ≠ "java/lang/invoke/VarHandle" ∧ (parseMethodDescriptor yX11_isOn.desc).map (fun d => d.parameters.length) = some 2 := by decide +kernel
theorem hdV_X11_sharedCells : yX11_sharedCells.cls = RX11 ∧ yX11_sharedCells.cls ≠ "java/lang/invoke/MethodHandle" ∧ yX11_sharedCells.cls ≠ "java/lang/invoke/VarHandle" ∧ (parseMethodDescriptor yX11_sharedCells.desc).map (fun d => d.parameters.length) = some 0 := by decide +kernel
theorem gd_RX11_110 : GoodIn tb (va_wsS RX11 110 yX11_in (wT yX11_in cX11_in 3 (Option.some Jvm.ClassFile.FieldType.boolean))) := good_app (in3 tw872 tw873 tw81) (wT_good tw874)
theorem gd_RX11_130 : GoodIn tb (wsV RX11 130 RX11 yX11_addCell (wT yX11_addCell cX11_addCell 5 (Option.some Jvm.ClassFile.FieldType.boolean))) := good_app (in4 tw875 tw877 tw35 tw81) (wT_good tw878)
theorem gd_RX11_140 : GoodIn tb (wsV RX11 140 RX11 yX11_takeNumber (wT yX11_takeNumber cX11_takeNumber 3 (Option.some Jvm.ClassFile.FieldType.int))) := good_app (in4 tw1025 tw1027 tw40 tw81) (wT_good tw1028)
theorem gd_RX11_144 : GoodIn tb (wsV RX11 144 RX11 yX11_takeSign (wT yX11_takeSign cX11_takeSign 3 (Option.some Jvm.ClassFile.FieldType.boolean))) := good_app (in4 tw1029 tw1031 tw41 tw81) (wT_good tw1032)
theorem gd_RX11_148 : GoodIn tb (va_wsS RX11 148 yX11_isColour (wT yX11_isColour cX11_isColour 1 (Option.some Jvm.ClassFile.FieldType.boolean))) := good_app (in3 tw1037 tw1038 tw81) (wT_good tw1039)
theorem gd_RX11_96 : GoodIn tb (wsV RX11 96 RX11 yX11_goRun (wT yX11_goRun cX11_goRun 7 (Option.some Jvm.ClassFile.FieldType.boolean))) := good_app (in4 tw868 tw870 tw34 tw81) (wT_good tw871)
theorem gd_RX11_92 : GoodIn tb (wsV RX11 92 RX11 yX11_beginLine (wT yX11_beginLine cX11_beginLine 3 (Option.none : Option Jvm.ClassFile.FieldType))) := good_app (in4 tw864 tw866 tw33 tw81) (wT_good tw867)
theorem gd_RX11_154 : GoodIn tb (wsV RX11 154 RX11 yX11_readTheBag (wT yX11_readTheBag cX11_readTheBag 6 (Option.some Jvm.ClassFile.FieldType.boolean))) := good_app (in4 tw1033 tw1035 tw42 tw81) (wT_good tw1036)
theorem gd_RX11_157 : GoodIn tb (wsV RX11 157 RX11 yX11_readLine (wT yX11_readLine cX11_readLine 7 (Option.some Jvm.ClassFile.FieldType.boolean))) := good_app (in4 tw1040 tw1042 tw43 tw81) (wT_good tw1043)
theorem gd_RX11_151 : GoodIn tb (wsV RX11 151 RX11 yX11_readSizes (wT yX11_readSizes cX11_readSizes 6 (Option.some Jvm.ClassFile.FieldType.boolean))) := good_app (in4 tw1021 tw1023 tw39 tw81) (wT_good tw1024)
theorem gd_RX11_160 : GoodIn tb (wsV RX11 160 RX11 yX11_readItem (wT yX11_readItem cX11_readItem 3 (Option.some Jvm.ClassFile.FieldType.boolean))) := good_app (in4 tw1017 tw1019 tw38 tw81) (wT_good tw1020)
theorem gd_RX11_89 : GoodIn tb (wsV RX11 89 RX11 yX11_begin (wT yX11_begin cX11_begin 2 (Option.none : Option Jvm.ClassFile.FieldType))) := good_app (in4 tw860 tw862 tw32 tw81) (wT_good tw863)
theorem gd_RX11_166 : GoodIn tb (wsV RX11 166 RX11 yX11_readText (wT yX11_readText cX11_readText 2 (Option.some Jvm.ClassFile.FieldType.int))) := good_app (in4 tw1013 tw1015 tw37 tw81) (wT_good tw1016)
theorem gd_RX11_104 : GoodIn tb (wsV RX11 104 RX11 yX11_takeRead (wT yX11_takeRead cX11_takeRead 2 (Option.none : Option Jvm.ClassFile.FieldType))) := good_app (in4 tw879 tw881 tw36 tw81) (wT_good tw882)
theorem gd_RX11_169 : GoodIn tb (va_wsS RX11 169 yX11_bring (wT yX11_bring cX11_bring 5 (Option.none : Option Jvm.ClassFile.FieldType))) := good_app (in3 tw1052 tw1053 tw81) (wT_good tw1054)
theorem gd_RX11_173 : GoodIn tb (wsV RX11 173 RX11 yX11_note (wT yX11_note cX11_note 2 (Option.none : Option Jvm.ClassFile.FieldType))) := good_app (in4 tw1059 tw1061 tw44 tw81) (wT_good tw1062)
theorem gd_RX11_176 : GoodIn tb (wsV RX11 176 RX11 yX11_isLine (wT yX11_isLine cX11_isLine 2 (Option.some Jvm.ClassFile.FieldType.boolean))) := good_app (in4 tw1067 tw1069 tw45 tw81) (wT_good tw1070)
theorem gd_RX11_179 : GoodIn tb (wsV RX11 179 RX11 yX11_ownMany (wT yX11_ownMany cX11_ownMany 4 (Option.some Jvm.ClassFile.FieldType.int))) := good_app (in4 tw1071 tw1073 tw46 tw81) (wT_good tw1074)
theorem gd_RX11_186 : GoodIn tb (wsV RX11 186 RX11 yX11_endPiece (wT yX11_endPiece cX11_endPiece 3 (Option.none : Option Jvm.ClassFile.FieldType))) := good_app (in4 tw1095 tw1097 tw49 tw81) (wT_good tw1098)
theorem gd_RX11_190 : GoodIn tb (wsV RX11 190 RX11 yX11_isCovered (wT yX11_isCovered cX11_isCovered 2 (Option.some Jvm.ClassFile.FieldType.boolean))) := good_app (in4 tw1087 tw1089 tw47 tw81) (wT_good tw1090)
theorem gd_RX11_193 : GoodIn tb (wsV RX11 193 RX11 yX11_findPieces (wT yX11_findPieces cX11_findPieces 7 (Option.none : Option Jvm.ClassFile.FieldType))) := good_app (in4 tw1091 tw1093 tw48 tw81) (wT_good tw1094)
theorem gd_RX11_205 : GoodIn tb (wsV RX11 205 RX11 yX11_isCutAslant (wT yX11_isCutAslant cX11_isCutAslant 4 (Option.some Jvm.ClassFile.FieldType.boolean))) := good_app (in4 tw1127 tw1129 tw55 tw81) (wT_good tw1130)
theorem gd_RX11_197 : GoodIn tb (va_wsS RX11 197 yX11_oneOf (wT yX11_oneOf cX11_oneOf 1 (Option.some Jvm.ClassFile.FieldType.int))) := good_app (in3 tw1120 tw1121 tw81) (wT_good tw1122)
theorem gd_RX11_201 : GoodIn tb (wsV RX11 201 RX11 yX11_costAt (wT yX11_costAt cX11_costAt 4 (Option.some Jvm.ClassFile.FieldType.int))) := good_app (in4 tw1123 tw1125 tw54 tw81) (wT_good tw1126)
theorem gd_RX11_208 : GoodIn tb (wsV RX11 208 RX11 yX11_costBy (wT yX11_costBy cX11_costBy 8 (Option.some Jvm.ClassFile.FieldType.int))) := good_app (in4 tw1116 tw1118 tw53 tw81) (wT_good tw1119)
theorem gd_RX11_215 : GoodIn tb (wsV RX11 215 RX11 yX11_leastAt (wT yX11_leastAt cX11_leastAt 7 (Option.some Jvm.ClassFile.FieldType.int))) := good_app (in4 tw1111 tw1113 tw52 tw81) (wT_good tw1114)
theorem gd_RX11_224 : GoodIn tb (wsV RX11 224 RX11 yX11_firstStone (wT yX11_firstStone cX11_firstStone 8 (Option.some Jvm.ClassFile.FieldType.int))) := good_app (in4 tw1131 tw1133 tw56 tw81) (wT_good tw1134)
theorem gd_RX11_212 : GoodIn tb (wsV RX11 212 RX11 yX11_layRest (wT yX11_layRest cX11_layRest 4 (Option.some Jvm.ClassFile.FieldType.int))) := good_app (in4 tw1107 tw1109 tw51 tw81) (wT_good tw1110)
theorem gd_RX11_228 : GoodIn tb (wsV RX11 228 RX11 yX11_findWay (wT yX11_findWay cX11_findWay 11 (Option.some Jvm.ClassFile.FieldType.boolean))) := good_app (in4 tw1103 tw1105 tw50 tw81) (wT_good tw1106)
theorem gd_RX11_231 : GoodIn tb (wsV RX11 231 RX11 yX11_coverBy (wT yX11_coverBy cX11_coverBy 7 (Option.none : Option Jvm.ClassFile.FieldType))) := good_app (in4 tw1143 tw1145 tw57 tw81) (wT_good tw1146)
theorem gd_RX11_234 : GoodIn tb (wsV RX11 234 RX11 yX11_layTurns (wT yX11_layTurns cX11_layTurns 2 (Option.none : Option Jvm.ClassFile.FieldType))) := good_app (in4 tw1155 tw1157 tw58 tw81) (wT_good tw1158)
theorem gd_RX11_237 : GoodIn tb (wsV RX11 237 RX11 yX11_isTurns (wT yX11_isTurns cX11_isTurns 5 (Option.some Jvm.ClassFile.FieldType.boolean))) := good_app (in4 tw1159 tw1161 tw59 tw81) (wT_good tw1162)
theorem gd_RX11_240 : GoodIn tb (wsV RX11 240 RX11 yX11_cutsByTurns (wT yX11_cutsByTurns cX11_cutsByTurns 4 (Option.some Jvm.ClassFile.FieldType.int))) := good_app (in4 tw1163 tw1165 tw60 tw81) (wT_good tw1166)
theorem gd_RX11_243 : GoodIn tb (wsV RX11 243 RX11 yX11_isOn (wT yX11_isOn cX11_isOn 5 (Option.some Jvm.ClassFile.FieldType.boolean))) := good_app (in4 tw1179 tw1181 tw61 tw81) (wT_good tw1182)
theorem gd_RX11_246 : GoodIn tb (wsV RX11 246 RX11 yX11_sharedCells (wT yX11_sharedCells cX11_sharedCells 5 (Option.some Jvm.ClassFile.FieldType.int))) := good_app (in4 tw1187 tw1189 tw62 tw81) (wT_good tw1190)
abbrev rX11_in : Room := { frames := 0, cells := 0, slots := 0, locals := 0 }
abbrev rX11_isLine : Room := { frames := 1, cells := 0, slots := 0, locals := 22 }
abbrev rX11_isColour : Room := { frames := 1, cells := 0, slots := 0, locals := 22 }
abbrev rX11_isCovered : Room := { frames := 0, cells := 0, slots := 0, locals := 0 }
abbrev rX11_begin : Room := { frames := 0, cells := 0, slots := 0, locals := 0 }
abbrev rX11_beginLine : Room := { frames := 0, cells := 0, slots := 0, locals := 0 }
abbrev rX11_addCell : Room := { frames := 1, cells := 0, slots := 0, locals := 22 }
abbrev rX11_goRun : Room := { frames := 2, cells := 0, slots := 0, locals := 46 }
abbrev rX11_takeSign : Room := { frames := 0, cells := 0, slots := 0, locals := 0 }
abbrev rX11_takeNumber : Room := { frames := 1, cells := 0, slots := 0, locals := 22 }
abbrev rX11_readSizes : Room := { frames := 2, cells := 0, slots := 0, locals := 44 }
abbrev rX11_readTheBag : Room := { frames := 2, cells := 0, slots := 0, locals := 44 }
abbrev rX11_readLine : Room := { frames := 3, cells := 0, slots := 0, locals := 72 }
abbrev rX11_readItem : Room := { frames := 4, cells := 0, slots := 0, locals := 98 }
abbrev rX11_readText : Room := { frames := 5, cells := 0, slots := 0, locals := 120 }
abbrev rX11_takeRead : Room := { frames := 0, cells := 0, slots := 0, locals := 0 }
abbrev rX11_write : Room := { frames := 1, cells := 0, slots := 0, locals := 22 }
abbrev rX11_wipe : Room := { frames := 0, cells := 0, slots := 0, locals := 0 }
abbrev rX11_fault : Room := { frames := 6, cells := 0, slots := 0, locals := 141 }
abbrev rX11_lay : Room := { frames := 6, cells := 0, slots := 0, locals := 141 }
abbrev rX11_bring : Room := { frames := 0, cells := 0, slots := 0, locals := 0 }
abbrev rX11_note : Room := { frames := 1, cells := 0, slots := 0, locals := 24 }
abbrev rX11_undo : Room := { frames := 1, cells := 0, slots := 0, locals := 24 }
abbrev rX11_joint : Room := { frames := 2, cells := 0, slots := 0, locals := 45 }
abbrev rX11_ownMany : Room := { frames := 0, cells := 0, slots := 0, locals := 0 }
abbrev rX11_line : Room := { frames := 2, cells := 0, slots := 0, locals := 43 }
abbrev rX11_cell : Room := { frames := 2, cells := 0, slots := 0, locals := 43 }
abbrev rX11_whose : Room := { frames := 1, cells := 0, slots := 0, locals := 22 }
abbrev rX11_endPiece : Room := { frames := 0, cells := 0, slots := 0, locals := 0 }
abbrev rX11_findPieces : Room := { frames := 1, cells := 0, slots := 0, locals := 22 }
abbrev rX11_piece : Room := { frames := 2, cells := 0, slots := 0, locals := 48 }
abbrev rX11_costAt : Room := { frames := 0, cells := 0, slots := 0, locals := 0 }
abbrev rX11_oneOf : Room := { frames := 0, cells := 0, slots := 0, locals := 0 }
abbrev rX11_isCutAslant : Room := { frames := 0, cells := 0, slots := 0, locals := 0 }
abbrev rX11_costBy : Room := { frames := 1, cells := 0, slots := 0, locals := 23 }
abbrev rX11_leastAt : Room := { frames := 2, cells := 0, slots := 0, locals := 50 }
abbrev rX11_firstStone : Room := { frames := 2, cells := 0, slots := 0, locals := 50 }
abbrev rX11_layRest : Room := { frames := 0, cells := 0, slots := 0, locals := 0 }
abbrev rX11_findWay : Room := { frames := 3, cells := 0, slots := 0, locals := 77 }
abbrev rX11_way : Room := { frames := 4, cells := 0, slots := 0, locals := 107 }
abbrev rX11_best : Room := { frames := 4, cells := 0, slots := 0, locals := 107 }
abbrev rX11_coverBy : Room := { frames := 0, cells := 0, slots := 0, locals := 0 }
abbrev rX11_cover : Room := { frames := 4, cells := 0, slots := 0, locals := 107 }
abbrev rX11_takeUp : Room := { frames := 2, cells := 0, slots := 0, locals := 45 }
abbrev rX11_isTurns : Room := { frames := 2, cells := 0, slots := 0, locals := 43 }
abbrev rX11_cutsByTurns : Room := { frames := 4, cells := 0, slots := 0, locals := 107 }
abbrev rX11_layTurns : Room := { frames := 0, cells := 0, slots := 0, locals := 0 }
abbrev rX11_order : Room := { frames := 5, cells := 0, slots := 0, locals := 130 }
abbrev rX11_bag : Room := { frames := 2, cells := 0, slots := 0, locals := 42 }
abbrev rX11_fill : Room := { frames := 2, cells := 0, slots := 0, locals := 45 }
abbrev rX11_isOn : Room := { frames := 0, cells := 0, slots := 0, locals := 0 }
abbrev rX11_drawn : Room := { frames := 1, cells := 0, slots := 0, locals := 24 }
abbrev rX11_sharedCells : Room := { frames := 1, cells := 0, slots := 0, locals := 24 }
abbrev rX11_count : Room := { frames := 2, cells := 0, slots := 0, locals := 48 }
