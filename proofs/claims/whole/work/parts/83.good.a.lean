set_option maxRecDepth 20000 in
theorem ggL_law_X7_init : GoodIn wsL_law wsX7_init := goodIn_r _ [8, 9, 10, 11, 12, 13, 14, 15, 16, 17, 18, 19, 20, 21, 22, 23, 24, 25, 26, 27, 28, 29, 30, 31, 32, 33, 34, 35, 36, 37, 38, 39, 40, 41, 42, 43, 44, 45, 46, 47, 48, 49, 50, 51, 52, 53, 54, 55, 56, 57, 58, 59, 60, 61, 62, 63, 64, 65, 66, 67, 68, 69, 70, 71, 72, 73, 74, 75, 76, 77, 78, 79, 80, 81, 82, 83, 84, 85, 86, 87, 88, 89, 90, 91, 92, 93, 94, 95, 96, 97, 98, 99, 100, 101, 102, 103, 104, 105, 106, 107, 1123, 1066, 1067, 1068, 1069, 1070, 1071, 1072, 1073, 1074, 1075, 1076, 1077, 1078, 1079, 1080, 1124, 1125, 1126, 1127, 1128, 1129, 1130, 1131, 1132, 1133, 1134, 1135, 1136, 1137, 1138, 1139, 1140, 1141, 1142, 1143, 1144, 1145, 1146] (by decide +kernel) (by decide +kernel)
set_option maxRecDepth 20000 in
theorem gL_law_X7_init : GoodIn wsL_law (wsX7_init) := ggL_law_X7_init
set_option maxRecDepth 20000 in
theorem ggL_law_X8_init : GoodIn wsL_law wsX8_init := goodIn_r _ [110, 111, 10, 11, 43, 112, 113, 114, 115, 71, 116, 117, 118, 119, 120, 121, 122, 123, 124, 125, 126, 127, 128, 129, 130, 131, 132, 133, 134, 135, 136, 137, 138, 139, 1081, 1082, 1083, 1084, 1085, 1086, 1087, 1088, 1089, 1090, 1091, 1092, 1093, 1094, 1095, 1096, 1097, 1098, 1099, 1100, 1101, 1102, 1103, 1104, 1105, 1106, 1107, 1108, 1109, 1110, 1111, 1112, 1113, 1114, 1115, 1116, 1117, 1118, 1119, 1120, 1121, 1122] (by decide +kernel) (by decide +kernel)
set_option maxRecDepth 20000 in
theorem gL_law_X8_init : GoodIn wsL_law (wsX8_init) := ggL_law_X8_init
set_option maxRecDepth 20000 in
theorem ggL_law_X7_appendBytes : GoodIn wsL_law wsX7_appendBytes := goodIn_r _ [143, 19, 144, 145, 146, 147, 2, 148, 149, 150, 151, 18, 152, 62, 61, 1066, 1067, 1068, 1069, 1070, 1071, 1072, 1073, 1074, 1075, 1076, 1077, 1078, 1079, 1080, 1124, 1125] (by decide +kernel) (by decide +kernel)
set_option maxRecDepth 20000 in
theorem gL_law_X7_appendBytes : GoodIn wsL_law (wsV RL 13 RX7 yX7_appendBytes wsX7_appendBytes) := goodIn_app (goodIn_of _ (by decide +kernel)) ggL_law_X7_appendBytes
set_option maxRecDepth 20000 in
theorem ggL_law_X8_appendBytes : GoodIn wsL_law wsX8_appendBytes := goodIn_r _ [156, 157, 158, 112, 1081, 1082, 1083, 1084, 1085, 1086, 1087, 1088, 1089, 1090, 1091, 1092, 1093, 1094, 1095, 1096, 1097, 1098, 1099, 1100, 1101, 1102, 1103, 1104, 1105, 1106, 1107, 1108, 1109, 1110, 1111, 1112, 1113, 1114, 1115, 1116, 1117, 1118, 1119, 1120, 1121, 1122] (by decide +kernel) (by decide +kernel)
set_option maxRecDepth 20000 in
theorem gL_law_X8_appendBytes : GoodIn wsL_law (wsV RL 17 RX8 yX8_appendBytes wsX8_appendBytes) := goodIn_app (goodIn_of _ (by decide +kernel)) ggL_law_X8_appendBytes
set_option maxRecDepth 20000 in
theorem ggL_law_X7_bufferLength : GoodIn wsL_law wsX7_bufferLength := goodIn_r _ [162, 19, 144, 1066, 1067, 1068, 1069, 1070, 1071, 1072, 1073, 1074, 1075, 1076, 1077, 1078, 1079, 1080, 1124, 1125] (by decide +kernel) (by decide +kernel)
set_option maxRecDepth 20000 in
theorem gL_law_X7_bufferLength : GoodIn wsL_law (wsV RL 18 RX7 yX7_bufferLength wsX7_bufferLength) := goodIn_app (goodIn_of _ (by decide +kernel)) ggL_law_X7_bufferLength
set_option maxRecDepth 20000 in
theorem ggL_law_X8_bufferLength : GoodIn wsL_law wsX8_bufferLength := goodIn_r _ [166, 157, 158, 1081, 1082, 1083, 1084, 1085, 1086, 1087, 1088, 1089, 1090, 1091, 1092, 1093, 1094, 1095, 1096, 1097, 1098, 1099, 1100, 1101, 1102, 1103, 1104, 1105, 1106, 1107, 1108, 1109, 1110, 1111, 1112, 1113, 1114, 1115, 1116, 1117, 1118, 1119, 1120, 1121, 1122] (by decide +kernel) (by decide +kernel)
set_option maxRecDepth 20000 in
theorem gL_law_X8_bufferLength : GoodIn wsL_law (wsV RL 22 RX8 yX8_bufferLength wsX8_bufferLength) := goodIn_app (goodIn_of _ (by decide +kernel)) ggL_law_X8_bufferLength
set_option maxRecDepth 20000 in
theorem ggL_law_X7_addKeyword : GoodIn wsL_law wsX7_addKeyword := goodIn_r _ [170, 23, 19, 47, 27, 32, 171, 172, 173, 2, 174, 144, 175, 176, 177, 178, 179, 180, 181, 182, 183, 184, 185, 186, 187, 18, 188, 62, 61, 189, 190, 191, 22, 192, 73, 72, 69, 193, 194, 195, 196, 197, 67, 68, 198, 199, 200, 201, 202, 203, 204, 205, 206, 207, 208, 209, 210, 211, 212, 213, 14, 214, 215, 216, 217, 218, 219, 220, 59, 221, 222, 58, 60, 223, 224, 225, 226, 227, 228, 229, 230, 231, 70, 74, 232, 233, 234, 235, 26, 236, 80, 79, 237, 238, 239, 240, 241, 242, 243, 33, 244, 245, 246, 247, 37, 248, 249, 250, 251, 252, 36, 253, 99, 254, 255, 256, 257, 258, 259, 260, 261, 31, 262, 93, 263, 264, 265, 266, 1066, 1067, 1068, 1069, 1070, 1071, 1072, 1073, 1074, 1075, 1076, 1077, 1078, 1079, 1080, 1124, 1125, 1126, 1127, 1128, 1129, 1130, 1131, 1132, 1123, 1133, 1134, 1143, 1135, 1136, 1137, 1138, 1139, 1140, 1141, 1142] (by decide +kernel) (by decide +kernel)
set_option maxRecDepth 20000 in
theorem gL_law_X7_addKeyword : GoodIn wsL_law (wsV RL 23 RX7 yX7_addKeyword wsX7_addKeyword) := goodIn_app (goodIn_of _ (by decide +kernel)) ggL_law_X7_addKeyword
set_option maxRecDepth 20000 in
theorem ggL_law_X8_addKeyword : GoodIn wsL_law wsX8_addKeyword := goodIn_r _ [270, 157, 158, 271, 272, 113, 115, 116, 114, 112, 273, 274, 275, 5, 276, 277, 278, 279, 280, 281, 282, 283, 284, 285, 286, 287, 288, 289, 290, 291, 292, 293, 294, 295, 296, 297, 298, 299, 300, 301, 302, 303, 304, 305, 306, 307, 308, 309, 310, 311, 312, 313, 314, 119, 117, 118, 315, 1081, 1082, 1083, 1084, 1085, 1086, 1087, 1088, 1089, 1090, 1091, 1092, 1093, 1094, 1095, 1096, 1097, 1098, 1099, 1100, 1101, 1102, 1103, 1104, 1105, 1106, 1107, 1108, 1109, 1110, 1111, 1112, 1113, 1114, 1115, 1116, 1117, 1118, 1119, 1120, 1121, 1122] (by decide +kernel) (by decide +kernel)
set_option maxRecDepth 20000 in
theorem gL_law_X8_addKeyword : GoodIn wsL_law (wsV RL 27 RX8 yX8_addKeyword wsX8_addKeyword) := goodIn_app (goodIn_of _ (by decide +kernel)) ggL_law_X8_addKeyword
set_option maxRecDepth 20000 in
theorem ggL_law_X7_removeKeyword : GoodIn wsL_law wsX7_removeKeyword := goodIn_r _ [319, 23, 32, 47, 28, 320, 27, 179, 321, 322, 323, 22, 324, 72, 203, 204, 205, 206, 73, 325, 326, 327, 2, 328, 33, 144, 37, 249, 200, 201, 202, 69, 329, 330, 331, 36, 332, 99, 254, 256, 257, 258, 250, 251, 252, 253, 255, 333, 334, 335, 336, 74, 337, 259, 260, 261, 31, 262, 93, 233, 234, 235, 26, 236, 80, 79, 237, 238, 239, 338, 339, 340, 341, 48, 180, 342, 343, 344, 345, 1066, 1067, 1068, 1069, 1070, 1071, 1072, 1073, 1074, 1075, 1076, 1077, 1078, 1079, 1080, 1133, 1134, 1126, 1127, 1128, 1129, 1130, 1131, 1132, 1124, 1125, 1143, 1135, 1136, 1137, 1138, 1139, 1140, 1141, 1142] (by decide +kernel) (by decide +kernel)
set_option maxRecDepth 20000 in
theorem gL_law_X7_removeKeyword : GoodIn wsL_law (wsV RL 28 RX7 yX7_removeKeyword wsX7_removeKeyword) := goodIn_app (goodIn_of _ (by decide +kernel)) ggL_law_X7_removeKeyword
set_option maxRecDepth 20000 in
theorem ggL_law_X8_removeKeyword : GoodIn wsL_law wsX8_removeKeyword := goodIn_r _ [349, 157, 116, 273, 350, 351, 352, 5, 353, 354, 355, 356, 357, 272, 274, 275, 276, 311, 312, 313, 314, 119, 117, 118, 315, 358, 359, 360, 361, 362, 363, 364, 365, 366, 307, 308, 309, 310, 1081, 1082, 1083, 1084, 1085, 1086, 1087, 1088, 1089, 1090, 1091, 1092, 1093, 1094, 1095, 1096, 1097, 1098, 1099, 1100, 1101, 1102, 1103, 1104, 1105, 1106, 1107, 1108, 1109, 1110, 1111, 1112, 1113, 1114, 1115, 1116, 1117, 1118, 1119, 1120, 1121, 1122] (by decide +kernel) (by decide +kernel)
set_option maxRecDepth 20000 in
theorem gL_law_X8_removeKeyword : GoodIn wsL_law (wsV RL 32 RX8 yX8_removeKeyword wsX8_removeKeyword) := goodIn_app (goodIn_of _ (by decide +kernel)) ggL_law_X8_removeKeyword
set_option maxRecDepth 20000 in
theorem ggL_law_X7_findKeyword : GoodIn wsL_law wsX7_findKeyword := goodIn_r _ [370, 23, 19, 171, 172, 173, 2, 174, 144, 189, 190, 191, 22, 192, 73, 72, 69, 193, 194, 195, 196, 197, 67, 68, 198, 199, 200, 201, 202, 203, 204, 205, 206, 207, 208, 209, 210, 211, 212, 213, 14, 214, 215, 216, 217, 218, 219, 220, 59, 221, 222, 58, 60, 223, 224, 225, 226, 227, 263, 264, 265, 18, 266, 62, 1066, 1067, 1068, 1069, 1070, 1071, 1072, 1073, 1074, 1075, 1076, 1077, 1078, 1079, 1080, 1124, 1125, 1126, 1127, 1128, 1129, 1130, 1131, 1132, 1123] (by decide +kernel) (by decide +kernel)
set_option maxRecDepth 20000 in
theorem gL_law_X7_findKeyword : GoodIn wsL_law (wsV RL 33 RX7 yX7_findKeyword wsX7_findKeyword) := goodIn_app (goodIn_of _ (by decide +kernel)) ggL_law_X7_findKeyword
set_option maxRecDepth 20000 in
theorem ggL_law_X8_findKeyword : GoodIn wsL_law wsX8_findKeyword := goodIn_r _ [374, 157, 158, 274, 275, 5, 276, 284, 285, 286, 287, 272, 116, 288, 289, 290, 291, 113, 112, 292, 293, 294, 295, 114, 296, 297, 298, 299, 300, 301, 302, 303, 304, 305, 306, 1081, 1082, 1083, 1084, 1085, 1086, 1087, 1088, 1089, 1090, 1091, 1092, 1093, 1094, 1095, 1096, 1097, 1098, 1099, 1100, 1101, 1102, 1103, 1104, 1105, 1106, 1107, 1108, 1109, 1110, 1111, 1112, 1113, 1114, 1115, 1116, 1117, 1118, 1119, 1120, 1121, 1122] (by decide +kernel) (by decide +kernel)
set_option maxRecDepth 20000 in
theorem gL_law_X8_findKeyword : GoodIn wsL_law (wsV RL 36 RX8 yX8_findKeyword wsX8_findKeyword) := goodIn_app (goodIn_of _ (by decide +kernel)) ggL_law_X8_findKeyword
set_option maxRecDepth 20000 in
theorem ggL_law_X7_keywordLength : GoodIn wsL_law wsX7_keywordLength := goodIn_r _ [378, 23, 379, 204, 205, 22, 206, 73, 249, 200, 201, 202, 69, 203, 1066, 1067, 1068, 1069, 1070, 1071, 1072, 1073, 1074, 1075, 1076, 1077, 1078, 1079, 1080, 1126, 1127, 1128, 1129, 1130, 1131, 1132] (by decide +kernel) (by decide +kernel)
set_option maxRecDepth 20000 in
theorem gL_law_X7_keywordLength : GoodIn wsL_law (wsV RL 37 RX7 yX7_keywordLength wsX7_keywordLength) := goodIn_app (goodIn_of _ (by decide +kernel)) ggL_law_X7_keywordLength
set_option maxRecDepth 20000 in
theorem ggL_law_X8_keywordLength : GoodIn wsL_law wsX8_keywordLength := goodIn_r _ [383, 157, 113, 354, 355, 356, 5, 357, 272, 274, 275, 276, 1081, 1082, 1083, 1084, 1085, 1086, 1087, 1088, 1089, 1090, 1091, 1092, 1093, 1094, 1095, 1096, 1097, 1098, 1099, 1100, 1101, 1102, 1103, 1104, 1105, 1106, 1107, 1108, 1109, 1110, 1111, 1112, 1113, 1114, 1115, 1116, 1117, 1118, 1119, 1120, 1121, 1122] (by decide +kernel) (by decide +kernel)
set_option maxRecDepth 20000 in
theorem gL_law_X8_keywordLength : GoodIn wsL_law (wsV RL 40 RX8 yX8_keywordLength wsX8_keywordLength) := goodIn_app (goodIn_of _ (by decide +kernel)) ggL_law_X8_keywordLength
set_option maxRecDepth 20000 in
theorem ggL_law_X7_keywordByte : GoodIn wsL_law wsX7_keywordByte := goodIn_r _ [387, 23, 379, 204, 205, 22, 206, 73, 388, 389, 390, 391, 68, 199, 200, 201, 202, 69, 203, 207, 208, 209, 210, 1066, 1067, 1068, 1069, 1070, 1071, 1072, 1073, 1074, 1075, 1076, 1077, 1078, 1079, 1080, 1126, 1127, 1128, 1129, 1130, 1131, 1132] (by decide +kernel) (by decide +kernel)
set_option maxRecDepth 20000 in
theorem gL_law_X7_keywordByte : GoodIn wsL_law (wsV RL 41 RX7 yX7_keywordByte wsX7_keywordByte) := goodIn_app (goodIn_of _ (by decide +kernel)) ggL_law_X7_keywordByte
set_option maxRecDepth 20000 in
theorem ggL_law_X8_keywordByte : GoodIn wsL_law wsX8_keywordByte := goodIn_r _ [395, 157, 113, 354, 355, 356, 5, 357, 272, 274, 275, 276, 292, 293, 294, 295, 114, 1081, 1082, 1083, 1084, 1085, 1086, 1087, 1088, 1089, 1090, 1091, 1092, 1093, 1094, 1095, 1096, 1097, 1098, 1099, 1100, 1101, 1102, 1103, 1104, 1105, 1106, 1107, 1108, 1109, 1110, 1111, 1112, 1113, 1114, 1115, 1116, 1117, 1118, 1119, 1120, 1121, 1122] (by decide +kernel) (by decide +kernel)
set_option maxRecDepth 20000 in
theorem gL_law_X8_keywordByte : GoodIn wsL_law (wsV RL 44 RX8 yX8_keywordByte wsX8_keywordByte) := goodIn_app (goodIn_of _ (by decide +kernel)) ggL_law_X8_keywordByte
set_option maxRecDepth 20000 in
theorem ggL_law_X7_keywordWeight : GoodIn wsL_law wsX7_keywordWeight := goodIn_r _ [399, 23, 379, 204, 205, 22, 206, 73, 400, 401, 402, 403, 70, 203, 1066, 1067, 1068, 1069, 1070, 1071, 1072, 1073, 1074, 1075, 1076, 1077, 1078, 1079, 1080, 1126, 1127, 1128, 1129, 1130, 1131, 1132] (by decide +kernel) (by decide +kernel)
set_option maxRecDepth 20000 in
theorem gL_law_X7_keywordWeight : GoodIn wsL_law (wsV RL 45 RX7 yX7_keywordWeight wsX7_keywordWeight) := goodIn_app (goodIn_of _ (by decide +kernel)) ggL_law_X7_keywordWeight
set_option maxRecDepth 20000 in
theorem ggL_law_X8_keywordWeight : GoodIn wsL_law wsX8_keywordWeight := goodIn_r _ [407, 157, 115, 354, 355, 356, 5, 357, 272, 274, 275, 276, 1081, 1082, 1083, 1084, 1085, 1086, 1087, 1088, 1089, 1090, 1091, 1092, 1093, 1094, 1095, 1096, 1097, 1098, 1099, 1100, 1101, 1102, 1103, 1104, 1105, 1106, 1107, 1108, 1109, 1110, 1111, 1112, 1113, 1114, 1115, 1116, 1117, 1118, 1119, 1120, 1121, 1122] (by decide +kernel) (by decide +kernel)
set_option maxRecDepth 20000 in
theorem gL_law_X8_keywordWeight : GoodIn wsL_law (wsV RL 48 RX8 yX8_keywordWeight wsX8_keywordWeight) := goodIn_app (goodIn_of _ (by decide +kernel)) ggL_law_X8_keywordWeight
set_option maxRecDepth 20000 in
theorem ggL_law_X7_isLive : GoodIn wsL_law wsX7_isLive := goodIn_r _ [411, 23, 379, 204, 205, 22, 206, 73, 321, 322, 323, 324, 72, 203, 1066, 1067, 1068, 1069, 1070, 1071, 1072, 1073, 1074, 1075, 1076, 1077, 1078, 1079, 1080, 1126, 1127, 1128, 1129, 1130, 1131, 1132] (by decide +kernel) (by decide +kernel)
set_option maxRecDepth 20000 in
theorem gL_law_X7_isLive : GoodIn wsL_law (wsV RL 49 RX7 yX7_isLive wsX7_isLive) := goodIn_app (goodIn_of _ (by decide +kernel)) ggL_law_X7_isLive
set_option maxRecDepth 20000 in
theorem ggL_law_X8_isLive : GoodIn wsL_law wsX8_isLive := goodIn_r _ [415, 157, 116, 354, 355, 356, 5, 357, 272, 274, 275, 276, 1081, 1082, 1083, 1084, 1085, 1086, 1087, 1088, 1089, 1090, 1091, 1092, 1093, 1094, 1095, 1096, 1097, 1098, 1099, 1100, 1101, 1102, 1103, 1104, 1105, 1106, 1107, 1108, 1109, 1110, 1111, 1112, 1113, 1114, 1115, 1116, 1117, 1118, 1119, 1120, 1121, 1122] (by decide +kernel) (by decide +kernel)
set_option maxRecDepth 20000 in
theorem gL_law_X8_isLive : GoodIn wsL_law (wsV RL 52 RX8 yX8_isLive wsX8_isLive) := goodIn_app (goodIn_of _ (by decide +kernel)) ggL_law_X8_isLive
set_option maxRecDepth 20000 in
theorem ggL_law_X7_liveCount : GoodIn wsL_law wsX7_liveCount := goodIn_r _ [419, 23, 179, 1066, 1067, 1068, 1069, 1070, 1071, 1072, 1073, 1074, 1075, 1076, 1077, 1078, 1079, 1080, 1126, 1127, 1128, 1129, 1130, 1131, 1132] (by decide +kernel) (by decide +kernel)
set_option maxRecDepth 20000 in
theorem gL_law_X7_liveCount : GoodIn wsL_law (wsV RL 53 RX7 yX7_liveCount wsX7_liveCount) := goodIn_app (goodIn_of _ (by decide +kernel)) ggL_law_X7_liveCount
set_option maxRecDepth 20000 in
theorem ggL_law_X8_liveCount : GoodIn wsL_law wsX8_liveCount := goodIn_r _ [423, 157, 307, 308, 309, 5, 310, 272, 116, 1081, 1082, 1083, 1084, 1085, 1086, 1087, 1088, 1089, 1090, 1091, 1092, 1093, 1094, 1095, 1096, 1097, 1098, 1099, 1100, 1101, 1102, 1103, 1104, 1105, 1106, 1107, 1108, 1109, 1110, 1111, 1112, 1113, 1114, 1115, 1116, 1117, 1118, 1119, 1120, 1121, 1122] (by decide +kernel) (by decide +kernel)
set_option maxRecDepth 20000 in
theorem gL_law_X8_liveCount : GoodIn wsL_law (wsV RL 56 RX8 yX8_liveCount wsX8_liveCount) := goodIn_app (goodIn_of _ (by decide +kernel)) ggL_law_X8_liveCount
set_option maxRecDepth 20000 in
theorem ggL_law_X7_setFolding : GoodIn wsL_law wsX7_setFolding := goodIn_r _ [427, 23, 179, 33, 144, 15, 428, 1066, 1067, 1068, 1069, 1070, 1071, 1072, 1073, 1074, 1075, 1076, 1077, 1078, 1079, 1080, 1126, 1127, 1128, 1129, 1130, 1131, 1132, 1124, 1125, 1123] (by decide +kernel) (by decide +kernel)
set_option maxRecDepth 20000 in
theorem gL_law_X7_setFolding : GoodIn wsL_law (wsV RL 57 RX7 yX7_setFolding wsX7_setFolding) := goodIn_app (goodIn_of _ (by decide +kernel)) ggL_law_X7_setFolding
set_option maxRecDepth 20000 in
theorem ggL_law_X8_setFolding : GoodIn wsL_law wsX8_setFolding := goodIn_r _ [432, 157, 433, 304, 307, 308, 309, 5, 310, 272, 116, 1081, 1082, 1083, 1084, 1085, 1086, 1087, 1088, 1089, 1090, 1091, 1092, 1093, 1094, 1095, 1096, 1097, 1098, 1099, 1100, 1101, 1102, 1103, 1104, 1105, 1106, 1107, 1108, 1109, 1110, 1111, 1112, 1113, 1114, 1115, 1116, 1117, 1118, 1119, 1120, 1121, 1122] (by decide +kernel) (by decide +kernel)
set_option maxRecDepth 20000 in
theorem gL_law_X8_setFolding : GoodIn wsL_law (wsV RL 61 RX8 yX8_setFolding wsX8_setFolding) := goodIn_app (goodIn_of _ (by decide +kernel)) ggL_law_X8_setFolding
set_option maxRecDepth 20000 in
theorem ggL_law_X7_mainSize : GoodIn wsL_law wsX7_mainSize := goodIn_r _ [437, 27, 438, 439, 2, 440, 441, 442, 443, 26, 444, 80, 1066, 1067, 1068, 1069, 1070, 1071, 1072, 1073, 1074, 1075, 1076, 1077, 1078, 1079, 1080, 1133, 1134] (by decide +kernel) (by decide +kernel)
set_option maxRecDepth 20000 in
theorem gL_law_X7_mainSize : GoodIn wsL_law (wsV RL 62 RX7 yX7_mainSize wsX7_mainSize) := goodIn_app (goodIn_of _ (by decide +kernel)) ggL_law_X7_mainSize
set_option maxRecDepth 20000 in
theorem ggL_law_X8_mainSize : GoodIn wsL_law wsX8_mainSize := goodIn_r _ [448, 157, 117, 449, 450, 5, 451, 452, 274, 275, 276, 1081, 1082, 1083, 1084, 1085, 1086, 1087, 1088, 1089, 1090, 1091, 1092, 1093, 1094, 1095, 1096, 1097, 1098, 1099, 1100, 1101, 1102, 1103, 1104, 1105, 1106, 1107, 1108, 1109, 1110, 1111, 1112, 1113, 1114, 1115, 1116, 1117, 1118, 1119, 1120, 1121, 1122] (by decide +kernel) (by decide +kernel)
