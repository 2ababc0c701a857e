set_option maxRecDepth 20000 in
theorem gL_law_X8_mainSize : GoodIn wsL_law (wsV RL 65 RX8 yX8_mainSize wsX8_mainSize) := goodIn_app (goodIn_of _ (by decide +kernel)) ggL_law_X8_mainSize
set_option maxRecDepth 20000 in
theorem ggL_law_X7_removalSize : GoodIn wsL_law wsX7_removalSize := goodIn_r _ [456, 28, 438, 439, 2, 440, 441, 442, 443, 26, 444, 80, 1066, 1067, 1068, 1069, 1070, 1071, 1072, 1073, 1074, 1075, 1076, 1077, 1078, 1079, 1080, 1133, 1134] (by decide +kernel) (by decide +kernel)
set_option maxRecDepth 20000 in
theorem gL_law_X7_removalSize : GoodIn wsL_law (wsV RL 66 RX7 yX7_removalSize wsX7_removalSize) := goodIn_app (goodIn_of _ (by decide +kernel)) ggL_law_X7_removalSize
set_option maxRecDepth 20000 in
theorem ggL_law_X8_removalSize : GoodIn wsL_law wsX8_removalSize := goodIn_r _ [460, 157, 117, 449, 450, 5, 451, 452, 274, 275, 276, 1081, 1082, 1083, 1084, 1085, 1086, 1087, 1088, 1089, 1090, 1091, 1092, 1093, 1094, 1095, 1096, 1097, 1098, 1099, 1100, 1101, 1102, 1103, 1104, 1105, 1106, 1107, 1108, 1109, 1110, 1111, 1112, 1113, 1114, 1115, 1116, 1117, 1118, 1119, 1120, 1121, 1122] (by decide +kernel) (by decide +kernel)
set_option maxRecDepth 20000 in
theorem gL_law_X8_removalSize : GoodIn wsL_law (wsV RL 69 RX8 yX8_removalSize wsX8_removalSize) := goodIn_app (goodIn_of _ (by decide +kernel)) ggL_law_X8_removalSize
set_option maxRecDepth 20000 in
theorem ggL_law_X7_stateCount : GoodIn wsL_law wsX7_stateCount := goodIn_r _ [464, 27, 438, 439, 2, 440, 441, 442, 443, 26, 444, 80, 465, 466, 467, 468, 469, 470, 471, 472, 23, 473, 58, 59, 60, 474, 475, 476, 477, 79, 478, 479, 480, 22, 481, 482, 220, 221, 67, 68, 199, 200, 201, 202, 69, 203, 204, 205, 206, 73, 207, 208, 209, 210, 483, 216, 217, 14, 218, 219, 222, 223, 224, 225, 226, 227, 249, 1066, 1067, 1068, 1069, 1070, 1071, 1072, 1073, 1074, 1075, 1076, 1077, 1078, 1079, 1080, 1133, 1134, 1126, 1127, 1128, 1129, 1130, 1131, 1132, 1123] (by decide +kernel) (by decide +kernel)
set_option maxRecDepth 20000 in
theorem gL_law_X7_stateCount : GoodIn wsL_law (wsV RL 70 RX7 yX7_stateCount wsX7_stateCount) := goodIn_app (goodIn_of _ (by decide +kernel)) ggL_law_X7_stateCount
set_option maxRecDepth 20000 in
theorem ggL_law_X8_stateCount : GoodIn wsL_law wsX8_stateCount := goodIn_r _ [487, 157, 117, 118, 113, 449, 450, 5, 451, 452, 274, 275, 276, 488, 489, 490, 491, 292, 293, 294, 295, 114, 296, 297, 298, 299, 300, 301, 302, 303, 304, 305, 306, 1081, 1082, 1083, 1084, 1085, 1086, 1087, 1088, 1089, 1090, 1091, 1092, 1093, 1094, 1095, 1096, 1097, 1098, 1099, 1100, 1101, 1102, 1103, 1104, 1105, 1106, 1107, 1108, 1109, 1110, 1111, 1112, 1113, 1114, 1115, 1116, 1117, 1118, 1119, 1120, 1121, 1122] (by decide +kernel) (by decide +kernel)
set_option maxRecDepth 20000 in
theorem gL_law_X8_stateCount : GoodIn wsL_law (wsV RL 73 RX8 yX8_stateCount wsX8_stateCount) := goodIn_app (goodIn_of _ (by decide +kernel)) ggL_law_X8_stateCount
set_option maxRecDepth 20000 in
theorem ggL_law_X7_currentDepth : GoodIn wsL_law wsX7_currentDepth := goodIn_r _ [495, 27, 33, 496, 144, 497, 220, 59, 221, 438, 439, 2, 440, 441, 442, 443, 26, 444, 80, 498, 499, 500, 501, 502, 503, 504, 505, 23, 465, 466, 467, 468, 474, 475, 476, 477, 79, 506, 507, 508, 22, 509, 67, 68, 199, 200, 201, 202, 69, 203, 204, 205, 206, 73, 207, 208, 209, 210, 211, 212, 213, 14, 214, 215, 216, 217, 218, 219, 222, 58, 60, 223, 224, 225, 226, 227, 1066, 1067, 1068, 1069, 1070, 1071, 1072, 1073, 1074, 1075, 1076, 1077, 1078, 1079, 1080, 1124, 1125, 1133, 1134, 1126, 1127, 1128, 1129, 1130, 1131, 1132, 1123] (by decide +kernel) (by decide +kernel)
set_option maxRecDepth 20000 in
theorem gL_law_X7_currentDepth : GoodIn wsL_law (wsV RL 74 RX7 yX7_currentDepth wsX7_currentDepth) := goodIn_app (goodIn_of _ (by decide +kernel)) ggL_law_X7_currentDepth
set_option maxRecDepth 20000 in
theorem ggL_law_X8_currentDepth : GoodIn wsL_law wsX8_currentDepth := goodIn_r _ [513, 157, 117, 118, 113, 433, 449, 450, 5, 451, 452, 274, 275, 276, 514, 515, 516, 517, 121, 292, 293, 294, 295, 114, 296, 297, 298, 299, 300, 301, 302, 303, 304, 305, 306, 1081, 1082, 1083, 1084, 1085, 1086, 1087, 1088, 1089, 1090, 1091, 1092, 1093, 1094, 1095, 1096, 1097, 1098, 1099, 1100, 1101, 1102, 1103, 1104, 1105, 1106, 1107, 1108, 1109, 1110, 1111, 1112, 1113, 1114, 1115, 1116, 1117, 1118, 1119, 1120, 1121, 1122] (by decide +kernel) (by decide +kernel)
set_option maxRecDepth 20000 in
theorem gL_law_X8_currentDepth : GoodIn wsL_law (wsV RL 77 RX8 yX8_currentDepth wsX8_currentDepth) := goodIn_app (goodIn_of _ (by decide +kernel)) ggL_law_X8_currentDepth
set_option maxRecDepth 20000 in
theorem ggL_law_X7_levelOf : GoodIn wsL_law wsX7_levelOf := goodIn_r _ [521, 23, 27, 379, 204, 205, 22, 206, 73, 522, 523, 524, 26, 525, 526, 466, 467, 468, 80, 527, 442, 443, 444, 528, 475, 476, 477, 79, 1066, 1067, 1068, 1069, 1070, 1071, 1072, 1073, 1074, 1075, 1076, 1077, 1078, 1079, 1080, 1126, 1127, 1128, 1129, 1130, 1131, 1132, 1133, 1134] (by decide +kernel) (by decide +kernel)
set_option maxRecDepth 20000 in
theorem gL_law_X7_levelOf : GoodIn wsL_law (wsV RL 78 RX7 yX7_levelOf wsX7_levelOf) := goodIn_app (goodIn_of _ (by decide +kernel)) ggL_law_X7_levelOf
set_option maxRecDepth 20000 in
theorem ggL_law_X8_levelOf : GoodIn wsL_law wsX8_levelOf := goodIn_r _ [532, 157, 354, 355, 356, 5, 357, 272, 274, 275, 276, 533, 534, 535, 536, 117, 118, 1081, 1082, 1083, 1084, 1085, 1086, 1087, 1088, 1089, 1090, 1091, 1092, 1093, 1094, 1095, 1096, 1097, 1098, 1099, 1100, 1101, 1102, 1103, 1104, 1105, 1106, 1107, 1108, 1109, 1110, 1111, 1112, 1113, 1114, 1115, 1116, 1117, 1118, 1119, 1120, 1121, 1122] (by decide +kernel) (by decide +kernel)
set_option maxRecDepth 20000 in
theorem gL_law_X8_levelOf : GoodIn wsL_law (wsV RL 81 RX8 yX8_levelOf wsX8_levelOf) := goodIn_app (goodIn_of _ (by decide +kernel)) ggL_law_X8_levelOf
set_option maxRecDepth 20000 in
theorem ggL_law_X7_failureLength : GoodIn wsL_law wsX7_failureLength := goodIn_r _ [540, 23, 27, 541, 379, 204, 205, 22, 206, 73, 249, 200, 201, 202, 69, 203, 522, 523, 524, 26, 525, 526, 466, 467, 468, 80, 527, 442, 443, 444, 528, 475, 476, 477, 79, 542, 208, 209, 210, 498, 499, 500, 2, 501, 502, 503, 504, 505, 465, 441, 474, 506, 507, 508, 509, 67, 68, 199, 207, 211, 212, 213, 14, 214, 215, 216, 217, 218, 219, 220, 59, 221, 222, 58, 60, 223, 224, 225, 226, 227, 1066, 1067, 1068, 1069, 1070, 1071, 1072, 1073, 1074, 1075, 1076, 1077, 1078, 1079, 1080, 1126, 1127, 1128, 1129, 1130, 1131, 1132, 1133, 1134, 1123] (by decide +kernel) (by decide +kernel)
set_option maxRecDepth 20000 in
theorem gL_law_X7_failureLength : GoodIn wsL_law (wsV RL 82 RX7 yX7_failureLength wsX7_failureLength) := goodIn_app (goodIn_of _ (by decide +kernel)) ggL_law_X7_failureLength
set_option maxRecDepth 20000 in
theorem ggL_law_X8_failureLength : GoodIn wsL_law wsX8_failureLength := goodIn_r _ [546, 157, 113, 117, 118, 354, 355, 356, 5, 357, 272, 274, 275, 276, 533, 534, 535, 536, 547, 548, 549, 550, 292, 293, 294, 295, 114, 296, 297, 298, 299, 300, 301, 302, 303, 304, 305, 306, 1081, 1082, 1083, 1084, 1085, 1086, 1087, 1088, 1089, 1090, 1091, 1092, 1093, 1094, 1095, 1096, 1097, 1098, 1099, 1100, 1101, 1102, 1103, 1104, 1105, 1106, 1107, 1108, 1109, 1110, 1111, 1112, 1113, 1114, 1115, 1116, 1117, 1118, 1119, 1120, 1121, 1122] (by decide +kernel) (by decide +kernel)
set_option maxRecDepth 20000 in
theorem gL_law_X8_failureLength : GoodIn wsL_law (wsV RL 85 RX8 yX8_failureLength wsX8_failureLength) := goodIn_app (goodIn_of _ (by decide +kernel)) ggL_law_X8_failureLength
set_option maxRecDepth 20000 in
theorem ggL_law_X7_buildWork : GoodIn wsL_law wsX7_buildWork := goodIn_r _ [554, 47, 1066, 1067, 1068, 1069, 1070, 1071, 1072, 1073, 1074, 1075, 1076, 1077, 1078, 1079, 1080] (by decide +kernel) (by decide +kernel)
set_option maxRecDepth 20000 in
theorem gL_law_X7_buildWork : GoodIn wsL_law (wsV RL 86 RX7 yX7_buildWork wsX7_buildWork) := goodIn_app (goodIn_of _ (by decide +kernel)) ggL_law_X7_buildWork
set_option maxRecDepth 20000 in
theorem ggL_law_X8_buildWork : GoodIn wsL_law wsX8_buildWork := goodIn_r _ [558, 157, 315, 1081, 1082, 1083, 1084, 1085, 1086, 1087, 1088, 1089, 1090, 1091, 1092, 1093, 1094, 1095, 1096, 1097, 1098, 1099, 1100, 1101, 1102, 1103, 1104, 1105, 1106, 1107, 1108, 1109, 1110, 1111, 1112, 1113, 1114, 1115, 1116, 1117, 1118, 1119, 1120, 1121, 1122] (by decide +kernel) (by decide +kernel)
set_option maxRecDepth 20000 in
theorem gL_law_X8_buildWork : GoodIn wsL_law (wsV RL 89 RX8 yX8_buildWork wsX8_buildWork) := goodIn_app (goodIn_of _ (by decide +kernel)) ggL_law_X8_buildWork
set_option maxRecDepth 20000 in
theorem ggL_law_X7_plannedWork : GoodIn wsL_law wsX7_plannedWork := goodIn_r _ [562, 27, 320, 563, 238, 26, 239, 1066, 1067, 1068, 1069, 1070, 1071, 1072, 1073, 1074, 1075, 1076, 1077, 1078, 1079, 1080, 1133, 1134] (by decide +kernel) (by decide +kernel)
set_option maxRecDepth 20000 in
theorem gL_law_X7_plannedWork : GoodIn wsL_law (wsV RL 90 RX7 yX7_plannedWork wsX7_plannedWork) := goodIn_app (goodIn_of _ (by decide +kernel)) ggL_law_X7_plannedWork
set_option maxRecDepth 20000 in
theorem ggL_law_X8_plannedWork : GoodIn wsL_law wsX8_plannedWork := goodIn_r _ [567, 157, 568, 120, 117, 274, 275, 5, 276, 1081, 1082, 1083, 1084, 1085, 1086, 1087, 1088, 1089, 1090, 1091, 1092, 1093, 1094, 1095, 1096, 1097, 1098, 1099, 1100, 1101, 1102, 1103, 1104, 1105, 1106, 1107, 1108, 1109, 1110, 1111, 1112, 1113, 1114, 1115, 1116, 1117, 1118, 1119, 1120, 1121, 1122] (by decide +kernel) (by decide +kernel)
set_option maxRecDepth 20000 in
theorem gL_law_X8_plannedWork : GoodIn wsL_law (wsV RL 93 RX8 yX8_plannedWork wsX8_plannedWork) := goodIn_app (goodIn_of _ (by decide +kernel)) ggL_law_X8_plannedWork
set_option maxRecDepth 20000 in
theorem ggL_law_X7_rebuildCount : GoodIn wsL_law wsX7_rebuildCount := goodIn_r _ [572, 48, 1066, 1067, 1068, 1069, 1070, 1071, 1072, 1073, 1074, 1075, 1076, 1077, 1078, 1079, 1080] (by decide +kernel) (by decide +kernel)
set_option maxRecDepth 20000 in
theorem gL_law_X7_rebuildCount : GoodIn wsL_law (wsV RL 94 RX7 yX7_rebuildCount wsX7_rebuildCount) := goodIn_app (goodIn_of _ (by decide +kernel)) ggL_law_X7_rebuildCount
set_option maxRecDepth 20000 in
theorem ggL_law_X8_rebuildCount : GoodIn wsL_law wsX8_rebuildCount := goodIn_r _ [576, 157, 366, 1081, 1082, 1083, 1084, 1085, 1086, 1087, 1088, 1089, 1090, 1091, 1092, 1093, 1094, 1095, 1096, 1097, 1098, 1099, 1100, 1101, 1102, 1103, 1104, 1105, 1106, 1107, 1108, 1109, 1110, 1111, 1112, 1113, 1114, 1115, 1116, 1117, 1118, 1119, 1120, 1121, 1122] (by decide +kernel) (by decide +kernel)
set_option maxRecDepth 20000 in
theorem gL_law_X8_rebuildCount : GoodIn wsL_law (wsV RL 97 RX8 yX8_rebuildCount wsX8_rebuildCount) := goodIn_app (goodIn_of _ (by decide +kernel)) ggL_law_X8_rebuildCount
set_option maxRecDepth 20000 in
theorem ggL_law_X7_scan : GoodIn wsL_law wsX7_scan := goodIn_r _ [580, 33, 144, 49, 19, 171, 172, 173, 2, 174, 185, 186, 187, 18, 188, 62, 61, 149, 150, 151, 152, 581, 582, 583, 584, 23, 180, 321, 322, 323, 22, 324, 72, 203, 204, 205, 206, 73, 249, 200, 201, 202, 69, 244, 245, 246, 247, 37, 248, 194, 195, 196, 197, 67, 68, 198, 199, 207, 208, 209, 210, 211, 212, 213, 14, 214, 215, 216, 217, 218, 219, 220, 59, 221, 222, 58, 60, 223, 224, 225, 226, 227, 250, 251, 252, 36, 253, 99, 254, 255, 256, 257, 258, 585, 586, 587, 588, 41, 329, 330, 331, 332, 589, 590, 591, 40, 592, 107, 105, 106, 263, 264, 265, 266, 1066, 1067, 1068, 1069, 1070, 1071, 1072, 1073, 1074, 1075, 1076, 1077, 1078, 1079, 1080, 1124, 1125, 1126, 1127, 1128, 1129, 1130, 1131, 1132, 1123, 1143, 1144, 1145, 1146] (by decide +kernel) (by decide +kernel)
set_option maxRecDepth 20000 in
theorem gL_law_X7_scan : GoodIn wsL_law (wsV RL 98 RX7 yX7_scan wsX7_scan) := goodIn_app (goodIn_of _ (by decide +kernel)) ggL_law_X7_scan
set_option maxRecDepth 20000 in
theorem ggL_law_X8_scan : GoodIn wsL_law wsX8_scan := goodIn_r _ [596, 157, 158, 433, 597, 121, 112, 274, 275, 5, 276, 598, 599, 600, 601, 272, 116, 113, 122, 123, 514, 515, 516, 517, 292, 293, 294, 295, 114, 296, 297, 298, 299, 300, 301, 302, 303, 304, 305, 306, 1081, 1082, 1083, 1084, 1085, 1086, 1087, 1088, 1089, 1090, 1091, 1092, 1093, 1094, 1095, 1096, 1097, 1098, 1099, 1100, 1101, 1102, 1103, 1104, 1105, 1106, 1107, 1108, 1109, 1110, 1111, 1112, 1113, 1114, 1115, 1116, 1117, 1118, 1119, 1120, 1121, 1122] (by decide +kernel) (by decide +kernel)
set_option maxRecDepth 20000 in
theorem gL_law_X8_scan : GoodIn wsL_law (wsV RL 101 RX8 yX8_scan wsX8_scan) := goodIn_app (goodIn_of _ (by decide +kernel)) ggL_law_X8_scan
set_option maxRecDepth 20000 in
theorem ggL_law_X7_resetStream : GoodIn wsL_law wsX7_resetStream := goodIn_r _ [605, 33, 144, 37, 41, 49, 263, 264, 265, 18, 266, 62, 606, 607, 608, 36, 609, 99, 610, 611, 612, 613, 614, 615, 616, 40, 617, 107, 1066, 1067, 1068, 1069, 1070, 1071, 1072, 1073, 1074, 1075, 1076, 1077, 1078, 1079, 1080, 1124, 1125, 1143, 1144, 1145, 1146] (by decide +kernel) (by decide +kernel)
set_option maxRecDepth 20000 in
theorem gL_law_X7_resetStream : GoodIn wsL_law (wsV RL 102 RX7 yX7_resetStream wsX7_resetStream) := goodIn_app (goodIn_of _ (by decide +kernel)) ggL_law_X7_resetStream
set_option maxRecDepth 20000 in
theorem ggL_law_X8_resetStream : GoodIn wsL_law wsX8_resetStream := goodIn_r _ [621, 157, 433, 597, 1081, 1082, 1083, 1084, 1085, 1086, 1087, 1088, 1089, 1090, 1091, 1092, 1093, 1094, 1095, 1096, 1097, 1098, 1099, 1100, 1101, 1102, 1103, 1104, 1105, 1106, 1107, 1108, 1109, 1110, 1111, 1112, 1113, 1114, 1115, 1116, 1117, 1118, 1119, 1120, 1121, 1122] (by decide +kernel) (by decide +kernel)
set_option maxRecDepth 20000 in
theorem gL_law_X8_resetStream : GoodIn wsL_law (wsV RL 105 RX8 yX8_resetStream wsX8_resetStream) := goodIn_app (goodIn_of _ (by decide +kernel)) ggL_law_X8_resetStream
set_option maxRecDepth 20000 in
theorem ggL_law_X7_streamLength : GoodIn wsL_law wsX7_streamLength := goodIn_r _ [625, 33, 144, 1066, 1067, 1068, 1069, 1070, 1071, 1072, 1073, 1074, 1075, 1076, 1077, 1078, 1079, 1080, 1124, 1125] (by decide +kernel) (by decide +kernel)
set_option maxRecDepth 20000 in
theorem gL_law_X7_streamLength : GoodIn wsL_law (wsV RL 106 RX7 yX7_streamLength wsX7_streamLength) := goodIn_app (goodIn_of _ (by decide +kernel)) ggL_law_X7_streamLength
set_option maxRecDepth 20000 in
theorem ggL_law_X8_streamLength : GoodIn wsL_law wsX8_streamLength := goodIn_r _ [629, 157, 433, 1081, 1082, 1083, 1084, 1085, 1086, 1087, 1088, 1089, 1090, 1091, 1092, 1093, 1094, 1095, 1096, 1097, 1098, 1099, 1100, 1101, 1102, 1103, 1104, 1105, 1106, 1107, 1108, 1109, 1110, 1111, 1112, 1113, 1114, 1115, 1116, 1117, 1118, 1119, 1120, 1121, 1122] (by decide +kernel) (by decide +kernel)
set_option maxRecDepth 20000 in
theorem gL_law_X8_streamLength : GoodIn wsL_law (wsV RL 109 RX8 yX8_streamLength wsX8_streamLength) := goodIn_app (goodIn_of _ (by decide +kernel)) ggL_law_X8_streamLength
set_option maxRecDepth 20000 in
theorem ggL_law_X7_streamByte : GoodIn wsL_law wsX7_streamByte := goodIn_r _ [633, 33, 185, 186, 187, 18, 188, 62, 61, 1066, 1067, 1068, 1069, 1070, 1071, 1072, 1073, 1074, 1075, 1076, 1077, 1078, 1079, 1080, 1124, 1125] (by decide +kernel) (by decide +kernel)
set_option maxRecDepth 20000 in
theorem gL_law_X7_streamByte : GoodIn wsL_law (wsV RL 110 RX7 yX7_streamByte wsX7_streamByte) := goodIn_app (goodIn_of _ (by decide +kernel)) ggL_law_X7_streamByte
set_option maxRecDepth 20000 in
theorem ggL_law_X8_streamByte : GoodIn wsL_law wsX8_streamByte := goodIn_r _ [637, 157, 433, 121, 1081, 1082, 1083, 1084, 1085, 1086, 1087, 1088, 1089, 1090, 1091, 1092, 1093, 1094, 1095, 1096, 1097, 1098, 1099, 1100, 1101, 1102, 1103, 1104, 1105, 1106, 1107, 1108, 1109, 1110, 1111, 1112, 1113, 1114, 1115, 1116, 1117, 1118, 1119, 1120, 1121, 1122] (by decide +kernel) (by decide +kernel)
set_option maxRecDepth 20000 in
theorem gL_law_X8_streamByte : GoodIn wsL_law (wsV RL 113 RX8 yX8_streamByte wsX8_streamByte) := goodIn_app (goodIn_of _ (by decide +kernel)) ggL_law_X8_streamByte
set_option maxRecDepth 20000 in
theorem ggL_law_X7_reportCount : GoodIn wsL_law wsX7_reportCount := goodIn_r _ [641, 49, 1066, 1067, 1068, 1069, 1070, 1071, 1072, 1073, 1074, 1075, 1076, 1077, 1078, 1079, 1080] (by decide +kernel) (by decide +kernel)
set_option maxRecDepth 20000 in
theorem gL_law_X7_reportCount : GoodIn wsL_law (wsV RL 114 RX7 yX7_reportCount wsX7_reportCount) := goodIn_app (goodIn_of _ (by decide +kernel)) ggL_law_X7_reportCount
