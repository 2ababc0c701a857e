set_option maxRecDepth 20000 in
theorem ggL_law_X8_reportCount : GoodIn wsL_law wsX8_reportCount := goodIn_r _ [645, 157, 597, 1081, 1082, 1083, 1084, 1085, 1086, 1087, 1088, 1089, 1090, 1091, 1092, 1093, 1094, 1095, 1096, 1097, 1098, 1099, 1100, 1101, 1102, 1103, 1104, 1105, 1106, 1107, 1108, 1109, 1110, 1111, 1112, 1113, 1114, 1115, 1116, 1117, 1118, 1119, 1120, 1121, 1122] (by decide +kernel) (by decide +kernel)
set_option maxRecDepth 20000 in
theorem gL_law_X8_reportCount : GoodIn wsL_law (wsV RL 117 RX8 yX8_reportCount wsX8_reportCount) := goodIn_app (goodIn_of _ (by decide +kernel)) ggL_law_X8_reportCount
set_option maxRecDepth 20000 in
theorem ggL_law_X7_reportEnd : GoodIn wsL_law wsX7_reportEnd := goodIn_r _ [649, 41, 650, 651, 652, 40, 653, 107, 105, 1066, 1067, 1068, 1069, 1070, 1071, 1072, 1073, 1074, 1075, 1076, 1077, 1078, 1079, 1080, 1144, 1145, 1146] (by decide +kernel) (by decide +kernel)
set_option maxRecDepth 20000 in
theorem gL_law_X7_reportEnd : GoodIn wsL_law (wsV RL 118 RX7 yX7_reportEnd wsX7_reportEnd) := goodIn_app (goodIn_of _ (by decide +kernel)) ggL_law_X7_reportEnd
set_option maxRecDepth 20000 in
theorem ggL_law_X8_reportEnd : GoodIn wsL_law wsX8_reportEnd := goodIn_r _ [657, 157, 122, 658, 659, 660, 5, 661, 597, 1081, 1082, 1083, 1084, 1085, 1086, 1087, 1088, 1089, 1090, 1091, 1092, 1093, 1094, 1095, 1096, 1097, 1098, 1099, 1100, 1101, 1102, 1103, 1104, 1105, 1106, 1107, 1108, 1109, 1110, 1111, 1112, 1113, 1114, 1115, 1116, 1117, 1118, 1119, 1120, 1121, 1122] (by decide +kernel) (by decide +kernel)
set_option maxRecDepth 20000 in
theorem gL_law_X8_reportEnd : GoodIn wsL_law (wsV RL 121 RX8 yX8_reportEnd wsX8_reportEnd) := goodIn_app (goodIn_of _ (by decide +kernel)) ggL_law_X8_reportEnd
set_option maxRecDepth 20000 in
theorem ggL_law_X7_reportKeyword : GoodIn wsL_law wsX7_reportKeyword := goodIn_r _ [665, 41, 666, 667, 668, 40, 669, 107, 106, 1066, 1067, 1068, 1069, 1070, 1071, 1072, 1073, 1074, 1075, 1076, 1077, 1078, 1079, 1080, 1144, 1145, 1146] (by decide +kernel) (by decide +kernel)
set_option maxRecDepth 20000 in
theorem gL_law_X7_reportKeyword : GoodIn wsL_law (wsV RL 122 RX7 yX7_reportKeyword wsX7_reportKeyword) := goodIn_app (goodIn_of _ (by decide +kernel)) ggL_law_X7_reportKeyword
set_option maxRecDepth 20000 in
theorem ggL_law_X8_reportKeyword : GoodIn wsL_law wsX8_reportKeyword := goodIn_r _ [673, 157, 123, 658, 659, 660, 5, 661, 597, 1081, 1082, 1083, 1084, 1085, 1086, 1087, 1088, 1089, 1090, 1091, 1092, 1093, 1094, 1095, 1096, 1097, 1098, 1099, 1100, 1101, 1102, 1103, 1104, 1105, 1106, 1107, 1108, 1109, 1110, 1111, 1112, 1113, 1114, 1115, 1116, 1117, 1118, 1119, 1120, 1121, 1122] (by decide +kernel) (by decide +kernel)
set_option maxRecDepth 20000 in
theorem gL_law_X8_reportKeyword : GoodIn wsL_law (wsV RL 125 RX8 yX8_reportKeyword wsX8_reportKeyword) := goodIn_app (goodIn_of _ (by decide +kernel)) ggL_law_X8_reportKeyword
set_option maxRecDepth 20000 in
theorem ggL_law_X7_matchCount : GoodIn wsL_law wsX7_matchCount := goodIn_r _ [677, 33, 144, 37, 678, 679, 680, 36, 681, 682, 330, 331, 332, 99, 254, 256, 257, 258, 1066, 1067, 1068, 1069, 1070, 1071, 1072, 1073, 1074, 1075, 1076, 1077, 1078, 1079, 1080, 1124, 1125, 1143] (by decide +kernel) (by decide +kernel)
set_option maxRecDepth 20000 in
theorem gL_law_X7_matchCount : GoodIn wsL_law (wsV RL 126 RX7 yX7_matchCount wsX7_matchCount) := goodIn_app (goodIn_of _ (by decide +kernel)) ggL_law_X7_matchCount
set_option maxRecDepth 20000 in
theorem ggL_law_X8_matchCount : GoodIn wsL_law wsX8_matchCount := goodIn_r _ [686, 157, 433, 687, 688, 689, 5, 690, 124, 272, 116, 113, 125, 514, 515, 516, 517, 121, 292, 293, 294, 295, 114, 296, 297, 298, 299, 300, 301, 302, 303, 304, 305, 306, 274, 275, 276, 691, 692, 693, 694, 1081, 1082, 1083, 1084, 1085, 1086, 1087, 1088, 1089, 1090, 1091, 1092, 1093, 1094, 1095, 1096, 1097, 1098, 1099, 1100, 1101, 1102, 1103, 1104, 1105, 1106, 1107, 1108, 1109, 1110, 1111, 1112, 1113, 1114, 1115, 1116, 1117, 1118, 1119, 1120, 1121, 1122] (by decide +kernel) (by decide +kernel)
set_option maxRecDepth 20000 in
theorem gL_law_X8_matchCount : GoodIn wsL_law (wsV RL 129 RX8 yX8_matchCount wsX8_matchCount) := goodIn_app (goodIn_of _ (by decide +kernel)) ggL_law_X8_matchCount
set_option maxRecDepth 20000 in
theorem ggL_law_X7_matchCountOf : GoodIn wsL_law wsX7_matchCountOf := goodIn_r _ [698, 23, 33, 144, 37, 321, 322, 323, 22, 324, 72, 203, 204, 205, 206, 73, 249, 200, 201, 202, 69, 329, 330, 331, 36, 332, 99, 254, 256, 257, 258, 1066, 1067, 1068, 1069, 1070, 1071, 1072, 1073, 1074, 1075, 1076, 1077, 1078, 1079, 1080, 1124, 1125, 1126, 1127, 1128, 1129, 1130, 1131, 1132, 1143] (by decide +kernel) (by decide +kernel)
set_option maxRecDepth 20000 in
theorem gL_law_X7_matchCountOf : GoodIn wsL_law (wsV RL 130 RX7 yX7_matchCountOf wsX7_matchCountOf) := goodIn_app (goodIn_of _ (by decide +kernel)) ggL_law_X7_matchCountOf
set_option maxRecDepth 20000 in
theorem ggL_law_X8_matchCountOf : GoodIn wsL_law wsX8_matchCountOf := goodIn_r _ [702, 157, 433, 113, 350, 351, 352, 5, 353, 116, 354, 355, 356, 357, 272, 274, 275, 276, 514, 515, 516, 517, 121, 292, 293, 294, 295, 114, 296, 297, 298, 299, 300, 301, 302, 303, 304, 305, 306, 1081, 1082, 1083, 1084, 1085, 1086, 1087, 1088, 1089, 1090, 1091, 1092, 1093, 1094, 1095, 1096, 1097, 1098, 1099, 1100, 1101, 1102, 1103, 1104, 1105, 1106, 1107, 1108, 1109, 1110, 1111, 1112, 1113, 1114, 1115, 1116, 1117, 1118, 1119, 1120, 1121, 1122] (by decide +kernel) (by decide +kernel)
set_option maxRecDepth 20000 in
theorem gL_law_X8_matchCountOf : GoodIn wsL_law (wsV RL 133 RX8 yX8_matchCountOf wsX8_matchCountOf) := goodIn_app (goodIn_of _ (by decide +kernel)) ggL_law_X8_matchCountOf
set_option maxRecDepth 20000 in
theorem ggL_law_X7_nextMatch : GoodIn wsL_law wsX7_nextMatch := goodIn_r _ [706, 23, 33, 144, 37, 321, 322, 323, 22, 324, 72, 203, 204, 205, 206, 73, 249, 200, 201, 202, 69, 329, 330, 331, 36, 332, 99, 254, 256, 257, 258, 1066, 1067, 1068, 1069, 1070, 1071, 1072, 1073, 1074, 1075, 1076, 1077, 1078, 1079, 1080, 1124, 1125, 1126, 1127, 1128, 1129, 1130, 1131, 1132, 1143] (by decide +kernel) (by decide +kernel)
set_option maxRecDepth 20000 in
theorem gL_law_X7_nextMatch : GoodIn wsL_law (wsV RL 134 RX7 yX7_nextMatch wsX7_nextMatch) := goodIn_app (goodIn_of _ (by decide +kernel)) ggL_law_X7_nextMatch
set_option maxRecDepth 20000 in
theorem ggL_law_X8_nextMatch : GoodIn wsL_law wsX8_nextMatch := goodIn_r _ [710, 157, 433, 113, 350, 351, 352, 5, 353, 116, 354, 355, 356, 357, 272, 274, 275, 276, 514, 515, 516, 517, 121, 292, 293, 294, 295, 114, 296, 297, 298, 299, 300, 301, 302, 303, 304, 305, 306, 1081, 1082, 1083, 1084, 1085, 1086, 1087, 1088, 1089, 1090, 1091, 1092, 1093, 1094, 1095, 1096, 1097, 1098, 1099, 1100, 1101, 1102, 1103, 1104, 1105, 1106, 1107, 1108, 1109, 1110, 1111, 1112, 1113, 1114, 1115, 1116, 1117, 1118, 1119, 1120, 1121, 1122] (by decide +kernel) (by decide +kernel)
set_option maxRecDepth 20000 in
theorem gL_law_X8_nextMatch : GoodIn wsL_law (wsV RL 137 RX8 yX8_nextMatch wsX8_nextMatch) := goodIn_app (goodIn_of _ (by decide +kernel)) ggL_law_X8_nextMatch
set_option maxRecDepth 20000 in
theorem ggL_law_X7_overlappingPairs : GoodIn wsL_law wsX7_overlappingPairs := goodIn_r _ [714, 33, 144, 37, 44, 715, 716, 717, 2, 718, 678, 679, 680, 36, 681, 682, 330, 331, 332, 99, 254, 256, 257, 258, 719, 720, 721, 722, 1066, 1067, 1068, 1069, 1070, 1071, 1072, 1073, 1074, 1075, 1076, 1077, 1078, 1079, 1080, 1124, 1125, 1143] (by decide +kernel) (by decide +kernel)
set_option maxRecDepth 20000 in
theorem gL_law_X7_overlappingPairs : GoodIn wsL_law (wsV RL 138 RX7 yX7_overlappingPairs wsX7_overlappingPairs) := goodIn_app (goodIn_of _ (by decide +kernel)) ggL_law_X7_overlappingPairs
set_option maxRecDepth 20000 in
theorem ggL_law_X8_overlappingPairs : GoodIn wsL_law wsX8_overlappingPairs := goodIn_r _ [726, 157, 433, 687, 688, 689, 5, 690, 124, 272, 116, 113, 125, 514, 515, 516, 517, 121, 292, 293, 294, 295, 114, 296, 297, 298, 299, 300, 301, 302, 303, 304, 305, 306, 274, 275, 276, 727, 728, 729, 730, 691, 692, 693, 694, 1081, 1082, 1083, 1084, 1085, 1086, 1087, 1088, 1089, 1090, 1091, 1092, 1093, 1094, 1095, 1096, 1097, 1098, 1099, 1100, 1101, 1102, 1103, 1104, 1105, 1106, 1107, 1108, 1109, 1110, 1111, 1112, 1113, 1114, 1115, 1116, 1117, 1118, 1119, 1120, 1121, 1122] (by decide +kernel) (by decide +kernel)
set_option maxRecDepth 20000 in
theorem gL_law_X8_overlappingPairs : GoodIn wsL_law (wsV RL 141 RX8 yX8_overlappingPairs wsX8_overlappingPairs) := goodIn_app (goodIn_of _ (by decide +kernel)) ggL_law_X8_overlappingPairs
set_option maxRecDepth 20000 in
theorem ggL_law_X7_maximumDepth : GoodIn wsL_law wsX7_maximumDepth := goodIn_r _ [734, 33, 144, 44, 473, 58, 59, 60, 715, 716, 717, 2, 718, 37, 678, 679, 680, 36, 681, 682, 330, 331, 332, 99, 254, 256, 257, 258, 719, 720, 721, 722, 1066, 1067, 1068, 1069, 1070, 1071, 1072, 1073, 1074, 1075, 1076, 1077, 1078, 1079, 1080, 1124, 1125, 1143] (by decide +kernel) (by decide +kernel)
set_option maxRecDepth 20000 in
theorem gL_law_X7_maximumDepth : GoodIn wsL_law (wsV RL 142 RX7 yX7_maximumDepth wsX7_maximumDepth) := goodIn_app (goodIn_of _ (by decide +kernel)) ggL_law_X7_maximumDepth
set_option maxRecDepth 20000 in
theorem ggL_law_X8_maximumDepth : GoodIn wsL_law wsX8_maximumDepth := goodIn_r _ [738, 157, 433, 687, 688, 689, 5, 690, 124, 272, 116, 113, 125, 514, 515, 516, 517, 121, 292, 293, 294, 295, 114, 296, 297, 298, 299, 300, 301, 302, 303, 304, 305, 306, 274, 275, 276, 691, 692, 693, 694, 1081, 1082, 1083, 1084, 1085, 1086, 1087, 1088, 1089, 1090, 1091, 1092, 1093, 1094, 1095, 1096, 1097, 1098, 1099, 1100, 1101, 1102, 1103, 1104, 1105, 1106, 1107, 1108, 1109, 1110, 1111, 1112, 1113, 1114, 1115, 1116, 1117, 1118, 1119, 1120, 1121, 1122] (by decide +kernel) (by decide +kernel)
set_option maxRecDepth 20000 in
theorem gL_law_X8_maximumDepth : GoodIn wsL_law (wsV RL 145 RX8 yX8_maximumDepth wsX8_maximumDepth) := goodIn_app (goodIn_of _ (by decide +kernel)) ggL_law_X8_maximumDepth
set_option maxRecDepth 20000 in
theorem ggL_law_X7_containedMatches : GoodIn wsL_law wsX7_containedMatches := goodIn_r _ [742, 33, 144, 37, 473, 58, 59, 60, 743, 744, 745, 2, 746, 747, 748, 749, 36, 750, 682, 330, 331, 332, 99, 254, 256, 257, 258, 329, 1066, 1067, 1068, 1069, 1070, 1071, 1072, 1073, 1074, 1075, 1076, 1077, 1078, 1079, 1080, 1124, 1125, 1143] (by decide +kernel) (by decide +kernel)
set_option maxRecDepth 20000 in
theorem gL_law_X7_containedMatches : GoodIn wsL_law (wsV RL 146 RX7 yX7_containedMatches wsX7_containedMatches) := goodIn_app (goodIn_of _ (by decide +kernel)) ggL_law_X7_containedMatches
set_option maxRecDepth 20000 in
theorem ggL_law_X8_containedMatches : GoodIn wsL_law wsX8_containedMatches := goodIn_r _ [754, 157, 433, 687, 688, 689, 5, 690, 124, 272, 116, 113, 125, 514, 515, 516, 517, 121, 292, 293, 294, 295, 114, 296, 297, 298, 299, 300, 301, 302, 303, 304, 305, 306, 274, 275, 276, 691, 692, 693, 694, 755, 756, 757, 758, 1081, 1082, 1083, 1084, 1085, 1086, 1087, 1088, 1089, 1090, 1091, 1092, 1093, 1094, 1095, 1096, 1097, 1098, 1099, 1100, 1101, 1102, 1103, 1104, 1105, 1106, 1107, 1108, 1109, 1110, 1111, 1112, 1113, 1114, 1115, 1116, 1117, 1118, 1119, 1120, 1121, 1122] (by decide +kernel) (by decide +kernel)
set_option maxRecDepth 20000 in
theorem gL_law_X8_containedMatches : GoodIn wsL_law (wsV RL 149 RX8 yX8_containedMatches wsX8_containedMatches) := goodIn_app (goodIn_of _ (by decide +kernel)) ggL_law_X8_containedMatches
set_option maxRecDepth 20000 in
theorem ggL_law_X7_gapLength : GoodIn wsL_law wsX7_gapLength := goodIn_r _ [762, 33, 144, 44, 473, 58, 59, 60, 715, 716, 717, 2, 718, 37, 678, 679, 680, 36, 681, 682, 330, 331, 332, 99, 254, 256, 257, 258, 719, 720, 721, 722, 1066, 1067, 1068, 1069, 1070, 1071, 1072, 1073, 1074, 1075, 1076, 1077, 1078, 1079, 1080, 1124, 1125, 1143] (by decide +kernel) (by decide +kernel)
set_option maxRecDepth 20000 in
theorem gL_law_X7_gapLength : GoodIn wsL_law (wsV RL 150 RX7 yX7_gapLength wsX7_gapLength) := goodIn_app (goodIn_of _ (by decide +kernel)) ggL_law_X7_gapLength
set_option maxRecDepth 20000 in
theorem ggL_law_X8_gapLength : GoodIn wsL_law wsX8_gapLength := goodIn_r _ [766, 157, 767, 768, 769, 770, 5, 771, 772, 433, 687, 688, 689, 690, 124, 272, 116, 113, 125, 514, 515, 516, 517, 121, 292, 293, 294, 295, 114, 296, 297, 298, 299, 300, 301, 302, 303, 304, 305, 306, 274, 275, 276, 691, 692, 693, 694, 1081, 1082, 1083, 1084, 1085, 1086, 1087, 1088, 1089, 1090, 1091, 1092, 1093, 1094, 1095, 1096, 1097, 1098, 1099, 1100, 1101, 1102, 1103, 1104, 1105, 1106, 1107, 1108, 1109, 1110, 1111, 1112, 1113, 1114, 1115, 1116, 1117, 1118, 1119, 1120, 1121, 1122] (by decide +kernel) (by decide +kernel)
set_option maxRecDepth 20000 in
theorem gL_law_X8_gapLength : GoodIn wsL_law (wsV RL 153 RX8 yX8_gapLength wsX8_gapLength) := goodIn_app (goodIn_of _ (by decide +kernel)) ggL_law_X8_gapLength
set_option maxRecDepth 20000 in
theorem ggL_law_X7_gapStart : GoodIn wsL_law wsX7_gapStart := goodIn_r _ [776, 33, 144, 44, 777, 760, 761, 2, 762, 473, 58, 59, 60, 715, 716, 717, 718, 37, 678, 679, 680, 36, 681, 682, 330, 331, 332, 99, 254, 256, 257, 258, 719, 720, 721, 722, 1066, 1067, 1068, 1069, 1070, 1071, 1072, 1073, 1074, 1075, 1076, 1077, 1078, 1079, 1080, 1124, 1125, 1143] (by decide +kernel) (by decide +kernel)
set_option maxRecDepth 20000 in
theorem gL_law_X7_gapStart : GoodIn wsL_law (wsV RL 154 RX7 yX7_gapStart wsX7_gapStart) := goodIn_app (goodIn_of _ (by decide +kernel)) ggL_law_X7_gapStart
set_option maxRecDepth 20000 in
theorem ggL_law_X8_gapStart : GoodIn wsL_law wsX8_gapStart := goodIn_r _ [781, 157, 772, 768, 769, 770, 5, 771, 767, 433, 687, 688, 689, 690, 124, 272, 116, 113, 125, 514, 515, 516, 517, 121, 292, 293, 294, 295, 114, 296, 297, 298, 299, 300, 301, 302, 303, 304, 305, 306, 274, 275, 276, 691, 692, 693, 694, 1081, 1082, 1083, 1084, 1085, 1086, 1087, 1088, 1089, 1090, 1091, 1092, 1093, 1094, 1095, 1096, 1097, 1098, 1099, 1100, 1101, 1102, 1103, 1104, 1105, 1106, 1107, 1108, 1109, 1110, 1111, 1112, 1113, 1114, 1115, 1116, 1117, 1118, 1119, 1120, 1121, 1122] (by decide +kernel) (by decide +kernel)
set_option maxRecDepth 20000 in
theorem gL_law_X8_gapStart : GoodIn wsL_law (wsV RL 157 RX8 yX8_gapStart wsX8_gapStart) := goodIn_app (goodIn_of _ (by decide +kernel)) ggL_law_X8_gapStart
set_option maxRecDepth 20000 in
theorem ggL_law_X7_overlapLength : GoodIn wsL_law wsX7_overlapLength := goodIn_r _ [785, 23, 497, 220, 59, 221, 15, 541, 379, 204, 205, 22, 206, 73, 542, 208, 209, 210, 249, 200, 201, 202, 69, 203, 786, 787, 788, 14, 789, 215, 216, 217, 218, 219, 222, 58, 60, 223, 224, 225, 226, 227, 1066, 1067, 1068, 1069, 1070, 1071, 1072, 1073, 1074, 1075, 1076, 1077, 1078, 1079, 1080, 1126, 1127, 1128, 1129, 1130, 1131, 1132, 1123] (by decide +kernel) (by decide +kernel)
set_option maxRecDepth 20000 in
theorem gL_law_X7_overlapLength : GoodIn wsL_law (wsV RL 158 RX7 yX7_overlapLength wsX7_overlapLength) := goodIn_app (goodIn_of _ (by decide +kernel)) ggL_law_X7_overlapLength
set_option maxRecDepth 20000 in
theorem ggL_law_X8_overlapLength : GoodIn wsL_law wsX8_overlapLength := goodIn_r _ [793, 157, 113, 354, 355, 356, 5, 357, 272, 274, 275, 276, 547, 548, 549, 550, 292, 293, 294, 295, 114, 296, 297, 298, 299, 300, 301, 302, 303, 304, 305, 306, 1081, 1082, 1083, 1084, 1085, 1086, 1087, 1088, 1089, 1090, 1091, 1092, 1093, 1094, 1095, 1096, 1097, 1098, 1099, 1100, 1101, 1102, 1103, 1104, 1105, 1106, 1107, 1108, 1109, 1110, 1111, 1112, 1113, 1114, 1115, 1116, 1117, 1118, 1119, 1120, 1121, 1122] (by decide +kernel) (by decide +kernel)
set_option maxRecDepth 20000 in
theorem gL_law_X8_overlapLength : GoodIn wsL_law (wsV RL 161 RX8 yX8_overlapLength wsX8_overlapLength) := goodIn_app (goodIn_of _ (by decide +kernel)) ggL_law_X8_overlapLength
set_option maxRecDepth 20000 in
theorem ggL_law_X7_nearMatchCount : GoodIn wsL_law wsX7_nearMatchCount := goodIn_r _ [797, 23, 33, 144, 321, 322, 323, 22, 324, 72, 203, 204, 205, 206, 73, 249, 200, 201, 202, 69, 798, 799, 800, 801, 67, 199, 802, 389, 390, 391, 68, 207, 208, 209, 210, 803, 224, 225, 14, 226, 227, 232, 186, 187, 18, 188, 62, 61, 1066, 1067, 1068, 1069, 1070, 1071, 1072, 1073, 1074, 1075, 1076, 1077, 1078, 1079, 1080, 1124, 1125, 1126, 1127, 1128, 1129, 1130, 1131, 1132, 1123] (by decide +kernel) (by decide +kernel)
set_option maxRecDepth 20000 in
theorem gL_law_X7_nearMatchCount : GoodIn wsL_law (wsV RL 162 RX7 yX7_nearMatchCount wsX7_nearMatchCount) := goodIn_app (goodIn_of _ (by decide +kernel)) ggL_law_X7_nearMatchCount
set_option maxRecDepth 20000 in
theorem ggL_law_X8_nearMatchCount : GoodIn wsL_law wsX8_nearMatchCount := goodIn_r _ [807, 157, 808, 113, 433, 350, 351, 352, 5, 353, 116, 354, 355, 356, 357, 272, 274, 275, 276, 809, 810, 811, 812, 121, 292, 293, 294, 295, 114, 296, 297, 298, 299, 300, 301, 302, 303, 304, 305, 306, 1081, 1082, 1083, 1084, 1085, 1086, 1087, 1088, 1089, 1090, 1091, 1092, 1093, 1094, 1095, 1096, 1097, 1098, 1099, 1100, 1101, 1102, 1103, 1104, 1105, 1106, 1107, 1108, 1109, 1110, 1111, 1112, 1113, 1114, 1115, 1116, 1117, 1118, 1119, 1120, 1121, 1122] (by decide +kernel) (by decide +kernel)
set_option maxRecDepth 20000 in
theorem gL_law_X8_nearMatchCount : GoodIn wsL_law (wsV RL 165 RX8 yX8_nearMatchCount wsX8_nearMatchCount) := goodIn_app (goodIn_of _ (by decide +kernel)) ggL_law_X8_nearMatchCount
set_option maxRecDepth 20000 in
theorem ggL_law_X7_fewestMismatches : GoodIn wsL_law wsX7_fewestMismatches := goodIn_r _ [816, 23, 33, 321, 322, 323, 22, 324, 72, 203, 204, 205, 206, 73, 817, 818, 819, 2, 820, 144, 249, 200, 201, 202, 69, 798, 799, 800, 801, 67, 199, 802, 389, 390, 391, 68, 207, 208, 209, 210, 803, 224, 225, 14, 226, 227, 232, 186, 187, 18, 188, 62, 61, 1066, 1067, 1068, 1069, 1070, 1071, 1072, 1073, 1074, 1075, 1076, 1077, 1078, 1079, 1080, 1126, 1127, 1128, 1129, 1130, 1131, 1132, 1124, 1125, 1123] (by decide +kernel) (by decide +kernel)
