theorem arm_30 {p : Program} {l : Launch} {e : Env} {s : State} {m : MethodId} {below : List Frame} {meth : Method} {c : Code} {b L : Nat} {xs : Nat → Int32} {D : va_G} {cI cZ cJ : ClassId} {A0 : Nat → Prop} (C : LzC p s m c b L xs D cI cZ cJ A0) : LzA p l e s m below meth c b L D cI cZ cJ A0 954 := by
  intro qK qM i t H locs ls ht hi hw hl kk
  obtain ⟨wa, wb, hw, hPa, hPb, hD, hS⟩ := hw
  obtain ⟨r, wa1, wb1, m1, m2, m3, m4, m5⟩ := met_overlappingPairs l D ht hw 
  have hts := C.1.2.2.2.2
  refine lz_armW (pc0 := 954) (pc1 := 955) (pc3 := 959) C hl hw.heads hPa hPb hD hS m1 m2 m3 m4 (cwV 0 hts gL_law_X7_overlappingPairs rfl rfl rfl (by decide +kernel) ⟨Nat.le_of_ble_eq_true rfl, Nat.le_of_ble_eq_true rfl⟩) (cwV 0 hts gL_law_X8_overlappingPairs rfl rfl rfl (by decide +kernel) ⟨Nat.le_of_ble_eq_true rfl, Nat.le_of_ble_eq_true rfl⟩) rfl (fun k => ?_) (fun H1 locs1 hS1 k => ?_) dL_law_955 dL_law_959 dL_law_962 (by decide) (fun H1 locs1 qa qb qd qs => kk H1 locs1 ⟨_, _, m5, qa, qb, qd, qs⟩)
  · exact lz_q C hl dL_law_954 k
  · exact lz_m C hl dL_law_958 k
theorem arm_31 {p : Program} {l : Launch} {e : Env} {s : State} {m : MethodId} {below : List Frame} {meth : Method} {c : Code} {b L : Nat} {xs : Nat → Int32} {D : va_G} {cI cZ cJ : ClassId} {A0 : Nat → Prop} (C : LzC p s m c b L xs D cI cZ cJ A0) : LzA p l e s m below meth c b L D cI cZ cJ A0 967 := by
  intro qK qM i t H locs ls ht hi hw hl kk
  obtain ⟨wa, wb, hw, hPa, hPb, hD, hS⟩ := hw
  obtain ⟨r, wa1, wb1, m1, m2, m3, m4, m5⟩ := met_maximumDepth l D ht hw 
  have hts := C.1.2.2.2.2
  refine lz_armW (pc0 := 967) (pc1 := 968) (pc3 := 972) C hl hw.heads hPa hPb hD hS m1 m2 m3 m4 (cwV 0 hts gL_law_X7_maximumDepth rfl rfl rfl (by decide +kernel) ⟨Nat.le_of_ble_eq_true rfl, Nat.le_of_ble_eq_true rfl⟩) (cwV 0 hts gL_law_X8_maximumDepth rfl rfl rfl (by decide +kernel) ⟨Nat.le_of_ble_eq_true rfl, Nat.le_of_ble_eq_true rfl⟩) rfl (fun k => ?_) (fun H1 locs1 hS1 k => ?_) dL_law_968 dL_law_972 dL_law_975 (by decide) (fun H1 locs1 qa qb qd qs => kk H1 locs1 ⟨_, _, m5, qa, qb, qd, qs⟩)
  · exact lz_q C hl dL_law_967 k
  · exact lz_m C hl dL_law_971 k
theorem arm_32 {p : Program} {l : Launch} {e : Env} {s : State} {m : MethodId} {below : List Frame} {meth : Method} {c : Code} {b L : Nat} {xs : Nat → Int32} {D : va_G} {cI cZ cJ : ClassId} {A0 : Nat → Prop} (C : LzC p s m c b L xs D cI cZ cJ A0) : LzA p l e s m below meth c b L D cI cZ cJ A0 980 := by
  intro qK qM i t H locs ls ht hi hw hl kk
  obtain ⟨wa, wb, hw, hPa, hPb, hD, hS⟩ := hw
  obtain ⟨r, wb1, m1, m2, m4, m5⟩ := met_containedMatches l D ht hw 
  have hts := C.1.2.2.2.2
  refine lz_armR (pc0 := 980) (pc1 := 981) (pc3 := 985) C hl hw.heads hPa hPb hD hS m1 m2 m4 (cwV 0 hts gL_law_X7_containedMatches rfl rfl rfl (by decide +kernel) ⟨Nat.le_of_ble_eq_true rfl, Nat.le_of_ble_eq_true rfl⟩) (cwV 0 hts gL_law_X8_containedMatches rfl rfl rfl (by decide +kernel) ⟨Nat.le_of_ble_eq_true rfl, Nat.le_of_ble_eq_true rfl⟩) rfl (fun k => ?_) (fun H1 locs1 hS1 k => ?_) dL_law_981 dL_law_985 dL_law_988 (by decide) (fun H1 locs1 qa qb qd qs => kk H1 locs1 ⟨_, _, m5, qa, qb, qd, qs⟩)
  · exact lz_q C hl dL_law_980 k
  · exact lz_m C hl dL_law_984 k
theorem arm_33 {p : Program} {l : Launch} {e : Env} {s : State} {m : MethodId} {below : List Frame} {meth : Method} {c : Code} {b L : Nat} {xs : Nat → Int32} {D : va_G} {cI cZ cJ : ClassId} {A0 : Nat → Prop} (C : LzC p s m c b L xs D cI cZ cJ A0) : LzA p l e s m below meth c b L D cI cZ cJ A0 993 := by
  intro qK qM i t H locs ls ht hi hw hl kk
  obtain ⟨wa, wb, hw, hPa, hPb, hD, hS⟩ := hw
  obtain ⟨r, wa1, wb1, m1, m2, m3, m4, m5⟩ := met_gapLength l D ht hw 
  have hts := C.1.2.2.2.2
  refine lz_armW (pc0 := 993) (pc1 := 994) (pc3 := 998) C hl hw.heads hPa hPb hD hS m1 m2 m3 m4 (cwV 0 hts gL_law_X7_gapLength rfl rfl rfl (by decide +kernel) ⟨Nat.le_of_ble_eq_true rfl, Nat.le_of_ble_eq_true rfl⟩) (cwV 0 hts gL_law_X8_gapLength rfl rfl rfl (by decide +kernel) ⟨Nat.le_of_ble_eq_true rfl, Nat.le_of_ble_eq_true rfl⟩) rfl (fun k => ?_) (fun H1 locs1 hS1 k => ?_) dL_law_994 dL_law_998 dL_law_1001 (by decide) (fun H1 locs1 qa qb qd qs => kk H1 locs1 ⟨_, _, m5, qa, qb, qd, qs⟩)
  · exact lz_q C hl dL_law_993 k
  · exact lz_m C hl dL_law_997 k
theorem arm_34 {p : Program} {l : Launch} {e : Env} {s : State} {m : MethodId} {below : List Frame} {meth : Method} {c : Code} {b L : Nat} {xs : Nat → Int32} {D : va_G} {cI cZ cJ : ClassId} {A0 : Nat → Prop} (C : LzC p s m c b L xs D cI cZ cJ A0) : LzA p l e s m below meth c b L D cI cZ cJ A0 1006 := by
  intro qK qM i t H locs ls ht hi hw hl kk
  obtain ⟨wa, wb, hw, hPa, hPb, hD, hS⟩ := hw
  obtain ⟨r, wa1, wb1, m1, m2, m3, m4, m5⟩ := met_gapStart l D ht hw 
  have hts := C.1.2.2.2.2
  refine lz_armW (pc0 := 1006) (pc1 := 1007) (pc3 := 1011) C hl hw.heads hPa hPb hD hS m1 m2 m3 m4 (cwV 0 hts gL_law_X7_gapStart rfl rfl rfl (by decide +kernel) ⟨Nat.le_of_ble_eq_true rfl, Nat.le_of_ble_eq_true rfl⟩) (cwV 0 hts gL_law_X8_gapStart rfl rfl rfl (by decide +kernel) ⟨Nat.le_of_ble_eq_true rfl, Nat.le_of_ble_eq_true rfl⟩) rfl (fun k => ?_) (fun H1 locs1 hS1 k => ?_) dL_law_1007 dL_law_1011 dL_law_1014 (by decide) (fun H1 locs1 qa qb qd qs => kk H1 locs1 ⟨_, _, m5, qa, qb, qd, qs⟩)
  · exact lz_q C hl dL_law_1006 k
  · exact lz_m C hl dL_law_1010 k
theorem arm_35 {p : Program} {l : Launch} {e : Env} {s : State} {m : MethodId} {below : List Frame} {meth : Method} {c : Code} {b L : Nat} {xs : Nat → Int32} {D : va_G} {cI cZ cJ : ClassId} {A0 : Nat → Prop} (C : LzC p s m c b L xs D cI cZ cJ A0) : LzA p l e s m below meth c b L D cI cZ cJ A0 1019 := by
  intro qK qM i t H locs ls ht hi hw hl kk
  obtain ⟨wa, wb, hw, hPa, hPb, hD, hS⟩ := hw
  obtain ⟨r, wb1, m1, m2, m4, m5⟩ := met_overlapLength l D ht hw (avS_rg xs (i + 1)) (avS_rg xs (i + 2))
  have hts := C.1.2.2.2.2
  refine lz_armR (pc0 := 1019) (pc1 := 1030) (pc3 := 1044) C hl hw.heads hPa hPb hD hS m1 m2 m4 (cwV 2 hts gL_law_X7_overlapLength rfl rfl rfl (by decide +kernel) ⟨Nat.le_of_ble_eq_true rfl, Nat.le_of_ble_eq_true rfl⟩) (cwV 2 hts gL_law_X8_overlapLength rfl rfl rfl (by decide +kernel) ⟨Nat.le_of_ble_eq_true rfl, Nat.le_of_ble_eq_true rfl⟩) rfl (fun k => ?_) (fun H1 locs1 hS1 k => ?_) dL_law_1030 dL_law_1044 dL_law_1047 (by decide) (fun H1 locs1 qa qb qd qs => kk H1 locs1 ⟨_, _, m5, qa, qb, qd, qs⟩)
  · exact lz_q C hl dL_law_1019 (lz_a C hS hl 1 rfl (by omega) dL_law_1020 dL_law_1021 dL_law_1022 dL_law_1023 dL_law_1024 (lz_a C hS hl 2 rfl (by omega) dL_law_1025 dL_law_1026 dL_law_1027 dL_law_1028 dL_law_1029 k))
  · exact lz_m C hl dL_law_1033 (lz_a C hS1 hl 1 rfl (by omega) dL_law_1034 dL_law_1035 dL_law_1036 dL_law_1037 dL_law_1038 (lz_a C hS1 hl 2 rfl (by omega) dL_law_1039 dL_law_1040 dL_law_1041 dL_law_1042 dL_law_1043 k))
theorem arm_36 {p : Program} {l : Launch} {e : Env} {s : State} {m : MethodId} {below : List Frame} {meth : Method} {c : Code} {b L : Nat} {xs : Nat → Int32} {D : va_G} {cI cZ cJ : ClassId} {A0 : Nat → Prop} (C : LzC p s m c b L xs D cI cZ cJ A0) : LzA p l e s m below meth c b L D cI cZ cJ A0 1052 := by
  intro qK qM i t H locs ls ht hi hw hl kk
  obtain ⟨wa, wb, hw, hPa, hPb, hD, hS⟩ := hw
  obtain ⟨r, wb1, m1, m2, m4, m5⟩ := met_nearMatchCount l D ht hw (avS_rg xs (i + 1)) (avS_rg xs (i + 2))
  have hts := C.1.2.2.2.2
  refine lz_armR (pc0 := 1052) (pc1 := 1063) (pc3 := 1077) C hl hw.heads hPa hPb hD hS m1 m2 m4 (cwV 2 hts gL_law_X7_nearMatchCount rfl rfl rfl (by decide +kernel) ⟨Nat.le_of_ble_eq_true rfl, Nat.le_of_ble_eq_true rfl⟩) (cwV 2 hts gL_law_X8_nearMatchCount rfl rfl rfl (by decide +kernel) ⟨Nat.le_of_ble_eq_true rfl, Nat.le_of_ble_eq_true rfl⟩) rfl (fun k => ?_) (fun H1 locs1 hS1 k => ?_) dL_law_1063 dL_law_1077 dL_law_1080 (by decide) (fun H1 locs1 qa qb qd qs => kk H1 locs1 ⟨_, _, m5, qa, qb, qd, qs⟩)
  · exact lz_q C hl dL_law_1052 (lz_a C hS hl 1 rfl (by omega) dL_law_1053 dL_law_1054 dL_law_1055 dL_law_1056 dL_law_1057 (lz_a C hS hl 2 rfl (by omega) dL_law_1058 dL_law_1059 dL_law_1060 dL_law_1061 dL_law_1062 k))
  · exact lz_m C hl dL_law_1066 (lz_a C hS1 hl 1 rfl (by omega) dL_law_1067 dL_law_1068 dL_law_1069 dL_law_1070 dL_law_1071 (lz_a C hS1 hl 2 rfl (by omega) dL_law_1072 dL_law_1073 dL_law_1074 dL_law_1075 dL_law_1076 k))
theorem arm_37 {p : Program} {l : Launch} {e : Env} {s : State} {m : MethodId} {below : List Frame} {meth : Method} {c : Code} {b L : Nat} {xs : Nat → Int32} {D : va_G} {cI cZ cJ : ClassId} {A0 : Nat → Prop} (C : LzC p s m c b L xs D cI cZ cJ A0) : LzA p l e s m below meth c b L D cI cZ cJ A0 1085 := by
  intro qK qM i t H locs ls ht hi hw hl kk
  obtain ⟨wa, wb, hw, hPa, hPb, hD, hS⟩ := hw
  obtain ⟨r, wb1, m1, m2, m4, m5⟩ := met_fewestMismatches l D ht hw (avS_rg xs (i + 1))
  have hts := C.1.2.2.2.2
  refine lz_armR (pc0 := 1085) (pc1 := 1091) (pc3 := 1100) C hl hw.heads hPa hPb hD hS m1 m2 m4 (cwV 1 hts gL_law_X7_fewestMismatches rfl rfl rfl (by decide +kernel) ⟨Nat.le_of_ble_eq_true rfl, Nat.le_of_ble_eq_true rfl⟩) (cwV 1 hts gL_law_X8_fewestMismatches rfl rfl rfl (by decide +kernel) ⟨Nat.le_of_ble_eq_true rfl, Nat.le_of_ble_eq_true rfl⟩) rfl (fun k => ?_) (fun H1 locs1 hS1 k => ?_) dL_law_1091 dL_law_1100 dL_law_1103 (by decide) (fun H1 locs1 qa qb qd qs => kk H1 locs1 ⟨_, _, m5, qa, qb, qd, qs⟩)
  · exact lz_q C hl dL_law_1085 (lz_a C hS hl 1 rfl (by omega) dL_law_1086 dL_law_1087 dL_law_1088 dL_law_1089 dL_law_1090 k)
  · exact lz_m C hl dL_law_1094 (lz_a C hS1 hl 1 rfl (by omega) dL_law_1095 dL_law_1096 dL_law_1097 dL_law_1098 dL_law_1099 k)
theorem arm_38 {p : Program} {l : Launch} {e : Env} {s : State} {m : MethodId} {below : List Frame} {meth : Method} {c : Code} {b L : Nat} {xs : Nat → Int32} {D : va_G} {cI cZ cJ : ClassId} {A0 : Nat → Prop} (C : LzC p s m c b L xs D cI cZ cJ A0) : LzA p l e s m below meth c b L D cI cZ cJ A0 1108 := by
  intro qK qM i t H locs ls ht hi hw hl kk
  obtain ⟨wa, wb, hw, hPa, hPb, hD, hS⟩ := hw
  obtain ⟨r, wb1, m1, m2, m4, m5⟩ := met_nearestStart l D ht hw (avS_rg xs (i + 1))
  have hts := C.1.2.2.2.2
  refine lz_armR (pc0 := 1108) (pc1 := 1114) (pc3 := 1123) C hl hw.heads hPa hPb hD hS m1 m2 m4 (cwV 1 hts gL_law_X7_nearestStart rfl rfl rfl (by decide +kernel) ⟨Nat.le_of_ble_eq_true rfl, Nat.le_of_ble_eq_true rfl⟩) (cwV 1 hts gL_law_X8_nearestStart rfl rfl rfl (by decide +kernel) ⟨Nat.le_of_ble_eq_true rfl, Nat.le_of_ble_eq_true rfl⟩) rfl (fun k => ?_) (fun H1 locs1 hS1 k => ?_) dL_law_1114 dL_law_1123 dL_law_1126 (by decide) (fun H1 locs1 qa qb qd qs => kk H1 locs1 ⟨_, _, m5, qa, qb, qd, qs⟩)
  · exact lz_q C hl dL_law_1108 (lz_a C hS hl 1 rfl (by omega) dL_law_1109 dL_law_1110 dL_law_1111 dL_law_1112 dL_law_1113 k)
  · exact lz_m C hl dL_law_1117 (lz_a C hS1 hl 1 rfl (by omega) dL_law_1118 dL_law_1119 dL_law_1120 dL_law_1121 dL_law_1122 k)
theorem arm_39 {p : Program} {l : Launch} {e : Env} {s : State} {m : MethodId} {below : List Frame} {meth : Method} {c : Code} {b L : Nat} {xs : Nat → Int32} {D : va_G} {cI cZ cJ : ClassId} {A0 : Nat → Prop} (C : LzC p s m c b L xs D cI cZ cJ A0) : LzA p l e s m below meth c b L D cI cZ cJ A0 1131 := by
  intro qK qM i t H locs ls ht hi hw hl kk
  obtain ⟨wa, wb, hw, hPa, hPb, hD, hS⟩ := hw
  obtain ⟨r, wa1, wb1, m1, m2, m3, m4, m5⟩ := met_superstringLength l D ht hw 
  have hts := C.1.2.2.2.2
  refine lz_armW (pc0 := 1131) (pc1 := 1132) (pc3 := 1136) C hl hw.heads hPa hPb hD hS m1 m2 m3 m4 (cwV 0 hts gL_law_X7_superstringLength rfl rfl rfl (by decide +kernel) ⟨Nat.le_of_ble_eq_true rfl, Nat.le_of_ble_eq_true rfl⟩) (cwV 0 hts gL_law_X8_superstringLength rfl rfl rfl (by decide +kernel) ⟨Nat.le_of_ble_eq_true rfl, Nat.le_of_ble_eq_true rfl⟩) rfl (fun k => ?_) (fun H1 locs1 hS1 k => ?_) dL_law_1132 dL_law_1136 dL_law_1139 (by decide) (fun H1 locs1 qa qb qd qs => kk H1 locs1 ⟨_, _, m5, qa, qb, qd, qs⟩)
  · exact lz_q C hl dL_law_1131 k
  · exact lz_m C hl dL_law_1135 k
