theorem arm_40 {p : Program} {l : Launch} {e : Env} {s : State} {m : MethodId} {below : List Frame} {meth : Method} {c : Code} {b L : Nat} {xs : Nat → Int32} {D : va_G} {cI cZ cJ : ClassId} {A0 : Nat → Prop} (C : LzC p s m c b L xs D cI cZ cJ A0) : LzA p l e s m below meth c b L D cI cZ cJ A0 1144 := by
  intro qK qM i t H locs ls ht hi hw hl kk
  obtain ⟨wa, wb, hw, hPa, hPb, hD, hS⟩ := hw
  obtain ⟨r, wa1, wb1, m1, m2, m3, m4, m5⟩ := met_superstringByte l D ht hw (avS_rg xs (i + 1))
  have hts := C.1.2.2.2.2
  refine lz_armW (pc0 := 1144) (pc1 := 1150) (pc3 := 1159) C hl hw.heads hPa hPb hD hS m1 m2 m3 m4 (cwV 1 hts gL_law_X7_superstringByte rfl rfl rfl (by decide +kernel) ⟨Nat.le_of_ble_eq_true rfl, Nat.le_of_ble_eq_true rfl⟩) (cwV 1 hts gL_law_X8_superstringByte rfl rfl rfl (by decide +kernel) ⟨Nat.le_of_ble_eq_true rfl, Nat.le_of_ble_eq_true rfl⟩) rfl (fun k => ?_) (fun H1 locs1 hS1 k => ?_) dL_law_1150 dL_law_1159 dL_law_1162 (by decide) (fun H1 locs1 qa qb qd qs => kk H1 locs1 ⟨_, _, m5, qa, qb, qd, qs⟩)
  · exact lz_q C hl dL_law_1144 (lz_a C hS hl 1 rfl (by omega) dL_law_1145 dL_law_1146 dL_law_1147 dL_law_1148 dL_law_1149 k)
  · exact lz_m C hl dL_law_1153 (lz_a C hS1 hl 1 rfl (by omega) dL_law_1154 dL_law_1155 dL_law_1156 dL_law_1157 dL_law_1158 k)
theorem arm_41 {p : Program} {l : Launch} {e : Env} {s : State} {m : MethodId} {below : List Frame} {meth : Method} {c : Code} {b L : Nat} {xs : Nat → Int32} {D : va_G} {cI cZ cJ : ClassId} {A0 : Nat → Prop} (C : LzC p s m c b L xs D cI cZ cJ A0) : LzA p l e s m below meth c b L D cI cZ cJ A0 1167 := by
  intro qK qM i t H locs ls ht hi hw hl kk
  obtain ⟨wa, wb, hw, hPa, hPb, hD, hS⟩ := hw
  obtain ⟨r, wa1, wb1, m1, m2, m3, m4, m5⟩ := met_superstringStart l D ht hw (avS_rg xs (i + 1))
  have hts := C.1.2.2.2.2
  refine lz_armW (pc0 := 1167) (pc1 := 1173) (pc3 := 1182) C hl hw.heads hPa hPb hD hS m1 m2 m3 m4 (cwV 1 hts gL_law_X7_superstringStart rfl rfl rfl (by decide +kernel) ⟨Nat.le_of_ble_eq_true rfl, Nat.le_of_ble_eq_true rfl⟩) (cwV 1 hts gL_law_X8_superstringStart rfl rfl rfl (by decide +kernel) ⟨Nat.le_of_ble_eq_true rfl, Nat.le_of_ble_eq_true rfl⟩) rfl (fun k => ?_) (fun H1 locs1 hS1 k => ?_) dL_law_1173 dL_law_1182 dL_law_1185 (by decide) (fun H1 locs1 qa qb qd qs => kk H1 locs1 ⟨_, _, m5, qa, qb, qd, qs⟩)
  · exact lz_q C hl dL_law_1167 (lz_a C hS hl 1 rfl (by omega) dL_law_1168 dL_law_1169 dL_law_1170 dL_law_1171 dL_law_1172 k)
  · exact lz_m C hl dL_law_1176 (lz_a C hS1 hl 1 rfl (by omega) dL_law_1177 dL_law_1178 dL_law_1179 dL_law_1180 dL_law_1181 k)
theorem arm_42 {p : Program} {l : Launch} {e : Env} {s : State} {m : MethodId} {below : List Frame} {meth : Method} {c : Code} {b L : Nat} {xs : Nat → Int32} {D : va_G} {cI cZ cJ : ClassId} {A0 : Nat → Prop} (C : LzC p s m c b L xs D cI cZ cJ A0) : LzA p l e s m below meth c b L D cI cZ cJ A0 1190 := by
  intro qK qM i t H locs ls ht hi hw hl kk
  obtain ⟨wa, wb, hw, hPa, hPb, hD, hS⟩ := hw
  obtain ⟨r, wa1, wb1, m1, m2, m3, m4, m5⟩ := met_coveredBytes l D ht hw 
  have hts := C.1.2.2.2.2
  refine lz_armW (pc0 := 1190) (pc1 := 1191) (pc3 := 1195) C hl hw.heads hPa hPb hD hS m1 m2 m3 m4 (cwV 0 hts gL_law_X7_coveredBytes rfl rfl rfl (by decide +kernel) ⟨Nat.le_of_ble_eq_true rfl, Nat.le_of_ble_eq_true rfl⟩) (cwV 0 hts gL_law_X8_coveredBytes rfl rfl rfl (by decide +kernel) ⟨Nat.le_of_ble_eq_true rfl, Nat.le_of_ble_eq_true rfl⟩) rfl (fun k => ?_) (fun H1 locs1 hS1 k => ?_) dL_law_1191 dL_law_1195 dL_law_1198 (by decide) (fun H1 locs1 qa qb qd qs => kk H1 locs1 ⟨_, _, m5, qa, qb, qd, qs⟩)
  · exact lz_q C hl dL_law_1190 k
  · exact lz_m C hl dL_law_1194 k
theorem arm_43 {p : Program} {l : Launch} {e : Env} {s : State} {m : MethodId} {below : List Frame} {meth : Method} {c : Code} {b L : Nat} {xs : Nat → Int32} {D : va_G} {cI cZ cJ : ClassId} {A0 : Nat → Prop} (C : LzC p s m c b L xs D cI cZ cJ A0) : LzA p l e s m below meth c b L D cI cZ cJ A0 1203 := by
  intro qK qM i t H locs ls ht hi hw hl kk
  obtain ⟨wa, wb, hw, hPa, hPb, hD, hS⟩ := hw
  obtain ⟨r, wa1, wb1, m1, m2, m3, m4, m5⟩ := met_coverWeight l D ht hw 
  have hts := C.1.2.2.2.2
  refine lz_armW (pc0 := 1203) (pc1 := 1204) (pc3 := 1208) C hl hw.heads hPa hPb hD hS m1 m2 m3 m4 (cwV 0 hts gL_law_X7_coverWeight rfl rfl rfl (by decide +kernel) ⟨Nat.le_of_ble_eq_true rfl, Nat.le_of_ble_eq_true rfl⟩) (cwV 0 hts gL_law_X8_coverWeight rfl rfl rfl (by decide +kernel) ⟨Nat.le_of_ble_eq_true rfl, Nat.le_of_ble_eq_true rfl⟩) rfl (fun k => ?_) (fun H1 locs1 hS1 k => ?_) dL_law_1204 dL_law_1208 dL_law_1211 (by decide) (fun H1 locs1 qa qb qd qs => kk H1 locs1 ⟨_, _, m5, qa, qb, qd, qs⟩)
  · exact lz_q C hl dL_law_1203 k
  · exact lz_m C hl dL_law_1207 k
theorem arm_44 {p : Program} {l : Launch} {e : Env} {s : State} {m : MethodId} {below : List Frame} {meth : Method} {c : Code} {b L : Nat} {xs : Nat → Int32} {D : va_G} {cI cZ cJ : ClassId} {A0 : Nat → Prop} (C : LzC p s m c b L xs D cI cZ cJ A0) : LzA p l e s m below meth c b L D cI cZ cJ A0 1216 := by
  intro qK qM i t H locs ls ht hi hw hl kk
  obtain ⟨wa, wb, hw, hPa, hPb, hD, hS⟩ := hw
  obtain ⟨r, wa1, wb1, m1, m2, m3, m4, m5⟩ := met_coverSize l D ht hw 
  have hts := C.1.2.2.2.2
  refine lz_armW (pc0 := 1216) (pc1 := 1217) (pc3 := 1221) C hl hw.heads hPa hPb hD hS m1 m2 m3 m4 (cwV 0 hts gL_law_X7_coverSize rfl rfl rfl (by decide +kernel) ⟨Nat.le_of_ble_eq_true rfl, Nat.le_of_ble_eq_true rfl⟩) (cwV 0 hts gL_law_X8_coverSize rfl rfl rfl (by decide +kernel) ⟨Nat.le_of_ble_eq_true rfl, Nat.le_of_ble_eq_true rfl⟩) rfl (fun k => ?_) (fun H1 locs1 hS1 k => ?_) dL_law_1217 dL_law_1221 dL_law_1224 (by decide) (fun H1 locs1 qa qb qd qs => kk H1 locs1 ⟨_, _, m5, qa, qb, qd, qs⟩)
  · exact lz_q C hl dL_law_1216 k
  · exact lz_m C hl dL_law_1220 k
theorem arm_45 {p : Program} {l : Launch} {e : Env} {s : State} {m : MethodId} {below : List Frame} {meth : Method} {c : Code} {b L : Nat} {xs : Nat → Int32} {D : va_G} {cI cZ cJ : ClassId} {A0 : Nat → Prop} (C : LzC p s m c b L xs D cI cZ cJ A0) : LzA p l e s m below meth c b L D cI cZ cJ A0 1229 := by
  intro qK qM i t H locs ls ht hi hw hl kk
  obtain ⟨wa, wb, hw, hPa, hPb, hD, hS⟩ := hw
  obtain ⟨r, wa1, wb1, m1, m2, m3, m4, m5⟩ := met_coverStart l D ht hw (avS_rg xs (i + 1))
  have hts := C.1.2.2.2.2
  refine lz_armW (pc0 := 1229) (pc1 := 1235) (pc3 := 1244) C hl hw.heads hPa hPb hD hS m1 m2 m3 m4 (cwV 1 hts gL_law_X7_coverStart rfl rfl rfl (by decide +kernel) ⟨Nat.le_of_ble_eq_true rfl, Nat.le_of_ble_eq_true rfl⟩) (cwV 1 hts gL_law_X8_coverStart rfl rfl rfl (by decide +kernel) ⟨Nat.le_of_ble_eq_true rfl, Nat.le_of_ble_eq_true rfl⟩) rfl (fun k => ?_) (fun H1 locs1 hS1 k => ?_) dL_law_1235 dL_law_1244 dL_law_1247 (by decide) (fun H1 locs1 qa qb qd qs => kk H1 locs1 ⟨_, _, m5, qa, qb, qd, qs⟩)
  · exact lz_q C hl dL_law_1229 (lz_a C hS hl 1 rfl (by omega) dL_law_1230 dL_law_1231 dL_law_1232 dL_law_1233 dL_law_1234 k)
  · exact lz_m C hl dL_law_1238 (lz_a C hS1 hl 1 rfl (by omega) dL_law_1239 dL_law_1240 dL_law_1241 dL_law_1242 dL_law_1243 k)
theorem arm_46 {p : Program} {l : Launch} {e : Env} {s : State} {m : MethodId} {below : List Frame} {meth : Method} {c : Code} {b L : Nat} {xs : Nat → Int32} {D : va_G} {cI cZ cJ : ClassId} {A0 : Nat → Prop} (C : LzC p s m c b L xs D cI cZ cJ A0) : LzA p l e s m below meth c b L D cI cZ cJ A0 1252 := by
  intro qK qM i t H locs ls ht hi hw hl kk
  obtain ⟨wa, wb, hw, hPa, hPb, hD, hS⟩ := hw
  obtain ⟨r, wa1, wb1, m1, m2, m3, m4, m5⟩ := met_coverKeyword l D ht hw (avS_rg xs (i + 1))
  have hts := C.1.2.2.2.2
  refine lz_armW (pc0 := 1252) (pc1 := 1258) (pc3 := 1267) C hl hw.heads hPa hPb hD hS m1 m2 m3 m4 (cwV 1 hts gL_law_X7_coverKeyword rfl rfl rfl (by decide +kernel) ⟨Nat.le_of_ble_eq_true rfl, Nat.le_of_ble_eq_true rfl⟩) (cwV 1 hts gL_law_X8_coverKeyword rfl rfl rfl (by decide +kernel) ⟨Nat.le_of_ble_eq_true rfl, Nat.le_of_ble_eq_true rfl⟩) rfl (fun k => ?_) (fun H1 locs1 hS1 k => ?_) dL_law_1258 dL_law_1267 dL_law_1270 (by decide) (fun H1 locs1 qa qb qd qs => kk H1 locs1 ⟨_, _, m5, qa, qb, qd, qs⟩)
  · exact lz_q C hl dL_law_1252 (lz_a C hS hl 1 rfl (by omega) dL_law_1253 dL_law_1254 dL_law_1255 dL_law_1256 dL_law_1257 k)
  · exact lz_m C hl dL_law_1261 (lz_a C hS1 hl 1 rfl (by omega) dL_law_1262 dL_law_1263 dL_law_1264 dL_law_1265 dL_law_1266 k)
theorem arm_47 {p : Program} {l : Launch} {e : Env} {s : State} {m : MethodId} {below : List Frame} {meth : Method} {c : Code} {b L : Nat} {xs : Nat → Int32} {D : va_G} {cI cZ cJ : ClassId} {A0 : Nat → Prop} (C : LzC p s m c b L xs D cI cZ cJ A0) : LzA p l e s m below meth c b L D cI cZ cJ A0 1275 := by
  intro qK qM i t H locs ls ht hi hw hl kk
  obtain ⟨wa, wb, hw, hPa, hPb, hD, hS⟩ := hw
  obtain ⟨r, wa1, wb1, m1, m2, m3, m4, m5⟩ := met_longestSize l D ht hw 
  have hts := C.1.2.2.2.2
  refine lz_armW (pc0 := 1275) (pc1 := 1276) (pc3 := 1280) C hl hw.heads hPa hPb hD hS m1 m2 m3 m4 (cwV 0 hts gL_law_X7_longestSize rfl rfl rfl (by decide +kernel) ⟨Nat.le_of_ble_eq_true rfl, Nat.le_of_ble_eq_true rfl⟩) (cwV 0 hts gL_law_X8_longestSize rfl rfl rfl (by decide +kernel) ⟨Nat.le_of_ble_eq_true rfl, Nat.le_of_ble_eq_true rfl⟩) rfl (fun k => ?_) (fun H1 locs1 hS1 k => ?_) dL_law_1276 dL_law_1280 dL_law_1283 (by decide) (fun H1 locs1 qa qb qd qs => kk H1 locs1 ⟨_, _, m5, qa, qb, qd, qs⟩)
  · exact lz_q C hl dL_law_1275 k
  · exact lz_m C hl dL_law_1279 k
theorem arm_48 {p : Program} {l : Launch} {e : Env} {s : State} {m : MethodId} {below : List Frame} {meth : Method} {c : Code} {b L : Nat} {xs : Nat → Int32} {D : va_G} {cI cZ cJ : ClassId} {A0 : Nat → Prop} (C : LzC p s m c b L xs D cI cZ cJ A0) : LzA p l e s m below meth c b L D cI cZ cJ A0 1288 := by
  intro qK qM i t H locs ls ht hi hw hl kk
  obtain ⟨wa, wb, hw, hPa, hPb, hD, hS⟩ := hw
  obtain ⟨r, wa1, wb1, m1, m2, m3, m4, m5⟩ := met_longestStart l D ht hw (avS_rg xs (i + 1))
  have hts := C.1.2.2.2.2
  refine lz_armW (pc0 := 1288) (pc1 := 1294) (pc3 := 1303) C hl hw.heads hPa hPb hD hS m1 m2 m3 m4 (cwV 1 hts gL_law_X7_longestStart rfl rfl rfl (by decide +kernel) ⟨Nat.le_of_ble_eq_true rfl, Nat.le_of_ble_eq_true rfl⟩) (cwV 1 hts gL_law_X8_longestStart rfl rfl rfl (by decide +kernel) ⟨Nat.le_of_ble_eq_true rfl, Nat.le_of_ble_eq_true rfl⟩) rfl (fun k => ?_) (fun H1 locs1 hS1 k => ?_) dL_law_1294 dL_law_1303 dL_law_1306 (by decide) (fun H1 locs1 qa qb qd qs => kk H1 locs1 ⟨_, _, m5, qa, qb, qd, qs⟩)
  · exact lz_q C hl dL_law_1288 (lz_a C hS hl 1 rfl (by omega) dL_law_1289 dL_law_1290 dL_law_1291 dL_law_1292 dL_law_1293 k)
  · exact lz_m C hl dL_law_1297 (lz_a C hS1 hl 1 rfl (by omega) dL_law_1298 dL_law_1299 dL_law_1300 dL_law_1301 dL_law_1302 k)
theorem arm_49 {p : Program} {l : Launch} {e : Env} {s : State} {m : MethodId} {below : List Frame} {meth : Method} {c : Code} {b L : Nat} {xs : Nat → Int32} {D : va_G} {cI cZ cJ : ClassId} {A0 : Nat → Prop} (C : LzC p s m c b L xs D cI cZ cJ A0) : LzA p l e s m below meth c b L D cI cZ cJ A0 1311 := by
  intro qK qM i t H locs ls ht hi hw hl kk
  obtain ⟨wa, wb, hw, hPa, hPb, hD, hS⟩ := hw
  obtain ⟨r, wa1, wb1, m1, m2, m3, m4, m5⟩ := met_longestKeyword l D ht hw (avS_rg xs (i + 1))
  have hts := C.1.2.2.2.2
  refine lz_armW (pc0 := 1311) (pc1 := 1317) (pc3 := 1326) C hl hw.heads hPa hPb hD hS m1 m2 m3 m4 (cwV 1 hts gL_law_X7_longestKeyword rfl rfl rfl (by decide +kernel) ⟨Nat.le_of_ble_eq_true rfl, Nat.le_of_ble_eq_true rfl⟩) (cwV 1 hts gL_law_X8_longestKeyword rfl rfl rfl (by decide +kernel) ⟨Nat.le_of_ble_eq_true rfl, Nat.le_of_ble_eq_true rfl⟩) rfl (fun k => ?_) (fun H1 locs1 hS1 k => ?_) dL_law_1317 dL_law_1326 dL_law_1329 (by decide) (fun H1 locs1 qa qb qd qs => kk H1 locs1 ⟨_, _, m5, qa, qb, qd, qs⟩)
  · exact lz_q C hl dL_law_1311 (lz_a C hS hl 1 rfl (by omega) dL_law_1312 dL_law_1313 dL_law_1314 dL_law_1315 dL_law_1316 k)
  · exact lz_m C hl dL_law_1320 (lz_a C hS1 hl 1 rfl (by omega) dL_law_1321 dL_law_1322 dL_law_1323 dL_law_1324 dL_law_1325 k)
