/-! X8_superstringByte -/
noncomputable def s_X8_superstringByte (x_thrown : Int) (x_given : Int) (x_isFolding : Int) (x_elements : Int) (x_wholeSize : Int) (x_isLaid : Int) (a_length : (Int → Int)) (a_bytes : (Int → Int)) (a_live : (Int → Int)) (a_element : (Int → Int)) (a_long1 : (Int → Int)) (a_head : (Int → Int)) (a_tail : (Int → Int)) (a_next : (Int → Int)) (a_skip : (Int → Int)) (a_last : (Int → Int)) (a_whole : (Int → Int)) (a_edges : (Int → Int)) (pz1 : Int) : Option (Int × Int × Int × Int × Int × (Int → Int) × (Int → Int) × (Int → Int) × (Int → Int) × (Int → Int) × (Int → Int) × (Int → Int) × (Int → Int) × (Int → Int)) := cLt pz1 0 (some ((-3), 0, x_elements, x_wholeSize, x_isLaid, a_element, a_long1, a_head, a_tail, a_next, a_skip, a_last, a_whole, a_edges)) (bd12 (s_X8_laysWhole x_given x_isFolding x_elements x_wholeSize x_isLaid a_length a_bytes a_live a_element a_long1 a_head a_tail a_next a_skip a_last a_whole a_edges) (fun vz1 vz2 vz3 vz4 vz5 vz6 vz7 vz8 vz9 vz10 vz11 vz12 => cLt pz1 vz2 ((rdA vz11 640 pz1).bind (fun vz13 => some (vz13, 0, vz1, vz2, vz3, vz4, vz5, vz6, vz7, vz8, vz9, vz10, vz11, vz12))) (some ((-1), 0, vz1, vz2, vz3, vz4, vz5, vz6, vz7, vz8, vz9, vz10, vz11, vz12))))
def rm_X8_superstringByte : Room := { frames := 7, cells := 0, slots := 0, locals := 165 }
set_option maxHeartbeats 4000000 in
set_option maxRecDepth 100000 in
theorem c_X8_superstringByte (l : Launch) (D : va_G) (cI cZ cJ : ClassId) {ad : Nat → Nat} {x_thrown : Int} {x_buffered : Int} {x_given : Int} {x_isFolding : Int} {x_work : Int} {x_rebuilt : Int} {x_streamed : Int} {x_reports : Int} {x_gapFrom : Int} {x_gapSize : Int} {x_elements : Int} {x_wholeSize : Int} {x_isLaid : Int} {x_takenMany : Int} {a_buffer : (Int → Int)} {a_length : (Int → Int)} {a_bytes : (Int → Int)} {a_weight : (Int → Int)} {a_live : (Int → Int)} {a_size : (Int → Int)} {a_list : (Int → Int)} {a_moved : (Int → Int)} {a_planned : (Int → Int)} {a_stream : (Int → Int)} {a_reportedEnd : (Int → Int)} {a_reportedKeyword : (Int → Int)} {a_starts : (Int → Int)} {a_keywordAt : (Int → Int)} {a_element : (Int → Int)} {a_long1 : (Int → Int)} {a_head : (Int → Int)} {a_tail : (Int → Int)} {a_next : (Int → Int)} {a_skip : (Int → Int)} {a_last : (Int → Int)} {a_whole : (Int → Int)} {a_edges : (Int → Int)} {a_covers : (Int → Int)} {a_weighs : (Int → Int)} {a_numbers : (Int → Int)} {a_takes : (Int → Int)} {a_takenAt : (Int → Int)} {pz1 : Int} {r : Int} {y_x_thrown : Int} {y_x_elements : Int} {y_x_wholeSize : Int} {y_x_isLaid : Int} {y_a_element : (Int → Int)} {y_a_long1 : (Int → Int)} {y_a_head : (Int → Int)} {y_a_tail : (Int → Int)} {y_a_next : (Int → Int)} {y_a_skip : (Int → Int)} {y_a_last : (Int → Int)} {y_a_whole : (Int → Int)} {y_a_edges : (Int → Int)} {sz : Nat} (hs : s_X8_superstringByte x_thrown x_given x_isFolding x_elements x_wholeSize x_isLaid a_length a_bytes a_live a_element a_long1 a_head a_tail a_next a_skip a_last a_whole a_edges pz1 = some (r, y_x_thrown, y_x_elements, y_x_wholeSize, y_x_isLaid, y_a_element, y_a_long1, y_a_head, y_a_tail, y_a_next, y_a_skip, y_a_last, y_a_whole, y_a_edges)) : Met l yX8_superstringByte wsX8_superstringByte rm_X8_superstringByte (PW D vwCl [(cI, .int), (cZ, .boolean), (cJ, .long)] [.ref (ad 0), .int (iI pz1)] (wM cI cZ cJ ad x_thrown x_buffered x_given x_isFolding x_work x_rebuilt x_streamed x_reports x_gapFrom x_gapSize x_elements x_wholeSize x_isLaid x_takenMany a_buffer a_length a_bytes a_weight a_live a_size a_list a_moved a_planned a_stream a_reportedEnd a_reportedKeyword a_starts a_keywordAt a_element a_long1 a_head a_tail a_next a_skip a_last a_whole a_edges a_covers a_weighs a_numbers a_takes a_takenAt) sz) (QW D vwCl (some (.int (iI r))) (wM cI cZ cJ ad y_x_thrown x_buffered x_given x_isFolding x_work x_rebuilt x_streamed x_reports x_gapFrom x_gapSize y_x_elements y_x_wholeSize y_x_isLaid x_takenMany a_buffer a_length a_bytes a_weight a_live a_size a_list a_moved a_planned a_stream a_reportedEnd a_reportedKeyword a_starts a_keywordAt y_a_element y_a_long1 y_a_head y_a_tail y_a_next y_a_skip y_a_last y_a_whole y_a_edges a_covers a_weighs a_numbers a_takes a_takenAt) (va_A (wM cI cZ cJ ad x_thrown x_buffered x_given x_isFolding x_work x_rebuilt x_streamed x_reports x_gapFrom x_gapSize x_elements x_wholeSize x_isLaid x_takenMany a_buffer a_length a_bytes a_weight a_live a_size a_list a_moved a_planned a_stream a_reportedEnd a_reportedKeyword a_starts a_keywordAt a_element a_long1 a_head a_tail a_next a_skip a_last a_whole a_edges a_covers a_weighs a_numbers a_takes a_takenAt) sz)) 0 0 (va_A (wM cI cZ cJ ad x_thrown x_buffered x_given x_isFolding x_work x_rebuilt x_streamed x_reports x_gapFrom x_gapSize x_elements x_wholeSize x_isLaid x_takenMany a_buffer a_length a_bytes a_weight a_live a_size a_list a_moved a_planned a_stream a_reportedEnd a_reportedKeyword a_starts a_keywordAt a_element a_long1 a_head a_tail a_next a_skip a_last a_whole a_edges a_covers a_weighs a_numbers a_takes a_takenAt) sz) := by
  refine Met.ofW (cc := cX8_superstringByte) (maxL := 2) (ret := (some .int)) (by decide) rfl ?_
  intro p e s m args below meth c s₁ B hml hv
  obtain ⟨hav, hsz, hP, hK, hD0⟩ := hv
  have hx := B.exec
  have hb := B.bytes
  have hr := B.returns
  have hts := atoms_spec (ws := wsX8_superstringByte) B.pre
  have hown : s.vm.findClass RX8 = some m.cls := findClass_of_methodNamed B.named
  have hlk := B.notSynchronized
  have hf1 : (Cond.fieldLink RX8 1 "KeywordMatcherModel" "thrown" "I").before args s = true := hts _ (List.mem_of_getElem? (i := 1) rfl)
  have hiX8 : ∀ w ∈ wsX80, w ∈ wsX8_superstringByte := fun w h => List.mem_cons_of_mem _ (List.mem_append_right _ h)
  have hf263 : (Cond.fieldLink RX8 263 "KeywordMatcherModel" "wholeSize" "I").before args s = true := hts _ (List.mem_of_getElem? (i := 2) rfl)
  have hf78 : (Cond.fieldLink RX8 78 "KeywordMatcherModel" "whole" "[I").before args s = true := hts _ (List.mem_of_getElem? (i := 3) rfl)
  subst hsz
  have hD := hD0.self (sz := s.heap.size)
  generalize hAe : va_A (wM cI cZ cJ ad x_thrown x_buffered x_given x_isFolding x_work x_rebuilt x_streamed x_reports x_gapFrom x_gapSize x_elements x_wholeSize x_isLaid x_takenMany a_buffer a_length a_bytes a_weight a_live a_size a_list a_moved a_planned a_stream a_reportedEnd a_reportedKeyword a_starts a_keywordAt a_element a_long1 a_head a_tail a_next a_skip a_last a_whole a_edges a_covers a_weighs a_numbers a_takes a_takenAt) s.heap.size = Az at hD ⊢
  have hA : ∀ q : Nat, s.heap.size ≤ q → Az q := fun q h => by rw [← hAe]; exact Or.inr h
  clear hAe
  have hSz : va_S Az s.heap s.heap [] := va_S.rf
  obtain ⟨wz, hw1⟩ : ∃ z : va_W, z = (wM cI cZ cJ ad y_x_thrown x_buffered x_given x_isFolding x_work x_rebuilt x_streamed x_reports x_gapFrom x_gapSize y_x_elements y_x_wholeSize y_x_isLaid x_takenMany a_buffer a_length a_bytes a_weight a_live a_size a_list a_moved a_planned a_stream a_reportedEnd a_reportedKeyword a_starts a_keywordAt y_a_element y_a_long1 y_a_head y_a_tail y_a_next y_a_skip y_a_last y_a_whole y_a_edges a_covers a_weighs a_numbers a_takes a_takenAt) := ⟨_, rfl⟩
  rw [← hw1]
  have hl := lv_entry ([.ref (ad 0), .int (iI pz1)]) (n := 2) (Nat.le_of_ble_eq_true rfl)
  rw [show entryFrame m args 2 = entryFrame m ([.ref (ad 0), .int (iI pz1)] : List Value).toArray 2 from by rw [hav], lg_entry_eq]
  generalize (lg_sl ([.ref (ad 0), .int (iI pz1)]) ++ List.replicate (2 - (lg_sl ([.ref (ad 0), .int (iI pz1)])).length) Slot.unset).toArray = ls at hl ⊢
  have hl : lv_has ls 2 [(0, .ref (ad 0)), (1, .int (iI pz1))] := hl
  unfold s_X8_superstringByte at hs
  refine (?_ : ∀ (Hz : Heap) (lz : List Loc), va_P D vwCl (wM cI cZ cJ ad x_thrown x_buffered x_given x_isFolding x_work x_rebuilt x_streamed x_reports x_gapFrom x_gapSize x_elements x_wholeSize x_isLaid x_takenMany a_buffer a_length a_bytes a_weight a_live a_size a_list a_moved a_planned a_stream a_reportedEnd a_reportedKeyword a_starts a_keywordAt a_element a_long1 a_head a_tail a_next a_skip a_last a_whole a_edges a_covers a_weighs a_numbers a_takes a_takenAt) Hz → va_D Az (wM cI cZ cJ ad x_thrown x_buffered x_given x_isFolding x_work x_rebuilt x_streamed x_reports x_gapFrom x_gapSize x_elements x_wholeSize x_isLaid x_takenMany a_buffer a_length a_bytes a_weight a_live a_size a_list a_moved a_planned a_stream a_reportedEnd a_reportedKeyword a_starts a_keywordAt a_element a_long1 a_head a_tail a_next a_skip a_last a_whole a_edges a_covers a_weighs a_numbers a_takes a_takenAt) → va_S Az s.heap Hz lz → W p l e (headSpec wsX8_superstringByte rm_X8_superstringByte).room s m args below meth c Hz lz 0 0 (MQ below (QW D vwCl (some (.int (iI r))) wz Az) args s 0 0 Az) (F0 m 0 ls [])) s.heap [] hP hD hSz
  intro Hz lz hP hD hSz
  refine lv_aload_n hx hb dX8_superstringByte_0 rfl (lv_at hl 0 rfl) ?_
  refine k_iconst (n := 0) hx hb dX8_superstringByte_1 ?_
  refine va_put (ci := 8) (v := .int (iI 0)) (ty := .int) (C := RX8) (T := TX8) (N := 42) hx hb hts hiX8 tyX8 tyX8_ok nmX8 hown hK hP hD hSz 0 rfl rfl 0 (by decide) hf1 (fun _ h9 => h9) rfl (by decide +kernel) rfl rfl (Nat.le_of_ble_eq_true rfl) dX8_superstringByte_2 (fun Hz lz hP hD hSz => ?_)
  have hP : va_P D vwCl (wM cI cZ cJ ad 0 x_buffered x_given x_isFolding x_work x_rebuilt x_streamed x_reports x_gapFrom x_gapSize x_elements x_wholeSize x_isLaid x_takenMany a_buffer a_length a_bytes a_weight a_live a_size a_list a_moved a_planned a_stream a_reportedEnd a_reportedKeyword a_starts a_keywordAt a_element a_long1 a_head a_tail a_next a_skip a_last a_whole a_edges a_covers a_weighs a_numbers a_takes a_takenAt) Hz := hP
  have hD : va_D Az (wM cI cZ cJ ad 0 x_buffered x_given x_isFolding x_work x_rebuilt x_streamed x_reports x_gapFrom x_gapSize x_elements x_wholeSize x_isLaid x_takenMany a_buffer a_length a_bytes a_weight a_live a_size a_list a_moved a_planned a_stream a_reportedEnd a_reportedKeyword a_starts a_keywordAt a_element a_long1 a_head a_tail a_next a_skip a_last a_whole a_edges a_covers a_weighs a_numbers a_takes a_takenAt) := hD
  refine lv_iload_n hx hb dX8_superstringByte_5 rfl (lv_at hl 1 rfl) ?_
  refine k_if_ge (tgt := 12) hx hb hs dX8_superstringByte_6 (by decide) (fun hs => ?_) (fun hs => ?_)
  · refine k_bipush (n := (-3)) hx hb (by decide) dX8_superstringByte_9 ?_
    cases hs
    exact k_iret_w hx hb hr hlk (by rw [hw1]; exact hP) hSz dX8_superstringByte_11 rfl
  · refine lv_aload_n hx hb dX8_superstringByte_12 rfl (lv_at hl 0 rfl) ?_
    obtain ⟨vz1, vz2, vz3, vz4, vz5, vz6, vz7, vz8, vz9, vz10, vz11, vz12, hcz, hs⟩ := bd12_some hs
    refine k_wVs (As := []) (rest := []) (st1 := []) (w1 := (wM cI cZ cJ ad 0 x_buffered x_given x_isFolding x_work x_rebuilt x_streamed x_reports x_gapFrom x_gapSize vz1 vz2 vz3 x_takenMany a_buffer a_length a_bytes a_weight a_live a_size a_list a_moved a_planned a_stream a_reportedEnd a_reportedKeyword a_starts a_keywordAt vz4 vz5 vz6 vz7 vz8 vz9 vz10 vz11 vz12 a_covers a_weighs a_numbers a_takes a_takenAt)) ⟨hx, hb, hml, hown, hts⟩ hK hP hD hSz hA (c_X8_laysWhole l D cI cZ cJ hcz) (cwV 0 hts gX8_superstringByte_X8_laysWhole rfl rfl rfl (by decide +kernel) ⟨Nat.le_of_ble_eq_true rfl, Nat.le_of_ble_eq_true rfl⟩) 0 rfl rfl rfl rfl rfl hl.1 rfl (lv_room (Nat.le_of_ble_eq_true rfl)) dX8_superstringByte_13 ⟨Nat.zero_le _, Nat.zero_le _⟩ rfl (fun Hz lz hP hD hSz => ?_)
    have hP : va_P D vwCl (wM cI cZ cJ ad 0 x_buffered x_given x_isFolding x_work x_rebuilt x_streamed x_reports x_gapFrom x_gapSize vz1 vz2 vz3 x_takenMany a_buffer a_length a_bytes a_weight a_live a_size a_list a_moved a_planned a_stream a_reportedEnd a_reportedKeyword a_starts a_keywordAt vz4 vz5 vz6 vz7 vz8 vz9 vz10 vz11 vz12 a_covers a_weighs a_numbers a_takes a_takenAt) Hz := hP
    have hD : va_D Az (wM cI cZ cJ ad 0 x_buffered x_given x_isFolding x_work x_rebuilt x_streamed x_reports x_gapFrom x_gapSize vz1 vz2 vz3 x_takenMany a_buffer a_length a_bytes a_weight a_live a_size a_list a_moved a_planned a_stream a_reportedEnd a_reportedKeyword a_starts a_keywordAt vz4 vz5 vz6 vz7 vz8 vz9 vz10 vz11 vz12 a_covers a_weighs a_numbers a_takes a_takenAt) := hD
    refine lv_iload_n hx hb dX8_superstringByte_16 rfl (lv_at hl 1 rfl) ?_
    refine lv_aload_n hx hb dX8_superstringByte_17 rfl (lv_at hl 0 rfl) ?_
    refine va_get (ci := 8) (v := .int (iI vz2)) (C := RX8) (T := TX8) (N := 42) hx hb hts hiX8 hown hK hP 0 rfl rfl 33 (by decide) hf263 (fun _ h9 => h9) rfl dX8_superstringByte_18 ?_
    refine k_icmp_ge (tgt := 33) hx hb hs dX8_superstringByte_21 (by decide) (fun hs => ?_) (fun hs => ?_)
    · refine lv_aload_n hx hb dX8_superstringByte_24 rfl (lv_at hl 0 rfl) ?_
      refine va_get (ci := 8) (v := .ref (ad 22)) (C := RX8) (T := TX8) (N := 42) hx hb hts hiX8 hown hK hP 0 rfl rfl 31 (by decide) hf78 (fun _ h9 => h9) rfl dX8_superstringByte_25 ?_
      refine lv_iload_n hx hb dX8_superstringByte_28 rfl (lv_at hl 1 rfl) ?_
      refine k_iald hx hb hK hP 22 0 rfl rfl (Nat.le_of_ble_eq_true rfl) hs dX8_superstringByte_29 (fun vz13 hs => ?_)
      refine lv_goto (tgt := 34) hx hb dX8_superstringByte_30 (by decide) ?_
      cases hs
      exact k_iret_w hx hb hr hlk (by rw [hw1]; exact hP) hSz dX8_superstringByte_34 rfl
    · refine k_iconst (n := (-1)) hx hb dX8_superstringByte_33 ?_
      cases hs
      exact k_iret_w hx hb hr hlk (by rw [hw1]; exact hP) hSz dX8_superstringByte_34 rfl
/-! X8_isInWhole -/
noncomputable def s_X8_isInWhole_2 (fu : Nat) : Int → (Int → Int) → (Int → Int) → (Int → Int) → Int → Int → Int → Option (Int) := Nat.rec (motive := fun _ => Int → (Int → Int) → (Int → Int) → (Int → Int) → Int → Int → Int → Option (Int)) (fun _ _ _ _ _ _ _ => none) (fun _ ih x_isFolding a_length a_bytes a_whole l1 l2 l3 => (rdA a_length 120 l1).bind (fun vz1 => cLt l3 vz1 (bd1 (s_X8_byteOf a_bytes l1 l3) (fun vz2 => (rdA a_whole 640 (l2 + l3)).bind (fun vz3 => bd1 (s_X8_like x_isFolding vz2 vz3) (fun vz4 => cEq vz4 0 (some 0) (ih x_isFolding a_length a_bytes a_whole l1 l2 (l3 + 1)))))) (some 1))) fu
theorem s_X8_isInWhole_2_s (fu : Nat) (x_isFolding : Int) (a_length : (Int → Int)) (a_bytes : (Int → Int)) (a_whole : (Int → Int)) (l1 : Int) (l2 : Int) (l3 : Int) : s_X8_isInWhole_2 (fu + 1) x_isFolding a_length a_bytes a_whole l1 l2 l3 = ((rdA a_length 120 l1).bind (fun vz1 => cLt l3 vz1 (bd1 (s_X8_byteOf a_bytes l1 l3) (fun vz2 => (rdA a_whole 640 (l2 + l3)).bind (fun vz3 => bd1 (s_X8_like x_isFolding vz2 vz3) (fun vz4 => cEq vz4 0 (some 0) (s_X8_isInWhole_2 fu x_isFolding a_length a_bytes a_whole l1 l2 (l3 + 1)))))) (some 1))) := rfl
theorem s_X8_isInWhole_2_z (x_isFolding : Int) (a_length : (Int → Int)) (a_bytes : (Int → Int)) (a_whole : (Int → Int)) (l1 : Int) (l2 : Int) (l3 : Int) : s_X8_isInWhole_2 0 x_isFolding a_length a_bytes a_whole l1 l2 l3 = none := rfl
noncomputable def s_X8_isInWhole (x_isFolding : Int) (a_length : (Int → Int)) (a_bytes : (Int → Int)) (a_whole : (Int → Int)) (pz1 : Int) (pz2 : Int) : Option (Int) := s_X8_isInWhole_2 FU x_isFolding a_length a_bytes a_whole pz1 pz2 0
def rm_X8_isInWhole : Room := { frames := 3, cells := 0, slots := 0, locals := 68 }
set_option maxHeartbeats 4000000 in
set_option maxRecDepth 100000 in
theorem c_X8_isInWhole (l : Launch) (D : va_G) (cI cZ cJ : ClassId) {ad : Nat → Nat} {x_thrown : Int} {x_buffered : Int} {x_given : Int} {x_isFolding : Int} {x_work : Int} {x_rebuilt : Int} {x_streamed : Int} {x_reports : Int} {x_gapFrom : Int} {x_gapSize : Int} {x_elements : Int} {x_wholeSize : Int} {x_isLaid : Int} {x_takenMany : Int} {a_buffer : (Int → Int)} {a_length : (Int → Int)} {a_bytes : (Int → Int)} {a_weight : (Int → Int)} {a_live : (Int → Int)} {a_size : (Int → Int)} {a_list : (Int → Int)} {a_moved : (Int → Int)} {a_planned : (Int → Int)} {a_stream : (Int → Int)} {a_reportedEnd : (Int → Int)} {a_reportedKeyword : (Int → Int)} {a_starts : (Int → Int)} {a_keywordAt : (Int → Int)} {a_element : (Int → Int)} {a_long1 : (Int → Int)} {a_head : (Int → Int)} {a_tail : (Int → Int)} {a_next : (Int → Int)} {a_skip : (Int → Int)} {a_last : (Int → Int)} {a_whole : (Int → Int)} {a_edges : (Int → Int)} {a_covers : (Int → Int)} {a_weighs : (Int → Int)} {a_numbers : (Int → Int)} {a_takes : (Int → Int)} {a_takenAt : (Int → Int)} {pz1 : Int} {pz2 : Int} {r : Int} (hs : s_X8_isInWhole x_isFolding a_length a_bytes a_whole pz1 pz2 = some r) : Met l yX8_isInWhole wsX8_isInWhole rm_X8_isInWhole (PR D vwCl [(cI, .int), (cZ, .boolean), (cJ, .long)] [.ref (ad 0), .int (iI pz1), .int (iI pz2)] (wM cI cZ cJ ad x_thrown x_buffered x_given x_isFolding x_work x_rebuilt x_streamed x_reports x_gapFrom x_gapSize x_elements x_wholeSize x_isLaid x_takenMany a_buffer a_length a_bytes a_weight a_live a_size a_list a_moved a_planned a_stream a_reportedEnd a_reportedKeyword a_starts a_keywordAt a_element a_long1 a_head a_tail a_next a_skip a_last a_whole a_edges a_covers a_weighs a_numbers a_takes a_takenAt)) (QR (some (.int (iI r)))) 0 0 (fun _ => False) := by
  refine Met.ofW (cc := cX8_isInWhole) (maxL := 4) (ret := (some .boolean)) (by decide) rfl ?_
  intro p e s m args below meth c s₁ B hml hv
  obtain ⟨hav, hP, hK⟩ := hv
  have hx := B.exec
  have hb := B.bytes
  have hr := B.returns
  have hts := atoms_spec (ws := wsX8_isInWhole) B.pre
  have hown : s.vm.findClass RX8 = some m.cls := findClass_of_methodNamed B.named
  have hlk := B.notSynchronized
  have hf17 : (Cond.fieldLink RX8 17 "KeywordMatcherModel" "length" "[I").before args s = true := hts _ (List.mem_of_getElem? (i := 1) rfl)
  have hiX8 : ∀ w ∈ wsX80, w ∈ wsX8_isInWhole := fun w h => List.mem_cons_of_mem _ (List.mem_append_right _ h)
  have hf78 : (Cond.fieldLink RX8 78 "KeywordMatcherModel" "whole" "[I").before args s = true := hts _ (List.mem_of_getElem? (i := 2) rfl)
  have hl := lv_entry ([.ref (ad 0), .int (iI pz1), .int (iI pz2)]) (n := 4) (Nat.le_of_ble_eq_true rfl)
  rw [show entryFrame m args 4 = entryFrame m ([.ref (ad 0), .int (iI pz1), .int (iI pz2)] : List Value).toArray 4 from by rw [hav], lg_entry_eq]
  generalize (lg_sl ([.ref (ad 0), .int (iI pz1), .int (iI pz2)]) ++ List.replicate (4 - (lg_sl ([.ref (ad 0), .int (iI pz1), .int (iI pz2)])).length) Slot.unset).toArray = ls at hl ⊢
  have hl : lv_has ls 4 [(0, .ref (ad 0)), (1, .int (iI pz1)), (2, .int (iI pz2))] := hl
  unfold s_X8_isInWhole at hs
  have Lz2 : ∀ (fu : Nat) (l1 : Int) (l2 : Int) (l3 : Int), s_X8_isInWhole_2 fu x_isFolding a_length a_bytes a_whole l1 l2 l3 = some r → ∀ ls : Array Slot, lv_has ls 4 [(0, .ref (ad 0)), (1, .int (iI l1)), (2, .int (iI l2)), (3, .int (iI l3))] → W p l e (headSpec wsX8_isInWhole rm_X8_isInWhole).room s m args below meth c s.heap [] 0 0 (MQ below (QR (some (.int (iI r)))) args s 0 0 (fun _ => False)) (F0 m 2 ls []) := by
    intro fu
    induction fu with
    | zero => intro l1 l2 l3 hs; cases hs
    | succ fu ih =>
      intro l1 l2 l3 hs ls hl
      rw [s_X8_isInWhole_2_s] at hs
      refine lv_iload_n hx hb dX8_isInWhole_2 rfl (lv_at hl 3 rfl) ?_
      refine lv_aload_n hx hb dX8_isInWhole_3 rfl (lv_at hl 0 rfl) ?_
      refine va_get (ci := 8) (v := .ref (ad 2)) (C := RX8) (T := TX8) (N := 42) hx hb hts hiX8 hown hK hP 0 rfl rfl 3 (by decide) hf17 (fun _ h9 => h9) rfl dX8_isInWhole_4 ?_
      refine lv_iload_n hx hb dX8_isInWhole_7 rfl (lv_at hl 1 rfl) ?_
      refine k_iald hx hb hK hP 2 0 rfl rfl (Nat.le_of_ble_eq_true rfl) hs dX8_isInWhole_8 (fun vz1 hs => ?_)
      refine k_icmp_ge (tgt := 41) hx hb hs dX8_isInWhole_9 (by decide) (fun hs => ?_) (fun hs => ?_)
      · refine lv_aload_n hx hb dX8_isInWhole_12 rfl (lv_at hl 0 rfl) ?_
        refine lv_aload_n hx hb dX8_isInWhole_13 rfl (lv_at hl 0 rfl) ?_
        refine lv_iload_n hx hb dX8_isInWhole_14 rfl (lv_at hl 1 rfl) ?_
        refine lv_iload_n hx hb dX8_isInWhole_15 rfl (lv_at hl 3 rfl) ?_
        obtain ⟨vz2, hcz, hs⟩ := bd1_some hs
        refine k_rV (As := [.int (iI l1), .int (iI l3)]) (rest := [.ref (ad 0)]) (st1 := [.int (iI vz2), .ref (ad 0)]) ⟨hx, hb, hml, hown, hts⟩ hK hP (c_X8_byteOf l D cI cZ cJ hcz) (cwV 2 hts gX8_isInWhole_X8_byteOf rfl rfl rfl (by decide +kernel) ⟨Nat.le_of_ble_eq_true rfl, Nat.le_of_ble_eq_true rfl⟩) 0 rfl rfl rfl rfl hl.1 rfl (lv_room (Nat.le_of_ble_eq_true rfl)) dX8_isInWhole_16 ⟨Nat.zero_le _, Nat.zero_le _⟩ rfl ?_
        refine lv_aload_n hx hb dX8_isInWhole_19 rfl (lv_at hl 0 rfl) ?_
        refine va_get (ci := 8) (v := .ref (ad 22)) (C := RX8) (T := TX8) (N := 42) hx hb hts hiX8 hown hK hP 0 rfl rfl 31 (by decide) hf78 (fun _ h9 => h9) rfl dX8_isInWhole_20 ?_
        refine lv_iload_n hx hb dX8_isInWhole_23 rfl (lv_at hl 2 rfl) ?_
        refine lv_iload_n hx hb dX8_isInWhole_24 rfl (lv_at hl 3 rfl) ?_
        refine k_iadd hx hb dX8_isInWhole_25 ?_
        refine k_iald hx hb hK hP 22 0 rfl rfl (Nat.le_of_ble_eq_true rfl) hs dX8_isInWhole_26 (fun vz3 hs => ?_)
        obtain ⟨vz4, hcz, hs⟩ := bd1_some hs
        refine k_rV (As := [.int (iI vz2), .int (iI vz3)]) (rest := []) (st1 := [.int (iI vz4)]) ⟨hx, hb, hml, hown, hts⟩ hK hP (c_X8_like l D cI cZ cJ hcz) (cwV 2 hts gX8_isInWhole_X8_like rfl rfl rfl (by decide +kernel) ⟨Nat.le_of_ble_eq_true rfl, Nat.le_of_ble_eq_true rfl⟩) 0 rfl rfl rfl rfl hl.1 rfl (lv_room (Nat.le_of_ble_eq_true rfl)) dX8_isInWhole_27 ⟨Nat.zero_le _, Nat.zero_le _⟩ rfl ?_
        refine k_if_ne (tgt := 35) hx hb hs dX8_isInWhole_30 (by decide) (fun hs => ?_) (fun hs => ?_)
        · refine k_iconst (n := 0) hx hb dX8_isInWhole_33 ?_
          cases hs
          exact k_zret_r hx hb hr hlk rfl (by decide) dX8_isInWhole_34 rfl
        · refine k_iinc (x := l3) (k := 3) (lv' := [(3, .int (iI (l3 + 1))), (0, .ref (ad 0)), (1, .int (iI l1)), (2, .int (iI l2))]) hx hb dX8_isInWhole_35 hl rfl (by decide) rfl (fun ls hl => ?_)
          refine lv_goto (tgt := 2) hx hb dX8_isInWhole_38 (by decide) ?_
          exact ih l1 l2 (l3 + 1)  hs ls (lv_sub hl [1, 2, 3, 0] rfl)
      · refine k_iconst (n := 1) hx hb dX8_isInWhole_41 ?_
        cases hs
        exact k_zret_r hx hb hr hlk rfl (by decide) dX8_isInWhole_42 rfl
  refine k_iconst (n := 0) hx hb dX8_isInWhole_0 ?_
  refine lv_istore_n (lv' := [(3, .int (iI 0)), (0, .ref (ad 0)), (1, .int (iI pz1)), (2, .int (iI pz2))]) hx hb dX8_isInWhole_1 rfl hl (by decide) rfl (fun ls hl => ?_)
  exact Lz2 FU pz1 pz2 0 hs ls (lv_sub hl [1, 2, 3, 0] rfl)
/-! X8_superstringStart -/
noncomputable def s_X8_superstringStart_22 (fu : Nat) : Int → (Int → Int) → (Int → Int) → (Int → Int) → Int → Int → Option (Int) := Nat.rec (motive := fun _ => Int → (Int → Int) → (Int → Int) → (Int → Int) → Int → Int → Option (Int)) (fun _ _ _ _ _ _ => none) (fun _ ih x_isFolding a_length a_bytes a_whole l1 l2 => bd1 (s_X8_isInWhole x_isFolding a_length a_bytes a_whole l1 l2) (fun vz14 => cEq vz14 0 (ih x_isFolding a_length a_bytes a_whole l1 (l2 + 1)) (some l2))) fu
theorem s_X8_superstringStart_22_s (fu : Nat) (x_isFolding : Int) (a_length : (Int → Int)) (a_bytes : (Int → Int)) (a_whole : (Int → Int)) (l1 : Int) (l2 : Int) : s_X8_superstringStart_22 (fu + 1) x_isFolding a_length a_bytes a_whole l1 l2 = (bd1 (s_X8_isInWhole x_isFolding a_length a_bytes a_whole l1 l2) (fun vz14 => cEq vz14 0 (s_X8_superstringStart_22 fu x_isFolding a_length a_bytes a_whole l1 (l2 + 1)) (some l2))) := rfl
theorem s_X8_superstringStart_22_z (x_isFolding : Int) (a_length : (Int → Int)) (a_bytes : (Int → Int)) (a_whole : (Int → Int)) (l1 : Int) (l2 : Int) : s_X8_superstringStart_22 0 x_isFolding a_length a_bytes a_whole l1 l2 = none := rfl
noncomputable def s_X8_superstringStart (x_thrown : Int) (x_given : Int) (x_isFolding : Int) (x_elements : Int) (x_wholeSize : Int) (x_isLaid : Int) (a_length : (Int → Int)) (a_bytes : (Int → Int)) (a_live : (Int → Int)) (a_element : (Int → Int)) (a_long1 : (Int → Int)) (a_head : (Int → Int)) (a_tail : (Int → Int)) (a_next : (Int → Int)) (a_skip : (Int → Int)) (a_last : (Int → Int)) (a_whole : (Int → Int)) (a_edges : (Int → Int)) (pz1 : Int) : Option (Int × Int × Int × Int × Int × (Int → Int) × (Int → Int) × (Int → Int) × (Int → Int) × (Int → Int) × (Int → Int) × (Int → Int) × (Int → Int) × (Int → Int)) := bd1 (s_X8_isLiveOne x_given a_live pz1) (fun vz1 => cEq vz1 0 (some ((-2), 0, x_elements, x_wholeSize, x_isLaid, a_element, a_long1, a_head, a_tail, a_next, a_skip, a_last, a_whole, a_edges)) (bd12 (s_X8_laysWhole x_given x_isFolding x_elements x_wholeSize x_isLaid a_length a_bytes a_live a_element a_long1 a_head a_tail a_next a_skip a_last a_whole a_edges) (fun vz2 vz3 vz4 vz5 vz6 vz7 vz8 vz9 vz10 vz11 vz12 vz13 => bd1 (s_X8_superstringStart_22 FU x_isFolding a_length a_bytes vz12 pz1 0) (fun ez15 => some (ez15, 0, vz2, vz3, vz4, vz5, vz6, vz7, vz8, vz9, vz10, vz11, vz12, vz13)))))
def rm_X8_superstringStart : Room := { frames := 7, cells := 0, slots := 0, locals := 165 }
set_option maxHeartbeats 4000000 in
set_option maxRecDepth 100000 in
theorem c_X8_superstringStart (l : Launch) (D : va_G) (cI cZ cJ : ClassId) {ad : Nat → Nat} {x_thrown : Int} {x_buffered : Int} {x_given : Int} {x_isFolding : Int} {x_work : Int} {x_rebuilt : Int} {x_streamed : Int} {x_reports : Int} {x_gapFrom : Int} {x_gapSize : Int} {x_elements : Int} {x_wholeSize : Int} {x_isLaid : Int} {x_takenMany : Int} {a_buffer : (Int → Int)} {a_length : (Int → Int)} {a_bytes : (Int → Int)} {a_weight : (Int → Int)} {a_live : (Int → Int)} {a_size : (Int → Int)} {a_list : (Int → Int)} {a_moved : (Int → Int)} {a_planned : (Int → Int)} {a_stream : (Int → Int)} {a_reportedEnd : (Int → Int)} {a_reportedKeyword : (Int → Int)} {a_starts : (Int → Int)} {a_keywordAt : (Int → Int)} {a_element : (Int → Int)} {a_long1 : (Int → Int)} {a_head : (Int → Int)} {a_tail : (Int → Int)} {a_next : (Int → Int)} {a_skip : (Int → Int)} {a_last : (Int → Int)} {a_whole : (Int → Int)} {a_edges : (Int → Int)} {a_covers : (Int → Int)} {a_weighs : (Int → Int)} {a_numbers : (Int → Int)} {a_takes : (Int → Int)} {a_takenAt : (Int → Int)} {pz1 : Int} {r : Int} {y_x_thrown : Int} {y_x_elements : Int} {y_x_wholeSize : Int} {y_x_isLaid : Int} {y_a_element : (Int → Int)} {y_a_long1 : (Int → Int)} {y_a_head : (Int → Int)} {y_a_tail : (Int → Int)} {y_a_next : (Int → Int)} {y_a_skip : (Int → Int)} {y_a_last : (Int → Int)} {y_a_whole : (Int → Int)} {y_a_edges : (Int → Int)} {sz : Nat} (hs : s_X8_superstringStart x_thrown x_given x_isFolding x_elements x_wholeSize x_isLaid a_length a_bytes a_live a_element a_long1 a_head a_tail a_next a_skip a_last a_whole a_edges pz1 = some (r, y_x_thrown, y_x_elements, y_x_wholeSize, y_x_isLaid, y_a_element, y_a_long1, y_a_head, y_a_tail, y_a_next, y_a_skip, y_a_last, y_a_whole, y_a_edges)) : Met l yX8_superstringStart wsX8_superstringStart rm_X8_superstringStart (PW D vwCl [(cI, .int), (cZ, .boolean), (cJ, .long)] [.ref (ad 0), .int (iI pz1)] (wM cI cZ cJ ad x_thrown x_buffered x_given x_isFolding x_work x_rebuilt x_streamed x_reports x_gapFrom x_gapSize x_elements x_wholeSize x_isLaid x_takenMany a_buffer a_length a_bytes a_weight a_live a_size a_list a_moved a_planned a_stream a_reportedEnd a_reportedKeyword a_starts a_keywordAt a_element a_long1 a_head a_tail a_next a_skip a_last a_whole a_edges a_covers a_weighs a_numbers a_takes a_takenAt) sz) (QW D vwCl (some (.int (iI r))) (wM cI cZ cJ ad y_x_thrown x_buffered x_given x_isFolding x_work x_rebuilt x_streamed x_reports x_gapFrom x_gapSize y_x_elements y_x_wholeSize y_x_isLaid x_takenMany a_buffer a_length a_bytes a_weight a_live a_size a_list a_moved a_planned a_stream a_reportedEnd a_reportedKeyword a_starts a_keywordAt y_a_element y_a_long1 y_a_head y_a_tail y_a_next y_a_skip y_a_last y_a_whole y_a_edges a_covers a_weighs a_numbers a_takes a_takenAt) (va_A (wM cI cZ cJ ad x_thrown x_buffered x_given x_isFolding x_work x_rebuilt x_streamed x_reports x_gapFrom x_gapSize x_elements x_wholeSize x_isLaid x_takenMany a_buffer a_length a_bytes a_weight a_live a_size a_list a_moved a_planned a_stream a_reportedEnd a_reportedKeyword a_starts a_keywordAt a_element a_long1 a_head a_tail a_next a_skip a_last a_whole a_edges a_covers a_weighs a_numbers a_takes a_takenAt) sz)) 0 0 (va_A (wM cI cZ cJ ad x_thrown x_buffered x_given x_isFolding x_work x_rebuilt x_streamed x_reports x_gapFrom x_gapSize x_elements x_wholeSize x_isLaid x_takenMany a_buffer a_length a_bytes a_weight a_live a_size a_list a_moved a_planned a_stream a_reportedEnd a_reportedKeyword a_starts a_keywordAt a_element a_long1 a_head a_tail a_next a_skip a_last a_whole a_edges a_covers a_weighs a_numbers a_takes a_takenAt) sz) := by
  refine Met.ofW (cc := cX8_superstringStart) (maxL := 3) (ret := (some .int)) (by decide) rfl ?_
  intro p e s m args below meth c s₁ B hml hv
  obtain ⟨hav, hsz, hP, hK, hD0⟩ := hv
  have hx := B.exec
  have hb := B.bytes
  have hr := B.returns
  have hts := atoms_spec (ws := wsX8_superstringStart) B.pre
  have hown : s.vm.findClass RX8 = some m.cls := findClass_of_methodNamed B.named
  have hlk := B.notSynchronized
  have hf1 : (Cond.fieldLink RX8 1 "KeywordMatcherModel" "thrown" "I").before args s = true := hts _ (List.mem_of_getElem? (i := 1) rfl)
  have hiX8 : ∀ w ∈ wsX80, w ∈ wsX8_superstringStart := fun w h => List.mem_cons_of_mem _ (List.mem_append_right _ h)
  subst hsz
  have hD := hD0.self (sz := s.heap.size)
  generalize hAe : va_A (wM cI cZ cJ ad x_thrown x_buffered x_given x_isFolding x_work x_rebuilt x_streamed x_reports x_gapFrom x_gapSize x_elements x_wholeSize x_isLaid x_takenMany a_buffer a_length a_bytes a_weight a_live a_size a_list a_moved a_planned a_stream a_reportedEnd a_reportedKeyword a_starts a_keywordAt a_element a_long1 a_head a_tail a_next a_skip a_last a_whole a_edges a_covers a_weighs a_numbers a_takes a_takenAt) s.heap.size = Az at hD ⊢
  have hA : ∀ q : Nat, s.heap.size ≤ q → Az q := fun q h => by rw [← hAe]; exact Or.inr h
  clear hAe
  have hSz : va_S Az s.heap s.heap [] := va_S.rf
  obtain ⟨wz, hw1⟩ : ∃ z : va_W, z = (wM cI cZ cJ ad y_x_thrown x_buffered x_given x_isFolding x_work x_rebuilt x_streamed x_reports x_gapFrom x_gapSize y_x_elements y_x_wholeSize y_x_isLaid x_takenMany a_buffer a_length a_bytes a_weight a_live a_size a_list a_moved a_planned a_stream a_reportedEnd a_reportedKeyword a_starts a_keywordAt y_a_element y_a_long1 y_a_head y_a_tail y_a_next y_a_skip y_a_last y_a_whole y_a_edges a_covers a_weighs a_numbers a_takes a_takenAt) := ⟨_, rfl⟩
  rw [← hw1]
  have hl := lv_entry ([.ref (ad 0), .int (iI pz1)]) (n := 3) (Nat.le_of_ble_eq_true rfl)
  rw [show entryFrame m args 3 = entryFrame m ([.ref (ad 0), .int (iI pz1)] : List Value).toArray 3 from by rw [hav], lg_entry_eq]
  generalize (lg_sl ([.ref (ad 0), .int (iI pz1)]) ++ List.replicate (3 - (lg_sl ([.ref (ad 0), .int (iI pz1)])).length) Slot.unset).toArray = ls at hl ⊢
  have hl : lv_has ls 3 [(0, .ref (ad 0)), (1, .int (iI pz1))] := hl
  unfold s_X8_superstringStart at hs
  have Lz22 : ∀ (fu : Nat) (x_thrown : Int) (x_elements : Int) (x_wholeSize : Int) (x_isLaid : Int) (a_element : (Int → Int)) (a_long1 : (Int → Int)) (a_head : (Int → Int)) (a_tail : (Int → Int)) (a_next : (Int → Int)) (a_skip : (Int → Int)) (a_last : (Int → Int)) (a_whole : (Int → Int)) (a_edges : (Int → Int)) (l1 : Int) (l2 : Int) (y0 : Int), s_X8_superstringStart_22 fu x_isFolding a_length a_bytes a_whole l1 l2 = some y0 → ∀ (Hz : Heap) (lz : List Loc), va_P D vwCl (wM cI cZ cJ ad x_thrown x_buffered x_given x_isFolding x_work x_rebuilt x_streamed x_reports x_gapFrom x_gapSize x_elements x_wholeSize x_isLaid x_takenMany a_buffer a_length a_bytes a_weight a_live a_size a_list a_moved a_planned a_stream a_reportedEnd a_reportedKeyword a_starts a_keywordAt a_element a_long1 a_head a_tail a_next a_skip a_last a_whole a_edges a_covers a_weighs a_numbers a_takes a_takenAt) Hz → va_D Az (wM cI cZ cJ ad x_thrown x_buffered x_given x_isFolding x_work x_rebuilt x_streamed x_reports x_gapFrom x_gapSize x_elements x_wholeSize x_isLaid x_takenMany a_buffer a_length a_bytes a_weight a_live a_size a_list a_moved a_planned a_stream a_reportedEnd a_reportedKeyword a_starts a_keywordAt a_element a_long1 a_head a_tail a_next a_skip a_last a_whole a_edges a_covers a_weighs a_numbers a_takes a_takenAt) → va_S Az s.heap Hz lz → ∀ ls : Array Slot, lv_has ls 3 [(0, .ref (ad 0)), (1, .int (iI l1)), (2, .int (iI l2))] → (∀ (Hz : Heap) (lz : List Loc), va_P D vwCl (wM cI cZ cJ ad x_thrown x_buffered x_given x_isFolding x_work x_rebuilt x_streamed x_reports x_gapFrom x_gapSize x_elements x_wholeSize x_isLaid x_takenMany a_buffer a_length a_bytes a_weight a_live a_size a_list a_moved a_planned a_stream a_reportedEnd a_reportedKeyword a_starts a_keywordAt a_element a_long1 a_head a_tail a_next a_skip a_last a_whole a_edges a_covers a_weighs a_numbers a_takes a_takenAt) Hz → va_D Az (wM cI cZ cJ ad x_thrown x_buffered x_given x_isFolding x_work x_rebuilt x_streamed x_reports x_gapFrom x_gapSize x_elements x_wholeSize x_isLaid x_takenMany a_buffer a_length a_bytes a_weight a_live a_size a_list a_moved a_planned a_stream a_reportedEnd a_reportedKeyword a_starts a_keywordAt a_element a_long1 a_head a_tail a_next a_skip a_last a_whole a_edges a_covers a_weighs a_numbers a_takes a_takenAt) → va_S Az s.heap Hz lz → ∀ ls : Array Slot, lv_has ls 3 [(2, .int (iI y0))] → W p l e (headSpec wsX8_superstringStart rm_X8_superstringStart).room s m args below meth c Hz lz 0 0 (MQ below (QW D vwCl (some (.int (iI r))) wz Az) args s 0 0 Az) (F0 m 37 ls [])) → W p l e (headSpec wsX8_superstringStart rm_X8_superstringStart).room s m args below meth c Hz lz 0 0 (MQ below (QW D vwCl (some (.int (iI r))) wz Az) args s 0 0 Az) (F0 m 22 ls []) := by
    intro fu
    induction fu with
    | zero => intro x_thrown x_elements x_wholeSize x_isLaid a_element a_long1 a_head a_tail a_next a_skip a_last a_whole a_edges l1 l2 y0 hs; cases hs
    | succ fu ih =>
      intro x_thrown x_elements x_wholeSize x_isLaid a_element a_long1 a_head a_tail a_next a_skip a_last a_whole a_edges l1 l2 y0 hs Hz lz hP hD hSz ls hl kx
      rw [s_X8_superstringStart_22_s] at hs
      refine lv_aload_n hx hb dX8_superstringStart_22 rfl (lv_at hl 0 rfl) ?_
      refine lv_iload_n hx hb dX8_superstringStart_23 rfl (lv_at hl 1 rfl) ?_
      refine lv_iload_n hx hb dX8_superstringStart_24 rfl (lv_at hl 2 rfl) ?_
      obtain ⟨vz14, hcz, hs⟩ := bd1_some hs
      refine k_rV (As := [.int (iI l1), .int (iI l2)]) (rest := []) (st1 := [.int (iI vz14)]) ⟨hx, hb, hml, hown, hts⟩ hK hP (c_X8_isInWhole l D cI cZ cJ hcz) (cwV 2 hts gX8_superstringStart_X8_isInWhole rfl rfl rfl (by decide +kernel) ⟨Nat.le_of_ble_eq_true rfl, Nat.le_of_ble_eq_true rfl⟩) 0 rfl rfl rfl rfl hl.1 rfl (lv_room (Nat.le_of_ble_eq_true rfl)) dX8_superstringStart_25 ⟨Nat.zero_le _, Nat.zero_le _⟩ rfl ?_
      refine k_if_ne (tgt := 37) hx hb hs dX8_superstringStart_28 (by decide) (fun hs => ?_) (fun hs => ?_)
      · refine k_iinc (x := l2) (k := 2) (lv' := [(2, .int (iI (l2 + 1))), (0, .ref (ad 0)), (1, .int (iI l1))]) hx hb dX8_superstringStart_31 hl rfl (by decide) rfl (fun ls hl => ?_)
        refine lv_goto (tgt := 22) hx hb dX8_superstringStart_34 (by decide) ?_
        exact ih x_thrown x_elements x_wholeSize x_isLaid a_element a_long1 a_head a_tail a_next a_skip a_last a_whole a_edges l1 (l2 + 1) y0 hs Hz lz hP hD hSz ls (lv_sub hl [1, 2, 0] rfl) kx
      · cases hs
        exact kx Hz lz hP hD hSz ls (lv_sub hl [2] rfl)
  refine (?_ : ∀ (Hz : Heap) (lz : List Loc), va_P D vwCl (wM cI cZ cJ ad x_thrown x_buffered x_given x_isFolding x_work x_rebuilt x_streamed x_reports x_gapFrom x_gapSize x_elements x_wholeSize x_isLaid x_takenMany a_buffer a_length a_bytes a_weight a_live a_size a_list a_moved a_planned a_stream a_reportedEnd a_reportedKeyword a_starts a_keywordAt a_element a_long1 a_head a_tail a_next a_skip a_last a_whole a_edges a_covers a_weighs a_numbers a_takes a_takenAt) Hz → va_D Az (wM cI cZ cJ ad x_thrown x_buffered x_given x_isFolding x_work x_rebuilt x_streamed x_reports x_gapFrom x_gapSize x_elements x_wholeSize x_isLaid x_takenMany a_buffer a_length a_bytes a_weight a_live a_size a_list a_moved a_planned a_stream a_reportedEnd a_reportedKeyword a_starts a_keywordAt a_element a_long1 a_head a_tail a_next a_skip a_last a_whole a_edges a_covers a_weighs a_numbers a_takes a_takenAt) → va_S Az s.heap Hz lz → W p l e (headSpec wsX8_superstringStart rm_X8_superstringStart).room s m args below meth c Hz lz 0 0 (MQ below (QW D vwCl (some (.int (iI r))) wz Az) args s 0 0 Az) (F0 m 0 ls [])) s.heap [] hP hD hSz
  intro Hz lz hP hD hSz
  refine lv_aload_n hx hb dX8_superstringStart_0 rfl (lv_at hl 0 rfl) ?_
  refine k_iconst (n := 0) hx hb dX8_superstringStart_1 ?_
  refine va_put (ci := 8) (v := .int (iI 0)) (ty := .int) (C := RX8) (T := TX8) (N := 42) hx hb hts hiX8 tyX8 tyX8_ok nmX8 hown hK hP hD hSz 0 rfl rfl 0 (by decide) hf1 (fun _ h9 => h9) rfl (by decide +kernel) rfl rfl (Nat.le_of_ble_eq_true rfl) dX8_superstringStart_2 (fun Hz lz hP hD hSz => ?_)
  have hP : va_P D vwCl (wM cI cZ cJ ad 0 x_buffered x_given x_isFolding x_work x_rebuilt x_streamed x_reports x_gapFrom x_gapSize x_elements x_wholeSize x_isLaid x_takenMany a_buffer a_length a_bytes a_weight a_live a_size a_list a_moved a_planned a_stream a_reportedEnd a_reportedKeyword a_starts a_keywordAt a_element a_long1 a_head a_tail a_next a_skip a_last a_whole a_edges a_covers a_weighs a_numbers a_takes a_takenAt) Hz := hP
  have hD : va_D Az (wM cI cZ cJ ad 0 x_buffered x_given x_isFolding x_work x_rebuilt x_streamed x_reports x_gapFrom x_gapSize x_elements x_wholeSize x_isLaid x_takenMany a_buffer a_length a_bytes a_weight a_live a_size a_list a_moved a_planned a_stream a_reportedEnd a_reportedKeyword a_starts a_keywordAt a_element a_long1 a_head a_tail a_next a_skip a_last a_whole a_edges a_covers a_weighs a_numbers a_takes a_takenAt) := hD
  refine lv_aload_n hx hb dX8_superstringStart_5 rfl (lv_at hl 0 rfl) ?_
  refine lv_iload_n hx hb dX8_superstringStart_6 rfl (lv_at hl 1 rfl) ?_
  obtain ⟨vz1, hcz, hs⟩ := bd1_some hs
  refine k_rV (As := [.int (iI pz1)]) (rest := []) (st1 := [.int (iI vz1)]) ⟨hx, hb, hml, hown, hts⟩ hK hP (c_X8_isLiveOne l D cI cZ cJ hcz) (cwV 1 hts gX8_superstringStart_X8_isLiveOne rfl rfl rfl (by decide +kernel) ⟨Nat.le_of_ble_eq_true rfl, Nat.le_of_ble_eq_true rfl⟩) 0 rfl rfl rfl rfl hl.1 rfl (lv_room (Nat.le_of_ble_eq_true rfl)) dX8_superstringStart_7 ⟨Nat.zero_le _, Nat.zero_le _⟩ rfl ?_
  refine k_if_ne (tgt := 16) hx hb hs dX8_superstringStart_10 (by decide) (fun hs => ?_) (fun hs => ?_)
  · refine k_bipush (n := (-2)) hx hb (by decide) dX8_superstringStart_13 ?_
    cases hs
    exact k_iret_w hx hb hr hlk (by rw [hw1]; exact hP) hSz dX8_superstringStart_15 rfl
  · refine lv_aload_n hx hb dX8_superstringStart_16 rfl (lv_at hl 0 rfl) ?_
    obtain ⟨vz2, vz3, vz4, vz5, vz6, vz7, vz8, vz9, vz10, vz11, vz12, vz13, hcz, hs⟩ := bd12_some hs
    refine k_wVs (As := []) (rest := []) (st1 := []) (w1 := (wM cI cZ cJ ad 0 x_buffered x_given x_isFolding x_work x_rebuilt x_streamed x_reports x_gapFrom x_gapSize vz2 vz3 vz4 x_takenMany a_buffer a_length a_bytes a_weight a_live a_size a_list a_moved a_planned a_stream a_reportedEnd a_reportedKeyword a_starts a_keywordAt vz5 vz6 vz7 vz8 vz9 vz10 vz11 vz12 vz13 a_covers a_weighs a_numbers a_takes a_takenAt)) ⟨hx, hb, hml, hown, hts⟩ hK hP hD hSz hA (c_X8_laysWhole l D cI cZ cJ hcz) (cwV 0 hts gX8_superstringStart_X8_laysWhole rfl rfl rfl (by decide +kernel) ⟨Nat.le_of_ble_eq_true rfl, Nat.le_of_ble_eq_true rfl⟩) 0 rfl rfl rfl rfl rfl hl.1 rfl (lv_room (Nat.le_of_ble_eq_true rfl)) dX8_superstringStart_17 ⟨Nat.zero_le _, Nat.zero_le _⟩ rfl (fun Hz lz hP hD hSz => ?_)
    have hP : va_P D vwCl (wM cI cZ cJ ad 0 x_buffered x_given x_isFolding x_work x_rebuilt x_streamed x_reports x_gapFrom x_gapSize vz2 vz3 vz4 x_takenMany a_buffer a_length a_bytes a_weight a_live a_size a_list a_moved a_planned a_stream a_reportedEnd a_reportedKeyword a_starts a_keywordAt vz5 vz6 vz7 vz8 vz9 vz10 vz11 vz12 vz13 a_covers a_weighs a_numbers a_takes a_takenAt) Hz := hP
    have hD : va_D Az (wM cI cZ cJ ad 0 x_buffered x_given x_isFolding x_work x_rebuilt x_streamed x_reports x_gapFrom x_gapSize vz2 vz3 vz4 x_takenMany a_buffer a_length a_bytes a_weight a_live a_size a_list a_moved a_planned a_stream a_reportedEnd a_reportedKeyword a_starts a_keywordAt vz5 vz6 vz7 vz8 vz9 vz10 vz11 vz12 vz13 a_covers a_weighs a_numbers a_takes a_takenAt) := hD
    refine k_iconst (n := 0) hx hb dX8_superstringStart_20 ?_
    refine lv_istore_n (lv' := [(2, .int (iI 0)), (0, .ref (ad 0)), (1, .int (iI pz1))]) hx hb dX8_superstringStart_21 rfl hl (by decide) rfl (fun ls hl => ?_)
    obtain ⟨ez15, hq, hs⟩ := bd1_some hs
    refine Lz22 FU 0 vz2 vz3 vz4 vz5 vz6 vz7 vz8 vz9 vz10 vz11 vz12 vz13 pz1 0 ez15 hq Hz lz hP hD hSz ls (lv_sub hl [1, 2, 0] rfl) ?_
    intro Hz lz hP hD hSz ls hl
    refine lv_iload_n hx hb dX8_superstringStart_37 rfl (lv_at hl 0 rfl) ?_
    cases hs
    exact k_iret_w hx hb hr hlk (by rw [hw1]; exact hP) hSz dX8_superstringStart_38 rfl
/-! X8_better -/
noncomputable def s_X8_better (a_length : (Int → Int)) (a_weight : (Int → Int)) (a_covers : (Int → Int)) (a_weighs : (Int → Int)) (a_numbers : (Int → Int)) (pz1 : Int) (pz2 : Int) : Option (Int) := (rdA a_length 120 pz2).bind (fun vz1 => (rdA a_covers 601 (pz1 + vz1)).bind (fun vz2 => (rdA a_length 120 pz2).bind (fun vz3 => (rdA a_covers 601 pz1).bind (fun vz4 => cEq ((vz2 + vz3) - vz4) 0 ((rdA a_weighs 601 (pz1 + vz1)).bind (fun vz5 => (rdA a_weight 120 pz2).bind (fun vz6 => (rdA a_weighs 601 pz1).bind (fun vz7 => cEq ((vz5 + vz6) - vz7) 0 ((rdA a_numbers 601 pz1).bind (fun vz8 => (rdA a_numbers 601 (pz1 + vz1)).bind (fun vz9 => some ((vz8 - vz9) - 1)))) (some ((vz5 + vz6) - vz7)))))) (cEq ((vz2 + vz3) - vz4) 0 ((rdA a_numbers 601 pz1).bind (fun vz10 => (rdA a_numbers 601 (pz1 + vz1)).bind (fun vz11 => some ((vz10 - vz11) - 1)))) (some ((vz2 + vz3) - vz4)))))))
def rm_X8_better : Room := { frames := 0, cells := 0, slots := 0, locals := 0 }
set_option maxHeartbeats 4000000 in
set_option maxRecDepth 100000 in
theorem c_X8_better (l : Launch) (D : va_G) (cI cZ cJ : ClassId) {ad : Nat → Nat} {x_thrown : Int} {x_buffered : Int} {x_given : Int} {x_isFolding : Int} {x_work : Int} {x_rebuilt : Int} {x_streamed : Int} {x_reports : Int} {x_gapFrom : Int} {x_gapSize : Int} {x_elements : Int} {x_wholeSize : Int} {x_isLaid : Int} {x_takenMany : Int} {a_buffer : (Int → Int)} {a_length : (Int → Int)} {a_bytes : (Int → Int)} {a_weight : (Int → Int)} {a_live : (Int → Int)} {a_size : (Int → Int)} {a_list : (Int → Int)} {a_moved : (Int → Int)} {a_planned : (Int → Int)} {a_stream : (Int → Int)} {a_reportedEnd : (Int → Int)} {a_reportedKeyword : (Int → Int)} {a_starts : (Int → Int)} {a_keywordAt : (Int → Int)} {a_element : (Int → Int)} {a_long1 : (Int → Int)} {a_head : (Int → Int)} {a_tail : (Int → Int)} {a_next : (Int → Int)} {a_skip : (Int → Int)} {a_last : (Int → Int)} {a_whole : (Int → Int)} {a_edges : (Int → Int)} {a_covers : (Int → Int)} {a_weighs : (Int → Int)} {a_numbers : (Int → Int)} {a_takes : (Int → Int)} {a_takenAt : (Int → Int)} {pz1 : Int} {pz2 : Int} {r : Int} (hs : s_X8_better a_length a_weight a_covers a_weighs a_numbers pz1 pz2 = some r) : Met l yX8_better wsX8_better rm_X8_better (PR D vwCl [(cI, .int), (cZ, .boolean), (cJ, .long)] [.ref (ad 0), .int (iI pz1), .int (iI pz2)] (wM cI cZ cJ ad x_thrown x_buffered x_given x_isFolding x_work x_rebuilt x_streamed x_reports x_gapFrom x_gapSize x_elements x_wholeSize x_isLaid x_takenMany a_buffer a_length a_bytes a_weight a_live a_size a_list a_moved a_planned a_stream a_reportedEnd a_reportedKeyword a_starts a_keywordAt a_element a_long1 a_head a_tail a_next a_skip a_last a_whole a_edges a_covers a_weighs a_numbers a_takes a_takenAt)) (QR (some (.int (iI r)))) 0 0 (fun _ => False) := by
  refine Met.ofW (cc := cX8_better) (maxL := 5) (ret := (some .int)) (by decide) rfl ?_
  intro p e s m args below meth c s₁ B hml hv
  obtain ⟨hav, hP, hK⟩ := hv
  have hx := B.exec
  have hb := B.bytes
  have hr := B.returns
  have hts := atoms_spec (ws := wsX8_better) B.pre
  have hown : s.vm.findClass RX8 = some m.cls := findClass_of_methodNamed B.named
  have hlk := B.notSynchronized
  have hf17 : (Cond.fieldLink RX8 17 "KeywordMatcherModel" "length" "[I").before args s = true := hts _ (List.mem_of_getElem? (i := 1) rfl)
  have hiX8 : ∀ w ∈ wsX80, w ∈ wsX8_better := fun w h => List.mem_cons_of_mem _ (List.mem_append_right _ h)
  have hf84 : (Cond.fieldLink RX8 84 "KeywordMatcherModel" "covers" "[I").before args s = true := hts _ (List.mem_of_getElem? (i := 2) rfl)
  have hf87 : (Cond.fieldLink RX8 87 "KeywordMatcherModel" "weighs" "[I").before args s = true := hts _ (List.mem_of_getElem? (i := 3) rfl)
  have hf23 : (Cond.fieldLink RX8 23 "KeywordMatcherModel" "weight" "[I").before args s = true := hts _ (List.mem_of_getElem? (i := 4) rfl)
  have hf90 : (Cond.fieldLink RX8 90 "KeywordMatcherModel" "numbers" "[I").before args s = true := hts _ (List.mem_of_getElem? (i := 5) rfl)
  have hl := lv_entry ([.ref (ad 0), .int (iI pz1), .int (iI pz2)]) (n := 5) (Nat.le_of_ble_eq_true rfl)
  rw [show entryFrame m args 5 = entryFrame m ([.ref (ad 0), .int (iI pz1), .int (iI pz2)] : List Value).toArray 5 from by rw [hav], lg_entry_eq]
  generalize (lg_sl ([.ref (ad 0), .int (iI pz1), .int (iI pz2)]) ++ List.replicate (5 - (lg_sl ([.ref (ad 0), .int (iI pz1), .int (iI pz2)])).length) Slot.unset).toArray = ls at hl ⊢
  have hl : lv_has ls 5 [(0, .ref (ad 0)), (1, .int (iI pz1)), (2, .int (iI pz2))] := hl
  unfold s_X8_better at hs
  refine lv_iload_n hx hb dX8_better_0 rfl (lv_at hl 1 rfl) ?_
  refine lv_aload_n hx hb dX8_better_1 rfl (lv_at hl 0 rfl) ?_
  refine va_get (ci := 8) (v := .ref (ad 2)) (C := RX8) (T := TX8) (N := 42) hx hb hts hiX8 hown hK hP 0 rfl rfl 3 (by decide) hf17 (fun _ h9 => h9) rfl dX8_better_2 ?_
  refine lv_iload_n hx hb dX8_better_5 rfl (lv_at hl 2 rfl) ?_
  refine k_iald hx hb hK hP 2 0 rfl rfl (Nat.le_of_ble_eq_true rfl) hs dX8_better_6 (fun vz1 hs => ?_)
  refine k_iadd hx hb dX8_better_7 ?_
  refine lv_istore_n (lv' := [(3, .int (iI (pz1 + vz1))), (0, .ref (ad 0)), (1, .int (iI pz1)), (2, .int (iI pz2))]) hx hb dX8_better_8 rfl hl (by decide) rfl (fun ls hl => ?_)
  refine lv_aload_n hx hb dX8_better_9 rfl (lv_at hl 1 rfl) ?_
  refine va_get (ci := 8) (v := .ref (ad 24)) (C := RX8) (T := TX8) (N := 42) hx hb hts hiX8 hown hK hP 0 rfl rfl 36 (by decide) hf84 (fun _ h9 => h9) rfl dX8_better_10 ?_
  refine lv_iload_n hx hb dX8_better_13 rfl (lv_at hl 0 rfl) ?_
  refine k_iald hx hb hK hP 24 0 rfl rfl (Nat.le_of_ble_eq_true rfl) hs dX8_better_14 (fun vz2 hs => ?_)
  refine lv_aload_n hx hb dX8_better_15 rfl (lv_at hl 1 rfl) ?_
  refine va_get (ci := 8) (v := .ref (ad 2)) (C := RX8) (T := TX8) (N := 42) hx hb hts hiX8 hown hK hP 0 rfl rfl 3 (by decide) hf17 (fun _ h9 => h9) rfl dX8_better_16 ?_
  refine lv_iload_n hx hb dX8_better_19 rfl (lv_at hl 3 rfl) ?_
  refine k_iald hx hb hK hP 2 0 rfl rfl (Nat.le_of_ble_eq_true rfl) hs dX8_better_20 (fun vz3 hs => ?_)
  refine k_iadd hx hb dX8_better_21 ?_
  refine lv_aload_n hx hb dX8_better_22 rfl (lv_at hl 1 rfl) ?_
  refine va_get (ci := 8) (v := .ref (ad 24)) (C := RX8) (T := TX8) (N := 42) hx hb hts hiX8 hown hK hP 0 rfl rfl 36 (by decide) hf84 (fun _ h9 => h9) rfl dX8_better_23 ?_
  refine lv_iload_n hx hb dX8_better_26 rfl (lv_at hl 2 rfl) ?_
  refine k_iald hx hb hK hP 24 0 rfl rfl (Nat.le_of_ble_eq_true rfl) hs dX8_better_27 (fun vz4 hs => ?_)
  refine k_isub hx hb dX8_better_28 ?_
  refine lv_istore (lv' := [(4, .int (iI ((vz2 + vz3) - vz4))), (3, .int (iI (pz1 + vz1))), (0, .ref (ad 0)), (1, .int (iI pz1)), (2, .int (iI pz2))]) hx hb dX8_better_29 hl (by decide) rfl (fun ls hl => ?_)
  refine lv_iload hx hb dX8_better_31 (lv_at hl 0 rfl) ?_
  refine k_if_ne (tgt := 58) hx hb hs dX8_better_33 (by decide) (fun hs => ?_) (fun hs => ?_)
  · refine lv_aload_n hx hb dX8_better_36 rfl (lv_at hl 2 rfl) ?_
    refine va_get (ci := 8) (v := .ref (ad 25)) (C := RX8) (T := TX8) (N := 42) hx hb hts hiX8 hown hK hP 0 rfl rfl 37 (by decide) hf87 (fun _ h9 => h9) rfl dX8_better_37 ?_
    refine lv_iload_n hx hb dX8_better_40 rfl (lv_at hl 1 rfl) ?_
    refine k_iald hx hb hK hP 25 0 rfl rfl (Nat.le_of_ble_eq_true rfl) hs dX8_better_41 (fun vz5 hs => ?_)
    refine lv_aload_n hx hb dX8_better_42 rfl (lv_at hl 2 rfl) ?_
    refine va_get (ci := 8) (v := .ref (ad 4)) (C := RX8) (T := TX8) (N := 42) hx hb hts hiX8 hown hK hP 0 rfl rfl 5 (by decide) hf23 (fun _ h9 => h9) rfl dX8_better_43 ?_
    refine lv_iload_n hx hb dX8_better_46 rfl (lv_at hl 4 rfl) ?_
    refine k_iald hx hb hK hP 4 0 rfl rfl (Nat.le_of_ble_eq_true rfl) hs dX8_better_47 (fun vz6 hs => ?_)
    refine k_iadd hx hb dX8_better_48 ?_
    refine lv_aload_n hx hb dX8_better_49 rfl (lv_at hl 2 rfl) ?_
    refine va_get (ci := 8) (v := .ref (ad 25)) (C := RX8) (T := TX8) (N := 42) hx hb hts hiX8 hown hK hP 0 rfl rfl 37 (by decide) hf87 (fun _ h9 => h9) rfl dX8_better_50 ?_
    refine lv_iload_n hx hb dX8_better_53 rfl (lv_at hl 3 rfl) ?_
    refine k_iald hx hb hK hP 25 0 rfl rfl (Nat.le_of_ble_eq_true rfl) hs dX8_better_54 (fun vz7 hs => ?_)
    refine k_isub hx hb dX8_better_55 ?_
    refine lv_istore (lv' := [(4, .int (iI ((vz5 + vz6) - vz7))), (3, .int (iI (pz1 + vz1))), (0, .ref (ad 0)), (1, .int (iI pz1)), (2, .int (iI pz2))]) hx hb dX8_better_56 hl (by decide) rfl (fun ls hl => ?_)
    refine lv_iload hx hb dX8_better_58 (lv_at hl 0 rfl) ?_
    refine k_if_eq (tgt := 68) hx hb hs dX8_better_60 (by decide) (fun hs => ?_) (fun hs => ?_)
    · refine lv_aload_n hx hb dX8_better_68 rfl (lv_at hl 2 rfl) ?_
      refine va_get (ci := 8) (v := .ref (ad 26)) (C := RX8) (T := TX8) (N := 42) hx hb hts hiX8 hown hK hP 0 rfl rfl 38 (by decide) hf90 (fun _ h9 => h9) rfl dX8_better_69 ?_
      refine lv_iload_n hx hb dX8_better_72 rfl (lv_at hl 3 rfl) ?_
      refine k_iald hx hb hK hP 26 0 rfl rfl (Nat.le_of_ble_eq_true rfl) hs dX8_better_73 (fun vz8 hs => ?_)
      refine lv_aload_n hx hb dX8_better_74 rfl (lv_at hl 2 rfl) ?_
      refine va_get (ci := 8) (v := .ref (ad 26)) (C := RX8) (T := TX8) (N := 42) hx hb hts hiX8 hown hK hP 0 rfl rfl 38 (by decide) hf90 (fun _ h9 => h9) rfl dX8_better_75 ?_
      refine lv_iload_n hx hb dX8_better_78 rfl (lv_at hl 1 rfl) ?_
      refine k_iald hx hb hK hP 26 0 rfl rfl (Nat.le_of_ble_eq_true rfl) hs dX8_better_79 (fun vz9 hs => ?_)
      refine k_isub hx hb dX8_better_80 ?_
      refine k_iconst (n := 1) hx hb dX8_better_81 ?_
      refine k_isub hx hb dX8_better_82 ?_
      cases hs
      exact k_iret_r hx hb hr hlk rfl dX8_better_83 rfl
    · refine lv_iload hx hb dX8_better_63 (lv_at hl 0 rfl) ?_
      refine lv_goto (tgt := 83) hx hb dX8_better_65 (by decide) ?_
      cases hs
      exact k_iret_r hx hb hr hlk rfl dX8_better_83 rfl
  · refine lv_iload hx hb dX8_better_58 (lv_at hl 0 rfl) ?_
    refine k_if_eq (tgt := 68) hx hb hs dX8_better_60 (by decide) (fun hs => ?_) (fun hs => ?_)
    · refine lv_aload_n hx hb dX8_better_68 rfl (lv_at hl 2 rfl) ?_
      refine va_get (ci := 8) (v := .ref (ad 26)) (C := RX8) (T := TX8) (N := 42) hx hb hts hiX8 hown hK hP 0 rfl rfl 38 (by decide) hf90 (fun _ h9 => h9) rfl dX8_better_69 ?_
      refine lv_iload_n hx hb dX8_better_72 rfl (lv_at hl 3 rfl) ?_
      refine k_iald hx hb hK hP 26 0 rfl rfl (Nat.le_of_ble_eq_true rfl) hs dX8_better_73 (fun vz10 hs => ?_)
      refine lv_aload_n hx hb dX8_better_74 rfl (lv_at hl 2 rfl) ?_
      refine va_get (ci := 8) (v := .ref (ad 26)) (C := RX8) (T := TX8) (N := 42) hx hb hts hiX8 hown hK hP 0 rfl rfl 38 (by decide) hf90 (fun _ h9 => h9) rfl dX8_better_75 ?_
      refine lv_iload_n hx hb dX8_better_78 rfl (lv_at hl 1 rfl) ?_
      refine k_iald hx hb hK hP 26 0 rfl rfl (Nat.le_of_ble_eq_true rfl) hs dX8_better_79 (fun vz11 hs => ?_)
      refine k_isub hx hb dX8_better_80 ?_
      refine k_iconst (n := 1) hx hb dX8_better_81 ?_
      refine k_isub hx hb dX8_better_82 ?_
      cases hs
      exact k_iret_r hx hb hr hlk rfl dX8_better_83 rfl
    · refine lv_iload hx hb dX8_better_63 (lv_at hl 0 rfl) ?_
      refine lv_goto (tgt := 83) hx hb dX8_better_65 (by decide) ?_
      cases hs
      exact k_iret_r hx hb hr hlk rfl dX8_better_83 rfl
/-! X8_laysCover -/
noncomputable def s_X8_laysCover_96 (fu : Nat) : Int → (Int → Int) → (Int → Int) → (Int → Int) → (Int → Int) → (Int → Int) → (Int → Int) → (Int → Int) → (Int → Int) → (Int → Int) → Int → Int → Option ((Int → Int) × (Int → Int) × (Int → Int) × (Int → Int)) := Nat.rec (motive := fun _ => Int → (Int → Int) → (Int → Int) → (Int → Int) → (Int → Int) → (Int → Int) → (Int → Int) → (Int → Int) → (Int → Int) → (Int → Int) → Int → Int → Option ((Int → Int) × (Int → Int) × (Int → Int) × (Int → Int))) (fun _ _ _ _ _ _ _ _ _ _ _ _ => none) (fun _ ih x_given a_length a_weight a_live a_starts a_keywordAt a_covers a_weighs a_numbers a_takes l1 l2 => cLt l2 x_given ((rdA a_live 120 l2).bind (fun vz6 => cEq vz6 0 (ih x_given a_length a_weight a_live a_starts a_keywordAt a_covers a_weighs a_numbers a_takes l1 (l2 + 1)) ((rdA a_length 120 l2).bind (fun vz7 => bd1 (s_X8_hasAt a_starts l1 vz7) (fun vz8 => cEq vz8 0 (ih x_given a_length a_weight a_live a_starts a_keywordAt a_covers a_weighs a_numbers a_takes l1 (l2 + 1)) ((rdA a_length 120 l2).bind (fun vz9 => (rdA a_keywordAt 10200 ((17 * l1) + vz9)).bind (fun vz10 => cEq vz10 l2 (bd1 (s_X8_better a_length a_weight a_covers a_weighs a_numbers l1 l2) (fun vz11 => cLt vz11 0 (ih x_given a_length a_weight a_live a_starts a_keywordAt a_covers a_weighs a_numbers a_takes l1 (l2 + 1)) (cEq vz11 0 ((rdA a_takes 601 l1).bind (fun vz12 => cEq vz12 (-1) (cN 601 l1 ((rdA a_length 120 l2).bind (fun vz13 => (rdA a_covers 601 (l1 + vz13)).bind (fun vz14 => (rdA a_length 120 l2).bind (fun vz15 => cN 601 l1 ((rdA a_weighs 601 (l1 + vz13)).bind (fun vz16 => (rdA a_weight 120 l2).bind (fun vz17 => cN 601 l1 ((rdA a_numbers 601 (l1 + vz13)).bind (fun vz18 => cN 601 l1 (ih x_given a_length a_weight a_live a_starts a_keywordAt (upA a_covers l1 (vz14 + vz15)) (upA a_weighs l1 (vz16 + vz17)) (upA a_numbers l1 (vz18 + 1)) (upA a_takes l1 l2) l1 (l2 + 1)))))))))))) (ih x_given a_length a_weight a_live a_starts a_keywordAt a_covers a_weighs a_numbers a_takes l1 (l2 + 1)))) (cN 601 l1 ((rdA a_length 120 l2).bind (fun vz19 => (rdA a_covers 601 (l1 + vz19)).bind (fun vz20 => (rdA a_length 120 l2).bind (fun vz21 => cN 601 l1 ((rdA a_weighs 601 (l1 + vz19)).bind (fun vz22 => (rdA a_weight 120 l2).bind (fun vz23 => cN 601 l1 ((rdA a_numbers 601 (l1 + vz19)).bind (fun vz24 => cN 601 l1 (ih x_given a_length a_weight a_live a_starts a_keywordAt (upA a_covers l1 (vz20 + vz21)) (upA a_weighs l1 (vz22 + vz23)) (upA a_numbers l1 (vz24 + 1)) (upA a_takes l1 l2) l1 (l2 + 1))))))))))))))) (ih x_given a_length a_weight a_live a_starts a_keywordAt a_covers a_weighs a_numbers a_takes l1 (l2 + 1)))))))))) (some (a_covers, a_weighs, a_numbers, a_takes))) fu
theorem s_X8_laysCover_96_s (fu : Nat) (x_given : Int) (a_length : (Int → Int)) (a_weight : (Int → Int)) (a_live : (Int → Int)) (a_starts : (Int → Int)) (a_keywordAt : (Int → Int)) (a_covers : (Int → Int)) (a_weighs : (Int → Int)) (a_numbers : (Int → Int)) (a_takes : (Int → Int)) (l1 : Int) (l2 : Int) : s_X8_laysCover_96 (fu + 1) x_given a_length a_weight a_live a_starts a_keywordAt a_covers a_weighs a_numbers a_takes l1 l2 = (cLt l2 x_given ((rdA a_live 120 l2).bind (fun vz6 => cEq vz6 0 (s_X8_laysCover_96 fu x_given a_length a_weight a_live a_starts a_keywordAt a_covers a_weighs a_numbers a_takes l1 (l2 + 1)) ((rdA a_length 120 l2).bind (fun vz7 => bd1 (s_X8_hasAt a_starts l1 vz7) (fun vz8 => cEq vz8 0 (s_X8_laysCover_96 fu x_given a_length a_weight a_live a_starts a_keywordAt a_covers a_weighs a_numbers a_takes l1 (l2 + 1)) ((rdA a_length 120 l2).bind (fun vz9 => (rdA a_keywordAt 10200 ((17 * l1) + vz9)).bind (fun vz10 => cEq vz10 l2 (bd1 (s_X8_better a_length a_weight a_covers a_weighs a_numbers l1 l2) (fun vz11 => cLt vz11 0 (s_X8_laysCover_96 fu x_given a_length a_weight a_live a_starts a_keywordAt a_covers a_weighs a_numbers a_takes l1 (l2 + 1)) (cEq vz11 0 ((rdA a_takes 601 l1).bind (fun vz12 => cEq vz12 (-1) (cN 601 l1 ((rdA a_length 120 l2).bind (fun vz13 => (rdA a_covers 601 (l1 + vz13)).bind (fun vz14 => (rdA a_length 120 l2).bind (fun vz15 => cN 601 l1 ((rdA a_weighs 601 (l1 + vz13)).bind (fun vz16 => (rdA a_weight 120 l2).bind (fun vz17 => cN 601 l1 ((rdA a_numbers 601 (l1 + vz13)).bind (fun vz18 => cN 601 l1 (s_X8_laysCover_96 fu x_given a_length a_weight a_live a_starts a_keywordAt (upA a_covers l1 (vz14 + vz15)) (upA a_weighs l1 (vz16 + vz17)) (upA a_numbers l1 (vz18 + 1)) (upA a_takes l1 l2) l1 (l2 + 1)))))))))))) (s_X8_laysCover_96 fu x_given a_length a_weight a_live a_starts a_keywordAt a_covers a_weighs a_numbers a_takes l1 (l2 + 1)))) (cN 601 l1 ((rdA a_length 120 l2).bind (fun vz19 => (rdA a_covers 601 (l1 + vz19)).bind (fun vz20 => (rdA a_length 120 l2).bind (fun vz21 => cN 601 l1 ((rdA a_weighs 601 (l1 + vz19)).bind (fun vz22 => (rdA a_weight 120 l2).bind (fun vz23 => cN 601 l1 ((rdA a_numbers 601 (l1 + vz19)).bind (fun vz24 => cN 601 l1 (s_X8_laysCover_96 fu x_given a_length a_weight a_live a_starts a_keywordAt (upA a_covers l1 (vz20 + vz21)) (upA a_weighs l1 (vz22 + vz23)) (upA a_numbers l1 (vz24 + 1)) (upA a_takes l1 l2) l1 (l2 + 1))))))))))))))) (s_X8_laysCover_96 fu x_given a_length a_weight a_live a_starts a_keywordAt a_covers a_weighs a_numbers a_takes l1 (l2 + 1)))))))))) (some (a_covers, a_weighs, a_numbers, a_takes))) := rfl
theorem s_X8_laysCover_96_z (x_given : Int) (a_length : (Int → Int)) (a_weight : (Int → Int)) (a_live : (Int → Int)) (a_starts : (Int → Int)) (a_keywordAt : (Int → Int)) (a_covers : (Int → Int)) (a_weighs : (Int → Int)) (a_numbers : (Int → Int)) (a_takes : (Int → Int)) (l1 : Int) (l2 : Int) : s_X8_laysCover_96 0 x_given a_length a_weight a_live a_starts a_keywordAt a_covers a_weighs a_numbers a_takes l1 l2 = none := rfl
noncomputable def s_X8_laysCover_41 (fu : Nat) : Int → (Int → Int) → (Int → Int) → (Int → Int) → (Int → Int) → (Int → Int) → (Int → Int) → (Int → Int) → (Int → Int) → (Int → Int) → Int → Option ((Int → Int) × (Int → Int) × (Int → Int) × (Int → Int)) := Nat.rec (motive := fun _ => Int → (Int → Int) → (Int → Int) → (Int → Int) → (Int → Int) → (Int → Int) → (Int → Int) → (Int → Int) → (Int → Int) → (Int → Int) → Int → Option ((Int → Int) × (Int → Int) × (Int → Int) × (Int → Int))) (fun _ _ _ _ _ _ _ _ _ _ _ => none) (fun _ ih x_given a_length a_weight a_live a_starts a_keywordAt a_covers a_weighs a_numbers a_takes l1 => cLt l1 0 (some (a_covers, a_weighs, a_numbers, a_takes)) ((rdA a_covers 601 (l1 + 1)).bind (fun vz3 => cN 601 l1 ((rdA a_weighs 601 (l1 + 1)).bind (fun vz4 => cN 601 l1 ((rdA a_numbers 601 (l1 + 1)).bind (fun vz5 => cN 601 l1 (cN 601 l1 (bd4 (s_X8_laysCover_96 FU x_given a_length a_weight a_live a_starts a_keywordAt (upA a_covers l1 vz3) (upA a_weighs l1 vz4) (upA a_numbers l1 vz5) (upA a_takes l1 (-1)) l1 0) (fun ez25 ez26 ez27 ez28 => ih x_given a_length a_weight a_live a_starts a_keywordAt ez25 ez26 ez27 ez28 (l1 + (-1)))))))))))) fu
theorem s_X8_laysCover_41_s (fu : Nat) (x_given : Int) (a_length : (Int → Int)) (a_weight : (Int → Int)) (a_live : (Int → Int)) (a_starts : (Int → Int)) (a_keywordAt : (Int → Int)) (a_covers : (Int → Int)) (a_weighs : (Int → Int)) (a_numbers : (Int → Int)) (a_takes : (Int → Int)) (l1 : Int) : s_X8_laysCover_41 (fu + 1) x_given a_length a_weight a_live a_starts a_keywordAt a_covers a_weighs a_numbers a_takes l1 = (cLt l1 0 (some (a_covers, a_weighs, a_numbers, a_takes)) ((rdA a_covers 601 (l1 + 1)).bind (fun vz3 => cN 601 l1 ((rdA a_weighs 601 (l1 + 1)).bind (fun vz4 => cN 601 l1 ((rdA a_numbers 601 (l1 + 1)).bind (fun vz5 => cN 601 l1 (cN 601 l1 (bd4 (s_X8_laysCover_96 FU x_given a_length a_weight a_live a_starts a_keywordAt (upA a_covers l1 vz3) (upA a_weighs l1 vz4) (upA a_numbers l1 vz5) (upA a_takes l1 (-1)) l1 0) (fun ez25 ez26 ez27 ez28 => (s_X8_laysCover_41 fu) x_given a_length a_weight a_live a_starts a_keywordAt ez25 ez26 ez27 ez28 (l1 + (-1)))))))))))) := rfl
theorem s_X8_laysCover_41_z (x_given : Int) (a_length : (Int → Int)) (a_weight : (Int → Int)) (a_live : (Int → Int)) (a_starts : (Int → Int)) (a_keywordAt : (Int → Int)) (a_covers : (Int → Int)) (a_weighs : (Int → Int)) (a_numbers : (Int → Int)) (a_takes : (Int → Int)) (l1 : Int) : s_X8_laysCover_41 0 x_given a_length a_weight a_live a_starts a_keywordAt a_covers a_weighs a_numbers a_takes l1 = none := rfl
noncomputable def s_X8_laysCover (x_given : Int) (x_isFolding : Int) (x_streamed : Int) (a_length : (Int → Int)) (a_bytes : (Int → Int)) (a_weight : (Int → Int)) (a_live : (Int → Int)) (a_stream : (Int → Int)) (a_starts : (Int → Int)) (a_keywordAt : (Int → Int)) (a_covers : (Int → Int)) (a_weighs : (Int → Int)) (a_numbers : (Int → Int)) (a_takes : (Int → Int)) : Option ((Int → Int) × (Int → Int) × (Int → Int) × (Int → Int) × (Int → Int) × (Int → Int)) := bd2 (s_X8_laysMatches x_given x_isFolding x_streamed a_length a_bytes a_live a_stream a_starts a_keywordAt) (fun vz1 vz2 => cN 601 x_streamed (cN 601 x_streamed (cN 601 x_streamed (bd4 (s_X8_laysCover_41 FU x_given a_length a_weight a_live vz1 vz2 (upA a_covers x_streamed 0) (upA a_weighs x_streamed 0) (upA a_numbers x_streamed 0) a_takes (x_streamed - 1)) (fun ez29 ez30 ez31 ez32 => some (vz1, vz2, ez29, ez30, ez31, ez32))))))
def rm_X8_laysCover : Room := { frames := 5, cells := 0, slots := 0, locals := 114 }
set_option maxHeartbeats 4000000 in
set_option maxRecDepth 100000 in
theorem c_X8_laysCover (l : Launch) (D : va_G) (cI cZ cJ : ClassId) {ad : Nat → Nat} {x_thrown : Int} {x_buffered : Int} {x_given : Int} {x_isFolding : Int} {x_work : Int} {x_rebuilt : Int} {x_streamed : Int} {x_reports : Int} {x_gapFrom : Int} {x_gapSize : Int} {x_elements : Int} {x_wholeSize : Int} {x_isLaid : Int} {x_takenMany : Int} {a_buffer : (Int → Int)} {a_length : (Int → Int)} {a_bytes : (Int → Int)} {a_weight : (Int → Int)} {a_live : (Int → Int)} {a_size : (Int → Int)} {a_list : (Int → Int)} {a_moved : (Int → Int)} {a_planned : (Int → Int)} {a_stream : (Int → Int)} {a_reportedEnd : (Int → Int)} {a_reportedKeyword : (Int → Int)} {a_starts : (Int → Int)} {a_keywordAt : (Int → Int)} {a_element : (Int → Int)} {a_long1 : (Int → Int)} {a_head : (Int → Int)} {a_tail : (Int → Int)} {a_next : (Int → Int)} {a_skip : (Int → Int)} {a_last : (Int → Int)} {a_whole : (Int → Int)} {a_edges : (Int → Int)} {a_covers : (Int → Int)} {a_weighs : (Int → Int)} {a_numbers : (Int → Int)} {a_takes : (Int → Int)} {a_takenAt : (Int → Int)} {y_a_starts : (Int → Int)} {y_a_keywordAt : (Int → Int)} {y_a_covers : (Int → Int)} {y_a_weighs : (Int → Int)} {y_a_numbers : (Int → Int)} {y_a_takes : (Int → Int)} {sz : Nat} (hs : s_X8_laysCover x_given x_isFolding x_streamed a_length a_bytes a_weight a_live a_stream a_starts a_keywordAt a_covers a_weighs a_numbers a_takes = some (y_a_starts, y_a_keywordAt, y_a_covers, y_a_weighs, y_a_numbers, y_a_takes)) : Met l yX8_laysCover wsX8_laysCover rm_X8_laysCover (PW D vwCl [(cI, .int), (cZ, .boolean), (cJ, .long)] [.ref (ad 0)] (wM cI cZ cJ ad x_thrown x_buffered x_given x_isFolding x_work x_rebuilt x_streamed x_reports x_gapFrom x_gapSize x_elements x_wholeSize x_isLaid x_takenMany a_buffer a_length a_bytes a_weight a_live a_size a_list a_moved a_planned a_stream a_reportedEnd a_reportedKeyword a_starts a_keywordAt a_element a_long1 a_head a_tail a_next a_skip a_last a_whole a_edges a_covers a_weighs a_numbers a_takes a_takenAt) sz) (QW D vwCl none (wM cI cZ cJ ad x_thrown x_buffered x_given x_isFolding x_work x_rebuilt x_streamed x_reports x_gapFrom x_gapSize x_elements x_wholeSize x_isLaid x_takenMany a_buffer a_length a_bytes a_weight a_live a_size a_list a_moved a_planned a_stream a_reportedEnd a_reportedKeyword y_a_starts y_a_keywordAt a_element a_long1 a_head a_tail a_next a_skip a_last a_whole a_edges y_a_covers y_a_weighs y_a_numbers y_a_takes a_takenAt) (va_A (wM cI cZ cJ ad x_thrown x_buffered x_given x_isFolding x_work x_rebuilt x_streamed x_reports x_gapFrom x_gapSize x_elements x_wholeSize x_isLaid x_takenMany a_buffer a_length a_bytes a_weight a_live a_size a_list a_moved a_planned a_stream a_reportedEnd a_reportedKeyword a_starts a_keywordAt a_element a_long1 a_head a_tail a_next a_skip a_last a_whole a_edges a_covers a_weighs a_numbers a_takes a_takenAt) sz)) 0 0 (va_A (wM cI cZ cJ ad x_thrown x_buffered x_given x_isFolding x_work x_rebuilt x_streamed x_reports x_gapFrom x_gapSize x_elements x_wholeSize x_isLaid x_takenMany a_buffer a_length a_bytes a_weight a_live a_size a_list a_moved a_planned a_stream a_reportedEnd a_reportedKeyword a_starts a_keywordAt a_element a_long1 a_head a_tail a_next a_skip a_last a_whole a_edges a_covers a_weighs a_numbers a_takes a_takenAt) sz) := by
  refine Met.ofW (cc := cX8_laysCover) (maxL := 5) (ret := none) (by decide) rfl ?_
  intro p e s m args below meth c s₁ B hml hv
  obtain ⟨hav, hsz, hP, hK, hD0⟩ := hv
  have hx := B.exec
  have hb := B.bytes
  have hr := B.returns
  have hts := atoms_spec (ws := wsX8_laysCover) B.pre
  have hown : s.vm.findClass RX8 = some m.cls := findClass_of_methodNamed B.named
  have hlk := B.notSynchronized
  have hf84 : (Cond.fieldLink RX8 84 "KeywordMatcherModel" "covers" "[I").before args s = true := hts _ (List.mem_of_getElem? (i := 1) rfl)
  have hiX8 : ∀ w ∈ wsX80, w ∈ wsX8_laysCover := fun w h => List.mem_cons_of_mem _ (List.mem_append_right _ h)
  have hf170 : (Cond.fieldLink RX8 170 "KeywordMatcherModel" "streamed" "I").before args s = true := hts _ (List.mem_of_getElem? (i := 2) rfl)
  have hf87 : (Cond.fieldLink RX8 87 "KeywordMatcherModel" "weighs" "[I").before args s = true := hts _ (List.mem_of_getElem? (i := 3) rfl)
  have hf90 : (Cond.fieldLink RX8 90 "KeywordMatcherModel" "numbers" "[I").before args s = true := hts _ (List.mem_of_getElem? (i := 4) rfl)
  have hf93 : (Cond.fieldLink RX8 93 "KeywordMatcherModel" "takes" "[I").before args s = true := hts _ (List.mem_of_getElem? (i := 5) rfl)
  have hf102 : (Cond.fieldLink RX8 102 "KeywordMatcherModel" "given" "I").before args s = true := hts _ (List.mem_of_getElem? (i := 6) rfl)
  have hf26 : (Cond.fieldLink RX8 26 "KeywordMatcherModel" "live" "[Z").before args s = true := hts _ (List.mem_of_getElem? (i := 7) rfl)
  have hf17 : (Cond.fieldLink RX8 17 "KeywordMatcherModel" "length" "[I").before args s = true := hts _ (List.mem_of_getElem? (i := 8) rfl)
  have hf54 : (Cond.fieldLink RX8 54 "KeywordMatcherModel" "keywordAt" "[I").before args s = true := hts _ (List.mem_of_getElem? (i := 9) rfl)
  have hf23 : (Cond.fieldLink RX8 23 "KeywordMatcherModel" "weight" "[I").before args s = true := hts _ (List.mem_of_getElem? (i := 10) rfl)
  subst hsz
  have hD := hD0.self (sz := s.heap.size)
  generalize hAe : va_A (wM cI cZ cJ ad x_thrown x_buffered x_given x_isFolding x_work x_rebuilt x_streamed x_reports x_gapFrom x_gapSize x_elements x_wholeSize x_isLaid x_takenMany a_buffer a_length a_bytes a_weight a_live a_size a_list a_moved a_planned a_stream a_reportedEnd a_reportedKeyword a_starts a_keywordAt a_element a_long1 a_head a_tail a_next a_skip a_last a_whole a_edges a_covers a_weighs a_numbers a_takes a_takenAt) s.heap.size = Az at hD ⊢
  have hA : ∀ q : Nat, s.heap.size ≤ q → Az q := fun q h => by rw [← hAe]; exact Or.inr h
  clear hAe
  have hSz : va_S Az s.heap s.heap [] := va_S.rf
  obtain ⟨wz, hw1⟩ : ∃ z : va_W, z = (wM cI cZ cJ ad x_thrown x_buffered x_given x_isFolding x_work x_rebuilt x_streamed x_reports x_gapFrom x_gapSize x_elements x_wholeSize x_isLaid x_takenMany a_buffer a_length a_bytes a_weight a_live a_size a_list a_moved a_planned a_stream a_reportedEnd a_reportedKeyword y_a_starts y_a_keywordAt a_element a_long1 a_head a_tail a_next a_skip a_last a_whole a_edges y_a_covers y_a_weighs y_a_numbers y_a_takes a_takenAt) := ⟨_, rfl⟩
  rw [← hw1]
  have hl := lv_entry ([.ref (ad 0)]) (n := 5) (Nat.le_of_ble_eq_true rfl)
  rw [show entryFrame m args 5 = entryFrame m ([.ref (ad 0)] : List Value).toArray 5 from by rw [hav], lg_entry_eq]
  generalize (lg_sl ([.ref (ad 0)]) ++ List.replicate (5 - (lg_sl ([.ref (ad 0)])).length) Slot.unset).toArray = ls at hl ⊢
  have hl : lv_has ls 5 [(0, .ref (ad 0))] := hl
  unfold s_X8_laysCover at hs
  have Lz96 : ∀ (fu : Nat) (a_starts : (Int → Int)) (a_keywordAt : (Int → Int)) (a_covers : (Int → Int)) (a_weighs : (Int → Int)) (a_numbers : (Int → Int)) (a_takes : (Int → Int)) (l1 : Int) (l2 : Int) (y0 : (Int → Int)) (y1 : (Int → Int)) (y2 : (Int → Int)) (y3 : (Int → Int)), s_X8_laysCover_96 fu x_given a_length a_weight a_live a_starts a_keywordAt a_covers a_weighs a_numbers a_takes l1 l2 = some (y0, y1, y2, y3) → ∀ (Hz : Heap) (lz : List Loc), va_P D vwCl (wM cI cZ cJ ad x_thrown x_buffered x_given x_isFolding x_work x_rebuilt x_streamed x_reports x_gapFrom x_gapSize x_elements x_wholeSize x_isLaid x_takenMany a_buffer a_length a_bytes a_weight a_live a_size a_list a_moved a_planned a_stream a_reportedEnd a_reportedKeyword a_starts a_keywordAt a_element a_long1 a_head a_tail a_next a_skip a_last a_whole a_edges a_covers a_weighs a_numbers a_takes a_takenAt) Hz → va_D Az (wM cI cZ cJ ad x_thrown x_buffered x_given x_isFolding x_work x_rebuilt x_streamed x_reports x_gapFrom x_gapSize x_elements x_wholeSize x_isLaid x_takenMany a_buffer a_length a_bytes a_weight a_live a_size a_list a_moved a_planned a_stream a_reportedEnd a_reportedKeyword a_starts a_keywordAt a_element a_long1 a_head a_tail a_next a_skip a_last a_whole a_edges a_covers a_weighs a_numbers a_takes a_takenAt) → va_S Az s.heap Hz lz → ∀ ls : Array Slot, lv_has ls 5 [(0, .ref (ad 0)), (1, .int (iI l1)), (2, .int (iI l2))] → (∀ (Hz : Heap) (lz : List Loc), va_P D vwCl (wM cI cZ cJ ad x_thrown x_buffered x_given x_isFolding x_work x_rebuilt x_streamed x_reports x_gapFrom x_gapSize x_elements x_wholeSize x_isLaid x_takenMany a_buffer a_length a_bytes a_weight a_live a_size a_list a_moved a_planned a_stream a_reportedEnd a_reportedKeyword a_starts a_keywordAt a_element a_long1 a_head a_tail a_next a_skip a_last a_whole a_edges y0 y1 y2 y3 a_takenAt) Hz → va_D Az (wM cI cZ cJ ad x_thrown x_buffered x_given x_isFolding x_work x_rebuilt x_streamed x_reports x_gapFrom x_gapSize x_elements x_wholeSize x_isLaid x_takenMany a_buffer a_length a_bytes a_weight a_live a_size a_list a_moved a_planned a_stream a_reportedEnd a_reportedKeyword a_starts a_keywordAt a_element a_long1 a_head a_tail a_next a_skip a_last a_whole a_edges y0 y1 y2 y3 a_takenAt) → va_S Az s.heap Hz lz → ∀ ls : Array Slot, lv_has ls 5 [(0, .ref (ad 0)), (1, .int (iI l1))] → W p l e (headSpec wsX8_laysCover rm_X8_laysCover).room s m args below meth c Hz lz 0 0 (MQ below (QW D vwCl none wz Az) args s 0 0 Az) (F0 m 256 ls [])) → W p l e (headSpec wsX8_laysCover rm_X8_laysCover).room s m args below meth c Hz lz 0 0 (MQ below (QW D vwCl none wz Az) args s 0 0 Az) (F0 m 96 ls []) := by
    intro fu
    induction fu with
    | zero => intro a_starts a_keywordAt a_covers a_weighs a_numbers a_takes l1 l2 y0 y1 y2 y3 hs; cases hs
    | succ fu ih =>
      intro a_starts a_keywordAt a_covers a_weighs a_numbers a_takes l1 l2 y0 y1 y2 y3 hs Hz lz hP hD hSz ls hl kx
      rw [s_X8_laysCover_96_s] at hs
      refine lv_iload_n hx hb dX8_laysCover_96 rfl (lv_at hl 2 rfl) ?_
      refine lv_aload_n hx hb dX8_laysCover_97 rfl (lv_at hl 0 rfl) ?_
      refine va_get (ci := 8) (v := .int (iI x_given)) (C := RX8) (T := TX8) (N := 42) hx hb hts hiX8 hown hK hP 0 rfl rfl 7 (by decide) hf102 (fun _ h9 => h9) rfl dX8_laysCover_98 ?_
      refine k_icmp_ge (tgt := 256) hx hb hs dX8_laysCover_101 (by decide) (fun hs => ?_) (fun hs => ?_)
      · refine lv_aload_n hx hb dX8_laysCover_104 rfl (lv_at hl 0 rfl) ?_
        refine va_get (ci := 8) (v := .ref (ad 5)) (C := RX8) (T := TX8) (N := 42) hx hb hts hiX8 hown hK hP 0 rfl rfl 6 (by decide) hf26 (fun _ h9 => h9) rfl dX8_laysCover_105 ?_
        refine lv_iload_n hx hb dX8_laysCover_108 rfl (lv_at hl 2 rfl) ?_
        refine k_zald hx hb hK hP 5 1 rfl rfl (Nat.le_of_ble_eq_true rfl) hs dX8_laysCover_109 (fun vz6 hs => ?_)
        refine k_if_eq (tgt := 250) hx hb hs dX8_laysCover_110 (by decide) (fun hs => ?_) (fun hs => ?_)
        · refine k_iinc (x := l2) (k := 2) (lv' := [(2, .int (iI (l2 + 1))), (0, .ref (ad 0)), (1, .int (iI l1))]) hx hb dX8_laysCover_250 hl rfl (by decide) rfl (fun ls hl => ?_)
          refine lv_goto (tgt := 96) hx hb dX8_laysCover_253 (by decide) ?_
          exact ih a_starts a_keywordAt a_covers a_weighs a_numbers a_takes l1 (l2 + 1) y0 y1 y2 y3 hs Hz lz hP hD hSz ls (lv_sub hl [1, 2, 0] rfl) kx
        · refine lv_aload_n hx hb dX8_laysCover_113 rfl (lv_at hl 0 rfl) ?_
          refine lv_iload_n hx hb dX8_laysCover_114 rfl (lv_at hl 1 rfl) ?_
          refine lv_aload_n hx hb dX8_laysCover_115 rfl (lv_at hl 0 rfl) ?_
          refine va_get (ci := 8) (v := .ref (ad 2)) (C := RX8) (T := TX8) (N := 42) hx hb hts hiX8 hown hK hP 0 rfl rfl 3 (by decide) hf17 (fun _ h9 => h9) rfl dX8_laysCover_116 ?_
          refine lv_iload_n hx hb dX8_laysCover_119 rfl (lv_at hl 2 rfl) ?_
          refine k_iald hx hb hK hP 2 0 rfl rfl (Nat.le_of_ble_eq_true rfl) hs dX8_laysCover_120 (fun vz7 hs => ?_)
          obtain ⟨vz8, hcz, hs⟩ := bd1_some hs
          refine k_rV (As := [.int (iI l1), .int (iI vz7)]) (rest := []) (st1 := [.int (iI vz8)]) ⟨hx, hb, hml, hown, hts⟩ hK hP (c_X8_hasAt l D cI cZ cJ hcz) (cwV 2 hts gX8_laysCover_X8_hasAt rfl rfl rfl (by decide +kernel) ⟨Nat.le_of_ble_eq_true rfl, Nat.le_of_ble_eq_true rfl⟩) 0 rfl rfl rfl rfl hl.1 rfl (lv_room (Nat.le_of_ble_eq_true rfl)) dX8_laysCover_121 ⟨Nat.zero_le _, Nat.zero_le _⟩ rfl ?_
          refine k_if_eq (tgt := 250) hx hb hs dX8_laysCover_124 (by decide) (fun hs => ?_) (fun hs => ?_)
          · refine k_iinc (x := l2) (k := 2) (lv' := [(2, .int (iI (l2 + 1))), (0, .ref (ad 0)), (1, .int (iI l1))]) hx hb dX8_laysCover_250 hl rfl (by decide) rfl (fun ls hl => ?_)
            refine lv_goto (tgt := 96) hx hb dX8_laysCover_253 (by decide) ?_
            exact ih a_starts a_keywordAt a_covers a_weighs a_numbers a_takes l1 (l2 + 1) y0 y1 y2 y3 hs Hz lz hP hD hSz ls (lv_sub hl [1, 2, 0] rfl) kx
          · refine lv_aload_n hx hb dX8_laysCover_127 rfl (lv_at hl 0 rfl) ?_
            refine va_get (ci := 8) (v := .ref (ad 14)) (C := RX8) (T := TX8) (N := 42) hx hb hts hiX8 hown hK hP 0 rfl rfl 21 (by decide) hf54 (fun _ h9 => h9) rfl dX8_laysCover_128 ?_
            refine k_bipush (n := 17) hx hb (by decide) dX8_laysCover_131 ?_
            refine lv_iload_n hx hb dX8_laysCover_133 rfl (lv_at hl 1 rfl) ?_
            refine k_imul hx hb dX8_laysCover_134 ?_
            refine lv_aload_n hx hb dX8_laysCover_135 rfl (lv_at hl 0 rfl) ?_
            refine va_get (ci := 8) (v := .ref (ad 2)) (C := RX8) (T := TX8) (N := 42) hx hb hts hiX8 hown hK hP 0 rfl rfl 3 (by decide) hf17 (fun _ h9 => h9) rfl dX8_laysCover_136 ?_
            refine lv_iload_n hx hb dX8_laysCover_139 rfl (lv_at hl 2 rfl) ?_
            refine k_iald hx hb hK hP 2 0 rfl rfl (Nat.le_of_ble_eq_true rfl) hs dX8_laysCover_140 (fun vz9 hs => ?_)
            refine k_iadd hx hb dX8_laysCover_141 ?_
            refine k_iald hx hb hK hP 14 0 rfl rfl (Nat.le_of_ble_eq_true rfl) hs dX8_laysCover_142 (fun vz10 hs => ?_)
            refine lv_iload_n hx hb dX8_laysCover_143 rfl (lv_at hl 2 rfl) ?_
            refine k_icmp_eq (tgt := 150) hx hb hs dX8_laysCover_144 (by decide) (fun hs => ?_) (fun hs => ?_)
            · refine lv_aload_n hx hb dX8_laysCover_150 rfl (lv_at hl 0 rfl) ?_
              refine lv_iload_n hx hb dX8_laysCover_151 rfl (lv_at hl 1 rfl) ?_
              refine lv_iload_n hx hb dX8_laysCover_152 rfl (lv_at hl 2 rfl) ?_
              obtain ⟨vz11, hcz, hs⟩ := bd1_some hs
              refine k_rV (As := [.int (iI l1), .int (iI l2)]) (rest := []) (st1 := [.int (iI vz11)]) ⟨hx, hb, hml, hown, hts⟩ hK hP (c_X8_better l D cI cZ cJ hcz) (cwV 2 hts gX8_laysCover_X8_better rfl rfl rfl (by decide +kernel) ⟨Nat.le_of_ble_eq_true rfl, Nat.le_of_ble_eq_true rfl⟩) 0 rfl rfl rfl rfl hl.1 rfl (lv_room (Nat.le_of_ble_eq_true rfl)) dX8_laysCover_153 ⟨Nat.zero_le _, Nat.zero_le _⟩ rfl ?_
              refine lv_istore_n (lv' := [(3, .int (iI vz11)), (0, .ref (ad 0)), (1, .int (iI l1)), (2, .int (iI l2))]) hx hb dX8_laysCover_156 rfl hl (by decide) rfl (fun ls hl => ?_)
              refine lv_iload_n hx hb dX8_laysCover_157 rfl (lv_at hl 0 rfl) ?_
              refine k_if_lt (tgt := 250) hx hb hs dX8_laysCover_158 (by decide) (fun hs => ?_) (fun hs => ?_)
              · refine k_iinc (x := l2) (k := 3) (lv' := [(2, .int (iI (l2 + 1))), (3, .int (iI vz11)), (0, .ref (ad 0)), (1, .int (iI l1))]) hx hb dX8_laysCover_250 hl rfl (by decide) rfl (fun ls hl => ?_)
                refine lv_goto (tgt := 96) hx hb dX8_laysCover_253 (by decide) ?_
                exact ih a_starts a_keywordAt a_covers a_weighs a_numbers a_takes l1 (l2 + 1) y0 y1 y2 y3 hs Hz lz hP hD hSz ls (lv_sub hl [2, 3, 0] rfl) kx
              · refine lv_iload_n hx hb dX8_laysCover_161 rfl (lv_at hl 0 rfl) ?_
                refine k_if_ne (tgt := 178) hx hb hs dX8_laysCover_162 (by decide) (fun hs => ?_) (fun hs => ?_)
                · refine lv_aload_n hx hb dX8_laysCover_165 rfl (lv_at hl 1 rfl) ?_
                  refine va_get (ci := 8) (v := .ref (ad 27)) (C := RX8) (T := TX8) (N := 42) hx hb hts hiX8 hown hK hP 0 rfl rfl 39 (by decide) hf93 (fun _ h9 => h9) rfl dX8_laysCover_166 ?_
                  refine lv_iload_n hx hb dX8_laysCover_169 rfl (lv_at hl 2 rfl) ?_
                  refine k_iald hx hb hK hP 27 0 rfl rfl (Nat.le_of_ble_eq_true rfl) hs dX8_laysCover_170 (fun vz12 hs => ?_)
                  refine k_iconst (n := (-1)) hx hb dX8_laysCover_171 ?_
                  refine k_icmp_eq (tgt := 178) hx hb hs dX8_laysCover_172 (by decide) (fun hs => ?_) (fun hs => ?_)
                  · refine lv_aload_n hx hb dX8_laysCover_178 rfl (lv_at hl 1 rfl) ?_
                    refine va_get (ci := 8) (v := .ref (ad 27)) (C := RX8) (T := TX8) (N := 42) hx hb hts hiX8 hown hK hP 0 rfl rfl 39 (by decide) hf93 (fun _ h9 => h9) rfl dX8_laysCover_179 ?_
                    refine lv_iload_n hx hb dX8_laysCover_182 rfl (lv_at hl 2 rfl) ?_
                    refine lv_iload_n hx hb dX8_laysCover_183 rfl (lv_at hl 3 rfl) ?_
                    refine k_iast hx hb hK hP hD hSz 27 0 rfl rfl (Nat.le_of_ble_eq_true rfl) hs dX8_laysCover_184 (fun Hz lz hP hD hSz hs => ?_)
                    have hP : va_P D vwCl (wM cI cZ cJ ad x_thrown x_buffered x_given x_isFolding x_work x_rebuilt x_streamed x_reports x_gapFrom x_gapSize x_elements x_wholeSize x_isLaid x_takenMany a_buffer a_length a_bytes a_weight a_live a_size a_list a_moved a_planned a_stream a_reportedEnd a_reportedKeyword a_starts a_keywordAt a_element a_long1 a_head a_tail a_next a_skip a_last a_whole a_edges a_covers a_weighs a_numbers (upA a_takes l1 l2) a_takenAt) Hz := hP
                    have hD : va_D Az (wM cI cZ cJ ad x_thrown x_buffered x_given x_isFolding x_work x_rebuilt x_streamed x_reports x_gapFrom x_gapSize x_elements x_wholeSize x_isLaid x_takenMany a_buffer a_length a_bytes a_weight a_live a_size a_list a_moved a_planned a_stream a_reportedEnd a_reportedKeyword a_starts a_keywordAt a_element a_long1 a_head a_tail a_next a_skip a_last a_whole a_edges a_covers a_weighs a_numbers (upA a_takes l1 l2) a_takenAt) := hD
                    refine lv_iload_n hx hb dX8_laysCover_185 rfl (lv_at hl 2 rfl) ?_
                    refine lv_aload_n hx hb dX8_laysCover_186 rfl (lv_at hl 1 rfl) ?_
                    refine va_get (ci := 8) (v := .ref (ad 2)) (C := RX8) (T := TX8) (N := 42) hx hb hts hiX8 hown hK hP 0 rfl rfl 3 (by decide) hf17 (fun _ h9 => h9) rfl dX8_laysCover_187 ?_
                    refine lv_iload_n hx hb dX8_laysCover_190 rfl (lv_at hl 3 rfl) ?_
                    refine k_iald hx hb hK hP 2 0 rfl rfl (Nat.le_of_ble_eq_true rfl) hs dX8_laysCover_191 (fun vz13 hs => ?_)
                    refine k_iadd hx hb dX8_laysCover_192 ?_
                    refine lv_istore (lv' := [(4, .int (iI (l1 + vz13))), (3, .int (iI vz11)), (0, .ref (ad 0)), (1, .int (iI l1)), (2, .int (iI l2))]) hx hb dX8_laysCover_193 hl (by decide) rfl (fun ls hl => ?_)
                    refine lv_aload_n hx hb dX8_laysCover_195 rfl (lv_at hl 2 rfl) ?_
                    refine va_get (ci := 8) (v := .ref (ad 24)) (C := RX8) (T := TX8) (N := 42) hx hb hts hiX8 hown hK hP 0 rfl rfl 36 (by decide) hf84 (fun _ h9 => h9) rfl dX8_laysCover_196 ?_
                    refine lv_iload_n hx hb dX8_laysCover_199 rfl (lv_at hl 3 rfl) ?_
                    refine lv_aload_n hx hb dX8_laysCover_200 rfl (lv_at hl 2 rfl) ?_
                    refine va_get (ci := 8) (v := .ref (ad 24)) (C := RX8) (T := TX8) (N := 42) hx hb hts hiX8 hown hK hP 0 rfl rfl 36 (by decide) hf84 (fun _ h9 => h9) rfl dX8_laysCover_201 ?_
                    refine lv_iload hx hb dX8_laysCover_204 (lv_at hl 0 rfl) ?_
                    refine k_iald hx hb hK hP 24 0 rfl rfl (Nat.le_of_ble_eq_true rfl) hs dX8_laysCover_206 (fun vz14 hs => ?_)
                    refine lv_aload_n hx hb dX8_laysCover_207 rfl (lv_at hl 2 rfl) ?_
                    refine va_get (ci := 8) (v := .ref (ad 2)) (C := RX8) (T := TX8) (N := 42) hx hb hts hiX8 hown hK hP 0 rfl rfl 3 (by decide) hf17 (fun _ h9 => h9) rfl dX8_laysCover_208 ?_
                    refine lv_iload_n hx hb dX8_laysCover_211 rfl (lv_at hl 4 rfl) ?_
                    refine k_iald hx hb hK hP 2 0 rfl rfl (Nat.le_of_ble_eq_true rfl) hs dX8_laysCover_212 (fun vz15 hs => ?_)
                    refine k_iadd hx hb dX8_laysCover_213 ?_
                    refine k_iast hx hb hK hP hD hSz 24 0 rfl rfl (Nat.le_of_ble_eq_true rfl) hs dX8_laysCover_214 (fun Hz lz hP hD hSz hs => ?_)
                    have hP : va_P D vwCl (wM cI cZ cJ ad x_thrown x_buffered x_given x_isFolding x_work x_rebuilt x_streamed x_reports x_gapFrom x_gapSize x_elements x_wholeSize x_isLaid x_takenMany a_buffer a_length a_bytes a_weight a_live a_size a_list a_moved a_planned a_stream a_reportedEnd a_reportedKeyword a_starts a_keywordAt a_element a_long1 a_head a_tail a_next a_skip a_last a_whole a_edges (upA a_covers l1 (vz14 + vz15)) a_weighs a_numbers (upA a_takes l1 l2) a_takenAt) Hz := hP
                    have hD : va_D Az (wM cI cZ cJ ad x_thrown x_buffered x_given x_isFolding x_work x_rebuilt x_streamed x_reports x_gapFrom x_gapSize x_elements x_wholeSize x_isLaid x_takenMany a_buffer a_length a_bytes a_weight a_live a_size a_list a_moved a_planned a_stream a_reportedEnd a_reportedKeyword a_starts a_keywordAt a_element a_long1 a_head a_tail a_next a_skip a_last a_whole a_edges (upA a_covers l1 (vz14 + vz15)) a_weighs a_numbers (upA a_takes l1 l2) a_takenAt) := hD
                    refine lv_aload_n hx hb dX8_laysCover_215 rfl (lv_at hl 2 rfl) ?_
                    refine va_get (ci := 8) (v := .ref (ad 25)) (C := RX8) (T := TX8) (N := 42) hx hb hts hiX8 hown hK hP 0 rfl rfl 37 (by decide) hf87 (fun _ h9 => h9) rfl dX8_laysCover_216 ?_
                    refine lv_iload_n hx hb dX8_laysCover_219 rfl (lv_at hl 3 rfl) ?_
                    refine lv_aload_n hx hb dX8_laysCover_220 rfl (lv_at hl 2 rfl) ?_
                    refine va_get (ci := 8) (v := .ref (ad 25)) (C := RX8) (T := TX8) (N := 42) hx hb hts hiX8 hown hK hP 0 rfl rfl 37 (by decide) hf87 (fun _ h9 => h9) rfl dX8_laysCover_221 ?_
                    refine lv_iload hx hb dX8_laysCover_224 (lv_at hl 0 rfl) ?_
                    refine k_iald hx hb hK hP 25 0 rfl rfl (Nat.le_of_ble_eq_true rfl) hs dX8_laysCover_226 (fun vz16 hs => ?_)
                    refine lv_aload_n hx hb dX8_laysCover_227 rfl (lv_at hl 2 rfl) ?_
                    refine va_get (ci := 8) (v := .ref (ad 4)) (C := RX8) (T := TX8) (N := 42) hx hb hts hiX8 hown hK hP 0 rfl rfl 5 (by decide) hf23 (fun _ h9 => h9) rfl dX8_laysCover_228 ?_
                    refine lv_iload_n hx hb dX8_laysCover_231 rfl (lv_at hl 4 rfl) ?_
                    refine k_iald hx hb hK hP 4 0 rfl rfl (Nat.le_of_ble_eq_true rfl) hs dX8_laysCover_232 (fun vz17 hs => ?_)
                    refine k_iadd hx hb dX8_laysCover_233 ?_
                    refine k_iast hx hb hK hP hD hSz 25 0 rfl rfl (Nat.le_of_ble_eq_true rfl) hs dX8_laysCover_234 (fun Hz lz hP hD hSz hs => ?_)
                    have hP : va_P D vwCl (wM cI cZ cJ ad x_thrown x_buffered x_given x_isFolding x_work x_rebuilt x_streamed x_reports x_gapFrom x_gapSize x_elements x_wholeSize x_isLaid x_takenMany a_buffer a_length a_bytes a_weight a_live a_size a_list a_moved a_planned a_stream a_reportedEnd a_reportedKeyword a_starts a_keywordAt a_element a_long1 a_head a_tail a_next a_skip a_last a_whole a_edges (upA a_covers l1 (vz14 + vz15)) (upA a_weighs l1 (vz16 + vz17)) a_numbers (upA a_takes l1 l2) a_takenAt) Hz := hP
                    have hD : va_D Az (wM cI cZ cJ ad x_thrown x_buffered x_given x_isFolding x_work x_rebuilt x_streamed x_reports x_gapFrom x_gapSize x_elements x_wholeSize x_isLaid x_takenMany a_buffer a_length a_bytes a_weight a_live a_size a_list a_moved a_planned a_stream a_reportedEnd a_reportedKeyword a_starts a_keywordAt a_element a_long1 a_head a_tail a_next a_skip a_last a_whole a_edges (upA a_covers l1 (vz14 + vz15)) (upA a_weighs l1 (vz16 + vz17)) a_numbers (upA a_takes l1 l2) a_takenAt) := hD
                    refine lv_aload_n hx hb dX8_laysCover_235 rfl (lv_at hl 2 rfl) ?_
                    refine va_get (ci := 8) (v := .ref (ad 26)) (C := RX8) (T := TX8) (N := 42) hx hb hts hiX8 hown hK hP 0 rfl rfl 38 (by decide) hf90 (fun _ h9 => h9) rfl dX8_laysCover_236 ?_
                    refine lv_iload_n hx hb dX8_laysCover_239 rfl (lv_at hl 3 rfl) ?_
                    refine lv_aload_n hx hb dX8_laysCover_240 rfl (lv_at hl 2 rfl) ?_
                    refine va_get (ci := 8) (v := .ref (ad 26)) (C := RX8) (T := TX8) (N := 42) hx hb hts hiX8 hown hK hP 0 rfl rfl 38 (by decide) hf90 (fun _ h9 => h9) rfl dX8_laysCover_241 ?_
                    refine lv_iload hx hb dX8_laysCover_244 (lv_at hl 0 rfl) ?_
                    refine k_iald hx hb hK hP 26 0 rfl rfl (Nat.le_of_ble_eq_true rfl) hs dX8_laysCover_246 (fun vz18 hs => ?_)
                    refine k_iconst (n := 1) hx hb dX8_laysCover_247 ?_
                    refine k_iadd hx hb dX8_laysCover_248 ?_
                    refine k_iast hx hb hK hP hD hSz 26 0 rfl rfl (Nat.le_of_ble_eq_true rfl) hs dX8_laysCover_249 (fun Hz lz hP hD hSz hs => ?_)
                    have hP : va_P D vwCl (wM cI cZ cJ ad x_thrown x_buffered x_given x_isFolding x_work x_rebuilt x_streamed x_reports x_gapFrom x_gapSize x_elements x_wholeSize x_isLaid x_takenMany a_buffer a_length a_bytes a_weight a_live a_size a_list a_moved a_planned a_stream a_reportedEnd a_reportedKeyword a_starts a_keywordAt a_element a_long1 a_head a_tail a_next a_skip a_last a_whole a_edges (upA a_covers l1 (vz14 + vz15)) (upA a_weighs l1 (vz16 + vz17)) (upA a_numbers l1 (vz18 + 1)) (upA a_takes l1 l2) a_takenAt) Hz := hP
                    have hD : va_D Az (wM cI cZ cJ ad x_thrown x_buffered x_given x_isFolding x_work x_rebuilt x_streamed x_reports x_gapFrom x_gapSize x_elements x_wholeSize x_isLaid x_takenMany a_buffer a_length a_bytes a_weight a_live a_size a_list a_moved a_planned a_stream a_reportedEnd a_reportedKeyword a_starts a_keywordAt a_element a_long1 a_head a_tail a_next a_skip a_last a_whole a_edges (upA a_covers l1 (vz14 + vz15)) (upA a_weighs l1 (vz16 + vz17)) (upA a_numbers l1 (vz18 + 1)) (upA a_takes l1 l2) a_takenAt) := hD
                    refine k_iinc (x := l2) (k := 4) (lv' := [(2, .int (iI (l2 + 1))), (4, .int (iI (l1 + vz13))), (3, .int (iI vz11)), (0, .ref (ad 0)), (1, .int (iI l1))]) hx hb dX8_laysCover_250 hl rfl (by decide) rfl (fun ls hl => ?_)
                    refine lv_goto (tgt := 96) hx hb dX8_laysCover_253 (by decide) ?_
                    exact ih a_starts a_keywordAt (upA a_covers l1 (vz14 + vz15)) (upA a_weighs l1 (vz16 + vz17)) (upA a_numbers l1 (vz18 + 1)) (upA a_takes l1 l2) l1 (l2 + 1) y0 y1 y2 y3 hs Hz lz hP hD hSz ls (lv_sub hl [3, 4, 0] rfl) kx
                  · refine lv_goto (tgt := 250) hx hb dX8_laysCover_175 (by decide) ?_
                    refine k_iinc (x := l2) (k := 3) (lv' := [(2, .int (iI (l2 + 1))), (3, .int (iI vz11)), (0, .ref (ad 0)), (1, .int (iI l1))]) hx hb dX8_laysCover_250 hl rfl (by decide) rfl (fun ls hl => ?_)
                    refine lv_goto (tgt := 96) hx hb dX8_laysCover_253 (by decide) ?_
                    exact ih a_starts a_keywordAt a_covers a_weighs a_numbers a_takes l1 (l2 + 1) y0 y1 y2 y3 hs Hz lz hP hD hSz ls (lv_sub hl [2, 3, 0] rfl) kx
                · refine lv_aload_n hx hb dX8_laysCover_178 rfl (lv_at hl 1 rfl) ?_
                  refine va_get (ci := 8) (v := .ref (ad 27)) (C := RX8) (T := TX8) (N := 42) hx hb hts hiX8 hown hK hP 0 rfl rfl 39 (by decide) hf93 (fun _ h9 => h9) rfl dX8_laysCover_179 ?_
                  refine lv_iload_n hx hb dX8_laysCover_182 rfl (lv_at hl 2 rfl) ?_
                  refine lv_iload_n hx hb dX8_laysCover_183 rfl (lv_at hl 3 rfl) ?_
                  refine k_iast hx hb hK hP hD hSz 27 0 rfl rfl (Nat.le_of_ble_eq_true rfl) hs dX8_laysCover_184 (fun Hz lz hP hD hSz hs => ?_)
                  have hP : va_P D vwCl (wM cI cZ cJ ad x_thrown x_buffered x_given x_isFolding x_work x_rebuilt x_streamed x_reports x_gapFrom x_gapSize x_elements x_wholeSize x_isLaid x_takenMany a_buffer a_length a_bytes a_weight a_live a_size a_list a_moved a_planned a_stream a_reportedEnd a_reportedKeyword a_starts a_keywordAt a_element a_long1 a_head a_tail a_next a_skip a_last a_whole a_edges a_covers a_weighs a_numbers (upA a_takes l1 l2) a_takenAt) Hz := hP
                  have hD : va_D Az (wM cI cZ cJ ad x_thrown x_buffered x_given x_isFolding x_work x_rebuilt x_streamed x_reports x_gapFrom x_gapSize x_elements x_wholeSize x_isLaid x_takenMany a_buffer a_length a_bytes a_weight a_live a_size a_list a_moved a_planned a_stream a_reportedEnd a_reportedKeyword a_starts a_keywordAt a_element a_long1 a_head a_tail a_next a_skip a_last a_whole a_edges a_covers a_weighs a_numbers (upA a_takes l1 l2) a_takenAt) := hD
                  refine lv_iload_n hx hb dX8_laysCover_185 rfl (lv_at hl 2 rfl) ?_
                  refine lv_aload_n hx hb dX8_laysCover_186 rfl (lv_at hl 1 rfl) ?_
                  refine va_get (ci := 8) (v := .ref (ad 2)) (C := RX8) (T := TX8) (N := 42) hx hb hts hiX8 hown hK hP 0 rfl rfl 3 (by decide) hf17 (fun _ h9 => h9) rfl dX8_laysCover_187 ?_
                  refine lv_iload_n hx hb dX8_laysCover_190 rfl (lv_at hl 3 rfl) ?_
                  refine k_iald hx hb hK hP 2 0 rfl rfl (Nat.le_of_ble_eq_true rfl) hs dX8_laysCover_191 (fun vz19 hs => ?_)
                  refine k_iadd hx hb dX8_laysCover_192 ?_
                  refine lv_istore (lv' := [(4, .int (iI (l1 + vz19))), (3, .int (iI vz11)), (0, .ref (ad 0)), (1, .int (iI l1)), (2, .int (iI l2))]) hx hb dX8_laysCover_193 hl (by decide) rfl (fun ls hl => ?_)
                  refine lv_aload_n hx hb dX8_laysCover_195 rfl (lv_at hl 2 rfl) ?_
                  refine va_get (ci := 8) (v := .ref (ad 24)) (C := RX8) (T := TX8) (N := 42) hx hb hts hiX8 hown hK hP 0 rfl rfl 36 (by decide) hf84 (fun _ h9 => h9) rfl dX8_laysCover_196 ?_
                  refine lv_iload_n hx hb dX8_laysCover_199 rfl (lv_at hl 3 rfl) ?_
                  refine lv_aload_n hx hb dX8_laysCover_200 rfl (lv_at hl 2 rfl) ?_
                  refine va_get (ci := 8) (v := .ref (ad 24)) (C := RX8) (T := TX8) (N := 42) hx hb hts hiX8 hown hK hP 0 rfl rfl 36 (by decide) hf84 (fun _ h9 => h9) rfl dX8_laysCover_201 ?_
                  refine lv_iload hx hb dX8_laysCover_204 (lv_at hl 0 rfl) ?_
                  refine k_iald hx hb hK hP 24 0 rfl rfl (Nat.le_of_ble_eq_true rfl) hs dX8_laysCover_206 (fun vz20 hs => ?_)
                  refine lv_aload_n hx hb dX8_laysCover_207 rfl (lv_at hl 2 rfl) ?_
                  refine va_get (ci := 8) (v := .ref (ad 2)) (C := RX8) (T := TX8) (N := 42) hx hb hts hiX8 hown hK hP 0 rfl rfl 3 (by decide) hf17 (fun _ h9 => h9) rfl dX8_laysCover_208 ?_
                  refine lv_iload_n hx hb dX8_laysCover_211 rfl (lv_at hl 4 rfl) ?_
                  refine k_iald hx hb hK hP 2 0 rfl rfl (Nat.le_of_ble_eq_true rfl) hs dX8_laysCover_212 (fun vz21 hs => ?_)
                  refine k_iadd hx hb dX8_laysCover_213 ?_
                  refine k_iast hx hb hK hP hD hSz 24 0 rfl rfl (Nat.le_of_ble_eq_true rfl) hs dX8_laysCover_214 (fun Hz lz hP hD hSz hs => ?_)
                  have hP : va_P D vwCl (wM cI cZ cJ ad x_thrown x_buffered x_given x_isFolding x_work x_rebuilt x_streamed x_reports x_gapFrom x_gapSize x_elements x_wholeSize x_isLaid x_takenMany a_buffer a_length a_bytes a_weight a_live a_size a_list a_moved a_planned a_stream a_reportedEnd a_reportedKeyword a_starts a_keywordAt a_element a_long1 a_head a_tail a_next a_skip a_last a_whole a_edges (upA a_covers l1 (vz20 + vz21)) a_weighs a_numbers (upA a_takes l1 l2) a_takenAt) Hz := hP
                  have hD : va_D Az (wM cI cZ cJ ad x_thrown x_buffered x_given x_isFolding x_work x_rebuilt x_streamed x_reports x_gapFrom x_gapSize x_elements x_wholeSize x_isLaid x_takenMany a_buffer a_length a_bytes a_weight a_live a_size a_list a_moved a_planned a_stream a_reportedEnd a_reportedKeyword a_starts a_keywordAt a_element a_long1 a_head a_tail a_next a_skip a_last a_whole a_edges (upA a_covers l1 (vz20 + vz21)) a_weighs a_numbers (upA a_takes l1 l2) a_takenAt) := hD
                  refine lv_aload_n hx hb dX8_laysCover_215 rfl (lv_at hl 2 rfl) ?_
                  refine va_get (ci := 8) (v := .ref (ad 25)) (C := RX8) (T := TX8) (N := 42) hx hb hts hiX8 hown hK hP 0 rfl rfl 37 (by decide) hf87 (fun _ h9 => h9) rfl dX8_laysCover_216 ?_
                  refine lv_iload_n hx hb dX8_laysCover_219 rfl (lv_at hl 3 rfl) ?_
                  refine lv_aload_n hx hb dX8_laysCover_220 rfl (lv_at hl 2 rfl) ?_
                  refine va_get (ci := 8) (v := .ref (ad 25)) (C := RX8) (T := TX8) (N := 42) hx hb hts hiX8 hown hK hP 0 rfl rfl 37 (by decide) hf87 (fun _ h9 => h9) rfl dX8_laysCover_221 ?_
                  refine lv_iload hx hb dX8_laysCover_224 (lv_at hl 0 rfl) ?_
                  refine k_iald hx hb hK hP 25 0 rfl rfl (Nat.le_of_ble_eq_true rfl) hs dX8_laysCover_226 (fun vz22 hs => ?_)
                  refine lv_aload_n hx hb dX8_laysCover_227 rfl (lv_at hl 2 rfl) ?_
                  refine va_get (ci := 8) (v := .ref (ad 4)) (C := RX8) (T := TX8) (N := 42) hx hb hts hiX8 hown hK hP 0 rfl rfl 5 (by decide) hf23 (fun _ h9 => h9) rfl dX8_laysCover_228 ?_
                  refine lv_iload_n hx hb dX8_laysCover_231 rfl (lv_at hl 4 rfl) ?_
                  refine k_iald hx hb hK hP 4 0 rfl rfl (Nat.le_of_ble_eq_true rfl) hs dX8_laysCover_232 (fun vz23 hs => ?_)
                  refine k_iadd hx hb dX8_laysCover_233 ?_
                  refine k_iast hx hb hK hP hD hSz 25 0 rfl rfl (Nat.le_of_ble_eq_true rfl) hs dX8_laysCover_234 (fun Hz lz hP hD hSz hs => ?_)
                  have hP : va_P D vwCl (wM cI cZ cJ ad x_thrown x_buffered x_given x_isFolding x_work x_rebuilt x_streamed x_reports x_gapFrom x_gapSize x_elements x_wholeSize x_isLaid x_takenMany a_buffer a_length a_bytes a_weight a_live a_size a_list a_moved a_planned a_stream a_reportedEnd a_reportedKeyword a_starts a_keywordAt a_element a_long1 a_head a_tail a_next a_skip a_last a_whole a_edges (upA a_covers l1 (vz20 + vz21)) (upA a_weighs l1 (vz22 + vz23)) a_numbers (upA a_takes l1 l2) a_takenAt) Hz := hP
                  have hD : va_D Az (wM cI cZ cJ ad x_thrown x_buffered x_given x_isFolding x_work x_rebuilt x_streamed x_reports x_gapFrom x_gapSize x_elements x_wholeSize x_isLaid x_takenMany a_buffer a_length a_bytes a_weight a_live a_size a_list a_moved a_planned a_stream a_reportedEnd a_reportedKeyword a_starts a_keywordAt a_element a_long1 a_head a_tail a_next a_skip a_last a_whole a_edges (upA a_covers l1 (vz20 + vz21)) (upA a_weighs l1 (vz22 + vz23)) a_numbers (upA a_takes l1 l2) a_takenAt) := hD
                  refine lv_aload_n hx hb dX8_laysCover_235 rfl (lv_at hl 2 rfl) ?_
                  refine va_get (ci := 8) (v := .ref (ad 26)) (C := RX8) (T := TX8) (N := 42) hx hb hts hiX8 hown hK hP 0 rfl rfl 38 (by decide) hf90 (fun _ h9 => h9) rfl dX8_laysCover_236 ?_
                  refine lv_iload_n hx hb dX8_laysCover_239 rfl (lv_at hl 3 rfl) ?_
                  refine lv_aload_n hx hb dX8_laysCover_240 rfl (lv_at hl 2 rfl) ?_
                  refine va_get (ci := 8) (v := .ref (ad 26)) (C := RX8) (T := TX8) (N := 42) hx hb hts hiX8 hown hK hP 0 rfl rfl 38 (by decide) hf90 (fun _ h9 => h9) rfl dX8_laysCover_241 ?_
                  refine lv_iload hx hb dX8_laysCover_244 (lv_at hl 0 rfl) ?_
                  refine k_iald hx hb hK hP 26 0 rfl rfl (Nat.le_of_ble_eq_true rfl) hs dX8_laysCover_246 (fun vz24 hs => ?_)
                  refine k_iconst (n := 1) hx hb dX8_laysCover_247 ?_
                  refine k_iadd hx hb dX8_laysCover_248 ?_
                  refine k_iast hx hb hK hP hD hSz 26 0 rfl rfl (Nat.le_of_ble_eq_true rfl) hs dX8_laysCover_249 (fun Hz lz hP hD hSz hs => ?_)
                  have hP : va_P D vwCl (wM cI cZ cJ ad x_thrown x_buffered x_given x_isFolding x_work x_rebuilt x_streamed x_reports x_gapFrom x_gapSize x_elements x_wholeSize x_isLaid x_takenMany a_buffer a_length a_bytes a_weight a_live a_size a_list a_moved a_planned a_stream a_reportedEnd a_reportedKeyword a_starts a_keywordAt a_element a_long1 a_head a_tail a_next a_skip a_last a_whole a_edges (upA a_covers l1 (vz20 + vz21)) (upA a_weighs l1 (vz22 + vz23)) (upA a_numbers l1 (vz24 + 1)) (upA a_takes l1 l2) a_takenAt) Hz := hP
                  have hD : va_D Az (wM cI cZ cJ ad x_thrown x_buffered x_given x_isFolding x_work x_rebuilt x_streamed x_reports x_gapFrom x_gapSize x_elements x_wholeSize x_isLaid x_takenMany a_buffer a_length a_bytes a_weight a_live a_size a_list a_moved a_planned a_stream a_reportedEnd a_reportedKeyword a_starts a_keywordAt a_element a_long1 a_head a_tail a_next a_skip a_last a_whole a_edges (upA a_covers l1 (vz20 + vz21)) (upA a_weighs l1 (vz22 + vz23)) (upA a_numbers l1 (vz24 + 1)) (upA a_takes l1 l2) a_takenAt) := hD
                  refine k_iinc (x := l2) (k := 4) (lv' := [(2, .int (iI (l2 + 1))), (4, .int (iI (l1 + vz19))), (3, .int (iI vz11)), (0, .ref (ad 0)), (1, .int (iI l1))]) hx hb dX8_laysCover_250 hl rfl (by decide) rfl (fun ls hl => ?_)
                  refine lv_goto (tgt := 96) hx hb dX8_laysCover_253 (by decide) ?_
                  exact ih a_starts a_keywordAt (upA a_covers l1 (vz20 + vz21)) (upA a_weighs l1 (vz22 + vz23)) (upA a_numbers l1 (vz24 + 1)) (upA a_takes l1 l2) l1 (l2 + 1) y0 y1 y2 y3 hs Hz lz hP hD hSz ls (lv_sub hl [3, 4, 0] rfl) kx
            · refine lv_goto (tgt := 250) hx hb dX8_laysCover_147 (by decide) ?_
              refine k_iinc (x := l2) (k := 2) (lv' := [(2, .int (iI (l2 + 1))), (0, .ref (ad 0)), (1, .int (iI l1))]) hx hb dX8_laysCover_250 hl rfl (by decide) rfl (fun ls hl => ?_)
              refine lv_goto (tgt := 96) hx hb dX8_laysCover_253 (by decide) ?_
              exact ih a_starts a_keywordAt a_covers a_weighs a_numbers a_takes l1 (l2 + 1) y0 y1 y2 y3 hs Hz lz hP hD hSz ls (lv_sub hl [1, 2, 0] rfl) kx
      · cases hs
        exact kx Hz lz hP hD hSz ls (lv_sub hl [0, 1] rfl)
  have Lz41 : ∀ (fu : Nat) (a_starts : (Int → Int)) (a_keywordAt : (Int → Int)) (a_covers : (Int → Int)) (a_weighs : (Int → Int)) (a_numbers : (Int → Int)) (a_takes : (Int → Int)) (l1 : Int) (y0 : (Int → Int)) (y1 : (Int → Int)) (y2 : (Int → Int)) (y3 : (Int → Int)), s_X8_laysCover_41 fu x_given a_length a_weight a_live a_starts a_keywordAt a_covers a_weighs a_numbers a_takes l1 = some (y0, y1, y2, y3) → ∀ (Hz : Heap) (lz : List Loc), va_P D vwCl (wM cI cZ cJ ad x_thrown x_buffered x_given x_isFolding x_work x_rebuilt x_streamed x_reports x_gapFrom x_gapSize x_elements x_wholeSize x_isLaid x_takenMany a_buffer a_length a_bytes a_weight a_live a_size a_list a_moved a_planned a_stream a_reportedEnd a_reportedKeyword a_starts a_keywordAt a_element a_long1 a_head a_tail a_next a_skip a_last a_whole a_edges a_covers a_weighs a_numbers a_takes a_takenAt) Hz → va_D Az (wM cI cZ cJ ad x_thrown x_buffered x_given x_isFolding x_work x_rebuilt x_streamed x_reports x_gapFrom x_gapSize x_elements x_wholeSize x_isLaid x_takenMany a_buffer a_length a_bytes a_weight a_live a_size a_list a_moved a_planned a_stream a_reportedEnd a_reportedKeyword a_starts a_keywordAt a_element a_long1 a_head a_tail a_next a_skip a_last a_whole a_edges a_covers a_weighs a_numbers a_takes a_takenAt) → va_S Az s.heap Hz lz → ∀ ls : Array Slot, lv_has ls 5 [(0, .ref (ad 0)), (1, .int (iI l1))] → (∀ (Hz : Heap) (lz : List Loc), va_P D vwCl (wM cI cZ cJ ad x_thrown x_buffered x_given x_isFolding x_work x_rebuilt x_streamed x_reports x_gapFrom x_gapSize x_elements x_wholeSize x_isLaid x_takenMany a_buffer a_length a_bytes a_weight a_live a_size a_list a_moved a_planned a_stream a_reportedEnd a_reportedKeyword a_starts a_keywordAt a_element a_long1 a_head a_tail a_next a_skip a_last a_whole a_edges y0 y1 y2 y3 a_takenAt) Hz → va_D Az (wM cI cZ cJ ad x_thrown x_buffered x_given x_isFolding x_work x_rebuilt x_streamed x_reports x_gapFrom x_gapSize x_elements x_wholeSize x_isLaid x_takenMany a_buffer a_length a_bytes a_weight a_live a_size a_list a_moved a_planned a_stream a_reportedEnd a_reportedKeyword a_starts a_keywordAt a_element a_long1 a_head a_tail a_next a_skip a_last a_whole a_edges y0 y1 y2 y3 a_takenAt) → va_S Az s.heap Hz lz → ∀ ls : Array Slot, lv_has ls 5 [] → W p l e (headSpec wsX8_laysCover rm_X8_laysCover).room s m args below meth c Hz lz 0 0 (MQ below (QW D vwCl none wz Az) args s 0 0 Az) (F0 m 262 ls [])) → W p l e (headSpec wsX8_laysCover rm_X8_laysCover).room s m args below meth c Hz lz 0 0 (MQ below (QW D vwCl none wz Az) args s 0 0 Az) (F0 m 41 ls []) := by
    intro fu
    induction fu with
    | zero => intro a_starts a_keywordAt a_covers a_weighs a_numbers a_takes l1 y0 y1 y2 y3 hs; cases hs
    | succ fu ih =>
      intro a_starts a_keywordAt a_covers a_weighs a_numbers a_takes l1 y0 y1 y2 y3 hs Hz lz hP hD hSz ls hl kx
      rw [s_X8_laysCover_41_s] at hs
      refine lv_iload_n hx hb dX8_laysCover_41 rfl (lv_at hl 1 rfl) ?_
      refine k_if_lt (tgt := 262) hx hb hs dX8_laysCover_42 (by decide) (fun hs => ?_) (fun hs => ?_)
      · cases hs
        exact kx Hz lz hP hD hSz ls (lv_sub hl [] rfl)
      · refine lv_aload_n hx hb dX8_laysCover_45 rfl (lv_at hl 0 rfl) ?_
        refine va_get (ci := 8) (v := .ref (ad 24)) (C := RX8) (T := TX8) (N := 42) hx hb hts hiX8 hown hK hP 0 rfl rfl 36 (by decide) hf84 (fun _ h9 => h9) rfl dX8_laysCover_46 ?_
        refine lv_iload_n hx hb dX8_laysCover_49 rfl (lv_at hl 1 rfl) ?_
        refine lv_aload_n hx hb dX8_laysCover_50 rfl (lv_at hl 0 rfl) ?_
        refine va_get (ci := 8) (v := .ref (ad 24)) (C := RX8) (T := TX8) (N := 42) hx hb hts hiX8 hown hK hP 0 rfl rfl 36 (by decide) hf84 (fun _ h9 => h9) rfl dX8_laysCover_51 ?_
        refine lv_iload_n hx hb dX8_laysCover_54 rfl (lv_at hl 1 rfl) ?_
        refine k_iconst (n := 1) hx hb dX8_laysCover_55 ?_
        refine k_iadd hx hb dX8_laysCover_56 ?_
        refine k_iald hx hb hK hP 24 0 rfl rfl (Nat.le_of_ble_eq_true rfl) hs dX8_laysCover_57 (fun vz3 hs => ?_)
        refine k_iast hx hb hK hP hD hSz 24 0 rfl rfl (Nat.le_of_ble_eq_true rfl) hs dX8_laysCover_58 (fun Hz lz hP hD hSz hs => ?_)
        have hP : va_P D vwCl (wM cI cZ cJ ad x_thrown x_buffered x_given x_isFolding x_work x_rebuilt x_streamed x_reports x_gapFrom x_gapSize x_elements x_wholeSize x_isLaid x_takenMany a_buffer a_length a_bytes a_weight a_live a_size a_list a_moved a_planned a_stream a_reportedEnd a_reportedKeyword a_starts a_keywordAt a_element a_long1 a_head a_tail a_next a_skip a_last a_whole a_edges (upA a_covers l1 vz3) a_weighs a_numbers a_takes a_takenAt) Hz := hP
        have hD : va_D Az (wM cI cZ cJ ad x_thrown x_buffered x_given x_isFolding x_work x_rebuilt x_streamed x_reports x_gapFrom x_gapSize x_elements x_wholeSize x_isLaid x_takenMany a_buffer a_length a_bytes a_weight a_live a_size a_list a_moved a_planned a_stream a_reportedEnd a_reportedKeyword a_starts a_keywordAt a_element a_long1 a_head a_tail a_next a_skip a_last a_whole a_edges (upA a_covers l1 vz3) a_weighs a_numbers a_takes a_takenAt) := hD
        refine lv_aload_n hx hb dX8_laysCover_59 rfl (lv_at hl 0 rfl) ?_
        refine va_get (ci := 8) (v := .ref (ad 25)) (C := RX8) (T := TX8) (N := 42) hx hb hts hiX8 hown hK hP 0 rfl rfl 37 (by decide) hf87 (fun _ h9 => h9) rfl dX8_laysCover_60 ?_
        refine lv_iload_n hx hb dX8_laysCover_63 rfl (lv_at hl 1 rfl) ?_
        refine lv_aload_n hx hb dX8_laysCover_64 rfl (lv_at hl 0 rfl) ?_
        refine va_get (ci := 8) (v := .ref (ad 25)) (C := RX8) (T := TX8) (N := 42) hx hb hts hiX8 hown hK hP 0 rfl rfl 37 (by decide) hf87 (fun _ h9 => h9) rfl dX8_laysCover_65 ?_
        refine lv_iload_n hx hb dX8_laysCover_68 rfl (lv_at hl 1 rfl) ?_
        refine k_iconst (n := 1) hx hb dX8_laysCover_69 ?_
        refine k_iadd hx hb dX8_laysCover_70 ?_
        refine k_iald hx hb hK hP 25 0 rfl rfl (Nat.le_of_ble_eq_true rfl) hs dX8_laysCover_71 (fun vz4 hs => ?_)
        refine k_iast hx hb hK hP hD hSz 25 0 rfl rfl (Nat.le_of_ble_eq_true rfl) hs dX8_laysCover_72 (fun Hz lz hP hD hSz hs => ?_)
        have hP : va_P D vwCl (wM cI cZ cJ ad x_thrown x_buffered x_given x_isFolding x_work x_rebuilt x_streamed x_reports x_gapFrom x_gapSize x_elements x_wholeSize x_isLaid x_takenMany a_buffer a_length a_bytes a_weight a_live a_size a_list a_moved a_planned a_stream a_reportedEnd a_reportedKeyword a_starts a_keywordAt a_element a_long1 a_head a_tail a_next a_skip a_last a_whole a_edges (upA a_covers l1 vz3) (upA a_weighs l1 vz4) a_numbers a_takes a_takenAt) Hz := hP
        have hD : va_D Az (wM cI cZ cJ ad x_thrown x_buffered x_given x_isFolding x_work x_rebuilt x_streamed x_reports x_gapFrom x_gapSize x_elements x_wholeSize x_isLaid x_takenMany a_buffer a_length a_bytes a_weight a_live a_size a_list a_moved a_planned a_stream a_reportedEnd a_reportedKeyword a_starts a_keywordAt a_element a_long1 a_head a_tail a_next a_skip a_last a_whole a_edges (upA a_covers l1 vz3) (upA a_weighs l1 vz4) a_numbers a_takes a_takenAt) := hD
        refine lv_aload_n hx hb dX8_laysCover_73 rfl (lv_at hl 0 rfl) ?_
        refine va_get (ci := 8) (v := .ref (ad 26)) (C := RX8) (T := TX8) (N := 42) hx hb hts hiX8 hown hK hP 0 rfl rfl 38 (by decide) hf90 (fun _ h9 => h9) rfl dX8_laysCover_74 ?_
        refine lv_iload_n hx hb dX8_laysCover_77 rfl (lv_at hl 1 rfl) ?_
        refine lv_aload_n hx hb dX8_laysCover_78 rfl (lv_at hl 0 rfl) ?_
        refine va_get (ci := 8) (v := .ref (ad 26)) (C := RX8) (T := TX8) (N := 42) hx hb hts hiX8 hown hK hP 0 rfl rfl 38 (by decide) hf90 (fun _ h9 => h9) rfl dX8_laysCover_79 ?_
        refine lv_iload_n hx hb dX8_laysCover_82 rfl (lv_at hl 1 rfl) ?_
        refine k_iconst (n := 1) hx hb dX8_laysCover_83 ?_
        refine k_iadd hx hb dX8_laysCover_84 ?_
        refine k_iald hx hb hK hP 26 0 rfl rfl (Nat.le_of_ble_eq_true rfl) hs dX8_laysCover_85 (fun vz5 hs => ?_)
        refine k_iast hx hb hK hP hD hSz 26 0 rfl rfl (Nat.le_of_ble_eq_true rfl) hs dX8_laysCover_86 (fun Hz lz hP hD hSz hs => ?_)
        have hP : va_P D vwCl (wM cI cZ cJ ad x_thrown x_buffered x_given x_isFolding x_work x_rebuilt x_streamed x_reports x_gapFrom x_gapSize x_elements x_wholeSize x_isLaid x_takenMany a_buffer a_length a_bytes a_weight a_live a_size a_list a_moved a_planned a_stream a_reportedEnd a_reportedKeyword a_starts a_keywordAt a_element a_long1 a_head a_tail a_next a_skip a_last a_whole a_edges (upA a_covers l1 vz3) (upA a_weighs l1 vz4) (upA a_numbers l1 vz5) a_takes a_takenAt) Hz := hP
        have hD : va_D Az (wM cI cZ cJ ad x_thrown x_buffered x_given x_isFolding x_work x_rebuilt x_streamed x_reports x_gapFrom x_gapSize x_elements x_wholeSize x_isLaid x_takenMany a_buffer a_length a_bytes a_weight a_live a_size a_list a_moved a_planned a_stream a_reportedEnd a_reportedKeyword a_starts a_keywordAt a_element a_long1 a_head a_tail a_next a_skip a_last a_whole a_edges (upA a_covers l1 vz3) (upA a_weighs l1 vz4) (upA a_numbers l1 vz5) a_takes a_takenAt) := hD
        refine lv_aload_n hx hb dX8_laysCover_87 rfl (lv_at hl 0 rfl) ?_
        refine va_get (ci := 8) (v := .ref (ad 27)) (C := RX8) (T := TX8) (N := 42) hx hb hts hiX8 hown hK hP 0 rfl rfl 39 (by decide) hf93 (fun _ h9 => h9) rfl dX8_laysCover_88 ?_
        refine lv_iload_n hx hb dX8_laysCover_91 rfl (lv_at hl 1 rfl) ?_
        refine k_iconst (n := (-1)) hx hb dX8_laysCover_92 ?_
        refine k_iast hx hb hK hP hD hSz 27 0 rfl rfl (Nat.le_of_ble_eq_true rfl) hs dX8_laysCover_93 (fun Hz lz hP hD hSz hs => ?_)
        have hP : va_P D vwCl (wM cI cZ cJ ad x_thrown x_buffered x_given x_isFolding x_work x_rebuilt x_streamed x_reports x_gapFrom x_gapSize x_elements x_wholeSize x_isLaid x_takenMany a_buffer a_length a_bytes a_weight a_live a_size a_list a_moved a_planned a_stream a_reportedEnd a_reportedKeyword a_starts a_keywordAt a_element a_long1 a_head a_tail a_next a_skip a_last a_whole a_edges (upA a_covers l1 vz3) (upA a_weighs l1 vz4) (upA a_numbers l1 vz5) (upA a_takes l1 (-1)) a_takenAt) Hz := hP
        have hD : va_D Az (wM cI cZ cJ ad x_thrown x_buffered x_given x_isFolding x_work x_rebuilt x_streamed x_reports x_gapFrom x_gapSize x_elements x_wholeSize x_isLaid x_takenMany a_buffer a_length a_bytes a_weight a_live a_size a_list a_moved a_planned a_stream a_reportedEnd a_reportedKeyword a_starts a_keywordAt a_element a_long1 a_head a_tail a_next a_skip a_last a_whole a_edges (upA a_covers l1 vz3) (upA a_weighs l1 vz4) (upA a_numbers l1 vz5) (upA a_takes l1 (-1)) a_takenAt) := hD
        refine k_iconst (n := 0) hx hb dX8_laysCover_94 ?_
        refine lv_istore_n (lv' := [(2, .int (iI 0)), (0, .ref (ad 0)), (1, .int (iI l1))]) hx hb dX8_laysCover_95 rfl hl (by decide) rfl (fun ls hl => ?_)
        obtain ⟨ez25, ez26, ez27, ez28, hq, hs⟩ := bd4_some hs
        refine Lz96 FU a_starts a_keywordAt (upA a_covers l1 vz3) (upA a_weighs l1 vz4) (upA a_numbers l1 vz5) (upA a_takes l1 (-1)) l1 0 ez25 ez26 ez27 ez28 hq Hz lz hP hD hSz ls (lv_sub hl [1, 2, 0] rfl) ?_
        intro Hz lz hP hD hSz ls hl
        refine k_iinc (x := l1) (k := 1) (lv' := [(1, .int (iI (l1 + (-1)))), (0, .ref (ad 0))]) hx hb dX8_laysCover_256 hl rfl (by decide) rfl (fun ls hl => ?_)
        refine lv_goto (tgt := 41) hx hb dX8_laysCover_259 (by decide) ?_
        exact ih a_starts a_keywordAt ez25 ez26 ez27 ez28 (l1 + (-1)) y0 y1 y2 y3 hs Hz lz hP hD hSz ls (lv_sub hl [1, 0] rfl) kx
  refine (?_ : ∀ (Hz : Heap) (lz : List Loc), va_P D vwCl (wM cI cZ cJ ad x_thrown x_buffered x_given x_isFolding x_work x_rebuilt x_streamed x_reports x_gapFrom x_gapSize x_elements x_wholeSize x_isLaid x_takenMany a_buffer a_length a_bytes a_weight a_live a_size a_list a_moved a_planned a_stream a_reportedEnd a_reportedKeyword a_starts a_keywordAt a_element a_long1 a_head a_tail a_next a_skip a_last a_whole a_edges a_covers a_weighs a_numbers a_takes a_takenAt) Hz → va_D Az (wM cI cZ cJ ad x_thrown x_buffered x_given x_isFolding x_work x_rebuilt x_streamed x_reports x_gapFrom x_gapSize x_elements x_wholeSize x_isLaid x_takenMany a_buffer a_length a_bytes a_weight a_live a_size a_list a_moved a_planned a_stream a_reportedEnd a_reportedKeyword a_starts a_keywordAt a_element a_long1 a_head a_tail a_next a_skip a_last a_whole a_edges a_covers a_weighs a_numbers a_takes a_takenAt) → va_S Az s.heap Hz lz → W p l e (headSpec wsX8_laysCover rm_X8_laysCover).room s m args below meth c Hz lz 0 0 (MQ below (QW D vwCl none wz Az) args s 0 0 Az) (F0 m 0 ls [])) s.heap [] hP hD hSz
  intro Hz lz hP hD hSz
  refine lv_aload_n hx hb dX8_laysCover_0 rfl (lv_at hl 0 rfl) ?_
  obtain ⟨vz1, vz2, hcz, hs⟩ := bd2_some hs
  refine k_wVs (As := []) (rest := []) (st1 := []) (w1 := (wM cI cZ cJ ad x_thrown x_buffered x_given x_isFolding x_work x_rebuilt x_streamed x_reports x_gapFrom x_gapSize x_elements x_wholeSize x_isLaid x_takenMany a_buffer a_length a_bytes a_weight a_live a_size a_list a_moved a_planned a_stream a_reportedEnd a_reportedKeyword vz1 vz2 a_element a_long1 a_head a_tail a_next a_skip a_last a_whole a_edges a_covers a_weighs a_numbers a_takes a_takenAt)) ⟨hx, hb, hml, hown, hts⟩ hK hP hD hSz hA (c_X8_laysMatches l D cI cZ cJ hcz) (cwV 0 hts gX8_laysCover_X8_laysMatches rfl rfl rfl (by decide +kernel) ⟨Nat.le_of_ble_eq_true rfl, Nat.le_of_ble_eq_true rfl⟩) 0 rfl rfl rfl rfl rfl hl.1 rfl (lv_room (Nat.le_of_ble_eq_true rfl)) dX8_laysCover_1 ⟨Nat.zero_le _, Nat.zero_le _⟩ rfl (fun Hz lz hP hD hSz => ?_)
  have hP : va_P D vwCl (wM cI cZ cJ ad x_thrown x_buffered x_given x_isFolding x_work x_rebuilt x_streamed x_reports x_gapFrom x_gapSize x_elements x_wholeSize x_isLaid x_takenMany a_buffer a_length a_bytes a_weight a_live a_size a_list a_moved a_planned a_stream a_reportedEnd a_reportedKeyword vz1 vz2 a_element a_long1 a_head a_tail a_next a_skip a_last a_whole a_edges a_covers a_weighs a_numbers a_takes a_takenAt) Hz := hP
  have hD : va_D Az (wM cI cZ cJ ad x_thrown x_buffered x_given x_isFolding x_work x_rebuilt x_streamed x_reports x_gapFrom x_gapSize x_elements x_wholeSize x_isLaid x_takenMany a_buffer a_length a_bytes a_weight a_live a_size a_list a_moved a_planned a_stream a_reportedEnd a_reportedKeyword vz1 vz2 a_element a_long1 a_head a_tail a_next a_skip a_last a_whole a_edges a_covers a_weighs a_numbers a_takes a_takenAt) := hD
  refine lv_aload_n hx hb dX8_laysCover_4 rfl (lv_at hl 0 rfl) ?_
  refine va_get (ci := 8) (v := .ref (ad 24)) (C := RX8) (T := TX8) (N := 42) hx hb hts hiX8 hown hK hP 0 rfl rfl 36 (by decide) hf84 (fun _ h9 => h9) rfl dX8_laysCover_5 ?_
  refine lv_aload_n hx hb dX8_laysCover_8 rfl (lv_at hl 0 rfl) ?_
  refine va_get (ci := 8) (v := .int (iI x_streamed)) (C := RX8) (T := TX8) (N := 42) hx hb hts hiX8 hown hK hP 0 rfl rfl 18 (by decide) hf170 (fun _ h9 => h9) rfl dX8_laysCover_9 ?_
  refine k_iconst (n := 0) hx hb dX8_laysCover_12 ?_
  refine k_iast hx hb hK hP hD hSz 24 0 rfl rfl (Nat.le_of_ble_eq_true rfl) hs dX8_laysCover_13 (fun Hz lz hP hD hSz hs => ?_)
  have hP : va_P D vwCl (wM cI cZ cJ ad x_thrown x_buffered x_given x_isFolding x_work x_rebuilt x_streamed x_reports x_gapFrom x_gapSize x_elements x_wholeSize x_isLaid x_takenMany a_buffer a_length a_bytes a_weight a_live a_size a_list a_moved a_planned a_stream a_reportedEnd a_reportedKeyword vz1 vz2 a_element a_long1 a_head a_tail a_next a_skip a_last a_whole a_edges (upA a_covers x_streamed 0) a_weighs a_numbers a_takes a_takenAt) Hz := hP
  have hD : va_D Az (wM cI cZ cJ ad x_thrown x_buffered x_given x_isFolding x_work x_rebuilt x_streamed x_reports x_gapFrom x_gapSize x_elements x_wholeSize x_isLaid x_takenMany a_buffer a_length a_bytes a_weight a_live a_size a_list a_moved a_planned a_stream a_reportedEnd a_reportedKeyword vz1 vz2 a_element a_long1 a_head a_tail a_next a_skip a_last a_whole a_edges (upA a_covers x_streamed 0) a_weighs a_numbers a_takes a_takenAt) := hD
  refine lv_aload_n hx hb dX8_laysCover_14 rfl (lv_at hl 0 rfl) ?_
  refine va_get (ci := 8) (v := .ref (ad 25)) (C := RX8) (T := TX8) (N := 42) hx hb hts hiX8 hown hK hP 0 rfl rfl 37 (by decide) hf87 (fun _ h9 => h9) rfl dX8_laysCover_15 ?_
  refine lv_aload_n hx hb dX8_laysCover_18 rfl (lv_at hl 0 rfl) ?_
  refine va_get (ci := 8) (v := .int (iI x_streamed)) (C := RX8) (T := TX8) (N := 42) hx hb hts hiX8 hown hK hP 0 rfl rfl 18 (by decide) hf170 (fun _ h9 => h9) rfl dX8_laysCover_19 ?_
  refine k_iconst (n := 0) hx hb dX8_laysCover_22 ?_
  refine k_iast hx hb hK hP hD hSz 25 0 rfl rfl (Nat.le_of_ble_eq_true rfl) hs dX8_laysCover_23 (fun Hz lz hP hD hSz hs => ?_)
  have hP : va_P D vwCl (wM cI cZ cJ ad x_thrown x_buffered x_given x_isFolding x_work x_rebuilt x_streamed x_reports x_gapFrom x_gapSize x_elements x_wholeSize x_isLaid x_takenMany a_buffer a_length a_bytes a_weight a_live a_size a_list a_moved a_planned a_stream a_reportedEnd a_reportedKeyword vz1 vz2 a_element a_long1 a_head a_tail a_next a_skip a_last a_whole a_edges (upA a_covers x_streamed 0) (upA a_weighs x_streamed 0) a_numbers a_takes a_takenAt) Hz := hP
  have hD : va_D Az (wM cI cZ cJ ad x_thrown x_buffered x_given x_isFolding x_work x_rebuilt x_streamed x_reports x_gapFrom x_gapSize x_elements x_wholeSize x_isLaid x_takenMany a_buffer a_length a_bytes a_weight a_live a_size a_list a_moved a_planned a_stream a_reportedEnd a_reportedKeyword vz1 vz2 a_element a_long1 a_head a_tail a_next a_skip a_last a_whole a_edges (upA a_covers x_streamed 0) (upA a_weighs x_streamed 0) a_numbers a_takes a_takenAt) := hD
  refine lv_aload_n hx hb dX8_laysCover_24 rfl (lv_at hl 0 rfl) ?_
  refine va_get (ci := 8) (v := .ref (ad 26)) (C := RX8) (T := TX8) (N := 42) hx hb hts hiX8 hown hK hP 0 rfl rfl 38 (by decide) hf90 (fun _ h9 => h9) rfl dX8_laysCover_25 ?_
  refine lv_aload_n hx hb dX8_laysCover_28 rfl (lv_at hl 0 rfl) ?_
  refine va_get (ci := 8) (v := .int (iI x_streamed)) (C := RX8) (T := TX8) (N := 42) hx hb hts hiX8 hown hK hP 0 rfl rfl 18 (by decide) hf170 (fun _ h9 => h9) rfl dX8_laysCover_29 ?_
  refine k_iconst (n := 0) hx hb dX8_laysCover_32 ?_
  refine k_iast hx hb hK hP hD hSz 26 0 rfl rfl (Nat.le_of_ble_eq_true rfl) hs dX8_laysCover_33 (fun Hz lz hP hD hSz hs => ?_)
  have hP : va_P D vwCl (wM cI cZ cJ ad x_thrown x_buffered x_given x_isFolding x_work x_rebuilt x_streamed x_reports x_gapFrom x_gapSize x_elements x_wholeSize x_isLaid x_takenMany a_buffer a_length a_bytes a_weight a_live a_size a_list a_moved a_planned a_stream a_reportedEnd a_reportedKeyword vz1 vz2 a_element a_long1 a_head a_tail a_next a_skip a_last a_whole a_edges (upA a_covers x_streamed 0) (upA a_weighs x_streamed 0) (upA a_numbers x_streamed 0) a_takes a_takenAt) Hz := hP
  have hD : va_D Az (wM cI cZ cJ ad x_thrown x_buffered x_given x_isFolding x_work x_rebuilt x_streamed x_reports x_gapFrom x_gapSize x_elements x_wholeSize x_isLaid x_takenMany a_buffer a_length a_bytes a_weight a_live a_size a_list a_moved a_planned a_stream a_reportedEnd a_reportedKeyword vz1 vz2 a_element a_long1 a_head a_tail a_next a_skip a_last a_whole a_edges (upA a_covers x_streamed 0) (upA a_weighs x_streamed 0) (upA a_numbers x_streamed 0) a_takes a_takenAt) := hD
  refine lv_aload_n hx hb dX8_laysCover_34 rfl (lv_at hl 0 rfl) ?_
  refine va_get (ci := 8) (v := .int (iI x_streamed)) (C := RX8) (T := TX8) (N := 42) hx hb hts hiX8 hown hK hP 0 rfl rfl 18 (by decide) hf170 (fun _ h9 => h9) rfl dX8_laysCover_35 ?_
  refine k_iconst (n := 1) hx hb dX8_laysCover_38 ?_
  refine k_isub hx hb dX8_laysCover_39 ?_
  refine lv_istore_n (lv' := [(1, .int (iI (x_streamed - 1))), (0, .ref (ad 0))]) hx hb dX8_laysCover_40 rfl hl (by decide) rfl (fun ls hl => ?_)
  obtain ⟨ez29, ez30, ez31, ez32, hq, hs⟩ := bd4_some hs
  refine Lz41 FU vz1 vz2 (upA a_covers x_streamed 0) (upA a_weighs x_streamed 0) (upA a_numbers x_streamed 0) a_takes (x_streamed - 1) ez29 ez30 ez31 ez32 hq Hz lz hP hD hSz ls (lv_sub hl [1, 0] rfl) ?_
  intro Hz lz hP hD hSz ls hl
  cases hs
  exact k_vret_w hx hb hr hlk (by rw [hw1]; exact hP) hSz dX8_laysCover_262 rfl
/-! X8_coveredBytes -/
noncomputable def s_X8_coveredBytes (x_thrown : Int) (x_given : Int) (x_isFolding : Int) (x_streamed : Int) (a_length : (Int → Int)) (a_bytes : (Int → Int)) (a_weight : (Int → Int)) (a_live : (Int → Int)) (a_stream : (Int → Int)) (a_starts : (Int → Int)) (a_keywordAt : (Int → Int)) (a_covers : (Int → Int)) (a_weighs : (Int → Int)) (a_numbers : (Int → Int)) (a_takes : (Int → Int)) : Option (Int × Int × (Int → Int) × (Int → Int) × (Int → Int) × (Int → Int) × (Int → Int) × (Int → Int)) := bd6 (s_X8_laysCover x_given x_isFolding x_streamed a_length a_bytes a_weight a_live a_stream a_starts a_keywordAt a_covers a_weighs a_numbers a_takes) (fun vz1 vz2 vz3 vz4 vz5 vz6 => (rdA vz3 601 0).bind (fun vz7 => some (vz7, 0, vz1, vz2, vz3, vz4, vz5, vz6)))
def rm_X8_coveredBytes : Room := { frames := 6, cells := 0, slots := 0, locals := 138 }
set_option maxHeartbeats 4000000 in
set_option maxRecDepth 100000 in
theorem c_X8_coveredBytes (l : Launch) (D : va_G) (cI cZ cJ : ClassId) {ad : Nat → Nat} {x_thrown : Int} {x_buffered : Int} {x_given : Int} {x_isFolding : Int} {x_work : Int} {x_rebuilt : Int} {x_streamed : Int} {x_reports : Int} {x_gapFrom : Int} {x_gapSize : Int} {x_elements : Int} {x_wholeSize : Int} {x_isLaid : Int} {x_takenMany : Int} {a_buffer : (Int → Int)} {a_length : (Int → Int)} {a_bytes : (Int → Int)} {a_weight : (Int → Int)} {a_live : (Int → Int)} {a_size : (Int → Int)} {a_list : (Int → Int)} {a_moved : (Int → Int)} {a_planned : (Int → Int)} {a_stream : (Int → Int)} {a_reportedEnd : (Int → Int)} {a_reportedKeyword : (Int → Int)} {a_starts : (Int → Int)} {a_keywordAt : (Int → Int)} {a_element : (Int → Int)} {a_long1 : (Int → Int)} {a_head : (Int → Int)} {a_tail : (Int → Int)} {a_next : (Int → Int)} {a_skip : (Int → Int)} {a_last : (Int → Int)} {a_whole : (Int → Int)} {a_edges : (Int → Int)} {a_covers : (Int → Int)} {a_weighs : (Int → Int)} {a_numbers : (Int → Int)} {a_takes : (Int → Int)} {a_takenAt : (Int → Int)} {r : Int} {y_x_thrown : Int} {y_a_starts : (Int → Int)} {y_a_keywordAt : (Int → Int)} {y_a_covers : (Int → Int)} {y_a_weighs : (Int → Int)} {y_a_numbers : (Int → Int)} {y_a_takes : (Int → Int)} {sz : Nat} (hs : s_X8_coveredBytes x_thrown x_given x_isFolding x_streamed a_length a_bytes a_weight a_live a_stream a_starts a_keywordAt a_covers a_weighs a_numbers a_takes = some (r, y_x_thrown, y_a_starts, y_a_keywordAt, y_a_covers, y_a_weighs, y_a_numbers, y_a_takes)) : Met l yX8_coveredBytes wsX8_coveredBytes rm_X8_coveredBytes (PW D vwCl [(cI, .int), (cZ, .boolean), (cJ, .long)] [.ref (ad 0)] (wM cI cZ cJ ad x_thrown x_buffered x_given x_isFolding x_work x_rebuilt x_streamed x_reports x_gapFrom x_gapSize x_elements x_wholeSize x_isLaid x_takenMany a_buffer a_length a_bytes a_weight a_live a_size a_list a_moved a_planned a_stream a_reportedEnd a_reportedKeyword a_starts a_keywordAt a_element a_long1 a_head a_tail a_next a_skip a_last a_whole a_edges a_covers a_weighs a_numbers a_takes a_takenAt) sz) (QW D vwCl (some (.int (iI r))) (wM cI cZ cJ ad y_x_thrown x_buffered x_given x_isFolding x_work x_rebuilt x_streamed x_reports x_gapFrom x_gapSize x_elements x_wholeSize x_isLaid x_takenMany a_buffer a_length a_bytes a_weight a_live a_size a_list a_moved a_planned a_stream a_reportedEnd a_reportedKeyword y_a_starts y_a_keywordAt a_element a_long1 a_head a_tail a_next a_skip a_last a_whole a_edges y_a_covers y_a_weighs y_a_numbers y_a_takes a_takenAt) (va_A (wM cI cZ cJ ad x_thrown x_buffered x_given x_isFolding x_work x_rebuilt x_streamed x_reports x_gapFrom x_gapSize x_elements x_wholeSize x_isLaid x_takenMany a_buffer a_length a_bytes a_weight a_live a_size a_list a_moved a_planned a_stream a_reportedEnd a_reportedKeyword a_starts a_keywordAt a_element a_long1 a_head a_tail a_next a_skip a_last a_whole a_edges a_covers a_weighs a_numbers a_takes a_takenAt) sz)) 0 0 (va_A (wM cI cZ cJ ad x_thrown x_buffered x_given x_isFolding x_work x_rebuilt x_streamed x_reports x_gapFrom x_gapSize x_elements x_wholeSize x_isLaid x_takenMany a_buffer a_length a_bytes a_weight a_live a_size a_list a_moved a_planned a_stream a_reportedEnd a_reportedKeyword a_starts a_keywordAt a_element a_long1 a_head a_tail a_next a_skip a_last a_whole a_edges a_covers a_weighs a_numbers a_takes a_takenAt) sz) := by
  refine Met.ofW (cc := cX8_coveredBytes) (maxL := 1) (ret := (some .int)) (by decide) rfl ?_
  intro p e s m args below meth c s₁ B hml hv
  obtain ⟨hav, hsz, hP, hK, hD0⟩ := hv
  have hx := B.exec
  have hb := B.bytes
  have hr := B.returns
  have hts := atoms_spec (ws := wsX8_coveredBytes) B.pre
  have hown : s.vm.findClass RX8 = some m.cls := findClass_of_methodNamed B.named
  have hlk := B.notSynchronized
  have hf1 : (Cond.fieldLink RX8 1 "KeywordMatcherModel" "thrown" "I").before args s = true := hts _ (List.mem_of_getElem? (i := 1) rfl)
  have hiX8 : ∀ w ∈ wsX80, w ∈ wsX8_coveredBytes := fun w h => List.mem_cons_of_mem _ (List.mem_append_right _ h)
  have hf84 : (Cond.fieldLink RX8 84 "KeywordMatcherModel" "covers" "[I").before args s = true := hts _ (List.mem_of_getElem? (i := 2) rfl)
  subst hsz
  have hD := hD0.self (sz := s.heap.size)
  generalize hAe : va_A (wM cI cZ cJ ad x_thrown x_buffered x_given x_isFolding x_work x_rebuilt x_streamed x_reports x_gapFrom x_gapSize x_elements x_wholeSize x_isLaid x_takenMany a_buffer a_length a_bytes a_weight a_live a_size a_list a_moved a_planned a_stream a_reportedEnd a_reportedKeyword a_starts a_keywordAt a_element a_long1 a_head a_tail a_next a_skip a_last a_whole a_edges a_covers a_weighs a_numbers a_takes a_takenAt) s.heap.size = Az at hD ⊢
  have hA : ∀ q : Nat, s.heap.size ≤ q → Az q := fun q h => by rw [← hAe]; exact Or.inr h
  clear hAe
  have hSz : va_S Az s.heap s.heap [] := va_S.rf
  obtain ⟨wz, hw1⟩ : ∃ z : va_W, z = (wM cI cZ cJ ad y_x_thrown x_buffered x_given x_isFolding x_work x_rebuilt x_streamed x_reports x_gapFrom x_gapSize x_elements x_wholeSize x_isLaid x_takenMany a_buffer a_length a_bytes a_weight a_live a_size a_list a_moved a_planned a_stream a_reportedEnd a_reportedKeyword y_a_starts y_a_keywordAt a_element a_long1 a_head a_tail a_next a_skip a_last a_whole a_edges y_a_covers y_a_weighs y_a_numbers y_a_takes a_takenAt) := ⟨_, rfl⟩
  rw [← hw1]
  have hl := lv_entry ([.ref (ad 0)]) (n := 1) (Nat.le_of_ble_eq_true rfl)
  rw [show entryFrame m args 1 = entryFrame m ([.ref (ad 0)] : List Value).toArray 1 from by rw [hav], lg_entry_eq]
  generalize (lg_sl ([.ref (ad 0)]) ++ List.replicate (1 - (lg_sl ([.ref (ad 0)])).length) Slot.unset).toArray = ls at hl ⊢
  have hl : lv_has ls 1 [(0, .ref (ad 0))] := hl
  unfold s_X8_coveredBytes at hs
  refine (?_ : ∀ (Hz : Heap) (lz : List Loc), va_P D vwCl (wM cI cZ cJ ad x_thrown x_buffered x_given x_isFolding x_work x_rebuilt x_streamed x_reports x_gapFrom x_gapSize x_elements x_wholeSize x_isLaid x_takenMany a_buffer a_length a_bytes a_weight a_live a_size a_list a_moved a_planned a_stream a_reportedEnd a_reportedKeyword a_starts a_keywordAt a_element a_long1 a_head a_tail a_next a_skip a_last a_whole a_edges a_covers a_weighs a_numbers a_takes a_takenAt) Hz → va_D Az (wM cI cZ cJ ad x_thrown x_buffered x_given x_isFolding x_work x_rebuilt x_streamed x_reports x_gapFrom x_gapSize x_elements x_wholeSize x_isLaid x_takenMany a_buffer a_length a_bytes a_weight a_live a_size a_list a_moved a_planned a_stream a_reportedEnd a_reportedKeyword a_starts a_keywordAt a_element a_long1 a_head a_tail a_next a_skip a_last a_whole a_edges a_covers a_weighs a_numbers a_takes a_takenAt) → va_S Az s.heap Hz lz → W p l e (headSpec wsX8_coveredBytes rm_X8_coveredBytes).room s m args below meth c Hz lz 0 0 (MQ below (QW D vwCl (some (.int (iI r))) wz Az) args s 0 0 Az) (F0 m 0 ls [])) s.heap [] hP hD hSz
  intro Hz lz hP hD hSz
  refine lv_aload_n hx hb dX8_coveredBytes_0 rfl (lv_at hl 0 rfl) ?_
  refine k_iconst (n := 0) hx hb dX8_coveredBytes_1 ?_
  refine va_put (ci := 8) (v := .int (iI 0)) (ty := .int) (C := RX8) (T := TX8) (N := 42) hx hb hts hiX8 tyX8 tyX8_ok nmX8 hown hK hP hD hSz 0 rfl rfl 0 (by decide) hf1 (fun _ h9 => h9) rfl (by decide +kernel) rfl rfl (Nat.le_of_ble_eq_true rfl) dX8_coveredBytes_2 (fun Hz lz hP hD hSz => ?_)
  have hP : va_P D vwCl (wM cI cZ cJ ad 0 x_buffered x_given x_isFolding x_work x_rebuilt x_streamed x_reports x_gapFrom x_gapSize x_elements x_wholeSize x_isLaid x_takenMany a_buffer a_length a_bytes a_weight a_live a_size a_list a_moved a_planned a_stream a_reportedEnd a_reportedKeyword a_starts a_keywordAt a_element a_long1 a_head a_tail a_next a_skip a_last a_whole a_edges a_covers a_weighs a_numbers a_takes a_takenAt) Hz := hP
  have hD : va_D Az (wM cI cZ cJ ad 0 x_buffered x_given x_isFolding x_work x_rebuilt x_streamed x_reports x_gapFrom x_gapSize x_elements x_wholeSize x_isLaid x_takenMany a_buffer a_length a_bytes a_weight a_live a_size a_list a_moved a_planned a_stream a_reportedEnd a_reportedKeyword a_starts a_keywordAt a_element a_long1 a_head a_tail a_next a_skip a_last a_whole a_edges a_covers a_weighs a_numbers a_takes a_takenAt) := hD
  refine lv_aload_n hx hb dX8_coveredBytes_5 rfl (lv_at hl 0 rfl) ?_
  obtain ⟨vz1, vz2, vz3, vz4, vz5, vz6, hcz, hs⟩ := bd6_some hs
  refine k_wVs (As := []) (rest := []) (st1 := []) (w1 := (wM cI cZ cJ ad 0 x_buffered x_given x_isFolding x_work x_rebuilt x_streamed x_reports x_gapFrom x_gapSize x_elements x_wholeSize x_isLaid x_takenMany a_buffer a_length a_bytes a_weight a_live a_size a_list a_moved a_planned a_stream a_reportedEnd a_reportedKeyword vz1 vz2 a_element a_long1 a_head a_tail a_next a_skip a_last a_whole a_edges vz3 vz4 vz5 vz6 a_takenAt)) ⟨hx, hb, hml, hown, hts⟩ hK hP hD hSz hA (c_X8_laysCover l D cI cZ cJ hcz) (cwV 0 hts gX8_coveredBytes_X8_laysCover rfl rfl rfl (by decide +kernel) ⟨Nat.le_of_ble_eq_true rfl, Nat.le_of_ble_eq_true rfl⟩) 0 rfl rfl rfl rfl rfl hl.1 rfl (lv_room (Nat.le_of_ble_eq_true rfl)) dX8_coveredBytes_6 ⟨Nat.zero_le _, Nat.zero_le _⟩ rfl (fun Hz lz hP hD hSz => ?_)
  have hP : va_P D vwCl (wM cI cZ cJ ad 0 x_buffered x_given x_isFolding x_work x_rebuilt x_streamed x_reports x_gapFrom x_gapSize x_elements x_wholeSize x_isLaid x_takenMany a_buffer a_length a_bytes a_weight a_live a_size a_list a_moved a_planned a_stream a_reportedEnd a_reportedKeyword vz1 vz2 a_element a_long1 a_head a_tail a_next a_skip a_last a_whole a_edges vz3 vz4 vz5 vz6 a_takenAt) Hz := hP
  have hD : va_D Az (wM cI cZ cJ ad 0 x_buffered x_given x_isFolding x_work x_rebuilt x_streamed x_reports x_gapFrom x_gapSize x_elements x_wholeSize x_isLaid x_takenMany a_buffer a_length a_bytes a_weight a_live a_size a_list a_moved a_planned a_stream a_reportedEnd a_reportedKeyword vz1 vz2 a_element a_long1 a_head a_tail a_next a_skip a_last a_whole a_edges vz3 vz4 vz5 vz6 a_takenAt) := hD
  refine lv_aload_n hx hb dX8_coveredBytes_9 rfl (lv_at hl 0 rfl) ?_
  refine va_get (ci := 8) (v := .ref (ad 24)) (C := RX8) (T := TX8) (N := 42) hx hb hts hiX8 hown hK hP 0 rfl rfl 36 (by decide) hf84 (fun _ h9 => h9) rfl dX8_coveredBytes_10 ?_
  refine k_iconst (n := 0) hx hb dX8_coveredBytes_13 ?_
  refine k_iald hx hb hK hP 24 0 rfl rfl (Nat.le_of_ble_eq_true rfl) hs dX8_coveredBytes_14 (fun vz7 hs => ?_)
  cases hs
  exact k_iret_w hx hb hr hlk (by rw [hw1]; exact hP) hSz dX8_coveredBytes_15 rfl
/-! X8_coverWeight -/
noncomputable def s_X8_coverWeight (x_thrown : Int) (x_given : Int) (x_isFolding : Int) (x_streamed : Int) (a_length : (Int → Int)) (a_bytes : (Int → Int)) (a_weight : (Int → Int)) (a_live : (Int → Int)) (a_stream : (Int → Int)) (a_starts : (Int → Int)) (a_keywordAt : (Int → Int)) (a_covers : (Int → Int)) (a_weighs : (Int → Int)) (a_numbers : (Int → Int)) (a_takes : (Int → Int)) : Option (Int × Int × (Int → Int) × (Int → Int) × (Int → Int) × (Int → Int) × (Int → Int) × (Int → Int)) := bd6 (s_X8_laysCover x_given x_isFolding x_streamed a_length a_bytes a_weight a_live a_stream a_starts a_keywordAt a_covers a_weighs a_numbers a_takes) (fun vz1 vz2 vz3 vz4 vz5 vz6 => (rdA vz4 601 0).bind (fun vz7 => some (vz7, 0, vz1, vz2, vz3, vz4, vz5, vz6)))
def rm_X8_coverWeight : Room := { frames := 6, cells := 0, slots := 0, locals := 138 }
set_option maxHeartbeats 4000000 in
set_option maxRecDepth 100000 in
theorem c_X8_coverWeight (l : Launch) (D : va_G) (cI cZ cJ : ClassId) {ad : Nat → Nat} {x_thrown : Int} {x_buffered : Int} {x_given : Int} {x_isFolding : Int} {x_work : Int} {x_rebuilt : Int} {x_streamed : Int} {x_reports : Int} {x_gapFrom : Int} {x_gapSize : Int} {x_elements : Int} {x_wholeSize : Int} {x_isLaid : Int} {x_takenMany : Int} {a_buffer : (Int → Int)} {a_length : (Int → Int)} {a_bytes : (Int → Int)} {a_weight : (Int → Int)} {a_live : (Int → Int)} {a_size : (Int → Int)} {a_list : (Int → Int)} {a_moved : (Int → Int)} {a_planned : (Int → Int)} {a_stream : (Int → Int)} {a_reportedEnd : (Int → Int)} {a_reportedKeyword : (Int → Int)} {a_starts : (Int → Int)} {a_keywordAt : (Int → Int)} {a_element : (Int → Int)} {a_long1 : (Int → Int)} {a_head : (Int → Int)} {a_tail : (Int → Int)} {a_next : (Int → Int)} {a_skip : (Int → Int)} {a_last : (Int → Int)} {a_whole : (Int → Int)} {a_edges : (Int → Int)} {a_covers : (Int → Int)} {a_weighs : (Int → Int)} {a_numbers : (Int → Int)} {a_takes : (Int → Int)} {a_takenAt : (Int → Int)} {r : Int} {y_x_thrown : Int} {y_a_starts : (Int → Int)} {y_a_keywordAt : (Int → Int)} {y_a_covers : (Int → Int)} {y_a_weighs : (Int → Int)} {y_a_numbers : (Int → Int)} {y_a_takes : (Int → Int)} {sz : Nat} (hs : s_X8_coverWeight x_thrown x_given x_isFolding x_streamed a_length a_bytes a_weight a_live a_stream a_starts a_keywordAt a_covers a_weighs a_numbers a_takes = some (r, y_x_thrown, y_a_starts, y_a_keywordAt, y_a_covers, y_a_weighs, y_a_numbers, y_a_takes)) : Met l yX8_coverWeight wsX8_coverWeight rm_X8_coverWeight (PW D vwCl [(cI, .int), (cZ, .boolean), (cJ, .long)] [.ref (ad 0)] (wM cI cZ cJ ad x_thrown x_buffered x_given x_isFolding x_work x_rebuilt x_streamed x_reports x_gapFrom x_gapSize x_elements x_wholeSize x_isLaid x_takenMany a_buffer a_length a_bytes a_weight a_live a_size a_list a_moved a_planned a_stream a_reportedEnd a_reportedKeyword a_starts a_keywordAt a_element a_long1 a_head a_tail a_next a_skip a_last a_whole a_edges a_covers a_weighs a_numbers a_takes a_takenAt) sz) (QW D vwCl (some (.int (iI r))) (wM cI cZ cJ ad y_x_thrown x_buffered x_given x_isFolding x_work x_rebuilt x_streamed x_reports x_gapFrom x_gapSize x_elements x_wholeSize x_isLaid x_takenMany a_buffer a_length a_bytes a_weight a_live a_size a_list a_moved a_planned a_stream a_reportedEnd a_reportedKeyword y_a_starts y_a_keywordAt a_element a_long1 a_head a_tail a_next a_skip a_last a_whole a_edges y_a_covers y_a_weighs y_a_numbers y_a_takes a_takenAt) (va_A (wM cI cZ cJ ad x_thrown x_buffered x_given x_isFolding x_work x_rebuilt x_streamed x_reports x_gapFrom x_gapSize x_elements x_wholeSize x_isLaid x_takenMany a_buffer a_length a_bytes a_weight a_live a_size a_list a_moved a_planned a_stream a_reportedEnd a_reportedKeyword a_starts a_keywordAt a_element a_long1 a_head a_tail a_next a_skip a_last a_whole a_edges a_covers a_weighs a_numbers a_takes a_takenAt) sz)) 0 0 (va_A (wM cI cZ cJ ad x_thrown x_buffered x_given x_isFolding x_work x_rebuilt x_streamed x_reports x_gapFrom x_gapSize x_elements x_wholeSize x_isLaid x_takenMany a_buffer a_length a_bytes a_weight a_live a_size a_list a_moved a_planned a_stream a_reportedEnd a_reportedKeyword a_starts a_keywordAt a_element a_long1 a_head a_tail a_next a_skip a_last a_whole a_edges a_covers a_weighs a_numbers a_takes a_takenAt) sz) := by
  refine Met.ofW (cc := cX8_coverWeight) (maxL := 1) (ret := (some .int)) (by decide) rfl ?_
  intro p e s m args below meth c s₁ B hml hv
  obtain ⟨hav, hsz, hP, hK, hD0⟩ := hv
  have hx := B.exec
  have hb := B.bytes
  have hr := B.returns
  have hts := atoms_spec (ws := wsX8_coverWeight) B.pre
  have hown : s.vm.findClass RX8 = some m.cls := findClass_of_methodNamed B.named
  have hlk := B.notSynchronized
  have hf1 : (Cond.fieldLink RX8 1 "KeywordMatcherModel" "thrown" "I").before args s = true := hts _ (List.mem_of_getElem? (i := 1) rfl)
  have hiX8 : ∀ w ∈ wsX80, w ∈ wsX8_coverWeight := fun w h => List.mem_cons_of_mem _ (List.mem_append_right _ h)
  have hf87 : (Cond.fieldLink RX8 87 "KeywordMatcherModel" "weighs" "[I").before args s = true := hts _ (List.mem_of_getElem? (i := 2) rfl)
  subst hsz
  have hD := hD0.self (sz := s.heap.size)
  generalize hAe : va_A (wM cI cZ cJ ad x_thrown x_buffered x_given x_isFolding x_work x_rebuilt x_streamed x_reports x_gapFrom x_gapSize x_elements x_wholeSize x_isLaid x_takenMany a_buffer a_length a_bytes a_weight a_live a_size a_list a_moved a_planned a_stream a_reportedEnd a_reportedKeyword a_starts a_keywordAt a_element a_long1 a_head a_tail a_next a_skip a_last a_whole a_edges a_covers a_weighs a_numbers a_takes a_takenAt) s.heap.size = Az at hD ⊢
  have hA : ∀ q : Nat, s.heap.size ≤ q → Az q := fun q h => by rw [← hAe]; exact Or.inr h
  clear hAe
  have hSz : va_S Az s.heap s.heap [] := va_S.rf
  obtain ⟨wz, hw1⟩ : ∃ z : va_W, z = (wM cI cZ cJ ad y_x_thrown x_buffered x_given x_isFolding x_work x_rebuilt x_streamed x_reports x_gapFrom x_gapSize x_elements x_wholeSize x_isLaid x_takenMany a_buffer a_length a_bytes a_weight a_live a_size a_list a_moved a_planned a_stream a_reportedEnd a_reportedKeyword y_a_starts y_a_keywordAt a_element a_long1 a_head a_tail a_next a_skip a_last a_whole a_edges y_a_covers y_a_weighs y_a_numbers y_a_takes a_takenAt) := ⟨_, rfl⟩
  rw [← hw1]
  have hl := lv_entry ([.ref (ad 0)]) (n := 1) (Nat.le_of_ble_eq_true rfl)
  rw [show entryFrame m args 1 = entryFrame m ([.ref (ad 0)] : List Value).toArray 1 from by rw [hav], lg_entry_eq]
  generalize (lg_sl ([.ref (ad 0)]) ++ List.replicate (1 - (lg_sl ([.ref (ad 0)])).length) Slot.unset).toArray = ls at hl ⊢
  have hl : lv_has ls 1 [(0, .ref (ad 0))] := hl
  unfold s_X8_coverWeight at hs
  refine (?_ : ∀ (Hz : Heap) (lz : List Loc), va_P D vwCl (wM cI cZ cJ ad x_thrown x_buffered x_given x_isFolding x_work x_rebuilt x_streamed x_reports x_gapFrom x_gapSize x_elements x_wholeSize x_isLaid x_takenMany a_buffer a_length a_bytes a_weight a_live a_size a_list a_moved a_planned a_stream a_reportedEnd a_reportedKeyword a_starts a_keywordAt a_element a_long1 a_head a_tail a_next a_skip a_last a_whole a_edges a_covers a_weighs a_numbers a_takes a_takenAt) Hz → va_D Az (wM cI cZ cJ ad x_thrown x_buffered x_given x_isFolding x_work x_rebuilt x_streamed x_reports x_gapFrom x_gapSize x_elements x_wholeSize x_isLaid x_takenMany a_buffer a_length a_bytes a_weight a_live a_size a_list a_moved a_planned a_stream a_reportedEnd a_reportedKeyword a_starts a_keywordAt a_element a_long1 a_head a_tail a_next a_skip a_last a_whole a_edges a_covers a_weighs a_numbers a_takes a_takenAt) → va_S Az s.heap Hz lz → W p l e (headSpec wsX8_coverWeight rm_X8_coverWeight).room s m args below meth c Hz lz 0 0 (MQ below (QW D vwCl (some (.int (iI r))) wz Az) args s 0 0 Az) (F0 m 0 ls [])) s.heap [] hP hD hSz
  intro Hz lz hP hD hSz
  refine lv_aload_n hx hb dX8_coverWeight_0 rfl (lv_at hl 0 rfl) ?_
  refine k_iconst (n := 0) hx hb dX8_coverWeight_1 ?_
  refine va_put (ci := 8) (v := .int (iI 0)) (ty := .int) (C := RX8) (T := TX8) (N := 42) hx hb hts hiX8 tyX8 tyX8_ok nmX8 hown hK hP hD hSz 0 rfl rfl 0 (by decide) hf1 (fun _ h9 => h9) rfl (by decide +kernel) rfl rfl (Nat.le_of_ble_eq_true rfl) dX8_coverWeight_2 (fun Hz lz hP hD hSz => ?_)
  have hP : va_P D vwCl (wM cI cZ cJ ad 0 x_buffered x_given x_isFolding x_work x_rebuilt x_streamed x_reports x_gapFrom x_gapSize x_elements x_wholeSize x_isLaid x_takenMany a_buffer a_length a_bytes a_weight a_live a_size a_list a_moved a_planned a_stream a_reportedEnd a_reportedKeyword a_starts a_keywordAt a_element a_long1 a_head a_tail a_next a_skip a_last a_whole a_edges a_covers a_weighs a_numbers a_takes a_takenAt) Hz := hP
  have hD : va_D Az (wM cI cZ cJ ad 0 x_buffered x_given x_isFolding x_work x_rebuilt x_streamed x_reports x_gapFrom x_gapSize x_elements x_wholeSize x_isLaid x_takenMany a_buffer a_length a_bytes a_weight a_live a_size a_list a_moved a_planned a_stream a_reportedEnd a_reportedKeyword a_starts a_keywordAt a_element a_long1 a_head a_tail a_next a_skip a_last a_whole a_edges a_covers a_weighs a_numbers a_takes a_takenAt) := hD
  refine lv_aload_n hx hb dX8_coverWeight_5 rfl (lv_at hl 0 rfl) ?_
  obtain ⟨vz1, vz2, vz3, vz4, vz5, vz6, hcz, hs⟩ := bd6_some hs
  refine k_wVs (As := []) (rest := []) (st1 := []) (w1 := (wM cI cZ cJ ad 0 x_buffered x_given x_isFolding x_work x_rebuilt x_streamed x_reports x_gapFrom x_gapSize x_elements x_wholeSize x_isLaid x_takenMany a_buffer a_length a_bytes a_weight a_live a_size a_list a_moved a_planned a_stream a_reportedEnd a_reportedKeyword vz1 vz2 a_element a_long1 a_head a_tail a_next a_skip a_last a_whole a_edges vz3 vz4 vz5 vz6 a_takenAt)) ⟨hx, hb, hml, hown, hts⟩ hK hP hD hSz hA (c_X8_laysCover l D cI cZ cJ hcz) (cwV 0 hts gX8_coverWeight_X8_laysCover rfl rfl rfl (by decide +kernel) ⟨Nat.le_of_ble_eq_true rfl, Nat.le_of_ble_eq_true rfl⟩) 0 rfl rfl rfl rfl rfl hl.1 rfl (lv_room (Nat.le_of_ble_eq_true rfl)) dX8_coverWeight_6 ⟨Nat.zero_le _, Nat.zero_le _⟩ rfl (fun Hz lz hP hD hSz => ?_)
  have hP : va_P D vwCl (wM cI cZ cJ ad 0 x_buffered x_given x_isFolding x_work x_rebuilt x_streamed x_reports x_gapFrom x_gapSize x_elements x_wholeSize x_isLaid x_takenMany a_buffer a_length a_bytes a_weight a_live a_size a_list a_moved a_planned a_stream a_reportedEnd a_reportedKeyword vz1 vz2 a_element a_long1 a_head a_tail a_next a_skip a_last a_whole a_edges vz3 vz4 vz5 vz6 a_takenAt) Hz := hP
  have hD : va_D Az (wM cI cZ cJ ad 0 x_buffered x_given x_isFolding x_work x_rebuilt x_streamed x_reports x_gapFrom x_gapSize x_elements x_wholeSize x_isLaid x_takenMany a_buffer a_length a_bytes a_weight a_live a_size a_list a_moved a_planned a_stream a_reportedEnd a_reportedKeyword vz1 vz2 a_element a_long1 a_head a_tail a_next a_skip a_last a_whole a_edges vz3 vz4 vz5 vz6 a_takenAt) := hD
  refine lv_aload_n hx hb dX8_coverWeight_9 rfl (lv_at hl 0 rfl) ?_
  refine va_get (ci := 8) (v := .ref (ad 25)) (C := RX8) (T := TX8) (N := 42) hx hb hts hiX8 hown hK hP 0 rfl rfl 37 (by decide) hf87 (fun _ h9 => h9) rfl dX8_coverWeight_10 ?_
  refine k_iconst (n := 0) hx hb dX8_coverWeight_13 ?_
  refine k_iald hx hb hK hP 25 0 rfl rfl (Nat.le_of_ble_eq_true rfl) hs dX8_coverWeight_14 (fun vz7 hs => ?_)
  cases hs
  exact k_iret_w hx hb hr hlk (by rw [hw1]; exact hP) hSz dX8_coverWeight_15 rfl
/-! X8_coverSize -/
noncomputable def s_X8_coverSize (x_thrown : Int) (x_given : Int) (x_isFolding : Int) (x_streamed : Int) (a_length : (Int → Int)) (a_bytes : (Int → Int)) (a_weight : (Int → Int)) (a_live : (Int → Int)) (a_stream : (Int → Int)) (a_starts : (Int → Int)) (a_keywordAt : (Int → Int)) (a_covers : (Int → Int)) (a_weighs : (Int → Int)) (a_numbers : (Int → Int)) (a_takes : (Int → Int)) : Option (Int × Int × (Int → Int) × (Int → Int) × (Int → Int) × (Int → Int) × (Int → Int) × (Int → Int)) := bd6 (s_X8_laysCover x_given x_isFolding x_streamed a_length a_bytes a_weight a_live a_stream a_starts a_keywordAt a_covers a_weighs a_numbers a_takes) (fun vz1 vz2 vz3 vz4 vz5 vz6 => (rdA vz5 601 0).bind (fun vz7 => some (vz7, 0, vz1, vz2, vz3, vz4, vz5, vz6)))
def rm_X8_coverSize : Room := { frames := 6, cells := 0, slots := 0, locals := 138 }
set_option maxHeartbeats 4000000 in
set_option maxRecDepth 100000 in
theorem c_X8_coverSize (l : Launch) (D : va_G) (cI cZ cJ : ClassId) {ad : Nat → Nat} {x_thrown : Int} {x_buffered : Int} {x_given : Int} {x_isFolding : Int} {x_work : Int} {x_rebuilt : Int} {x_streamed : Int} {x_reports : Int} {x_gapFrom : Int} {x_gapSize : Int} {x_elements : Int} {x_wholeSize : Int} {x_isLaid : Int} {x_takenMany : Int} {a_buffer : (Int → Int)} {a_length : (Int → Int)} {a_bytes : (Int → Int)} {a_weight : (Int → Int)} {a_live : (Int → Int)} {a_size : (Int → Int)} {a_list : (Int → Int)} {a_moved : (Int → Int)} {a_planned : (Int → Int)} {a_stream : (Int → Int)} {a_reportedEnd : (Int → Int)} {a_reportedKeyword : (Int → Int)} {a_starts : (Int → Int)} {a_keywordAt : (Int → Int)} {a_element : (Int → Int)} {a_long1 : (Int → Int)} {a_head : (Int → Int)} {a_tail : (Int → Int)} {a_next : (Int → Int)} {a_skip : (Int → Int)} {a_last : (Int → Int)} {a_whole : (Int → Int)} {a_edges : (Int → Int)} {a_covers : (Int → Int)} {a_weighs : (Int → Int)} {a_numbers : (Int → Int)} {a_takes : (Int → Int)} {a_takenAt : (Int → Int)} {r : Int} {y_x_thrown : Int} {y_a_starts : (Int → Int)} {y_a_keywordAt : (Int → Int)} {y_a_covers : (Int → Int)} {y_a_weighs : (Int → Int)} {y_a_numbers : (Int → Int)} {y_a_takes : (Int → Int)} {sz : Nat} (hs : s_X8_coverSize x_thrown x_given x_isFolding x_streamed a_length a_bytes a_weight a_live a_stream a_starts a_keywordAt a_covers a_weighs a_numbers a_takes = some (r, y_x_thrown, y_a_starts, y_a_keywordAt, y_a_covers, y_a_weighs, y_a_numbers, y_a_takes)) : Met l yX8_coverSize wsX8_coverSize rm_X8_coverSize (PW D vwCl [(cI, .int), (cZ, .boolean), (cJ, .long)] [.ref (ad 0)] (wM cI cZ cJ ad x_thrown x_buffered x_given x_isFolding x_work x_rebuilt x_streamed x_reports x_gapFrom x_gapSize x_elements x_wholeSize x_isLaid x_takenMany a_buffer a_length a_bytes a_weight a_live a_size a_list a_moved a_planned a_stream a_reportedEnd a_reportedKeyword a_starts a_keywordAt a_element a_long1 a_head a_tail a_next a_skip a_last a_whole a_edges a_covers a_weighs a_numbers a_takes a_takenAt) sz) (QW D vwCl (some (.int (iI r))) (wM cI cZ cJ ad y_x_thrown x_buffered x_given x_isFolding x_work x_rebuilt x_streamed x_reports x_gapFrom x_gapSize x_elements x_wholeSize x_isLaid x_takenMany a_buffer a_length a_bytes a_weight a_live a_size a_list a_moved a_planned a_stream a_reportedEnd a_reportedKeyword y_a_starts y_a_keywordAt a_element a_long1 a_head a_tail a_next a_skip a_last a_whole a_edges y_a_covers y_a_weighs y_a_numbers y_a_takes a_takenAt) (va_A (wM cI cZ cJ ad x_thrown x_buffered x_given x_isFolding x_work x_rebuilt x_streamed x_reports x_gapFrom x_gapSize x_elements x_wholeSize x_isLaid x_takenMany a_buffer a_length a_bytes a_weight a_live a_size a_list a_moved a_planned a_stream a_reportedEnd a_reportedKeyword a_starts a_keywordAt a_element a_long1 a_head a_tail a_next a_skip a_last a_whole a_edges a_covers a_weighs a_numbers a_takes a_takenAt) sz)) 0 0 (va_A (wM cI cZ cJ ad x_thrown x_buffered x_given x_isFolding x_work x_rebuilt x_streamed x_reports x_gapFrom x_gapSize x_elements x_wholeSize x_isLaid x_takenMany a_buffer a_length a_bytes a_weight a_live a_size a_list a_moved a_planned a_stream a_reportedEnd a_reportedKeyword a_starts a_keywordAt a_element a_long1 a_head a_tail a_next a_skip a_last a_whole a_edges a_covers a_weighs a_numbers a_takes a_takenAt) sz) := by
  refine Met.ofW (cc := cX8_coverSize) (maxL := 1) (ret := (some .int)) (by decide) rfl ?_
  intro p e s m args below meth c s₁ B hml hv
  obtain ⟨hav, hsz, hP, hK, hD0⟩ := hv
  have hx := B.exec
  have hb := B.bytes
  have hr := B.returns
  have hts := atoms_spec (ws := wsX8_coverSize) B.pre
  have hown : s.vm.findClass RX8 = some m.cls := findClass_of_methodNamed B.named
  have hlk := B.notSynchronized
  have hf1 : (Cond.fieldLink RX8 1 "KeywordMatcherModel" "thrown" "I").before args s = true := hts _ (List.mem_of_getElem? (i := 1) rfl)
  have hiX8 : ∀ w ∈ wsX80, w ∈ wsX8_coverSize := fun w h => List.mem_cons_of_mem _ (List.mem_append_right _ h)
  have hf90 : (Cond.fieldLink RX8 90 "KeywordMatcherModel" "numbers" "[I").before args s = true := hts _ (List.mem_of_getElem? (i := 2) rfl)
  subst hsz
  have hD := hD0.self (sz := s.heap.size)
  generalize hAe : va_A (wM cI cZ cJ ad x_thrown x_buffered x_given x_isFolding x_work x_rebuilt x_streamed x_reports x_gapFrom x_gapSize x_elements x_wholeSize x_isLaid x_takenMany a_buffer a_length a_bytes a_weight a_live a_size a_list a_moved a_planned a_stream a_reportedEnd a_reportedKeyword a_starts a_keywordAt a_element a_long1 a_head a_tail a_next a_skip a_last a_whole a_edges a_covers a_weighs a_numbers a_takes a_takenAt) s.heap.size = Az at hD ⊢
  have hA : ∀ q : Nat, s.heap.size ≤ q → Az q := fun q h => by rw [← hAe]; exact Or.inr h
  clear hAe
  have hSz : va_S Az s.heap s.heap [] := va_S.rf
  obtain ⟨wz, hw1⟩ : ∃ z : va_W, z = (wM cI cZ cJ ad y_x_thrown x_buffered x_given x_isFolding x_work x_rebuilt x_streamed x_reports x_gapFrom x_gapSize x_elements x_wholeSize x_isLaid x_takenMany a_buffer a_length a_bytes a_weight a_live a_size a_list a_moved a_planned a_stream a_reportedEnd a_reportedKeyword y_a_starts y_a_keywordAt a_element a_long1 a_head a_tail a_next a_skip a_last a_whole a_edges y_a_covers y_a_weighs y_a_numbers y_a_takes a_takenAt) := ⟨_, rfl⟩
  rw [← hw1]
  have hl := lv_entry ([.ref (ad 0)]) (n := 1) (Nat.le_of_ble_eq_true rfl)
  rw [show entryFrame m args 1 = entryFrame m ([.ref (ad 0)] : List Value).toArray 1 from by rw [hav], lg_entry_eq]
  generalize (lg_sl ([.ref (ad 0)]) ++ List.replicate (1 - (lg_sl ([.ref (ad 0)])).length) Slot.unset).toArray = ls at hl ⊢
  have hl : lv_has ls 1 [(0, .ref (ad 0))] := hl
  unfold s_X8_coverSize at hs
  refine (?_ : ∀ (Hz : Heap) (lz : List Loc), va_P D vwCl (wM cI cZ cJ ad x_thrown x_buffered x_given x_isFolding x_work x_rebuilt x_streamed x_reports x_gapFrom x_gapSize x_elements x_wholeSize x_isLaid x_takenMany a_buffer a_length a_bytes a_weight a_live a_size a_list a_moved a_planned a_stream a_reportedEnd a_reportedKeyword a_starts a_keywordAt a_element a_long1 a_head a_tail a_next a_skip a_last a_whole a_edges a_covers a_weighs a_numbers a_takes a_takenAt) Hz → va_D Az (wM cI cZ cJ ad x_thrown x_buffered x_given x_isFolding x_work x_rebuilt x_streamed x_reports x_gapFrom x_gapSize x_elements x_wholeSize x_isLaid x_takenMany a_buffer a_length a_bytes a_weight a_live a_size a_list a_moved a_planned a_stream a_reportedEnd a_reportedKeyword a_starts a_keywordAt a_element a_long1 a_head a_tail a_next a_skip a_last a_whole a_edges a_covers a_weighs a_numbers a_takes a_takenAt) → va_S Az s.heap Hz lz → W p l e (headSpec wsX8_coverSize rm_X8_coverSize).room s m args below meth c Hz lz 0 0 (MQ below (QW D vwCl (some (.int (iI r))) wz Az) args s 0 0 Az) (F0 m 0 ls [])) s.heap [] hP hD hSz
  intro Hz lz hP hD hSz
  refine lv_aload_n hx hb dX8_coverSize_0 rfl (lv_at hl 0 rfl) ?_
  refine k_iconst (n := 0) hx hb dX8_coverSize_1 ?_
  refine va_put (ci := 8) (v := .int (iI 0)) (ty := .int) (C := RX8) (T := TX8) (N := 42) hx hb hts hiX8 tyX8 tyX8_ok nmX8 hown hK hP hD hSz 0 rfl rfl 0 (by decide) hf1 (fun _ h9 => h9) rfl (by decide +kernel) rfl rfl (Nat.le_of_ble_eq_true rfl) dX8_coverSize_2 (fun Hz lz hP hD hSz => ?_)
  have hP : va_P D vwCl (wM cI cZ cJ ad 0 x_buffered x_given x_isFolding x_work x_rebuilt x_streamed x_reports x_gapFrom x_gapSize x_elements x_wholeSize x_isLaid x_takenMany a_buffer a_length a_bytes a_weight a_live a_size a_list a_moved a_planned a_stream a_reportedEnd a_reportedKeyword a_starts a_keywordAt a_element a_long1 a_head a_tail a_next a_skip a_last a_whole a_edges a_covers a_weighs a_numbers a_takes a_takenAt) Hz := hP
  have hD : va_D Az (wM cI cZ cJ ad 0 x_buffered x_given x_isFolding x_work x_rebuilt x_streamed x_reports x_gapFrom x_gapSize x_elements x_wholeSize x_isLaid x_takenMany a_buffer a_length a_bytes a_weight a_live a_size a_list a_moved a_planned a_stream a_reportedEnd a_reportedKeyword a_starts a_keywordAt a_element a_long1 a_head a_tail a_next a_skip a_last a_whole a_edges a_covers a_weighs a_numbers a_takes a_takenAt) := hD
  refine lv_aload_n hx hb dX8_coverSize_5 rfl (lv_at hl 0 rfl) ?_
  obtain ⟨vz1, vz2, vz3, vz4, vz5, vz6, hcz, hs⟩ := bd6_some hs
  refine k_wVs (As := []) (rest := []) (st1 := []) (w1 := (wM cI cZ cJ ad 0 x_buffered x_given x_isFolding x_work x_rebuilt x_streamed x_reports x_gapFrom x_gapSize x_elements x_wholeSize x_isLaid x_takenMany a_buffer a_length a_bytes a_weight a_live a_size a_list a_moved a_planned a_stream a_reportedEnd a_reportedKeyword vz1 vz2 a_element a_long1 a_head a_tail a_next a_skip a_last a_whole a_edges vz3 vz4 vz5 vz6 a_takenAt)) ⟨hx, hb, hml, hown, hts⟩ hK hP hD hSz hA (c_X8_laysCover l D cI cZ cJ hcz) (cwV 0 hts gX8_coverSize_X8_laysCover rfl rfl rfl (by decide +kernel) ⟨Nat.le_of_ble_eq_true rfl, Nat.le_of_ble_eq_true rfl⟩) 0 rfl rfl rfl rfl rfl hl.1 rfl (lv_room (Nat.le_of_ble_eq_true rfl)) dX8_coverSize_6 ⟨Nat.zero_le _, Nat.zero_le _⟩ rfl (fun Hz lz hP hD hSz => ?_)
  have hP : va_P D vwCl (wM cI cZ cJ ad 0 x_buffered x_given x_isFolding x_work x_rebuilt x_streamed x_reports x_gapFrom x_gapSize x_elements x_wholeSize x_isLaid x_takenMany a_buffer a_length a_bytes a_weight a_live a_size a_list a_moved a_planned a_stream a_reportedEnd a_reportedKeyword vz1 vz2 a_element a_long1 a_head a_tail a_next a_skip a_last a_whole a_edges vz3 vz4 vz5 vz6 a_takenAt) Hz := hP
  have hD : va_D Az (wM cI cZ cJ ad 0 x_buffered x_given x_isFolding x_work x_rebuilt x_streamed x_reports x_gapFrom x_gapSize x_elements x_wholeSize x_isLaid x_takenMany a_buffer a_length a_bytes a_weight a_live a_size a_list a_moved a_planned a_stream a_reportedEnd a_reportedKeyword vz1 vz2 a_element a_long1 a_head a_tail a_next a_skip a_last a_whole a_edges vz3 vz4 vz5 vz6 a_takenAt) := hD
  refine lv_aload_n hx hb dX8_coverSize_9 rfl (lv_at hl 0 rfl) ?_
  refine va_get (ci := 8) (v := .ref (ad 26)) (C := RX8) (T := TX8) (N := 42) hx hb hts hiX8 hown hK hP 0 rfl rfl 38 (by decide) hf90 (fun _ h9 => h9) rfl dX8_coverSize_10 ?_
  refine k_iconst (n := 0) hx hb dX8_coverSize_13 ?_
  refine k_iald hx hb hK hP 26 0 rfl rfl (Nat.le_of_ble_eq_true rfl) hs dX8_coverSize_14 (fun vz7 hs => ?_)
  cases hs
  exact k_iret_w hx hb hr hlk (by rw [hw1]; exact hP) hSz dX8_coverSize_15 rfl
