/-! X8_gapStart -/
set_option maxHeartbeats 4000000 in
set_option maxRecDepth 100000 in
theorem c_X8_gapStart (l : Launch) (D : va_G) (cI cZ cJ : ClassId) {ad : Nat → Nat} {x_thrown : Int} {x_buffered : Int} {x_given : Int} {x_isFolding : Int} {x_work : Int} {x_rebuilt : Int} {x_streamed : Int} {x_reports : Int} {x_gapFrom : Int} {x_gapSize : Int} {x_elements : Int} {x_wholeSize : Int} {x_isLaid : Int} {x_takenMany : Int} {a_buffer : (Int → Int)} {a_length : (Int → Int)} {a_bytes : (Int → Int)} {a_weight : (Int → Int)} {a_live : (Int → Int)} {a_size : (Int → Int)} {a_list : (Int → Int)} {a_moved : (Int → Int)} {a_planned : (Int → Int)} {a_stream : (Int → Int)} {a_reportedEnd : (Int → Int)} {a_reportedKeyword : (Int → Int)} {a_starts : (Int → Int)} {a_keywordAt : (Int → Int)} {a_element : (Int → Int)} {a_long1 : (Int → Int)} {a_head : (Int → Int)} {a_tail : (Int → Int)} {a_next : (Int → Int)} {a_skip : (Int → Int)} {a_last : (Int → Int)} {a_whole : (Int → Int)} {a_edges : (Int → Int)} {a_covers : (Int → Int)} {a_weighs : (Int → Int)} {a_numbers : (Int → Int)} {a_takes : (Int → Int)} {a_takenAt : (Int → Int)} {r : Int} {y_x_thrown : Int} {y_x_gapFrom : Int} {y_x_gapSize : Int} {y_a_starts : (Int → Int)} {y_a_keywordAt : (Int → Int)} {sz : Nat} (hs : s_X8_gapStart x_thrown x_given x_isFolding x_streamed x_gapFrom x_gapSize a_length a_bytes a_live a_stream a_starts a_keywordAt = some (r, y_x_thrown, y_x_gapFrom, y_x_gapSize, y_a_starts, y_a_keywordAt)) : Met l yX8_gapStart wsX8_gapStart rm_X8_gapStart (PW D vwCl [(cI, .int), (cZ, .boolean), (cJ, .long)] [.ref (ad 0)] (wM cI cZ cJ ad x_thrown x_buffered x_given x_isFolding x_work x_rebuilt x_streamed x_reports x_gapFrom x_gapSize x_elements x_wholeSize x_isLaid x_takenMany a_buffer a_length a_bytes a_weight a_live a_size a_list a_moved a_planned a_stream a_reportedEnd a_reportedKeyword a_starts a_keywordAt a_element a_long1 a_head a_tail a_next a_skip a_last a_whole a_edges a_covers a_weighs a_numbers a_takes a_takenAt) sz) (QW D vwCl (some (.int (iI r))) (wM cI cZ cJ ad y_x_thrown x_buffered x_given x_isFolding x_work x_rebuilt x_streamed x_reports y_x_gapFrom y_x_gapSize x_elements x_wholeSize x_isLaid x_takenMany a_buffer a_length a_bytes a_weight a_live a_size a_list a_moved a_planned a_stream a_reportedEnd a_reportedKeyword y_a_starts y_a_keywordAt a_element a_long1 a_head a_tail a_next a_skip a_last a_whole a_edges a_covers a_weighs a_numbers a_takes a_takenAt) (va_A (wM cI cZ cJ ad x_thrown x_buffered x_given x_isFolding x_work x_rebuilt x_streamed x_reports x_gapFrom x_gapSize x_elements x_wholeSize x_isLaid x_takenMany a_buffer a_length a_bytes a_weight a_live a_size a_list a_moved a_planned a_stream a_reportedEnd a_reportedKeyword a_starts a_keywordAt a_element a_long1 a_head a_tail a_next a_skip a_last a_whole a_edges a_covers a_weighs a_numbers a_takes a_takenAt) sz)) 0 0 (va_A (wM cI cZ cJ ad x_thrown x_buffered x_given x_isFolding x_work x_rebuilt x_streamed x_reports x_gapFrom x_gapSize x_elements x_wholeSize x_isLaid x_takenMany a_buffer a_length a_bytes a_weight a_live a_size a_list a_moved a_planned a_stream a_reportedEnd a_reportedKeyword a_starts a_keywordAt a_element a_long1 a_head a_tail a_next a_skip a_last a_whole a_edges a_covers a_weighs a_numbers a_takes a_takenAt) sz) := by
  refine Met.ofW (cc := cX8_gapStart) (maxL := 1) (ret := (some .int)) (by decide) rfl ?_
  intro p e s m args below meth c s₁ B hml hv
  obtain ⟨hav, hsz, hP, hK, hD0⟩ := hv
  have hx := B.exec
  have hb := B.bytes
  have hr := B.returns
  have hts := atoms_spec (ws := wsX8_gapStart) B.pre
  have hown : s.vm.findClass RX8 = some m.cls := findClass_of_methodNamed B.named
  have hlk := B.notSynchronized
  have hf1 : (Cond.fieldLink RX8 1 "KeywordMatcherModel" "thrown" "I").before args s = true := hts _ (List.mem_of_getElem? (i := 1) rfl)
  have hiX8 : ∀ w ∈ wsX80, w ∈ wsX8_gapStart := fun w h => List.mem_cons_of_mem _ (List.mem_append_right _ h)
  have hf221 : (Cond.fieldLink RX8 221 "KeywordMatcherModel" "gapFrom" "I").before args s = true := hts _ (List.mem_of_getElem? (i := 2) rfl)
  subst hsz
  have hD := hD0.self (sz := s.heap.size)
  generalize hAe : va_A (wM cI cZ cJ ad x_thrown x_buffered x_given x_isFolding x_work x_rebuilt x_streamed x_reports x_gapFrom x_gapSize x_elements x_wholeSize x_isLaid x_takenMany a_buffer a_length a_bytes a_weight a_live a_size a_list a_moved a_planned a_stream a_reportedEnd a_reportedKeyword a_starts a_keywordAt a_element a_long1 a_head a_tail a_next a_skip a_last a_whole a_edges a_covers a_weighs a_numbers a_takes a_takenAt) s.heap.size = Az at hD ⊢
  have hA : ∀ q : Nat, s.heap.size ≤ q → Az q := fun q h => by rw [← hAe]; exact Or.inr h
  clear hAe
  have hSz : va_S Az s.heap s.heap [] := va_S.rf
  obtain ⟨wz, hw1⟩ : ∃ z : va_W, z = (wM cI cZ cJ ad y_x_thrown x_buffered x_given x_isFolding x_work x_rebuilt x_streamed x_reports y_x_gapFrom y_x_gapSize x_elements x_wholeSize x_isLaid x_takenMany a_buffer a_length a_bytes a_weight a_live a_size a_list a_moved a_planned a_stream a_reportedEnd a_reportedKeyword y_a_starts y_a_keywordAt a_element a_long1 a_head a_tail a_next a_skip a_last a_whole a_edges a_covers a_weighs a_numbers a_takes a_takenAt) := ⟨_, rfl⟩
  rw [← hw1]
  have hl := lv_entry ([.ref (ad 0)]) (n := 1) (Nat.le_of_ble_eq_true rfl)
  rw [show entryFrame m args 1 = entryFrame m ([.ref (ad 0)] : List Value).toArray 1 from by rw [hav], lg_entry_eq]
  generalize (lg_sl ([.ref (ad 0)]) ++ List.replicate (1 - (lg_sl ([.ref (ad 0)])).length) Slot.unset).toArray = ls at hl ⊢
  have hl : lv_has ls 1 [(0, .ref (ad 0))] := hl
  unfold s_X8_gapStart at hs
  refine (?_ : ∀ (Hz : Heap) (lz : List Loc), va_P D vwCl (wM cI cZ cJ ad x_thrown x_buffered x_given x_isFolding x_work x_rebuilt x_streamed x_reports x_gapFrom x_gapSize x_elements x_wholeSize x_isLaid x_takenMany a_buffer a_length a_bytes a_weight a_live a_size a_list a_moved a_planned a_stream a_reportedEnd a_reportedKeyword a_starts a_keywordAt a_element a_long1 a_head a_tail a_next a_skip a_last a_whole a_edges a_covers a_weighs a_numbers a_takes a_takenAt) Hz → va_D Az (wM cI cZ cJ ad x_thrown x_buffered x_given x_isFolding x_work x_rebuilt x_streamed x_reports x_gapFrom x_gapSize x_elements x_wholeSize x_isLaid x_takenMany a_buffer a_length a_bytes a_weight a_live a_size a_list a_moved a_planned a_stream a_reportedEnd a_reportedKeyword a_starts a_keywordAt a_element a_long1 a_head a_tail a_next a_skip a_last a_whole a_edges a_covers a_weighs a_numbers a_takes a_takenAt) → va_S Az s.heap Hz lz → W p l e (headSpec wsX8_gapStart rm_X8_gapStart).room s m args below meth c Hz lz 0 0 (MQ below (QW D vwCl (some (.int (iI r))) wz Az) args s 0 0 Az) (F0 m 0 ls [])) s.heap [] hP hD hSz
  intro Hz lz hP hD hSz
  refine lv_aload_n hx hb dX8_gapStart_0 rfl (lv_at hl 0 rfl) ?_
  refine k_iconst (n := 0) hx hb dX8_gapStart_1 ?_
  refine va_put (ci := 8) (v := .int (iI 0)) (ty := .int) (C := RX8) (T := TX8) (N := 42) hx hb hts hiX8 tyX8 tyX8_ok nmX8 hown hK hP hD hSz 0 rfl rfl 0 (by decide) hf1 (fun _ h9 => h9) rfl (by decide +kernel) rfl rfl (Nat.le_of_ble_eq_true rfl) dX8_gapStart_2 (fun Hz lz hP hD hSz => ?_)
  have hP : va_P D vwCl (wM cI cZ cJ ad 0 x_buffered x_given x_isFolding x_work x_rebuilt x_streamed x_reports x_gapFrom x_gapSize x_elements x_wholeSize x_isLaid x_takenMany a_buffer a_length a_bytes a_weight a_live a_size a_list a_moved a_planned a_stream a_reportedEnd a_reportedKeyword a_starts a_keywordAt a_element a_long1 a_head a_tail a_next a_skip a_last a_whole a_edges a_covers a_weighs a_numbers a_takes a_takenAt) Hz := hP
  have hD : va_D Az (wM cI cZ cJ ad 0 x_buffered x_given x_isFolding x_work x_rebuilt x_streamed x_reports x_gapFrom x_gapSize x_elements x_wholeSize x_isLaid x_takenMany a_buffer a_length a_bytes a_weight a_live a_size a_list a_moved a_planned a_stream a_reportedEnd a_reportedKeyword a_starts a_keywordAt a_element a_long1 a_head a_tail a_next a_skip a_last a_whole a_edges a_covers a_weighs a_numbers a_takes a_takenAt) := hD
  refine lv_aload_n hx hb dX8_gapStart_5 rfl (lv_at hl 0 rfl) ?_
  obtain ⟨vz1, vz2, vz3, vz4, hcz, hs⟩ := bd4_some hs
  refine k_wVs (As := []) (rest := []) (st1 := []) (w1 := (wM cI cZ cJ ad 0 x_buffered x_given x_isFolding x_work x_rebuilt x_streamed x_reports vz1 vz2 x_elements x_wholeSize x_isLaid x_takenMany a_buffer a_length a_bytes a_weight a_live a_size a_list a_moved a_planned a_stream a_reportedEnd a_reportedKeyword vz3 vz4 a_element a_long1 a_head a_tail a_next a_skip a_last a_whole a_edges a_covers a_weighs a_numbers a_takes a_takenAt)) ⟨hx, hb, hml, hown, hts⟩ hK hP hD hSz hA (c_X8_laysGap l D cI cZ cJ hcz) (cwV 0 hts gX8_gapStart_X8_laysGap rfl rfl rfl (by decide +kernel) ⟨Nat.le_of_ble_eq_true rfl, Nat.le_of_ble_eq_true rfl⟩) 0 rfl rfl rfl rfl rfl hl.1 rfl (lv_room (Nat.le_of_ble_eq_true rfl)) dX8_gapStart_6 ⟨Nat.zero_le _, Nat.zero_le _⟩ rfl (fun Hz lz hP hD hSz => ?_)
  have hP : va_P D vwCl (wM cI cZ cJ ad 0 x_buffered x_given x_isFolding x_work x_rebuilt x_streamed x_reports vz1 vz2 x_elements x_wholeSize x_isLaid x_takenMany a_buffer a_length a_bytes a_weight a_live a_size a_list a_moved a_planned a_stream a_reportedEnd a_reportedKeyword vz3 vz4 a_element a_long1 a_head a_tail a_next a_skip a_last a_whole a_edges a_covers a_weighs a_numbers a_takes a_takenAt) Hz := hP
  have hD : va_D Az (wM cI cZ cJ ad 0 x_buffered x_given x_isFolding x_work x_rebuilt x_streamed x_reports vz1 vz2 x_elements x_wholeSize x_isLaid x_takenMany a_buffer a_length a_bytes a_weight a_live a_size a_list a_moved a_planned a_stream a_reportedEnd a_reportedKeyword vz3 vz4 a_element a_long1 a_head a_tail a_next a_skip a_last a_whole a_edges a_covers a_weighs a_numbers a_takes a_takenAt) := hD
  refine lv_aload_n hx hb dX8_gapStart_9 rfl (lv_at hl 0 rfl) ?_
  refine va_get (ci := 8) (v := .int (iI vz1)) (C := RX8) (T := TX8) (N := 42) hx hb hts hiX8 hown hK hP 0 rfl rfl 22 (by decide) hf221 (fun _ h9 => h9) rfl dX8_gapStart_10 ?_
  cases hs
  exact k_iret_w hx hb hr hlk (by rw [hw1]; exact hP) hSz dX8_gapStart_13 rfl
/-! X8_misses -/
set_option maxHeartbeats 4000000 in
set_option maxRecDepth 100000 in
theorem c_X8_misses (l : Launch) (D : va_G) (cI cZ cJ : ClassId) {ad : Nat → Nat} {x_thrown : Int} {x_buffered : Int} {x_given : Int} {x_isFolding : Int} {x_work : Int} {x_rebuilt : Int} {x_streamed : Int} {x_reports : Int} {x_gapFrom : Int} {x_gapSize : Int} {x_elements : Int} {x_wholeSize : Int} {x_isLaid : Int} {x_takenMany : Int} {a_buffer : (Int → Int)} {a_length : (Int → Int)} {a_bytes : (Int → Int)} {a_weight : (Int → Int)} {a_live : (Int → Int)} {a_size : (Int → Int)} {a_list : (Int → Int)} {a_moved : (Int → Int)} {a_planned : (Int → Int)} {a_stream : (Int → Int)} {a_reportedEnd : (Int → Int)} {a_reportedKeyword : (Int → Int)} {a_starts : (Int → Int)} {a_keywordAt : (Int → Int)} {a_element : (Int → Int)} {a_long1 : (Int → Int)} {a_head : (Int → Int)} {a_tail : (Int → Int)} {a_next : (Int → Int)} {a_skip : (Int → Int)} {a_last : (Int → Int)} {a_whole : (Int → Int)} {a_edges : (Int → Int)} {a_covers : (Int → Int)} {a_weighs : (Int → Int)} {a_numbers : (Int → Int)} {a_takes : (Int → Int)} {a_takenAt : (Int → Int)} {pz1 : Int} {pz2 : Int} {r : Int} (hs : s_X8_misses x_isFolding a_length a_bytes a_stream pz1 pz2 = some r) : Met l yX8_misses wsX8_misses rm_X8_misses (PR D vwCl [(cI, .int), (cZ, .boolean), (cJ, .long)] [.ref (ad 0), .int (iI pz1), .int (iI pz2)] (wM cI cZ cJ ad x_thrown x_buffered x_given x_isFolding x_work x_rebuilt x_streamed x_reports x_gapFrom x_gapSize x_elements x_wholeSize x_isLaid x_takenMany a_buffer a_length a_bytes a_weight a_live a_size a_list a_moved a_planned a_stream a_reportedEnd a_reportedKeyword a_starts a_keywordAt a_element a_long1 a_head a_tail a_next a_skip a_last a_whole a_edges a_covers a_weighs a_numbers a_takes a_takenAt)) (QR (some (.int (iI r)))) 0 0 (fun _ => False) := by
  refine Met.ofW (cc := cX8_misses) (maxL := 5) (ret := (some .int)) (by decide) rfl ?_
  intro p e s m args below meth c s₁ B hml hv
  obtain ⟨hav, hP, hK⟩ := hv
  have hx := B.exec
  have hb := B.bytes
  have hr := B.returns
  have hts := atoms_spec (ws := wsX8_misses) B.pre
  have hown : s.vm.findClass RX8 = some m.cls := findClass_of_methodNamed B.named
  have hlk := B.notSynchronized
  have hf17 : (Cond.fieldLink RX8 17 "KeywordMatcherModel" "length" "[I").before args s = true := hts _ (List.mem_of_getElem? (i := 1) rfl)
  have hiX8 : ∀ w ∈ wsX80, w ∈ wsX8_misses := fun w h => List.mem_cons_of_mem _ (List.mem_append_right _ h)
  have hf42 : (Cond.fieldLink RX8 42 "KeywordMatcherModel" "stream" "[I").before args s = true := hts _ (List.mem_of_getElem? (i := 2) rfl)
  have hl := lv_entry ([.ref (ad 0), .int (iI pz1), .int (iI pz2)]) (n := 5) (Nat.le_of_ble_eq_true rfl)
  rw [show entryFrame m args 5 = entryFrame m ([.ref (ad 0), .int (iI pz1), .int (iI pz2)] : List Value).toArray 5 from by rw [hav], lg_entry_eq]
  generalize (lg_sl ([.ref (ad 0), .int (iI pz1), .int (iI pz2)]) ++ List.replicate (5 - (lg_sl ([.ref (ad 0), .int (iI pz1), .int (iI pz2)])).length) Slot.unset).toArray = ls at hl ⊢
  have hl : lv_has ls 5 [(0, .ref (ad 0)), (1, .int (iI pz1)), (2, .int (iI pz2))] := hl
  unfold s_X8_misses at hs
  have Lz5 : ∀ (fu : Nat) (l1 : Int) (l2 : Int) (l3 : Int) (l4 : Int) (y0 : Int), s_X8_misses_5 fu x_isFolding a_length a_bytes a_stream l1 l2 l3 l4 = some y0 → ∀ ls : Array Slot, lv_has ls 5 [(0, .ref (ad 0)), (1, .int (iI l1)), (2, .int (iI l2)), (3, .int (iI l3)), (4, .int (iI l4))] → (∀ ls : Array Slot, lv_has ls 5 [(3, .int (iI y0))] → W p l e (headSpec wsX8_misses rm_X8_misses).room s m args below meth c s.heap [] 0 0 (MQ below (QR (some (.int (iI r)))) args s 0 0 (fun _ => False)) (F0 m 53 ls [])) → W p l e (headSpec wsX8_misses rm_X8_misses).room s m args below meth c s.heap [] 0 0 (MQ below (QR (some (.int (iI r)))) args s 0 0 (fun _ => False)) (F0 m 5 ls []) := by
    intro fu
    induction fu with
    | zero => intro l1 l2 l3 l4 y0 hs; cases hs
    | succ fu ih =>
      intro l1 l2 l3 l4 y0 hs ls hl kx
      rw [s_X8_misses_5_s] at hs
      refine lv_iload hx hb dX8_misses_5 (lv_at hl 4 rfl) ?_
      refine lv_aload_n hx hb dX8_misses_7 rfl (lv_at hl 0 rfl) ?_
      refine va_get (ci := 8) (v := .ref (ad 2)) (C := RX8) (T := TX8) (N := 42) hx hb hts hiX8 hown hK hP 0 rfl rfl 3 (by decide) hf17 (fun _ h9 => h9) rfl dX8_misses_8 ?_
      refine lv_iload_n hx hb dX8_misses_11 rfl (lv_at hl 1 rfl) ?_
      refine k_iald hx hb hK hP 2 0 rfl rfl (Nat.le_of_ble_eq_true rfl) hs dX8_misses_12 (fun vz1 hs => ?_)
      refine k_icmp_ge (tgt := 53) hx hb hs dX8_misses_13 (by decide) (fun hs => ?_) (fun hs => ?_)
      · refine lv_iload_n hx hb dX8_misses_16 rfl (lv_at hl 3 rfl) ?_
        refine lv_aload_n hx hb dX8_misses_17 rfl (lv_at hl 0 rfl) ?_
        refine lv_aload_n hx hb dX8_misses_18 rfl (lv_at hl 0 rfl) ?_
        refine lv_iload_n hx hb dX8_misses_19 rfl (lv_at hl 1 rfl) ?_
        refine lv_iload hx hb dX8_misses_20 (lv_at hl 4 rfl) ?_
        obtain ⟨vz2, hcz, hs⟩ := bd1_some hs
        refine k_rV (As := [.int (iI l1), .int (iI l4)]) (rest := [.ref (ad 0), .int (iI l3)]) (st1 := [.int (iI vz2), .ref (ad 0), .int (iI l3)]) ⟨hx, hb, hml, hown, hts⟩ hK hP (c_X8_byteOf l D cI cZ cJ hcz) (cwV 2 hts gX8_misses_X8_byteOf rfl rfl rfl (by decide +kernel) ⟨Nat.le_of_ble_eq_true rfl, Nat.le_of_ble_eq_true rfl⟩) 0 rfl rfl rfl rfl hl.1 rfl (lv_room (Nat.le_of_ble_eq_true rfl)) dX8_misses_22 ⟨Nat.zero_le _, Nat.zero_le _⟩ rfl ?_
        refine lv_aload_n hx hb dX8_misses_25 rfl (lv_at hl 0 rfl) ?_
        refine va_get (ci := 8) (v := .ref (ad 10)) (C := RX8) (T := TX8) (N := 42) hx hb hts hiX8 hown hK hP 0 rfl rfl 15 (by decide) hf42 (fun _ h9 => h9) rfl dX8_misses_26 ?_
        refine lv_iload_n hx hb dX8_misses_29 rfl (lv_at hl 2 rfl) ?_
        refine lv_iload hx hb dX8_misses_30 (lv_at hl 4 rfl) ?_
        refine k_iadd hx hb dX8_misses_32 ?_
        refine k_iald hx hb hK hP 10 0 rfl rfl (Nat.le_of_ble_eq_true rfl) hs dX8_misses_33 (fun vz3 hs => ?_)
        obtain ⟨vz4, hcz, hs⟩ := bd1_some hs
        refine k_rV (As := [.int (iI vz2), .int (iI vz3)]) (rest := [.int (iI l3)]) (st1 := [.int (iI vz4), .int (iI l3)]) ⟨hx, hb, hml, hown, hts⟩ hK hP (c_X8_like l D cI cZ cJ hcz) (cwV 2 hts gX8_misses_X8_like rfl rfl rfl (by decide +kernel) ⟨Nat.le_of_ble_eq_true rfl, Nat.le_of_ble_eq_true rfl⟩) 0 rfl rfl rfl rfl hl.1 rfl (lv_room (Nat.le_of_ble_eq_true rfl)) dX8_misses_34 ⟨Nat.zero_le _, Nat.zero_le _⟩ rfl ?_
        refine k_if_eq (tgt := 44) hx hb hs dX8_misses_37 (by decide) (fun hs => ?_) (fun hs => ?_)
        · refine k_iconst (n := 1) hx hb dX8_misses_44 ?_
          refine k_iadd hx hb dX8_misses_45 ?_
          refine lv_istore_n (lv' := [(3, .int (iI (l3 + 1))), (0, .ref (ad 0)), (1, .int (iI l1)), (2, .int (iI l2)), (4, .int (iI l4))]) hx hb dX8_misses_46 rfl hl (by decide) rfl (fun ls hl => ?_)
          refine k_iinc (x := l4) (k := 4) (lv' := [(4, .int (iI (l4 + 1))), (3, .int (iI (l3 + 1))), (0, .ref (ad 0)), (1, .int (iI l1)), (2, .int (iI l2))]) hx hb dX8_misses_47 hl rfl (by decide) rfl (fun ls hl => ?_)
          refine lv_goto (tgt := 5) hx hb dX8_misses_50 (by decide) ?_
          exact ih l1 l2 (l3 + 1) (l4 + 1) y0 hs ls (lv_sub hl [2, 3, 4, 1, 0] rfl) kx
        · refine k_iconst (n := 0) hx hb dX8_misses_40 ?_
          refine lv_goto (tgt := 45) hx hb dX8_misses_41 (by decide) ?_
          refine k_iadd hx hb dX8_misses_45 ?_
          refine lv_istore_n (lv' := [(3, .int (iI (l3 + 0))), (0, .ref (ad 0)), (1, .int (iI l1)), (2, .int (iI l2)), (4, .int (iI l4))]) hx hb dX8_misses_46 rfl hl (by decide) rfl (fun ls hl => ?_)
          refine k_iinc (x := l4) (k := 4) (lv' := [(4, .int (iI (l4 + 1))), (3, .int (iI (l3 + 0))), (0, .ref (ad 0)), (1, .int (iI l1)), (2, .int (iI l2))]) hx hb dX8_misses_47 hl rfl (by decide) rfl (fun ls hl => ?_)
          refine lv_goto (tgt := 5) hx hb dX8_misses_50 (by decide) ?_
          exact ih l1 l2 (l3 + 0) (l4 + 1) y0 hs ls (lv_sub hl [2, 3, 4, 1, 0] rfl) kx
      · cases hs
        exact kx ls (lv_sub hl [3] rfl)
  refine k_iconst (n := 0) hx hb dX8_misses_0 ?_
  refine lv_istore_n (lv' := [(3, .int (iI 0)), (0, .ref (ad 0)), (1, .int (iI pz1)), (2, .int (iI pz2))]) hx hb dX8_misses_1 rfl hl (by decide) rfl (fun ls hl => ?_)
  refine k_iconst (n := 0) hx hb dX8_misses_2 ?_
  refine lv_istore (lv' := [(4, .int (iI 0)), (3, .int (iI 0)), (0, .ref (ad 0)), (1, .int (iI pz1)), (2, .int (iI pz2))]) hx hb dX8_misses_3 hl (by decide) rfl (fun ls hl => ?_)
  obtain ⟨ez5, hq, hs⟩ := bd1_some hs
  refine Lz5 FU pz1 pz2 0 0 ez5 hq ls (lv_sub hl [2, 3, 4, 1, 0] rfl) ?_
  intro ls hl
  refine lv_iload_n hx hb dX8_misses_53 rfl (lv_at hl 0 rfl) ?_
  cases hs
  exact k_iret_r hx hb hr hlk rfl dX8_misses_54 rfl
/-! X8_nearMatchCount -/
set_option maxHeartbeats 4000000 in
set_option maxRecDepth 100000 in
theorem c_X8_nearMatchCount (l : Launch) (D : va_G) (cI cZ cJ : ClassId) {ad : Nat → Nat} {x_thrown : Int} {x_buffered : Int} {x_given : Int} {x_isFolding : Int} {x_work : Int} {x_rebuilt : Int} {x_streamed : Int} {x_reports : Int} {x_gapFrom : Int} {x_gapSize : Int} {x_elements : Int} {x_wholeSize : Int} {x_isLaid : Int} {x_takenMany : Int} {a_buffer : (Int → Int)} {a_length : (Int → Int)} {a_bytes : (Int → Int)} {a_weight : (Int → Int)} {a_live : (Int → Int)} {a_size : (Int → Int)} {a_list : (Int → Int)} {a_moved : (Int → Int)} {a_planned : (Int → Int)} {a_stream : (Int → Int)} {a_reportedEnd : (Int → Int)} {a_reportedKeyword : (Int → Int)} {a_starts : (Int → Int)} {a_keywordAt : (Int → Int)} {a_element : (Int → Int)} {a_long1 : (Int → Int)} {a_head : (Int → Int)} {a_tail : (Int → Int)} {a_next : (Int → Int)} {a_skip : (Int → Int)} {a_last : (Int → Int)} {a_whole : (Int → Int)} {a_edges : (Int → Int)} {a_covers : (Int → Int)} {a_weighs : (Int → Int)} {a_numbers : (Int → Int)} {a_takes : (Int → Int)} {a_takenAt : (Int → Int)} {pz1 : Int} {pz2 : Int} {r : Int} {y_x_thrown : Int} {sz : Nat} (hs : s_X8_nearMatchCount x_thrown x_given x_isFolding x_streamed a_length a_bytes a_live a_stream pz1 pz2 = some (r, y_x_thrown)) : Met l yX8_nearMatchCount wsX8_nearMatchCount rm_X8_nearMatchCount (PW D vwCl [(cI, .int), (cZ, .boolean), (cJ, .long)] [.ref (ad 0), .int (iI pz1), .int (iI pz2)] (wM cI cZ cJ ad x_thrown x_buffered x_given x_isFolding x_work x_rebuilt x_streamed x_reports x_gapFrom x_gapSize x_elements x_wholeSize x_isLaid x_takenMany a_buffer a_length a_bytes a_weight a_live a_size a_list a_moved a_planned a_stream a_reportedEnd a_reportedKeyword a_starts a_keywordAt a_element a_long1 a_head a_tail a_next a_skip a_last a_whole a_edges a_covers a_weighs a_numbers a_takes a_takenAt) sz) (QW D vwCl (some (.int (iI r))) (wM cI cZ cJ ad y_x_thrown x_buffered x_given x_isFolding x_work x_rebuilt x_streamed x_reports x_gapFrom x_gapSize x_elements x_wholeSize x_isLaid x_takenMany a_buffer a_length a_bytes a_weight a_live a_size a_list a_moved a_planned a_stream a_reportedEnd a_reportedKeyword a_starts a_keywordAt a_element a_long1 a_head a_tail a_next a_skip a_last a_whole a_edges a_covers a_weighs a_numbers a_takes a_takenAt) (va_A (wM cI cZ cJ ad x_thrown x_buffered x_given x_isFolding x_work x_rebuilt x_streamed x_reports x_gapFrom x_gapSize x_elements x_wholeSize x_isLaid x_takenMany a_buffer a_length a_bytes a_weight a_live a_size a_list a_moved a_planned a_stream a_reportedEnd a_reportedKeyword a_starts a_keywordAt a_element a_long1 a_head a_tail a_next a_skip a_last a_whole a_edges a_covers a_weighs a_numbers a_takes a_takenAt) sz)) 0 0 (va_A (wM cI cZ cJ ad x_thrown x_buffered x_given x_isFolding x_work x_rebuilt x_streamed x_reports x_gapFrom x_gapSize x_elements x_wholeSize x_isLaid x_takenMany a_buffer a_length a_bytes a_weight a_live a_size a_list a_moved a_planned a_stream a_reportedEnd a_reportedKeyword a_starts a_keywordAt a_element a_long1 a_head a_tail a_next a_skip a_last a_whole a_edges a_covers a_weighs a_numbers a_takes a_takenAt) sz) := by
  refine Met.ofW (cc := cX8_nearMatchCount) (maxL := 5) (ret := (some .int)) (by decide) rfl ?_
  intro p e s m args below meth c s₁ B hml hv
  obtain ⟨hav, hsz, hP, hK, hD0⟩ := hv
  have hx := B.exec
  have hb := B.bytes
  have hr := B.returns
  have hts := atoms_spec (ws := wsX8_nearMatchCount) B.pre
  have hown : s.vm.findClass RX8 = some m.cls := findClass_of_methodNamed B.named
  have hlk := B.notSynchronized
  have hf1 : (Cond.fieldLink RX8 1 "KeywordMatcherModel" "thrown" "I").before args s = true := hts _ (List.mem_of_getElem? (i := 1) rfl)
  have hiX8 : ∀ w ∈ wsX80, w ∈ wsX8_nearMatchCount := fun w h => List.mem_cons_of_mem _ (List.mem_append_right _ h)
  have hc230 : (Cond.constantLong RX8 230 (3)).before args s = true := hts _ (List.mem_of_getElem? (i := 2) rfl)
  have hf17 : (Cond.fieldLink RX8 17 "KeywordMatcherModel" "length" "[I").before args s = true := hts _ (List.mem_of_getElem? (i := 3) rfl)
  have hf170 : (Cond.fieldLink RX8 170 "KeywordMatcherModel" "streamed" "I").before args s = true := hts _ (List.mem_of_getElem? (i := 4) rfl)
  subst hsz
  have hD := hD0.self (sz := s.heap.size)
  generalize hAe : va_A (wM cI cZ cJ ad x_thrown x_buffered x_given x_isFolding x_work x_rebuilt x_streamed x_reports x_gapFrom x_gapSize x_elements x_wholeSize x_isLaid x_takenMany a_buffer a_length a_bytes a_weight a_live a_size a_list a_moved a_planned a_stream a_reportedEnd a_reportedKeyword a_starts a_keywordAt a_element a_long1 a_head a_tail a_next a_skip a_last a_whole a_edges a_covers a_weighs a_numbers a_takes a_takenAt) s.heap.size = Az at hD ⊢
  have hA : ∀ q : Nat, s.heap.size ≤ q → Az q := fun q h => by rw [← hAe]; exact Or.inr h
  clear hAe
  have hSz : va_S Az s.heap s.heap [] := va_S.rf
  obtain ⟨wz, hw1⟩ : ∃ z : va_W, z = (wM cI cZ cJ ad y_x_thrown x_buffered x_given x_isFolding x_work x_rebuilt x_streamed x_reports x_gapFrom x_gapSize x_elements x_wholeSize x_isLaid x_takenMany a_buffer a_length a_bytes a_weight a_live a_size a_list a_moved a_planned a_stream a_reportedEnd a_reportedKeyword a_starts a_keywordAt a_element a_long1 a_head a_tail a_next a_skip a_last a_whole a_edges a_covers a_weighs a_numbers a_takes a_takenAt) := ⟨_, rfl⟩
  rw [← hw1]
  have hl := lv_entry ([.ref (ad 0), .int (iI pz1), .int (iI pz2)]) (n := 5) (Nat.le_of_ble_eq_true rfl)
  rw [show entryFrame m args 5 = entryFrame m ([.ref (ad 0), .int (iI pz1), .int (iI pz2)] : List Value).toArray 5 from by rw [hav], lg_entry_eq]
  generalize (lg_sl ([.ref (ad 0), .int (iI pz1), .int (iI pz2)]) ++ List.replicate (5 - (lg_sl ([.ref (ad 0), .int (iI pz1), .int (iI pz2)])).length) Slot.unset).toArray = ls at hl ⊢
  have hl : lv_has ls 5 [(0, .ref (ad 0)), (1, .int (iI pz1)), (2, .int (iI pz2))] := hl
  unfold s_X8_nearMatchCount at hs
  have Lz36 : ∀ (fu : Nat) (x_thrown : Int) (l1 : Int) (l2 : Int) (l3 : Int) (l4 : Int) (y0 : Int), s_X8_nearMatchCount_36 fu x_isFolding x_streamed a_length a_bytes a_stream l1 l2 l3 l4 = some y0 → ∀ (Hz : Heap) (lz : List Loc), va_P D vwCl (wM cI cZ cJ ad x_thrown x_buffered x_given x_isFolding x_work x_rebuilt x_streamed x_reports x_gapFrom x_gapSize x_elements x_wholeSize x_isLaid x_takenMany a_buffer a_length a_bytes a_weight a_live a_size a_list a_moved a_planned a_stream a_reportedEnd a_reportedKeyword a_starts a_keywordAt a_element a_long1 a_head a_tail a_next a_skip a_last a_whole a_edges a_covers a_weighs a_numbers a_takes a_takenAt) Hz → va_D Az (wM cI cZ cJ ad x_thrown x_buffered x_given x_isFolding x_work x_rebuilt x_streamed x_reports x_gapFrom x_gapSize x_elements x_wholeSize x_isLaid x_takenMany a_buffer a_length a_bytes a_weight a_live a_size a_list a_moved a_planned a_stream a_reportedEnd a_reportedKeyword a_starts a_keywordAt a_element a_long1 a_head a_tail a_next a_skip a_last a_whole a_edges a_covers a_weighs a_numbers a_takes a_takenAt) → va_S Az s.heap Hz lz → ∀ ls : Array Slot, lv_has ls 5 [(0, .ref (ad 0)), (1, .int (iI l1)), (2, .int (iI l2)), (3, .int (iI l3)), (4, .int (iI l4))] → (∀ (Hz : Heap) (lz : List Loc), va_P D vwCl (wM cI cZ cJ ad x_thrown x_buffered x_given x_isFolding x_work x_rebuilt x_streamed x_reports x_gapFrom x_gapSize x_elements x_wholeSize x_isLaid x_takenMany a_buffer a_length a_bytes a_weight a_live a_size a_list a_moved a_planned a_stream a_reportedEnd a_reportedKeyword a_starts a_keywordAt a_element a_long1 a_head a_tail a_next a_skip a_last a_whole a_edges a_covers a_weighs a_numbers a_takes a_takenAt) Hz → va_D Az (wM cI cZ cJ ad x_thrown x_buffered x_given x_isFolding x_work x_rebuilt x_streamed x_reports x_gapFrom x_gapSize x_elements x_wholeSize x_isLaid x_takenMany a_buffer a_length a_bytes a_weight a_live a_size a_list a_moved a_planned a_stream a_reportedEnd a_reportedKeyword a_starts a_keywordAt a_element a_long1 a_head a_tail a_next a_skip a_last a_whole a_edges a_covers a_weighs a_numbers a_takes a_takenAt) → va_S Az s.heap Hz lz → ∀ ls : Array Slot, lv_has ls 5 [(3, .int (iI y0))] → W p l e (headSpec wsX8_nearMatchCount rm_X8_nearMatchCount).room s m args below meth c Hz lz 0 0 (MQ below (QW D vwCl (some (.int (iI r))) wz Az) args s 0 0 Az) (F0 m 77 ls [])) → W p l e (headSpec wsX8_nearMatchCount rm_X8_nearMatchCount).room s m args below meth c Hz lz 0 0 (MQ below (QW D vwCl (some (.int (iI r))) wz Az) args s 0 0 Az) (F0 m 36 ls []) := by
    intro fu
    induction fu with
    | zero => intro x_thrown l1 l2 l3 l4 y0 hs; cases hs
    | succ fu ih =>
      intro x_thrown l1 l2 l3 l4 y0 hs Hz lz hP hD hSz ls hl kx
      rw [s_X8_nearMatchCount_36_s] at hs
      refine lv_iload hx hb dX8_nearMatchCount_36 (lv_at hl 4 rfl) ?_
      refine lv_aload_n hx hb dX8_nearMatchCount_38 rfl (lv_at hl 0 rfl) ?_
      refine va_get (ci := 8) (v := .ref (ad 2)) (C := RX8) (T := TX8) (N := 42) hx hb hts hiX8 hown hK hP 0 rfl rfl 3 (by decide) hf17 (fun _ h9 => h9) rfl dX8_nearMatchCount_39 ?_
      refine lv_iload_n hx hb dX8_nearMatchCount_42 rfl (lv_at hl 1 rfl) ?_
      refine k_iald hx hb hK hP 2 0 rfl rfl (Nat.le_of_ble_eq_true rfl) hs dX8_nearMatchCount_43 (fun vz3 hs => ?_)
      refine k_iadd hx hb dX8_nearMatchCount_44 ?_
      refine lv_aload_n hx hb dX8_nearMatchCount_45 rfl (lv_at hl 0 rfl) ?_
      refine va_get (ci := 8) (v := .int (iI x_streamed)) (C := RX8) (T := TX8) (N := 42) hx hb hts hiX8 hown hK hP 0 rfl rfl 18 (by decide) hf170 (fun _ h9 => h9) rfl dX8_nearMatchCount_46 ?_
      refine k_icmp_gt (tgt := 77) hx hb hs dX8_nearMatchCount_49 (by decide) (fun hs => ?_) (fun hs => ?_)
      · cases hs
        exact kx Hz lz hP hD hSz ls (lv_sub hl [3] rfl)
      · refine lv_iload_n hx hb dX8_nearMatchCount_52 rfl (lv_at hl 3 rfl) ?_
        refine lv_aload_n hx hb dX8_nearMatchCount_53 rfl (lv_at hl 0 rfl) ?_
        refine lv_iload_n hx hb dX8_nearMatchCount_54 rfl (lv_at hl 1 rfl) ?_
        refine lv_iload hx hb dX8_nearMatchCount_55 (lv_at hl 4 rfl) ?_
        obtain ⟨vz4, hcz, hs⟩ := bd1_some hs
        refine k_rV (As := [.int (iI l1), .int (iI l4)]) (rest := [.int (iI l3)]) (st1 := [.int (iI vz4), .int (iI l3)]) ⟨hx, hb, hml, hown, hts⟩ hK hP (c_X8_misses l D cI cZ cJ hcz) (cwV 2 hts gX8_nearMatchCount_X8_misses rfl rfl rfl (by decide +kernel) ⟨Nat.le_of_ble_eq_true rfl, Nat.le_of_ble_eq_true rfl⟩) 0 rfl rfl rfl rfl hl.1 rfl (lv_room (Nat.le_of_ble_eq_true rfl)) dX8_nearMatchCount_57 ⟨Nat.zero_le _, Nat.zero_le _⟩ rfl ?_
        refine lv_iload_n hx hb dX8_nearMatchCount_60 rfl (lv_at hl 2 rfl) ?_
        refine k_icmp_gt (tgt := 68) hx hb hs dX8_nearMatchCount_61 (by decide) (fun hs => ?_) (fun hs => ?_)
        · refine k_iconst (n := 0) hx hb dX8_nearMatchCount_68 ?_
          refine k_iadd hx hb dX8_nearMatchCount_69 ?_
          refine lv_istore_n (lv' := [(3, .int (iI (l3 + 0))), (0, .ref (ad 0)), (1, .int (iI l1)), (2, .int (iI l2)), (4, .int (iI l4))]) hx hb dX8_nearMatchCount_70 rfl hl (by decide) rfl (fun ls hl => ?_)
          refine k_iinc (x := l4) (k := 4) (lv' := [(4, .int (iI (l4 + 1))), (3, .int (iI (l3 + 0))), (0, .ref (ad 0)), (1, .int (iI l1)), (2, .int (iI l2))]) hx hb dX8_nearMatchCount_71 hl rfl (by decide) rfl (fun ls hl => ?_)
          refine lv_goto (tgt := 36) hx hb dX8_nearMatchCount_74 (by decide) ?_
          exact ih x_thrown l1 l2 (l3 + 0) (l4 + 1) y0 hs Hz lz hP hD hSz ls (lv_sub hl [2, 3, 4, 1, 0] rfl) kx
        · refine k_iconst (n := 1) hx hb dX8_nearMatchCount_64 ?_
          refine lv_goto (tgt := 69) hx hb dX8_nearMatchCount_65 (by decide) ?_
          refine k_iadd hx hb dX8_nearMatchCount_69 ?_
          refine lv_istore_n (lv' := [(3, .int (iI (l3 + 1))), (0, .ref (ad 0)), (1, .int (iI l1)), (2, .int (iI l2)), (4, .int (iI l4))]) hx hb dX8_nearMatchCount_70 rfl hl (by decide) rfl (fun ls hl => ?_)
          refine k_iinc (x := l4) (k := 4) (lv' := [(4, .int (iI (l4 + 1))), (3, .int (iI (l3 + 1))), (0, .ref (ad 0)), (1, .int (iI l1)), (2, .int (iI l2))]) hx hb dX8_nearMatchCount_71 hl rfl (by decide) rfl (fun ls hl => ?_)
          refine lv_goto (tgt := 36) hx hb dX8_nearMatchCount_74 (by decide) ?_
          exact ih x_thrown l1 l2 (l3 + 1) (l4 + 1) y0 hs Hz lz hP hD hSz ls (lv_sub hl [2, 3, 4, 1, 0] rfl) kx
  refine (?_ : ∀ (Hz : Heap) (lz : List Loc), va_P D vwCl (wM cI cZ cJ ad x_thrown x_buffered x_given x_isFolding x_work x_rebuilt x_streamed x_reports x_gapFrom x_gapSize x_elements x_wholeSize x_isLaid x_takenMany a_buffer a_length a_bytes a_weight a_live a_size a_list a_moved a_planned a_stream a_reportedEnd a_reportedKeyword a_starts a_keywordAt a_element a_long1 a_head a_tail a_next a_skip a_last a_whole a_edges a_covers a_weighs a_numbers a_takes a_takenAt) Hz → va_D Az (wM cI cZ cJ ad x_thrown x_buffered x_given x_isFolding x_work x_rebuilt x_streamed x_reports x_gapFrom x_gapSize x_elements x_wholeSize x_isLaid x_takenMany a_buffer a_length a_bytes a_weight a_live a_size a_list a_moved a_planned a_stream a_reportedEnd a_reportedKeyword a_starts a_keywordAt a_element a_long1 a_head a_tail a_next a_skip a_last a_whole a_edges a_covers a_weighs a_numbers a_takes a_takenAt) → va_S Az s.heap Hz lz → W p l e (headSpec wsX8_nearMatchCount rm_X8_nearMatchCount).room s m args below meth c Hz lz 0 0 (MQ below (QW D vwCl (some (.int (iI r))) wz Az) args s 0 0 Az) (F0 m 0 ls [])) s.heap [] hP hD hSz
  intro Hz lz hP hD hSz
  refine lv_aload_n hx hb dX8_nearMatchCount_0 rfl (lv_at hl 0 rfl) ?_
  refine k_iconst (n := 0) hx hb dX8_nearMatchCount_1 ?_
  refine va_put (ci := 8) (v := .int (iI 0)) (ty := .int) (C := RX8) (T := TX8) (N := 42) hx hb hts hiX8 tyX8 tyX8_ok nmX8 hown hK hP hD hSz 0 rfl rfl 0 (by decide) hf1 (fun _ h9 => h9) rfl (by decide +kernel) rfl rfl (Nat.le_of_ble_eq_true rfl) dX8_nearMatchCount_2 (fun Hz lz hP hD hSz => ?_)
  have hP : va_P D vwCl (wM cI cZ cJ ad 0 x_buffered x_given x_isFolding x_work x_rebuilt x_streamed x_reports x_gapFrom x_gapSize x_elements x_wholeSize x_isLaid x_takenMany a_buffer a_length a_bytes a_weight a_live a_size a_list a_moved a_planned a_stream a_reportedEnd a_reportedKeyword a_starts a_keywordAt a_element a_long1 a_head a_tail a_next a_skip a_last a_whole a_edges a_covers a_weighs a_numbers a_takes a_takenAt) Hz := hP
  have hD : va_D Az (wM cI cZ cJ ad 0 x_buffered x_given x_isFolding x_work x_rebuilt x_streamed x_reports x_gapFrom x_gapSize x_elements x_wholeSize x_isLaid x_takenMany a_buffer a_length a_bytes a_weight a_live a_size a_list a_moved a_planned a_stream a_reportedEnd a_reportedKeyword a_starts a_keywordAt a_element a_long1 a_head a_tail a_next a_skip a_last a_whole a_edges a_covers a_weighs a_numbers a_takes a_takenAt) := hD
  refine lv_aload_n hx hb dX8_nearMatchCount_5 rfl (lv_at hl 0 rfl) ?_
  refine lv_iload_n hx hb dX8_nearMatchCount_6 rfl (lv_at hl 1 rfl) ?_
  obtain ⟨vz1, hcz, hs⟩ := bd1_some hs
  refine k_rV (As := [.int (iI pz1)]) (rest := []) (st1 := [.int (iI vz1)]) ⟨hx, hb, hml, hown, hts⟩ hK hP (c_X8_isLiveOne l D cI cZ cJ hcz) (cwV 1 hts gX8_nearMatchCount_X8_isLiveOne rfl rfl rfl (by decide +kernel) ⟨Nat.le_of_ble_eq_true rfl, Nat.le_of_ble_eq_true rfl⟩) 0 rfl rfl rfl rfl hl.1 rfl (lv_room (Nat.le_of_ble_eq_true rfl)) dX8_nearMatchCount_7 ⟨Nat.zero_le _, Nat.zero_le _⟩ rfl ?_
  refine k_if_ne (tgt := 16) hx hb hs dX8_nearMatchCount_10 (by decide) (fun hs => ?_) (fun hs => ?_)
  · refine k_bipush (n := (-2)) hx hb (by decide) dX8_nearMatchCount_13 ?_
    cases hs
    exact k_iret_w hx hb hr hlk (by rw [hw1]; exact hP) hSz dX8_nearMatchCount_15 rfl
  · refine lv_iload_n hx hb dX8_nearMatchCount_16 rfl (lv_at hl 2 rfl) ?_
    refine k_i2l hx hb hs dX8_nearMatchCount_17 (fun hs => ?_)
    refine k_lconst (v := 0) hx hb (by decide) dX8_nearMatchCount_18 ?_
    refine k_ldc2 (n := 3) hx hb (by decide) hown hc230 dX8_nearMatchCount_19 ?_
    obtain ⟨vz2, hcz, hs⟩ := bd1_some hs
    refine k_rS (As := [.long (iL pz2), .long (iL 0), .long (iL 3)]) (rest := []) (st1 := [.int (iI vz2)]) ⟨hx, hb, hml, hown, hts⟩ hK (va_P_nil (D := D) (cl := vwCl)) (c_X8_isIn l D cI cZ cJ hcz) (va_cwS 3 hts gX8_nearMatchCount_X8_isIn rfl rfl rfl (by decide +kernel) ⟨Nat.le_of_ble_eq_true rfl, Nat.le_of_ble_eq_true rfl⟩) rfl hl.1 rfl (lv_room (Nat.le_of_ble_eq_true rfl)) dX8_nearMatchCount_22 ⟨Nat.zero_le _, Nat.zero_le _⟩ rfl ?_
    refine k_if_ne (tgt := 31) hx hb hs dX8_nearMatchCount_25 (by decide) (fun hs => ?_) (fun hs => ?_)
    · refine k_bipush (n := (-3)) hx hb (by decide) dX8_nearMatchCount_28 ?_
      cases hs
      exact k_iret_w hx hb hr hlk (by rw [hw1]; exact hP) hSz dX8_nearMatchCount_30 rfl
    · refine k_iconst (n := 0) hx hb dX8_nearMatchCount_31 ?_
      refine lv_istore_n (lv' := [(3, .int (iI 0)), (0, .ref (ad 0)), (1, .int (iI pz1)), (2, .int (iI pz2))]) hx hb dX8_nearMatchCount_32 rfl hl (by decide) rfl (fun ls hl => ?_)
      refine k_iconst (n := 0) hx hb dX8_nearMatchCount_33 ?_
      refine lv_istore (lv' := [(4, .int (iI 0)), (3, .int (iI 0)), (0, .ref (ad 0)), (1, .int (iI pz1)), (2, .int (iI pz2))]) hx hb dX8_nearMatchCount_34 hl (by decide) rfl (fun ls hl => ?_)
      obtain ⟨ez5, hq, hs⟩ := bd1_some hs
      refine Lz36 FU 0 pz1 pz2 0 0 ez5 hq Hz lz hP hD hSz ls (lv_sub hl [2, 3, 4, 1, 0] rfl) ?_
      intro Hz lz hP hD hSz ls hl
      refine lv_iload_n hx hb dX8_nearMatchCount_77 rfl (lv_at hl 0 rfl) ?_
      cases hs
      exact k_iret_w hx hb hr hlk (by rw [hw1]; exact hP) hSz dX8_nearMatchCount_78 rfl
/-! X8_nearest -/
set_option maxHeartbeats 4000000 in
set_option maxRecDepth 100000 in
theorem c_X8_nearest (l : Launch) (D : va_G) (cI cZ cJ : ClassId) {ad : Nat → Nat} {x_thrown : Int} {x_buffered : Int} {x_given : Int} {x_isFolding : Int} {x_work : Int} {x_rebuilt : Int} {x_streamed : Int} {x_reports : Int} {x_gapFrom : Int} {x_gapSize : Int} {x_elements : Int} {x_wholeSize : Int} {x_isLaid : Int} {x_takenMany : Int} {a_buffer : (Int → Int)} {a_length : (Int → Int)} {a_bytes : (Int → Int)} {a_weight : (Int → Int)} {a_live : (Int → Int)} {a_size : (Int → Int)} {a_list : (Int → Int)} {a_moved : (Int → Int)} {a_planned : (Int → Int)} {a_stream : (Int → Int)} {a_reportedEnd : (Int → Int)} {a_reportedKeyword : (Int → Int)} {a_starts : (Int → Int)} {a_keywordAt : (Int → Int)} {a_element : (Int → Int)} {a_long1 : (Int → Int)} {a_head : (Int → Int)} {a_tail : (Int → Int)} {a_next : (Int → Int)} {a_skip : (Int → Int)} {a_last : (Int → Int)} {a_whole : (Int → Int)} {a_edges : (Int → Int)} {a_covers : (Int → Int)} {a_weighs : (Int → Int)} {a_numbers : (Int → Int)} {a_takes : (Int → Int)} {a_takenAt : (Int → Int)} {pz1 : Int} {r : Int} (hs : s_X8_nearest x_isFolding x_streamed a_length a_bytes a_stream pz1 = some r) : Met l yX8_nearest wsX8_nearest rm_X8_nearest (PR D vwCl [(cI, .int), (cZ, .boolean), (cJ, .long)] [.ref (ad 0), .int (iI pz1)] (wM cI cZ cJ ad x_thrown x_buffered x_given x_isFolding x_work x_rebuilt x_streamed x_reports x_gapFrom x_gapSize x_elements x_wholeSize x_isLaid x_takenMany a_buffer a_length a_bytes a_weight a_live a_size a_list a_moved a_planned a_stream a_reportedEnd a_reportedKeyword a_starts a_keywordAt a_element a_long1 a_head a_tail a_next a_skip a_last a_whole a_edges a_covers a_weighs a_numbers a_takes a_takenAt)) (QR (some (.int (iI r)))) 0 0 (fun _ => False) := by
  refine Met.ofW (cc := cX8_nearest) (maxL := 4) (ret := (some .int)) (by decide) rfl ?_
  intro p e s m args below meth c s₁ B hml hv
  obtain ⟨hav, hP, hK⟩ := hv
  have hx := B.exec
  have hb := B.bytes
  have hr := B.returns
  have hts := atoms_spec (ws := wsX8_nearest) B.pre
  have hown : s.vm.findClass RX8 = some m.cls := findClass_of_methodNamed B.named
  have hlk := B.notSynchronized
  have hf17 : (Cond.fieldLink RX8 17 "KeywordMatcherModel" "length" "[I").before args s = true := hts _ (List.mem_of_getElem? (i := 1) rfl)
  have hiX8 : ∀ w ∈ wsX80, w ∈ wsX8_nearest := fun w h => List.mem_cons_of_mem _ (List.mem_append_right _ h)
  have hf170 : (Cond.fieldLink RX8 170 "KeywordMatcherModel" "streamed" "I").before args s = true := hts _ (List.mem_of_getElem? (i := 2) rfl)
  have hl := lv_entry ([.ref (ad 0), .int (iI pz1)]) (n := 4) (Nat.le_of_ble_eq_true rfl)
  rw [show entryFrame m args 4 = entryFrame m ([.ref (ad 0), .int (iI pz1)] : List Value).toArray 4 from by rw [hav], lg_entry_eq]
  generalize (lg_sl ([.ref (ad 0), .int (iI pz1)]) ++ List.replicate (4 - (lg_sl ([.ref (ad 0), .int (iI pz1)])).length) Slot.unset).toArray = ls at hl ⊢
  have hl : lv_has ls 4 [(0, .ref (ad 0)), (1, .int (iI pz1))] := hl
  unfold s_X8_nearest at hs
  have Lz4 : ∀ (fu : Nat) (l1 : Int) (l2 : Int) (l3 : Int) (y0 : Int), s_X8_nearest_4 fu x_isFolding x_streamed a_length a_bytes a_stream l1 l2 l3 = some y0 → ∀ ls : Array Slot, lv_has ls 4 [(0, .ref (ad 0)), (1, .int (iI l1)), (2, .int (iI l2)), (3, .int (iI l3))] → (∀ ls : Array Slot, lv_has ls 4 [(2, .int (iI y0))] → W p l e (headSpec wsX8_nearest rm_X8_nearest).room s m args below meth c s.heap [] 0 0 (MQ below (QR (some (.int (iI r)))) args s 0 0 (fun _ => False)) (F0 m 47 ls [])) → W p l e (headSpec wsX8_nearest rm_X8_nearest).room s m args below meth c s.heap [] 0 0 (MQ below (QR (some (.int (iI r)))) args s 0 0 (fun _ => False)) (F0 m 4 ls []) := by
    intro fu
    induction fu with
    | zero => intro l1 l2 l3 y0 hs; cases hs
    | succ fu ih =>
      intro l1 l2 l3 y0 hs ls hl kx
      rw [s_X8_nearest_4_s] at hs
      refine lv_iload_n hx hb dX8_nearest_4 rfl (lv_at hl 3 rfl) ?_
      refine lv_aload_n hx hb dX8_nearest_5 rfl (lv_at hl 0 rfl) ?_
      refine va_get (ci := 8) (v := .ref (ad 2)) (C := RX8) (T := TX8) (N := 42) hx hb hts hiX8 hown hK hP 0 rfl rfl 3 (by decide) hf17 (fun _ h9 => h9) rfl dX8_nearest_6 ?_
      refine lv_iload_n hx hb dX8_nearest_9 rfl (lv_at hl 1 rfl) ?_
      refine k_iald hx hb hK hP 2 0 rfl rfl (Nat.le_of_ble_eq_true rfl) hs dX8_nearest_10 (fun vz1 hs => ?_)
      refine k_iadd hx hb dX8_nearest_11 ?_
      refine lv_aload_n hx hb dX8_nearest_12 rfl (lv_at hl 0 rfl) ?_
      refine va_get (ci := 8) (v := .int (iI x_streamed)) (C := RX8) (T := TX8) (N := 42) hx hb hts hiX8 hown hK hP 0 rfl rfl 18 (by decide) hf170 (fun _ h9 => h9) rfl dX8_nearest_13 ?_
      refine k_icmp_gt (tgt := 47) hx hb hs dX8_nearest_16 (by decide) (fun hs => ?_) (fun hs => ?_)
      · cases hs
        exact kx ls (lv_sub hl [2] rfl)
      · refine lv_iload_n hx hb dX8_nearest_19 rfl (lv_at hl 2 rfl) ?_
        refine k_iconst (n := (-1)) hx hb dX8_nearest_20 ?_
        refine k_icmp_eq (tgt := 39) hx hb hs dX8_nearest_21 (by decide) (fun hs => ?_) (fun hs => ?_)
        · refine lv_iload_n hx hb dX8_nearest_39 rfl (lv_at hl 3 rfl) ?_
          refine lv_istore_n (lv' := [(2, .int (iI l3)), (0, .ref (ad 0)), (1, .int (iI l1)), (3, .int (iI l3))]) hx hb dX8_nearest_40 rfl hl (by decide) rfl (fun ls hl => ?_)
          refine k_iinc (x := l3) (k := 3) (lv' := [(3, .int (iI (l3 + 1))), (2, .int (iI l3)), (0, .ref (ad 0)), (1, .int (iI l1))]) hx hb dX8_nearest_41 hl rfl (by decide) rfl (fun ls hl => ?_)
          refine lv_goto (tgt := 4) hx hb dX8_nearest_44 (by decide) ?_
          exact ih l1 l3 (l3 + 1) y0 hs ls (lv_sub hl [2, 3, 1, 0] rfl) kx
        · refine lv_aload_n hx hb dX8_nearest_24 rfl (lv_at hl 0 rfl) ?_
          refine lv_iload_n hx hb dX8_nearest_25 rfl (lv_at hl 1 rfl) ?_
          refine lv_iload_n hx hb dX8_nearest_26 rfl (lv_at hl 3 rfl) ?_
          obtain ⟨vz2, hcz, hs⟩ := bd1_some hs
          refine k_rV (As := [.int (iI l1), .int (iI l3)]) (rest := []) (st1 := [.int (iI vz2)]) ⟨hx, hb, hml, hown, hts⟩ hK hP (c_X8_misses l D cI cZ cJ hcz) (cwV 2 hts gX8_nearest_X8_misses rfl rfl rfl (by decide +kernel) ⟨Nat.le_of_ble_eq_true rfl, Nat.le_of_ble_eq_true rfl⟩) 0 rfl rfl rfl rfl hl.1 rfl (lv_room (Nat.le_of_ble_eq_true rfl)) dX8_nearest_27 ⟨Nat.zero_le _, Nat.zero_le _⟩ rfl ?_
          refine lv_aload_n hx hb dX8_nearest_30 rfl (lv_at hl 0 rfl) ?_
          refine lv_iload_n hx hb dX8_nearest_31 rfl (lv_at hl 1 rfl) ?_
          refine lv_iload_n hx hb dX8_nearest_32 rfl (lv_at hl 2 rfl) ?_
          obtain ⟨vz3, hcz, hs⟩ := bd1_some hs
          refine k_rV (As := [.int (iI l1), .int (iI l2)]) (rest := [.int (iI vz2)]) (st1 := [.int (iI vz3), .int (iI vz2)]) ⟨hx, hb, hml, hown, hts⟩ hK hP (c_X8_misses l D cI cZ cJ hcz) (cwV 2 hts gX8_nearest_X8_misses rfl rfl rfl (by decide +kernel) ⟨Nat.le_of_ble_eq_true rfl, Nat.le_of_ble_eq_true rfl⟩) 0 rfl rfl rfl rfl hl.1 rfl (lv_room (Nat.le_of_ble_eq_true rfl)) dX8_nearest_33 ⟨Nat.zero_le _, Nat.zero_le _⟩ rfl ?_
          refine k_icmp_ge (tgt := 41) hx hb hs dX8_nearest_36 (by decide) (fun hs => ?_) (fun hs => ?_)
          · refine lv_iload_n hx hb dX8_nearest_39 rfl (lv_at hl 3 rfl) ?_
            refine lv_istore_n (lv' := [(2, .int (iI l3)), (0, .ref (ad 0)), (1, .int (iI l1)), (3, .int (iI l3))]) hx hb dX8_nearest_40 rfl hl (by decide) rfl (fun ls hl => ?_)
            refine k_iinc (x := l3) (k := 3) (lv' := [(3, .int (iI (l3 + 1))), (2, .int (iI l3)), (0, .ref (ad 0)), (1, .int (iI l1))]) hx hb dX8_nearest_41 hl rfl (by decide) rfl (fun ls hl => ?_)
            refine lv_goto (tgt := 4) hx hb dX8_nearest_44 (by decide) ?_
            exact ih l1 l3 (l3 + 1) y0 hs ls (lv_sub hl [2, 3, 1, 0] rfl) kx
          · refine k_iinc (x := l3) (k := 3) (lv' := [(3, .int (iI (l3 + 1))), (0, .ref (ad 0)), (1, .int (iI l1)), (2, .int (iI l2))]) hx hb dX8_nearest_41 hl rfl (by decide) rfl (fun ls hl => ?_)
            refine lv_goto (tgt := 4) hx hb dX8_nearest_44 (by decide) ?_
            exact ih l1 l2 (l3 + 1) y0 hs ls (lv_sub hl [1, 2, 3, 0] rfl) kx
  refine k_iconst (n := (-1)) hx hb dX8_nearest_0 ?_
  refine lv_istore_n (lv' := [(2, .int (iI (-1))), (0, .ref (ad 0)), (1, .int (iI pz1))]) hx hb dX8_nearest_1 rfl hl (by decide) rfl (fun ls hl => ?_)
  refine k_iconst (n := 0) hx hb dX8_nearest_2 ?_
  refine lv_istore_n (lv' := [(3, .int (iI 0)), (2, .int (iI (-1))), (0, .ref (ad 0)), (1, .int (iI pz1))]) hx hb dX8_nearest_3 rfl hl (by decide) rfl (fun ls hl => ?_)
  obtain ⟨ez4, hq, hs⟩ := bd1_some hs
  refine Lz4 FU pz1 (-1) 0 ez4 hq ls (lv_sub hl [2, 3, 1, 0] rfl) ?_
  intro ls hl
  refine lv_iload_n hx hb dX8_nearest_47 rfl (lv_at hl 0 rfl) ?_
  cases hs
  exact k_iret_r hx hb hr hlk rfl dX8_nearest_48 rfl
/-! X8_fewestMismatches -/
set_option maxHeartbeats 4000000 in
set_option maxRecDepth 100000 in
theorem c_X8_fewestMismatches (l : Launch) (D : va_G) (cI cZ cJ : ClassId) {ad : Nat → Nat} {x_thrown : Int} {x_buffered : Int} {x_given : Int} {x_isFolding : Int} {x_work : Int} {x_rebuilt : Int} {x_streamed : Int} {x_reports : Int} {x_gapFrom : Int} {x_gapSize : Int} {x_elements : Int} {x_wholeSize : Int} {x_isLaid : Int} {x_takenMany : Int} {a_buffer : (Int → Int)} {a_length : (Int → Int)} {a_bytes : (Int → Int)} {a_weight : (Int → Int)} {a_live : (Int → Int)} {a_size : (Int → Int)} {a_list : (Int → Int)} {a_moved : (Int → Int)} {a_planned : (Int → Int)} {a_stream : (Int → Int)} {a_reportedEnd : (Int → Int)} {a_reportedKeyword : (Int → Int)} {a_starts : (Int → Int)} {a_keywordAt : (Int → Int)} {a_element : (Int → Int)} {a_long1 : (Int → Int)} {a_head : (Int → Int)} {a_tail : (Int → Int)} {a_next : (Int → Int)} {a_skip : (Int → Int)} {a_last : (Int → Int)} {a_whole : (Int → Int)} {a_edges : (Int → Int)} {a_covers : (Int → Int)} {a_weighs : (Int → Int)} {a_numbers : (Int → Int)} {a_takes : (Int → Int)} {a_takenAt : (Int → Int)} {pz1 : Int} {r : Int} {y_x_thrown : Int} {sz : Nat} (hs : s_X8_fewestMismatches x_thrown x_given x_isFolding x_streamed a_length a_bytes a_live a_stream pz1 = some (r, y_x_thrown)) : Met l yX8_fewestMismatches wsX8_fewestMismatches rm_X8_fewestMismatches (PW D vwCl [(cI, .int), (cZ, .boolean), (cJ, .long)] [.ref (ad 0), .int (iI pz1)] (wM cI cZ cJ ad x_thrown x_buffered x_given x_isFolding x_work x_rebuilt x_streamed x_reports x_gapFrom x_gapSize x_elements x_wholeSize x_isLaid x_takenMany a_buffer a_length a_bytes a_weight a_live a_size a_list a_moved a_planned a_stream a_reportedEnd a_reportedKeyword a_starts a_keywordAt a_element a_long1 a_head a_tail a_next a_skip a_last a_whole a_edges a_covers a_weighs a_numbers a_takes a_takenAt) sz) (QW D vwCl (some (.int (iI r))) (wM cI cZ cJ ad y_x_thrown x_buffered x_given x_isFolding x_work x_rebuilt x_streamed x_reports x_gapFrom x_gapSize x_elements x_wholeSize x_isLaid x_takenMany a_buffer a_length a_bytes a_weight a_live a_size a_list a_moved a_planned a_stream a_reportedEnd a_reportedKeyword a_starts a_keywordAt a_element a_long1 a_head a_tail a_next a_skip a_last a_whole a_edges a_covers a_weighs a_numbers a_takes a_takenAt) (va_A (wM cI cZ cJ ad x_thrown x_buffered x_given x_isFolding x_work x_rebuilt x_streamed x_reports x_gapFrom x_gapSize x_elements x_wholeSize x_isLaid x_takenMany a_buffer a_length a_bytes a_weight a_live a_size a_list a_moved a_planned a_stream a_reportedEnd a_reportedKeyword a_starts a_keywordAt a_element a_long1 a_head a_tail a_next a_skip a_last a_whole a_edges a_covers a_weighs a_numbers a_takes a_takenAt) sz)) 0 0 (va_A (wM cI cZ cJ ad x_thrown x_buffered x_given x_isFolding x_work x_rebuilt x_streamed x_reports x_gapFrom x_gapSize x_elements x_wholeSize x_isLaid x_takenMany a_buffer a_length a_bytes a_weight a_live a_size a_list a_moved a_planned a_stream a_reportedEnd a_reportedKeyword a_starts a_keywordAt a_element a_long1 a_head a_tail a_next a_skip a_last a_whole a_edges a_covers a_weighs a_numbers a_takes a_takenAt) sz) := by
  refine Met.ofW (cc := cX8_fewestMismatches) (maxL := 3) (ret := (some .int)) (by decide) rfl ?_
  intro p e s m args below meth c s₁ B hml hv
  obtain ⟨hav, hsz, hP, hK, hD0⟩ := hv
  have hx := B.exec
  have hb := B.bytes
  have hr := B.returns
  have hts := atoms_spec (ws := wsX8_fewestMismatches) B.pre
  have hown : s.vm.findClass RX8 = some m.cls := findClass_of_methodNamed B.named
  have hlk := B.notSynchronized
  have hf1 : (Cond.fieldLink RX8 1 "KeywordMatcherModel" "thrown" "I").before args s = true := hts _ (List.mem_of_getElem? (i := 1) rfl)
  have hiX8 : ∀ w ∈ wsX80, w ∈ wsX8_fewestMismatches := fun w h => List.mem_cons_of_mem _ (List.mem_append_right _ h)
  subst hsz
  have hD := hD0.self (sz := s.heap.size)
  generalize hAe : va_A (wM cI cZ cJ ad x_thrown x_buffered x_given x_isFolding x_work x_rebuilt x_streamed x_reports x_gapFrom x_gapSize x_elements x_wholeSize x_isLaid x_takenMany a_buffer a_length a_bytes a_weight a_live a_size a_list a_moved a_planned a_stream a_reportedEnd a_reportedKeyword a_starts a_keywordAt a_element a_long1 a_head a_tail a_next a_skip a_last a_whole a_edges a_covers a_weighs a_numbers a_takes a_takenAt) s.heap.size = Az at hD ⊢
  have hA : ∀ q : Nat, s.heap.size ≤ q → Az q := fun q h => by rw [← hAe]; exact Or.inr h
  clear hAe
  have hSz : va_S Az s.heap s.heap [] := va_S.rf
  obtain ⟨wz, hw1⟩ : ∃ z : va_W, z = (wM cI cZ cJ ad y_x_thrown x_buffered x_given x_isFolding x_work x_rebuilt x_streamed x_reports x_gapFrom x_gapSize x_elements x_wholeSize x_isLaid x_takenMany a_buffer a_length a_bytes a_weight a_live a_size a_list a_moved a_planned a_stream a_reportedEnd a_reportedKeyword a_starts a_keywordAt a_element a_long1 a_head a_tail a_next a_skip a_last a_whole a_edges a_covers a_weighs a_numbers a_takes a_takenAt) := ⟨_, rfl⟩
  rw [← hw1]
  have hl := lv_entry ([.ref (ad 0), .int (iI pz1)]) (n := 3) (Nat.le_of_ble_eq_true rfl)
  rw [show entryFrame m args 3 = entryFrame m ([.ref (ad 0), .int (iI pz1)] : List Value).toArray 3 from by rw [hav], lg_entry_eq]
  generalize (lg_sl ([.ref (ad 0), .int (iI pz1)]) ++ List.replicate (3 - (lg_sl ([.ref (ad 0), .int (iI pz1)])).length) Slot.unset).toArray = ls at hl ⊢
  have hl : lv_has ls 3 [(0, .ref (ad 0)), (1, .int (iI pz1))] := hl
  unfold s_X8_fewestMismatches at hs
  refine (?_ : ∀ (Hz : Heap) (lz : List Loc), va_P D vwCl (wM cI cZ cJ ad x_thrown x_buffered x_given x_isFolding x_work x_rebuilt x_streamed x_reports x_gapFrom x_gapSize x_elements x_wholeSize x_isLaid x_takenMany a_buffer a_length a_bytes a_weight a_live a_size a_list a_moved a_planned a_stream a_reportedEnd a_reportedKeyword a_starts a_keywordAt a_element a_long1 a_head a_tail a_next a_skip a_last a_whole a_edges a_covers a_weighs a_numbers a_takes a_takenAt) Hz → va_D Az (wM cI cZ cJ ad x_thrown x_buffered x_given x_isFolding x_work x_rebuilt x_streamed x_reports x_gapFrom x_gapSize x_elements x_wholeSize x_isLaid x_takenMany a_buffer a_length a_bytes a_weight a_live a_size a_list a_moved a_planned a_stream a_reportedEnd a_reportedKeyword a_starts a_keywordAt a_element a_long1 a_head a_tail a_next a_skip a_last a_whole a_edges a_covers a_weighs a_numbers a_takes a_takenAt) → va_S Az s.heap Hz lz → W p l e (headSpec wsX8_fewestMismatches rm_X8_fewestMismatches).room s m args below meth c Hz lz 0 0 (MQ below (QW D vwCl (some (.int (iI r))) wz Az) args s 0 0 Az) (F0 m 0 ls [])) s.heap [] hP hD hSz
  intro Hz lz hP hD hSz
  refine lv_aload_n hx hb dX8_fewestMismatches_0 rfl (lv_at hl 0 rfl) ?_
  refine k_iconst (n := 0) hx hb dX8_fewestMismatches_1 ?_
  refine va_put (ci := 8) (v := .int (iI 0)) (ty := .int) (C := RX8) (T := TX8) (N := 42) hx hb hts hiX8 tyX8 tyX8_ok nmX8 hown hK hP hD hSz 0 rfl rfl 0 (by decide) hf1 (fun _ h9 => h9) rfl (by decide +kernel) rfl rfl (Nat.le_of_ble_eq_true rfl) dX8_fewestMismatches_2 (fun Hz lz hP hD hSz => ?_)
  have hP : va_P D vwCl (wM cI cZ cJ ad 0 x_buffered x_given x_isFolding x_work x_rebuilt x_streamed x_reports x_gapFrom x_gapSize x_elements x_wholeSize x_isLaid x_takenMany a_buffer a_length a_bytes a_weight a_live a_size a_list a_moved a_planned a_stream a_reportedEnd a_reportedKeyword a_starts a_keywordAt a_element a_long1 a_head a_tail a_next a_skip a_last a_whole a_edges a_covers a_weighs a_numbers a_takes a_takenAt) Hz := hP
  have hD : va_D Az (wM cI cZ cJ ad 0 x_buffered x_given x_isFolding x_work x_rebuilt x_streamed x_reports x_gapFrom x_gapSize x_elements x_wholeSize x_isLaid x_takenMany a_buffer a_length a_bytes a_weight a_live a_size a_list a_moved a_planned a_stream a_reportedEnd a_reportedKeyword a_starts a_keywordAt a_element a_long1 a_head a_tail a_next a_skip a_last a_whole a_edges a_covers a_weighs a_numbers a_takes a_takenAt) := hD
  refine lv_aload_n hx hb dX8_fewestMismatches_5 rfl (lv_at hl 0 rfl) ?_
  refine lv_iload_n hx hb dX8_fewestMismatches_6 rfl (lv_at hl 1 rfl) ?_
  obtain ⟨vz1, hcz, hs⟩ := bd1_some hs
  refine k_rV (As := [.int (iI pz1)]) (rest := []) (st1 := [.int (iI vz1)]) ⟨hx, hb, hml, hown, hts⟩ hK hP (c_X8_isLiveOne l D cI cZ cJ hcz) (cwV 1 hts gX8_fewestMismatches_X8_isLiveOne rfl rfl rfl (by decide +kernel) ⟨Nat.le_of_ble_eq_true rfl, Nat.le_of_ble_eq_true rfl⟩) 0 rfl rfl rfl rfl hl.1 rfl (lv_room (Nat.le_of_ble_eq_true rfl)) dX8_fewestMismatches_7 ⟨Nat.zero_le _, Nat.zero_le _⟩ rfl ?_
  refine k_if_ne (tgt := 16) hx hb hs dX8_fewestMismatches_10 (by decide) (fun hs => ?_) (fun hs => ?_)
  · refine k_bipush (n := (-2)) hx hb (by decide) dX8_fewestMismatches_13 ?_
    cases hs
    exact k_iret_w hx hb hr hlk (by rw [hw1]; exact hP) hSz dX8_fewestMismatches_15 rfl
  · refine lv_aload_n hx hb dX8_fewestMismatches_16 rfl (lv_at hl 0 rfl) ?_
    refine lv_iload_n hx hb dX8_fewestMismatches_17 rfl (lv_at hl 1 rfl) ?_
    obtain ⟨vz2, hcz, hs⟩ := bd1_some hs
    refine k_rV (As := [.int (iI pz1)]) (rest := []) (st1 := [.int (iI vz2)]) ⟨hx, hb, hml, hown, hts⟩ hK hP (c_X8_nearest l D cI cZ cJ hcz) (cwV 1 hts gX8_fewestMismatches_X8_nearest rfl rfl rfl (by decide +kernel) ⟨Nat.le_of_ble_eq_true rfl, Nat.le_of_ble_eq_true rfl⟩) 0 rfl rfl rfl rfl hl.1 rfl (lv_room (Nat.le_of_ble_eq_true rfl)) dX8_fewestMismatches_18 ⟨Nat.zero_le _, Nat.zero_le _⟩ rfl ?_
    refine lv_istore_n (lv' := [(2, .int (iI vz2)), (0, .ref (ad 0)), (1, .int (iI pz1))]) hx hb dX8_fewestMismatches_21 rfl hl (by decide) rfl (fun ls hl => ?_)
    refine lv_iload_n hx hb dX8_fewestMismatches_22 rfl (lv_at hl 0 rfl) ?_
    refine k_iconst (n := (-1)) hx hb dX8_fewestMismatches_23 ?_
    refine k_icmp_ne (tgt := 31) hx hb hs dX8_fewestMismatches_24 (by decide) (fun hs => ?_) (fun hs => ?_)
    · refine k_iconst (n := (-1)) hx hb dX8_fewestMismatches_27 ?_
      refine lv_goto (tgt := 37) hx hb dX8_fewestMismatches_28 (by decide) ?_
      cases hs
      exact k_iret_w hx hb hr hlk (by rw [hw1]; exact hP) hSz dX8_fewestMismatches_37 rfl
    · refine lv_aload_n hx hb dX8_fewestMismatches_31 rfl (lv_at hl 1 rfl) ?_
      refine lv_iload_n hx hb dX8_fewestMismatches_32 rfl (lv_at hl 2 rfl) ?_
      refine lv_iload_n hx hb dX8_fewestMismatches_33 rfl (lv_at hl 0 rfl) ?_
      obtain ⟨vz3, hcz, hs⟩ := bd1_some hs
      refine k_rV (As := [.int (iI pz1), .int (iI vz2)]) (rest := []) (st1 := [.int (iI vz3)]) ⟨hx, hb, hml, hown, hts⟩ hK hP (c_X8_misses l D cI cZ cJ hcz) (cwV 2 hts gX8_fewestMismatches_X8_misses rfl rfl rfl (by decide +kernel) ⟨Nat.le_of_ble_eq_true rfl, Nat.le_of_ble_eq_true rfl⟩) 0 rfl rfl rfl rfl hl.1 rfl (lv_room (Nat.le_of_ble_eq_true rfl)) dX8_fewestMismatches_34 ⟨Nat.zero_le _, Nat.zero_le _⟩ rfl ?_
      cases hs
      exact k_iret_w hx hb hr hlk (by rw [hw1]; exact hP) hSz dX8_fewestMismatches_37 rfl
/-! X8_nearestStart -/
set_option maxHeartbeats 4000000 in
set_option maxRecDepth 100000 in
theorem c_X8_nearestStart (l : Launch) (D : va_G) (cI cZ cJ : ClassId) {ad : Nat → Nat} {x_thrown : Int} {x_buffered : Int} {x_given : Int} {x_isFolding : Int} {x_work : Int} {x_rebuilt : Int} {x_streamed : Int} {x_reports : Int} {x_gapFrom : Int} {x_gapSize : Int} {x_elements : Int} {x_wholeSize : Int} {x_isLaid : Int} {x_takenMany : Int} {a_buffer : (Int → Int)} {a_length : (Int → Int)} {a_bytes : (Int → Int)} {a_weight : (Int → Int)} {a_live : (Int → Int)} {a_size : (Int → Int)} {a_list : (Int → Int)} {a_moved : (Int → Int)} {a_planned : (Int → Int)} {a_stream : (Int → Int)} {a_reportedEnd : (Int → Int)} {a_reportedKeyword : (Int → Int)} {a_starts : (Int → Int)} {a_keywordAt : (Int → Int)} {a_element : (Int → Int)} {a_long1 : (Int → Int)} {a_head : (Int → Int)} {a_tail : (Int → Int)} {a_next : (Int → Int)} {a_skip : (Int → Int)} {a_last : (Int → Int)} {a_whole : (Int → Int)} {a_edges : (Int → Int)} {a_covers : (Int → Int)} {a_weighs : (Int → Int)} {a_numbers : (Int → Int)} {a_takes : (Int → Int)} {a_takenAt : (Int → Int)} {pz1 : Int} {r : Int} {y_x_thrown : Int} {sz : Nat} (hs : s_X8_nearestStart x_thrown x_given x_isFolding x_streamed a_length a_bytes a_live a_stream pz1 = some (r, y_x_thrown)) : Met l yX8_nearestStart wsX8_nearestStart rm_X8_nearestStart (PW D vwCl [(cI, .int), (cZ, .boolean), (cJ, .long)] [.ref (ad 0), .int (iI pz1)] (wM cI cZ cJ ad x_thrown x_buffered x_given x_isFolding x_work x_rebuilt x_streamed x_reports x_gapFrom x_gapSize x_elements x_wholeSize x_isLaid x_takenMany a_buffer a_length a_bytes a_weight a_live a_size a_list a_moved a_planned a_stream a_reportedEnd a_reportedKeyword a_starts a_keywordAt a_element a_long1 a_head a_tail a_next a_skip a_last a_whole a_edges a_covers a_weighs a_numbers a_takes a_takenAt) sz) (QW D vwCl (some (.int (iI r))) (wM cI cZ cJ ad y_x_thrown x_buffered x_given x_isFolding x_work x_rebuilt x_streamed x_reports x_gapFrom x_gapSize x_elements x_wholeSize x_isLaid x_takenMany a_buffer a_length a_bytes a_weight a_live a_size a_list a_moved a_planned a_stream a_reportedEnd a_reportedKeyword a_starts a_keywordAt a_element a_long1 a_head a_tail a_next a_skip a_last a_whole a_edges a_covers a_weighs a_numbers a_takes a_takenAt) (va_A (wM cI cZ cJ ad x_thrown x_buffered x_given x_isFolding x_work x_rebuilt x_streamed x_reports x_gapFrom x_gapSize x_elements x_wholeSize x_isLaid x_takenMany a_buffer a_length a_bytes a_weight a_live a_size a_list a_moved a_planned a_stream a_reportedEnd a_reportedKeyword a_starts a_keywordAt a_element a_long1 a_head a_tail a_next a_skip a_last a_whole a_edges a_covers a_weighs a_numbers a_takes a_takenAt) sz)) 0 0 (va_A (wM cI cZ cJ ad x_thrown x_buffered x_given x_isFolding x_work x_rebuilt x_streamed x_reports x_gapFrom x_gapSize x_elements x_wholeSize x_isLaid x_takenMany a_buffer a_length a_bytes a_weight a_live a_size a_list a_moved a_planned a_stream a_reportedEnd a_reportedKeyword a_starts a_keywordAt a_element a_long1 a_head a_tail a_next a_skip a_last a_whole a_edges a_covers a_weighs a_numbers a_takes a_takenAt) sz) := by
  refine Met.ofW (cc := cX8_nearestStart) (maxL := 2) (ret := (some .int)) (by decide) rfl ?_
  intro p e s m args below meth c s₁ B hml hv
  obtain ⟨hav, hsz, hP, hK, hD0⟩ := hv
  have hx := B.exec
  have hb := B.bytes
  have hr := B.returns
  have hts := atoms_spec (ws := wsX8_nearestStart) B.pre
  have hown : s.vm.findClass RX8 = some m.cls := findClass_of_methodNamed B.named
  have hlk := B.notSynchronized
  have hf1 : (Cond.fieldLink RX8 1 "KeywordMatcherModel" "thrown" "I").before args s = true := hts _ (List.mem_of_getElem? (i := 1) rfl)
  have hiX8 : ∀ w ∈ wsX80, w ∈ wsX8_nearestStart := fun w h => List.mem_cons_of_mem _ (List.mem_append_right _ h)
  subst hsz
  have hD := hD0.self (sz := s.heap.size)
  generalize hAe : va_A (wM cI cZ cJ ad x_thrown x_buffered x_given x_isFolding x_work x_rebuilt x_streamed x_reports x_gapFrom x_gapSize x_elements x_wholeSize x_isLaid x_takenMany a_buffer a_length a_bytes a_weight a_live a_size a_list a_moved a_planned a_stream a_reportedEnd a_reportedKeyword a_starts a_keywordAt a_element a_long1 a_head a_tail a_next a_skip a_last a_whole a_edges a_covers a_weighs a_numbers a_takes a_takenAt) s.heap.size = Az at hD ⊢
  have hA : ∀ q : Nat, s.heap.size ≤ q → Az q := fun q h => by rw [← hAe]; exact Or.inr h
  clear hAe
  have hSz : va_S Az s.heap s.heap [] := va_S.rf
  obtain ⟨wz, hw1⟩ : ∃ z : va_W, z = (wM cI cZ cJ ad y_x_thrown x_buffered x_given x_isFolding x_work x_rebuilt x_streamed x_reports x_gapFrom x_gapSize x_elements x_wholeSize x_isLaid x_takenMany a_buffer a_length a_bytes a_weight a_live a_size a_list a_moved a_planned a_stream a_reportedEnd a_reportedKeyword a_starts a_keywordAt a_element a_long1 a_head a_tail a_next a_skip a_last a_whole a_edges a_covers a_weighs a_numbers a_takes a_takenAt) := ⟨_, rfl⟩
  rw [← hw1]
  have hl := lv_entry ([.ref (ad 0), .int (iI pz1)]) (n := 2) (Nat.le_of_ble_eq_true rfl)
  rw [show entryFrame m args 2 = entryFrame m ([.ref (ad 0), .int (iI pz1)] : List Value).toArray 2 from by rw [hav], lg_entry_eq]
  generalize (lg_sl ([.ref (ad 0), .int (iI pz1)]) ++ List.replicate (2 - (lg_sl ([.ref (ad 0), .int (iI pz1)])).length) Slot.unset).toArray = ls at hl ⊢
  have hl : lv_has ls 2 [(0, .ref (ad 0)), (1, .int (iI pz1))] := hl
  unfold s_X8_nearestStart at hs
  refine (?_ : ∀ (Hz : Heap) (lz : List Loc), va_P D vwCl (wM cI cZ cJ ad x_thrown x_buffered x_given x_isFolding x_work x_rebuilt x_streamed x_reports x_gapFrom x_gapSize x_elements x_wholeSize x_isLaid x_takenMany a_buffer a_length a_bytes a_weight a_live a_size a_list a_moved a_planned a_stream a_reportedEnd a_reportedKeyword a_starts a_keywordAt a_element a_long1 a_head a_tail a_next a_skip a_last a_whole a_edges a_covers a_weighs a_numbers a_takes a_takenAt) Hz → va_D Az (wM cI cZ cJ ad x_thrown x_buffered x_given x_isFolding x_work x_rebuilt x_streamed x_reports x_gapFrom x_gapSize x_elements x_wholeSize x_isLaid x_takenMany a_buffer a_length a_bytes a_weight a_live a_size a_list a_moved a_planned a_stream a_reportedEnd a_reportedKeyword a_starts a_keywordAt a_element a_long1 a_head a_tail a_next a_skip a_last a_whole a_edges a_covers a_weighs a_numbers a_takes a_takenAt) → va_S Az s.heap Hz lz → W p l e (headSpec wsX8_nearestStart rm_X8_nearestStart).room s m args below meth c Hz lz 0 0 (MQ below (QW D vwCl (some (.int (iI r))) wz Az) args s 0 0 Az) (F0 m 0 ls [])) s.heap [] hP hD hSz
  intro Hz lz hP hD hSz
  refine lv_aload_n hx hb dX8_nearestStart_0 rfl (lv_at hl 0 rfl) ?_
  refine k_iconst (n := 0) hx hb dX8_nearestStart_1 ?_
  refine va_put (ci := 8) (v := .int (iI 0)) (ty := .int) (C := RX8) (T := TX8) (N := 42) hx hb hts hiX8 tyX8 tyX8_ok nmX8 hown hK hP hD hSz 0 rfl rfl 0 (by decide) hf1 (fun _ h9 => h9) rfl (by decide +kernel) rfl rfl (Nat.le_of_ble_eq_true rfl) dX8_nearestStart_2 (fun Hz lz hP hD hSz => ?_)
  have hP : va_P D vwCl (wM cI cZ cJ ad 0 x_buffered x_given x_isFolding x_work x_rebuilt x_streamed x_reports x_gapFrom x_gapSize x_elements x_wholeSize x_isLaid x_takenMany a_buffer a_length a_bytes a_weight a_live a_size a_list a_moved a_planned a_stream a_reportedEnd a_reportedKeyword a_starts a_keywordAt a_element a_long1 a_head a_tail a_next a_skip a_last a_whole a_edges a_covers a_weighs a_numbers a_takes a_takenAt) Hz := hP
  have hD : va_D Az (wM cI cZ cJ ad 0 x_buffered x_given x_isFolding x_work x_rebuilt x_streamed x_reports x_gapFrom x_gapSize x_elements x_wholeSize x_isLaid x_takenMany a_buffer a_length a_bytes a_weight a_live a_size a_list a_moved a_planned a_stream a_reportedEnd a_reportedKeyword a_starts a_keywordAt a_element a_long1 a_head a_tail a_next a_skip a_last a_whole a_edges a_covers a_weighs a_numbers a_takes a_takenAt) := hD
  refine lv_aload_n hx hb dX8_nearestStart_5 rfl (lv_at hl 0 rfl) ?_
  refine lv_iload_n hx hb dX8_nearestStart_6 rfl (lv_at hl 1 rfl) ?_
  obtain ⟨vz1, hcz, hs⟩ := bd1_some hs
  refine k_rV (As := [.int (iI pz1)]) (rest := []) (st1 := [.int (iI vz1)]) ⟨hx, hb, hml, hown, hts⟩ hK hP (c_X8_isLiveOne l D cI cZ cJ hcz) (cwV 1 hts gX8_nearestStart_X8_isLiveOne rfl rfl rfl (by decide +kernel) ⟨Nat.le_of_ble_eq_true rfl, Nat.le_of_ble_eq_true rfl⟩) 0 rfl rfl rfl rfl hl.1 rfl (lv_room (Nat.le_of_ble_eq_true rfl)) dX8_nearestStart_7 ⟨Nat.zero_le _, Nat.zero_le _⟩ rfl ?_
  refine k_if_eq (tgt := 21) hx hb hs dX8_nearestStart_10 (by decide) (fun hs => ?_) (fun hs => ?_)
  · refine k_bipush (n := (-2)) hx hb (by decide) dX8_nearestStart_21 ?_
    cases hs
    exact k_iret_w hx hb hr hlk (by rw [hw1]; exact hP) hSz dX8_nearestStart_23 rfl
  · refine lv_aload_n hx hb dX8_nearestStart_13 rfl (lv_at hl 0 rfl) ?_
    refine lv_iload_n hx hb dX8_nearestStart_14 rfl (lv_at hl 1 rfl) ?_
    obtain ⟨vz2, hcz, hs⟩ := bd1_some hs
    refine k_rV (As := [.int (iI pz1)]) (rest := []) (st1 := [.int (iI vz2)]) ⟨hx, hb, hml, hown, hts⟩ hK hP (c_X8_nearest l D cI cZ cJ hcz) (cwV 1 hts gX8_nearestStart_X8_nearest rfl rfl rfl (by decide +kernel) ⟨Nat.le_of_ble_eq_true rfl, Nat.le_of_ble_eq_true rfl⟩) 0 rfl rfl rfl rfl hl.1 rfl (lv_room (Nat.le_of_ble_eq_true rfl)) dX8_nearestStart_15 ⟨Nat.zero_le _, Nat.zero_le _⟩ rfl ?_
    refine lv_goto (tgt := 23) hx hb dX8_nearestStart_18 (by decide) ?_
    cases hs
    exact k_iret_w hx hb hr hlk (by rw [hw1]; exact hP) hSz dX8_nearestStart_23 rfl
/-! X8_overlapLength -/
set_option maxHeartbeats 4000000 in
set_option maxRecDepth 100000 in
theorem c_X8_overlapLength (l : Launch) (D : va_G) (cI cZ cJ : ClassId) {ad : Nat → Nat} {x_thrown : Int} {x_buffered : Int} {x_given : Int} {x_isFolding : Int} {x_work : Int} {x_rebuilt : Int} {x_streamed : Int} {x_reports : Int} {x_gapFrom : Int} {x_gapSize : Int} {x_elements : Int} {x_wholeSize : Int} {x_isLaid : Int} {x_takenMany : Int} {a_buffer : (Int → Int)} {a_length : (Int → Int)} {a_bytes : (Int → Int)} {a_weight : (Int → Int)} {a_live : (Int → Int)} {a_size : (Int → Int)} {a_list : (Int → Int)} {a_moved : (Int → Int)} {a_planned : (Int → Int)} {a_stream : (Int → Int)} {a_reportedEnd : (Int → Int)} {a_reportedKeyword : (Int → Int)} {a_starts : (Int → Int)} {a_keywordAt : (Int → Int)} {a_element : (Int → Int)} {a_long1 : (Int → Int)} {a_head : (Int → Int)} {a_tail : (Int → Int)} {a_next : (Int → Int)} {a_skip : (Int → Int)} {a_last : (Int → Int)} {a_whole : (Int → Int)} {a_edges : (Int → Int)} {a_covers : (Int → Int)} {a_weighs : (Int → Int)} {a_numbers : (Int → Int)} {a_takes : (Int → Int)} {a_takenAt : (Int → Int)} {pz1 : Int} {pz2 : Int} {r : Int} {y_x_thrown : Int} {sz : Nat} (hs : s_X8_overlapLength x_thrown x_given x_isFolding a_length a_bytes pz1 pz2 = some (r, y_x_thrown)) : Met l yX8_overlapLength wsX8_overlapLength rm_X8_overlapLength (PW D vwCl [(cI, .int), (cZ, .boolean), (cJ, .long)] [.ref (ad 0), .int (iI pz1), .int (iI pz2)] (wM cI cZ cJ ad x_thrown x_buffered x_given x_isFolding x_work x_rebuilt x_streamed x_reports x_gapFrom x_gapSize x_elements x_wholeSize x_isLaid x_takenMany a_buffer a_length a_bytes a_weight a_live a_size a_list a_moved a_planned a_stream a_reportedEnd a_reportedKeyword a_starts a_keywordAt a_element a_long1 a_head a_tail a_next a_skip a_last a_whole a_edges a_covers a_weighs a_numbers a_takes a_takenAt) sz) (QW D vwCl (some (.int (iI r))) (wM cI cZ cJ ad y_x_thrown x_buffered x_given x_isFolding x_work x_rebuilt x_streamed x_reports x_gapFrom x_gapSize x_elements x_wholeSize x_isLaid x_takenMany a_buffer a_length a_bytes a_weight a_live a_size a_list a_moved a_planned a_stream a_reportedEnd a_reportedKeyword a_starts a_keywordAt a_element a_long1 a_head a_tail a_next a_skip a_last a_whole a_edges a_covers a_weighs a_numbers a_takes a_takenAt) (va_A (wM cI cZ cJ ad x_thrown x_buffered x_given x_isFolding x_work x_rebuilt x_streamed x_reports x_gapFrom x_gapSize x_elements x_wholeSize x_isLaid x_takenMany a_buffer a_length a_bytes a_weight a_live a_size a_list a_moved a_planned a_stream a_reportedEnd a_reportedKeyword a_starts a_keywordAt a_element a_long1 a_head a_tail a_next a_skip a_last a_whole a_edges a_covers a_weighs a_numbers a_takes a_takenAt) sz)) 0 0 (va_A (wM cI cZ cJ ad x_thrown x_buffered x_given x_isFolding x_work x_rebuilt x_streamed x_reports x_gapFrom x_gapSize x_elements x_wholeSize x_isLaid x_takenMany a_buffer a_length a_bytes a_weight a_live a_size a_list a_moved a_planned a_stream a_reportedEnd a_reportedKeyword a_starts a_keywordAt a_element a_long1 a_head a_tail a_next a_skip a_last a_whole a_edges a_covers a_weighs a_numbers a_takes a_takenAt) sz) := by
  refine Met.ofW (cc := cX8_overlapLength) (maxL := 4) (ret := (some .int)) (by decide) rfl ?_
  intro p e s m args below meth c s₁ B hml hv
  obtain ⟨hav, hsz, hP, hK, hD0⟩ := hv
  have hx := B.exec
  have hb := B.bytes
  have hr := B.returns
  have hts := atoms_spec (ws := wsX8_overlapLength) B.pre
  have hown : s.vm.findClass RX8 = some m.cls := findClass_of_methodNamed B.named
  have hlk := B.notSynchronized
  have hf1 : (Cond.fieldLink RX8 1 "KeywordMatcherModel" "thrown" "I").before args s = true := hts _ (List.mem_of_getElem? (i := 1) rfl)
  have hiX8 : ∀ w ∈ wsX80, w ∈ wsX8_overlapLength := fun w h => List.mem_cons_of_mem _ (List.mem_append_right _ h)
  have hf17 : (Cond.fieldLink RX8 17 "KeywordMatcherModel" "length" "[I").before args s = true := hts _ (List.mem_of_getElem? (i := 2) rfl)
  subst hsz
  have hD := hD0.self (sz := s.heap.size)
  generalize hAe : va_A (wM cI cZ cJ ad x_thrown x_buffered x_given x_isFolding x_work x_rebuilt x_streamed x_reports x_gapFrom x_gapSize x_elements x_wholeSize x_isLaid x_takenMany a_buffer a_length a_bytes a_weight a_live a_size a_list a_moved a_planned a_stream a_reportedEnd a_reportedKeyword a_starts a_keywordAt a_element a_long1 a_head a_tail a_next a_skip a_last a_whole a_edges a_covers a_weighs a_numbers a_takes a_takenAt) s.heap.size = Az at hD ⊢
  have hA : ∀ q : Nat, s.heap.size ≤ q → Az q := fun q h => by rw [← hAe]; exact Or.inr h
  clear hAe
  have hSz : va_S Az s.heap s.heap [] := va_S.rf
  obtain ⟨wz, hw1⟩ : ∃ z : va_W, z = (wM cI cZ cJ ad y_x_thrown x_buffered x_given x_isFolding x_work x_rebuilt x_streamed x_reports x_gapFrom x_gapSize x_elements x_wholeSize x_isLaid x_takenMany a_buffer a_length a_bytes a_weight a_live a_size a_list a_moved a_planned a_stream a_reportedEnd a_reportedKeyword a_starts a_keywordAt a_element a_long1 a_head a_tail a_next a_skip a_last a_whole a_edges a_covers a_weighs a_numbers a_takes a_takenAt) := ⟨_, rfl⟩
  rw [← hw1]
  have hl := lv_entry ([.ref (ad 0), .int (iI pz1), .int (iI pz2)]) (n := 4) (Nat.le_of_ble_eq_true rfl)
  rw [show entryFrame m args 4 = entryFrame m ([.ref (ad 0), .int (iI pz1), .int (iI pz2)] : List Value).toArray 4 from by rw [hav], lg_entry_eq]
  generalize (lg_sl ([.ref (ad 0), .int (iI pz1), .int (iI pz2)]) ++ List.replicate (4 - (lg_sl ([.ref (ad 0), .int (iI pz1), .int (iI pz2)])).length) Slot.unset).toArray = ls at hl ⊢
  have hl : lv_has ls 4 [(0, .ref (ad 0)), (1, .int (iI pz1)), (2, .int (iI pz2))] := hl
  unfold s_X8_overlapLength at hs
  have Lz59 : ∀ (fu : Nat) (x_thrown : Int) (l1 : Int) (l2 : Int) (l3 : Int) (y0 : Int), s_X8_overlapLength_59 fu x_isFolding a_length a_bytes l1 l2 l3 = some y0 → ∀ (Hz : Heap) (lz : List Loc), va_P D vwCl (wM cI cZ cJ ad x_thrown x_buffered x_given x_isFolding x_work x_rebuilt x_streamed x_reports x_gapFrom x_gapSize x_elements x_wholeSize x_isLaid x_takenMany a_buffer a_length a_bytes a_weight a_live a_size a_list a_moved a_planned a_stream a_reportedEnd a_reportedKeyword a_starts a_keywordAt a_element a_long1 a_head a_tail a_next a_skip a_last a_whole a_edges a_covers a_weighs a_numbers a_takes a_takenAt) Hz → va_D Az (wM cI cZ cJ ad x_thrown x_buffered x_given x_isFolding x_work x_rebuilt x_streamed x_reports x_gapFrom x_gapSize x_elements x_wholeSize x_isLaid x_takenMany a_buffer a_length a_bytes a_weight a_live a_size a_list a_moved a_planned a_stream a_reportedEnd a_reportedKeyword a_starts a_keywordAt a_element a_long1 a_head a_tail a_next a_skip a_last a_whole a_edges a_covers a_weighs a_numbers a_takes a_takenAt) → va_S Az s.heap Hz lz → ∀ ls : Array Slot, lv_has ls 4 [(0, .ref (ad 0)), (1, .int (iI l1)), (2, .int (iI l2)), (3, .int (iI l3))] → (∀ (Hz : Heap) (lz : List Loc), va_P D vwCl (wM cI cZ cJ ad x_thrown x_buffered x_given x_isFolding x_work x_rebuilt x_streamed x_reports x_gapFrom x_gapSize x_elements x_wholeSize x_isLaid x_takenMany a_buffer a_length a_bytes a_weight a_live a_size a_list a_moved a_planned a_stream a_reportedEnd a_reportedKeyword a_starts a_keywordAt a_element a_long1 a_head a_tail a_next a_skip a_last a_whole a_edges a_covers a_weighs a_numbers a_takes a_takenAt) Hz → va_D Az (wM cI cZ cJ ad x_thrown x_buffered x_given x_isFolding x_work x_rebuilt x_streamed x_reports x_gapFrom x_gapSize x_elements x_wholeSize x_isLaid x_takenMany a_buffer a_length a_bytes a_weight a_live a_size a_list a_moved a_planned a_stream a_reportedEnd a_reportedKeyword a_starts a_keywordAt a_element a_long1 a_head a_tail a_next a_skip a_last a_whole a_edges a_covers a_weighs a_numbers a_takes a_takenAt) → va_S Az s.heap Hz lz → ∀ ls : Array Slot, lv_has ls 4 [(3, .int (iI y0))] → W p l e (headSpec wsX8_overlapLength rm_X8_overlapLength).room s m args below meth c Hz lz 0 0 (MQ below (QW D vwCl (some (.int (iI r))) wz Az) args s 0 0 Az) (F0 m 92 ls [])) → W p l e (headSpec wsX8_overlapLength rm_X8_overlapLength).room s m args below meth c Hz lz 0 0 (MQ below (QW D vwCl (some (.int (iI r))) wz Az) args s 0 0 Az) (F0 m 59 ls []) := by
    intro fu
    induction fu with
    | zero => intro x_thrown l1 l2 l3 y0 hs; cases hs
    | succ fu ih =>
      intro x_thrown l1 l2 l3 y0 hs Hz lz hP hD hSz ls hl kx
      rw [s_X8_overlapLength_59_s] at hs
      refine lv_iload_n hx hb dX8_overlapLength_59 rfl (lv_at hl 3 rfl) ?_
      refine k_if_le (tgt := 92) hx hb hs dX8_overlapLength_60 (by decide) (fun hs => ?_) (fun hs => ?_)
      · refine lv_aload_n hx hb dX8_overlapLength_63 rfl (lv_at hl 0 rfl) ?_
        refine lv_iload_n hx hb dX8_overlapLength_64 rfl (lv_at hl 1 rfl) ?_
        refine lv_aload_n hx hb dX8_overlapLength_65 rfl (lv_at hl 0 rfl) ?_
        refine va_get (ci := 8) (v := .ref (ad 2)) (C := RX8) (T := TX8) (N := 42) hx hb hts hiX8 hown hK hP 0 rfl rfl 3 (by decide) hf17 (fun _ h9 => h9) rfl dX8_overlapLength_66 ?_
        refine lv_iload_n hx hb dX8_overlapLength_69 rfl (lv_at hl 1 rfl) ?_
        refine k_iald hx hb hK hP 2 0 rfl rfl (Nat.le_of_ble_eq_true rfl) hs dX8_overlapLength_70 (fun vz6 hs => ?_)
        refine lv_iload_n hx hb dX8_overlapLength_71 rfl (lv_at hl 3 rfl) ?_
        refine k_isub hx hb dX8_overlapLength_72 ?_
        refine lv_aload_n hx hb dX8_overlapLength_73 rfl (lv_at hl 0 rfl) ?_
        refine va_get (ci := 8) (v := .ref (ad 2)) (C := RX8) (T := TX8) (N := 42) hx hb hts hiX8 hown hK hP 0 rfl rfl 3 (by decide) hf17 (fun _ h9 => h9) rfl dX8_overlapLength_74 ?_
        refine lv_iload_n hx hb dX8_overlapLength_77 rfl (lv_at hl 1 rfl) ?_
        refine k_iald hx hb hK hP 2 0 rfl rfl (Nat.le_of_ble_eq_true rfl) hs dX8_overlapLength_78 (fun vz7 hs => ?_)
        refine lv_iload_n hx hb dX8_overlapLength_79 rfl (lv_at hl 2 rfl) ?_
        obtain ⟨vz8, hcz, hs⟩ := bd1_some hs
        refine k_rV (As := [.int (iI l1), .int (iI (vz6 - l3)), .int (iI vz7), .int (iI l2)]) (rest := []) (st1 := [.int (iI vz8)]) ⟨hx, hb, hml, hown, hts⟩ hK hP (c_X8_begins l D cI cZ cJ hcz) (cwV 4 hts gX8_overlapLength_X8_begins rfl rfl rfl (by decide +kernel) ⟨Nat.le_of_ble_eq_true rfl, Nat.le_of_ble_eq_true rfl⟩) 0 rfl rfl rfl rfl hl.1 rfl (lv_room (Nat.le_of_ble_eq_true rfl)) dX8_overlapLength_80 ⟨Nat.zero_le _, Nat.zero_le _⟩ rfl ?_
        refine k_if_ne (tgt := 92) hx hb hs dX8_overlapLength_83 (by decide) (fun hs => ?_) (fun hs => ?_)
        · refine k_iinc (x := l3) (k := 3) (lv' := [(3, .int (iI (l3 + (-1)))), (0, .ref (ad 0)), (1, .int (iI l1)), (2, .int (iI l2))]) hx hb dX8_overlapLength_86 hl rfl (by decide) rfl (fun ls hl => ?_)
          refine lv_goto (tgt := 59) hx hb dX8_overlapLength_89 (by decide) ?_
          exact ih x_thrown l1 l2 (l3 + (-1)) y0 hs Hz lz hP hD hSz ls (lv_sub hl [1, 2, 3, 0] rfl) kx
        · cases hs
          exact kx Hz lz hP hD hSz ls (lv_sub hl [3] rfl)
      · cases hs
        exact kx Hz lz hP hD hSz ls (lv_sub hl [3] rfl)
  refine (?_ : ∀ (Hz : Heap) (lz : List Loc), va_P D vwCl (wM cI cZ cJ ad x_thrown x_buffered x_given x_isFolding x_work x_rebuilt x_streamed x_reports x_gapFrom x_gapSize x_elements x_wholeSize x_isLaid x_takenMany a_buffer a_length a_bytes a_weight a_live a_size a_list a_moved a_planned a_stream a_reportedEnd a_reportedKeyword a_starts a_keywordAt a_element a_long1 a_head a_tail a_next a_skip a_last a_whole a_edges a_covers a_weighs a_numbers a_takes a_takenAt) Hz → va_D Az (wM cI cZ cJ ad x_thrown x_buffered x_given x_isFolding x_work x_rebuilt x_streamed x_reports x_gapFrom x_gapSize x_elements x_wholeSize x_isLaid x_takenMany a_buffer a_length a_bytes a_weight a_live a_size a_list a_moved a_planned a_stream a_reportedEnd a_reportedKeyword a_starts a_keywordAt a_element a_long1 a_head a_tail a_next a_skip a_last a_whole a_edges a_covers a_weighs a_numbers a_takes a_takenAt) → va_S Az s.heap Hz lz → W p l e (headSpec wsX8_overlapLength rm_X8_overlapLength).room s m args below meth c Hz lz 0 0 (MQ below (QW D vwCl (some (.int (iI r))) wz Az) args s 0 0 Az) (F0 m 0 ls [])) s.heap [] hP hD hSz
  intro Hz lz hP hD hSz
  refine lv_aload_n hx hb dX8_overlapLength_0 rfl (lv_at hl 0 rfl) ?_
  refine k_iconst (n := 0) hx hb dX8_overlapLength_1 ?_
  refine va_put (ci := 8) (v := .int (iI 0)) (ty := .int) (C := RX8) (T := TX8) (N := 42) hx hb hts hiX8 tyX8 tyX8_ok nmX8 hown hK hP hD hSz 0 rfl rfl 0 (by decide) hf1 (fun _ h9 => h9) rfl (by decide +kernel) rfl rfl (Nat.le_of_ble_eq_true rfl) dX8_overlapLength_2 (fun Hz lz hP hD hSz => ?_)
  have hP : va_P D vwCl (wM cI cZ cJ ad 0 x_buffered x_given x_isFolding x_work x_rebuilt x_streamed x_reports x_gapFrom x_gapSize x_elements x_wholeSize x_isLaid x_takenMany a_buffer a_length a_bytes a_weight a_live a_size a_list a_moved a_planned a_stream a_reportedEnd a_reportedKeyword a_starts a_keywordAt a_element a_long1 a_head a_tail a_next a_skip a_last a_whole a_edges a_covers a_weighs a_numbers a_takes a_takenAt) Hz := hP
  have hD : va_D Az (wM cI cZ cJ ad 0 x_buffered x_given x_isFolding x_work x_rebuilt x_streamed x_reports x_gapFrom x_gapSize x_elements x_wholeSize x_isLaid x_takenMany a_buffer a_length a_bytes a_weight a_live a_size a_list a_moved a_planned a_stream a_reportedEnd a_reportedKeyword a_starts a_keywordAt a_element a_long1 a_head a_tail a_next a_skip a_last a_whole a_edges a_covers a_weighs a_numbers a_takes a_takenAt) := hD
  refine lv_aload_n hx hb dX8_overlapLength_5 rfl (lv_at hl 0 rfl) ?_
  refine lv_iload_n hx hb dX8_overlapLength_6 rfl (lv_at hl 1 rfl) ?_
  obtain ⟨vz1, hcz, hs⟩ := bd1_some hs
  refine k_rV (As := [.int (iI pz1)]) (rest := []) (st1 := [.int (iI vz1)]) ⟨hx, hb, hml, hown, hts⟩ hK hP (c_X8_isGiven l D cI cZ cJ hcz) (cwV 1 hts gX8_overlapLength_X8_isGiven rfl rfl rfl (by decide +kernel) ⟨Nat.le_of_ble_eq_true rfl, Nat.le_of_ble_eq_true rfl⟩) 0 rfl rfl rfl rfl hl.1 rfl (lv_room (Nat.le_of_ble_eq_true rfl)) dX8_overlapLength_7 ⟨Nat.zero_le _, Nat.zero_le _⟩ rfl ?_
  refine k_if_eq (tgt := 21) hx hb hs dX8_overlapLength_10 (by decide) (fun hs => ?_) (fun hs => ?_)
  · refine k_bipush (n := (-2)) hx hb (by decide) dX8_overlapLength_21 ?_
    cases hs
    exact k_iret_w hx hb hr hlk (by rw [hw1]; exact hP) hSz dX8_overlapLength_23 rfl
  · refine lv_aload_n hx hb dX8_overlapLength_13 rfl (lv_at hl 0 rfl) ?_
    refine lv_iload_n hx hb dX8_overlapLength_14 rfl (lv_at hl 2 rfl) ?_
    obtain ⟨vz2, hcz, hs⟩ := bd1_some hs
    refine k_rV (As := [.int (iI pz2)]) (rest := []) (st1 := [.int (iI vz2)]) ⟨hx, hb, hml, hown, hts⟩ hK hP (c_X8_isGiven l D cI cZ cJ hcz) (cwV 1 hts gX8_overlapLength_X8_isGiven rfl rfl rfl (by decide +kernel) ⟨Nat.le_of_ble_eq_true rfl, Nat.le_of_ble_eq_true rfl⟩) 0 rfl rfl rfl rfl hl.1 rfl (lv_room (Nat.le_of_ble_eq_true rfl)) dX8_overlapLength_15 ⟨Nat.zero_le _, Nat.zero_le _⟩ rfl ?_
    refine k_if_ne (tgt := 24) hx hb hs dX8_overlapLength_18 (by decide) (fun hs => ?_) (fun hs => ?_)
    · refine k_bipush (n := (-2)) hx hb (by decide) dX8_overlapLength_21 ?_
      cases hs
      exact k_iret_w hx hb hr hlk (by rw [hw1]; exact hP) hSz dX8_overlapLength_23 rfl
    · refine lv_aload_n hx hb dX8_overlapLength_24 rfl (lv_at hl 0 rfl) ?_
      refine va_get (ci := 8) (v := .ref (ad 2)) (C := RX8) (T := TX8) (N := 42) hx hb hts hiX8 hown hK hP 0 rfl rfl 3 (by decide) hf17 (fun _ h9 => h9) rfl dX8_overlapLength_25 ?_
      refine lv_iload_n hx hb dX8_overlapLength_28 rfl (lv_at hl 1 rfl) ?_
      refine k_iald hx hb hK hP 2 0 rfl rfl (Nat.le_of_ble_eq_true rfl) hs dX8_overlapLength_29 (fun vz3 hs => ?_)
      refine lv_aload_n hx hb dX8_overlapLength_30 rfl (lv_at hl 0 rfl) ?_
      refine va_get (ci := 8) (v := .ref (ad 2)) (C := RX8) (T := TX8) (N := 42) hx hb hts hiX8 hown hK hP 0 rfl rfl 3 (by decide) hf17 (fun _ h9 => h9) rfl dX8_overlapLength_31 ?_
      refine lv_iload_n hx hb dX8_overlapLength_34 rfl (lv_at hl 2 rfl) ?_
      refine k_iald hx hb hK hP 2 0 rfl rfl (Nat.le_of_ble_eq_true rfl) hs dX8_overlapLength_35 (fun vz4 hs => ?_)
      refine k_icmp_ge (tgt := 50) hx hb hs dX8_overlapLength_36 (by decide) (fun hs => ?_) (fun hs => ?_)
      · refine lv_aload_n hx hb dX8_overlapLength_39 rfl (lv_at hl 0 rfl) ?_
        refine va_get (ci := 8) (v := .ref (ad 2)) (C := RX8) (T := TX8) (N := 42) hx hb hts hiX8 hown hK hP 0 rfl rfl 3 (by decide) hf17 (fun _ h9 => h9) rfl dX8_overlapLength_40 ?_
        refine lv_iload_n hx hb dX8_overlapLength_43 rfl (lv_at hl 1 rfl) ?_
        refine k_iald hx hb hK hP 2 0 rfl rfl (Nat.le_of_ble_eq_true rfl) hs dX8_overlapLength_44 (fun vz5 hs => ?_)
        refine k_iconst (n := 1) hx hb dX8_overlapLength_45 ?_
        refine k_isub hx hb dX8_overlapLength_46 ?_
        refine lv_goto (tgt := 58) hx hb dX8_overlapLength_47 (by decide) ?_
        refine lv_istore_n (lv' := [(3, .int (iI (vz5 - 1))), (0, .ref (ad 0)), (1, .int (iI pz1)), (2, .int (iI pz2))]) hx hb dX8_overlapLength_58 rfl hl (by decide) rfl (fun ls hl => ?_)
        obtain ⟨ez9, hq, hs⟩ := bd1_some hs
        refine Lz59 FU 0 pz1 pz2 (vz5 - 1) ez9 hq Hz lz hP hD hSz ls (lv_sub hl [1, 2, 3, 0] rfl) ?_
        intro Hz lz hP hD hSz ls hl
        refine lv_iload_n hx hb dX8_overlapLength_92 rfl (lv_at hl 0 rfl) ?_
        cases hs
        exact k_iret_w hx hb hr hlk (by rw [hw1]; exact hP) hSz dX8_overlapLength_93 rfl
      · refine lv_aload_n hx hb dX8_overlapLength_50 rfl (lv_at hl 0 rfl) ?_
        refine va_get (ci := 8) (v := .ref (ad 2)) (C := RX8) (T := TX8) (N := 42) hx hb hts hiX8 hown hK hP 0 rfl rfl 3 (by decide) hf17 (fun _ h9 => h9) rfl dX8_overlapLength_51 ?_
        refine lv_iload_n hx hb dX8_overlapLength_54 rfl (lv_at hl 2 rfl) ?_
        refine k_iald hx hb hK hP 2 0 rfl rfl (Nat.le_of_ble_eq_true rfl) hs dX8_overlapLength_55 (fun vz10 hs => ?_)
        refine k_iconst (n := 1) hx hb dX8_overlapLength_56 ?_
        refine k_isub hx hb dX8_overlapLength_57 ?_
        refine lv_istore_n (lv' := [(3, .int (iI (vz10 - 1))), (0, .ref (ad 0)), (1, .int (iI pz1)), (2, .int (iI pz2))]) hx hb dX8_overlapLength_58 rfl hl (by decide) rfl (fun ls hl => ?_)
        obtain ⟨ez11, hq, hs⟩ := bd1_some hs
        refine Lz59 FU 0 pz1 pz2 (vz10 - 1) ez11 hq Hz lz hP hD hSz ls (lv_sub hl [1, 2, 3, 0] rfl) ?_
        intro Hz lz hP hD hSz ls hl
        refine lv_iload_n hx hb dX8_overlapLength_92 rfl (lv_at hl 0 rfl) ?_
        cases hs
        exact k_iret_w hx hb hr hlk (by rw [hw1]; exact hP) hSz dX8_overlapLength_93 rfl
/-! X8_occursIn -/
set_option maxHeartbeats 4000000 in
set_option maxRecDepth 100000 in
theorem c_X8_occursIn (l : Launch) (D : va_G) (cI cZ cJ : ClassId) {ad : Nat → Nat} {x_thrown : Int} {x_buffered : Int} {x_given : Int} {x_isFolding : Int} {x_work : Int} {x_rebuilt : Int} {x_streamed : Int} {x_reports : Int} {x_gapFrom : Int} {x_gapSize : Int} {x_elements : Int} {x_wholeSize : Int} {x_isLaid : Int} {x_takenMany : Int} {a_buffer : (Int → Int)} {a_length : (Int → Int)} {a_bytes : (Int → Int)} {a_weight : (Int → Int)} {a_live : (Int → Int)} {a_size : (Int → Int)} {a_list : (Int → Int)} {a_moved : (Int → Int)} {a_planned : (Int → Int)} {a_stream : (Int → Int)} {a_reportedEnd : (Int → Int)} {a_reportedKeyword : (Int → Int)} {a_starts : (Int → Int)} {a_keywordAt : (Int → Int)} {a_element : (Int → Int)} {a_long1 : (Int → Int)} {a_head : (Int → Int)} {a_tail : (Int → Int)} {a_next : (Int → Int)} {a_skip : (Int → Int)} {a_last : (Int → Int)} {a_whole : (Int → Int)} {a_edges : (Int → Int)} {a_covers : (Int → Int)} {a_weighs : (Int → Int)} {a_numbers : (Int → Int)} {a_takes : (Int → Int)} {a_takenAt : (Int → Int)} {pz1 : Int} {pz2 : Int} {r : Int} (hs : s_X8_occursIn x_isFolding a_length a_bytes pz1 pz2 = some r) : Met l yX8_occursIn wsX8_occursIn rm_X8_occursIn (PR D vwCl [(cI, .int), (cZ, .boolean), (cJ, .long)] [.ref (ad 0), .int (iI pz1), .int (iI pz2)] (wM cI cZ cJ ad x_thrown x_buffered x_given x_isFolding x_work x_rebuilt x_streamed x_reports x_gapFrom x_gapSize x_elements x_wholeSize x_isLaid x_takenMany a_buffer a_length a_bytes a_weight a_live a_size a_list a_moved a_planned a_stream a_reportedEnd a_reportedKeyword a_starts a_keywordAt a_element a_long1 a_head a_tail a_next a_skip a_last a_whole a_edges a_covers a_weighs a_numbers a_takes a_takenAt)) (QR (some (.int (iI r)))) 0 0 (fun _ => False) := by
  refine Met.ofW (cc := cX8_occursIn) (maxL := 5) (ret := (some .boolean)) (by decide) rfl ?_
  intro p e s m args below meth c s₁ B hml hv
  obtain ⟨hav, hP, hK⟩ := hv
  have hx := B.exec
  have hb := B.bytes
  have hr := B.returns
  have hts := atoms_spec (ws := wsX8_occursIn) B.pre
  have hown : s.vm.findClass RX8 = some m.cls := findClass_of_methodNamed B.named
  have hlk := B.notSynchronized
  have hf17 : (Cond.fieldLink RX8 17 "KeywordMatcherModel" "length" "[I").before args s = true := hts _ (List.mem_of_getElem? (i := 1) rfl)
  have hiX8 : ∀ w ∈ wsX80, w ∈ wsX8_occursIn := fun w h => List.mem_cons_of_mem _ (List.mem_append_right _ h)
  have hl := lv_entry ([.ref (ad 0), .int (iI pz1), .int (iI pz2)]) (n := 5) (Nat.le_of_ble_eq_true rfl)
  rw [show entryFrame m args 5 = entryFrame m ([.ref (ad 0), .int (iI pz1), .int (iI pz2)] : List Value).toArray 5 from by rw [hav], lg_entry_eq]
  generalize (lg_sl ([.ref (ad 0), .int (iI pz1), .int (iI pz2)]) ++ List.replicate (5 - (lg_sl ([.ref (ad 0), .int (iI pz1), .int (iI pz2)])).length) Slot.unset).toArray = ls at hl ⊢
  have hl : lv_has ls 5 [(0, .ref (ad 0)), (1, .int (iI pz1)), (2, .int (iI pz2))] := hl
  unfold s_X8_occursIn at hs
  have Lz22 : ∀ (fu : Nat) (l1 : Int) (l2 : Int) (l3 : Int) (l4 : Int) (y0 : Int), s_X8_occursIn_22 fu x_isFolding a_length a_bytes l1 l2 l3 l4 = some y0 → ∀ ls : Array Slot, lv_has ls 5 [(0, .ref (ad 0)), (1, .int (iI l1)), (2, .int (iI l2)), (3, .int (iI l3)), (4, .int (iI l4))] → (∀ ls : Array Slot, lv_has ls 5 [(0, .ref (ad 0)), (1, .int (iI l1)), (2, .int (iI l2)), (3, .int (iI l3)), (4, .int (iI y0))] → W p l e (headSpec wsX8_occursIn rm_X8_occursIn).room s m args below meth c s.heap [] 0 0 (MQ below (QR (some (.int (iI r)))) args s 0 0 (fun _ => False)) (F0 m 62 ls [])) → W p l e (headSpec wsX8_occursIn rm_X8_occursIn).room s m args below meth c s.heap [] 0 0 (MQ below (QR (some (.int (iI r)))) args s 0 0 (fun _ => False)) (F0 m 22 ls []) := by
    intro fu
    induction fu with
    | zero => intro l1 l2 l3 l4 y0 hs; cases hs
    | succ fu ih =>
      intro l1 l2 l3 l4 y0 hs ls hl kx
      rw [s_X8_occursIn_22_s] at hs
      refine lv_iload hx hb dX8_occursIn_22 (lv_at hl 4 rfl) ?_
      refine lv_aload_n hx hb dX8_occursIn_24 rfl (lv_at hl 0 rfl) ?_
      refine va_get (ci := 8) (v := .ref (ad 2)) (C := RX8) (T := TX8) (N := 42) hx hb hts hiX8 hown hK hP 0 rfl rfl 3 (by decide) hf17 (fun _ h9 => h9) rfl dX8_occursIn_25 ?_
      refine lv_iload_n hx hb dX8_occursIn_28 rfl (lv_at hl 1 rfl) ?_
      refine k_iald hx hb hK hP 2 0 rfl rfl (Nat.le_of_ble_eq_true rfl) hs dX8_occursIn_29 (fun vz3 hs => ?_)
      refine k_icmp_ge (tgt := 62) hx hb hs dX8_occursIn_30 (by decide) (fun hs => ?_) (fun hs => ?_)
      · refine lv_aload_n hx hb dX8_occursIn_33 rfl (lv_at hl 0 rfl) ?_
        refine lv_aload_n hx hb dX8_occursIn_34 rfl (lv_at hl 0 rfl) ?_
        refine lv_iload_n hx hb dX8_occursIn_35 rfl (lv_at hl 1 rfl) ?_
        refine lv_iload hx hb dX8_occursIn_36 (lv_at hl 4 rfl) ?_
        obtain ⟨vz4, hcz, hs⟩ := bd1_some hs
        refine k_rV (As := [.int (iI l1), .int (iI l4)]) (rest := [.ref (ad 0)]) (st1 := [.int (iI vz4), .ref (ad 0)]) ⟨hx, hb, hml, hown, hts⟩ hK hP (c_X8_byteOf l D cI cZ cJ hcz) (cwV 2 hts gX8_occursIn_X8_byteOf rfl rfl rfl (by decide +kernel) ⟨Nat.le_of_ble_eq_true rfl, Nat.le_of_ble_eq_true rfl⟩) 0 rfl rfl rfl rfl hl.1 rfl (lv_room (Nat.le_of_ble_eq_true rfl)) dX8_occursIn_38 ⟨Nat.zero_le _, Nat.zero_le _⟩ rfl ?_
        refine lv_aload_n hx hb dX8_occursIn_41 rfl (lv_at hl 0 rfl) ?_
        refine lv_iload_n hx hb dX8_occursIn_42 rfl (lv_at hl 2 rfl) ?_
        refine lv_iload_n hx hb dX8_occursIn_43 rfl (lv_at hl 3 rfl) ?_
        refine lv_iload hx hb dX8_occursIn_44 (lv_at hl 4 rfl) ?_
        refine k_iadd hx hb dX8_occursIn_46 ?_
        obtain ⟨vz5, hcz, hs⟩ := bd1_some hs
        refine k_rV (As := [.int (iI l2), .int (iI (l3 + l4))]) (rest := [.int (iI vz4), .ref (ad 0)]) (st1 := [.int (iI vz5), .int (iI vz4), .ref (ad 0)]) ⟨hx, hb, hml, hown, hts⟩ hK hP (c_X8_byteOf l D cI cZ cJ hcz) (cwV 2 hts gX8_occursIn_X8_byteOf rfl rfl rfl (by decide +kernel) ⟨Nat.le_of_ble_eq_true rfl, Nat.le_of_ble_eq_true rfl⟩) 0 rfl rfl rfl rfl hl.1 rfl (lv_room (Nat.le_of_ble_eq_true rfl)) dX8_occursIn_47 ⟨Nat.zero_le _, Nat.zero_le _⟩ rfl ?_
        obtain ⟨vz6, hcz, hs⟩ := bd1_some hs
        refine k_rV (As := [.int (iI vz4), .int (iI vz5)]) (rest := []) (st1 := [.int (iI vz6)]) ⟨hx, hb, hml, hown, hts⟩ hK hP (c_X8_like l D cI cZ cJ hcz) (cwV 2 hts gX8_occursIn_X8_like rfl rfl rfl (by decide +kernel) ⟨Nat.le_of_ble_eq_true rfl, Nat.le_of_ble_eq_true rfl⟩) 0 rfl rfl rfl rfl hl.1 rfl (lv_room (Nat.le_of_ble_eq_true rfl)) dX8_occursIn_50 ⟨Nat.zero_le _, Nat.zero_le _⟩ rfl ?_
        refine k_if_eq (tgt := 62) hx hb hs dX8_occursIn_53 (by decide) (fun hs => ?_) (fun hs => ?_)
        · cases hs
          exact kx ls (lv_sub hl [0, 1, 2, 3, 4] rfl)
        · refine k_iinc (x := l4) (k := 4) (lv' := [(4, .int (iI (l4 + 1))), (0, .ref (ad 0)), (1, .int (iI l1)), (2, .int (iI l2)), (3, .int (iI l3))]) hx hb dX8_occursIn_56 hl rfl (by decide) rfl (fun ls hl => ?_)
          refine lv_goto (tgt := 22) hx hb dX8_occursIn_59 (by decide) ?_
          exact ih l1 l2 l3 (l4 + 1) y0 hs ls (lv_sub hl [1, 2, 3, 4, 0] rfl) kx
      · cases hs
        exact kx ls (lv_sub hl [0, 1, 2, 3, 4] rfl)
  have Lz2 : ∀ (fu : Nat) (l1 : Int) (l2 : Int) (l3 : Int), s_X8_occursIn_2 fu x_isFolding a_length a_bytes l1 l2 l3 = some r → ∀ ls : Array Slot, lv_has ls 5 [(0, .ref (ad 0)), (1, .int (iI l1)), (2, .int (iI l2)), (3, .int (iI l3))] → W p l e (headSpec wsX8_occursIn rm_X8_occursIn).room s m args below meth c s.heap [] 0 0 (MQ below (QR (some (.int (iI r)))) args s 0 0 (fun _ => False)) (F0 m 2 ls []) := by
    intro fu
    induction fu with
    | zero => intro l1 l2 l3 hs; cases hs
    | succ fu ih =>
      intro l1 l2 l3 hs ls hl
      rw [s_X8_occursIn_2_s] at hs
      refine lv_iload_n hx hb dX8_occursIn_2 rfl (lv_at hl 3 rfl) ?_
      refine lv_aload_n hx hb dX8_occursIn_3 rfl (lv_at hl 0 rfl) ?_
      refine va_get (ci := 8) (v := .ref (ad 2)) (C := RX8) (T := TX8) (N := 42) hx hb hts hiX8 hown hK hP 0 rfl rfl 3 (by decide) hf17 (fun _ h9 => h9) rfl dX8_occursIn_4 ?_
      refine lv_iload_n hx hb dX8_occursIn_7 rfl (lv_at hl 1 rfl) ?_
      refine k_iald hx hb hK hP 2 0 rfl rfl (Nat.le_of_ble_eq_true rfl) hs dX8_occursIn_8 (fun vz1 hs => ?_)
      refine k_iadd hx hb dX8_occursIn_9 ?_
      refine lv_aload_n hx hb dX8_occursIn_10 rfl (lv_at hl 0 rfl) ?_
      refine va_get (ci := 8) (v := .ref (ad 2)) (C := RX8) (T := TX8) (N := 42) hx hb hts hiX8 hown hK hP 0 rfl rfl 3 (by decide) hf17 (fun _ h9 => h9) rfl dX8_occursIn_11 ?_
      refine lv_iload_n hx hb dX8_occursIn_14 rfl (lv_at hl 2 rfl) ?_
      refine k_iald hx hb hK hP 2 0 rfl rfl (Nat.le_of_ble_eq_true rfl) hs dX8_occursIn_15 (fun vz2 hs => ?_)
      refine k_icmp_gt (tgt := 81) hx hb hs dX8_occursIn_16 (by decide) (fun hs => ?_) (fun hs => ?_)
      · refine k_iconst (n := 0) hx hb dX8_occursIn_81 ?_
        cases hs
        exact k_zret_r hx hb hr hlk rfl (by decide) dX8_occursIn_82 rfl
      · refine k_iconst (n := 0) hx hb dX8_occursIn_19 ?_
        refine lv_istore (lv' := [(4, .int (iI 0)), (0, .ref (ad 0)), (1, .int (iI l1)), (2, .int (iI l2)), (3, .int (iI l3))]) hx hb dX8_occursIn_20 hl (by decide) rfl (fun ls hl => ?_)
        obtain ⟨ez7, hq, hs⟩ := bd1_some hs
        refine Lz22 FU l1 l2 l3 0 ez7 hq ls (lv_sub hl [1, 2, 3, 4, 0] rfl) ?_
        intro ls hl
        refine lv_iload hx hb dX8_occursIn_62 (lv_at hl 4 rfl) ?_
        refine lv_aload_n hx hb dX8_occursIn_64 rfl (lv_at hl 0 rfl) ?_
        refine va_get (ci := 8) (v := .ref (ad 2)) (C := RX8) (T := TX8) (N := 42) hx hb hts hiX8 hown hK hP 0 rfl rfl 3 (by decide) hf17 (fun _ h9 => h9) rfl dX8_occursIn_65 ?_
        refine lv_iload_n hx hb dX8_occursIn_68 rfl (lv_at hl 1 rfl) ?_
        refine k_iald hx hb hK hP 2 0 rfl rfl (Nat.le_of_ble_eq_true rfl) hs dX8_occursIn_69 (fun vz8 hs => ?_)
        refine k_icmp_ne (tgt := 75) hx hb hs dX8_occursIn_70 (by decide) (fun hs => ?_) (fun hs => ?_)
        · refine k_iconst (n := 1) hx hb dX8_occursIn_73 ?_
          cases hs
          exact k_zret_r hx hb hr hlk rfl (by decide) dX8_occursIn_74 rfl
        · refine k_iinc (x := l3) (k := 3) (lv' := [(3, .int (iI (l3 + 1))), (0, .ref (ad 0)), (1, .int (iI l1)), (2, .int (iI l2)), (4, .int (iI ez7))]) hx hb dX8_occursIn_75 hl rfl (by decide) rfl (fun ls hl => ?_)
          refine lv_goto (tgt := 2) hx hb dX8_occursIn_78 (by decide) ?_
          exact ih l1 l2 (l3 + 1)  hs ls (lv_sub hl [1, 2, 3, 0] rfl)
  refine k_iconst (n := 0) hx hb dX8_occursIn_0 ?_
  refine lv_istore_n (lv' := [(3, .int (iI 0)), (0, .ref (ad 0)), (1, .int (iI pz1)), (2, .int (iI pz2))]) hx hb dX8_occursIn_1 rfl hl (by decide) rfl (fun ls hl => ?_)
  exact Lz2 FU pz1 pz2 0 hs ls (lv_sub hl [1, 2, 3, 0] rfl)
/-! X8_occursInAny -/
set_option maxHeartbeats 4000000 in
set_option maxRecDepth 100000 in
theorem c_X8_occursInAny (l : Launch) (D : va_G) (cI cZ cJ : ClassId) {ad : Nat → Nat} {x_thrown : Int} {x_buffered : Int} {x_given : Int} {x_isFolding : Int} {x_work : Int} {x_rebuilt : Int} {x_streamed : Int} {x_reports : Int} {x_gapFrom : Int} {x_gapSize : Int} {x_elements : Int} {x_wholeSize : Int} {x_isLaid : Int} {x_takenMany : Int} {a_buffer : (Int → Int)} {a_length : (Int → Int)} {a_bytes : (Int → Int)} {a_weight : (Int → Int)} {a_live : (Int → Int)} {a_size : (Int → Int)} {a_list : (Int → Int)} {a_moved : (Int → Int)} {a_planned : (Int → Int)} {a_stream : (Int → Int)} {a_reportedEnd : (Int → Int)} {a_reportedKeyword : (Int → Int)} {a_starts : (Int → Int)} {a_keywordAt : (Int → Int)} {a_element : (Int → Int)} {a_long1 : (Int → Int)} {a_head : (Int → Int)} {a_tail : (Int → Int)} {a_next : (Int → Int)} {a_skip : (Int → Int)} {a_last : (Int → Int)} {a_whole : (Int → Int)} {a_edges : (Int → Int)} {a_covers : (Int → Int)} {a_weighs : (Int → Int)} {a_numbers : (Int → Int)} {a_takes : (Int → Int)} {a_takenAt : (Int → Int)} {pz1 : Int} {r : Int} (hs : s_X8_occursInAny x_given x_isFolding a_length a_bytes a_live pz1 = some r) : Met l yX8_occursInAny wsX8_occursInAny rm_X8_occursInAny (PR D vwCl [(cI, .int), (cZ, .boolean), (cJ, .long)] [.ref (ad 0), .int (iI pz1)] (wM cI cZ cJ ad x_thrown x_buffered x_given x_isFolding x_work x_rebuilt x_streamed x_reports x_gapFrom x_gapSize x_elements x_wholeSize x_isLaid x_takenMany a_buffer a_length a_bytes a_weight a_live a_size a_list a_moved a_planned a_stream a_reportedEnd a_reportedKeyword a_starts a_keywordAt a_element a_long1 a_head a_tail a_next a_skip a_last a_whole a_edges a_covers a_weighs a_numbers a_takes a_takenAt)) (QR (some (.int (iI r)))) 0 0 (fun _ => False) := by
  refine Met.ofW (cc := cX8_occursInAny) (maxL := 3) (ret := (some .boolean)) (by decide) rfl ?_
  intro p e s m args below meth c s₁ B hml hv
  obtain ⟨hav, hP, hK⟩ := hv
  have hx := B.exec
  have hb := B.bytes
  have hr := B.returns
  have hts := atoms_spec (ws := wsX8_occursInAny) B.pre
  have hown : s.vm.findClass RX8 = some m.cls := findClass_of_methodNamed B.named
  have hlk := B.notSynchronized
  have hf102 : (Cond.fieldLink RX8 102 "KeywordMatcherModel" "given" "I").before args s = true := hts _ (List.mem_of_getElem? (i := 1) rfl)
  have hiX8 : ∀ w ∈ wsX80, w ∈ wsX8_occursInAny := fun w h => List.mem_cons_of_mem _ (List.mem_append_right _ h)
  have hf26 : (Cond.fieldLink RX8 26 "KeywordMatcherModel" "live" "[Z").before args s = true := hts _ (List.mem_of_getElem? (i := 2) rfl)
  have hl := lv_entry ([.ref (ad 0), .int (iI pz1)]) (n := 3) (Nat.le_of_ble_eq_true rfl)
  rw [show entryFrame m args 3 = entryFrame m ([.ref (ad 0), .int (iI pz1)] : List Value).toArray 3 from by rw [hav], lg_entry_eq]
  generalize (lg_sl ([.ref (ad 0), .int (iI pz1)]) ++ List.replicate (3 - (lg_sl ([.ref (ad 0), .int (iI pz1)])).length) Slot.unset).toArray = ls at hl ⊢
  have hl : lv_has ls 3 [(0, .ref (ad 0)), (1, .int (iI pz1))] := hl
  unfold s_X8_occursInAny at hs
  have Lz2 : ∀ (fu : Nat) (l1 : Int) (l2 : Int), s_X8_occursInAny_2 fu x_given x_isFolding a_length a_bytes a_live l1 l2 = some r → ∀ ls : Array Slot, lv_has ls 3 [(0, .ref (ad 0)), (1, .int (iI l1)), (2, .int (iI l2))] → W p l e (headSpec wsX8_occursInAny rm_X8_occursInAny).room s m args below meth c s.heap [] 0 0 (MQ below (QR (some (.int (iI r)))) args s 0 0 (fun _ => False)) (F0 m 2 ls []) := by
    intro fu
    induction fu with
    | zero => intro l1 l2 hs; cases hs
    | succ fu ih =>
      intro l1 l2 hs ls hl
      rw [s_X8_occursInAny_2_s] at hs
      refine lv_iload_n hx hb dX8_occursInAny_2 rfl (lv_at hl 2 rfl) ?_
      refine lv_aload_n hx hb dX8_occursInAny_3 rfl (lv_at hl 0 rfl) ?_
      refine va_get (ci := 8) (v := .int (iI x_given)) (C := RX8) (T := TX8) (N := 42) hx hb hts hiX8 hown hK hP 0 rfl rfl 7 (by decide) hf102 (fun _ h9 => h9) rfl dX8_occursInAny_4 ?_
      refine k_icmp_ge (tgt := 41) hx hb hs dX8_occursInAny_7 (by decide) (fun hs => ?_) (fun hs => ?_)
      · refine lv_aload_n hx hb dX8_occursInAny_10 rfl (lv_at hl 0 rfl) ?_
        refine va_get (ci := 8) (v := .ref (ad 5)) (C := RX8) (T := TX8) (N := 42) hx hb hts hiX8 hown hK hP 0 rfl rfl 6 (by decide) hf26 (fun _ h9 => h9) rfl dX8_occursInAny_11 ?_
        refine lv_iload_n hx hb dX8_occursInAny_14 rfl (lv_at hl 2 rfl) ?_
        refine k_zald hx hb hK hP 5 1 rfl rfl (Nat.le_of_ble_eq_true rfl) hs dX8_occursInAny_15 (fun vz1 hs => ?_)
        refine k_if_eq (tgt := 35) hx hb hs dX8_occursInAny_16 (by decide) (fun hs => ?_) (fun hs => ?_)
        · refine k_iinc (x := l2) (k := 2) (lv' := [(2, .int (iI (l2 + 1))), (0, .ref (ad 0)), (1, .int (iI l1))]) hx hb dX8_occursInAny_35 hl rfl (by decide) rfl (fun ls hl => ?_)
          refine lv_goto (tgt := 2) hx hb dX8_occursInAny_38 (by decide) ?_
          exact ih l1 (l2 + 1)  hs ls (lv_sub hl [1, 2, 0] rfl)
        · refine lv_iload_n hx hb dX8_occursInAny_19 rfl (lv_at hl 2 rfl) ?_
          refine lv_iload_n hx hb dX8_occursInAny_20 rfl (lv_at hl 1 rfl) ?_
          refine k_icmp_eq (tgt := 35) hx hb hs dX8_occursInAny_21 (by decide) (fun hs => ?_) (fun hs => ?_)
          · refine k_iinc (x := l2) (k := 2) (lv' := [(2, .int (iI (l2 + 1))), (0, .ref (ad 0)), (1, .int (iI l1))]) hx hb dX8_occursInAny_35 hl rfl (by decide) rfl (fun ls hl => ?_)
            refine lv_goto (tgt := 2) hx hb dX8_occursInAny_38 (by decide) ?_
            exact ih l1 (l2 + 1)  hs ls (lv_sub hl [1, 2, 0] rfl)
          · refine lv_aload_n hx hb dX8_occursInAny_24 rfl (lv_at hl 0 rfl) ?_
            refine lv_iload_n hx hb dX8_occursInAny_25 rfl (lv_at hl 1 rfl) ?_
            refine lv_iload_n hx hb dX8_occursInAny_26 rfl (lv_at hl 2 rfl) ?_
            obtain ⟨vz2, hcz, hs⟩ := bd1_some hs
            refine k_rV (As := [.int (iI l1), .int (iI l2)]) (rest := []) (st1 := [.int (iI vz2)]) ⟨hx, hb, hml, hown, hts⟩ hK hP (c_X8_occursIn l D cI cZ cJ hcz) (cwV 2 hts gX8_occursInAny_X8_occursIn rfl rfl rfl (by decide +kernel) ⟨Nat.le_of_ble_eq_true rfl, Nat.le_of_ble_eq_true rfl⟩) 0 rfl rfl rfl rfl hl.1 rfl (lv_room (Nat.le_of_ble_eq_true rfl)) dX8_occursInAny_27 ⟨Nat.zero_le _, Nat.zero_le _⟩ rfl ?_
            refine k_if_eq (tgt := 35) hx hb hs dX8_occursInAny_30 (by decide) (fun hs => ?_) (fun hs => ?_)
            · refine k_iinc (x := l2) (k := 2) (lv' := [(2, .int (iI (l2 + 1))), (0, .ref (ad 0)), (1, .int (iI l1))]) hx hb dX8_occursInAny_35 hl rfl (by decide) rfl (fun ls hl => ?_)
              refine lv_goto (tgt := 2) hx hb dX8_occursInAny_38 (by decide) ?_
              exact ih l1 (l2 + 1)  hs ls (lv_sub hl [1, 2, 0] rfl)
            · refine k_iconst (n := 1) hx hb dX8_occursInAny_33 ?_
              cases hs
              exact k_zret_r hx hb hr hlk rfl (by decide) dX8_occursInAny_34 rfl
      · refine k_iconst (n := 0) hx hb dX8_occursInAny_41 ?_
        cases hs
        exact k_zret_r hx hb hr hlk rfl (by decide) dX8_occursInAny_42 rfl
  refine k_iconst (n := 0) hx hb dX8_occursInAny_0 ?_
  refine lv_istore_n (lv' := [(2, .int (iI 0)), (0, .ref (ad 0)), (1, .int (iI pz1))]) hx hb dX8_occursInAny_1 rfl hl (by decide) rfl (fun ls hl => ?_)
  exact Lz2 FU pz1 0 hs ls (lv_sub hl [1, 2, 0] rfl)
/-! X8_edgeOf -/
set_option maxHeartbeats 4000000 in
set_option maxRecDepth 100000 in
theorem c_X8_edgeOf (l : Launch) (D : va_G) (cI cZ cJ : ClassId) {ad : Nat → Nat} {x_thrown : Int} {x_buffered : Int} {x_given : Int} {x_isFolding : Int} {x_work : Int} {x_rebuilt : Int} {x_streamed : Int} {x_reports : Int} {x_gapFrom : Int} {x_gapSize : Int} {x_elements : Int} {x_wholeSize : Int} {x_isLaid : Int} {x_takenMany : Int} {a_buffer : (Int → Int)} {a_length : (Int → Int)} {a_bytes : (Int → Int)} {a_weight : (Int → Int)} {a_live : (Int → Int)} {a_size : (Int → Int)} {a_list : (Int → Int)} {a_moved : (Int → Int)} {a_planned : (Int → Int)} {a_stream : (Int → Int)} {a_reportedEnd : (Int → Int)} {a_reportedKeyword : (Int → Int)} {a_starts : (Int → Int)} {a_keywordAt : (Int → Int)} {a_element : (Int → Int)} {a_long1 : (Int → Int)} {a_head : (Int → Int)} {a_tail : (Int → Int)} {a_next : (Int → Int)} {a_skip : (Int → Int)} {a_last : (Int → Int)} {a_whole : (Int → Int)} {a_edges : (Int → Int)} {a_covers : (Int → Int)} {a_weighs : (Int → Int)} {a_numbers : (Int → Int)} {a_takes : (Int → Int)} {a_takenAt : (Int → Int)} {pz1 : Int} {r : Int} (hs : s_X8_edgeOf a_long1 pz1 = some r) : Met l yX8_edgeOf wsX8_edgeOf rm_X8_edgeOf (PR D vwCl [(cI, .int), (cZ, .boolean), (cJ, .long)] [.ref (ad 0), .int (iI pz1)] (wM cI cZ cJ ad x_thrown x_buffered x_given x_isFolding x_work x_rebuilt x_streamed x_reports x_gapFrom x_gapSize x_elements x_wholeSize x_isLaid x_takenMany a_buffer a_length a_bytes a_weight a_live a_size a_list a_moved a_planned a_stream a_reportedEnd a_reportedKeyword a_starts a_keywordAt a_element a_long1 a_head a_tail a_next a_skip a_last a_whole a_edges a_covers a_weighs a_numbers a_takes a_takenAt)) (QR (some (.int (iI r)))) 0 0 (fun _ => False) := by
  refine Met.ofW (cc := cX8_edgeOf) (maxL := 2) (ret := (some .int)) (by decide) rfl ?_
  intro p e s m args below meth c s₁ B hml hv
  obtain ⟨hav, hP, hK⟩ := hv
  have hx := B.exec
  have hb := B.bytes
  have hr := B.returns
  have hts := atoms_spec (ws := wsX8_edgeOf) B.pre
  have hown : s.vm.findClass RX8 = some m.cls := findClass_of_methodNamed B.named
  have hlk := B.notSynchronized
  have hf60 : (Cond.fieldLink RX8 60 "KeywordMatcherModel" "long1" "[I").before args s = true := hts _ (List.mem_of_getElem? (i := 1) rfl)
  have hiX8 : ∀ w ∈ wsX80, w ∈ wsX8_edgeOf := fun w h => List.mem_cons_of_mem _ (List.mem_append_right _ h)
  have hl := lv_entry ([.ref (ad 0), .int (iI pz1)]) (n := 2) (Nat.le_of_ble_eq_true rfl)
  rw [show entryFrame m args 2 = entryFrame m ([.ref (ad 0), .int (iI pz1)] : List Value).toArray 2 from by rw [hav], lg_entry_eq]
  generalize (lg_sl ([.ref (ad 0), .int (iI pz1)]) ++ List.replicate (2 - (lg_sl ([.ref (ad 0), .int (iI pz1)])).length) Slot.unset).toArray = ls at hl ⊢
  have hl : lv_has ls 2 [(0, .ref (ad 0)), (1, .int (iI pz1))] := hl
  unfold s_X8_edgeOf at hs
  refine lv_aload_n hx hb dX8_edgeOf_0 rfl (lv_at hl 0 rfl) ?_
  refine va_get (ci := 8) (v := .ref (ad 16)) (C := RX8) (T := TX8) (N := 42) hx hb hts hiX8 hown hK hP 0 rfl rfl 25 (by decide) hf60 (fun _ h9 => h9) rfl dX8_edgeOf_1 ?_
  refine lv_iload_n hx hb dX8_edgeOf_4 rfl (lv_at hl 1 rfl) ?_
  refine k_iald hx hb hK hP 16 0 rfl rfl (Nat.le_of_ble_eq_true rfl) hs dX8_edgeOf_5 (fun vz1 hs => ?_)
  refine k_bipush (n := 15) hx hb (by decide) dX8_edgeOf_6 ?_
  refine k_icmp_ge (tgt := 20) hx hb hs dX8_edgeOf_8 (by decide) (fun hs => ?_) (fun hs => ?_)
  · refine lv_aload_n hx hb dX8_edgeOf_11 rfl (lv_at hl 0 rfl) ?_
    refine va_get (ci := 8) (v := .ref (ad 16)) (C := RX8) (T := TX8) (N := 42) hx hb hts hiX8 hown hK hP 0 rfl rfl 25 (by decide) hf60 (fun _ h9 => h9) rfl dX8_edgeOf_12 ?_
    refine lv_iload_n hx hb dX8_edgeOf_15 rfl (lv_at hl 1 rfl) ?_
    refine k_iald hx hb hK hP 16 0 rfl rfl (Nat.le_of_ble_eq_true rfl) hs dX8_edgeOf_16 (fun vz2 hs => ?_)
    refine lv_goto (tgt := 22) hx hb dX8_edgeOf_17 (by decide) ?_
    cases hs
    exact k_iret_r hx hb hr hlk rfl dX8_edgeOf_22 rfl
  · refine k_bipush (n := 15) hx hb (by decide) dX8_edgeOf_20 ?_
    cases hs
    exact k_iret_r hx hb hr hlk rfl dX8_edgeOf_22 rfl
/-! X8_laysElements -/
set_option maxHeartbeats 4000000 in
set_option maxRecDepth 100000 in
theorem c_X8_laysElements (l : Launch) (D : va_G) (cI cZ cJ : ClassId) {ad : Nat → Nat} {x_thrown : Int} {x_buffered : Int} {x_given : Int} {x_isFolding : Int} {x_work : Int} {x_rebuilt : Int} {x_streamed : Int} {x_reports : Int} {x_gapFrom : Int} {x_gapSize : Int} {x_elements : Int} {x_wholeSize : Int} {x_isLaid : Int} {x_takenMany : Int} {a_buffer : (Int → Int)} {a_length : (Int → Int)} {a_bytes : (Int → Int)} {a_weight : (Int → Int)} {a_live : (Int → Int)} {a_size : (Int → Int)} {a_list : (Int → Int)} {a_moved : (Int → Int)} {a_planned : (Int → Int)} {a_stream : (Int → Int)} {a_reportedEnd : (Int → Int)} {a_reportedKeyword : (Int → Int)} {a_starts : (Int → Int)} {a_keywordAt : (Int → Int)} {a_element : (Int → Int)} {a_long1 : (Int → Int)} {a_head : (Int → Int)} {a_tail : (Int → Int)} {a_next : (Int → Int)} {a_skip : (Int → Int)} {a_last : (Int → Int)} {a_whole : (Int → Int)} {a_edges : (Int → Int)} {a_covers : (Int → Int)} {a_weighs : (Int → Int)} {a_numbers : (Int → Int)} {a_takes : (Int → Int)} {a_takenAt : (Int → Int)} {y_x_elements : Int} {y_a_element : (Int → Int)} {y_a_long1 : (Int → Int)} {y_a_head : (Int → Int)} {y_a_tail : (Int → Int)} {y_a_next : (Int → Int)} {y_a_last : (Int → Int)} {sz : Nat} (hs : s_X8_laysElements x_given x_isFolding x_elements a_length a_bytes a_live a_element a_long1 a_head a_tail a_next a_last = some (y_x_elements, y_a_element, y_a_long1, y_a_head, y_a_tail, y_a_next, y_a_last)) : Met l yX8_laysElements wsX8_laysElements rm_X8_laysElements (PW D vwCl [(cI, .int), (cZ, .boolean), (cJ, .long)] [.ref (ad 0)] (wM cI cZ cJ ad x_thrown x_buffered x_given x_isFolding x_work x_rebuilt x_streamed x_reports x_gapFrom x_gapSize x_elements x_wholeSize x_isLaid x_takenMany a_buffer a_length a_bytes a_weight a_live a_size a_list a_moved a_planned a_stream a_reportedEnd a_reportedKeyword a_starts a_keywordAt a_element a_long1 a_head a_tail a_next a_skip a_last a_whole a_edges a_covers a_weighs a_numbers a_takes a_takenAt) sz) (QW D vwCl none (wM cI cZ cJ ad x_thrown x_buffered x_given x_isFolding x_work x_rebuilt x_streamed x_reports x_gapFrom x_gapSize y_x_elements x_wholeSize x_isLaid x_takenMany a_buffer a_length a_bytes a_weight a_live a_size a_list a_moved a_planned a_stream a_reportedEnd a_reportedKeyword a_starts a_keywordAt y_a_element y_a_long1 y_a_head y_a_tail y_a_next a_skip y_a_last a_whole a_edges a_covers a_weighs a_numbers a_takes a_takenAt) (va_A (wM cI cZ cJ ad x_thrown x_buffered x_given x_isFolding x_work x_rebuilt x_streamed x_reports x_gapFrom x_gapSize x_elements x_wholeSize x_isLaid x_takenMany a_buffer a_length a_bytes a_weight a_live a_size a_list a_moved a_planned a_stream a_reportedEnd a_reportedKeyword a_starts a_keywordAt a_element a_long1 a_head a_tail a_next a_skip a_last a_whole a_edges a_covers a_weighs a_numbers a_takes a_takenAt) sz)) 0 0 (va_A (wM cI cZ cJ ad x_thrown x_buffered x_given x_isFolding x_work x_rebuilt x_streamed x_reports x_gapFrom x_gapSize x_elements x_wholeSize x_isLaid x_takenMany a_buffer a_length a_bytes a_weight a_live a_size a_list a_moved a_planned a_stream a_reportedEnd a_reportedKeyword a_starts a_keywordAt a_element a_long1 a_head a_tail a_next a_skip a_last a_whole a_edges a_covers a_weighs a_numbers a_takes a_takenAt) sz) := by
  refine Met.ofW (cc := cX8_laysElements) (maxL := 4) (ret := none) (by decide) rfl ?_
  intro p e s m args below meth c s₁ B hml hv
  obtain ⟨hav, hsz, hP, hK, hD0⟩ := hv
  have hx := B.exec
  have hb := B.bytes
  have hr := B.returns
  have hts := atoms_spec (ws := wsX8_laysElements) B.pre
  have hown : s.vm.findClass RX8 = some m.cls := findClass_of_methodNamed B.named
  have hlk := B.notSynchronized
  have hf241 : (Cond.fieldLink RX8 241 "KeywordMatcherModel" "elements" "I").before args s = true := hts _ (List.mem_of_getElem? (i := 1) rfl)
  have hiX8 : ∀ w ∈ wsX80, w ∈ wsX8_laysElements := fun w h => List.mem_cons_of_mem _ (List.mem_append_right _ h)
  have hf102 : (Cond.fieldLink RX8 102 "KeywordMatcherModel" "given" "I").before args s = true := hts _ (List.mem_of_getElem? (i := 2) rfl)
  have hf26 : (Cond.fieldLink RX8 26 "KeywordMatcherModel" "live" "[Z").before args s = true := hts _ (List.mem_of_getElem? (i := 3) rfl)
  have hf57 : (Cond.fieldLink RX8 57 "KeywordMatcherModel" "element" "[I").before args s = true := hts _ (List.mem_of_getElem? (i := 4) rfl)
  have hf60 : (Cond.fieldLink RX8 60 "KeywordMatcherModel" "long1" "[I").before args s = true := hts _ (List.mem_of_getElem? (i := 5) rfl)
  have hf17 : (Cond.fieldLink RX8 17 "KeywordMatcherModel" "length" "[I").before args s = true := hts _ (List.mem_of_getElem? (i := 6) rfl)
  have hf69 : (Cond.fieldLink RX8 69 "KeywordMatcherModel" "next" "[I").before args s = true := hts _ (List.mem_of_getElem? (i := 7) rfl)
  have hf75 : (Cond.fieldLink RX8 75 "KeywordMatcherModel" "last" "[I").before args s = true := hts _ (List.mem_of_getElem? (i := 8) rfl)
  have hf63 : (Cond.fieldLink RX8 63 "KeywordMatcherModel" "head" "[I").before args s = true := hts _ (List.mem_of_getElem? (i := 9) rfl)
  have hf66 : (Cond.fieldLink RX8 66 "KeywordMatcherModel" "tail" "[I").before args s = true := hts _ (List.mem_of_getElem? (i := 10) rfl)
  subst hsz
  have hD := hD0.self (sz := s.heap.size)
  generalize hAe : va_A (wM cI cZ cJ ad x_thrown x_buffered x_given x_isFolding x_work x_rebuilt x_streamed x_reports x_gapFrom x_gapSize x_elements x_wholeSize x_isLaid x_takenMany a_buffer a_length a_bytes a_weight a_live a_size a_list a_moved a_planned a_stream a_reportedEnd a_reportedKeyword a_starts a_keywordAt a_element a_long1 a_head a_tail a_next a_skip a_last a_whole a_edges a_covers a_weighs a_numbers a_takes a_takenAt) s.heap.size = Az at hD ⊢
  have hA : ∀ q : Nat, s.heap.size ≤ q → Az q := fun q h => by rw [← hAe]; exact Or.inr h
  clear hAe
  have hSz : va_S Az s.heap s.heap [] := va_S.rf
  obtain ⟨wz, hw1⟩ : ∃ z : va_W, z = (wM cI cZ cJ ad x_thrown x_buffered x_given x_isFolding x_work x_rebuilt x_streamed x_reports x_gapFrom x_gapSize y_x_elements x_wholeSize x_isLaid x_takenMany a_buffer a_length a_bytes a_weight a_live a_size a_list a_moved a_planned a_stream a_reportedEnd a_reportedKeyword a_starts a_keywordAt y_a_element y_a_long1 y_a_head y_a_tail y_a_next a_skip y_a_last a_whole a_edges a_covers a_weighs a_numbers a_takes a_takenAt) := ⟨_, rfl⟩
  rw [← hw1]
  have hl := lv_entry ([.ref (ad 0)]) (n := 4) (Nat.le_of_ble_eq_true rfl)
  rw [show entryFrame m args 4 = entryFrame m ([.ref (ad 0)] : List Value).toArray 4 from by rw [hav], lg_entry_eq]
  generalize (lg_sl ([.ref (ad 0)]) ++ List.replicate (4 - (lg_sl ([.ref (ad 0)])).length) Slot.unset).toArray = ls at hl ⊢
  have hl : lv_has ls 4 [(0, .ref (ad 0))] := hl
  unfold s_X8_laysElements at hs
  have Lz89 : ∀ (fu : Nat) (x_elements : Int) (a_element : (Int → Int)) (a_long1 : (Int → Int)) (a_head : (Int → Int)) (a_tail : (Int → Int)) (a_next : (Int → Int)) (a_last : (Int → Int)) (l1 : Int) (l2 : Int) (l3 : Int) (y0 : (Int → Int)) (y1 : (Int → Int)), s_X8_laysElements_89 fu a_length a_bytes a_head a_tail l1 l2 l3 = some (y0, y1) → ∀ (Hz : Heap) (lz : List Loc), va_P D vwCl (wM cI cZ cJ ad x_thrown x_buffered x_given x_isFolding x_work x_rebuilt x_streamed x_reports x_gapFrom x_gapSize x_elements x_wholeSize x_isLaid x_takenMany a_buffer a_length a_bytes a_weight a_live a_size a_list a_moved a_planned a_stream a_reportedEnd a_reportedKeyword a_starts a_keywordAt a_element a_long1 a_head a_tail a_next a_skip a_last a_whole a_edges a_covers a_weighs a_numbers a_takes a_takenAt) Hz → va_D Az (wM cI cZ cJ ad x_thrown x_buffered x_given x_isFolding x_work x_rebuilt x_streamed x_reports x_gapFrom x_gapSize x_elements x_wholeSize x_isLaid x_takenMany a_buffer a_length a_bytes a_weight a_live a_size a_list a_moved a_planned a_stream a_reportedEnd a_reportedKeyword a_starts a_keywordAt a_element a_long1 a_head a_tail a_next a_skip a_last a_whole a_edges a_covers a_weighs a_numbers a_takes a_takenAt) → va_S Az s.heap Hz lz → ∀ ls : Array Slot, lv_has ls 4 [(0, .ref (ad 0)), (1, .int (iI l1)), (2, .int (iI l2)), (3, .int (iI l3))] → (∀ (Hz : Heap) (lz : List Loc), va_P D vwCl (wM cI cZ cJ ad x_thrown x_buffered x_given x_isFolding x_work x_rebuilt x_streamed x_reports x_gapFrom x_gapSize x_elements x_wholeSize x_isLaid x_takenMany a_buffer a_length a_bytes a_weight a_live a_size a_list a_moved a_planned a_stream a_reportedEnd a_reportedKeyword a_starts a_keywordAt a_element a_long1 y0 y1 a_next a_skip a_last a_whole a_edges a_covers a_weighs a_numbers a_takes a_takenAt) Hz → va_D Az (wM cI cZ cJ ad x_thrown x_buffered x_given x_isFolding x_work x_rebuilt x_streamed x_reports x_gapFrom x_gapSize x_elements x_wholeSize x_isLaid x_takenMany a_buffer a_length a_bytes a_weight a_live a_size a_list a_moved a_planned a_stream a_reportedEnd a_reportedKeyword a_starts a_keywordAt a_element a_long1 y0 y1 a_next a_skip a_last a_whole a_edges a_covers a_weighs a_numbers a_takes a_takenAt) → va_S Az s.heap Hz lz → ∀ ls : Array Slot, lv_has ls 4 [(0, .ref (ad 0)), (1, .int (iI l1))] → W p l e (headSpec wsX8_laysElements rm_X8_laysElements).room s m args below meth c Hz lz 0 0 (MQ below (QW D vwCl none wz Az) args s 0 0 Az) (F0 m 143 ls [])) → W p l e (headSpec wsX8_laysElements rm_X8_laysElements).room s m args below meth c Hz lz 0 0 (MQ below (QW D vwCl none wz Az) args s 0 0 Az) (F0 m 89 ls []) := by
    intro fu
    induction fu with
    | zero => intro x_elements a_element a_long1 a_head a_tail a_next a_last l1 l2 l3 y0 y1 hs; cases hs
    | succ fu ih =>
      intro x_elements a_element a_long1 a_head a_tail a_next a_last l1 l2 l3 y0 y1 hs Hz lz hP hD hSz ls hl kx
      rw [s_X8_laysElements_89_s] at hs
      refine lv_iload_n hx hb dX8_laysElements_89 rfl (lv_at hl 3 rfl) ?_
      refine lv_iload_n hx hb dX8_laysElements_90 rfl (lv_at hl 2 rfl) ?_
      refine k_icmp_ge (tgt := 143) hx hb hs dX8_laysElements_91 (by decide) (fun hs => ?_) (fun hs => ?_)
      · refine lv_aload_n hx hb dX8_laysElements_94 rfl (lv_at hl 0 rfl) ?_
        refine va_get (ci := 8) (v := .ref (ad 17)) (C := RX8) (T := TX8) (N := 42) hx hb hts hiX8 hown hK hP 0 rfl rfl 26 (by decide) hf63 (fun _ h9 => h9) rfl dX8_laysElements_95 ?_
        refine k_bipush (n := 15) hx hb (by decide) dX8_laysElements_98 ?_
        refine lv_iload_n hx hb dX8_laysElements_100 rfl (lv_at hl 1 rfl) ?_
        refine k_imul hx hb dX8_laysElements_101 ?_
        refine lv_iload_n hx hb dX8_laysElements_102 rfl (lv_at hl 3 rfl) ?_
        refine k_iadd hx hb dX8_laysElements_103 ?_
        refine lv_aload_n hx hb dX8_laysElements_104 rfl (lv_at hl 0 rfl) ?_
        refine lv_iload_n hx hb dX8_laysElements_105 rfl (lv_at hl 1 rfl) ?_
        refine lv_iload_n hx hb dX8_laysElements_106 rfl (lv_at hl 3 rfl) ?_
        obtain ⟨vz5, hcz, hs⟩ := bd1_some hs
        refine k_rV (As := [.int (iI l1), .int (iI l3)]) (rest := [.int (iI ((15 * l1) + l3)), .ref (ad 17)]) (st1 := [.int (iI vz5), .int (iI ((15 * l1) + l3)), .ref (ad 17)]) ⟨hx, hb, hml, hown, hts⟩ hK hP (c_X8_byteOf l D cI cZ cJ hcz) (cwV 2 hts gX8_laysElements_X8_byteOf rfl rfl rfl (by decide +kernel) ⟨Nat.le_of_ble_eq_true rfl, Nat.le_of_ble_eq_true rfl⟩) 0 rfl rfl rfl rfl hl.1 rfl (lv_room (Nat.le_of_ble_eq_true rfl)) dX8_laysElements_107 ⟨Nat.zero_le _, Nat.zero_le _⟩ rfl ?_
        refine k_iast hx hb hK hP hD hSz 17 0 rfl rfl (Nat.le_of_ble_eq_true rfl) hs dX8_laysElements_110 (fun Hz lz hP hD hSz hs => ?_)
        have hP : va_P D vwCl (wM cI cZ cJ ad x_thrown x_buffered x_given x_isFolding x_work x_rebuilt x_streamed x_reports x_gapFrom x_gapSize x_elements x_wholeSize x_isLaid x_takenMany a_buffer a_length a_bytes a_weight a_live a_size a_list a_moved a_planned a_stream a_reportedEnd a_reportedKeyword a_starts a_keywordAt a_element a_long1 (upA a_head ((15 * l1) + l3) vz5) a_tail a_next a_skip a_last a_whole a_edges a_covers a_weighs a_numbers a_takes a_takenAt) Hz := hP
        have hD : va_D Az (wM cI cZ cJ ad x_thrown x_buffered x_given x_isFolding x_work x_rebuilt x_streamed x_reports x_gapFrom x_gapSize x_elements x_wholeSize x_isLaid x_takenMany a_buffer a_length a_bytes a_weight a_live a_size a_list a_moved a_planned a_stream a_reportedEnd a_reportedKeyword a_starts a_keywordAt a_element a_long1 (upA a_head ((15 * l1) + l3) vz5) a_tail a_next a_skip a_last a_whole a_edges a_covers a_weighs a_numbers a_takes a_takenAt) := hD
        refine lv_aload_n hx hb dX8_laysElements_111 rfl (lv_at hl 0 rfl) ?_
        refine va_get (ci := 8) (v := .ref (ad 18)) (C := RX8) (T := TX8) (N := 42) hx hb hts hiX8 hown hK hP 0 rfl rfl 27 (by decide) hf66 (fun _ h9 => h9) rfl dX8_laysElements_112 ?_
        refine k_bipush (n := 15) hx hb (by decide) dX8_laysElements_115 ?_
        refine lv_iload_n hx hb dX8_laysElements_117 rfl (lv_at hl 1 rfl) ?_
        refine k_imul hx hb dX8_laysElements_118 ?_
        refine lv_iload_n hx hb dX8_laysElements_119 rfl (lv_at hl 3 rfl) ?_
        refine k_iadd hx hb dX8_laysElements_120 ?_
        refine lv_aload_n hx hb dX8_laysElements_121 rfl (lv_at hl 0 rfl) ?_
        refine lv_iload_n hx hb dX8_laysElements_122 rfl (lv_at hl 1 rfl) ?_
        refine lv_aload_n hx hb dX8_laysElements_123 rfl (lv_at hl 0 rfl) ?_
        refine va_get (ci := 8) (v := .ref (ad 2)) (C := RX8) (T := TX8) (N := 42) hx hb hts hiX8 hown hK hP 0 rfl rfl 3 (by decide) hf17 (fun _ h9 => h9) rfl dX8_laysElements_124 ?_
        refine lv_iload_n hx hb dX8_laysElements_127 rfl (lv_at hl 1 rfl) ?_
        refine k_iald hx hb hK hP 2 0 rfl rfl (Nat.le_of_ble_eq_true rfl) hs dX8_laysElements_128 (fun vz6 hs => ?_)
        refine lv_iload_n hx hb dX8_laysElements_129 rfl (lv_at hl 2 rfl) ?_
        refine k_isub hx hb dX8_laysElements_130 ?_
        refine lv_iload_n hx hb dX8_laysElements_131 rfl (lv_at hl 3 rfl) ?_
        refine k_iadd hx hb dX8_laysElements_132 ?_
        obtain ⟨vz7, hcz, hs⟩ := bd1_some hs
        refine k_rV (As := [.int (iI l1), .int (iI ((vz6 - l2) + l3))]) (rest := [.int (iI ((15 * l1) + l3)), .ref (ad 18)]) (st1 := [.int (iI vz7), .int (iI ((15 * l1) + l3)), .ref (ad 18)]) ⟨hx, hb, hml, hown, hts⟩ hK hP (c_X8_byteOf l D cI cZ cJ hcz) (cwV 2 hts gX8_laysElements_X8_byteOf rfl rfl rfl (by decide +kernel) ⟨Nat.le_of_ble_eq_true rfl, Nat.le_of_ble_eq_true rfl⟩) 0 rfl rfl rfl rfl hl.1 rfl (lv_room (Nat.le_of_ble_eq_true rfl)) dX8_laysElements_133 ⟨Nat.zero_le _, Nat.zero_le _⟩ rfl ?_
        refine k_iast hx hb hK hP hD hSz 18 0 rfl rfl (Nat.le_of_ble_eq_true rfl) hs dX8_laysElements_136 (fun Hz lz hP hD hSz hs => ?_)
        have hP : va_P D vwCl (wM cI cZ cJ ad x_thrown x_buffered x_given x_isFolding x_work x_rebuilt x_streamed x_reports x_gapFrom x_gapSize x_elements x_wholeSize x_isLaid x_takenMany a_buffer a_length a_bytes a_weight a_live a_size a_list a_moved a_planned a_stream a_reportedEnd a_reportedKeyword a_starts a_keywordAt a_element a_long1 (upA a_head ((15 * l1) + l3) vz5) (upA a_tail ((15 * l1) + l3) vz7) a_next a_skip a_last a_whole a_edges a_covers a_weighs a_numbers a_takes a_takenAt) Hz := hP
        have hD : va_D Az (wM cI cZ cJ ad x_thrown x_buffered x_given x_isFolding x_work x_rebuilt x_streamed x_reports x_gapFrom x_gapSize x_elements x_wholeSize x_isLaid x_takenMany a_buffer a_length a_bytes a_weight a_live a_size a_list a_moved a_planned a_stream a_reportedEnd a_reportedKeyword a_starts a_keywordAt a_element a_long1 (upA a_head ((15 * l1) + l3) vz5) (upA a_tail ((15 * l1) + l3) vz7) a_next a_skip a_last a_whole a_edges a_covers a_weighs a_numbers a_takes a_takenAt) := hD
        refine k_iinc (x := l3) (k := 3) (lv' := [(3, .int (iI (l3 + 1))), (0, .ref (ad 0)), (1, .int (iI l1)), (2, .int (iI l2))]) hx hb dX8_laysElements_137 hl rfl (by decide) rfl (fun ls hl => ?_)
        refine lv_goto (tgt := 89) hx hb dX8_laysElements_140 (by decide) ?_
        exact ih x_elements a_element a_long1 (upA a_head ((15 * l1) + l3) vz5) (upA a_tail ((15 * l1) + l3) vz7) a_next a_last l1 l2 (l3 + 1) y0 y1 hs Hz lz hP hD hSz ls (lv_sub hl [1, 2, 3, 0] rfl) kx
      · cases hs
        exact kx Hz lz hP hD hSz ls (lv_sub hl [0, 1] rfl)
  have Lz7 : ∀ (fu : Nat) (x_elements : Int) (a_element : (Int → Int)) (a_long1 : (Int → Int)) (a_head : (Int → Int)) (a_tail : (Int → Int)) (a_next : (Int → Int)) (a_last : (Int → Int)) (l1 : Int) (y0 : Int) (y1 : (Int → Int)) (y2 : (Int → Int)) (y3 : (Int → Int)) (y4 : (Int → Int)) (y5 : (Int → Int)) (y6 : (Int → Int)), s_X8_laysElements_7 fu x_given x_isFolding x_elements a_length a_bytes a_live a_element a_long1 a_head a_tail a_next a_last l1 = some (y0, y1, y2, y3, y4, y5, y6) → ∀ (Hz : Heap) (lz : List Loc), va_P D vwCl (wM cI cZ cJ ad x_thrown x_buffered x_given x_isFolding x_work x_rebuilt x_streamed x_reports x_gapFrom x_gapSize x_elements x_wholeSize x_isLaid x_takenMany a_buffer a_length a_bytes a_weight a_live a_size a_list a_moved a_planned a_stream a_reportedEnd a_reportedKeyword a_starts a_keywordAt a_element a_long1 a_head a_tail a_next a_skip a_last a_whole a_edges a_covers a_weighs a_numbers a_takes a_takenAt) Hz → va_D Az (wM cI cZ cJ ad x_thrown x_buffered x_given x_isFolding x_work x_rebuilt x_streamed x_reports x_gapFrom x_gapSize x_elements x_wholeSize x_isLaid x_takenMany a_buffer a_length a_bytes a_weight a_live a_size a_list a_moved a_planned a_stream a_reportedEnd a_reportedKeyword a_starts a_keywordAt a_element a_long1 a_head a_tail a_next a_skip a_last a_whole a_edges a_covers a_weighs a_numbers a_takes a_takenAt) → va_S Az s.heap Hz lz → ∀ ls : Array Slot, lv_has ls 4 [(0, .ref (ad 0)), (1, .int (iI l1))] → (∀ (Hz : Heap) (lz : List Loc), va_P D vwCl (wM cI cZ cJ ad x_thrown x_buffered x_given x_isFolding x_work x_rebuilt x_streamed x_reports x_gapFrom x_gapSize y0 x_wholeSize x_isLaid x_takenMany a_buffer a_length a_bytes a_weight a_live a_size a_list a_moved a_planned a_stream a_reportedEnd a_reportedKeyword a_starts a_keywordAt y1 y2 y3 y4 y5 a_skip y6 a_whole a_edges a_covers a_weighs a_numbers a_takes a_takenAt) Hz → va_D Az (wM cI cZ cJ ad x_thrown x_buffered x_given x_isFolding x_work x_rebuilt x_streamed x_reports x_gapFrom x_gapSize y0 x_wholeSize x_isLaid x_takenMany a_buffer a_length a_bytes a_weight a_live a_size a_list a_moved a_planned a_stream a_reportedEnd a_reportedKeyword a_starts a_keywordAt y1 y2 y3 y4 y5 a_skip y6 a_whole a_edges a_covers a_weighs a_numbers a_takes a_takenAt) → va_S Az s.heap Hz lz → ∀ ls : Array Slot, lv_has ls 4 [] → W p l e (headSpec wsX8_laysElements rm_X8_laysElements).room s m args below meth c Hz lz 0 0 (MQ below (QW D vwCl none wz Az) args s 0 0 Az) (F0 m 149 ls [])) → W p l e (headSpec wsX8_laysElements rm_X8_laysElements).room s m args below meth c Hz lz 0 0 (MQ below (QW D vwCl none wz Az) args s 0 0 Az) (F0 m 7 ls []) := by
    intro fu
    induction fu with
    | zero => intro x_elements a_element a_long1 a_head a_tail a_next a_last l1 y0 y1 y2 y3 y4 y5 y6 hs; cases hs
    | succ fu ih =>
      intro x_elements a_element a_long1 a_head a_tail a_next a_last l1 y0 y1 y2 y3 y4 y5 y6 hs Hz lz hP hD hSz ls hl kx
      rw [s_X8_laysElements_7_s] at hs
      refine lv_iload_n hx hb dX8_laysElements_7 rfl (lv_at hl 1 rfl) ?_
      refine lv_aload_n hx hb dX8_laysElements_8 rfl (lv_at hl 0 rfl) ?_
      refine va_get (ci := 8) (v := .int (iI x_given)) (C := RX8) (T := TX8) (N := 42) hx hb hts hiX8 hown hK hP 0 rfl rfl 7 (by decide) hf102 (fun _ h9 => h9) rfl dX8_laysElements_9 ?_
      refine k_icmp_ge (tgt := 149) hx hb hs dX8_laysElements_12 (by decide) (fun hs => ?_) (fun hs => ?_)
      · refine lv_aload_n hx hb dX8_laysElements_15 rfl (lv_at hl 0 rfl) ?_
        refine va_get (ci := 8) (v := .ref (ad 5)) (C := RX8) (T := TX8) (N := 42) hx hb hts hiX8 hown hK hP 0 rfl rfl 6 (by decide) hf26 (fun _ h9 => h9) rfl dX8_laysElements_16 ?_
        refine lv_iload_n hx hb dX8_laysElements_19 rfl (lv_at hl 1 rfl) ?_
        refine k_zald hx hb hK hP 5 1 rfl rfl (Nat.le_of_ble_eq_true rfl) hs dX8_laysElements_20 (fun vz1 hs => ?_)
        refine k_if_eq (tgt := 143) hx hb hs dX8_laysElements_21 (by decide) (fun hs => ?_) (fun hs => ?_)
        · refine k_iinc (x := l1) (k := 1) (lv' := [(1, .int (iI (l1 + 1))), (0, .ref (ad 0))]) hx hb dX8_laysElements_143 hl rfl (by decide) rfl (fun ls hl => ?_)
          refine lv_goto (tgt := 7) hx hb dX8_laysElements_146 (by decide) ?_
          exact ih x_elements a_element a_long1 a_head a_tail a_next a_last (l1 + 1) y0 y1 y2 y3 y4 y5 y6 hs Hz lz hP hD hSz ls (lv_sub hl [1, 0] rfl) kx
        · refine lv_aload_n hx hb dX8_laysElements_24 rfl (lv_at hl 0 rfl) ?_
          refine lv_iload_n hx hb dX8_laysElements_25 rfl (lv_at hl 1 rfl) ?_
          obtain ⟨vz2, hcz, hs⟩ := bd1_some hs
          refine k_rV (As := [.int (iI l1)]) (rest := []) (st1 := [.int (iI vz2)]) ⟨hx, hb, hml, hown, hts⟩ hK hP (c_X8_occursInAny l D cI cZ cJ hcz) (cwV 1 hts gX8_laysElements_X8_occursInAny rfl rfl rfl (by decide +kernel) ⟨Nat.le_of_ble_eq_true rfl, Nat.le_of_ble_eq_true rfl⟩) 0 rfl rfl rfl rfl hl.1 rfl (lv_room (Nat.le_of_ble_eq_true rfl)) dX8_laysElements_26 ⟨Nat.zero_le _, Nat.zero_le _⟩ rfl ?_
          refine k_if_eq (tgt := 35) hx hb hs dX8_laysElements_29 (by decide) (fun hs => ?_) (fun hs => ?_)
          · refine lv_aload_n hx hb dX8_laysElements_35 rfl (lv_at hl 0 rfl) ?_
            refine va_get (ci := 8) (v := .ref (ad 15)) (C := RX8) (T := TX8) (N := 42) hx hb hts hiX8 hown hK hP 0 rfl rfl 24 (by decide) hf57 (fun _ h9 => h9) rfl dX8_laysElements_36 ?_
            refine lv_aload_n hx hb dX8_laysElements_39 rfl (lv_at hl 0 rfl) ?_
            refine va_get (ci := 8) (v := .int (iI x_elements)) (C := RX8) (T := TX8) (N := 42) hx hb hts hiX8 hown hK hP 0 rfl rfl 32 (by decide) hf241 (fun _ h9 => h9) rfl dX8_laysElements_40 ?_
            refine lv_iload_n hx hb dX8_laysElements_43 rfl (lv_at hl 1 rfl) ?_
            refine k_iast hx hb hK hP hD hSz 15 0 rfl rfl (Nat.le_of_ble_eq_true rfl) hs dX8_laysElements_44 (fun Hz lz hP hD hSz hs => ?_)
            have hP : va_P D vwCl (wM cI cZ cJ ad x_thrown x_buffered x_given x_isFolding x_work x_rebuilt x_streamed x_reports x_gapFrom x_gapSize x_elements x_wholeSize x_isLaid x_takenMany a_buffer a_length a_bytes a_weight a_live a_size a_list a_moved a_planned a_stream a_reportedEnd a_reportedKeyword a_starts a_keywordAt (upA a_element x_elements l1) a_long1 a_head a_tail a_next a_skip a_last a_whole a_edges a_covers a_weighs a_numbers a_takes a_takenAt) Hz := hP
            have hD : va_D Az (wM cI cZ cJ ad x_thrown x_buffered x_given x_isFolding x_work x_rebuilt x_streamed x_reports x_gapFrom x_gapSize x_elements x_wholeSize x_isLaid x_takenMany a_buffer a_length a_bytes a_weight a_live a_size a_list a_moved a_planned a_stream a_reportedEnd a_reportedKeyword a_starts a_keywordAt (upA a_element x_elements l1) a_long1 a_head a_tail a_next a_skip a_last a_whole a_edges a_covers a_weighs a_numbers a_takes a_takenAt) := hD
            refine lv_aload_n hx hb dX8_laysElements_45 rfl (lv_at hl 0 rfl) ?_
            refine lv_dup hx hb dX8_laysElements_46 rfl ?_
            refine va_get (ci := 8) (v := .int (iI x_elements)) (C := RX8) (T := TX8) (N := 42) hx hb hts hiX8 hown hK hP 0 rfl rfl 32 (by decide) hf241 (fun _ h9 => h9) rfl dX8_laysElements_47 ?_
            refine k_iconst (n := 1) hx hb dX8_laysElements_50 ?_
            refine k_iadd hx hb dX8_laysElements_51 ?_
            refine va_put (ci := 8) (v := .int (iI (x_elements + 1))) (ty := .int) (C := RX8) (T := TX8) (N := 42) hx hb hts hiX8 tyX8 tyX8_ok nmX8 hown hK hP hD hSz 0 rfl rfl 32 (by decide) hf241 (fun _ h9 => h9) rfl (by decide +kernel) rfl rfl (Nat.le_of_ble_eq_true rfl) dX8_laysElements_52 (fun Hz lz hP hD hSz => ?_)
            have hP : va_P D vwCl (wM cI cZ cJ ad x_thrown x_buffered x_given x_isFolding x_work x_rebuilt x_streamed x_reports x_gapFrom x_gapSize (x_elements + 1) x_wholeSize x_isLaid x_takenMany a_buffer a_length a_bytes a_weight a_live a_size a_list a_moved a_planned a_stream a_reportedEnd a_reportedKeyword a_starts a_keywordAt (upA a_element x_elements l1) a_long1 a_head a_tail a_next a_skip a_last a_whole a_edges a_covers a_weighs a_numbers a_takes a_takenAt) Hz := hP
            have hD : va_D Az (wM cI cZ cJ ad x_thrown x_buffered x_given x_isFolding x_work x_rebuilt x_streamed x_reports x_gapFrom x_gapSize (x_elements + 1) x_wholeSize x_isLaid x_takenMany a_buffer a_length a_bytes a_weight a_live a_size a_list a_moved a_planned a_stream a_reportedEnd a_reportedKeyword a_starts a_keywordAt (upA a_element x_elements l1) a_long1 a_head a_tail a_next a_skip a_last a_whole a_edges a_covers a_weighs a_numbers a_takes a_takenAt) := hD
            refine lv_aload_n hx hb dX8_laysElements_55 rfl (lv_at hl 0 rfl) ?_
            refine va_get (ci := 8) (v := .ref (ad 16)) (C := RX8) (T := TX8) (N := 42) hx hb hts hiX8 hown hK hP 0 rfl rfl 25 (by decide) hf60 (fun _ h9 => h9) rfl dX8_laysElements_56 ?_
            refine lv_iload_n hx hb dX8_laysElements_59 rfl (lv_at hl 1 rfl) ?_
            refine lv_aload_n hx hb dX8_laysElements_60 rfl (lv_at hl 0 rfl) ?_
            refine va_get (ci := 8) (v := .ref (ad 2)) (C := RX8) (T := TX8) (N := 42) hx hb hts hiX8 hown hK hP 0 rfl rfl 3 (by decide) hf17 (fun _ h9 => h9) rfl dX8_laysElements_61 ?_
            refine lv_iload_n hx hb dX8_laysElements_64 rfl (lv_at hl 1 rfl) ?_
            refine k_iald hx hb hK hP 2 0 rfl rfl (Nat.le_of_ble_eq_true rfl) hs dX8_laysElements_65 (fun vz3 hs => ?_)
            refine k_iast hx hb hK hP hD hSz 16 0 rfl rfl (Nat.le_of_ble_eq_true rfl) hs dX8_laysElements_66 (fun Hz lz hP hD hSz hs => ?_)
            have hP : va_P D vwCl (wM cI cZ cJ ad x_thrown x_buffered x_given x_isFolding x_work x_rebuilt x_streamed x_reports x_gapFrom x_gapSize (x_elements + 1) x_wholeSize x_isLaid x_takenMany a_buffer a_length a_bytes a_weight a_live a_size a_list a_moved a_planned a_stream a_reportedEnd a_reportedKeyword a_starts a_keywordAt (upA a_element x_elements l1) (upA a_long1 l1 vz3) a_head a_tail a_next a_skip a_last a_whole a_edges a_covers a_weighs a_numbers a_takes a_takenAt) Hz := hP
            have hD : va_D Az (wM cI cZ cJ ad x_thrown x_buffered x_given x_isFolding x_work x_rebuilt x_streamed x_reports x_gapFrom x_gapSize (x_elements + 1) x_wholeSize x_isLaid x_takenMany a_buffer a_length a_bytes a_weight a_live a_size a_list a_moved a_planned a_stream a_reportedEnd a_reportedKeyword a_starts a_keywordAt (upA a_element x_elements l1) (upA a_long1 l1 vz3) a_head a_tail a_next a_skip a_last a_whole a_edges a_covers a_weighs a_numbers a_takes a_takenAt) := hD
            refine lv_aload_n hx hb dX8_laysElements_67 rfl (lv_at hl 0 rfl) ?_
            refine va_get (ci := 8) (v := .ref (ad 19)) (C := RX8) (T := TX8) (N := 42) hx hb hts hiX8 hown hK hP 0 rfl rfl 28 (by decide) hf69 (fun _ h9 => h9) rfl dX8_laysElements_68 ?_
            refine lv_iload_n hx hb dX8_laysElements_71 rfl (lv_at hl 1 rfl) ?_
            refine k_iconst (n := (-1)) hx hb dX8_laysElements_72 ?_
            refine k_iast hx hb hK hP hD hSz 19 0 rfl rfl (Nat.le_of_ble_eq_true rfl) hs dX8_laysElements_73 (fun Hz lz hP hD hSz hs => ?_)
            have hP : va_P D vwCl (wM cI cZ cJ ad x_thrown x_buffered x_given x_isFolding x_work x_rebuilt x_streamed x_reports x_gapFrom x_gapSize (x_elements + 1) x_wholeSize x_isLaid x_takenMany a_buffer a_length a_bytes a_weight a_live a_size a_list a_moved a_planned a_stream a_reportedEnd a_reportedKeyword a_starts a_keywordAt (upA a_element x_elements l1) (upA a_long1 l1 vz3) a_head a_tail (upA a_next l1 (-1)) a_skip a_last a_whole a_edges a_covers a_weighs a_numbers a_takes a_takenAt) Hz := hP
            have hD : va_D Az (wM cI cZ cJ ad x_thrown x_buffered x_given x_isFolding x_work x_rebuilt x_streamed x_reports x_gapFrom x_gapSize (x_elements + 1) x_wholeSize x_isLaid x_takenMany a_buffer a_length a_bytes a_weight a_live a_size a_list a_moved a_planned a_stream a_reportedEnd a_reportedKeyword a_starts a_keywordAt (upA a_element x_elements l1) (upA a_long1 l1 vz3) a_head a_tail (upA a_next l1 (-1)) a_skip a_last a_whole a_edges a_covers a_weighs a_numbers a_takes a_takenAt) := hD
            refine lv_aload_n hx hb dX8_laysElements_74 rfl (lv_at hl 0 rfl) ?_
            refine va_get (ci := 8) (v := .ref (ad 21)) (C := RX8) (T := TX8) (N := 42) hx hb hts hiX8 hown hK hP 0 rfl rfl 30 (by decide) hf75 (fun _ h9 => h9) rfl dX8_laysElements_75 ?_
            refine lv_iload_n hx hb dX8_laysElements_78 rfl (lv_at hl 1 rfl) ?_
            refine lv_iload_n hx hb dX8_laysElements_79 rfl (lv_at hl 1 rfl) ?_
            refine k_iast hx hb hK hP hD hSz 21 0 rfl rfl (Nat.le_of_ble_eq_true rfl) hs dX8_laysElements_80 (fun Hz lz hP hD hSz hs => ?_)
            have hP : va_P D vwCl (wM cI cZ cJ ad x_thrown x_buffered x_given x_isFolding x_work x_rebuilt x_streamed x_reports x_gapFrom x_gapSize (x_elements + 1) x_wholeSize x_isLaid x_takenMany a_buffer a_length a_bytes a_weight a_live a_size a_list a_moved a_planned a_stream a_reportedEnd a_reportedKeyword a_starts a_keywordAt (upA a_element x_elements l1) (upA a_long1 l1 vz3) a_head a_tail (upA a_next l1 (-1)) a_skip (upA a_last l1 l1) a_whole a_edges a_covers a_weighs a_numbers a_takes a_takenAt) Hz := hP
            have hD : va_D Az (wM cI cZ cJ ad x_thrown x_buffered x_given x_isFolding x_work x_rebuilt x_streamed x_reports x_gapFrom x_gapSize (x_elements + 1) x_wholeSize x_isLaid x_takenMany a_buffer a_length a_bytes a_weight a_live a_size a_list a_moved a_planned a_stream a_reportedEnd a_reportedKeyword a_starts a_keywordAt (upA a_element x_elements l1) (upA a_long1 l1 vz3) a_head a_tail (upA a_next l1 (-1)) a_skip (upA a_last l1 l1) a_whole a_edges a_covers a_weighs a_numbers a_takes a_takenAt) := hD
            refine lv_aload_n hx hb dX8_laysElements_81 rfl (lv_at hl 0 rfl) ?_
            refine lv_iload_n hx hb dX8_laysElements_82 rfl (lv_at hl 1 rfl) ?_
            obtain ⟨vz4, hcz, hs⟩ := bd1_some hs
            refine k_rV (As := [.int (iI l1)]) (rest := []) (st1 := [.int (iI vz4)]) ⟨hx, hb, hml, hown, hts⟩ hK hP (c_X8_edgeOf l D cI cZ cJ hcz) (cwV 1 hts gX8_laysElements_X8_edgeOf rfl rfl rfl (by decide +kernel) ⟨Nat.le_of_ble_eq_true rfl, Nat.le_of_ble_eq_true rfl⟩) 0 rfl rfl rfl rfl hl.1 rfl (lv_room (Nat.le_of_ble_eq_true rfl)) dX8_laysElements_83 ⟨Nat.zero_le _, Nat.zero_le _⟩ rfl ?_
            refine lv_istore_n (lv' := [(2, .int (iI vz4)), (0, .ref (ad 0)), (1, .int (iI l1))]) hx hb dX8_laysElements_86 rfl hl (by decide) rfl (fun ls hl => ?_)
            refine k_iconst (n := 0) hx hb dX8_laysElements_87 ?_
            refine lv_istore_n (lv' := [(3, .int (iI 0)), (2, .int (iI vz4)), (0, .ref (ad 0)), (1, .int (iI l1))]) hx hb dX8_laysElements_88 rfl hl (by decide) rfl (fun ls hl => ?_)
            obtain ⟨ez8, ez9, hq, hs⟩ := bd2_some hs
            refine Lz89 FU (x_elements + 1) (upA a_element x_elements l1) (upA a_long1 l1 vz3) a_head a_tail (upA a_next l1 (-1)) (upA a_last l1 l1) l1 vz4 0 ez8 ez9 hq Hz lz hP hD hSz ls (lv_sub hl [2, 3, 1, 0] rfl) ?_
            intro Hz lz hP hD hSz ls hl
            refine k_iinc (x := l1) (k := 1) (lv' := [(1, .int (iI (l1 + 1))), (0, .ref (ad 0))]) hx hb dX8_laysElements_143 hl rfl (by decide) rfl (fun ls hl => ?_)
            refine lv_goto (tgt := 7) hx hb dX8_laysElements_146 (by decide) ?_
            exact ih (x_elements + 1) (upA a_element x_elements l1) (upA a_long1 l1 vz3) ez8 ez9 (upA a_next l1 (-1)) (upA a_last l1 l1) (l1 + 1) y0 y1 y2 y3 y4 y5 y6 hs Hz lz hP hD hSz ls (lv_sub hl [1, 0] rfl) kx
          · refine lv_goto (tgt := 143) hx hb dX8_laysElements_32 (by decide) ?_
            refine k_iinc (x := l1) (k := 1) (lv' := [(1, .int (iI (l1 + 1))), (0, .ref (ad 0))]) hx hb dX8_laysElements_143 hl rfl (by decide) rfl (fun ls hl => ?_)
            refine lv_goto (tgt := 7) hx hb dX8_laysElements_146 (by decide) ?_
            exact ih x_elements a_element a_long1 a_head a_tail a_next a_last (l1 + 1) y0 y1 y2 y3 y4 y5 y6 hs Hz lz hP hD hSz ls (lv_sub hl [1, 0] rfl) kx
      · cases hs
        exact kx Hz lz hP hD hSz ls (lv_sub hl [] rfl)
  refine (?_ : ∀ (Hz : Heap) (lz : List Loc), va_P D vwCl (wM cI cZ cJ ad x_thrown x_buffered x_given x_isFolding x_work x_rebuilt x_streamed x_reports x_gapFrom x_gapSize x_elements x_wholeSize x_isLaid x_takenMany a_buffer a_length a_bytes a_weight a_live a_size a_list a_moved a_planned a_stream a_reportedEnd a_reportedKeyword a_starts a_keywordAt a_element a_long1 a_head a_tail a_next a_skip a_last a_whole a_edges a_covers a_weighs a_numbers a_takes a_takenAt) Hz → va_D Az (wM cI cZ cJ ad x_thrown x_buffered x_given x_isFolding x_work x_rebuilt x_streamed x_reports x_gapFrom x_gapSize x_elements x_wholeSize x_isLaid x_takenMany a_buffer a_length a_bytes a_weight a_live a_size a_list a_moved a_planned a_stream a_reportedEnd a_reportedKeyword a_starts a_keywordAt a_element a_long1 a_head a_tail a_next a_skip a_last a_whole a_edges a_covers a_weighs a_numbers a_takes a_takenAt) → va_S Az s.heap Hz lz → W p l e (headSpec wsX8_laysElements rm_X8_laysElements).room s m args below meth c Hz lz 0 0 (MQ below (QW D vwCl none wz Az) args s 0 0 Az) (F0 m 0 ls [])) s.heap [] hP hD hSz
  intro Hz lz hP hD hSz
  refine lv_aload_n hx hb dX8_laysElements_0 rfl (lv_at hl 0 rfl) ?_
  refine k_iconst (n := 0) hx hb dX8_laysElements_1 ?_
  refine va_put (ci := 8) (v := .int (iI 0)) (ty := .int) (C := RX8) (T := TX8) (N := 42) hx hb hts hiX8 tyX8 tyX8_ok nmX8 hown hK hP hD hSz 0 rfl rfl 32 (by decide) hf241 (fun _ h9 => h9) rfl (by decide +kernel) rfl rfl (Nat.le_of_ble_eq_true rfl) dX8_laysElements_2 (fun Hz lz hP hD hSz => ?_)
  have hP : va_P D vwCl (wM cI cZ cJ ad x_thrown x_buffered x_given x_isFolding x_work x_rebuilt x_streamed x_reports x_gapFrom x_gapSize 0 x_wholeSize x_isLaid x_takenMany a_buffer a_length a_bytes a_weight a_live a_size a_list a_moved a_planned a_stream a_reportedEnd a_reportedKeyword a_starts a_keywordAt a_element a_long1 a_head a_tail a_next a_skip a_last a_whole a_edges a_covers a_weighs a_numbers a_takes a_takenAt) Hz := hP
  have hD : va_D Az (wM cI cZ cJ ad x_thrown x_buffered x_given x_isFolding x_work x_rebuilt x_streamed x_reports x_gapFrom x_gapSize 0 x_wholeSize x_isLaid x_takenMany a_buffer a_length a_bytes a_weight a_live a_size a_list a_moved a_planned a_stream a_reportedEnd a_reportedKeyword a_starts a_keywordAt a_element a_long1 a_head a_tail a_next a_skip a_last a_whole a_edges a_covers a_weighs a_numbers a_takes a_takenAt) := hD
  refine k_iconst (n := 0) hx hb dX8_laysElements_5 ?_
  refine lv_istore_n (lv' := [(1, .int (iI 0)), (0, .ref (ad 0))]) hx hb dX8_laysElements_6 rfl hl (by decide) rfl (fun ls hl => ?_)
  obtain ⟨ez10, ez11, ez12, ez13, ez14, ez15, ez16, hq, hs⟩ := bd7_some hs
  refine Lz7 FU 0 a_element a_long1 a_head a_tail a_next a_last 0 ez10 ez11 ez12 ez13 ez14 ez15 ez16 hq Hz lz hP hD hSz ls (lv_sub hl [1, 0] rfl) ?_
  intro Hz lz hP hD hSz ls hl
  cases hs
  exact k_vret_w hx hb hr hlk (by rw [hw1]; exact hP) hSz dX8_laysElements_149 rfl
/-! X8_fitsBy -/
set_option maxHeartbeats 4000000 in
set_option maxRecDepth 100000 in
theorem c_X8_fitsBy (l : Launch) (D : va_G) (cI cZ cJ : ClassId) {ad : Nat → Nat} {x_thrown : Int} {x_buffered : Int} {x_given : Int} {x_isFolding : Int} {x_work : Int} {x_rebuilt : Int} {x_streamed : Int} {x_reports : Int} {x_gapFrom : Int} {x_gapSize : Int} {x_elements : Int} {x_wholeSize : Int} {x_isLaid : Int} {x_takenMany : Int} {a_buffer : (Int → Int)} {a_length : (Int → Int)} {a_bytes : (Int → Int)} {a_weight : (Int → Int)} {a_live : (Int → Int)} {a_size : (Int → Int)} {a_list : (Int → Int)} {a_moved : (Int → Int)} {a_planned : (Int → Int)} {a_stream : (Int → Int)} {a_reportedEnd : (Int → Int)} {a_reportedKeyword : (Int → Int)} {a_starts : (Int → Int)} {a_keywordAt : (Int → Int)} {a_element : (Int → Int)} {a_long1 : (Int → Int)} {a_head : (Int → Int)} {a_tail : (Int → Int)} {a_next : (Int → Int)} {a_skip : (Int → Int)} {a_last : (Int → Int)} {a_whole : (Int → Int)} {a_edges : (Int → Int)} {a_covers : (Int → Int)} {a_weighs : (Int → Int)} {a_numbers : (Int → Int)} {a_takes : (Int → Int)} {a_takenAt : (Int → Int)} {pz1 : Int} {pz2 : Int} {pz3 : Int} {r : Int} (hs : s_X8_fitsBy x_isFolding a_long1 a_head a_tail pz1 pz2 pz3 = some r) : Met l yX8_fitsBy wsX8_fitsBy rm_X8_fitsBy (PR D vwCl [(cI, .int), (cZ, .boolean), (cJ, .long)] [.ref (ad 0), .int (iI pz1), .int (iI pz2), .int (iI pz3)] (wM cI cZ cJ ad x_thrown x_buffered x_given x_isFolding x_work x_rebuilt x_streamed x_reports x_gapFrom x_gapSize x_elements x_wholeSize x_isLaid x_takenMany a_buffer a_length a_bytes a_weight a_live a_size a_list a_moved a_planned a_stream a_reportedEnd a_reportedKeyword a_starts a_keywordAt a_element a_long1 a_head a_tail a_next a_skip a_last a_whole a_edges a_covers a_weighs a_numbers a_takes a_takenAt)) (QR (some (.int (iI r)))) 0 0 (fun _ => False) := by
  refine Met.ofW (cc := cX8_fitsBy) (maxL := 6) (ret := (some .boolean)) (by decide) rfl ?_
  intro p e s m args below meth c s₁ B hml hv
  obtain ⟨hav, hP, hK⟩ := hv
  have hx := B.exec
  have hb := B.bytes
  have hr := B.returns
  have hts := atoms_spec (ws := wsX8_fitsBy) B.pre
  have hown : s.vm.findClass RX8 = some m.cls := findClass_of_methodNamed B.named
  have hlk := B.notSynchronized
  have hf66 : (Cond.fieldLink RX8 66 "KeywordMatcherModel" "tail" "[I").before args s = true := hts _ (List.mem_of_getElem? (i := 1) rfl)
  have hiX8 : ∀ w ∈ wsX80, w ∈ wsX8_fitsBy := fun w h => List.mem_cons_of_mem _ (List.mem_append_right _ h)
  have hf63 : (Cond.fieldLink RX8 63 "KeywordMatcherModel" "head" "[I").before args s = true := hts _ (List.mem_of_getElem? (i := 2) rfl)
  have hl := lv_entry ([.ref (ad 0), .int (iI pz1), .int (iI pz2), .int (iI pz3)]) (n := 6) (Nat.le_of_ble_eq_true rfl)
  rw [show entryFrame m args 6 = entryFrame m ([.ref (ad 0), .int (iI pz1), .int (iI pz2), .int (iI pz3)] : List Value).toArray 6 from by rw [hav], lg_entry_eq]
  generalize (lg_sl ([.ref (ad 0), .int (iI pz1), .int (iI pz2), .int (iI pz3)]) ++ List.replicate (6 - (lg_sl ([.ref (ad 0), .int (iI pz1), .int (iI pz2), .int (iI pz3)])).length) Slot.unset).toArray = ls at hl ⊢
  have hl : lv_has ls 6 [(0, .ref (ad 0)), (1, .int (iI pz1)), (2, .int (iI pz2)), (3, .int (iI pz3))] := hl
  unfold s_X8_fitsBy at hs
  have Lz17 : ∀ (fu : Nat) (l2 : Int) (l3 : Int) (l4 : Int) (l5 : Int), s_X8_fitsBy_17 fu x_isFolding a_head a_tail l2 l3 l4 l5 = some r → ∀ ls : Array Slot, lv_has ls 6 [(0, .ref (ad 0)), (2, .int (iI l2)), (3, .int (iI l3)), (4, .int (iI l4)), (5, .int (iI l5))] → W p l e (headSpec wsX8_fitsBy rm_X8_fitsBy).room s m args below meth c s.heap [] 0 0 (MQ below (QR (some (.int (iI r)))) args s 0 0 (fun _ => False)) (F0 m 17 ls []) := by
    intro fu
    induction fu with
    | zero => intro l2 l3 l4 l5 hs; cases hs
    | succ fu ih =>
      intro l2 l3 l4 l5 hs ls hl
      rw [s_X8_fitsBy_17_s] at hs
      refine lv_iload hx hb dX8_fitsBy_17 (lv_at hl 4 rfl) ?_
      refine lv_iload_n hx hb dX8_fitsBy_19 rfl (lv_at hl 2 rfl) ?_
      refine k_icmp_ge (tgt := 60) hx hb hs dX8_fitsBy_20 (by decide) (fun hs => ?_) (fun hs => ?_)
      · refine lv_aload_n hx hb dX8_fitsBy_23 rfl (lv_at hl 0 rfl) ?_
        refine lv_aload_n hx hb dX8_fitsBy_24 rfl (lv_at hl 0 rfl) ?_
        refine va_get (ci := 8) (v := .ref (ad 18)) (C := RX8) (T := TX8) (N := 42) hx hb hts hiX8 hown hK hP 0 rfl rfl 27 (by decide) hf66 (fun _ h9 => h9) rfl dX8_fitsBy_25 ?_
        refine lv_iload hx hb dX8_fitsBy_28 (lv_at hl 3 rfl) ?_
        refine lv_iload hx hb dX8_fitsBy_30 (lv_at hl 4 rfl) ?_
        refine k_iadd hx hb dX8_fitsBy_32 ?_
        refine k_iald hx hb hK hP 18 0 rfl rfl (Nat.le_of_ble_eq_true rfl) hs dX8_fitsBy_33 (fun vz2 hs => ?_)
        refine lv_aload_n hx hb dX8_fitsBy_34 rfl (lv_at hl 0 rfl) ?_
        refine va_get (ci := 8) (v := .ref (ad 17)) (C := RX8) (T := TX8) (N := 42) hx hb hts hiX8 hown hK hP 0 rfl rfl 26 (by decide) hf63 (fun _ h9 => h9) rfl dX8_fitsBy_35 ?_
        refine k_bipush (n := 15) hx hb (by decide) dX8_fitsBy_38 ?_
        refine lv_iload_n hx hb dX8_fitsBy_40 rfl (lv_at hl 1 rfl) ?_
        refine k_imul hx hb dX8_fitsBy_41 ?_
        refine lv_iload hx hb dX8_fitsBy_42 (lv_at hl 4 rfl) ?_
        refine k_iadd hx hb dX8_fitsBy_44 ?_
        refine k_iald hx hb hK hP 17 0 rfl rfl (Nat.le_of_ble_eq_true rfl) hs dX8_fitsBy_45 (fun vz3 hs => ?_)
        obtain ⟨vz4, hcz, hs⟩ := bd1_some hs
        refine k_rV (As := [.int (iI vz2), .int (iI vz3)]) (rest := []) (st1 := [.int (iI vz4)]) ⟨hx, hb, hml, hown, hts⟩ hK hP (c_X8_like l D cI cZ cJ hcz) (cwV 2 hts gX8_fitsBy_X8_like rfl rfl rfl (by decide +kernel) ⟨Nat.le_of_ble_eq_true rfl, Nat.le_of_ble_eq_true rfl⟩) 0 rfl rfl rfl rfl hl.1 rfl (lv_room (Nat.le_of_ble_eq_true rfl)) dX8_fitsBy_46 ⟨Nat.zero_le _, Nat.zero_le _⟩ rfl ?_
        refine k_if_ne (tgt := 54) hx hb hs dX8_fitsBy_49 (by decide) (fun hs => ?_) (fun hs => ?_)
        · refine k_iconst (n := 0) hx hb dX8_fitsBy_52 ?_
          cases hs
          exact k_zret_r hx hb hr hlk rfl (by decide) dX8_fitsBy_53 rfl
        · refine k_iinc (x := l5) (k := 4) (lv' := [(5, .int (iI (l5 + 1))), (0, .ref (ad 0)), (2, .int (iI l2)), (3, .int (iI l3)), (4, .int (iI l4))]) hx hb dX8_fitsBy_54 hl rfl (by decide) rfl (fun ls hl => ?_)
          refine lv_goto (tgt := 17) hx hb dX8_fitsBy_57 (by decide) ?_
          exact ih l2 l3 l4 (l5 + 1)  hs ls (lv_sub hl [1, 2, 3, 4, 0] rfl)
      · refine k_iconst (n := 1) hx hb dX8_fitsBy_60 ?_
        cases hs
        exact k_zret_r hx hb hr hlk rfl (by decide) dX8_fitsBy_61 rfl
  refine k_bipush (n := 15) hx hb (by decide) dX8_fitsBy_0 ?_
  refine lv_iload_n hx hb dX8_fitsBy_2 rfl (lv_at hl 1 rfl) ?_
  refine k_imul hx hb dX8_fitsBy_3 ?_
  refine lv_aload_n hx hb dX8_fitsBy_4 rfl (lv_at hl 0 rfl) ?_
  refine lv_iload_n hx hb dX8_fitsBy_5 rfl (lv_at hl 1 rfl) ?_
  obtain ⟨vz1, hcz, hs⟩ := bd1_some hs
  refine k_rV (As := [.int (iI pz1)]) (rest := [.int (iI (15 * pz1))]) (st1 := [.int (iI vz1), .int (iI (15 * pz1))]) ⟨hx, hb, hml, hown, hts⟩ hK hP (c_X8_edgeOf l D cI cZ cJ hcz) (cwV 1 hts gX8_fitsBy_X8_edgeOf rfl rfl rfl (by decide +kernel) ⟨Nat.le_of_ble_eq_true rfl, Nat.le_of_ble_eq_true rfl⟩) 0 rfl rfl rfl rfl hl.1 rfl (lv_room (Nat.le_of_ble_eq_true rfl)) dX8_fitsBy_6 ⟨Nat.zero_le _, Nat.zero_le _⟩ rfl ?_
  refine k_iadd hx hb dX8_fitsBy_9 ?_
  refine lv_iload_n hx hb dX8_fitsBy_10 rfl (lv_at hl 3 rfl) ?_
  refine k_isub hx hb dX8_fitsBy_11 ?_
  refine lv_istore (lv' := [(4, .int (iI (((15 * pz1) + vz1) - pz3))), (0, .ref (ad 0)), (1, .int (iI pz1)), (2, .int (iI pz2)), (3, .int (iI pz3))]) hx hb dX8_fitsBy_12 hl (by decide) rfl (fun ls hl => ?_)
  refine k_iconst (n := 0) hx hb dX8_fitsBy_14 ?_
  refine lv_istore (lv' := [(5, .int (iI 0)), (4, .int (iI (((15 * pz1) + vz1) - pz3))), (0, .ref (ad 0)), (1, .int (iI pz1)), (2, .int (iI pz2)), (3, .int (iI pz3))]) hx hb dX8_fitsBy_15 hl (by decide) rfl (fun ls hl => ?_)
  exact Lz17 FU pz2 pz3 (((15 * pz1) + vz1) - pz3) 0 hs ls (lv_sub hl [2, 4, 5, 1, 0] rfl)
/-! X8_overlap -/
set_option maxHeartbeats 4000000 in
set_option maxRecDepth 100000 in
theorem c_X8_overlap (l : Launch) (D : va_G) (cI cZ cJ : ClassId) {ad : Nat → Nat} {x_thrown : Int} {x_buffered : Int} {x_given : Int} {x_isFolding : Int} {x_work : Int} {x_rebuilt : Int} {x_streamed : Int} {x_reports : Int} {x_gapFrom : Int} {x_gapSize : Int} {x_elements : Int} {x_wholeSize : Int} {x_isLaid : Int} {x_takenMany : Int} {a_buffer : (Int → Int)} {a_length : (Int → Int)} {a_bytes : (Int → Int)} {a_weight : (Int → Int)} {a_live : (Int → Int)} {a_size : (Int → Int)} {a_list : (Int → Int)} {a_moved : (Int → Int)} {a_planned : (Int → Int)} {a_stream : (Int → Int)} {a_reportedEnd : (Int → Int)} {a_reportedKeyword : (Int → Int)} {a_starts : (Int → Int)} {a_keywordAt : (Int → Int)} {a_element : (Int → Int)} {a_long1 : (Int → Int)} {a_head : (Int → Int)} {a_tail : (Int → Int)} {a_next : (Int → Int)} {a_skip : (Int → Int)} {a_last : (Int → Int)} {a_whole : (Int → Int)} {a_edges : (Int → Int)} {a_covers : (Int → Int)} {a_weighs : (Int → Int)} {a_numbers : (Int → Int)} {a_takes : (Int → Int)} {a_takenAt : (Int → Int)} {pz1 : Int} {pz2 : Int} {r : Int} (hs : s_X8_overlap x_isFolding a_long1 a_head a_tail pz1 pz2 = some r) : Met l yX8_overlap wsX8_overlap rm_X8_overlap (PR D vwCl [(cI, .int), (cZ, .boolean), (cJ, .long)] [.ref (ad 0), .int (iI pz1), .int (iI pz2)] (wM cI cZ cJ ad x_thrown x_buffered x_given x_isFolding x_work x_rebuilt x_streamed x_reports x_gapFrom x_gapSize x_elements x_wholeSize x_isLaid x_takenMany a_buffer a_length a_bytes a_weight a_live a_size a_list a_moved a_planned a_stream a_reportedEnd a_reportedKeyword a_starts a_keywordAt a_element a_long1 a_head a_tail a_next a_skip a_last a_whole a_edges a_covers a_weighs a_numbers a_takes a_takenAt)) (QR (some (.int (iI r)))) 0 0 (fun _ => False) := by
  refine Met.ofW (cc := cX8_overlap) (maxL := 4) (ret := (some .int)) (by decide) rfl ?_
  intro p e s m args below meth c s₁ B hml hv
  obtain ⟨hav, hP, hK⟩ := hv
  have hx := B.exec
  have hb := B.bytes
  have hr := B.returns
  have hts := atoms_spec (ws := wsX8_overlap) B.pre
  have hown : s.vm.findClass RX8 = some m.cls := findClass_of_methodNamed B.named
  have hlk := B.notSynchronized
  have hf60 : (Cond.fieldLink RX8 60 "KeywordMatcherModel" "long1" "[I").before args s = true := hts _ (List.mem_of_getElem? (i := 1) rfl)
  have hiX8 : ∀ w ∈ wsX80, w ∈ wsX8_overlap := fun w h => List.mem_cons_of_mem _ (List.mem_append_right _ h)
  have hl := lv_entry ([.ref (ad 0), .int (iI pz1), .int (iI pz2)]) (n := 4) (Nat.le_of_ble_eq_true rfl)
  rw [show entryFrame m args 4 = entryFrame m ([.ref (ad 0), .int (iI pz1), .int (iI pz2)] : List Value).toArray 4 from by rw [hav], lg_entry_eq]
  generalize (lg_sl ([.ref (ad 0), .int (iI pz1), .int (iI pz2)]) ++ List.replicate (4 - (lg_sl ([.ref (ad 0), .int (iI pz1), .int (iI pz2)])).length) Slot.unset).toArray = ls at hl ⊢
  have hl : lv_has ls 4 [(0, .ref (ad 0)), (1, .int (iI pz1)), (2, .int (iI pz2))] := hl
  unfold s_X8_overlap at hs
  have Lz48 : ∀ (fu : Nat) (l1 : Int) (l2 : Int) (l3 : Int) (y0 : Int), s_X8_overlap_48 fu x_isFolding a_long1 a_head a_tail l1 l2 l3 = some y0 → ∀ ls : Array Slot, lv_has ls 4 [(0, .ref (ad 0)), (1, .int (iI l1)), (2, .int (iI l2)), (3, .int (iI l3))] → (∀ ls : Array Slot, lv_has ls 4 [(3, .int (iI y0))] → W p l e (headSpec wsX8_overlap rm_X8_overlap).room s m args below meth c s.heap [] 0 0 (MQ below (QR (some (.int (iI r)))) args s 0 0 (fun _ => False)) (F0 m 68 ls [])) → W p l e (headSpec wsX8_overlap rm_X8_overlap).room s m args below meth c s.heap [] 0 0 (MQ below (QR (some (.int (iI r)))) args s 0 0 (fun _ => False)) (F0 m 48 ls []) := by
    intro fu
    induction fu with
    | zero => intro l1 l2 l3 y0 hs; cases hs
    | succ fu ih =>
      intro l1 l2 l3 y0 hs ls hl kx
      rw [s_X8_overlap_48_s] at hs
      refine lv_iload_n hx hb dX8_overlap_48 rfl (lv_at hl 3 rfl) ?_
      refine k_if_le (tgt := 68) hx hb hs dX8_overlap_49 (by decide) (fun hs => ?_) (fun hs => ?_)
      · refine lv_aload_n hx hb dX8_overlap_52 rfl (lv_at hl 0 rfl) ?_
        refine lv_iload_n hx hb dX8_overlap_53 rfl (lv_at hl 1 rfl) ?_
        refine lv_iload_n hx hb dX8_overlap_54 rfl (lv_at hl 2 rfl) ?_
        refine lv_iload_n hx hb dX8_overlap_55 rfl (lv_at hl 3 rfl) ?_
        obtain ⟨vz4, hcz, hs⟩ := bd1_some hs
        refine k_rV (As := [.int (iI l1), .int (iI l2), .int (iI l3)]) (rest := []) (st1 := [.int (iI vz4)]) ⟨hx, hb, hml, hown, hts⟩ hK hP (c_X8_fitsBy l D cI cZ cJ hcz) (cwV 3 hts gX8_overlap_X8_fitsBy rfl rfl rfl (by decide +kernel) ⟨Nat.le_of_ble_eq_true rfl, Nat.le_of_ble_eq_true rfl⟩) 0 rfl rfl rfl rfl hl.1 rfl (lv_room (Nat.le_of_ble_eq_true rfl)) dX8_overlap_56 ⟨Nat.zero_le _, Nat.zero_le _⟩ rfl ?_
        refine k_if_ne (tgt := 68) hx hb hs dX8_overlap_59 (by decide) (fun hs => ?_) (fun hs => ?_)
        · refine k_iinc (x := l3) (k := 3) (lv' := [(3, .int (iI (l3 + (-1)))), (0, .ref (ad 0)), (1, .int (iI l1)), (2, .int (iI l2))]) hx hb dX8_overlap_62 hl rfl (by decide) rfl (fun ls hl => ?_)
          refine lv_goto (tgt := 48) hx hb dX8_overlap_65 (by decide) ?_
          exact ih l1 l2 (l3 + (-1)) y0 hs ls (lv_sub hl [1, 2, 3, 0] rfl) kx
        · cases hs
          exact kx ls (lv_sub hl [3] rfl)
      · cases hs
        exact kx ls (lv_sub hl [3] rfl)
  refine lv_aload_n hx hb dX8_overlap_0 rfl (lv_at hl 0 rfl) ?_
  refine va_get (ci := 8) (v := .ref (ad 16)) (C := RX8) (T := TX8) (N := 42) hx hb hts hiX8 hown hK hP 0 rfl rfl 25 (by decide) hf60 (fun _ h9 => h9) rfl dX8_overlap_1 ?_
  refine lv_iload_n hx hb dX8_overlap_4 rfl (lv_at hl 1 rfl) ?_
  refine k_iald hx hb hK hP 16 0 rfl rfl (Nat.le_of_ble_eq_true rfl) hs dX8_overlap_5 (fun vz1 hs => ?_)
  refine lv_aload_n hx hb dX8_overlap_6 rfl (lv_at hl 0 rfl) ?_
  refine va_get (ci := 8) (v := .ref (ad 16)) (C := RX8) (T := TX8) (N := 42) hx hb hts hiX8 hown hK hP 0 rfl rfl 25 (by decide) hf60 (fun _ h9 => h9) rfl dX8_overlap_7 ?_
  refine lv_iload_n hx hb dX8_overlap_10 rfl (lv_at hl 2 rfl) ?_
  refine k_iald hx hb hK hP 16 0 rfl rfl (Nat.le_of_ble_eq_true rfl) hs dX8_overlap_11 (fun vz2 hs => ?_)
  refine k_icmp_ge (tgt := 26) hx hb hs dX8_overlap_12 (by decide) (fun hs => ?_) (fun hs => ?_)
  · refine lv_aload_n hx hb dX8_overlap_15 rfl (lv_at hl 0 rfl) ?_
    refine va_get (ci := 8) (v := .ref (ad 16)) (C := RX8) (T := TX8) (N := 42) hx hb hts hiX8 hown hK hP 0 rfl rfl 25 (by decide) hf60 (fun _ h9 => h9) rfl dX8_overlap_16 ?_
    refine lv_iload_n hx hb dX8_overlap_19 rfl (lv_at hl 1 rfl) ?_
    refine k_iald hx hb hK hP 16 0 rfl rfl (Nat.le_of_ble_eq_true rfl) hs dX8_overlap_20 (fun vz3 hs => ?_)
    refine k_iconst (n := 1) hx hb dX8_overlap_21 ?_
    refine k_isub hx hb dX8_overlap_22 ?_
    refine lv_goto (tgt := 34) hx hb dX8_overlap_23 (by decide) ?_
    refine lv_istore_n (lv' := [(3, .int (iI (vz3 - 1))), (0, .ref (ad 0)), (1, .int (iI pz1)), (2, .int (iI pz2))]) hx hb dX8_overlap_34 rfl hl (by decide) rfl (fun ls hl => ?_)
    refine lv_iload_n hx hb dX8_overlap_35 rfl (lv_at hl 0 rfl) ?_
    refine k_bipush (n := 15) hx hb (by decide) dX8_overlap_36 ?_
    refine k_icmp_le (tgt := 46) hx hb hs dX8_overlap_38 (by decide) (fun hs => ?_) (fun hs => ?_)
    · refine k_bipush (n := 15) hx hb (by decide) dX8_overlap_41 ?_
      refine lv_goto (tgt := 47) hx hb dX8_overlap_43 (by decide) ?_
      refine lv_istore_n (lv' := [(3, .int (iI 15)), (0, .ref (ad 0)), (1, .int (iI pz1)), (2, .int (iI pz2))]) hx hb dX8_overlap_47 rfl hl (by decide) rfl (fun ls hl => ?_)
      obtain ⟨ez5, hq, hs⟩ := bd1_some hs
      refine Lz48 FU pz1 pz2 15 ez5 hq ls (lv_sub hl [1, 2, 3, 0] rfl) ?_
      intro ls hl
      refine lv_iload_n hx hb dX8_overlap_68 rfl (lv_at hl 0 rfl) ?_
      cases hs
      exact k_iret_r hx hb hr hlk rfl dX8_overlap_69 rfl
    · refine lv_iload_n hx hb dX8_overlap_46 rfl (lv_at hl 0 rfl) ?_
      refine lv_istore_n (lv' := [(3, .int (iI (vz3 - 1))), (0, .ref (ad 0)), (1, .int (iI pz1)), (2, .int (iI pz2))]) hx hb dX8_overlap_47 rfl hl (by decide) rfl (fun ls hl => ?_)
      obtain ⟨ez6, hq, hs⟩ := bd1_some hs
      refine Lz48 FU pz1 pz2 (vz3 - 1) ez6 hq ls (lv_sub hl [1, 2, 3, 0] rfl) ?_
      intro ls hl
      refine lv_iload_n hx hb dX8_overlap_68 rfl (lv_at hl 0 rfl) ?_
      cases hs
      exact k_iret_r hx hb hr hlk rfl dX8_overlap_69 rfl
  · refine lv_aload_n hx hb dX8_overlap_26 rfl (lv_at hl 0 rfl) ?_
    refine va_get (ci := 8) (v := .ref (ad 16)) (C := RX8) (T := TX8) (N := 42) hx hb hts hiX8 hown hK hP 0 rfl rfl 25 (by decide) hf60 (fun _ h9 => h9) rfl dX8_overlap_27 ?_
    refine lv_iload_n hx hb dX8_overlap_30 rfl (lv_at hl 2 rfl) ?_
    refine k_iald hx hb hK hP 16 0 rfl rfl (Nat.le_of_ble_eq_true rfl) hs dX8_overlap_31 (fun vz7 hs => ?_)
    refine k_iconst (n := 1) hx hb dX8_overlap_32 ?_
    refine k_isub hx hb dX8_overlap_33 ?_
    refine lv_istore_n (lv' := [(3, .int (iI (vz7 - 1))), (0, .ref (ad 0)), (1, .int (iI pz1)), (2, .int (iI pz2))]) hx hb dX8_overlap_34 rfl hl (by decide) rfl (fun ls hl => ?_)
    refine lv_iload_n hx hb dX8_overlap_35 rfl (lv_at hl 0 rfl) ?_
    refine k_bipush (n := 15) hx hb (by decide) dX8_overlap_36 ?_
    refine k_icmp_le (tgt := 46) hx hb hs dX8_overlap_38 (by decide) (fun hs => ?_) (fun hs => ?_)
    · refine k_bipush (n := 15) hx hb (by decide) dX8_overlap_41 ?_
      refine lv_goto (tgt := 47) hx hb dX8_overlap_43 (by decide) ?_
      refine lv_istore_n (lv' := [(3, .int (iI 15)), (0, .ref (ad 0)), (1, .int (iI pz1)), (2, .int (iI pz2))]) hx hb dX8_overlap_47 rfl hl (by decide) rfl (fun ls hl => ?_)
      obtain ⟨ez8, hq, hs⟩ := bd1_some hs
      refine Lz48 FU pz1 pz2 15 ez8 hq ls (lv_sub hl [1, 2, 3, 0] rfl) ?_
      intro ls hl
      refine lv_iload_n hx hb dX8_overlap_68 rfl (lv_at hl 0 rfl) ?_
      cases hs
      exact k_iret_r hx hb hr hlk rfl dX8_overlap_69 rfl
    · refine lv_iload_n hx hb dX8_overlap_46 rfl (lv_at hl 0 rfl) ?_
      refine lv_istore_n (lv' := [(3, .int (iI (vz7 - 1))), (0, .ref (ad 0)), (1, .int (iI pz1)), (2, .int (iI pz2))]) hx hb dX8_overlap_47 rfl hl (by decide) rfl (fun ls hl => ?_)
      obtain ⟨ez9, hq, hs⟩ := bd1_some hs
      refine Lz48 FU pz1 pz2 (vz7 - 1) ez9 hq ls (lv_sub hl [1, 2, 3, 0] rfl) ?_
      intro ls hl
      refine lv_iload_n hx hb dX8_overlap_68 rfl (lv_at hl 0 rfl) ?_
      cases hs
      exact k_iret_r hx hb hr hlk rfl dX8_overlap_69 rfl
