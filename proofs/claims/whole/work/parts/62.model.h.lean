/-! X8_superstringStart -/
set_option maxHeartbeats 4000000 in
set_option maxRecDepth 100000 in
theorem c_X8_superstringStart (l : Launch) (D : va_G) (cI cZ cJ : ClassId) {ad : Nat → Nat} {x_thrown : Int} {x_buffered : Int} {x_given : Int} {x_isFolding : Int} {x_work : Int} {x_rebuilt : Int} {x_streamed : Int} {x_reports : Int} {x_gapFrom : Int} {x_gapSize : Int} {x_elements : Int} {x_wholeSize : Int} {x_isLaid : Int} {x_takenMany : Int} {a_buffer : (Int → Int)} {a_length : (Int → Int)} {a_bytes : (Int → Int)} {a_weight : (Int → Int)} {a_live : (Int → Int)} {a_size : (Int → Int)} {a_list : (Int → Int)} {a_moved : (Int → Int)} {a_planned : (Int → Int)} {a_stream : (Int → Int)} {a_reportedEnd : (Int → Int)} {a_reportedKeyword : (Int → Int)} {a_starts : (Int → Int)} {a_keywordAt : (Int → Int)} {a_element : (Int → Int)} {a_long1 : (Int → Int)} {a_head : (Int → Int)} {a_tail : (Int → Int)} {a_next : (Int → Int)} {a_skip : (Int → Int)} {a_last : (Int → Int)} {a_whole : (Int → Int)} {a_edges : (Int → Int)} {a_covers : (Int → Int)} {a_weighs : (Int → Int)} {a_numbers : (Int → Int)} {a_takes : (Int → Int)} {a_takenAt : (Int → Int)} {pz1 : Int} {r : Int} {y_x_thrown : Int} {y_x_elements : Int} {y_x_wholeSize : Int} {y_x_isLaid : Int} {y_a_element : (Int → Int)} {y_a_long1 : (Int → Int)} {y_a_head : (Int → Int)} {y_a_tail : (Int → Int)} {y_a_next : (Int → Int)} {y_a_skip : (Int → Int)} {y_a_last : (Int → Int)} {y_a_whole : (Int → Int)} {y_a_edges : (Int → Int)} {sz : Nat} (hs : s_X8_superstringStart x_thrown x_given x_isFolding x_elements x_wholeSize x_isLaid a_length a_bytes a_live a_element a_long1 a_head a_tail a_next a_skip a_last a_whole a_edges pz1 = some (r, y_x_thrown, y_x_elements, y_x_wholeSize, y_x_isLaid, y_a_element, y_a_long1, y_a_head, y_a_tail, y_a_next, y_a_skip, y_a_last, y_a_whole, y_a_edges)) : Met l yX8_superstringStart wsX8_superstringStart rm_X8_superstringStart (PW D vwCl [(cI, .int), (cZ, .boolean), (cJ, .long)] [.ref (ad 0), .int (iI pz1)] (wM cI cZ cJ ad x_thrown x_buffered x_given x_isFolding x_work x_rebuilt x_streamed x_reports x_gapFrom x_gapSize x_elements x_wholeSize x_isLaid x_takenMany a_buffer a_length a_bytes a_weight a_live a_size a_list a_moved a_planned a_stream a_reportedEnd a_reportedKeyword a_starts a_keywordAt a_element a_long1 a_head a_tail a_next a_skip a_last a_whole a_edges a_covers a_weighs a_numbers a_takes a_takenAt) sz) (QW D vwCl (some (.int (iI r))) (wM cI cZ cJ ad y_x_thrown x_buffered x_given x_isFolding x_work x_rebuilt x_streamed x_reports x_gapFrom x_gapSize y_x_elements y_x_wholeSize y_x_isLaid x_takenMany a_buffer a_length a_bytes a_weight a_live a_size a_list a_moved a_planned a_stream a_reportedEnd a_reportedKeyword a_starts a_keywordAt y_a_element y_a_long1 y_a_head y_a_tail y_a_next y_a_skip y_a_last y_a_whole y_a_edges a_covers a_weighs a_numbers a_takes a_takenAt) (va_A (wM cI cZ cJ ad x_thrown x_buffered x_given x_isFolding x_work x_rebuilt x_streamed x_reports x_gapFrom x_gapSize x_elements x_wholeSize x_isLaid x_takenMany a_buffer a_length a_bytes a_weight a_live a_size a_list a_moved a_planned a_stream a_reportedEnd a_reportedKeyword a_starts a_keywordAt a_element a_long1 a_head a_tail a_next a_skip a_last a_whole a_edges a_covers a_weighs a_numbers a_takes a_takenAt) sz)) 0 0 (va_A (wM cI cZ cJ ad x_thrown x_buffered x_given x_isFolding x_work x_rebuilt x_streamed x_reports x_gapFrom x_gapSize x_elements x_wholeSize x_isLaid x_takenMany a_buffer a_length a_bytes a_weight a_live a_size a_list a_moved a_planned a_stream a_reportedEnd a_reportedKeyword a_starts a_keywordAt a_element a_long1 a_head a_tail a_next a_skip a_last a_whole a_edges a_covers a_weighs a_numbers a_takes a_takenAt) sz) := by
  refine Met.ofW (cc := cX8_superstringStart) (maxL := 3) (ret := (some .int)) (by decide) rfl ?_
  intro p e s m args below meth c s₁ B hml hv
  obtain ⟨hav, hsz, hP, hK, hD0⟩ := hv
  have hx := B.exec
  have hb := B.bytes
  have hr := B.returns
  have hts := atoms_spec (ws := wsX8_superstringStart) B.pre
  have hown : s.vm.findClass RX8 = some m.cls := findClass_of_methodNamed B.named
  have hlk := B.notSynchronized
  have hf1 : (Cond.fieldLink RX8 1 "KeywordMatcherModel" "thrown" "I").before args s = true := hts _ (List.mem_of_getElem? (i := 1) rfl)
  have hiX8 : ∀ w ∈ wsX80, w ∈ wsX8_superstringStart := fun w h => List.mem_cons_of_mem _ (List.mem_append_right _ h)
  subst hsz
  have hD := hD0.self (sz := s.heap.size)
  generalize hAe : va_A (wM cI cZ cJ ad x_thrown x_buffered x_given x_isFolding x_work x_rebuilt x_streamed x_reports x_gapFrom x_gapSize x_elements x_wholeSize x_isLaid x_takenMany a_buffer a_length a_bytes a_weight a_live a_size a_list a_moved a_planned a_stream a_reportedEnd a_reportedKeyword a_starts a_keywordAt a_element a_long1 a_head a_tail a_next a_skip a_last a_whole a_edges a_covers a_weighs a_numbers a_takes a_takenAt) s.heap.size = Az at hD ⊢
  have hA : ∀ q : Nat, s.heap.size ≤ q → Az q := fun q h => by rw [← hAe]; exact Or.inr h
  clear hAe
  have hSz : va_S Az s.heap s.heap [] := va_S.rf
  obtain ⟨wz, hw1⟩ : ∃ z : va_W, z = (wM cI cZ cJ ad y_x_thrown x_buffered x_given x_isFolding x_work x_rebuilt x_streamed x_reports x_gapFrom x_gapSize y_x_elements y_x_wholeSize y_x_isLaid x_takenMany a_buffer a_length a_bytes a_weight a_live a_size a_list a_moved a_planned a_stream a_reportedEnd a_reportedKeyword a_starts a_keywordAt y_a_element y_a_long1 y_a_head y_a_tail y_a_next y_a_skip y_a_last y_a_whole y_a_edges a_covers a_weighs a_numbers a_takes a_takenAt) := ⟨_, rfl⟩
  rw [← hw1]
  have hl := lv_entry ([.ref (ad 0), .int (iI pz1)]) (n := 3) (Nat.le_of_ble_eq_true rfl)
  rw [show entryFrame m args 3 = entryFrame m ([.ref (ad 0), .int (iI pz1)] : List Value).toArray 3 from by rw [hav], lg_entry_eq]
  generalize (lg_sl ([.ref (ad 0), .int (iI pz1)]) ++ List.replicate (3 - (lg_sl ([.ref (ad 0), .int (iI pz1)])).length) Slot.unset).toArray = ls at hl ⊢
  have hl : lv_has ls 3 [(0, .ref (ad 0)), (1, .int (iI pz1))] := hl
  unfold s_X8_superstringStart at hs
  have Lz22 : ∀ (fu : Nat) (x_thrown : Int) (x_elements : Int) (x_wholeSize : Int) (x_isLaid : Int) (a_element : (Int → Int)) (a_long1 : (Int → Int)) (a_head : (Int → Int)) (a_tail : (Int → Int)) (a_next : (Int → Int)) (a_skip : (Int → Int)) (a_last : (Int → Int)) (a_whole : (Int → Int)) (a_edges : (Int → Int)) (l1 : Int) (l2 : Int) (y0 : Int), s_X8_superstringStart_22 fu x_isFolding a_length a_bytes a_whole l1 l2 = some y0 → ∀ (Hz : Heap) (lz : List Loc), va_P D vwCl (wM cI cZ cJ ad x_thrown x_buffered x_given x_isFolding x_work x_rebuilt x_streamed x_reports x_gapFrom x_gapSize x_elements x_wholeSize x_isLaid x_takenMany a_buffer a_length a_bytes a_weight a_live a_size a_list a_moved a_planned a_stream a_reportedEnd a_reportedKeyword a_starts a_keywordAt a_element a_long1 a_head a_tail a_next a_skip a_last a_whole a_edges a_covers a_weighs a_numbers a_takes a_takenAt) Hz → va_D Az (wM cI cZ cJ ad x_thrown x_buffered x_given x_isFolding x_work x_rebuilt x_streamed x_reports x_gapFrom x_gapSize x_elements x_wholeSize x_isLaid x_takenMany a_buffer a_length a_bytes a_weight a_live a_size a_list a_moved a_planned a_stream a_reportedEnd a_reportedKeyword a_starts a_keywordAt a_element a_long1 a_head a_tail a_next a_skip a_last a_whole a_edges a_covers a_weighs a_numbers a_takes a_takenAt) → va_S Az s.heap Hz lz → ∀ ls : Array Slot, lv_has ls 3 [(0, .ref (ad 0)), (1, .int (iI l1)), (2, .int (iI l2))] → (∀ (Hz : Heap) (lz : List Loc), va_P D vwCl (wM cI cZ cJ ad x_thrown x_buffered x_given x_isFolding x_work x_rebuilt x_streamed x_reports x_gapFrom x_gapSize x_elements x_wholeSize x_isLaid x_takenMany a_buffer a_length a_bytes a_weight a_live a_size a_list a_moved a_planned a_stream a_reportedEnd a_reportedKeyword a_starts a_keywordAt a_element a_long1 a_head a_tail a_next a_skip a_last a_whole a_edges a_covers a_weighs a_numbers a_takes a_takenAt) Hz → va_D Az (wM cI cZ cJ ad x_thrown x_buffered x_given x_isFolding x_work x_rebuilt x_streamed x_reports x_gapFrom x_gapSize x_elements x_wholeSize x_isLaid x_takenMany a_buffer a_length a_bytes a_weight a_live a_size a_list a_moved a_planned a_stream a_reportedEnd a_reportedKeyword a_starts a_keywordAt a_element a_long1 a_head a_tail a_next a_skip a_last a_whole a_edges a_covers a_weighs a_numbers a_takes a_takenAt) → va_S Az s.heap Hz lz → ∀ ls : Array Slot, lv_has ls 3 [(2, .int (iI y0))] → W p l e (headSpec wsX8_superstringStart rm_X8_superstringStart).room s m args below meth c Hz lz 0 0 (MQ below (QW D vwCl (some (.int (iI r))) wz Az) args s 0 0 Az) (F0 m 37 ls [])) → W p l e (headSpec wsX8_superstringStart rm_X8_superstringStart).room s m args below meth c Hz lz 0 0 (MQ below (QW D vwCl (some (.int (iI r))) wz Az) args s 0 0 Az) (F0 m 22 ls []) := by
    intro fu
    induction fu with
    | zero => intro x_thrown x_elements x_wholeSize x_isLaid a_element a_long1 a_head a_tail a_next a_skip a_last a_whole a_edges l1 l2 y0 hs; cases hs
    | succ fu ih =>
      intro x_thrown x_elements x_wholeSize x_isLaid a_element a_long1 a_head a_tail a_next a_skip a_last a_whole a_edges l1 l2 y0 hs Hz lz hP hD hSz ls hl kx
      rw [s_X8_superstringStart_22_s] at hs
      refine lv_aload_n hx hb dX8_superstringStart_22 rfl (lv_at hl 0 rfl) ?_
      refine lv_iload_n hx hb dX8_superstringStart_23 rfl (lv_at hl 1 rfl) ?_
      refine lv_iload_n hx hb dX8_superstringStart_24 rfl (lv_at hl 2 rfl) ?_
      obtain ⟨vz14, hcz, hs⟩ := bd1_some hs
      refine k_rV (As := [.int (iI l1), .int (iI l2)]) (rest := []) (st1 := [.int (iI vz14)]) ⟨hx, hb, hml, hown, hts⟩ hK hP (c_X8_isInWhole l D cI cZ cJ hcz) (cwV 2 hts gX8_superstringStart_X8_isInWhole rfl rfl rfl (by decide +kernel) ⟨Nat.le_of_ble_eq_true rfl, Nat.le_of_ble_eq_true rfl⟩) 0 rfl rfl rfl rfl hl.1 rfl (lv_room (Nat.le_of_ble_eq_true rfl)) dX8_superstringStart_25 ⟨Nat.zero_le _, Nat.zero_le _⟩ rfl ?_
      refine k_if_ne (tgt := 37) hx hb hs dX8_superstringStart_28 (by decide) (fun hs => ?_) (fun hs => ?_)
      · refine k_iinc (x := l2) (k := 2) (lv' := [(2, .int (iI (l2 + 1))), (0, .ref (ad 0)), (1, .int (iI l1))]) hx hb dX8_superstringStart_31 hl rfl (by decide) rfl (fun ls hl => ?_)
        refine lv_goto (tgt := 22) hx hb dX8_superstringStart_34 (by decide) ?_
        exact ih x_thrown x_elements x_wholeSize x_isLaid a_element a_long1 a_head a_tail a_next a_skip a_last a_whole a_edges l1 (l2 + 1) y0 hs Hz lz hP hD hSz ls (lv_sub hl [1, 2, 0] rfl) kx
      · cases hs
        exact kx Hz lz hP hD hSz ls (lv_sub hl [2] rfl)
  refine (?_ : ∀ (Hz : Heap) (lz : List Loc), va_P D vwCl (wM cI cZ cJ ad x_thrown x_buffered x_given x_isFolding x_work x_rebuilt x_streamed x_reports x_gapFrom x_gapSize x_elements x_wholeSize x_isLaid x_takenMany a_buffer a_length a_bytes a_weight a_live a_size a_list a_moved a_planned a_stream a_reportedEnd a_reportedKeyword a_starts a_keywordAt a_element a_long1 a_head a_tail a_next a_skip a_last a_whole a_edges a_covers a_weighs a_numbers a_takes a_takenAt) Hz → va_D Az (wM cI cZ cJ ad x_thrown x_buffered x_given x_isFolding x_work x_rebuilt x_streamed x_reports x_gapFrom x_gapSize x_elements x_wholeSize x_isLaid x_takenMany a_buffer a_length a_bytes a_weight a_live a_size a_list a_moved a_planned a_stream a_reportedEnd a_reportedKeyword a_starts a_keywordAt a_element a_long1 a_head a_tail a_next a_skip a_last a_whole a_edges a_covers a_weighs a_numbers a_takes a_takenAt) → va_S Az s.heap Hz lz → W p l e (headSpec wsX8_superstringStart rm_X8_superstringStart).room s m args below meth c Hz lz 0 0 (MQ below (QW D vwCl (some (.int (iI r))) wz Az) args s 0 0 Az) (F0 m 0 ls [])) s.heap [] hP hD hSz
  intro Hz lz hP hD hSz
  refine lv_aload_n hx hb dX8_superstringStart_0 rfl (lv_at hl 0 rfl) ?_
  refine k_iconst (n := 0) hx hb dX8_superstringStart_1 ?_
  refine va_put (ci := 8) (v := .int (iI 0)) (ty := .int) (C := RX8) (T := TX8) (N := 42) hx hb hts hiX8 tyX8 tyX8_ok nmX8 hown hK hP hD hSz 0 rfl rfl 0 (by decide) hf1 (fun _ h9 => h9) rfl (by decide +kernel) rfl rfl (Nat.le_of_ble_eq_true rfl) dX8_superstringStart_2 (fun Hz lz hP hD hSz => ?_)
  have hP : va_P D vwCl (wM cI cZ cJ ad 0 x_buffered x_given x_isFolding x_work x_rebuilt x_streamed x_reports x_gapFrom x_gapSize x_elements x_wholeSize x_isLaid x_takenMany a_buffer a_length a_bytes a_weight a_live a_size a_list a_moved a_planned a_stream a_reportedEnd a_reportedKeyword a_starts a_keywordAt a_element a_long1 a_head a_tail a_next a_skip a_last a_whole a_edges a_covers a_weighs a_numbers a_takes a_takenAt) Hz := hP
  have hD : va_D Az (wM cI cZ cJ ad 0 x_buffered x_given x_isFolding x_work x_rebuilt x_streamed x_reports x_gapFrom x_gapSize x_elements x_wholeSize x_isLaid x_takenMany a_buffer a_length a_bytes a_weight a_live a_size a_list a_moved a_planned a_stream a_reportedEnd a_reportedKeyword a_starts a_keywordAt a_element a_long1 a_head a_tail a_next a_skip a_last a_whole a_edges a_covers a_weighs a_numbers a_takes a_takenAt) := hD
  refine lv_aload_n hx hb dX8_superstringStart_5 rfl (lv_at hl 0 rfl) ?_
  refine lv_iload_n hx hb dX8_superstringStart_6 rfl (lv_at hl 1 rfl) ?_
  obtain ⟨vz1, hcz, hs⟩ := bd1_some hs
  refine k_rV (As := [.int (iI pz1)]) (rest := []) (st1 := [.int (iI vz1)]) ⟨hx, hb, hml, hown, hts⟩ hK hP (c_X8_isLiveOne l D cI cZ cJ hcz) (cwV 1 hts gX8_superstringStart_X8_isLiveOne rfl rfl rfl (by decide +kernel) ⟨Nat.le_of_ble_eq_true rfl, Nat.le_of_ble_eq_true rfl⟩) 0 rfl rfl rfl rfl hl.1 rfl (lv_room (Nat.le_of_ble_eq_true rfl)) dX8_superstringStart_7 ⟨Nat.zero_le _, Nat.zero_le _⟩ rfl ?_
  refine k_if_ne (tgt := 16) hx hb hs dX8_superstringStart_10 (by decide) (fun hs => ?_) (fun hs => ?_)
  · refine k_bipush (n := (-2)) hx hb (by decide) dX8_superstringStart_13 ?_
    cases hs
    exact k_iret_w hx hb hr hlk (by rw [hw1]; exact hP) hSz dX8_superstringStart_15 rfl
  · refine lv_aload_n hx hb dX8_superstringStart_16 rfl (lv_at hl 0 rfl) ?_
    obtain ⟨vz2, vz3, vz4, vz5, vz6, vz7, vz8, vz9, vz10, vz11, vz12, vz13, hcz, hs⟩ := bd12_some hs
    refine k_wVs (As := []) (rest := []) (st1 := []) (w1 := (wM cI cZ cJ ad 0 x_buffered x_given x_isFolding x_work x_rebuilt x_streamed x_reports x_gapFrom x_gapSize vz2 vz3 vz4 x_takenMany a_buffer a_length a_bytes a_weight a_live a_size a_list a_moved a_planned a_stream a_reportedEnd a_reportedKeyword a_starts a_keywordAt vz5 vz6 vz7 vz8 vz9 vz10 vz11 vz12 vz13 a_covers a_weighs a_numbers a_takes a_takenAt)) ⟨hx, hb, hml, hown, hts⟩ hK hP hD hSz hA (c_X8_laysWhole l D cI cZ cJ hcz) (cwV 0 hts gX8_superstringStart_X8_laysWhole rfl rfl rfl (by decide +kernel) ⟨Nat.le_of_ble_eq_true rfl, Nat.le_of_ble_eq_true rfl⟩) 0 rfl rfl rfl rfl rfl hl.1 rfl (lv_room (Nat.le_of_ble_eq_true rfl)) dX8_superstringStart_17 ⟨Nat.zero_le _, Nat.zero_le _⟩ rfl (fun Hz lz hP hD hSz => ?_)
    have hP : va_P D vwCl (wM cI cZ cJ ad 0 x_buffered x_given x_isFolding x_work x_rebuilt x_streamed x_reports x_gapFrom x_gapSize vz2 vz3 vz4 x_takenMany a_buffer a_length a_bytes a_weight a_live a_size a_list a_moved a_planned a_stream a_reportedEnd a_reportedKeyword a_starts a_keywordAt vz5 vz6 vz7 vz8 vz9 vz10 vz11 vz12 vz13 a_covers a_weighs a_numbers a_takes a_takenAt) Hz := hP
    have hD : va_D Az (wM cI cZ cJ ad 0 x_buffered x_given x_isFolding x_work x_rebuilt x_streamed x_reports x_gapFrom x_gapSize vz2 vz3 vz4 x_takenMany a_buffer a_length a_bytes a_weight a_live a_size a_list a_moved a_planned a_stream a_reportedEnd a_reportedKeyword a_starts a_keywordAt vz5 vz6 vz7 vz8 vz9 vz10 vz11 vz12 vz13 a_covers a_weighs a_numbers a_takes a_takenAt) := hD
    refine k_iconst (n := 0) hx hb dX8_superstringStart_20 ?_
    refine lv_istore_n (lv' := [(2, .int (iI 0)), (0, .ref (ad 0)), (1, .int (iI pz1))]) hx hb dX8_superstringStart_21 rfl hl (by decide) rfl (fun ls hl => ?_)
    obtain ⟨ez15, hq, hs⟩ := bd1_some hs
    refine Lz22 FU 0 vz2 vz3 vz4 vz5 vz6 vz7 vz8 vz9 vz10 vz11 vz12 vz13 pz1 0 ez15 hq Hz lz hP hD hSz ls (lv_sub hl [1, 2, 0] rfl) ?_
    intro Hz lz hP hD hSz ls hl
    refine lv_iload_n hx hb dX8_superstringStart_37 rfl (lv_at hl 0 rfl) ?_
    cases hs
    exact k_iret_w hx hb hr hlk (by rw [hw1]; exact hP) hSz dX8_superstringStart_38 rfl
/-! X8_better -/
set_option maxHeartbeats 4000000 in
set_option maxRecDepth 100000 in
theorem c_X8_better (l : Launch) (D : va_G) (cI cZ cJ : ClassId) {ad : Nat → Nat} {x_thrown : Int} {x_buffered : Int} {x_given : Int} {x_isFolding : Int} {x_work : Int} {x_rebuilt : Int} {x_streamed : Int} {x_reports : Int} {x_gapFrom : Int} {x_gapSize : Int} {x_elements : Int} {x_wholeSize : Int} {x_isLaid : Int} {x_takenMany : Int} {a_buffer : (Int → Int)} {a_length : (Int → Int)} {a_bytes : (Int → Int)} {a_weight : (Int → Int)} {a_live : (Int → Int)} {a_size : (Int → Int)} {a_list : (Int → Int)} {a_moved : (Int → Int)} {a_planned : (Int → Int)} {a_stream : (Int → Int)} {a_reportedEnd : (Int → Int)} {a_reportedKeyword : (Int → Int)} {a_starts : (Int → Int)} {a_keywordAt : (Int → Int)} {a_element : (Int → Int)} {a_long1 : (Int → Int)} {a_head : (Int → Int)} {a_tail : (Int → Int)} {a_next : (Int → Int)} {a_skip : (Int → Int)} {a_last : (Int → Int)} {a_whole : (Int → Int)} {a_edges : (Int → Int)} {a_covers : (Int → Int)} {a_weighs : (Int → Int)} {a_numbers : (Int → Int)} {a_takes : (Int → Int)} {a_takenAt : (Int → Int)} {pz1 : Int} {pz2 : Int} {r : Int} (hs : s_X8_better a_length a_weight a_covers a_weighs a_numbers pz1 pz2 = some r) : Met l yX8_better wsX8_better rm_X8_better (PR D vwCl [(cI, .int), (cZ, .boolean), (cJ, .long)] [.ref (ad 0), .int (iI pz1), .int (iI pz2)] (wM cI cZ cJ ad x_thrown x_buffered x_given x_isFolding x_work x_rebuilt x_streamed x_reports x_gapFrom x_gapSize x_elements x_wholeSize x_isLaid x_takenMany a_buffer a_length a_bytes a_weight a_live a_size a_list a_moved a_planned a_stream a_reportedEnd a_reportedKeyword a_starts a_keywordAt a_element a_long1 a_head a_tail a_next a_skip a_last a_whole a_edges a_covers a_weighs a_numbers a_takes a_takenAt)) (QR (some (.int (iI r)))) 0 0 (fun _ => False) := by
  refine Met.ofW (cc := cX8_better) (maxL := 5) (ret := (some .int)) (by decide) rfl ?_
  intro p e s m args below meth c s₁ B hml hv
  obtain ⟨hav, hP, hK⟩ := hv
  have hx := B.exec
  have hb := B.bytes
  have hr := B.returns
  have hts := atoms_spec (ws := wsX8_better) B.pre
  have hown : s.vm.findClass RX8 = some m.cls := findClass_of_methodNamed B.named
  have hlk := B.notSynchronized
  have hf17 : (Cond.fieldLink RX8 17 "KeywordMatcherModel" "length" "[I").before args s = true := hts _ (List.mem_of_getElem? (i := 1) rfl)
  have hiX8 : ∀ w ∈ wsX80, w ∈ wsX8_better := fun w h => List.mem_cons_of_mem _ (List.mem_append_right _ h)
  have hf84 : (Cond.fieldLink RX8 84 "KeywordMatcherModel" "covers" "[I").before args s = true := hts _ (List.mem_of_getElem? (i := 2) rfl)
  have hf87 : (Cond.fieldLink RX8 87 "KeywordMatcherModel" "weighs" "[I").before args s = true := hts _ (List.mem_of_getElem? (i := 3) rfl)
  have hf23 : (Cond.fieldLink RX8 23 "KeywordMatcherModel" "weight" "[I").before args s = true := hts _ (List.mem_of_getElem? (i := 4) rfl)
  have hf90 : (Cond.fieldLink RX8 90 "KeywordMatcherModel" "numbers" "[I").before args s = true := hts _ (List.mem_of_getElem? (i := 5) rfl)
  have hl := lv_entry ([.ref (ad 0), .int (iI pz1), .int (iI pz2)]) (n := 5) (Nat.le_of_ble_eq_true rfl)
  rw [show entryFrame m args 5 = entryFrame m ([.ref (ad 0), .int (iI pz1), .int (iI pz2)] : List Value).toArray 5 from by rw [hav], lg_entry_eq]
  generalize (lg_sl ([.ref (ad 0), .int (iI pz1), .int (iI pz2)]) ++ List.replicate (5 - (lg_sl ([.ref (ad 0), .int (iI pz1), .int (iI pz2)])).length) Slot.unset).toArray = ls at hl ⊢
  have hl : lv_has ls 5 [(0, .ref (ad 0)), (1, .int (iI pz1)), (2, .int (iI pz2))] := hl
  unfold s_X8_better at hs
  refine lv_iload_n hx hb dX8_better_0 rfl (lv_at hl 1 rfl) ?_
  refine lv_aload_n hx hb dX8_better_1 rfl (lv_at hl 0 rfl) ?_
  refine va_get (ci := 8) (v := .ref (ad 2)) (C := RX8) (T := TX8) (N := 42) hx hb hts hiX8 hown hK hP 0 rfl rfl 3 (by decide) hf17 (fun _ h9 => h9) rfl dX8_better_2 ?_
  refine lv_iload_n hx hb dX8_better_5 rfl (lv_at hl 2 rfl) ?_
  refine k_iald hx hb hK hP 2 0 rfl rfl (Nat.le_of_ble_eq_true rfl) hs dX8_better_6 (fun vz1 hs => ?_)
  refine k_iadd hx hb dX8_better_7 ?_
  refine lv_istore_n (lv' := [(3, .int (iI (pz1 + vz1))), (0, .ref (ad 0)), (1, .int (iI pz1)), (2, .int (iI pz2))]) hx hb dX8_better_8 rfl hl (by decide) rfl (fun ls hl => ?_)
  refine lv_aload_n hx hb dX8_better_9 rfl (lv_at hl 1 rfl) ?_
  refine va_get (ci := 8) (v := .ref (ad 24)) (C := RX8) (T := TX8) (N := 42) hx hb hts hiX8 hown hK hP 0 rfl rfl 36 (by decide) hf84 (fun _ h9 => h9) rfl dX8_better_10 ?_
  refine lv_iload_n hx hb dX8_better_13 rfl (lv_at hl 0 rfl) ?_
  refine k_iald hx hb hK hP 24 0 rfl rfl (Nat.le_of_ble_eq_true rfl) hs dX8_better_14 (fun vz2 hs => ?_)
  refine lv_aload_n hx hb dX8_better_15 rfl (lv_at hl 1 rfl) ?_
  refine va_get (ci := 8) (v := .ref (ad 2)) (C := RX8) (T := TX8) (N := 42) hx hb hts hiX8 hown hK hP 0 rfl rfl 3 (by decide) hf17 (fun _ h9 => h9) rfl dX8_better_16 ?_
  refine lv_iload_n hx hb dX8_better_19 rfl (lv_at hl 3 rfl) ?_
  refine k_iald hx hb hK hP 2 0 rfl rfl (Nat.le_of_ble_eq_true rfl) hs dX8_better_20 (fun vz3 hs => ?_)
  refine k_iadd hx hb dX8_better_21 ?_
  refine lv_aload_n hx hb dX8_better_22 rfl (lv_at hl 1 rfl) ?_
  refine va_get (ci := 8) (v := .ref (ad 24)) (C := RX8) (T := TX8) (N := 42) hx hb hts hiX8 hown hK hP 0 rfl rfl 36 (by decide) hf84 (fun _ h9 => h9) rfl dX8_better_23 ?_
  refine lv_iload_n hx hb dX8_better_26 rfl (lv_at hl 2 rfl) ?_
  refine k_iald hx hb hK hP 24 0 rfl rfl (Nat.le_of_ble_eq_true rfl) hs dX8_better_27 (fun vz4 hs => ?_)
  refine k_isub hx hb dX8_better_28 ?_
  refine lv_istore (lv' := [(4, .int (iI ((vz2 + vz3) - vz4))), (3, .int (iI (pz1 + vz1))), (0, .ref (ad 0)), (1, .int (iI pz1)), (2, .int (iI pz2))]) hx hb dX8_better_29 hl (by decide) rfl (fun ls hl => ?_)
  refine lv_iload hx hb dX8_better_31 (lv_at hl 0 rfl) ?_
  refine k_if_ne (tgt := 58) hx hb hs dX8_better_33 (by decide) (fun hs => ?_) (fun hs => ?_)
  · refine lv_aload_n hx hb dX8_better_36 rfl (lv_at hl 2 rfl) ?_
    refine va_get (ci := 8) (v := .ref (ad 25)) (C := RX8) (T := TX8) (N := 42) hx hb hts hiX8 hown hK hP 0 rfl rfl 37 (by decide) hf87 (fun _ h9 => h9) rfl dX8_better_37 ?_
    refine lv_iload_n hx hb dX8_better_40 rfl (lv_at hl 1 rfl) ?_
    refine k_iald hx hb hK hP 25 0 rfl rfl (Nat.le_of_ble_eq_true rfl) hs dX8_better_41 (fun vz5 hs => ?_)
    refine lv_aload_n hx hb dX8_better_42 rfl (lv_at hl 2 rfl) ?_
    refine va_get (ci := 8) (v := .ref (ad 4)) (C := RX8) (T := TX8) (N := 42) hx hb hts hiX8 hown hK hP 0 rfl rfl 5 (by decide) hf23 (fun _ h9 => h9) rfl dX8_better_43 ?_
    refine lv_iload_n hx hb dX8_better_46 rfl (lv_at hl 4 rfl) ?_
    refine k_iald hx hb hK hP 4 0 rfl rfl (Nat.le_of_ble_eq_true rfl) hs dX8_better_47 (fun vz6 hs => ?_)
    refine k_iadd hx hb dX8_better_48 ?_
    refine lv_aload_n hx hb dX8_better_49 rfl (lv_at hl 2 rfl) ?_
    refine va_get (ci := 8) (v := .ref (ad 25)) (C := RX8) (T := TX8) (N := 42) hx hb hts hiX8 hown hK hP 0 rfl rfl 37 (by decide) hf87 (fun _ h9 => h9) rfl dX8_better_50 ?_
    refine lv_iload_n hx hb dX8_better_53 rfl (lv_at hl 3 rfl) ?_
    refine k_iald hx hb hK hP 25 0 rfl rfl (Nat.le_of_ble_eq_true rfl) hs dX8_better_54 (fun vz7 hs => ?_)
    refine k_isub hx hb dX8_better_55 ?_
    refine lv_istore (lv' := [(4, .int (iI ((vz5 + vz6) - vz7))), (3, .int (iI (pz1 + vz1))), (0, .ref (ad 0)), (1, .int (iI pz1)), (2, .int (iI pz2))]) hx hb dX8_better_56 hl (by decide) rfl (fun ls hl => ?_)
    refine lv_iload hx hb dX8_better_58 (lv_at hl 0 rfl) ?_
    refine k_if_eq (tgt := 68) hx hb hs dX8_better_60 (by decide) (fun hs => ?_) (fun hs => ?_)
    · refine lv_aload_n hx hb dX8_better_68 rfl (lv_at hl 2 rfl) ?_
      refine va_get (ci := 8) (v := .ref (ad 26)) (C := RX8) (T := TX8) (N := 42) hx hb hts hiX8 hown hK hP 0 rfl rfl 38 (by decide) hf90 (fun _ h9 => h9) rfl dX8_better_69 ?_
      refine lv_iload_n hx hb dX8_better_72 rfl (lv_at hl 3 rfl) ?_
      refine k_iald hx hb hK hP 26 0 rfl rfl (Nat.le_of_ble_eq_true rfl) hs dX8_better_73 (fun vz8 hs => ?_)
      refine lv_aload_n hx hb dX8_better_74 rfl (lv_at hl 2 rfl) ?_
      refine va_get (ci := 8) (v := .ref (ad 26)) (C := RX8) (T := TX8) (N := 42) hx hb hts hiX8 hown hK hP 0 rfl rfl 38 (by decide) hf90 (fun _ h9 => h9) rfl dX8_better_75 ?_
      refine lv_iload_n hx hb dX8_better_78 rfl (lv_at hl 1 rfl) ?_
      refine k_iald hx hb hK hP 26 0 rfl rfl (Nat.le_of_ble_eq_true rfl) hs dX8_better_79 (fun vz9 hs => ?_)
      refine k_isub hx hb dX8_better_80 ?_
      refine k_iconst (n := 1) hx hb dX8_better_81 ?_
      refine k_isub hx hb dX8_better_82 ?_
      cases hs
      exact k_iret_r hx hb hr hlk rfl dX8_better_83 rfl
    · refine lv_iload hx hb dX8_better_63 (lv_at hl 0 rfl) ?_
      refine lv_goto (tgt := 83) hx hb dX8_better_65 (by decide) ?_
      cases hs
      exact k_iret_r hx hb hr hlk rfl dX8_better_83 rfl
  · refine lv_iload hx hb dX8_better_58 (lv_at hl 0 rfl) ?_
    refine k_if_eq (tgt := 68) hx hb hs dX8_better_60 (by decide) (fun hs => ?_) (fun hs => ?_)
    · refine lv_aload_n hx hb dX8_better_68 rfl (lv_at hl 2 rfl) ?_
      refine va_get (ci := 8) (v := .ref (ad 26)) (C := RX8) (T := TX8) (N := 42) hx hb hts hiX8 hown hK hP 0 rfl rfl 38 (by decide) hf90 (fun _ h9 => h9) rfl dX8_better_69 ?_
      refine lv_iload_n hx hb dX8_better_72 rfl (lv_at hl 3 rfl) ?_
      refine k_iald hx hb hK hP 26 0 rfl rfl (Nat.le_of_ble_eq_true rfl) hs dX8_better_73 (fun vz10 hs => ?_)
      refine lv_aload_n hx hb dX8_better_74 rfl (lv_at hl 2 rfl) ?_
      refine va_get (ci := 8) (v := .ref (ad 26)) (C := RX8) (T := TX8) (N := 42) hx hb hts hiX8 hown hK hP 0 rfl rfl 38 (by decide) hf90 (fun _ h9 => h9) rfl dX8_better_75 ?_
      refine lv_iload_n hx hb dX8_better_78 rfl (lv_at hl 1 rfl) ?_
      refine k_iald hx hb hK hP 26 0 rfl rfl (Nat.le_of_ble_eq_true rfl) hs dX8_better_79 (fun vz11 hs => ?_)
      refine k_isub hx hb dX8_better_80 ?_
      refine k_iconst (n := 1) hx hb dX8_better_81 ?_
      refine k_isub hx hb dX8_better_82 ?_
      cases hs
      exact k_iret_r hx hb hr hlk rfl dX8_better_83 rfl
    · refine lv_iload hx hb dX8_better_63 (lv_at hl 0 rfl) ?_
      refine lv_goto (tgt := 83) hx hb dX8_better_65 (by decide) ?_
      cases hs
      exact k_iret_r hx hb hr hlk rfl dX8_better_83 rfl
/-! X8_laysCover -/
set_option maxHeartbeats 4000000 in
set_option maxRecDepth 100000 in
theorem c_X8_laysCover (l : Launch) (D : va_G) (cI cZ cJ : ClassId) {ad : Nat → Nat} {x_thrown : Int} {x_buffered : Int} {x_given : Int} {x_isFolding : Int} {x_work : Int} {x_rebuilt : Int} {x_streamed : Int} {x_reports : Int} {x_gapFrom : Int} {x_gapSize : Int} {x_elements : Int} {x_wholeSize : Int} {x_isLaid : Int} {x_takenMany : Int} {a_buffer : (Int → Int)} {a_length : (Int → Int)} {a_bytes : (Int → Int)} {a_weight : (Int → Int)} {a_live : (Int → Int)} {a_size : (Int → Int)} {a_list : (Int → Int)} {a_moved : (Int → Int)} {a_planned : (Int → Int)} {a_stream : (Int → Int)} {a_reportedEnd : (Int → Int)} {a_reportedKeyword : (Int → Int)} {a_starts : (Int → Int)} {a_keywordAt : (Int → Int)} {a_element : (Int → Int)} {a_long1 : (Int → Int)} {a_head : (Int → Int)} {a_tail : (Int → Int)} {a_next : (Int → Int)} {a_skip : (Int → Int)} {a_last : (Int → Int)} {a_whole : (Int → Int)} {a_edges : (Int → Int)} {a_covers : (Int → Int)} {a_weighs : (Int → Int)} {a_numbers : (Int → Int)} {a_takes : (Int → Int)} {a_takenAt : (Int → Int)} {y_a_starts : (Int → Int)} {y_a_keywordAt : (Int → Int)} {y_a_covers : (Int → Int)} {y_a_weighs : (Int → Int)} {y_a_numbers : (Int → Int)} {y_a_takes : (Int → Int)} {sz : Nat} (hs : s_X8_laysCover x_given x_isFolding x_streamed a_length a_bytes a_weight a_live a_stream a_starts a_keywordAt a_covers a_weighs a_numbers a_takes = some (y_a_starts, y_a_keywordAt, y_a_covers, y_a_weighs, y_a_numbers, y_a_takes)) : Met l yX8_laysCover wsX8_laysCover rm_X8_laysCover (PW D vwCl [(cI, .int), (cZ, .boolean), (cJ, .long)] [.ref (ad 0)] (wM cI cZ cJ ad x_thrown x_buffered x_given x_isFolding x_work x_rebuilt x_streamed x_reports x_gapFrom x_gapSize x_elements x_wholeSize x_isLaid x_takenMany a_buffer a_length a_bytes a_weight a_live a_size a_list a_moved a_planned a_stream a_reportedEnd a_reportedKeyword a_starts a_keywordAt a_element a_long1 a_head a_tail a_next a_skip a_last a_whole a_edges a_covers a_weighs a_numbers a_takes a_takenAt) sz) (QW D vwCl none (wM cI cZ cJ ad x_thrown x_buffered x_given x_isFolding x_work x_rebuilt x_streamed x_reports x_gapFrom x_gapSize x_elements x_wholeSize x_isLaid x_takenMany a_buffer a_length a_bytes a_weight a_live a_size a_list a_moved a_planned a_stream a_reportedEnd a_reportedKeyword y_a_starts y_a_keywordAt a_element a_long1 a_head a_tail a_next a_skip a_last a_whole a_edges y_a_covers y_a_weighs y_a_numbers y_a_takes a_takenAt) (va_A (wM cI cZ cJ ad x_thrown x_buffered x_given x_isFolding x_work x_rebuilt x_streamed x_reports x_gapFrom x_gapSize x_elements x_wholeSize x_isLaid x_takenMany a_buffer a_length a_bytes a_weight a_live a_size a_list a_moved a_planned a_stream a_reportedEnd a_reportedKeyword a_starts a_keywordAt a_element a_long1 a_head a_tail a_next a_skip a_last a_whole a_edges a_covers a_weighs a_numbers a_takes a_takenAt) sz)) 0 0 (va_A (wM cI cZ cJ ad x_thrown x_buffered x_given x_isFolding x_work x_rebuilt x_streamed x_reports x_gapFrom x_gapSize x_elements x_wholeSize x_isLaid x_takenMany a_buffer a_length a_bytes a_weight a_live a_size a_list a_moved a_planned a_stream a_reportedEnd a_reportedKeyword a_starts a_keywordAt a_element a_long1 a_head a_tail a_next a_skip a_last a_whole a_edges a_covers a_weighs a_numbers a_takes a_takenAt) sz) := by
  refine Met.ofW (cc := cX8_laysCover) (maxL := 5) (ret := none) (by decide) rfl ?_
  intro p e s m args below meth c s₁ B hml hv
  obtain ⟨hav, hsz, hP, hK, hD0⟩ := hv
  have hx := B.exec
  have hb := B.bytes
  have hr := B.returns
  have hts := atoms_spec (ws := wsX8_laysCover) B.pre
  have hown : s.vm.findClass RX8 = some m.cls := findClass_of_methodNamed B.named
  have hlk := B.notSynchronized
  have hf84 : (Cond.fieldLink RX8 84 "KeywordMatcherModel" "covers" "[I").before args s = true := hts _ (List.mem_of_getElem? (i := 1) rfl)
  have hiX8 : ∀ w ∈ wsX80, w ∈ wsX8_laysCover := fun w h => List.mem_cons_of_mem _ (List.mem_append_right _ h)
  have hf170 : (Cond.fieldLink RX8 170 "KeywordMatcherModel" "streamed" "I").before args s = true := hts _ (List.mem_of_getElem? (i := 2) rfl)
  have hf87 : (Cond.fieldLink RX8 87 "KeywordMatcherModel" "weighs" "[I").before args s = true := hts _ (List.mem_of_getElem? (i := 3) rfl)
  have hf90 : (Cond.fieldLink RX8 90 "KeywordMatcherModel" "numbers" "[I").before args s = true := hts _ (List.mem_of_getElem? (i := 4) rfl)
  have hf93 : (Cond.fieldLink RX8 93 "KeywordMatcherModel" "takes" "[I").before args s = true := hts _ (List.mem_of_getElem? (i := 5) rfl)
  have hf102 : (Cond.fieldLink RX8 102 "KeywordMatcherModel" "given" "I").before args s = true := hts _ (List.mem_of_getElem? (i := 6) rfl)
  have hf26 : (Cond.fieldLink RX8 26 "KeywordMatcherModel" "live" "[Z").before args s = true := hts _ (List.mem_of_getElem? (i := 7) rfl)
  have hf17 : (Cond.fieldLink RX8 17 "KeywordMatcherModel" "length" "[I").before args s = true := hts _ (List.mem_of_getElem? (i := 8) rfl)
  have hf54 : (Cond.fieldLink RX8 54 "KeywordMatcherModel" "keywordAt" "[I").before args s = true := hts _ (List.mem_of_getElem? (i := 9) rfl)
  have hf23 : (Cond.fieldLink RX8 23 "KeywordMatcherModel" "weight" "[I").before args s = true := hts _ (List.mem_of_getElem? (i := 10) rfl)
  subst hsz
  have hD := hD0.self (sz := s.heap.size)
  generalize hAe : va_A (wM cI cZ cJ ad x_thrown x_buffered x_given x_isFolding x_work x_rebuilt x_streamed x_reports x_gapFrom x_gapSize x_elements x_wholeSize x_isLaid x_takenMany a_buffer a_length a_bytes a_weight a_live a_size a_list a_moved a_planned a_stream a_reportedEnd a_reportedKeyword a_starts a_keywordAt a_element a_long1 a_head a_tail a_next a_skip a_last a_whole a_edges a_covers a_weighs a_numbers a_takes a_takenAt) s.heap.size = Az at hD ⊢
  have hA : ∀ q : Nat, s.heap.size ≤ q → Az q := fun q h => by rw [← hAe]; exact Or.inr h
  clear hAe
  have hSz : va_S Az s.heap s.heap [] := va_S.rf
  obtain ⟨wz, hw1⟩ : ∃ z : va_W, z = (wM cI cZ cJ ad x_thrown x_buffered x_given x_isFolding x_work x_rebuilt x_streamed x_reports x_gapFrom x_gapSize x_elements x_wholeSize x_isLaid x_takenMany a_buffer a_length a_bytes a_weight a_live a_size a_list a_moved a_planned a_stream a_reportedEnd a_reportedKeyword y_a_starts y_a_keywordAt a_element a_long1 a_head a_tail a_next a_skip a_last a_whole a_edges y_a_covers y_a_weighs y_a_numbers y_a_takes a_takenAt) := ⟨_, rfl⟩
  rw [← hw1]
  have hl := lv_entry ([.ref (ad 0)]) (n := 5) (Nat.le_of_ble_eq_true rfl)
  rw [show entryFrame m args 5 = entryFrame m ([.ref (ad 0)] : List Value).toArray 5 from by rw [hav], lg_entry_eq]
  generalize (lg_sl ([.ref (ad 0)]) ++ List.replicate (5 - (lg_sl ([.ref (ad 0)])).length) Slot.unset).toArray = ls at hl ⊢
  have hl : lv_has ls 5 [(0, .ref (ad 0))] := hl
  unfold s_X8_laysCover at hs
  have Lz96 : ∀ (fu : Nat) (a_starts : (Int → Int)) (a_keywordAt : (Int → Int)) (a_covers : (Int → Int)) (a_weighs : (Int → Int)) (a_numbers : (Int → Int)) (a_takes : (Int → Int)) (l1 : Int) (l2 : Int) (y0 : (Int → Int)) (y1 : (Int → Int)) (y2 : (Int → Int)) (y3 : (Int → Int)), s_X8_laysCover_96 fu x_given a_length a_weight a_live a_starts a_keywordAt a_covers a_weighs a_numbers a_takes l1 l2 = some (y0, y1, y2, y3) → ∀ (Hz : Heap) (lz : List Loc), va_P D vwCl (wM cI cZ cJ ad x_thrown x_buffered x_given x_isFolding x_work x_rebuilt x_streamed x_reports x_gapFrom x_gapSize x_elements x_wholeSize x_isLaid x_takenMany a_buffer a_length a_bytes a_weight a_live a_size a_list a_moved a_planned a_stream a_reportedEnd a_reportedKeyword a_starts a_keywordAt a_element a_long1 a_head a_tail a_next a_skip a_last a_whole a_edges a_covers a_weighs a_numbers a_takes a_takenAt) Hz → va_D Az (wM cI cZ cJ ad x_thrown x_buffered x_given x_isFolding x_work x_rebuilt x_streamed x_reports x_gapFrom x_gapSize x_elements x_wholeSize x_isLaid x_takenMany a_buffer a_length a_bytes a_weight a_live a_size a_list a_moved a_planned a_stream a_reportedEnd a_reportedKeyword a_starts a_keywordAt a_element a_long1 a_head a_tail a_next a_skip a_last a_whole a_edges a_covers a_weighs a_numbers a_takes a_takenAt) → va_S Az s.heap Hz lz → ∀ ls : Array Slot, lv_has ls 5 [(0, .ref (ad 0)), (1, .int (iI l1)), (2, .int (iI l2))] → (∀ (Hz : Heap) (lz : List Loc), va_P D vwCl (wM cI cZ cJ ad x_thrown x_buffered x_given x_isFolding x_work x_rebuilt x_streamed x_reports x_gapFrom x_gapSize x_elements x_wholeSize x_isLaid x_takenMany a_buffer a_length a_bytes a_weight a_live a_size a_list a_moved a_planned a_stream a_reportedEnd a_reportedKeyword a_starts a_keywordAt a_element a_long1 a_head a_tail a_next a_skip a_last a_whole a_edges y0 y1 y2 y3 a_takenAt) Hz → va_D Az (wM cI cZ cJ ad x_thrown x_buffered x_given x_isFolding x_work x_rebuilt x_streamed x_reports x_gapFrom x_gapSize x_elements x_wholeSize x_isLaid x_takenMany a_buffer a_length a_bytes a_weight a_live a_size a_list a_moved a_planned a_stream a_reportedEnd a_reportedKeyword a_starts a_keywordAt a_element a_long1 a_head a_tail a_next a_skip a_last a_whole a_edges y0 y1 y2 y3 a_takenAt) → va_S Az s.heap Hz lz → ∀ ls : Array Slot, lv_has ls 5 [(0, .ref (ad 0)), (1, .int (iI l1))] → W p l e (headSpec wsX8_laysCover rm_X8_laysCover).room s m args below meth c Hz lz 0 0 (MQ below (QW D vwCl none wz Az) args s 0 0 Az) (F0 m 256 ls [])) → W p l e (headSpec wsX8_laysCover rm_X8_laysCover).room s m args below meth c Hz lz 0 0 (MQ below (QW D vwCl none wz Az) args s 0 0 Az) (F0 m 96 ls []) := by
    intro fu
    induction fu with
    | zero => intro a_starts a_keywordAt a_covers a_weighs a_numbers a_takes l1 l2 y0 y1 y2 y3 hs; cases hs
    | succ fu ih =>
      intro a_starts a_keywordAt a_covers a_weighs a_numbers a_takes l1 l2 y0 y1 y2 y3 hs Hz lz hP hD hSz ls hl kx
      rw [s_X8_laysCover_96_s] at hs
      refine lv_iload_n hx hb dX8_laysCover_96 rfl (lv_at hl 2 rfl) ?_
      refine lv_aload_n hx hb dX8_laysCover_97 rfl (lv_at hl 0 rfl) ?_
      refine va_get (ci := 8) (v := .int (iI x_given)) (C := RX8) (T := TX8) (N := 42) hx hb hts hiX8 hown hK hP 0 rfl rfl 7 (by decide) hf102 (fun _ h9 => h9) rfl dX8_laysCover_98 ?_
      refine k_icmp_ge (tgt := 256) hx hb hs dX8_laysCover_101 (by decide) (fun hs => ?_) (fun hs => ?_)
      · refine lv_aload_n hx hb dX8_laysCover_104 rfl (lv_at hl 0 rfl) ?_
        refine va_get (ci := 8) (v := .ref (ad 5)) (C := RX8) (T := TX8) (N := 42) hx hb hts hiX8 hown hK hP 0 rfl rfl 6 (by decide) hf26 (fun _ h9 => h9) rfl dX8_laysCover_105 ?_
        refine lv_iload_n hx hb dX8_laysCover_108 rfl (lv_at hl 2 rfl) ?_
        refine k_zald hx hb hK hP 5 1 rfl rfl (Nat.le_of_ble_eq_true rfl) hs dX8_laysCover_109 (fun vz6 hs => ?_)
        refine k_if_eq (tgt := 250) hx hb hs dX8_laysCover_110 (by decide) (fun hs => ?_) (fun hs => ?_)
        · refine k_iinc (x := l2) (k := 2) (lv' := [(2, .int (iI (l2 + 1))), (0, .ref (ad 0)), (1, .int (iI l1))]) hx hb dX8_laysCover_250 hl rfl (by decide) rfl (fun ls hl => ?_)
          refine lv_goto (tgt := 96) hx hb dX8_laysCover_253 (by decide) ?_
          exact ih a_starts a_keywordAt a_covers a_weighs a_numbers a_takes l1 (l2 + 1) y0 y1 y2 y3 hs Hz lz hP hD hSz ls (lv_sub hl [1, 2, 0] rfl) kx
        · refine lv_aload_n hx hb dX8_laysCover_113 rfl (lv_at hl 0 rfl) ?_
          refine lv_iload_n hx hb dX8_laysCover_114 rfl (lv_at hl 1 rfl) ?_
          refine lv_aload_n hx hb dX8_laysCover_115 rfl (lv_at hl 0 rfl) ?_
          refine va_get (ci := 8) (v := .ref (ad 2)) (C := RX8) (T := TX8) (N := 42) hx hb hts hiX8 hown hK hP 0 rfl rfl 3 (by decide) hf17 (fun _ h9 => h9) rfl dX8_laysCover_116 ?_
          refine lv_iload_n hx hb dX8_laysCover_119 rfl (lv_at hl 2 rfl) ?_
          refine k_iald hx hb hK hP 2 0 rfl rfl (Nat.le_of_ble_eq_true rfl) hs dX8_laysCover_120 (fun vz7 hs => ?_)
          obtain ⟨vz8, hcz, hs⟩ := bd1_some hs
          refine k_rV (As := [.int (iI l1), .int (iI vz7)]) (rest := []) (st1 := [.int (iI vz8)]) ⟨hx, hb, hml, hown, hts⟩ hK hP (c_X8_hasAt l D cI cZ cJ hcz) (cwV 2 hts gX8_laysCover_X8_hasAt rfl rfl rfl (by decide +kernel) ⟨Nat.le_of_ble_eq_true rfl, Nat.le_of_ble_eq_true rfl⟩) 0 rfl rfl rfl rfl hl.1 rfl (lv_room (Nat.le_of_ble_eq_true rfl)) dX8_laysCover_121 ⟨Nat.zero_le _, Nat.zero_le _⟩ rfl ?_
          refine k_if_eq (tgt := 250) hx hb hs dX8_laysCover_124 (by decide) (fun hs => ?_) (fun hs => ?_)
          · refine k_iinc (x := l2) (k := 2) (lv' := [(2, .int (iI (l2 + 1))), (0, .ref (ad 0)), (1, .int (iI l1))]) hx hb dX8_laysCover_250 hl rfl (by decide) rfl (fun ls hl => ?_)
            refine lv_goto (tgt := 96) hx hb dX8_laysCover_253 (by decide) ?_
            exact ih a_starts a_keywordAt a_covers a_weighs a_numbers a_takes l1 (l2 + 1) y0 y1 y2 y3 hs Hz lz hP hD hSz ls (lv_sub hl [1, 2, 0] rfl) kx
          · refine lv_aload_n hx hb dX8_laysCover_127 rfl (lv_at hl 0 rfl) ?_
            refine va_get (ci := 8) (v := .ref (ad 14)) (C := RX8) (T := TX8) (N := 42) hx hb hts hiX8 hown hK hP 0 rfl rfl 21 (by decide) hf54 (fun _ h9 => h9) rfl dX8_laysCover_128 ?_
            refine k_bipush (n := 17) hx hb (by decide) dX8_laysCover_131 ?_
            refine lv_iload_n hx hb dX8_laysCover_133 rfl (lv_at hl 1 rfl) ?_
            refine k_imul hx hb dX8_laysCover_134 ?_
            refine lv_aload_n hx hb dX8_laysCover_135 rfl (lv_at hl 0 rfl) ?_
            refine va_get (ci := 8) (v := .ref (ad 2)) (C := RX8) (T := TX8) (N := 42) hx hb hts hiX8 hown hK hP 0 rfl rfl 3 (by decide) hf17 (fun _ h9 => h9) rfl dX8_laysCover_136 ?_
            refine lv_iload_n hx hb dX8_laysCover_139 rfl (lv_at hl 2 rfl) ?_
            refine k_iald hx hb hK hP 2 0 rfl rfl (Nat.le_of_ble_eq_true rfl) hs dX8_laysCover_140 (fun vz9 hs => ?_)
            refine k_iadd hx hb dX8_laysCover_141 ?_
            refine k_iald hx hb hK hP 14 0 rfl rfl (Nat.le_of_ble_eq_true rfl) hs dX8_laysCover_142 (fun vz10 hs => ?_)
            refine lv_iload_n hx hb dX8_laysCover_143 rfl (lv_at hl 2 rfl) ?_
            refine k_icmp_eq (tgt := 150) hx hb hs dX8_laysCover_144 (by decide) (fun hs => ?_) (fun hs => ?_)
            · refine lv_aload_n hx hb dX8_laysCover_150 rfl (lv_at hl 0 rfl) ?_
              refine lv_iload_n hx hb dX8_laysCover_151 rfl (lv_at hl 1 rfl) ?_
              refine lv_iload_n hx hb dX8_laysCover_152 rfl (lv_at hl 2 rfl) ?_
              obtain ⟨vz11, hcz, hs⟩ := bd1_some hs
              refine k_rV (As := [.int (iI l1), .int (iI l2)]) (rest := []) (st1 := [.int (iI vz11)]) ⟨hx, hb, hml, hown, hts⟩ hK hP (c_X8_better l D cI cZ cJ hcz) (cwV 2 hts gX8_laysCover_X8_better rfl rfl rfl (by decide +kernel) ⟨Nat.le_of_ble_eq_true rfl, Nat.le_of_ble_eq_true rfl⟩) 0 rfl rfl rfl rfl hl.1 rfl (lv_room (Nat.le_of_ble_eq_true rfl)) dX8_laysCover_153 ⟨Nat.zero_le _, Nat.zero_le _⟩ rfl ?_
              refine lv_istore_n (lv' := [(3, .int (iI vz11)), (0, .ref (ad 0)), (1, .int (iI l1)), (2, .int (iI l2))]) hx hb dX8_laysCover_156 rfl hl (by decide) rfl (fun ls hl => ?_)
              refine lv_iload_n hx hb dX8_laysCover_157 rfl (lv_at hl 0 rfl) ?_
              refine k_if_lt (tgt := 250) hx hb hs dX8_laysCover_158 (by decide) (fun hs => ?_) (fun hs => ?_)
              · refine k_iinc (x := l2) (k := 3) (lv' := [(2, .int (iI (l2 + 1))), (3, .int (iI vz11)), (0, .ref (ad 0)), (1, .int (iI l1))]) hx hb dX8_laysCover_250 hl rfl (by decide) rfl (fun ls hl => ?_)
                refine lv_goto (tgt := 96) hx hb dX8_laysCover_253 (by decide) ?_
                exact ih a_starts a_keywordAt a_covers a_weighs a_numbers a_takes l1 (l2 + 1) y0 y1 y2 y3 hs Hz lz hP hD hSz ls (lv_sub hl [2, 3, 0] rfl) kx
              · refine lv_iload_n hx hb dX8_laysCover_161 rfl (lv_at hl 0 rfl) ?_
                refine k_if_ne (tgt := 178) hx hb hs dX8_laysCover_162 (by decide) (fun hs => ?_) (fun hs => ?_)
                · refine lv_aload_n hx hb dX8_laysCover_165 rfl (lv_at hl 1 rfl) ?_
                  refine va_get (ci := 8) (v := .ref (ad 27)) (C := RX8) (T := TX8) (N := 42) hx hb hts hiX8 hown hK hP 0 rfl rfl 39 (by decide) hf93 (fun _ h9 => h9) rfl dX8_laysCover_166 ?_
                  refine lv_iload_n hx hb dX8_laysCover_169 rfl (lv_at hl 2 rfl) ?_
                  refine k_iald hx hb hK hP 27 0 rfl rfl (Nat.le_of_ble_eq_true rfl) hs dX8_laysCover_170 (fun vz12 hs => ?_)
                  refine k_iconst (n := (-1)) hx hb dX8_laysCover_171 ?_
                  refine k_icmp_eq (tgt := 178) hx hb hs dX8_laysCover_172 (by decide) (fun hs => ?_) (fun hs => ?_)
                  · refine lv_aload_n hx hb dX8_laysCover_178 rfl (lv_at hl 1 rfl) ?_
                    refine va_get (ci := 8) (v := .ref (ad 27)) (C := RX8) (T := TX8) (N := 42) hx hb hts hiX8 hown hK hP 0 rfl rfl 39 (by decide) hf93 (fun _ h9 => h9) rfl dX8_laysCover_179 ?_
                    refine lv_iload_n hx hb dX8_laysCover_182 rfl (lv_at hl 2 rfl) ?_
                    refine lv_iload_n hx hb dX8_laysCover_183 rfl (lv_at hl 3 rfl) ?_
                    refine k_iast hx hb hK hP hD hSz 27 0 rfl rfl (Nat.le_of_ble_eq_true rfl) hs dX8_laysCover_184 (fun Hz lz hP hD hSz hs => ?_)
                    have hP : va_P D vwCl (wM cI cZ cJ ad x_thrown x_buffered x_given x_isFolding x_work x_rebuilt x_streamed x_reports x_gapFrom x_gapSize x_elements x_wholeSize x_isLaid x_takenMany a_buffer a_length a_bytes a_weight a_live a_size a_list a_moved a_planned a_stream a_reportedEnd a_reportedKeyword a_starts a_keywordAt a_element a_long1 a_head a_tail a_next a_skip a_last a_whole a_edges a_covers a_weighs a_numbers (upA a_takes l1 l2) a_takenAt) Hz := hP
                    have hD : va_D Az (wM cI cZ cJ ad x_thrown x_buffered x_given x_isFolding x_work x_rebuilt x_streamed x_reports x_gapFrom x_gapSize x_elements x_wholeSize x_isLaid x_takenMany a_buffer a_length a_bytes a_weight a_live a_size a_list a_moved a_planned a_stream a_reportedEnd a_reportedKeyword a_starts a_keywordAt a_element a_long1 a_head a_tail a_next a_skip a_last a_whole a_edges a_covers a_weighs a_numbers (upA a_takes l1 l2) a_takenAt) := hD
                    refine lv_iload_n hx hb dX8_laysCover_185 rfl (lv_at hl 2 rfl) ?_
                    refine lv_aload_n hx hb dX8_laysCover_186 rfl (lv_at hl 1 rfl) ?_
                    refine va_get (ci := 8) (v := .ref (ad 2)) (C := RX8) (T := TX8) (N := 42) hx hb hts hiX8 hown hK hP 0 rfl rfl 3 (by decide) hf17 (fun _ h9 => h9) rfl dX8_laysCover_187 ?_
                    refine lv_iload_n hx hb dX8_laysCover_190 rfl (lv_at hl 3 rfl) ?_
                    refine k_iald hx hb hK hP 2 0 rfl rfl (Nat.le_of_ble_eq_true rfl) hs dX8_laysCover_191 (fun vz13 hs => ?_)
                    refine k_iadd hx hb dX8_laysCover_192 ?_
                    refine lv_istore (lv' := [(4, .int (iI (l1 + vz13))), (3, .int (iI vz11)), (0, .ref (ad 0)), (1, .int (iI l1)), (2, .int (iI l2))]) hx hb dX8_laysCover_193 hl (by decide) rfl (fun ls hl => ?_)
                    refine lv_aload_n hx hb dX8_laysCover_195 rfl (lv_at hl 2 rfl) ?_
                    refine va_get (ci := 8) (v := .ref (ad 24)) (C := RX8) (T := TX8) (N := 42) hx hb hts hiX8 hown hK hP 0 rfl rfl 36 (by decide) hf84 (fun _ h9 => h9) rfl dX8_laysCover_196 ?_
                    refine lv_iload_n hx hb dX8_laysCover_199 rfl (lv_at hl 3 rfl) ?_
                    refine lv_aload_n hx hb dX8_laysCover_200 rfl (lv_at hl 2 rfl) ?_
                    refine va_get (ci := 8) (v := .ref (ad 24)) (C := RX8) (T := TX8) (N := 42) hx hb hts hiX8 hown hK hP 0 rfl rfl 36 (by decide) hf84 (fun _ h9 => h9) rfl dX8_laysCover_201 ?_
                    refine lv_iload hx hb dX8_laysCover_204 (lv_at hl 0 rfl) ?_
                    refine k_iald hx hb hK hP 24 0 rfl rfl (Nat.le_of_ble_eq_true rfl) hs dX8_laysCover_206 (fun vz14 hs => ?_)
                    refine lv_aload_n hx hb dX8_laysCover_207 rfl (lv_at hl 2 rfl) ?_
                    refine va_get (ci := 8) (v := .ref (ad 2)) (C := RX8) (T := TX8) (N := 42) hx hb hts hiX8 hown hK hP 0 rfl rfl 3 (by decide) hf17 (fun _ h9 => h9) rfl dX8_laysCover_208 ?_
                    refine lv_iload_n hx hb dX8_laysCover_211 rfl (lv_at hl 4 rfl) ?_
                    refine k_iald hx hb hK hP 2 0 rfl rfl (Nat.le_of_ble_eq_true rfl) hs dX8_laysCover_212 (fun vz15 hs => ?_)
                    refine k_iadd hx hb dX8_laysCover_213 ?_
                    refine k_iast hx hb hK hP hD hSz 24 0 rfl rfl (Nat.le_of_ble_eq_true rfl) hs dX8_laysCover_214 (fun Hz lz hP hD hSz hs => ?_)
                    have hP : va_P D vwCl (wM cI cZ cJ ad x_thrown x_buffered x_given x_isFolding x_work x_rebuilt x_streamed x_reports x_gapFrom x_gapSize x_elements x_wholeSize x_isLaid x_takenMany a_buffer a_length a_bytes a_weight a_live a_size a_list a_moved a_planned a_stream a_reportedEnd a_reportedKeyword a_starts a_keywordAt a_element a_long1 a_head a_tail a_next a_skip a_last a_whole a_edges (upA a_covers l1 (vz14 + vz15)) a_weighs a_numbers (upA a_takes l1 l2) a_takenAt) Hz := hP
                    have hD : va_D Az (wM cI cZ cJ ad x_thrown x_buffered x_given x_isFolding x_work x_rebuilt x_streamed x_reports x_gapFrom x_gapSize x_elements x_wholeSize x_isLaid x_takenMany a_buffer a_length a_bytes a_weight a_live a_size a_list a_moved a_planned a_stream a_reportedEnd a_reportedKeyword a_starts a_keywordAt a_element a_long1 a_head a_tail a_next a_skip a_last a_whole a_edges (upA a_covers l1 (vz14 + vz15)) a_weighs a_numbers (upA a_takes l1 l2) a_takenAt) := hD
                    refine lv_aload_n hx hb dX8_laysCover_215 rfl (lv_at hl 2 rfl) ?_
                    refine va_get (ci := 8) (v := .ref (ad 25)) (C := RX8) (T := TX8) (N := 42) hx hb hts hiX8 hown hK hP 0 rfl rfl 37 (by decide) hf87 (fun _ h9 => h9) rfl dX8_laysCover_216 ?_
                    refine lv_iload_n hx hb dX8_laysCover_219 rfl (lv_at hl 3 rfl) ?_
                    refine lv_aload_n hx hb dX8_laysCover_220 rfl (lv_at hl 2 rfl) ?_
                    refine va_get (ci := 8) (v := .ref (ad 25)) (C := RX8) (T := TX8) (N := 42) hx hb hts hiX8 hown hK hP 0 rfl rfl 37 (by decide) hf87 (fun _ h9 => h9) rfl dX8_laysCover_221 ?_
                    refine lv_iload hx hb dX8_laysCover_224 (lv_at hl 0 rfl) ?_
                    refine k_iald hx hb hK hP 25 0 rfl rfl (Nat.le_of_ble_eq_true rfl) hs dX8_laysCover_226 (fun vz16 hs => ?_)
                    refine lv_aload_n hx hb dX8_laysCover_227 rfl (lv_at hl 2 rfl) ?_
                    refine va_get (ci := 8) (v := .ref (ad 4)) (C := RX8) (T := TX8) (N := 42) hx hb hts hiX8 hown hK hP 0 rfl rfl 5 (by decide) hf23 (fun _ h9 => h9) rfl dX8_laysCover_228 ?_
                    refine lv_iload_n hx hb dX8_laysCover_231 rfl (lv_at hl 4 rfl) ?_
                    refine k_iald hx hb hK hP 4 0 rfl rfl (Nat.le_of_ble_eq_true rfl) hs dX8_laysCover_232 (fun vz17 hs => ?_)
                    refine k_iadd hx hb dX8_laysCover_233 ?_
                    refine k_iast hx hb hK hP hD hSz 25 0 rfl rfl (Nat.le_of_ble_eq_true rfl) hs dX8_laysCover_234 (fun Hz lz hP hD hSz hs => ?_)
                    have hP : va_P D vwCl (wM cI cZ cJ ad x_thrown x_buffered x_given x_isFolding x_work x_rebuilt x_streamed x_reports x_gapFrom x_gapSize x_elements x_wholeSize x_isLaid x_takenMany a_buffer a_length a_bytes a_weight a_live a_size a_list a_moved a_planned a_stream a_reportedEnd a_reportedKeyword a_starts a_keywordAt a_element a_long1 a_head a_tail a_next a_skip a_last a_whole a_edges (upA a_covers l1 (vz14 + vz15)) (upA a_weighs l1 (vz16 + vz17)) a_numbers (upA a_takes l1 l2) a_takenAt) Hz := hP
                    have hD : va_D Az (wM cI cZ cJ ad x_thrown x_buffered x_given x_isFolding x_work x_rebuilt x_streamed x_reports x_gapFrom x_gapSize x_elements x_wholeSize x_isLaid x_takenMany a_buffer a_length a_bytes a_weight a_live a_size a_list a_moved a_planned a_stream a_reportedEnd a_reportedKeyword a_starts a_keywordAt a_element a_long1 a_head a_tail a_next a_skip a_last a_whole a_edges (upA a_covers l1 (vz14 + vz15)) (upA a_weighs l1 (vz16 + vz17)) a_numbers (upA a_takes l1 l2) a_takenAt) := hD
                    refine lv_aload_n hx hb dX8_laysCover_235 rfl (lv_at hl 2 rfl) ?_
                    refine va_get (ci := 8) (v := .ref (ad 26)) (C := RX8) (T := TX8) (N := 42) hx hb hts hiX8 hown hK hP 0 rfl rfl 38 (by decide) hf90 (fun _ h9 => h9) rfl dX8_laysCover_236 ?_
                    refine lv_iload_n hx hb dX8_laysCover_239 rfl (lv_at hl 3 rfl) ?_
                    refine lv_aload_n hx hb dX8_laysCover_240 rfl (lv_at hl 2 rfl) ?_
                    refine va_get (ci := 8) (v := .ref (ad 26)) (C := RX8) (T := TX8) (N := 42) hx hb hts hiX8 hown hK hP 0 rfl rfl 38 (by decide) hf90 (fun _ h9 => h9) rfl dX8_laysCover_241 ?_
                    refine lv_iload hx hb dX8_laysCover_244 (lv_at hl 0 rfl) ?_
                    refine k_iald hx hb hK hP 26 0 rfl rfl (Nat.le_of_ble_eq_true rfl) hs dX8_laysCover_246 (fun vz18 hs => ?_)
                    refine k_iconst (n := 1) hx hb dX8_laysCover_247 ?_
                    refine k_iadd hx hb dX8_laysCover_248 ?_
                    refine k_iast hx hb hK hP hD hSz 26 0 rfl rfl (Nat.le_of_ble_eq_true rfl) hs dX8_laysCover_249 (fun Hz lz hP hD hSz hs => ?_)
                    have hP : va_P D vwCl (wM cI cZ cJ ad x_thrown x_buffered x_given x_isFolding x_work x_rebuilt x_streamed x_reports x_gapFrom x_gapSize x_elements x_wholeSize x_isLaid x_takenMany a_buffer a_length a_bytes a_weight a_live a_size a_list a_moved a_planned a_stream a_reportedEnd a_reportedKeyword a_starts a_keywordAt a_element a_long1 a_head a_tail a_next a_skip a_last a_whole a_edges (upA a_covers l1 (vz14 + vz15)) (upA a_weighs l1 (vz16 + vz17)) (upA a_numbers l1 (vz18 + 1)) (upA a_takes l1 l2) a_takenAt) Hz := hP
                    have hD : va_D Az (wM cI cZ cJ ad x_thrown x_buffered x_given x_isFolding x_work x_rebuilt x_streamed x_reports x_gapFrom x_gapSize x_elements x_wholeSize x_isLaid x_takenMany a_buffer a_length a_bytes a_weight a_live a_size a_list a_moved a_planned a_stream a_reportedEnd a_reportedKeyword a_starts a_keywordAt a_element a_long1 a_head a_tail a_next a_skip a_last a_whole a_edges (upA a_covers l1 (vz14 + vz15)) (upA a_weighs l1 (vz16 + vz17)) (upA a_numbers l1 (vz18 + 1)) (upA a_takes l1 l2) a_takenAt) := hD
                    refine k_iinc (x := l2) (k := 4) (lv' := [(2, .int (iI (l2 + 1))), (4, .int (iI (l1 + vz13))), (3, .int (iI vz11)), (0, .ref (ad 0)), (1, .int (iI l1))]) hx hb dX8_laysCover_250 hl rfl (by decide) rfl (fun ls hl => ?_)
                    refine lv_goto (tgt := 96) hx hb dX8_laysCover_253 (by decide) ?_
                    exact ih a_starts a_keywordAt (upA a_covers l1 (vz14 + vz15)) (upA a_weighs l1 (vz16 + vz17)) (upA a_numbers l1 (vz18 + 1)) (upA a_takes l1 l2) l1 (l2 + 1) y0 y1 y2 y3 hs Hz lz hP hD hSz ls (lv_sub hl [3, 4, 0] rfl) kx
                  · refine lv_goto (tgt := 250) hx hb dX8_laysCover_175 (by decide) ?_
                    refine k_iinc (x := l2) (k := 3) (lv' := [(2, .int (iI (l2 + 1))), (3, .int (iI vz11)), (0, .ref (ad 0)), (1, .int (iI l1))]) hx hb dX8_laysCover_250 hl rfl (by decide) rfl (fun ls hl => ?_)
                    refine lv_goto (tgt := 96) hx hb dX8_laysCover_253 (by decide) ?_
                    exact ih a_starts a_keywordAt a_covers a_weighs a_numbers a_takes l1 (l2 + 1) y0 y1 y2 y3 hs Hz lz hP hD hSz ls (lv_sub hl [2, 3, 0] rfl) kx
                · refine lv_aload_n hx hb dX8_laysCover_178 rfl (lv_at hl 1 rfl) ?_
                  refine va_get (ci := 8) (v := .ref (ad 27)) (C := RX8) (T := TX8) (N := 42) hx hb hts hiX8 hown hK hP 0 rfl rfl 39 (by decide) hf93 (fun _ h9 => h9) rfl dX8_laysCover_179 ?_
                  refine lv_iload_n hx hb dX8_laysCover_182 rfl (lv_at hl 2 rfl) ?_
                  refine lv_iload_n hx hb dX8_laysCover_183 rfl (lv_at hl 3 rfl) ?_
                  refine k_iast hx hb hK hP hD hSz 27 0 rfl rfl (Nat.le_of_ble_eq_true rfl) hs dX8_laysCover_184 (fun Hz lz hP hD hSz hs => ?_)
                  have hP : va_P D vwCl (wM cI cZ cJ ad x_thrown x_buffered x_given x_isFolding x_work x_rebuilt x_streamed x_reports x_gapFrom x_gapSize x_elements x_wholeSize x_isLaid x_takenMany a_buffer a_length a_bytes a_weight a_live a_size a_list a_moved a_planned a_stream a_reportedEnd a_reportedKeyword a_starts a_keywordAt a_element a_long1 a_head a_tail a_next a_skip a_last a_whole a_edges a_covers a_weighs a_numbers (upA a_takes l1 l2) a_takenAt) Hz := hP
                  have hD : va_D Az (wM cI cZ cJ ad x_thrown x_buffered x_given x_isFolding x_work x_rebuilt x_streamed x_reports x_gapFrom x_gapSize x_elements x_wholeSize x_isLaid x_takenMany a_buffer a_length a_bytes a_weight a_live a_size a_list a_moved a_planned a_stream a_reportedEnd a_reportedKeyword a_starts a_keywordAt a_element a_long1 a_head a_tail a_next a_skip a_last a_whole a_edges a_covers a_weighs a_numbers (upA a_takes l1 l2) a_takenAt) := hD
                  refine lv_iload_n hx hb dX8_laysCover_185 rfl (lv_at hl 2 rfl) ?_
                  refine lv_aload_n hx hb dX8_laysCover_186 rfl (lv_at hl 1 rfl) ?_
                  refine va_get (ci := 8) (v := .ref (ad 2)) (C := RX8) (T := TX8) (N := 42) hx hb hts hiX8 hown hK hP 0 rfl rfl 3 (by decide) hf17 (fun _ h9 => h9) rfl dX8_laysCover_187 ?_
                  refine lv_iload_n hx hb dX8_laysCover_190 rfl (lv_at hl 3 rfl) ?_
                  refine k_iald hx hb hK hP 2 0 rfl rfl (Nat.le_of_ble_eq_true rfl) hs dX8_laysCover_191 (fun vz19 hs => ?_)
                  refine k_iadd hx hb dX8_laysCover_192 ?_
                  refine lv_istore (lv' := [(4, .int (iI (l1 + vz19))), (3, .int (iI vz11)), (0, .ref (ad 0)), (1, .int (iI l1)), (2, .int (iI l2))]) hx hb dX8_laysCover_193 hl (by decide) rfl (fun ls hl => ?_)
                  refine lv_aload_n hx hb dX8_laysCover_195 rfl (lv_at hl 2 rfl) ?_
                  refine va_get (ci := 8) (v := .ref (ad 24)) (C := RX8) (T := TX8) (N := 42) hx hb hts hiX8 hown hK hP 0 rfl rfl 36 (by decide) hf84 (fun _ h9 => h9) rfl dX8_laysCover_196 ?_
                  refine lv_iload_n hx hb dX8_laysCover_199 rfl (lv_at hl 3 rfl) ?_
                  refine lv_aload_n hx hb dX8_laysCover_200 rfl (lv_at hl 2 rfl) ?_
                  refine va_get (ci := 8) (v := .ref (ad 24)) (C := RX8) (T := TX8) (N := 42) hx hb hts hiX8 hown hK hP 0 rfl rfl 36 (by decide) hf84 (fun _ h9 => h9) rfl dX8_laysCover_201 ?_
                  refine lv_iload hx hb dX8_laysCover_204 (lv_at hl 0 rfl) ?_
                  refine k_iald hx hb hK hP 24 0 rfl rfl (Nat.le_of_ble_eq_true rfl) hs dX8_laysCover_206 (fun vz20 hs => ?_)
                  refine lv_aload_n hx hb dX8_laysCover_207 rfl (lv_at hl 2 rfl) ?_
                  refine va_get (ci := 8) (v := .ref (ad 2)) (C := RX8) (T := TX8) (N := 42) hx hb hts hiX8 hown hK hP 0 rfl rfl 3 (by decide) hf17 (fun _ h9 => h9) rfl dX8_laysCover_208 ?_
                  refine lv_iload_n hx hb dX8_laysCover_211 rfl (lv_at hl 4 rfl) ?_
                  refine k_iald hx hb hK hP 2 0 rfl rfl (Nat.le_of_ble_eq_true rfl) hs dX8_laysCover_212 (fun vz21 hs => ?_)
                  refine k_iadd hx hb dX8_laysCover_213 ?_
                  refine k_iast hx hb hK hP hD hSz 24 0 rfl rfl (Nat.le_of_ble_eq_true rfl) hs dX8_laysCover_214 (fun Hz lz hP hD hSz hs => ?_)
                  have hP : va_P D vwCl (wM cI cZ cJ ad x_thrown x_buffered x_given x_isFolding x_work x_rebuilt x_streamed x_reports x_gapFrom x_gapSize x_elements x_wholeSize x_isLaid x_takenMany a_buffer a_length a_bytes a_weight a_live a_size a_list a_moved a_planned a_stream a_reportedEnd a_reportedKeyword a_starts a_keywordAt a_element a_long1 a_head a_tail a_next a_skip a_last a_whole a_edges (upA a_covers l1 (vz20 + vz21)) a_weighs a_numbers (upA a_takes l1 l2) a_takenAt) Hz := hP
                  have hD : va_D Az (wM cI cZ cJ ad x_thrown x_buffered x_given x_isFolding x_work x_rebuilt x_streamed x_reports x_gapFrom x_gapSize x_elements x_wholeSize x_isLaid x_takenMany a_buffer a_length a_bytes a_weight a_live a_size a_list a_moved a_planned a_stream a_reportedEnd a_reportedKeyword a_starts a_keywordAt a_element a_long1 a_head a_tail a_next a_skip a_last a_whole a_edges (upA a_covers l1 (vz20 + vz21)) a_weighs a_numbers (upA a_takes l1 l2) a_takenAt) := hD
                  refine lv_aload_n hx hb dX8_laysCover_215 rfl (lv_at hl 2 rfl) ?_
                  refine va_get (ci := 8) (v := .ref (ad 25)) (C := RX8) (T := TX8) (N := 42) hx hb hts hiX8 hown hK hP 0 rfl rfl 37 (by decide) hf87 (fun _ h9 => h9) rfl dX8_laysCover_216 ?_
                  refine lv_iload_n hx hb dX8_laysCover_219 rfl (lv_at hl 3 rfl) ?_
                  refine lv_aload_n hx hb dX8_laysCover_220 rfl (lv_at hl 2 rfl) ?_
                  refine va_get (ci := 8) (v := .ref (ad 25)) (C := RX8) (T := TX8) (N := 42) hx hb hts hiX8 hown hK hP 0 rfl rfl 37 (by decide) hf87 (fun _ h9 => h9) rfl dX8_laysCover_221 ?_
                  refine lv_iload hx hb dX8_laysCover_224 (lv_at hl 0 rfl) ?_
                  refine k_iald hx hb hK hP 25 0 rfl rfl (Nat.le_of_ble_eq_true rfl) hs dX8_laysCover_226 (fun vz22 hs => ?_)
                  refine lv_aload_n hx hb dX8_laysCover_227 rfl (lv_at hl 2 rfl) ?_
                  refine va_get (ci := 8) (v := .ref (ad 4)) (C := RX8) (T := TX8) (N := 42) hx hb hts hiX8 hown hK hP 0 rfl rfl 5 (by decide) hf23 (fun _ h9 => h9) rfl dX8_laysCover_228 ?_
                  refine lv_iload_n hx hb dX8_laysCover_231 rfl (lv_at hl 4 rfl) ?_
                  refine k_iald hx hb hK hP 4 0 rfl rfl (Nat.le_of_ble_eq_true rfl) hs dX8_laysCover_232 (fun vz23 hs => ?_)
                  refine k_iadd hx hb dX8_laysCover_233 ?_
                  refine k_iast hx hb hK hP hD hSz 25 0 rfl rfl (Nat.le_of_ble_eq_true rfl) hs dX8_laysCover_234 (fun Hz lz hP hD hSz hs => ?_)
                  have hP : va_P D vwCl (wM cI cZ cJ ad x_thrown x_buffered x_given x_isFolding x_work x_rebuilt x_streamed x_reports x_gapFrom x_gapSize x_elements x_wholeSize x_isLaid x_takenMany a_buffer a_length a_bytes a_weight a_live a_size a_list a_moved a_planned a_stream a_reportedEnd a_reportedKeyword a_starts a_keywordAt a_element a_long1 a_head a_tail a_next a_skip a_last a_whole a_edges (upA a_covers l1 (vz20 + vz21)) (upA a_weighs l1 (vz22 + vz23)) a_numbers (upA a_takes l1 l2) a_takenAt) Hz := hP
                  have hD : va_D Az (wM cI cZ cJ ad x_thrown x_buffered x_given x_isFolding x_work x_rebuilt x_streamed x_reports x_gapFrom x_gapSize x_elements x_wholeSize x_isLaid x_takenMany a_buffer a_length a_bytes a_weight a_live a_size a_list a_moved a_planned a_stream a_reportedEnd a_reportedKeyword a_starts a_keywordAt a_element a_long1 a_head a_tail a_next a_skip a_last a_whole a_edges (upA a_covers l1 (vz20 + vz21)) (upA a_weighs l1 (vz22 + vz23)) a_numbers (upA a_takes l1 l2) a_takenAt) := hD
                  refine lv_aload_n hx hb dX8_laysCover_235 rfl (lv_at hl 2 rfl) ?_
                  refine va_get (ci := 8) (v := .ref (ad 26)) (C := RX8) (T := TX8) (N := 42) hx hb hts hiX8 hown hK hP 0 rfl rfl 38 (by decide) hf90 (fun _ h9 => h9) rfl dX8_laysCover_236 ?_
                  refine lv_iload_n hx hb dX8_laysCover_239 rfl (lv_at hl 3 rfl) ?_
                  refine lv_aload_n hx hb dX8_laysCover_240 rfl (lv_at hl 2 rfl) ?_
                  refine va_get (ci := 8) (v := .ref (ad 26)) (C := RX8) (T := TX8) (N := 42) hx hb hts hiX8 hown hK hP 0 rfl rfl 38 (by decide) hf90 (fun _ h9 => h9) rfl dX8_laysCover_241 ?_
                  refine lv_iload hx hb dX8_laysCover_244 (lv_at hl 0 rfl) ?_
                  refine k_iald hx hb hK hP 26 0 rfl rfl (Nat.le_of_ble_eq_true rfl) hs dX8_laysCover_246 (fun vz24 hs => ?_)
                  refine k_iconst (n := 1) hx hb dX8_laysCover_247 ?_
                  refine k_iadd hx hb dX8_laysCover_248 ?_
                  refine k_iast hx hb hK hP hD hSz 26 0 rfl rfl (Nat.le_of_ble_eq_true rfl) hs dX8_laysCover_249 (fun Hz lz hP hD hSz hs => ?_)
                  have hP : va_P D vwCl (wM cI cZ cJ ad x_thrown x_buffered x_given x_isFolding x_work x_rebuilt x_streamed x_reports x_gapFrom x_gapSize x_elements x_wholeSize x_isLaid x_takenMany a_buffer a_length a_bytes a_weight a_live a_size a_list a_moved a_planned a_stream a_reportedEnd a_reportedKeyword a_starts a_keywordAt a_element a_long1 a_head a_tail a_next a_skip a_last a_whole a_edges (upA a_covers l1 (vz20 + vz21)) (upA a_weighs l1 (vz22 + vz23)) (upA a_numbers l1 (vz24 + 1)) (upA a_takes l1 l2) a_takenAt) Hz := hP
                  have hD : va_D Az (wM cI cZ cJ ad x_thrown x_buffered x_given x_isFolding x_work x_rebuilt x_streamed x_reports x_gapFrom x_gapSize x_elements x_wholeSize x_isLaid x_takenMany a_buffer a_length a_bytes a_weight a_live a_size a_list a_moved a_planned a_stream a_reportedEnd a_reportedKeyword a_starts a_keywordAt a_element a_long1 a_head a_tail a_next a_skip a_last a_whole a_edges (upA a_covers l1 (vz20 + vz21)) (upA a_weighs l1 (vz22 + vz23)) (upA a_numbers l1 (vz24 + 1)) (upA a_takes l1 l2) a_takenAt) := hD
                  refine k_iinc (x := l2) (k := 4) (lv' := [(2, .int (iI (l2 + 1))), (4, .int (iI (l1 + vz19))), (3, .int (iI vz11)), (0, .ref (ad 0)), (1, .int (iI l1))]) hx hb dX8_laysCover_250 hl rfl (by decide) rfl (fun ls hl => ?_)
                  refine lv_goto (tgt := 96) hx hb dX8_laysCover_253 (by decide) ?_
                  exact ih a_starts a_keywordAt (upA a_covers l1 (vz20 + vz21)) (upA a_weighs l1 (vz22 + vz23)) (upA a_numbers l1 (vz24 + 1)) (upA a_takes l1 l2) l1 (l2 + 1) y0 y1 y2 y3 hs Hz lz hP hD hSz ls (lv_sub hl [3, 4, 0] rfl) kx
            · refine lv_goto (tgt := 250) hx hb dX8_laysCover_147 (by decide) ?_
              refine k_iinc (x := l2) (k := 2) (lv' := [(2, .int (iI (l2 + 1))), (0, .ref (ad 0)), (1, .int (iI l1))]) hx hb dX8_laysCover_250 hl rfl (by decide) rfl (fun ls hl => ?_)
              refine lv_goto (tgt := 96) hx hb dX8_laysCover_253 (by decide) ?_
              exact ih a_starts a_keywordAt a_covers a_weighs a_numbers a_takes l1 (l2 + 1) y0 y1 y2 y3 hs Hz lz hP hD hSz ls (lv_sub hl [1, 2, 0] rfl) kx
      · cases hs
        exact kx Hz lz hP hD hSz ls (lv_sub hl [0, 1] rfl)
  have Lz41 : ∀ (fu : Nat) (a_starts : (Int → Int)) (a_keywordAt : (Int → Int)) (a_covers : (Int → Int)) (a_weighs : (Int → Int)) (a_numbers : (Int → Int)) (a_takes : (Int → Int)) (l1 : Int) (y0 : (Int → Int)) (y1 : (Int → Int)) (y2 : (Int → Int)) (y3 : (Int → Int)), s_X8_laysCover_41 fu x_given a_length a_weight a_live a_starts a_keywordAt a_covers a_weighs a_numbers a_takes l1 = some (y0, y1, y2, y3) → ∀ (Hz : Heap) (lz : List Loc), va_P D vwCl (wM cI cZ cJ ad x_thrown x_buffered x_given x_isFolding x_work x_rebuilt x_streamed x_reports x_gapFrom x_gapSize x_elements x_wholeSize x_isLaid x_takenMany a_buffer a_length a_bytes a_weight a_live a_size a_list a_moved a_planned a_stream a_reportedEnd a_reportedKeyword a_starts a_keywordAt a_element a_long1 a_head a_tail a_next a_skip a_last a_whole a_edges a_covers a_weighs a_numbers a_takes a_takenAt) Hz → va_D Az (wM cI cZ cJ ad x_thrown x_buffered x_given x_isFolding x_work x_rebuilt x_streamed x_reports x_gapFrom x_gapSize x_elements x_wholeSize x_isLaid x_takenMany a_buffer a_length a_bytes a_weight a_live a_size a_list a_moved a_planned a_stream a_reportedEnd a_reportedKeyword a_starts a_keywordAt a_element a_long1 a_head a_tail a_next a_skip a_last a_whole a_edges a_covers a_weighs a_numbers a_takes a_takenAt) → va_S Az s.heap Hz lz → ∀ ls : Array Slot, lv_has ls 5 [(0, .ref (ad 0)), (1, .int (iI l1))] → (∀ (Hz : Heap) (lz : List Loc), va_P D vwCl (wM cI cZ cJ ad x_thrown x_buffered x_given x_isFolding x_work x_rebuilt x_streamed x_reports x_gapFrom x_gapSize x_elements x_wholeSize x_isLaid x_takenMany a_buffer a_length a_bytes a_weight a_live a_size a_list a_moved a_planned a_stream a_reportedEnd a_reportedKeyword a_starts a_keywordAt a_element a_long1 a_head a_tail a_next a_skip a_last a_whole a_edges y0 y1 y2 y3 a_takenAt) Hz → va_D Az (wM cI cZ cJ ad x_thrown x_buffered x_given x_isFolding x_work x_rebuilt x_streamed x_reports x_gapFrom x_gapSize x_elements x_wholeSize x_isLaid x_takenMany a_buffer a_length a_bytes a_weight a_live a_size a_list a_moved a_planned a_stream a_reportedEnd a_reportedKeyword a_starts a_keywordAt a_element a_long1 a_head a_tail a_next a_skip a_last a_whole a_edges y0 y1 y2 y3 a_takenAt) → va_S Az s.heap Hz lz → ∀ ls : Array Slot, lv_has ls 5 [] → W p l e (headSpec wsX8_laysCover rm_X8_laysCover).room s m args below meth c Hz lz 0 0 (MQ below (QW D vwCl none wz Az) args s 0 0 Az) (F0 m 262 ls [])) → W p l e (headSpec wsX8_laysCover rm_X8_laysCover).room s m args below meth c Hz lz 0 0 (MQ below (QW D vwCl none wz Az) args s 0 0 Az) (F0 m 41 ls []) := by
    intro fu
    induction fu with
    | zero => intro a_starts a_keywordAt a_covers a_weighs a_numbers a_takes l1 y0 y1 y2 y3 hs; cases hs
    | succ fu ih =>
      intro a_starts a_keywordAt a_covers a_weighs a_numbers a_takes l1 y0 y1 y2 y3 hs Hz lz hP hD hSz ls hl kx
      rw [s_X8_laysCover_41_s] at hs
      refine lv_iload_n hx hb dX8_laysCover_41 rfl (lv_at hl 1 rfl) ?_
      refine k_if_lt (tgt := 262) hx hb hs dX8_laysCover_42 (by decide) (fun hs => ?_) (fun hs => ?_)
      · cases hs
        exact kx Hz lz hP hD hSz ls (lv_sub hl [] rfl)
      · refine lv_aload_n hx hb dX8_laysCover_45 rfl (lv_at hl 0 rfl) ?_
        refine va_get (ci := 8) (v := .ref (ad 24)) (C := RX8) (T := TX8) (N := 42) hx hb hts hiX8 hown hK hP 0 rfl rfl 36 (by decide) hf84 (fun _ h9 => h9) rfl dX8_laysCover_46 ?_
        refine lv_iload_n hx hb dX8_laysCover_49 rfl (lv_at hl 1 rfl) ?_
        refine lv_aload_n hx hb dX8_laysCover_50 rfl (lv_at hl 0 rfl) ?_
        refine va_get (ci := 8) (v := .ref (ad 24)) (C := RX8) (T := TX8) (N := 42) hx hb hts hiX8 hown hK hP 0 rfl rfl 36 (by decide) hf84 (fun _ h9 => h9) rfl dX8_laysCover_51 ?_
        refine lv_iload_n hx hb dX8_laysCover_54 rfl (lv_at hl 1 rfl) ?_
        refine k_iconst (n := 1) hx hb dX8_laysCover_55 ?_
        refine k_iadd hx hb dX8_laysCover_56 ?_
        refine k_iald hx hb hK hP 24 0 rfl rfl (Nat.le_of_ble_eq_true rfl) hs dX8_laysCover_57 (fun vz3 hs => ?_)
        refine k_iast hx hb hK hP hD hSz 24 0 rfl rfl (Nat.le_of_ble_eq_true rfl) hs dX8_laysCover_58 (fun Hz lz hP hD hSz hs => ?_)
        have hP : va_P D vwCl (wM cI cZ cJ ad x_thrown x_buffered x_given x_isFolding x_work x_rebuilt x_streamed x_reports x_gapFrom x_gapSize x_elements x_wholeSize x_isLaid x_takenMany a_buffer a_length a_bytes a_weight a_live a_size a_list a_moved a_planned a_stream a_reportedEnd a_reportedKeyword a_starts a_keywordAt a_element a_long1 a_head a_tail a_next a_skip a_last a_whole a_edges (upA a_covers l1 vz3) a_weighs a_numbers a_takes a_takenAt) Hz := hP
        have hD : va_D Az (wM cI cZ cJ ad x_thrown x_buffered x_given x_isFolding x_work x_rebuilt x_streamed x_reports x_gapFrom x_gapSize x_elements x_wholeSize x_isLaid x_takenMany a_buffer a_length a_bytes a_weight a_live a_size a_list a_moved a_planned a_stream a_reportedEnd a_reportedKeyword a_starts a_keywordAt a_element a_long1 a_head a_tail a_next a_skip a_last a_whole a_edges (upA a_covers l1 vz3) a_weighs a_numbers a_takes a_takenAt) := hD
        refine lv_aload_n hx hb dX8_laysCover_59 rfl (lv_at hl 0 rfl) ?_
        refine va_get (ci := 8) (v := .ref (ad 25)) (C := RX8) (T := TX8) (N := 42) hx hb hts hiX8 hown hK hP 0 rfl rfl 37 (by decide) hf87 (fun _ h9 => h9) rfl dX8_laysCover_60 ?_
        refine lv_iload_n hx hb dX8_laysCover_63 rfl (lv_at hl 1 rfl) ?_
        refine lv_aload_n hx hb dX8_laysCover_64 rfl (lv_at hl 0 rfl) ?_
        refine va_get (ci := 8) (v := .ref (ad 25)) (C := RX8) (T := TX8) (N := 42) hx hb hts hiX8 hown hK hP 0 rfl rfl 37 (by decide) hf87 (fun _ h9 => h9) rfl dX8_laysCover_65 ?_
        refine lv_iload_n hx hb dX8_laysCover_68 rfl (lv_at hl 1 rfl) ?_
        refine k_iconst (n := 1) hx hb dX8_laysCover_69 ?_
        refine k_iadd hx hb dX8_laysCover_70 ?_
        refine k_iald hx hb hK hP 25 0 rfl rfl (Nat.le_of_ble_eq_true rfl) hs dX8_laysCover_71 (fun vz4 hs => ?_)
        refine k_iast hx hb hK hP hD hSz 25 0 rfl rfl (Nat.le_of_ble_eq_true rfl) hs dX8_laysCover_72 (fun Hz lz hP hD hSz hs => ?_)
        have hP : va_P D vwCl (wM cI cZ cJ ad x_thrown x_buffered x_given x_isFolding x_work x_rebuilt x_streamed x_reports x_gapFrom x_gapSize x_elements x_wholeSize x_isLaid x_takenMany a_buffer a_length a_bytes a_weight a_live a_size a_list a_moved a_planned a_stream a_reportedEnd a_reportedKeyword a_starts a_keywordAt a_element a_long1 a_head a_tail a_next a_skip a_last a_whole a_edges (upA a_covers l1 vz3) (upA a_weighs l1 vz4) a_numbers a_takes a_takenAt) Hz := hP
        have hD : va_D Az (wM cI cZ cJ ad x_thrown x_buffered x_given x_isFolding x_work x_rebuilt x_streamed x_reports x_gapFrom x_gapSize x_elements x_wholeSize x_isLaid x_takenMany a_buffer a_length a_bytes a_weight a_live a_size a_list a_moved a_planned a_stream a_reportedEnd a_reportedKeyword a_starts a_keywordAt a_element a_long1 a_head a_tail a_next a_skip a_last a_whole a_edges (upA a_covers l1 vz3) (upA a_weighs l1 vz4) a_numbers a_takes a_takenAt) := hD
        refine lv_aload_n hx hb dX8_laysCover_73 rfl (lv_at hl 0 rfl) ?_
        refine va_get (ci := 8) (v := .ref (ad 26)) (C := RX8) (T := TX8) (N := 42) hx hb hts hiX8 hown hK hP 0 rfl rfl 38 (by decide) hf90 (fun _ h9 => h9) rfl dX8_laysCover_74 ?_
        refine lv_iload_n hx hb dX8_laysCover_77 rfl (lv_at hl 1 rfl) ?_
        refine lv_aload_n hx hb dX8_laysCover_78 rfl (lv_at hl 0 rfl) ?_
        refine va_get (ci := 8) (v := .ref (ad 26)) (C := RX8) (T := TX8) (N := 42) hx hb hts hiX8 hown hK hP 0 rfl rfl 38 (by decide) hf90 (fun _ h9 => h9) rfl dX8_laysCover_79 ?_
        refine lv_iload_n hx hb dX8_laysCover_82 rfl (lv_at hl 1 rfl) ?_
        refine k_iconst (n := 1) hx hb dX8_laysCover_83 ?_
        refine k_iadd hx hb dX8_laysCover_84 ?_
        refine k_iald hx hb hK hP 26 0 rfl rfl (Nat.le_of_ble_eq_true rfl) hs dX8_laysCover_85 (fun vz5 hs => ?_)
        refine k_iast hx hb hK hP hD hSz 26 0 rfl rfl (Nat.le_of_ble_eq_true rfl) hs dX8_laysCover_86 (fun Hz lz hP hD hSz hs => ?_)
        have hP : va_P D vwCl (wM cI cZ cJ ad x_thrown x_buffered x_given x_isFolding x_work x_rebuilt x_streamed x_reports x_gapFrom x_gapSize x_elements x_wholeSize x_isLaid x_takenMany a_buffer a_length a_bytes a_weight a_live a_size a_list a_moved a_planned a_stream a_reportedEnd a_reportedKeyword a_starts a_keywordAt a_element a_long1 a_head a_tail a_next a_skip a_last a_whole a_edges (upA a_covers l1 vz3) (upA a_weighs l1 vz4) (upA a_numbers l1 vz5) a_takes a_takenAt) Hz := hP
        have hD : va_D Az (wM cI cZ cJ ad x_thrown x_buffered x_given x_isFolding x_work x_rebuilt x_streamed x_reports x_gapFrom x_gapSize x_elements x_wholeSize x_isLaid x_takenMany a_buffer a_length a_bytes a_weight a_live a_size a_list a_moved a_planned a_stream a_reportedEnd a_reportedKeyword a_starts a_keywordAt a_element a_long1 a_head a_tail a_next a_skip a_last a_whole a_edges (upA a_covers l1 vz3) (upA a_weighs l1 vz4) (upA a_numbers l1 vz5) a_takes a_takenAt) := hD
        refine lv_aload_n hx hb dX8_laysCover_87 rfl (lv_at hl 0 rfl) ?_
        refine va_get (ci := 8) (v := .ref (ad 27)) (C := RX8) (T := TX8) (N := 42) hx hb hts hiX8 hown hK hP 0 rfl rfl 39 (by decide) hf93 (fun _ h9 => h9) rfl dX8_laysCover_88 ?_
        refine lv_iload_n hx hb dX8_laysCover_91 rfl (lv_at hl 1 rfl) ?_
        refine k_iconst (n := (-1)) hx hb dX8_laysCover_92 ?_
        refine k_iast hx hb hK hP hD hSz 27 0 rfl rfl (Nat.le_of_ble_eq_true rfl) hs dX8_laysCover_93 (fun Hz lz hP hD hSz hs => ?_)
        have hP : va_P D vwCl (wM cI cZ cJ ad x_thrown x_buffered x_given x_isFolding x_work x_rebuilt x_streamed x_reports x_gapFrom x_gapSize x_elements x_wholeSize x_isLaid x_takenMany a_buffer a_length a_bytes a_weight a_live a_size a_list a_moved a_planned a_stream a_reportedEnd a_reportedKeyword a_starts a_keywordAt a_element a_long1 a_head a_tail a_next a_skip a_last a_whole a_edges (upA a_covers l1 vz3) (upA a_weighs l1 vz4) (upA a_numbers l1 vz5) (upA a_takes l1 (-1)) a_takenAt) Hz := hP
        have hD : va_D Az (wM cI cZ cJ ad x_thrown x_buffered x_given x_isFolding x_work x_rebuilt x_streamed x_reports x_gapFrom x_gapSize x_elements x_wholeSize x_isLaid x_takenMany a_buffer a_length a_bytes a_weight a_live a_size a_list a_moved a_planned a_stream a_reportedEnd a_reportedKeyword a_starts a_keywordAt a_element a_long1 a_head a_tail a_next a_skip a_last a_whole a_edges (upA a_covers l1 vz3) (upA a_weighs l1 vz4) (upA a_numbers l1 vz5) (upA a_takes l1 (-1)) a_takenAt) := hD
        refine k_iconst (n := 0) hx hb dX8_laysCover_94 ?_
        refine lv_istore_n (lv' := [(2, .int (iI 0)), (0, .ref (ad 0)), (1, .int (iI l1))]) hx hb dX8_laysCover_95 rfl hl (by decide) rfl (fun ls hl => ?_)
        obtain ⟨ez25, ez26, ez27, ez28, hq, hs⟩ := bd4_some hs
        refine Lz96 FU a_starts a_keywordAt (upA a_covers l1 vz3) (upA a_weighs l1 vz4) (upA a_numbers l1 vz5) (upA a_takes l1 (-1)) l1 0 ez25 ez26 ez27 ez28 hq Hz lz hP hD hSz ls (lv_sub hl [1, 2, 0] rfl) ?_
        intro Hz lz hP hD hSz ls hl
        refine k_iinc (x := l1) (k := 1) (lv' := [(1, .int (iI (l1 + (-1)))), (0, .ref (ad 0))]) hx hb dX8_laysCover_256 hl rfl (by decide) rfl (fun ls hl => ?_)
        refine lv_goto (tgt := 41) hx hb dX8_laysCover_259 (by decide) ?_
        exact ih a_starts a_keywordAt ez25 ez26 ez27 ez28 (l1 + (-1)) y0 y1 y2 y3 hs Hz lz hP hD hSz ls (lv_sub hl [1, 0] rfl) kx
  refine (?_ : ∀ (Hz : Heap) (lz : List Loc), va_P D vwCl (wM cI cZ cJ ad x_thrown x_buffered x_given x_isFolding x_work x_rebuilt x_streamed x_reports x_gapFrom x_gapSize x_elements x_wholeSize x_isLaid x_takenMany a_buffer a_length a_bytes a_weight a_live a_size a_list a_moved a_planned a_stream a_reportedEnd a_reportedKeyword a_starts a_keywordAt a_element a_long1 a_head a_tail a_next a_skip a_last a_whole a_edges a_covers a_weighs a_numbers a_takes a_takenAt) Hz → va_D Az (wM cI cZ cJ ad x_thrown x_buffered x_given x_isFolding x_work x_rebuilt x_streamed x_reports x_gapFrom x_gapSize x_elements x_wholeSize x_isLaid x_takenMany a_buffer a_length a_bytes a_weight a_live a_size a_list a_moved a_planned a_stream a_reportedEnd a_reportedKeyword a_starts a_keywordAt a_element a_long1 a_head a_tail a_next a_skip a_last a_whole a_edges a_covers a_weighs a_numbers a_takes a_takenAt) → va_S Az s.heap Hz lz → W p l e (headSpec wsX8_laysCover rm_X8_laysCover).room s m args below meth c Hz lz 0 0 (MQ below (QW D vwCl none wz Az) args s 0 0 Az) (F0 m 0 ls [])) s.heap [] hP hD hSz
  intro Hz lz hP hD hSz
  refine lv_aload_n hx hb dX8_laysCover_0 rfl (lv_at hl 0 rfl) ?_
  obtain ⟨vz1, vz2, hcz, hs⟩ := bd2_some hs
  refine k_wVs (As := []) (rest := []) (st1 := []) (w1 := (wM cI cZ cJ ad x_thrown x_buffered x_given x_isFolding x_work x_rebuilt x_streamed x_reports x_gapFrom x_gapSize x_elements x_wholeSize x_isLaid x_takenMany a_buffer a_length a_bytes a_weight a_live a_size a_list a_moved a_planned a_stream a_reportedEnd a_reportedKeyword vz1 vz2 a_element a_long1 a_head a_tail a_next a_skip a_last a_whole a_edges a_covers a_weighs a_numbers a_takes a_takenAt)) ⟨hx, hb, hml, hown, hts⟩ hK hP hD hSz hA (c_X8_laysMatches l D cI cZ cJ hcz) (cwV 0 hts gX8_laysCover_X8_laysMatches rfl rfl rfl (by decide +kernel) ⟨Nat.le_of_ble_eq_true rfl, Nat.le_of_ble_eq_true rfl⟩) 0 rfl rfl rfl rfl rfl hl.1 rfl (lv_room (Nat.le_of_ble_eq_true rfl)) dX8_laysCover_1 ⟨Nat.zero_le _, Nat.zero_le _⟩ rfl (fun Hz lz hP hD hSz => ?_)
  have hP : va_P D vwCl (wM cI cZ cJ ad x_thrown x_buffered x_given x_isFolding x_work x_rebuilt x_streamed x_reports x_gapFrom x_gapSize x_elements x_wholeSize x_isLaid x_takenMany a_buffer a_length a_bytes a_weight a_live a_size a_list a_moved a_planned a_stream a_reportedEnd a_reportedKeyword vz1 vz2 a_element a_long1 a_head a_tail a_next a_skip a_last a_whole a_edges a_covers a_weighs a_numbers a_takes a_takenAt) Hz := hP
  have hD : va_D Az (wM cI cZ cJ ad x_thrown x_buffered x_given x_isFolding x_work x_rebuilt x_streamed x_reports x_gapFrom x_gapSize x_elements x_wholeSize x_isLaid x_takenMany a_buffer a_length a_bytes a_weight a_live a_size a_list a_moved a_planned a_stream a_reportedEnd a_reportedKeyword vz1 vz2 a_element a_long1 a_head a_tail a_next a_skip a_last a_whole a_edges a_covers a_weighs a_numbers a_takes a_takenAt) := hD
  refine lv_aload_n hx hb dX8_laysCover_4 rfl (lv_at hl 0 rfl) ?_
  refine va_get (ci := 8) (v := .ref (ad 24)) (C := RX8) (T := TX8) (N := 42) hx hb hts hiX8 hown hK hP 0 rfl rfl 36 (by decide) hf84 (fun _ h9 => h9) rfl dX8_laysCover_5 ?_
  refine lv_aload_n hx hb dX8_laysCover_8 rfl (lv_at hl 0 rfl) ?_
  refine va_get (ci := 8) (v := .int (iI x_streamed)) (C := RX8) (T := TX8) (N := 42) hx hb hts hiX8 hown hK hP 0 rfl rfl 18 (by decide) hf170 (fun _ h9 => h9) rfl dX8_laysCover_9 ?_
  refine k_iconst (n := 0) hx hb dX8_laysCover_12 ?_
  refine k_iast hx hb hK hP hD hSz 24 0 rfl rfl (Nat.le_of_ble_eq_true rfl) hs dX8_laysCover_13 (fun Hz lz hP hD hSz hs => ?_)
  have hP : va_P D vwCl (wM cI cZ cJ ad x_thrown x_buffered x_given x_isFolding x_work x_rebuilt x_streamed x_reports x_gapFrom x_gapSize x_elements x_wholeSize x_isLaid x_takenMany a_buffer a_length a_bytes a_weight a_live a_size a_list a_moved a_planned a_stream a_reportedEnd a_reportedKeyword vz1 vz2 a_element a_long1 a_head a_tail a_next a_skip a_last a_whole a_edges (upA a_covers x_streamed 0) a_weighs a_numbers a_takes a_takenAt) Hz := hP
  have hD : va_D Az (wM cI cZ cJ ad x_thrown x_buffered x_given x_isFolding x_work x_rebuilt x_streamed x_reports x_gapFrom x_gapSize x_elements x_wholeSize x_isLaid x_takenMany a_buffer a_length a_bytes a_weight a_live a_size a_list a_moved a_planned a_stream a_reportedEnd a_reportedKeyword vz1 vz2 a_element a_long1 a_head a_tail a_next a_skip a_last a_whole a_edges (upA a_covers x_streamed 0) a_weighs a_numbers a_takes a_takenAt) := hD
  refine lv_aload_n hx hb dX8_laysCover_14 rfl (lv_at hl 0 rfl) ?_
  refine va_get (ci := 8) (v := .ref (ad 25)) (C := RX8) (T := TX8) (N := 42) hx hb hts hiX8 hown hK hP 0 rfl rfl 37 (by decide) hf87 (fun _ h9 => h9) rfl dX8_laysCover_15 ?_
  refine lv_aload_n hx hb dX8_laysCover_18 rfl (lv_at hl 0 rfl) ?_
  refine va_get (ci := 8) (v := .int (iI x_streamed)) (C := RX8) (T := TX8) (N := 42) hx hb hts hiX8 hown hK hP 0 rfl rfl 18 (by decide) hf170 (fun _ h9 => h9) rfl dX8_laysCover_19 ?_
  refine k_iconst (n := 0) hx hb dX8_laysCover_22 ?_
  refine k_iast hx hb hK hP hD hSz 25 0 rfl rfl (Nat.le_of_ble_eq_true rfl) hs dX8_laysCover_23 (fun Hz lz hP hD hSz hs => ?_)
  have hP : va_P D vwCl (wM cI cZ cJ ad x_thrown x_buffered x_given x_isFolding x_work x_rebuilt x_streamed x_reports x_gapFrom x_gapSize x_elements x_wholeSize x_isLaid x_takenMany a_buffer a_length a_bytes a_weight a_live a_size a_list a_moved a_planned a_stream a_reportedEnd a_reportedKeyword vz1 vz2 a_element a_long1 a_head a_tail a_next a_skip a_last a_whole a_edges (upA a_covers x_streamed 0) (upA a_weighs x_streamed 0) a_numbers a_takes a_takenAt) Hz := hP
  have hD : va_D Az (wM cI cZ cJ ad x_thrown x_buffered x_given x_isFolding x_work x_rebuilt x_streamed x_reports x_gapFrom x_gapSize x_elements x_wholeSize x_isLaid x_takenMany a_buffer a_length a_bytes a_weight a_live a_size a_list a_moved a_planned a_stream a_reportedEnd a_reportedKeyword vz1 vz2 a_element a_long1 a_head a_tail a_next a_skip a_last a_whole a_edges (upA a_covers x_streamed 0) (upA a_weighs x_streamed 0) a_numbers a_takes a_takenAt) := hD
  refine lv_aload_n hx hb dX8_laysCover_24 rfl (lv_at hl 0 rfl) ?_
  refine va_get (ci := 8) (v := .ref (ad 26)) (C := RX8) (T := TX8) (N := 42) hx hb hts hiX8 hown hK hP 0 rfl rfl 38 (by decide) hf90 (fun _ h9 => h9) rfl dX8_laysCover_25 ?_
  refine lv_aload_n hx hb dX8_laysCover_28 rfl (lv_at hl 0 rfl) ?_
  refine va_get (ci := 8) (v := .int (iI x_streamed)) (C := RX8) (T := TX8) (N := 42) hx hb hts hiX8 hown hK hP 0 rfl rfl 18 (by decide) hf170 (fun _ h9 => h9) rfl dX8_laysCover_29 ?_
  refine k_iconst (n := 0) hx hb dX8_laysCover_32 ?_
  refine k_iast hx hb hK hP hD hSz 26 0 rfl rfl (Nat.le_of_ble_eq_true rfl) hs dX8_laysCover_33 (fun Hz lz hP hD hSz hs => ?_)
  have hP : va_P D vwCl (wM cI cZ cJ ad x_thrown x_buffered x_given x_isFolding x_work x_rebuilt x_streamed x_reports x_gapFrom x_gapSize x_elements x_wholeSize x_isLaid x_takenMany a_buffer a_length a_bytes a_weight a_live a_size a_list a_moved a_planned a_stream a_reportedEnd a_reportedKeyword vz1 vz2 a_element a_long1 a_head a_tail a_next a_skip a_last a_whole a_edges (upA a_covers x_streamed 0) (upA a_weighs x_streamed 0) (upA a_numbers x_streamed 0) a_takes a_takenAt) Hz := hP
  have hD : va_D Az (wM cI cZ cJ ad x_thrown x_buffered x_given x_isFolding x_work x_rebuilt x_streamed x_reports x_gapFrom x_gapSize x_elements x_wholeSize x_isLaid x_takenMany a_buffer a_length a_bytes a_weight a_live a_size a_list a_moved a_planned a_stream a_reportedEnd a_reportedKeyword vz1 vz2 a_element a_long1 a_head a_tail a_next a_skip a_last a_whole a_edges (upA a_covers x_streamed 0) (upA a_weighs x_streamed 0) (upA a_numbers x_streamed 0) a_takes a_takenAt) := hD
  refine lv_aload_n hx hb dX8_laysCover_34 rfl (lv_at hl 0 rfl) ?_
  refine va_get (ci := 8) (v := .int (iI x_streamed)) (C := RX8) (T := TX8) (N := 42) hx hb hts hiX8 hown hK hP 0 rfl rfl 18 (by decide) hf170 (fun _ h9 => h9) rfl dX8_laysCover_35 ?_
  refine k_iconst (n := 1) hx hb dX8_laysCover_38 ?_
  refine k_isub hx hb dX8_laysCover_39 ?_
  refine lv_istore_n (lv' := [(1, .int (iI (x_streamed - 1))), (0, .ref (ad 0))]) hx hb dX8_laysCover_40 rfl hl (by decide) rfl (fun ls hl => ?_)
  obtain ⟨ez29, ez30, ez31, ez32, hq, hs⟩ := bd4_some hs
  refine Lz41 FU vz1 vz2 (upA a_covers x_streamed 0) (upA a_weighs x_streamed 0) (upA a_numbers x_streamed 0) a_takes (x_streamed - 1) ez29 ez30 ez31 ez32 hq Hz lz hP hD hSz ls (lv_sub hl [1, 0] rfl) ?_
  intro Hz lz hP hD hSz ls hl
  cases hs
  exact k_vret_w hx hb hr hlk (by rw [hw1]; exact hP) hSz dX8_laysCover_262 rfl
/-! X8_coveredBytes -/
set_option maxHeartbeats 4000000 in
set_option maxRecDepth 100000 in
theorem c_X8_coveredBytes (l : Launch) (D : va_G) (cI cZ cJ : ClassId) {ad : Nat → Nat} {x_thrown : Int} {x_buffered : Int} {x_given : Int} {x_isFolding : Int} {x_work : Int} {x_rebuilt : Int} {x_streamed : Int} {x_reports : Int} {x_gapFrom : Int} {x_gapSize : Int} {x_elements : Int} {x_wholeSize : Int} {x_isLaid : Int} {x_takenMany : Int} {a_buffer : (Int → Int)} {a_length : (Int → Int)} {a_bytes : (Int → Int)} {a_weight : (Int → Int)} {a_live : (Int → Int)} {a_size : (Int → Int)} {a_list : (Int → Int)} {a_moved : (Int → Int)} {a_planned : (Int → Int)} {a_stream : (Int → Int)} {a_reportedEnd : (Int → Int)} {a_reportedKeyword : (Int → Int)} {a_starts : (Int → Int)} {a_keywordAt : (Int → Int)} {a_element : (Int → Int)} {a_long1 : (Int → Int)} {a_head : (Int → Int)} {a_tail : (Int → Int)} {a_next : (Int → Int)} {a_skip : (Int → Int)} {a_last : (Int → Int)} {a_whole : (Int → Int)} {a_edges : (Int → Int)} {a_covers : (Int → Int)} {a_weighs : (Int → Int)} {a_numbers : (Int → Int)} {a_takes : (Int → Int)} {a_takenAt : (Int → Int)} {r : Int} {y_x_thrown : Int} {y_a_starts : (Int → Int)} {y_a_keywordAt : (Int → Int)} {y_a_covers : (Int → Int)} {y_a_weighs : (Int → Int)} {y_a_numbers : (Int → Int)} {y_a_takes : (Int → Int)} {sz : Nat} (hs : s_X8_coveredBytes x_thrown x_given x_isFolding x_streamed a_length a_bytes a_weight a_live a_stream a_starts a_keywordAt a_covers a_weighs a_numbers a_takes = some (r, y_x_thrown, y_a_starts, y_a_keywordAt, y_a_covers, y_a_weighs, y_a_numbers, y_a_takes)) : Met l yX8_coveredBytes wsX8_coveredBytes rm_X8_coveredBytes (PW D vwCl [(cI, .int), (cZ, .boolean), (cJ, .long)] [.ref (ad 0)] (wM cI cZ cJ ad x_thrown x_buffered x_given x_isFolding x_work x_rebuilt x_streamed x_reports x_gapFrom x_gapSize x_elements x_wholeSize x_isLaid x_takenMany a_buffer a_length a_bytes a_weight a_live a_size a_list a_moved a_planned a_stream a_reportedEnd a_reportedKeyword a_starts a_keywordAt a_element a_long1 a_head a_tail a_next a_skip a_last a_whole a_edges a_covers a_weighs a_numbers a_takes a_takenAt) sz) (QW D vwCl (some (.int (iI r))) (wM cI cZ cJ ad y_x_thrown x_buffered x_given x_isFolding x_work x_rebuilt x_streamed x_reports x_gapFrom x_gapSize x_elements x_wholeSize x_isLaid x_takenMany a_buffer a_length a_bytes a_weight a_live a_size a_list a_moved a_planned a_stream a_reportedEnd a_reportedKeyword y_a_starts y_a_keywordAt a_element a_long1 a_head a_tail a_next a_skip a_last a_whole a_edges y_a_covers y_a_weighs y_a_numbers y_a_takes a_takenAt) (va_A (wM cI cZ cJ ad x_thrown x_buffered x_given x_isFolding x_work x_rebuilt x_streamed x_reports x_gapFrom x_gapSize x_elements x_wholeSize x_isLaid x_takenMany a_buffer a_length a_bytes a_weight a_live a_size a_list a_moved a_planned a_stream a_reportedEnd a_reportedKeyword a_starts a_keywordAt a_element a_long1 a_head a_tail a_next a_skip a_last a_whole a_edges a_covers a_weighs a_numbers a_takes a_takenAt) sz)) 0 0 (va_A (wM cI cZ cJ ad x_thrown x_buffered x_given x_isFolding x_work x_rebuilt x_streamed x_reports x_gapFrom x_gapSize x_elements x_wholeSize x_isLaid x_takenMany a_buffer a_length a_bytes a_weight a_live a_size a_list a_moved a_planned a_stream a_reportedEnd a_reportedKeyword a_starts a_keywordAt a_element a_long1 a_head a_tail a_next a_skip a_last a_whole a_edges a_covers a_weighs a_numbers a_takes a_takenAt) sz) := by
  refine Met.ofW (cc := cX8_coveredBytes) (maxL := 1) (ret := (some .int)) (by decide) rfl ?_
  intro p e s m args below meth c s₁ B hml hv
  obtain ⟨hav, hsz, hP, hK, hD0⟩ := hv
  have hx := B.exec
  have hb := B.bytes
  have hr := B.returns
  have hts := atoms_spec (ws := wsX8_coveredBytes) B.pre
  have hown : s.vm.findClass RX8 = some m.cls := findClass_of_methodNamed B.named
  have hlk := B.notSynchronized
  have hf1 : (Cond.fieldLink RX8 1 "KeywordMatcherModel" "thrown" "I").before args s = true := hts _ (List.mem_of_getElem? (i := 1) rfl)
  have hiX8 : ∀ w ∈ wsX80, w ∈ wsX8_coveredBytes := fun w h => List.mem_cons_of_mem _ (List.mem_append_right _ h)
  have hf84 : (Cond.fieldLink RX8 84 "KeywordMatcherModel" "covers" "[I").before args s = true := hts _ (List.mem_of_getElem? (i := 2) rfl)
  subst hsz
  have hD := hD0.self (sz := s.heap.size)
  generalize hAe : va_A (wM cI cZ cJ ad x_thrown x_buffered x_given x_isFolding x_work x_rebuilt x_streamed x_reports x_gapFrom x_gapSize x_elements x_wholeSize x_isLaid x_takenMany a_buffer a_length a_bytes a_weight a_live a_size a_list a_moved a_planned a_stream a_reportedEnd a_reportedKeyword a_starts a_keywordAt a_element a_long1 a_head a_tail a_next a_skip a_last a_whole a_edges a_covers a_weighs a_numbers a_takes a_takenAt) s.heap.size = Az at hD ⊢
  have hA : ∀ q : Nat, s.heap.size ≤ q → Az q := fun q h => by rw [← hAe]; exact Or.inr h
  clear hAe
  have hSz : va_S Az s.heap s.heap [] := va_S.rf
  obtain ⟨wz, hw1⟩ : ∃ z : va_W, z = (wM cI cZ cJ ad y_x_thrown x_buffered x_given x_isFolding x_work x_rebuilt x_streamed x_reports x_gapFrom x_gapSize x_elements x_wholeSize x_isLaid x_takenMany a_buffer a_length a_bytes a_weight a_live a_size a_list a_moved a_planned a_stream a_reportedEnd a_reportedKeyword y_a_starts y_a_keywordAt a_element a_long1 a_head a_tail a_next a_skip a_last a_whole a_edges y_a_covers y_a_weighs y_a_numbers y_a_takes a_takenAt) := ⟨_, rfl⟩
  rw [← hw1]
  have hl := lv_entry ([.ref (ad 0)]) (n := 1) (Nat.le_of_ble_eq_true rfl)
  rw [show entryFrame m args 1 = entryFrame m ([.ref (ad 0)] : List Value).toArray 1 from by rw [hav], lg_entry_eq]
  generalize (lg_sl ([.ref (ad 0)]) ++ List.replicate (1 - (lg_sl ([.ref (ad 0)])).length) Slot.unset).toArray = ls at hl ⊢
  have hl : lv_has ls 1 [(0, .ref (ad 0))] := hl
  unfold s_X8_coveredBytes at hs
  refine (?_ : ∀ (Hz : Heap) (lz : List Loc), va_P D vwCl (wM cI cZ cJ ad x_thrown x_buffered x_given x_isFolding x_work x_rebuilt x_streamed x_reports x_gapFrom x_gapSize x_elements x_wholeSize x_isLaid x_takenMany a_buffer a_length a_bytes a_weight a_live a_size a_list a_moved a_planned a_stream a_reportedEnd a_reportedKeyword a_starts a_keywordAt a_element a_long1 a_head a_tail a_next a_skip a_last a_whole a_edges a_covers a_weighs a_numbers a_takes a_takenAt) Hz → va_D Az (wM cI cZ cJ ad x_thrown x_buffered x_given x_isFolding x_work x_rebuilt x_streamed x_reports x_gapFrom x_gapSize x_elements x_wholeSize x_isLaid x_takenMany a_buffer a_length a_bytes a_weight a_live a_size a_list a_moved a_planned a_stream a_reportedEnd a_reportedKeyword a_starts a_keywordAt a_element a_long1 a_head a_tail a_next a_skip a_last a_whole a_edges a_covers a_weighs a_numbers a_takes a_takenAt) → va_S Az s.heap Hz lz → W p l e (headSpec wsX8_coveredBytes rm_X8_coveredBytes).room s m args below meth c Hz lz 0 0 (MQ below (QW D vwCl (some (.int (iI r))) wz Az) args s 0 0 Az) (F0 m 0 ls [])) s.heap [] hP hD hSz
  intro Hz lz hP hD hSz
  refine lv_aload_n hx hb dX8_coveredBytes_0 rfl (lv_at hl 0 rfl) ?_
  refine k_iconst (n := 0) hx hb dX8_coveredBytes_1 ?_
  refine va_put (ci := 8) (v := .int (iI 0)) (ty := .int) (C := RX8) (T := TX8) (N := 42) hx hb hts hiX8 tyX8 tyX8_ok nmX8 hown hK hP hD hSz 0 rfl rfl 0 (by decide) hf1 (fun _ h9 => h9) rfl (by decide +kernel) rfl rfl (Nat.le_of_ble_eq_true rfl) dX8_coveredBytes_2 (fun Hz lz hP hD hSz => ?_)
  have hP : va_P D vwCl (wM cI cZ cJ ad 0 x_buffered x_given x_isFolding x_work x_rebuilt x_streamed x_reports x_gapFrom x_gapSize x_elements x_wholeSize x_isLaid x_takenMany a_buffer a_length a_bytes a_weight a_live a_size a_list a_moved a_planned a_stream a_reportedEnd a_reportedKeyword a_starts a_keywordAt a_element a_long1 a_head a_tail a_next a_skip a_last a_whole a_edges a_covers a_weighs a_numbers a_takes a_takenAt) Hz := hP
  have hD : va_D Az (wM cI cZ cJ ad 0 x_buffered x_given x_isFolding x_work x_rebuilt x_streamed x_reports x_gapFrom x_gapSize x_elements x_wholeSize x_isLaid x_takenMany a_buffer a_length a_bytes a_weight a_live a_size a_list a_moved a_planned a_stream a_reportedEnd a_reportedKeyword a_starts a_keywordAt a_element a_long1 a_head a_tail a_next a_skip a_last a_whole a_edges a_covers a_weighs a_numbers a_takes a_takenAt) := hD
  refine lv_aload_n hx hb dX8_coveredBytes_5 rfl (lv_at hl 0 rfl) ?_
  obtain ⟨vz1, vz2, vz3, vz4, vz5, vz6, hcz, hs⟩ := bd6_some hs
  refine k_wVs (As := []) (rest := []) (st1 := []) (w1 := (wM cI cZ cJ ad 0 x_buffered x_given x_isFolding x_work x_rebuilt x_streamed x_reports x_gapFrom x_gapSize x_elements x_wholeSize x_isLaid x_takenMany a_buffer a_length a_bytes a_weight a_live a_size a_list a_moved a_planned a_stream a_reportedEnd a_reportedKeyword vz1 vz2 a_element a_long1 a_head a_tail a_next a_skip a_last a_whole a_edges vz3 vz4 vz5 vz6 a_takenAt)) ⟨hx, hb, hml, hown, hts⟩ hK hP hD hSz hA (c_X8_laysCover l D cI cZ cJ hcz) (cwV 0 hts gX8_coveredBytes_X8_laysCover rfl rfl rfl (by decide +kernel) ⟨Nat.le_of_ble_eq_true rfl, Nat.le_of_ble_eq_true rfl⟩) 0 rfl rfl rfl rfl rfl hl.1 rfl (lv_room (Nat.le_of_ble_eq_true rfl)) dX8_coveredBytes_6 ⟨Nat.zero_le _, Nat.zero_le _⟩ rfl (fun Hz lz hP hD hSz => ?_)
  have hP : va_P D vwCl (wM cI cZ cJ ad 0 x_buffered x_given x_isFolding x_work x_rebuilt x_streamed x_reports x_gapFrom x_gapSize x_elements x_wholeSize x_isLaid x_takenMany a_buffer a_length a_bytes a_weight a_live a_size a_list a_moved a_planned a_stream a_reportedEnd a_reportedKeyword vz1 vz2 a_element a_long1 a_head a_tail a_next a_skip a_last a_whole a_edges vz3 vz4 vz5 vz6 a_takenAt) Hz := hP
  have hD : va_D Az (wM cI cZ cJ ad 0 x_buffered x_given x_isFolding x_work x_rebuilt x_streamed x_reports x_gapFrom x_gapSize x_elements x_wholeSize x_isLaid x_takenMany a_buffer a_length a_bytes a_weight a_live a_size a_list a_moved a_planned a_stream a_reportedEnd a_reportedKeyword vz1 vz2 a_element a_long1 a_head a_tail a_next a_skip a_last a_whole a_edges vz3 vz4 vz5 vz6 a_takenAt) := hD
  refine lv_aload_n hx hb dX8_coveredBytes_9 rfl (lv_at hl 0 rfl) ?_
  refine va_get (ci := 8) (v := .ref (ad 24)) (C := RX8) (T := TX8) (N := 42) hx hb hts hiX8 hown hK hP 0 rfl rfl 36 (by decide) hf84 (fun _ h9 => h9) rfl dX8_coveredBytes_10 ?_
  refine k_iconst (n := 0) hx hb dX8_coveredBytes_13 ?_
  refine k_iald hx hb hK hP 24 0 rfl rfl (Nat.le_of_ble_eq_true rfl) hs dX8_coveredBytes_14 (fun vz7 hs => ?_)
  cases hs
  exact k_iret_w hx hb hr hlk (by rw [hw1]; exact hP) hSz dX8_coveredBytes_15 rfl
/-! X8_coverWeight -/
set_option maxHeartbeats 4000000 in
set_option maxRecDepth 100000 in
theorem c_X8_coverWeight (l : Launch) (D : va_G) (cI cZ cJ : ClassId) {ad : Nat → Nat} {x_thrown : Int} {x_buffered : Int} {x_given : Int} {x_isFolding : Int} {x_work : Int} {x_rebuilt : Int} {x_streamed : Int} {x_reports : Int} {x_gapFrom : Int} {x_gapSize : Int} {x_elements : Int} {x_wholeSize : Int} {x_isLaid : Int} {x_takenMany : Int} {a_buffer : (Int → Int)} {a_length : (Int → Int)} {a_bytes : (Int → Int)} {a_weight : (Int → Int)} {a_live : (Int → Int)} {a_size : (Int → Int)} {a_list : (Int → Int)} {a_moved : (Int → Int)} {a_planned : (Int → Int)} {a_stream : (Int → Int)} {a_reportedEnd : (Int → Int)} {a_reportedKeyword : (Int → Int)} {a_starts : (Int → Int)} {a_keywordAt : (Int → Int)} {a_element : (Int → Int)} {a_long1 : (Int → Int)} {a_head : (Int → Int)} {a_tail : (Int → Int)} {a_next : (Int → Int)} {a_skip : (Int → Int)} {a_last : (Int → Int)} {a_whole : (Int → Int)} {a_edges : (Int → Int)} {a_covers : (Int → Int)} {a_weighs : (Int → Int)} {a_numbers : (Int → Int)} {a_takes : (Int → Int)} {a_takenAt : (Int → Int)} {r : Int} {y_x_thrown : Int} {y_a_starts : (Int → Int)} {y_a_keywordAt : (Int → Int)} {y_a_covers : (Int → Int)} {y_a_weighs : (Int → Int)} {y_a_numbers : (Int → Int)} {y_a_takes : (Int → Int)} {sz : Nat} (hs : s_X8_coverWeight x_thrown x_given x_isFolding x_streamed a_length a_bytes a_weight a_live a_stream a_starts a_keywordAt a_covers a_weighs a_numbers a_takes = some (r, y_x_thrown, y_a_starts, y_a_keywordAt, y_a_covers, y_a_weighs, y_a_numbers, y_a_takes)) : Met l yX8_coverWeight wsX8_coverWeight rm_X8_coverWeight (PW D vwCl [(cI, .int), (cZ, .boolean), (cJ, .long)] [.ref (ad 0)] (wM cI cZ cJ ad x_thrown x_buffered x_given x_isFolding x_work x_rebuilt x_streamed x_reports x_gapFrom x_gapSize x_elements x_wholeSize x_isLaid x_takenMany a_buffer a_length a_bytes a_weight a_live a_size a_list a_moved a_planned a_stream a_reportedEnd a_reportedKeyword a_starts a_keywordAt a_element a_long1 a_head a_tail a_next a_skip a_last a_whole a_edges a_covers a_weighs a_numbers a_takes a_takenAt) sz) (QW D vwCl (some (.int (iI r))) (wM cI cZ cJ ad y_x_thrown x_buffered x_given x_isFolding x_work x_rebuilt x_streamed x_reports x_gapFrom x_gapSize x_elements x_wholeSize x_isLaid x_takenMany a_buffer a_length a_bytes a_weight a_live a_size a_list a_moved a_planned a_stream a_reportedEnd a_reportedKeyword y_a_starts y_a_keywordAt a_element a_long1 a_head a_tail a_next a_skip a_last a_whole a_edges y_a_covers y_a_weighs y_a_numbers y_a_takes a_takenAt) (va_A (wM cI cZ cJ ad x_thrown x_buffered x_given x_isFolding x_work x_rebuilt x_streamed x_reports x_gapFrom x_gapSize x_elements x_wholeSize x_isLaid x_takenMany a_buffer a_length a_bytes a_weight a_live a_size a_list a_moved a_planned a_stream a_reportedEnd a_reportedKeyword a_starts a_keywordAt a_element a_long1 a_head a_tail a_next a_skip a_last a_whole a_edges a_covers a_weighs a_numbers a_takes a_takenAt) sz)) 0 0 (va_A (wM cI cZ cJ ad x_thrown x_buffered x_given x_isFolding x_work x_rebuilt x_streamed x_reports x_gapFrom x_gapSize x_elements x_wholeSize x_isLaid x_takenMany a_buffer a_length a_bytes a_weight a_live a_size a_list a_moved a_planned a_stream a_reportedEnd a_reportedKeyword a_starts a_keywordAt a_element a_long1 a_head a_tail a_next a_skip a_last a_whole a_edges a_covers a_weighs a_numbers a_takes a_takenAt) sz) := by
  refine Met.ofW (cc := cX8_coverWeight) (maxL := 1) (ret := (some .int)) (by decide) rfl ?_
  intro p e s m args below meth c s₁ B hml hv
  obtain ⟨hav, hsz, hP, hK, hD0⟩ := hv
  have hx := B.exec
  have hb := B.bytes
  have hr := B.returns
  have hts := atoms_spec (ws := wsX8_coverWeight) B.pre
  have hown : s.vm.findClass RX8 = some m.cls := findClass_of_methodNamed B.named
  have hlk := B.notSynchronized
  have hf1 : (Cond.fieldLink RX8 1 "KeywordMatcherModel" "thrown" "I").before args s = true := hts _ (List.mem_of_getElem? (i := 1) rfl)
  have hiX8 : ∀ w ∈ wsX80, w ∈ wsX8_coverWeight := fun w h => List.mem_cons_of_mem _ (List.mem_append_right _ h)
  have hf87 : (Cond.fieldLink RX8 87 "KeywordMatcherModel" "weighs" "[I").before args s = true := hts _ (List.mem_of_getElem? (i := 2) rfl)
  subst hsz
  have hD := hD0.self (sz := s.heap.size)
  generalize hAe : va_A (wM cI cZ cJ ad x_thrown x_buffered x_given x_isFolding x_work x_rebuilt x_streamed x_reports x_gapFrom x_gapSize x_elements x_wholeSize x_isLaid x_takenMany a_buffer a_length a_bytes a_weight a_live a_size a_list a_moved a_planned a_stream a_reportedEnd a_reportedKeyword a_starts a_keywordAt a_element a_long1 a_head a_tail a_next a_skip a_last a_whole a_edges a_covers a_weighs a_numbers a_takes a_takenAt) s.heap.size = Az at hD ⊢
  have hA : ∀ q : Nat, s.heap.size ≤ q → Az q := fun q h => by rw [← hAe]; exact Or.inr h
  clear hAe
  have hSz : va_S Az s.heap s.heap [] := va_S.rf
  obtain ⟨wz, hw1⟩ : ∃ z : va_W, z = (wM cI cZ cJ ad y_x_thrown x_buffered x_given x_isFolding x_work x_rebuilt x_streamed x_reports x_gapFrom x_gapSize x_elements x_wholeSize x_isLaid x_takenMany a_buffer a_length a_bytes a_weight a_live a_size a_list a_moved a_planned a_stream a_reportedEnd a_reportedKeyword y_a_starts y_a_keywordAt a_element a_long1 a_head a_tail a_next a_skip a_last a_whole a_edges y_a_covers y_a_weighs y_a_numbers y_a_takes a_takenAt) := ⟨_, rfl⟩
  rw [← hw1]
  have hl := lv_entry ([.ref (ad 0)]) (n := 1) (Nat.le_of_ble_eq_true rfl)
  rw [show entryFrame m args 1 = entryFrame m ([.ref (ad 0)] : List Value).toArray 1 from by rw [hav], lg_entry_eq]
  generalize (lg_sl ([.ref (ad 0)]) ++ List.replicate (1 - (lg_sl ([.ref (ad 0)])).length) Slot.unset).toArray = ls at hl ⊢
  have hl : lv_has ls 1 [(0, .ref (ad 0))] := hl
  unfold s_X8_coverWeight at hs
  refine (?_ : ∀ (Hz : Heap) (lz : List Loc), va_P D vwCl (wM cI cZ cJ ad x_thrown x_buffered x_given x_isFolding x_work x_rebuilt x_streamed x_reports x_gapFrom x_gapSize x_elements x_wholeSize x_isLaid x_takenMany a_buffer a_length a_bytes a_weight a_live a_size a_list a_moved a_planned a_stream a_reportedEnd a_reportedKeyword a_starts a_keywordAt a_element a_long1 a_head a_tail a_next a_skip a_last a_whole a_edges a_covers a_weighs a_numbers a_takes a_takenAt) Hz → va_D Az (wM cI cZ cJ ad x_thrown x_buffered x_given x_isFolding x_work x_rebuilt x_streamed x_reports x_gapFrom x_gapSize x_elements x_wholeSize x_isLaid x_takenMany a_buffer a_length a_bytes a_weight a_live a_size a_list a_moved a_planned a_stream a_reportedEnd a_reportedKeyword a_starts a_keywordAt a_element a_long1 a_head a_tail a_next a_skip a_last a_whole a_edges a_covers a_weighs a_numbers a_takes a_takenAt) → va_S Az s.heap Hz lz → W p l e (headSpec wsX8_coverWeight rm_X8_coverWeight).room s m args below meth c Hz lz 0 0 (MQ below (QW D vwCl (some (.int (iI r))) wz Az) args s 0 0 Az) (F0 m 0 ls [])) s.heap [] hP hD hSz
  intro Hz lz hP hD hSz
  refine lv_aload_n hx hb dX8_coverWeight_0 rfl (lv_at hl 0 rfl) ?_
  refine k_iconst (n := 0) hx hb dX8_coverWeight_1 ?_
  refine va_put (ci := 8) (v := .int (iI 0)) (ty := .int) (C := RX8) (T := TX8) (N := 42) hx hb hts hiX8 tyX8 tyX8_ok nmX8 hown hK hP hD hSz 0 rfl rfl 0 (by decide) hf1 (fun _ h9 => h9) rfl (by decide +kernel) rfl rfl (Nat.le_of_ble_eq_true rfl) dX8_coverWeight_2 (fun Hz lz hP hD hSz => ?_)
  have hP : va_P D vwCl (wM cI cZ cJ ad 0 x_buffered x_given x_isFolding x_work x_rebuilt x_streamed x_reports x_gapFrom x_gapSize x_elements x_wholeSize x_isLaid x_takenMany a_buffer a_length a_bytes a_weight a_live a_size a_list a_moved a_planned a_stream a_reportedEnd a_reportedKeyword a_starts a_keywordAt a_element a_long1 a_head a_tail a_next a_skip a_last a_whole a_edges a_covers a_weighs a_numbers a_takes a_takenAt) Hz := hP
  have hD : va_D Az (wM cI cZ cJ ad 0 x_buffered x_given x_isFolding x_work x_rebuilt x_streamed x_reports x_gapFrom x_gapSize x_elements x_wholeSize x_isLaid x_takenMany a_buffer a_length a_bytes a_weight a_live a_size a_list a_moved a_planned a_stream a_reportedEnd a_reportedKeyword a_starts a_keywordAt a_element a_long1 a_head a_tail a_next a_skip a_last a_whole a_edges a_covers a_weighs a_numbers a_takes a_takenAt) := hD
  refine lv_aload_n hx hb dX8_coverWeight_5 rfl (lv_at hl 0 rfl) ?_
  obtain ⟨vz1, vz2, vz3, vz4, vz5, vz6, hcz, hs⟩ := bd6_some hs
  refine k_wVs (As := []) (rest := []) (st1 := []) (w1 := (wM cI cZ cJ ad 0 x_buffered x_given x_isFolding x_work x_rebuilt x_streamed x_reports x_gapFrom x_gapSize x_elements x_wholeSize x_isLaid x_takenMany a_buffer a_length a_bytes a_weight a_live a_size a_list a_moved a_planned a_stream a_reportedEnd a_reportedKeyword vz1 vz2 a_element a_long1 a_head a_tail a_next a_skip a_last a_whole a_edges vz3 vz4 vz5 vz6 a_takenAt)) ⟨hx, hb, hml, hown, hts⟩ hK hP hD hSz hA (c_X8_laysCover l D cI cZ cJ hcz) (cwV 0 hts gX8_coverWeight_X8_laysCover rfl rfl rfl (by decide +kernel) ⟨Nat.le_of_ble_eq_true rfl, Nat.le_of_ble_eq_true rfl⟩) 0 rfl rfl rfl rfl rfl hl.1 rfl (lv_room (Nat.le_of_ble_eq_true rfl)) dX8_coverWeight_6 ⟨Nat.zero_le _, Nat.zero_le _⟩ rfl (fun Hz lz hP hD hSz => ?_)
  have hP : va_P D vwCl (wM cI cZ cJ ad 0 x_buffered x_given x_isFolding x_work x_rebuilt x_streamed x_reports x_gapFrom x_gapSize x_elements x_wholeSize x_isLaid x_takenMany a_buffer a_length a_bytes a_weight a_live a_size a_list a_moved a_planned a_stream a_reportedEnd a_reportedKeyword vz1 vz2 a_element a_long1 a_head a_tail a_next a_skip a_last a_whole a_edges vz3 vz4 vz5 vz6 a_takenAt) Hz := hP
  have hD : va_D Az (wM cI cZ cJ ad 0 x_buffered x_given x_isFolding x_work x_rebuilt x_streamed x_reports x_gapFrom x_gapSize x_elements x_wholeSize x_isLaid x_takenMany a_buffer a_length a_bytes a_weight a_live a_size a_list a_moved a_planned a_stream a_reportedEnd a_reportedKeyword vz1 vz2 a_element a_long1 a_head a_tail a_next a_skip a_last a_whole a_edges vz3 vz4 vz5 vz6 a_takenAt) := hD
  refine lv_aload_n hx hb dX8_coverWeight_9 rfl (lv_at hl 0 rfl) ?_
  refine va_get (ci := 8) (v := .ref (ad 25)) (C := RX8) (T := TX8) (N := 42) hx hb hts hiX8 hown hK hP 0 rfl rfl 37 (by decide) hf87 (fun _ h9 => h9) rfl dX8_coverWeight_10 ?_
  refine k_iconst (n := 0) hx hb dX8_coverWeight_13 ?_
  refine k_iald hx hb hK hP 25 0 rfl rfl (Nat.le_of_ble_eq_true rfl) hs dX8_coverWeight_14 (fun vz7 hs => ?_)
  cases hs
  exact k_iret_w hx hb hr hlk (by rw [hw1]; exact hP) hSz dX8_coverWeight_15 rfl
/-! X8_coverSize -/
set_option maxHeartbeats 4000000 in
set_option maxRecDepth 100000 in
theorem c_X8_coverSize (l : Launch) (D : va_G) (cI cZ cJ : ClassId) {ad : Nat → Nat} {x_thrown : Int} {x_buffered : Int} {x_given : Int} {x_isFolding : Int} {x_work : Int} {x_rebuilt : Int} {x_streamed : Int} {x_reports : Int} {x_gapFrom : Int} {x_gapSize : Int} {x_elements : Int} {x_wholeSize : Int} {x_isLaid : Int} {x_takenMany : Int} {a_buffer : (Int → Int)} {a_length : (Int → Int)} {a_bytes : (Int → Int)} {a_weight : (Int → Int)} {a_live : (Int → Int)} {a_size : (Int → Int)} {a_list : (Int → Int)} {a_moved : (Int → Int)} {a_planned : (Int → Int)} {a_stream : (Int → Int)} {a_reportedEnd : (Int → Int)} {a_reportedKeyword : (Int → Int)} {a_starts : (Int → Int)} {a_keywordAt : (Int → Int)} {a_element : (Int → Int)} {a_long1 : (Int → Int)} {a_head : (Int → Int)} {a_tail : (Int → Int)} {a_next : (Int → Int)} {a_skip : (Int → Int)} {a_last : (Int → Int)} {a_whole : (Int → Int)} {a_edges : (Int → Int)} {a_covers : (Int → Int)} {a_weighs : (Int → Int)} {a_numbers : (Int → Int)} {a_takes : (Int → Int)} {a_takenAt : (Int → Int)} {r : Int} {y_x_thrown : Int} {y_a_starts : (Int → Int)} {y_a_keywordAt : (Int → Int)} {y_a_covers : (Int → Int)} {y_a_weighs : (Int → Int)} {y_a_numbers : (Int → Int)} {y_a_takes : (Int → Int)} {sz : Nat} (hs : s_X8_coverSize x_thrown x_given x_isFolding x_streamed a_length a_bytes a_weight a_live a_stream a_starts a_keywordAt a_covers a_weighs a_numbers a_takes = some (r, y_x_thrown, y_a_starts, y_a_keywordAt, y_a_covers, y_a_weighs, y_a_numbers, y_a_takes)) : Met l yX8_coverSize wsX8_coverSize rm_X8_coverSize (PW D vwCl [(cI, .int), (cZ, .boolean), (cJ, .long)] [.ref (ad 0)] (wM cI cZ cJ ad x_thrown x_buffered x_given x_isFolding x_work x_rebuilt x_streamed x_reports x_gapFrom x_gapSize x_elements x_wholeSize x_isLaid x_takenMany a_buffer a_length a_bytes a_weight a_live a_size a_list a_moved a_planned a_stream a_reportedEnd a_reportedKeyword a_starts a_keywordAt a_element a_long1 a_head a_tail a_next a_skip a_last a_whole a_edges a_covers a_weighs a_numbers a_takes a_takenAt) sz) (QW D vwCl (some (.int (iI r))) (wM cI cZ cJ ad y_x_thrown x_buffered x_given x_isFolding x_work x_rebuilt x_streamed x_reports x_gapFrom x_gapSize x_elements x_wholeSize x_isLaid x_takenMany a_buffer a_length a_bytes a_weight a_live a_size a_list a_moved a_planned a_stream a_reportedEnd a_reportedKeyword y_a_starts y_a_keywordAt a_element a_long1 a_head a_tail a_next a_skip a_last a_whole a_edges y_a_covers y_a_weighs y_a_numbers y_a_takes a_takenAt) (va_A (wM cI cZ cJ ad x_thrown x_buffered x_given x_isFolding x_work x_rebuilt x_streamed x_reports x_gapFrom x_gapSize x_elements x_wholeSize x_isLaid x_takenMany a_buffer a_length a_bytes a_weight a_live a_size a_list a_moved a_planned a_stream a_reportedEnd a_reportedKeyword a_starts a_keywordAt a_element a_long1 a_head a_tail a_next a_skip a_last a_whole a_edges a_covers a_weighs a_numbers a_takes a_takenAt) sz)) 0 0 (va_A (wM cI cZ cJ ad x_thrown x_buffered x_given x_isFolding x_work x_rebuilt x_streamed x_reports x_gapFrom x_gapSize x_elements x_wholeSize x_isLaid x_takenMany a_buffer a_length a_bytes a_weight a_live a_size a_list a_moved a_planned a_stream a_reportedEnd a_reportedKeyword a_starts a_keywordAt a_element a_long1 a_head a_tail a_next a_skip a_last a_whole a_edges a_covers a_weighs a_numbers a_takes a_takenAt) sz) := by
  refine Met.ofW (cc := cX8_coverSize) (maxL := 1) (ret := (some .int)) (by decide) rfl ?_
  intro p e s m args below meth c s₁ B hml hv
  obtain ⟨hav, hsz, hP, hK, hD0⟩ := hv
  have hx := B.exec
  have hb := B.bytes
  have hr := B.returns
  have hts := atoms_spec (ws := wsX8_coverSize) B.pre
  have hown : s.vm.findClass RX8 = some m.cls := findClass_of_methodNamed B.named
  have hlk := B.notSynchronized
  have hf1 : (Cond.fieldLink RX8 1 "KeywordMatcherModel" "thrown" "I").before args s = true := hts _ (List.mem_of_getElem? (i := 1) rfl)
  have hiX8 : ∀ w ∈ wsX80, w ∈ wsX8_coverSize := fun w h => List.mem_cons_of_mem _ (List.mem_append_right _ h)
  have hf90 : (Cond.fieldLink RX8 90 "KeywordMatcherModel" "numbers" "[I").before args s = true := hts _ (List.mem_of_getElem? (i := 2) rfl)
  subst hsz
  have hD := hD0.self (sz := s.heap.size)
  generalize hAe : va_A (wM cI cZ cJ ad x_thrown x_buffered x_given x_isFolding x_work x_rebuilt x_streamed x_reports x_gapFrom x_gapSize x_elements x_wholeSize x_isLaid x_takenMany a_buffer a_length a_bytes a_weight a_live a_size a_list a_moved a_planned a_stream a_reportedEnd a_reportedKeyword a_starts a_keywordAt a_element a_long1 a_head a_tail a_next a_skip a_last a_whole a_edges a_covers a_weighs a_numbers a_takes a_takenAt) s.heap.size = Az at hD ⊢
  have hA : ∀ q : Nat, s.heap.size ≤ q → Az q := fun q h => by rw [← hAe]; exact Or.inr h
  clear hAe
  have hSz : va_S Az s.heap s.heap [] := va_S.rf
  obtain ⟨wz, hw1⟩ : ∃ z : va_W, z = (wM cI cZ cJ ad y_x_thrown x_buffered x_given x_isFolding x_work x_rebuilt x_streamed x_reports x_gapFrom x_gapSize x_elements x_wholeSize x_isLaid x_takenMany a_buffer a_length a_bytes a_weight a_live a_size a_list a_moved a_planned a_stream a_reportedEnd a_reportedKeyword y_a_starts y_a_keywordAt a_element a_long1 a_head a_tail a_next a_skip a_last a_whole a_edges y_a_covers y_a_weighs y_a_numbers y_a_takes a_takenAt) := ⟨_, rfl⟩
  rw [← hw1]
  have hl := lv_entry ([.ref (ad 0)]) (n := 1) (Nat.le_of_ble_eq_true rfl)
  rw [show entryFrame m args 1 = entryFrame m ([.ref (ad 0)] : List Value).toArray 1 from by rw [hav], lg_entry_eq]
  generalize (lg_sl ([.ref (ad 0)]) ++ List.replicate (1 - (lg_sl ([.ref (ad 0)])).length) Slot.unset).toArray = ls at hl ⊢
  have hl : lv_has ls 1 [(0, .ref (ad 0))] := hl
  unfold s_X8_coverSize at hs
  refine (?_ : ∀ (Hz : Heap) (lz : List Loc), va_P D vwCl (wM cI cZ cJ ad x_thrown x_buffered x_given x_isFolding x_work x_rebuilt x_streamed x_reports x_gapFrom x_gapSize x_elements x_wholeSize x_isLaid x_takenMany a_buffer a_length a_bytes a_weight a_live a_size a_list a_moved a_planned a_stream a_reportedEnd a_reportedKeyword a_starts a_keywordAt a_element a_long1 a_head a_tail a_next a_skip a_last a_whole a_edges a_covers a_weighs a_numbers a_takes a_takenAt) Hz → va_D Az (wM cI cZ cJ ad x_thrown x_buffered x_given x_isFolding x_work x_rebuilt x_streamed x_reports x_gapFrom x_gapSize x_elements x_wholeSize x_isLaid x_takenMany a_buffer a_length a_bytes a_weight a_live a_size a_list a_moved a_planned a_stream a_reportedEnd a_reportedKeyword a_starts a_keywordAt a_element a_long1 a_head a_tail a_next a_skip a_last a_whole a_edges a_covers a_weighs a_numbers a_takes a_takenAt) → va_S Az s.heap Hz lz → W p l e (headSpec wsX8_coverSize rm_X8_coverSize).room s m args below meth c Hz lz 0 0 (MQ below (QW D vwCl (some (.int (iI r))) wz Az) args s 0 0 Az) (F0 m 0 ls [])) s.heap [] hP hD hSz
  intro Hz lz hP hD hSz
  refine lv_aload_n hx hb dX8_coverSize_0 rfl (lv_at hl 0 rfl) ?_
  refine k_iconst (n := 0) hx hb dX8_coverSize_1 ?_
  refine va_put (ci := 8) (v := .int (iI 0)) (ty := .int) (C := RX8) (T := TX8) (N := 42) hx hb hts hiX8 tyX8 tyX8_ok nmX8 hown hK hP hD hSz 0 rfl rfl 0 (by decide) hf1 (fun _ h9 => h9) rfl (by decide +kernel) rfl rfl (Nat.le_of_ble_eq_true rfl) dX8_coverSize_2 (fun Hz lz hP hD hSz => ?_)
  have hP : va_P D vwCl (wM cI cZ cJ ad 0 x_buffered x_given x_isFolding x_work x_rebuilt x_streamed x_reports x_gapFrom x_gapSize x_elements x_wholeSize x_isLaid x_takenMany a_buffer a_length a_bytes a_weight a_live a_size a_list a_moved a_planned a_stream a_reportedEnd a_reportedKeyword a_starts a_keywordAt a_element a_long1 a_head a_tail a_next a_skip a_last a_whole a_edges a_covers a_weighs a_numbers a_takes a_takenAt) Hz := hP
  have hD : va_D Az (wM cI cZ cJ ad 0 x_buffered x_given x_isFolding x_work x_rebuilt x_streamed x_reports x_gapFrom x_gapSize x_elements x_wholeSize x_isLaid x_takenMany a_buffer a_length a_bytes a_weight a_live a_size a_list a_moved a_planned a_stream a_reportedEnd a_reportedKeyword a_starts a_keywordAt a_element a_long1 a_head a_tail a_next a_skip a_last a_whole a_edges a_covers a_weighs a_numbers a_takes a_takenAt) := hD
  refine lv_aload_n hx hb dX8_coverSize_5 rfl (lv_at hl 0 rfl) ?_
  obtain ⟨vz1, vz2, vz3, vz4, vz5, vz6, hcz, hs⟩ := bd6_some hs
  refine k_wVs (As := []) (rest := []) (st1 := []) (w1 := (wM cI cZ cJ ad 0 x_buffered x_given x_isFolding x_work x_rebuilt x_streamed x_reports x_gapFrom x_gapSize x_elements x_wholeSize x_isLaid x_takenMany a_buffer a_length a_bytes a_weight a_live a_size a_list a_moved a_planned a_stream a_reportedEnd a_reportedKeyword vz1 vz2 a_element a_long1 a_head a_tail a_next a_skip a_last a_whole a_edges vz3 vz4 vz5 vz6 a_takenAt)) ⟨hx, hb, hml, hown, hts⟩ hK hP hD hSz hA (c_X8_laysCover l D cI cZ cJ hcz) (cwV 0 hts gX8_coverSize_X8_laysCover rfl rfl rfl (by decide +kernel) ⟨Nat.le_of_ble_eq_true rfl, Nat.le_of_ble_eq_true rfl⟩) 0 rfl rfl rfl rfl rfl hl.1 rfl (lv_room (Nat.le_of_ble_eq_true rfl)) dX8_coverSize_6 ⟨Nat.zero_le _, Nat.zero_le _⟩ rfl (fun Hz lz hP hD hSz => ?_)
  have hP : va_P D vwCl (wM cI cZ cJ ad 0 x_buffered x_given x_isFolding x_work x_rebuilt x_streamed x_reports x_gapFrom x_gapSize x_elements x_wholeSize x_isLaid x_takenMany a_buffer a_length a_bytes a_weight a_live a_size a_list a_moved a_planned a_stream a_reportedEnd a_reportedKeyword vz1 vz2 a_element a_long1 a_head a_tail a_next a_skip a_last a_whole a_edges vz3 vz4 vz5 vz6 a_takenAt) Hz := hP
  have hD : va_D Az (wM cI cZ cJ ad 0 x_buffered x_given x_isFolding x_work x_rebuilt x_streamed x_reports x_gapFrom x_gapSize x_elements x_wholeSize x_isLaid x_takenMany a_buffer a_length a_bytes a_weight a_live a_size a_list a_moved a_planned a_stream a_reportedEnd a_reportedKeyword vz1 vz2 a_element a_long1 a_head a_tail a_next a_skip a_last a_whole a_edges vz3 vz4 vz5 vz6 a_takenAt) := hD
  refine lv_aload_n hx hb dX8_coverSize_9 rfl (lv_at hl 0 rfl) ?_
  refine va_get (ci := 8) (v := .ref (ad 26)) (C := RX8) (T := TX8) (N := 42) hx hb hts hiX8 hown hK hP 0 rfl rfl 38 (by decide) hf90 (fun _ h9 => h9) rfl dX8_coverSize_10 ?_
  refine k_iconst (n := 0) hx hb dX8_coverSize_13 ?_
  refine k_iald hx hb hK hP 26 0 rfl rfl (Nat.le_of_ble_eq_true rfl) hs dX8_coverSize_14 (fun vz7 hs => ?_)
  cases hs
  exact k_iret_w hx hb hr hlk (by rw [hw1]; exact hP) hSz dX8_coverSize_15 rfl
/-! X8_laysTaken -/
set_option maxHeartbeats 4000000 in
set_option maxRecDepth 100000 in
theorem c_X8_laysTaken (l : Launch) (D : va_G) (cI cZ cJ : ClassId) {ad : Nat → Nat} {x_thrown : Int} {x_buffered : Int} {x_given : Int} {x_isFolding : Int} {x_work : Int} {x_rebuilt : Int} {x_streamed : Int} {x_reports : Int} {x_gapFrom : Int} {x_gapSize : Int} {x_elements : Int} {x_wholeSize : Int} {x_isLaid : Int} {x_takenMany : Int} {a_buffer : (Int → Int)} {a_length : (Int → Int)} {a_bytes : (Int → Int)} {a_weight : (Int → Int)} {a_live : (Int → Int)} {a_size : (Int → Int)} {a_list : (Int → Int)} {a_moved : (Int → Int)} {a_planned : (Int → Int)} {a_stream : (Int → Int)} {a_reportedEnd : (Int → Int)} {a_reportedKeyword : (Int → Int)} {a_starts : (Int → Int)} {a_keywordAt : (Int → Int)} {a_element : (Int → Int)} {a_long1 : (Int → Int)} {a_head : (Int → Int)} {a_tail : (Int → Int)} {a_next : (Int → Int)} {a_skip : (Int → Int)} {a_last : (Int → Int)} {a_whole : (Int → Int)} {a_edges : (Int → Int)} {a_covers : (Int → Int)} {a_weighs : (Int → Int)} {a_numbers : (Int → Int)} {a_takes : (Int → Int)} {a_takenAt : (Int → Int)} {y_x_takenMany : Int} {y_a_takenAt : (Int → Int)} {sz : Nat} (hs : s_X8_laysTaken x_streamed x_takenMany a_length a_takes a_takenAt = some (y_x_takenMany, y_a_takenAt)) : Met l yX8_laysTaken wsX8_laysTaken rm_X8_laysTaken (PW D vwCl [(cI, .int), (cZ, .boolean), (cJ, .long)] [.ref (ad 0)] (wM cI cZ cJ ad x_thrown x_buffered x_given x_isFolding x_work x_rebuilt x_streamed x_reports x_gapFrom x_gapSize x_elements x_wholeSize x_isLaid x_takenMany a_buffer a_length a_bytes a_weight a_live a_size a_list a_moved a_planned a_stream a_reportedEnd a_reportedKeyword a_starts a_keywordAt a_element a_long1 a_head a_tail a_next a_skip a_last a_whole a_edges a_covers a_weighs a_numbers a_takes a_takenAt) sz) (QW D vwCl none (wM cI cZ cJ ad x_thrown x_buffered x_given x_isFolding x_work x_rebuilt x_streamed x_reports x_gapFrom x_gapSize x_elements x_wholeSize x_isLaid y_x_takenMany a_buffer a_length a_bytes a_weight a_live a_size a_list a_moved a_planned a_stream a_reportedEnd a_reportedKeyword a_starts a_keywordAt a_element a_long1 a_head a_tail a_next a_skip a_last a_whole a_edges a_covers a_weighs a_numbers a_takes y_a_takenAt) (va_A (wM cI cZ cJ ad x_thrown x_buffered x_given x_isFolding x_work x_rebuilt x_streamed x_reports x_gapFrom x_gapSize x_elements x_wholeSize x_isLaid x_takenMany a_buffer a_length a_bytes a_weight a_live a_size a_list a_moved a_planned a_stream a_reportedEnd a_reportedKeyword a_starts a_keywordAt a_element a_long1 a_head a_tail a_next a_skip a_last a_whole a_edges a_covers a_weighs a_numbers a_takes a_takenAt) sz)) 0 0 (va_A (wM cI cZ cJ ad x_thrown x_buffered x_given x_isFolding x_work x_rebuilt x_streamed x_reports x_gapFrom x_gapSize x_elements x_wholeSize x_isLaid x_takenMany a_buffer a_length a_bytes a_weight a_live a_size a_list a_moved a_planned a_stream a_reportedEnd a_reportedKeyword a_starts a_keywordAt a_element a_long1 a_head a_tail a_next a_skip a_last a_whole a_edges a_covers a_weighs a_numbers a_takes a_takenAt) sz) := by
  refine Met.ofW (cc := cX8_laysTaken) (maxL := 2) (ret := none) (by decide) rfl ?_
  intro p e s m args below meth c s₁ B hml hv
  obtain ⟨hav, hsz, hP, hK, hD0⟩ := hv
  have hx := B.exec
  have hb := B.bytes
  have hr := B.returns
  have hts := atoms_spec (ws := wsX8_laysTaken) B.pre
  have hown : s.vm.findClass RX8 = some m.cls := findClass_of_methodNamed B.named
  have hlk := B.notSynchronized
  have hf281 : (Cond.fieldLink RX8 281 "KeywordMatcherModel" "takenMany" "I").before args s = true := hts _ (List.mem_of_getElem? (i := 1) rfl)
  have hiX8 : ∀ w ∈ wsX80, w ∈ wsX8_laysTaken := fun w h => List.mem_cons_of_mem _ (List.mem_append_right _ h)
  have hf170 : (Cond.fieldLink RX8 170 "KeywordMatcherModel" "streamed" "I").before args s = true := hts _ (List.mem_of_getElem? (i := 2) rfl)
  have hf93 : (Cond.fieldLink RX8 93 "KeywordMatcherModel" "takes" "[I").before args s = true := hts _ (List.mem_of_getElem? (i := 3) rfl)
  have hf96 : (Cond.fieldLink RX8 96 "KeywordMatcherModel" "takenAt" "[I").before args s = true := hts _ (List.mem_of_getElem? (i := 4) rfl)
  have hf17 : (Cond.fieldLink RX8 17 "KeywordMatcherModel" "length" "[I").before args s = true := hts _ (List.mem_of_getElem? (i := 5) rfl)
  subst hsz
  have hD := hD0.self (sz := s.heap.size)
  generalize hAe : va_A (wM cI cZ cJ ad x_thrown x_buffered x_given x_isFolding x_work x_rebuilt x_streamed x_reports x_gapFrom x_gapSize x_elements x_wholeSize x_isLaid x_takenMany a_buffer a_length a_bytes a_weight a_live a_size a_list a_moved a_planned a_stream a_reportedEnd a_reportedKeyword a_starts a_keywordAt a_element a_long1 a_head a_tail a_next a_skip a_last a_whole a_edges a_covers a_weighs a_numbers a_takes a_takenAt) s.heap.size = Az at hD ⊢
  have hA : ∀ q : Nat, s.heap.size ≤ q → Az q := fun q h => by rw [← hAe]; exact Or.inr h
  clear hAe
  have hSz : va_S Az s.heap s.heap [] := va_S.rf
  obtain ⟨wz, hw1⟩ : ∃ z : va_W, z = (wM cI cZ cJ ad x_thrown x_buffered x_given x_isFolding x_work x_rebuilt x_streamed x_reports x_gapFrom x_gapSize x_elements x_wholeSize x_isLaid y_x_takenMany a_buffer a_length a_bytes a_weight a_live a_size a_list a_moved a_planned a_stream a_reportedEnd a_reportedKeyword a_starts a_keywordAt a_element a_long1 a_head a_tail a_next a_skip a_last a_whole a_edges a_covers a_weighs a_numbers a_takes y_a_takenAt) := ⟨_, rfl⟩
  rw [← hw1]
  have hl := lv_entry ([.ref (ad 0)]) (n := 2) (Nat.le_of_ble_eq_true rfl)
  rw [show entryFrame m args 2 = entryFrame m ([.ref (ad 0)] : List Value).toArray 2 from by rw [hav], lg_entry_eq]
  generalize (lg_sl ([.ref (ad 0)]) ++ List.replicate (2 - (lg_sl ([.ref (ad 0)])).length) Slot.unset).toArray = ls at hl ⊢
  have hl : lv_has ls 2 [(0, .ref (ad 0))] := hl
  unfold s_X8_laysTaken at hs
  have Lz7 : ∀ (fu : Nat) (x_takenMany : Int) (a_takenAt : (Int → Int)) (l1 : Int) (y0 : Int) (y1 : (Int → Int)), s_X8_laysTaken_7 fu x_streamed x_takenMany a_length a_takes a_takenAt l1 = some (y0, y1) → ∀ (Hz : Heap) (lz : List Loc), va_P D vwCl (wM cI cZ cJ ad x_thrown x_buffered x_given x_isFolding x_work x_rebuilt x_streamed x_reports x_gapFrom x_gapSize x_elements x_wholeSize x_isLaid x_takenMany a_buffer a_length a_bytes a_weight a_live a_size a_list a_moved a_planned a_stream a_reportedEnd a_reportedKeyword a_starts a_keywordAt a_element a_long1 a_head a_tail a_next a_skip a_last a_whole a_edges a_covers a_weighs a_numbers a_takes a_takenAt) Hz → va_D Az (wM cI cZ cJ ad x_thrown x_buffered x_given x_isFolding x_work x_rebuilt x_streamed x_reports x_gapFrom x_gapSize x_elements x_wholeSize x_isLaid x_takenMany a_buffer a_length a_bytes a_weight a_live a_size a_list a_moved a_planned a_stream a_reportedEnd a_reportedKeyword a_starts a_keywordAt a_element a_long1 a_head a_tail a_next a_skip a_last a_whole a_edges a_covers a_weighs a_numbers a_takes a_takenAt) → va_S Az s.heap Hz lz → ∀ ls : Array Slot, lv_has ls 2 [(0, .ref (ad 0)), (1, .int (iI l1))] → (∀ (Hz : Heap) (lz : List Loc), va_P D vwCl (wM cI cZ cJ ad x_thrown x_buffered x_given x_isFolding x_work x_rebuilt x_streamed x_reports x_gapFrom x_gapSize x_elements x_wholeSize x_isLaid y0 a_buffer a_length a_bytes a_weight a_live a_size a_list a_moved a_planned a_stream a_reportedEnd a_reportedKeyword a_starts a_keywordAt a_element a_long1 a_head a_tail a_next a_skip a_last a_whole a_edges a_covers a_weighs a_numbers a_takes y1) Hz → va_D Az (wM cI cZ cJ ad x_thrown x_buffered x_given x_isFolding x_work x_rebuilt x_streamed x_reports x_gapFrom x_gapSize x_elements x_wholeSize x_isLaid y0 a_buffer a_length a_bytes a_weight a_live a_size a_list a_moved a_planned a_stream a_reportedEnd a_reportedKeyword a_starts a_keywordAt a_element a_long1 a_head a_tail a_next a_skip a_last a_whole a_edges a_covers a_weighs a_numbers a_takes y1) → va_S Az s.heap Hz lz → ∀ ls : Array Slot, lv_has ls 2 [] → W p l e (headSpec wsX8_laysTaken rm_X8_laysTaken).room s m args below meth c Hz lz 0 0 (MQ below (QW D vwCl none wz Az) args s 0 0 Az) (F0 m 68 ls [])) → W p l e (headSpec wsX8_laysTaken rm_X8_laysTaken).room s m args below meth c Hz lz 0 0 (MQ below (QW D vwCl none wz Az) args s 0 0 Az) (F0 m 7 ls []) := by
    intro fu
    induction fu with
    | zero => intro x_takenMany a_takenAt l1 y0 y1 hs; cases hs
    | succ fu ih =>
      intro x_takenMany a_takenAt l1 y0 y1 hs Hz lz hP hD hSz ls hl kx
      rw [s_X8_laysTaken_7_s] at hs
      refine lv_iload_n hx hb dX8_laysTaken_7 rfl (lv_at hl 1 rfl) ?_
      refine lv_aload_n hx hb dX8_laysTaken_8 rfl (lv_at hl 0 rfl) ?_
      refine va_get (ci := 8) (v := .int (iI x_streamed)) (C := RX8) (T := TX8) (N := 42) hx hb hts hiX8 hown hK hP 0 rfl rfl 18 (by decide) hf170 (fun _ h9 => h9) rfl dX8_laysTaken_9 ?_
      refine k_icmp_ge (tgt := 68) hx hb hs dX8_laysTaken_12 (by decide) (fun hs => ?_) (fun hs => ?_)
      · refine lv_aload_n hx hb dX8_laysTaken_15 rfl (lv_at hl 0 rfl) ?_
        refine va_get (ci := 8) (v := .ref (ad 27)) (C := RX8) (T := TX8) (N := 42) hx hb hts hiX8 hown hK hP 0 rfl rfl 39 (by decide) hf93 (fun _ h9 => h9) rfl dX8_laysTaken_16 ?_
        refine lv_iload_n hx hb dX8_laysTaken_19 rfl (lv_at hl 1 rfl) ?_
        refine k_iald hx hb hK hP 27 0 rfl rfl (Nat.le_of_ble_eq_true rfl) hs dX8_laysTaken_20 (fun vz1 hs => ?_)
        refine k_iconst (n := (-1)) hx hb dX8_laysTaken_21 ?_
        refine k_icmp_ne (tgt := 31) hx hb hs dX8_laysTaken_22 (by decide) (fun hs => ?_) (fun hs => ?_)
        · refine k_iinc (x := l1) (k := 1) (lv' := [(1, .int (iI (l1 + 1))), (0, .ref (ad 0))]) hx hb dX8_laysTaken_25 hl rfl (by decide) rfl (fun ls hl => ?_)
          refine lv_goto (tgt := 7) hx hb dX8_laysTaken_28 (by decide) ?_
          exact ih x_takenMany a_takenAt (l1 + 1) y0 y1 hs Hz lz hP hD hSz ls (lv_sub hl [1, 0] rfl) kx
        · refine lv_aload_n hx hb dX8_laysTaken_31 rfl (lv_at hl 0 rfl) ?_
          refine va_get (ci := 8) (v := .ref (ad 28)) (C := RX8) (T := TX8) (N := 42) hx hb hts hiX8 hown hK hP 0 rfl rfl 40 (by decide) hf96 (fun _ h9 => h9) rfl dX8_laysTaken_32 ?_
          refine lv_aload_n hx hb dX8_laysTaken_35 rfl (lv_at hl 0 rfl) ?_
          refine va_get (ci := 8) (v := .int (iI x_takenMany)) (C := RX8) (T := TX8) (N := 42) hx hb hts hiX8 hown hK hP 0 rfl rfl 41 (by decide) hf281 (fun _ h9 => h9) rfl dX8_laysTaken_36 ?_
          refine lv_iload_n hx hb dX8_laysTaken_39 rfl (lv_at hl 1 rfl) ?_
          refine k_iast hx hb hK hP hD hSz 28 0 rfl rfl (Nat.le_of_ble_eq_true rfl) hs dX8_laysTaken_40 (fun Hz lz hP hD hSz hs => ?_)
          have hP : va_P D vwCl (wM cI cZ cJ ad x_thrown x_buffered x_given x_isFolding x_work x_rebuilt x_streamed x_reports x_gapFrom x_gapSize x_elements x_wholeSize x_isLaid x_takenMany a_buffer a_length a_bytes a_weight a_live a_size a_list a_moved a_planned a_stream a_reportedEnd a_reportedKeyword a_starts a_keywordAt a_element a_long1 a_head a_tail a_next a_skip a_last a_whole a_edges a_covers a_weighs a_numbers a_takes (upA a_takenAt x_takenMany l1)) Hz := hP
          have hD : va_D Az (wM cI cZ cJ ad x_thrown x_buffered x_given x_isFolding x_work x_rebuilt x_streamed x_reports x_gapFrom x_gapSize x_elements x_wholeSize x_isLaid x_takenMany a_buffer a_length a_bytes a_weight a_live a_size a_list a_moved a_planned a_stream a_reportedEnd a_reportedKeyword a_starts a_keywordAt a_element a_long1 a_head a_tail a_next a_skip a_last a_whole a_edges a_covers a_weighs a_numbers a_takes (upA a_takenAt x_takenMany l1)) := hD
          refine lv_aload_n hx hb dX8_laysTaken_41 rfl (lv_at hl 0 rfl) ?_
          refine lv_dup hx hb dX8_laysTaken_42 rfl ?_
          refine va_get (ci := 8) (v := .int (iI x_takenMany)) (C := RX8) (T := TX8) (N := 42) hx hb hts hiX8 hown hK hP 0 rfl rfl 41 (by decide) hf281 (fun _ h9 => h9) rfl dX8_laysTaken_43 ?_
          refine k_iconst (n := 1) hx hb dX8_laysTaken_46 ?_
          refine k_iadd hx hb dX8_laysTaken_47 ?_
          refine va_put (ci := 8) (v := .int (iI (x_takenMany + 1))) (ty := .int) (C := RX8) (T := TX8) (N := 42) hx hb hts hiX8 tyX8 tyX8_ok nmX8 hown hK hP hD hSz 0 rfl rfl 41 (by decide) hf281 (fun _ h9 => h9) rfl (by decide +kernel) rfl rfl (Nat.le_of_ble_eq_true rfl) dX8_laysTaken_48 (fun Hz lz hP hD hSz => ?_)
          have hP : va_P D vwCl (wM cI cZ cJ ad x_thrown x_buffered x_given x_isFolding x_work x_rebuilt x_streamed x_reports x_gapFrom x_gapSize x_elements x_wholeSize x_isLaid (x_takenMany + 1) a_buffer a_length a_bytes a_weight a_live a_size a_list a_moved a_planned a_stream a_reportedEnd a_reportedKeyword a_starts a_keywordAt a_element a_long1 a_head a_tail a_next a_skip a_last a_whole a_edges a_covers a_weighs a_numbers a_takes (upA a_takenAt x_takenMany l1)) Hz := hP
          have hD : va_D Az (wM cI cZ cJ ad x_thrown x_buffered x_given x_isFolding x_work x_rebuilt x_streamed x_reports x_gapFrom x_gapSize x_elements x_wholeSize x_isLaid (x_takenMany + 1) a_buffer a_length a_bytes a_weight a_live a_size a_list a_moved a_planned a_stream a_reportedEnd a_reportedKeyword a_starts a_keywordAt a_element a_long1 a_head a_tail a_next a_skip a_last a_whole a_edges a_covers a_weighs a_numbers a_takes (upA a_takenAt x_takenMany l1)) := hD
          refine lv_iload_n hx hb dX8_laysTaken_51 rfl (lv_at hl 1 rfl) ?_
          refine lv_aload_n hx hb dX8_laysTaken_52 rfl (lv_at hl 0 rfl) ?_
          refine va_get (ci := 8) (v := .ref (ad 2)) (C := RX8) (T := TX8) (N := 42) hx hb hts hiX8 hown hK hP 0 rfl rfl 3 (by decide) hf17 (fun _ h9 => h9) rfl dX8_laysTaken_53 ?_
          refine lv_aload_n hx hb dX8_laysTaken_56 rfl (lv_at hl 0 rfl) ?_
          refine va_get (ci := 8) (v := .ref (ad 27)) (C := RX8) (T := TX8) (N := 42) hx hb hts hiX8 hown hK hP 0 rfl rfl 39 (by decide) hf93 (fun _ h9 => h9) rfl dX8_laysTaken_57 ?_
          refine lv_iload_n hx hb dX8_laysTaken_60 rfl (lv_at hl 1 rfl) ?_
          refine k_iald hx hb hK hP 27 0 rfl rfl (Nat.le_of_ble_eq_true rfl) hs dX8_laysTaken_61 (fun vz2 hs => ?_)
          refine k_iald hx hb hK hP 2 0 rfl rfl (Nat.le_of_ble_eq_true rfl) hs dX8_laysTaken_62 (fun vz3 hs => ?_)
          refine k_iadd hx hb dX8_laysTaken_63 ?_
          refine lv_istore_n (lv' := [(1, .int (iI (l1 + vz3))), (0, .ref (ad 0))]) hx hb dX8_laysTaken_64 rfl hl (by decide) rfl (fun ls hl => ?_)
          refine lv_goto (tgt := 7) hx hb dX8_laysTaken_65 (by decide) ?_
          exact ih (x_takenMany + 1) (upA a_takenAt x_takenMany l1) (l1 + vz3) y0 y1 hs Hz lz hP hD hSz ls (lv_sub hl [1, 0] rfl) kx
      · cases hs
        exact kx Hz lz hP hD hSz ls (lv_sub hl [] rfl)
  refine (?_ : ∀ (Hz : Heap) (lz : List Loc), va_P D vwCl (wM cI cZ cJ ad x_thrown x_buffered x_given x_isFolding x_work x_rebuilt x_streamed x_reports x_gapFrom x_gapSize x_elements x_wholeSize x_isLaid x_takenMany a_buffer a_length a_bytes a_weight a_live a_size a_list a_moved a_planned a_stream a_reportedEnd a_reportedKeyword a_starts a_keywordAt a_element a_long1 a_head a_tail a_next a_skip a_last a_whole a_edges a_covers a_weighs a_numbers a_takes a_takenAt) Hz → va_D Az (wM cI cZ cJ ad x_thrown x_buffered x_given x_isFolding x_work x_rebuilt x_streamed x_reports x_gapFrom x_gapSize x_elements x_wholeSize x_isLaid x_takenMany a_buffer a_length a_bytes a_weight a_live a_size a_list a_moved a_planned a_stream a_reportedEnd a_reportedKeyword a_starts a_keywordAt a_element a_long1 a_head a_tail a_next a_skip a_last a_whole a_edges a_covers a_weighs a_numbers a_takes a_takenAt) → va_S Az s.heap Hz lz → W p l e (headSpec wsX8_laysTaken rm_X8_laysTaken).room s m args below meth c Hz lz 0 0 (MQ below (QW D vwCl none wz Az) args s 0 0 Az) (F0 m 0 ls [])) s.heap [] hP hD hSz
  intro Hz lz hP hD hSz
  refine lv_aload_n hx hb dX8_laysTaken_0 rfl (lv_at hl 0 rfl) ?_
  refine k_iconst (n := 0) hx hb dX8_laysTaken_1 ?_
  refine va_put (ci := 8) (v := .int (iI 0)) (ty := .int) (C := RX8) (T := TX8) (N := 42) hx hb hts hiX8 tyX8 tyX8_ok nmX8 hown hK hP hD hSz 0 rfl rfl 41 (by decide) hf281 (fun _ h9 => h9) rfl (by decide +kernel) rfl rfl (Nat.le_of_ble_eq_true rfl) dX8_laysTaken_2 (fun Hz lz hP hD hSz => ?_)
  have hP : va_P D vwCl (wM cI cZ cJ ad x_thrown x_buffered x_given x_isFolding x_work x_rebuilt x_streamed x_reports x_gapFrom x_gapSize x_elements x_wholeSize x_isLaid 0 a_buffer a_length a_bytes a_weight a_live a_size a_list a_moved a_planned a_stream a_reportedEnd a_reportedKeyword a_starts a_keywordAt a_element a_long1 a_head a_tail a_next a_skip a_last a_whole a_edges a_covers a_weighs a_numbers a_takes a_takenAt) Hz := hP
  have hD : va_D Az (wM cI cZ cJ ad x_thrown x_buffered x_given x_isFolding x_work x_rebuilt x_streamed x_reports x_gapFrom x_gapSize x_elements x_wholeSize x_isLaid 0 a_buffer a_length a_bytes a_weight a_live a_size a_list a_moved a_planned a_stream a_reportedEnd a_reportedKeyword a_starts a_keywordAt a_element a_long1 a_head a_tail a_next a_skip a_last a_whole a_edges a_covers a_weighs a_numbers a_takes a_takenAt) := hD
  refine k_iconst (n := 0) hx hb dX8_laysTaken_5 ?_
  refine lv_istore_n (lv' := [(1, .int (iI 0)), (0, .ref (ad 0))]) hx hb dX8_laysTaken_6 rfl hl (by decide) rfl (fun ls hl => ?_)
  obtain ⟨ez4, ez5, hq, hs⟩ := bd2_some hs
  refine Lz7 FU 0 a_takenAt 0 ez4 ez5 hq Hz lz hP hD hSz ls (lv_sub hl [1, 0] rfl) ?_
  intro Hz lz hP hD hSz ls hl
  cases hs
  exact k_vret_w hx hb hr hlk (by rw [hw1]; exact hP) hSz dX8_laysTaken_68 rfl
/-! X8_taken -/
set_option maxHeartbeats 4000000 in
set_option maxRecDepth 100000 in
theorem c_X8_taken (l : Launch) (D : va_G) (cI cZ cJ : ClassId) {ad : Nat → Nat} {x_thrown : Int} {x_buffered : Int} {x_given : Int} {x_isFolding : Int} {x_work : Int} {x_rebuilt : Int} {x_streamed : Int} {x_reports : Int} {x_gapFrom : Int} {x_gapSize : Int} {x_elements : Int} {x_wholeSize : Int} {x_isLaid : Int} {x_takenMany : Int} {a_buffer : (Int → Int)} {a_length : (Int → Int)} {a_bytes : (Int → Int)} {a_weight : (Int → Int)} {a_live : (Int → Int)} {a_size : (Int → Int)} {a_list : (Int → Int)} {a_moved : (Int → Int)} {a_planned : (Int → Int)} {a_stream : (Int → Int)} {a_reportedEnd : (Int → Int)} {a_reportedKeyword : (Int → Int)} {a_starts : (Int → Int)} {a_keywordAt : (Int → Int)} {a_element : (Int → Int)} {a_long1 : (Int → Int)} {a_head : (Int → Int)} {a_tail : (Int → Int)} {a_next : (Int → Int)} {a_skip : (Int → Int)} {a_last : (Int → Int)} {a_whole : (Int → Int)} {a_edges : (Int → Int)} {a_covers : (Int → Int)} {a_weighs : (Int → Int)} {a_numbers : (Int → Int)} {a_takes : (Int → Int)} {a_takenAt : (Int → Int)} {pz1 : Int} {pz2 : Int} {r : Int} {y_x_takenMany : Int} {y_a_takenAt : (Int → Int)} {sz : Nat} (hs : s_X8_taken x_streamed x_takenMany a_length a_takes a_takenAt pz1 pz2 = some (r, y_x_takenMany, y_a_takenAt)) : Met l yX8_taken wsX8_taken rm_X8_taken (PW D vwCl [(cI, .int), (cZ, .boolean), (cJ, .long)] [.ref (ad 0), .int (iI pz1), .int (iI pz2)] (wM cI cZ cJ ad x_thrown x_buffered x_given x_isFolding x_work x_rebuilt x_streamed x_reports x_gapFrom x_gapSize x_elements x_wholeSize x_isLaid x_takenMany a_buffer a_length a_bytes a_weight a_live a_size a_list a_moved a_planned a_stream a_reportedEnd a_reportedKeyword a_starts a_keywordAt a_element a_long1 a_head a_tail a_next a_skip a_last a_whole a_edges a_covers a_weighs a_numbers a_takes a_takenAt) sz) (QW D vwCl (some (.int (iI r))) (wM cI cZ cJ ad x_thrown x_buffered x_given x_isFolding x_work x_rebuilt x_streamed x_reports x_gapFrom x_gapSize x_elements x_wholeSize x_isLaid y_x_takenMany a_buffer a_length a_bytes a_weight a_live a_size a_list a_moved a_planned a_stream a_reportedEnd a_reportedKeyword a_starts a_keywordAt a_element a_long1 a_head a_tail a_next a_skip a_last a_whole a_edges a_covers a_weighs a_numbers a_takes y_a_takenAt) (va_A (wM cI cZ cJ ad x_thrown x_buffered x_given x_isFolding x_work x_rebuilt x_streamed x_reports x_gapFrom x_gapSize x_elements x_wholeSize x_isLaid x_takenMany a_buffer a_length a_bytes a_weight a_live a_size a_list a_moved a_planned a_stream a_reportedEnd a_reportedKeyword a_starts a_keywordAt a_element a_long1 a_head a_tail a_next a_skip a_last a_whole a_edges a_covers a_weighs a_numbers a_takes a_takenAt) sz)) 0 0 (va_A (wM cI cZ cJ ad x_thrown x_buffered x_given x_isFolding x_work x_rebuilt x_streamed x_reports x_gapFrom x_gapSize x_elements x_wholeSize x_isLaid x_takenMany a_buffer a_length a_bytes a_weight a_live a_size a_list a_moved a_planned a_stream a_reportedEnd a_reportedKeyword a_starts a_keywordAt a_element a_long1 a_head a_tail a_next a_skip a_last a_whole a_edges a_covers a_weighs a_numbers a_takes a_takenAt) sz) := by
  refine Met.ofW (cc := cX8_taken) (maxL := 3) (ret := (some .int)) (by decide) rfl ?_
  intro p e s m args below meth c s₁ B hml hv
  obtain ⟨hav, hsz, hP, hK, hD0⟩ := hv
  have hx := B.exec
  have hb := B.bytes
  have hr := B.returns
  have hts := atoms_spec (ws := wsX8_taken) B.pre
  have hown : s.vm.findClass RX8 = some m.cls := findClass_of_methodNamed B.named
  have hlk := B.notSynchronized
  have hf281 : (Cond.fieldLink RX8 281 "KeywordMatcherModel" "takenMany" "I").before args s = true := hts _ (List.mem_of_getElem? (i := 1) rfl)
  have hiX8 : ∀ w ∈ wsX80, w ∈ wsX8_taken := fun w h => List.mem_cons_of_mem _ (List.mem_append_right _ h)
  have hf93 : (Cond.fieldLink RX8 93 "KeywordMatcherModel" "takes" "[I").before args s = true := hts _ (List.mem_of_getElem? (i := 3) rfl)
  have hf96 : (Cond.fieldLink RX8 96 "KeywordMatcherModel" "takenAt" "[I").before args s = true := hts _ (List.mem_of_getElem? (i := 2) rfl)
  subst hsz
  have hD := hD0.self (sz := s.heap.size)
  generalize hAe : va_A (wM cI cZ cJ ad x_thrown x_buffered x_given x_isFolding x_work x_rebuilt x_streamed x_reports x_gapFrom x_gapSize x_elements x_wholeSize x_isLaid x_takenMany a_buffer a_length a_bytes a_weight a_live a_size a_list a_moved a_planned a_stream a_reportedEnd a_reportedKeyword a_starts a_keywordAt a_element a_long1 a_head a_tail a_next a_skip a_last a_whole a_edges a_covers a_weighs a_numbers a_takes a_takenAt) s.heap.size = Az at hD ⊢
  have hA : ∀ q : Nat, s.heap.size ≤ q → Az q := fun q h => by rw [← hAe]; exact Or.inr h
  clear hAe
  have hSz : va_S Az s.heap s.heap [] := va_S.rf
  obtain ⟨wz, hw1⟩ : ∃ z : va_W, z = (wM cI cZ cJ ad x_thrown x_buffered x_given x_isFolding x_work x_rebuilt x_streamed x_reports x_gapFrom x_gapSize x_elements x_wholeSize x_isLaid y_x_takenMany a_buffer a_length a_bytes a_weight a_live a_size a_list a_moved a_planned a_stream a_reportedEnd a_reportedKeyword a_starts a_keywordAt a_element a_long1 a_head a_tail a_next a_skip a_last a_whole a_edges a_covers a_weighs a_numbers a_takes y_a_takenAt) := ⟨_, rfl⟩
  rw [← hw1]
  have hl := lv_entry ([.ref (ad 0), .int (iI pz1), .int (iI pz2)]) (n := 3) (Nat.le_of_ble_eq_true rfl)
  rw [show entryFrame m args 3 = entryFrame m ([.ref (ad 0), .int (iI pz1), .int (iI pz2)] : List Value).toArray 3 from by rw [hav], lg_entry_eq]
  generalize (lg_sl ([.ref (ad 0), .int (iI pz1), .int (iI pz2)]) ++ List.replicate (3 - (lg_sl ([.ref (ad 0), .int (iI pz1), .int (iI pz2)])).length) Slot.unset).toArray = ls at hl ⊢
  have hl : lv_has ls 3 [(0, .ref (ad 0)), (1, .int (iI pz1)), (2, .int (iI pz2))] := hl
  unfold s_X8_taken at hs
  refine (?_ : ∀ (Hz : Heap) (lz : List Loc), va_P D vwCl (wM cI cZ cJ ad x_thrown x_buffered x_given x_isFolding x_work x_rebuilt x_streamed x_reports x_gapFrom x_gapSize x_elements x_wholeSize x_isLaid x_takenMany a_buffer a_length a_bytes a_weight a_live a_size a_list a_moved a_planned a_stream a_reportedEnd a_reportedKeyword a_starts a_keywordAt a_element a_long1 a_head a_tail a_next a_skip a_last a_whole a_edges a_covers a_weighs a_numbers a_takes a_takenAt) Hz → va_D Az (wM cI cZ cJ ad x_thrown x_buffered x_given x_isFolding x_work x_rebuilt x_streamed x_reports x_gapFrom x_gapSize x_elements x_wholeSize x_isLaid x_takenMany a_buffer a_length a_bytes a_weight a_live a_size a_list a_moved a_planned a_stream a_reportedEnd a_reportedKeyword a_starts a_keywordAt a_element a_long1 a_head a_tail a_next a_skip a_last a_whole a_edges a_covers a_weighs a_numbers a_takes a_takenAt) → va_S Az s.heap Hz lz → W p l e (headSpec wsX8_taken rm_X8_taken).room s m args below meth c Hz lz 0 0 (MQ below (QW D vwCl (some (.int (iI r))) wz Az) args s 0 0 Az) (F0 m 0 ls [])) s.heap [] hP hD hSz
  intro Hz lz hP hD hSz
  refine lv_iload_n hx hb dX8_taken_0 rfl (lv_at hl 1 rfl) ?_
  refine k_if_ge (tgt := 7) hx hb hs dX8_taken_1 (by decide) (fun hs => ?_) (fun hs => ?_)
  · refine k_bipush (n := (-3)) hx hb (by decide) dX8_taken_4 ?_
    cases hs
    exact k_iret_w hx hb hr hlk (by rw [hw1]; exact hP) hSz dX8_taken_6 rfl
  · refine lv_aload_n hx hb dX8_taken_7 rfl (lv_at hl 0 rfl) ?_
    obtain ⟨vz1, vz2, hcz, hs⟩ := bd2_some hs
    refine k_wVs (As := []) (rest := []) (st1 := []) (w1 := (wM cI cZ cJ ad x_thrown x_buffered x_given x_isFolding x_work x_rebuilt x_streamed x_reports x_gapFrom x_gapSize x_elements x_wholeSize x_isLaid vz1 a_buffer a_length a_bytes a_weight a_live a_size a_list a_moved a_planned a_stream a_reportedEnd a_reportedKeyword a_starts a_keywordAt a_element a_long1 a_head a_tail a_next a_skip a_last a_whole a_edges a_covers a_weighs a_numbers a_takes vz2)) ⟨hx, hb, hml, hown, hts⟩ hK hP hD hSz hA (c_X8_laysTaken l D cI cZ cJ hcz) (cwV 0 hts gX8_taken_X8_laysTaken rfl rfl rfl (by decide +kernel) ⟨Nat.le_of_ble_eq_true rfl, Nat.le_of_ble_eq_true rfl⟩) 0 rfl rfl rfl rfl rfl hl.1 rfl (lv_room (Nat.le_of_ble_eq_true rfl)) dX8_taken_8 ⟨Nat.zero_le _, Nat.zero_le _⟩ rfl (fun Hz lz hP hD hSz => ?_)
    have hP : va_P D vwCl (wM cI cZ cJ ad x_thrown x_buffered x_given x_isFolding x_work x_rebuilt x_streamed x_reports x_gapFrom x_gapSize x_elements x_wholeSize x_isLaid vz1 a_buffer a_length a_bytes a_weight a_live a_size a_list a_moved a_planned a_stream a_reportedEnd a_reportedKeyword a_starts a_keywordAt a_element a_long1 a_head a_tail a_next a_skip a_last a_whole a_edges a_covers a_weighs a_numbers a_takes vz2) Hz := hP
    have hD : va_D Az (wM cI cZ cJ ad x_thrown x_buffered x_given x_isFolding x_work x_rebuilt x_streamed x_reports x_gapFrom x_gapSize x_elements x_wholeSize x_isLaid vz1 a_buffer a_length a_bytes a_weight a_live a_size a_list a_moved a_planned a_stream a_reportedEnd a_reportedKeyword a_starts a_keywordAt a_element a_long1 a_head a_tail a_next a_skip a_last a_whole a_edges a_covers a_weighs a_numbers a_takes vz2) := hD
    refine lv_iload_n hx hb dX8_taken_11 rfl (lv_at hl 1 rfl) ?_
    refine lv_aload_n hx hb dX8_taken_12 rfl (lv_at hl 0 rfl) ?_
    refine va_get (ci := 8) (v := .int (iI vz1)) (C := RX8) (T := TX8) (N := 42) hx hb hts hiX8 hown hK hP 0 rfl rfl 41 (by decide) hf281 (fun _ h9 => h9) rfl dX8_taken_13 ?_
    refine k_icmp_lt (tgt := 23) hx hb hs dX8_taken_16 (by decide) (fun hs => ?_) (fun hs => ?_)
    · refine lv_iload_n hx hb dX8_taken_23 rfl (lv_at hl 2 rfl) ?_
      refine k_if_eq (tgt := 36) hx hb hs dX8_taken_24 (by decide) (fun hs => ?_) (fun hs => ?_)
      · refine lv_aload_n hx hb dX8_taken_36 rfl (lv_at hl 0 rfl) ?_
        refine va_get (ci := 8) (v := .ref (ad 27)) (C := RX8) (T := TX8) (N := 42) hx hb hts hiX8 hown hK hP 0 rfl rfl 39 (by decide) hf93 (fun _ h9 => h9) rfl dX8_taken_37 ?_
        refine lv_aload_n hx hb dX8_taken_40 rfl (lv_at hl 0 rfl) ?_
        refine va_get (ci := 8) (v := .ref (ad 28)) (C := RX8) (T := TX8) (N := 42) hx hb hts hiX8 hown hK hP 0 rfl rfl 40 (by decide) hf96 (fun _ h9 => h9) rfl dX8_taken_41 ?_
        refine lv_iload_n hx hb dX8_taken_44 rfl (lv_at hl 1 rfl) ?_
        refine k_iald hx hb hK hP 28 0 rfl rfl (Nat.le_of_ble_eq_true rfl) hs dX8_taken_45 (fun vz3 hs => ?_)
        refine k_iald hx hb hK hP 27 0 rfl rfl (Nat.le_of_ble_eq_true rfl) hs dX8_taken_46 (fun vz4 hs => ?_)
        cases hs
        exact k_iret_w hx hb hr hlk (by rw [hw1]; exact hP) hSz dX8_taken_47 rfl
      · refine lv_aload_n hx hb dX8_taken_27 rfl (lv_at hl 0 rfl) ?_
        refine va_get (ci := 8) (v := .ref (ad 28)) (C := RX8) (T := TX8) (N := 42) hx hb hts hiX8 hown hK hP 0 rfl rfl 40 (by decide) hf96 (fun _ h9 => h9) rfl dX8_taken_28 ?_
        refine lv_iload_n hx hb dX8_taken_31 rfl (lv_at hl 1 rfl) ?_
        refine k_iald hx hb hK hP 28 0 rfl rfl (Nat.le_of_ble_eq_true rfl) hs dX8_taken_32 (fun vz5 hs => ?_)
        refine lv_goto (tgt := 47) hx hb dX8_taken_33 (by decide) ?_
        cases hs
        exact k_iret_w hx hb hr hlk (by rw [hw1]; exact hP) hSz dX8_taken_47 rfl
    · refine k_iconst (n := (-1)) hx hb dX8_taken_19 ?_
      refine lv_goto (tgt := 47) hx hb dX8_taken_20 (by decide) ?_
      cases hs
      exact k_iret_w hx hb hr hlk (by rw [hw1]; exact hP) hSz dX8_taken_47 rfl
/-! X8_coverStart -/
set_option maxHeartbeats 4000000 in
set_option maxRecDepth 100000 in
theorem c_X8_coverStart (l : Launch) (D : va_G) (cI cZ cJ : ClassId) {ad : Nat → Nat} {x_thrown : Int} {x_buffered : Int} {x_given : Int} {x_isFolding : Int} {x_work : Int} {x_rebuilt : Int} {x_streamed : Int} {x_reports : Int} {x_gapFrom : Int} {x_gapSize : Int} {x_elements : Int} {x_wholeSize : Int} {x_isLaid : Int} {x_takenMany : Int} {a_buffer : (Int → Int)} {a_length : (Int → Int)} {a_bytes : (Int → Int)} {a_weight : (Int → Int)} {a_live : (Int → Int)} {a_size : (Int → Int)} {a_list : (Int → Int)} {a_moved : (Int → Int)} {a_planned : (Int → Int)} {a_stream : (Int → Int)} {a_reportedEnd : (Int → Int)} {a_reportedKeyword : (Int → Int)} {a_starts : (Int → Int)} {a_keywordAt : (Int → Int)} {a_element : (Int → Int)} {a_long1 : (Int → Int)} {a_head : (Int → Int)} {a_tail : (Int → Int)} {a_next : (Int → Int)} {a_skip : (Int → Int)} {a_last : (Int → Int)} {a_whole : (Int → Int)} {a_edges : (Int → Int)} {a_covers : (Int → Int)} {a_weighs : (Int → Int)} {a_numbers : (Int → Int)} {a_takes : (Int → Int)} {a_takenAt : (Int → Int)} {pz1 : Int} {r : Int} {y_x_thrown : Int} {y_x_takenMany : Int} {y_a_starts : (Int → Int)} {y_a_keywordAt : (Int → Int)} {y_a_covers : (Int → Int)} {y_a_weighs : (Int → Int)} {y_a_numbers : (Int → Int)} {y_a_takes : (Int → Int)} {y_a_takenAt : (Int → Int)} {sz : Nat} (hs : s_X8_coverStart x_thrown x_given x_isFolding x_streamed x_takenMany a_length a_bytes a_weight a_live a_stream a_starts a_keywordAt a_covers a_weighs a_numbers a_takes a_takenAt pz1 = some (r, y_x_thrown, y_x_takenMany, y_a_starts, y_a_keywordAt, y_a_covers, y_a_weighs, y_a_numbers, y_a_takes, y_a_takenAt)) : Met l yX8_coverStart wsX8_coverStart rm_X8_coverStart (PW D vwCl [(cI, .int), (cZ, .boolean), (cJ, .long)] [.ref (ad 0), .int (iI pz1)] (wM cI cZ cJ ad x_thrown x_buffered x_given x_isFolding x_work x_rebuilt x_streamed x_reports x_gapFrom x_gapSize x_elements x_wholeSize x_isLaid x_takenMany a_buffer a_length a_bytes a_weight a_live a_size a_list a_moved a_planned a_stream a_reportedEnd a_reportedKeyword a_starts a_keywordAt a_element a_long1 a_head a_tail a_next a_skip a_last a_whole a_edges a_covers a_weighs a_numbers a_takes a_takenAt) sz) (QW D vwCl (some (.int (iI r))) (wM cI cZ cJ ad y_x_thrown x_buffered x_given x_isFolding x_work x_rebuilt x_streamed x_reports x_gapFrom x_gapSize x_elements x_wholeSize x_isLaid y_x_takenMany a_buffer a_length a_bytes a_weight a_live a_size a_list a_moved a_planned a_stream a_reportedEnd a_reportedKeyword y_a_starts y_a_keywordAt a_element a_long1 a_head a_tail a_next a_skip a_last a_whole a_edges y_a_covers y_a_weighs y_a_numbers y_a_takes y_a_takenAt) (va_A (wM cI cZ cJ ad x_thrown x_buffered x_given x_isFolding x_work x_rebuilt x_streamed x_reports x_gapFrom x_gapSize x_elements x_wholeSize x_isLaid x_takenMany a_buffer a_length a_bytes a_weight a_live a_size a_list a_moved a_planned a_stream a_reportedEnd a_reportedKeyword a_starts a_keywordAt a_element a_long1 a_head a_tail a_next a_skip a_last a_whole a_edges a_covers a_weighs a_numbers a_takes a_takenAt) sz)) 0 0 (va_A (wM cI cZ cJ ad x_thrown x_buffered x_given x_isFolding x_work x_rebuilt x_streamed x_reports x_gapFrom x_gapSize x_elements x_wholeSize x_isLaid x_takenMany a_buffer a_length a_bytes a_weight a_live a_size a_list a_moved a_planned a_stream a_reportedEnd a_reportedKeyword a_starts a_keywordAt a_element a_long1 a_head a_tail a_next a_skip a_last a_whole a_edges a_covers a_weighs a_numbers a_takes a_takenAt) sz) := by
  refine Met.ofW (cc := cX8_coverStart) (maxL := 2) (ret := (some .int)) (by decide) rfl ?_
  intro p e s m args below meth c s₁ B hml hv
  obtain ⟨hav, hsz, hP, hK, hD0⟩ := hv
  have hx := B.exec
  have hb := B.bytes
  have hr := B.returns
  have hts := atoms_spec (ws := wsX8_coverStart) B.pre
  have hown : s.vm.findClass RX8 = some m.cls := findClass_of_methodNamed B.named
  have hlk := B.notSynchronized
  have hf1 : (Cond.fieldLink RX8 1 "KeywordMatcherModel" "thrown" "I").before args s = true := hts _ (List.mem_of_getElem? (i := 1) rfl)
  have hiX8 : ∀ w ∈ wsX80, w ∈ wsX8_coverStart := fun w h => List.mem_cons_of_mem _ (List.mem_append_right _ h)
  subst hsz
  have hD := hD0.self (sz := s.heap.size)
  generalize hAe : va_A (wM cI cZ cJ ad x_thrown x_buffered x_given x_isFolding x_work x_rebuilt x_streamed x_reports x_gapFrom x_gapSize x_elements x_wholeSize x_isLaid x_takenMany a_buffer a_length a_bytes a_weight a_live a_size a_list a_moved a_planned a_stream a_reportedEnd a_reportedKeyword a_starts a_keywordAt a_element a_long1 a_head a_tail a_next a_skip a_last a_whole a_edges a_covers a_weighs a_numbers a_takes a_takenAt) s.heap.size = Az at hD ⊢
  have hA : ∀ q : Nat, s.heap.size ≤ q → Az q := fun q h => by rw [← hAe]; exact Or.inr h
  clear hAe
  have hSz : va_S Az s.heap s.heap [] := va_S.rf
  obtain ⟨wz, hw1⟩ : ∃ z : va_W, z = (wM cI cZ cJ ad y_x_thrown x_buffered x_given x_isFolding x_work x_rebuilt x_streamed x_reports x_gapFrom x_gapSize x_elements x_wholeSize x_isLaid y_x_takenMany a_buffer a_length a_bytes a_weight a_live a_size a_list a_moved a_planned a_stream a_reportedEnd a_reportedKeyword y_a_starts y_a_keywordAt a_element a_long1 a_head a_tail a_next a_skip a_last a_whole a_edges y_a_covers y_a_weighs y_a_numbers y_a_takes y_a_takenAt) := ⟨_, rfl⟩
  rw [← hw1]
  have hl := lv_entry ([.ref (ad 0), .int (iI pz1)]) (n := 2) (Nat.le_of_ble_eq_true rfl)
  rw [show entryFrame m args 2 = entryFrame m ([.ref (ad 0), .int (iI pz1)] : List Value).toArray 2 from by rw [hav], lg_entry_eq]
  generalize (lg_sl ([.ref (ad 0), .int (iI pz1)]) ++ List.replicate (2 - (lg_sl ([.ref (ad 0), .int (iI pz1)])).length) Slot.unset).toArray = ls at hl ⊢
  have hl : lv_has ls 2 [(0, .ref (ad 0)), (1, .int (iI pz1))] := hl
  unfold s_X8_coverStart at hs
  refine (?_ : ∀ (Hz : Heap) (lz : List Loc), va_P D vwCl (wM cI cZ cJ ad x_thrown x_buffered x_given x_isFolding x_work x_rebuilt x_streamed x_reports x_gapFrom x_gapSize x_elements x_wholeSize x_isLaid x_takenMany a_buffer a_length a_bytes a_weight a_live a_size a_list a_moved a_planned a_stream a_reportedEnd a_reportedKeyword a_starts a_keywordAt a_element a_long1 a_head a_tail a_next a_skip a_last a_whole a_edges a_covers a_weighs a_numbers a_takes a_takenAt) Hz → va_D Az (wM cI cZ cJ ad x_thrown x_buffered x_given x_isFolding x_work x_rebuilt x_streamed x_reports x_gapFrom x_gapSize x_elements x_wholeSize x_isLaid x_takenMany a_buffer a_length a_bytes a_weight a_live a_size a_list a_moved a_planned a_stream a_reportedEnd a_reportedKeyword a_starts a_keywordAt a_element a_long1 a_head a_tail a_next a_skip a_last a_whole a_edges a_covers a_weighs a_numbers a_takes a_takenAt) → va_S Az s.heap Hz lz → W p l e (headSpec wsX8_coverStart rm_X8_coverStart).room s m args below meth c Hz lz 0 0 (MQ below (QW D vwCl (some (.int (iI r))) wz Az) args s 0 0 Az) (F0 m 0 ls [])) s.heap [] hP hD hSz
  intro Hz lz hP hD hSz
  refine lv_aload_n hx hb dX8_coverStart_0 rfl (lv_at hl 0 rfl) ?_
  refine k_iconst (n := 0) hx hb dX8_coverStart_1 ?_
  refine va_put (ci := 8) (v := .int (iI 0)) (ty := .int) (C := RX8) (T := TX8) (N := 42) hx hb hts hiX8 tyX8 tyX8_ok nmX8 hown hK hP hD hSz 0 rfl rfl 0 (by decide) hf1 (fun _ h9 => h9) rfl (by decide +kernel) rfl rfl (Nat.le_of_ble_eq_true rfl) dX8_coverStart_2 (fun Hz lz hP hD hSz => ?_)
  have hP : va_P D vwCl (wM cI cZ cJ ad 0 x_buffered x_given x_isFolding x_work x_rebuilt x_streamed x_reports x_gapFrom x_gapSize x_elements x_wholeSize x_isLaid x_takenMany a_buffer a_length a_bytes a_weight a_live a_size a_list a_moved a_planned a_stream a_reportedEnd a_reportedKeyword a_starts a_keywordAt a_element a_long1 a_head a_tail a_next a_skip a_last a_whole a_edges a_covers a_weighs a_numbers a_takes a_takenAt) Hz := hP
  have hD : va_D Az (wM cI cZ cJ ad 0 x_buffered x_given x_isFolding x_work x_rebuilt x_streamed x_reports x_gapFrom x_gapSize x_elements x_wholeSize x_isLaid x_takenMany a_buffer a_length a_bytes a_weight a_live a_size a_list a_moved a_planned a_stream a_reportedEnd a_reportedKeyword a_starts a_keywordAt a_element a_long1 a_head a_tail a_next a_skip a_last a_whole a_edges a_covers a_weighs a_numbers a_takes a_takenAt) := hD
  refine lv_aload_n hx hb dX8_coverStart_5 rfl (lv_at hl 0 rfl) ?_
  obtain ⟨vz1, vz2, vz3, vz4, vz5, vz6, hcz, hs⟩ := bd6_some hs
  refine k_wVs (As := []) (rest := []) (st1 := []) (w1 := (wM cI cZ cJ ad 0 x_buffered x_given x_isFolding x_work x_rebuilt x_streamed x_reports x_gapFrom x_gapSize x_elements x_wholeSize x_isLaid x_takenMany a_buffer a_length a_bytes a_weight a_live a_size a_list a_moved a_planned a_stream a_reportedEnd a_reportedKeyword vz1 vz2 a_element a_long1 a_head a_tail a_next a_skip a_last a_whole a_edges vz3 vz4 vz5 vz6 a_takenAt)) ⟨hx, hb, hml, hown, hts⟩ hK hP hD hSz hA (c_X8_laysCover l D cI cZ cJ hcz) (cwV 0 hts gX8_coverStart_X8_laysCover rfl rfl rfl (by decide +kernel) ⟨Nat.le_of_ble_eq_true rfl, Nat.le_of_ble_eq_true rfl⟩) 0 rfl rfl rfl rfl rfl hl.1 rfl (lv_room (Nat.le_of_ble_eq_true rfl)) dX8_coverStart_6 ⟨Nat.zero_le _, Nat.zero_le _⟩ rfl (fun Hz lz hP hD hSz => ?_)
  have hP : va_P D vwCl (wM cI cZ cJ ad 0 x_buffered x_given x_isFolding x_work x_rebuilt x_streamed x_reports x_gapFrom x_gapSize x_elements x_wholeSize x_isLaid x_takenMany a_buffer a_length a_bytes a_weight a_live a_size a_list a_moved a_planned a_stream a_reportedEnd a_reportedKeyword vz1 vz2 a_element a_long1 a_head a_tail a_next a_skip a_last a_whole a_edges vz3 vz4 vz5 vz6 a_takenAt) Hz := hP
  have hD : va_D Az (wM cI cZ cJ ad 0 x_buffered x_given x_isFolding x_work x_rebuilt x_streamed x_reports x_gapFrom x_gapSize x_elements x_wholeSize x_isLaid x_takenMany a_buffer a_length a_bytes a_weight a_live a_size a_list a_moved a_planned a_stream a_reportedEnd a_reportedKeyword vz1 vz2 a_element a_long1 a_head a_tail a_next a_skip a_last a_whole a_edges vz3 vz4 vz5 vz6 a_takenAt) := hD
  refine lv_aload_n hx hb dX8_coverStart_9 rfl (lv_at hl 0 rfl) ?_
  refine lv_iload_n hx hb dX8_coverStart_10 rfl (lv_at hl 1 rfl) ?_
  refine k_iconst (n := 1) hx hb dX8_coverStart_11 ?_
  obtain ⟨vz7, vz8, vz9, hcz, hs⟩ := bd3_some hs
  refine k_wVs (As := [.int (iI pz1), .int (iI 1)]) (rest := []) (st1 := [.int (iI vz7)]) (w1 := (wM cI cZ cJ ad 0 x_buffered x_given x_isFolding x_work x_rebuilt x_streamed x_reports x_gapFrom x_gapSize x_elements x_wholeSize x_isLaid vz8 a_buffer a_length a_bytes a_weight a_live a_size a_list a_moved a_planned a_stream a_reportedEnd a_reportedKeyword vz1 vz2 a_element a_long1 a_head a_tail a_next a_skip a_last a_whole a_edges vz3 vz4 vz5 vz6 vz9)) ⟨hx, hb, hml, hown, hts⟩ hK hP hD hSz hA (c_X8_taken l D cI cZ cJ hcz) (cwV 2 hts gX8_coverStart_X8_taken rfl rfl rfl (by decide +kernel) ⟨Nat.le_of_ble_eq_true rfl, Nat.le_of_ble_eq_true rfl⟩) 0 rfl rfl rfl rfl rfl hl.1 rfl (lv_room (Nat.le_of_ble_eq_true rfl)) dX8_coverStart_12 ⟨Nat.zero_le _, Nat.zero_le _⟩ rfl (fun Hz lz hP hD hSz => ?_)
  have hP : va_P D vwCl (wM cI cZ cJ ad 0 x_buffered x_given x_isFolding x_work x_rebuilt x_streamed x_reports x_gapFrom x_gapSize x_elements x_wholeSize x_isLaid vz8 a_buffer a_length a_bytes a_weight a_live a_size a_list a_moved a_planned a_stream a_reportedEnd a_reportedKeyword vz1 vz2 a_element a_long1 a_head a_tail a_next a_skip a_last a_whole a_edges vz3 vz4 vz5 vz6 vz9) Hz := hP
  have hD : va_D Az (wM cI cZ cJ ad 0 x_buffered x_given x_isFolding x_work x_rebuilt x_streamed x_reports x_gapFrom x_gapSize x_elements x_wholeSize x_isLaid vz8 a_buffer a_length a_bytes a_weight a_live a_size a_list a_moved a_planned a_stream a_reportedEnd a_reportedKeyword vz1 vz2 a_element a_long1 a_head a_tail a_next a_skip a_last a_whole a_edges vz3 vz4 vz5 vz6 vz9) := hD
  cases hs
  exact k_iret_w hx hb hr hlk (by rw [hw1]; exact hP) hSz dX8_coverStart_15 rfl
/-! X8_coverKeyword -/
set_option maxHeartbeats 4000000 in
set_option maxRecDepth 100000 in
theorem c_X8_coverKeyword (l : Launch) (D : va_G) (cI cZ cJ : ClassId) {ad : Nat → Nat} {x_thrown : Int} {x_buffered : Int} {x_given : Int} {x_isFolding : Int} {x_work : Int} {x_rebuilt : Int} {x_streamed : Int} {x_reports : Int} {x_gapFrom : Int} {x_gapSize : Int} {x_elements : Int} {x_wholeSize : Int} {x_isLaid : Int} {x_takenMany : Int} {a_buffer : (Int → Int)} {a_length : (Int → Int)} {a_bytes : (Int → Int)} {a_weight : (Int → Int)} {a_live : (Int → Int)} {a_size : (Int → Int)} {a_list : (Int → Int)} {a_moved : (Int → Int)} {a_planned : (Int → Int)} {a_stream : (Int → Int)} {a_reportedEnd : (Int → Int)} {a_reportedKeyword : (Int → Int)} {a_starts : (Int → Int)} {a_keywordAt : (Int → Int)} {a_element : (Int → Int)} {a_long1 : (Int → Int)} {a_head : (Int → Int)} {a_tail : (Int → Int)} {a_next : (Int → Int)} {a_skip : (Int → Int)} {a_last : (Int → Int)} {a_whole : (Int → Int)} {a_edges : (Int → Int)} {a_covers : (Int → Int)} {a_weighs : (Int → Int)} {a_numbers : (Int → Int)} {a_takes : (Int → Int)} {a_takenAt : (Int → Int)} {pz1 : Int} {r : Int} {y_x_thrown : Int} {y_x_takenMany : Int} {y_a_starts : (Int → Int)} {y_a_keywordAt : (Int → Int)} {y_a_covers : (Int → Int)} {y_a_weighs : (Int → Int)} {y_a_numbers : (Int → Int)} {y_a_takes : (Int → Int)} {y_a_takenAt : (Int → Int)} {sz : Nat} (hs : s_X8_coverKeyword x_thrown x_given x_isFolding x_streamed x_takenMany a_length a_bytes a_weight a_live a_stream a_starts a_keywordAt a_covers a_weighs a_numbers a_takes a_takenAt pz1 = some (r, y_x_thrown, y_x_takenMany, y_a_starts, y_a_keywordAt, y_a_covers, y_a_weighs, y_a_numbers, y_a_takes, y_a_takenAt)) : Met l yX8_coverKeyword wsX8_coverKeyword rm_X8_coverKeyword (PW D vwCl [(cI, .int), (cZ, .boolean), (cJ, .long)] [.ref (ad 0), .int (iI pz1)] (wM cI cZ cJ ad x_thrown x_buffered x_given x_isFolding x_work x_rebuilt x_streamed x_reports x_gapFrom x_gapSize x_elements x_wholeSize x_isLaid x_takenMany a_buffer a_length a_bytes a_weight a_live a_size a_list a_moved a_planned a_stream a_reportedEnd a_reportedKeyword a_starts a_keywordAt a_element a_long1 a_head a_tail a_next a_skip a_last a_whole a_edges a_covers a_weighs a_numbers a_takes a_takenAt) sz) (QW D vwCl (some (.int (iI r))) (wM cI cZ cJ ad y_x_thrown x_buffered x_given x_isFolding x_work x_rebuilt x_streamed x_reports x_gapFrom x_gapSize x_elements x_wholeSize x_isLaid y_x_takenMany a_buffer a_length a_bytes a_weight a_live a_size a_list a_moved a_planned a_stream a_reportedEnd a_reportedKeyword y_a_starts y_a_keywordAt a_element a_long1 a_head a_tail a_next a_skip a_last a_whole a_edges y_a_covers y_a_weighs y_a_numbers y_a_takes y_a_takenAt) (va_A (wM cI cZ cJ ad x_thrown x_buffered x_given x_isFolding x_work x_rebuilt x_streamed x_reports x_gapFrom x_gapSize x_elements x_wholeSize x_isLaid x_takenMany a_buffer a_length a_bytes a_weight a_live a_size a_list a_moved a_planned a_stream a_reportedEnd a_reportedKeyword a_starts a_keywordAt a_element a_long1 a_head a_tail a_next a_skip a_last a_whole a_edges a_covers a_weighs a_numbers a_takes a_takenAt) sz)) 0 0 (va_A (wM cI cZ cJ ad x_thrown x_buffered x_given x_isFolding x_work x_rebuilt x_streamed x_reports x_gapFrom x_gapSize x_elements x_wholeSize x_isLaid x_takenMany a_buffer a_length a_bytes a_weight a_live a_size a_list a_moved a_planned a_stream a_reportedEnd a_reportedKeyword a_starts a_keywordAt a_element a_long1 a_head a_tail a_next a_skip a_last a_whole a_edges a_covers a_weighs a_numbers a_takes a_takenAt) sz) := by
  refine Met.ofW (cc := cX8_coverKeyword) (maxL := 2) (ret := (some .int)) (by decide) rfl ?_
  intro p e s m args below meth c s₁ B hml hv
  obtain ⟨hav, hsz, hP, hK, hD0⟩ := hv
  have hx := B.exec
  have hb := B.bytes
  have hr := B.returns
  have hts := atoms_spec (ws := wsX8_coverKeyword) B.pre
  have hown : s.vm.findClass RX8 = some m.cls := findClass_of_methodNamed B.named
  have hlk := B.notSynchronized
  have hf1 : (Cond.fieldLink RX8 1 "KeywordMatcherModel" "thrown" "I").before args s = true := hts _ (List.mem_of_getElem? (i := 1) rfl)
  have hiX8 : ∀ w ∈ wsX80, w ∈ wsX8_coverKeyword := fun w h => List.mem_cons_of_mem _ (List.mem_append_right _ h)
  subst hsz
  have hD := hD0.self (sz := s.heap.size)
  generalize hAe : va_A (wM cI cZ cJ ad x_thrown x_buffered x_given x_isFolding x_work x_rebuilt x_streamed x_reports x_gapFrom x_gapSize x_elements x_wholeSize x_isLaid x_takenMany a_buffer a_length a_bytes a_weight a_live a_size a_list a_moved a_planned a_stream a_reportedEnd a_reportedKeyword a_starts a_keywordAt a_element a_long1 a_head a_tail a_next a_skip a_last a_whole a_edges a_covers a_weighs a_numbers a_takes a_takenAt) s.heap.size = Az at hD ⊢
  have hA : ∀ q : Nat, s.heap.size ≤ q → Az q := fun q h => by rw [← hAe]; exact Or.inr h
  clear hAe
  have hSz : va_S Az s.heap s.heap [] := va_S.rf
  obtain ⟨wz, hw1⟩ : ∃ z : va_W, z = (wM cI cZ cJ ad y_x_thrown x_buffered x_given x_isFolding x_work x_rebuilt x_streamed x_reports x_gapFrom x_gapSize x_elements x_wholeSize x_isLaid y_x_takenMany a_buffer a_length a_bytes a_weight a_live a_size a_list a_moved a_planned a_stream a_reportedEnd a_reportedKeyword y_a_starts y_a_keywordAt a_element a_long1 a_head a_tail a_next a_skip a_last a_whole a_edges y_a_covers y_a_weighs y_a_numbers y_a_takes y_a_takenAt) := ⟨_, rfl⟩
  rw [← hw1]
  have hl := lv_entry ([.ref (ad 0), .int (iI pz1)]) (n := 2) (Nat.le_of_ble_eq_true rfl)
  rw [show entryFrame m args 2 = entryFrame m ([.ref (ad 0), .int (iI pz1)] : List Value).toArray 2 from by rw [hav], lg_entry_eq]
  generalize (lg_sl ([.ref (ad 0), .int (iI pz1)]) ++ List.replicate (2 - (lg_sl ([.ref (ad 0), .int (iI pz1)])).length) Slot.unset).toArray = ls at hl ⊢
  have hl : lv_has ls 2 [(0, .ref (ad 0)), (1, .int (iI pz1))] := hl
  unfold s_X8_coverKeyword at hs
  refine (?_ : ∀ (Hz : Heap) (lz : List Loc), va_P D vwCl (wM cI cZ cJ ad x_thrown x_buffered x_given x_isFolding x_work x_rebuilt x_streamed x_reports x_gapFrom x_gapSize x_elements x_wholeSize x_isLaid x_takenMany a_buffer a_length a_bytes a_weight a_live a_size a_list a_moved a_planned a_stream a_reportedEnd a_reportedKeyword a_starts a_keywordAt a_element a_long1 a_head a_tail a_next a_skip a_last a_whole a_edges a_covers a_weighs a_numbers a_takes a_takenAt) Hz → va_D Az (wM cI cZ cJ ad x_thrown x_buffered x_given x_isFolding x_work x_rebuilt x_streamed x_reports x_gapFrom x_gapSize x_elements x_wholeSize x_isLaid x_takenMany a_buffer a_length a_bytes a_weight a_live a_size a_list a_moved a_planned a_stream a_reportedEnd a_reportedKeyword a_starts a_keywordAt a_element a_long1 a_head a_tail a_next a_skip a_last a_whole a_edges a_covers a_weighs a_numbers a_takes a_takenAt) → va_S Az s.heap Hz lz → W p l e (headSpec wsX8_coverKeyword rm_X8_coverKeyword).room s m args below meth c Hz lz 0 0 (MQ below (QW D vwCl (some (.int (iI r))) wz Az) args s 0 0 Az) (F0 m 0 ls [])) s.heap [] hP hD hSz
  intro Hz lz hP hD hSz
  refine lv_aload_n hx hb dX8_coverKeyword_0 rfl (lv_at hl 0 rfl) ?_
  refine k_iconst (n := 0) hx hb dX8_coverKeyword_1 ?_
  refine va_put (ci := 8) (v := .int (iI 0)) (ty := .int) (C := RX8) (T := TX8) (N := 42) hx hb hts hiX8 tyX8 tyX8_ok nmX8 hown hK hP hD hSz 0 rfl rfl 0 (by decide) hf1 (fun _ h9 => h9) rfl (by decide +kernel) rfl rfl (Nat.le_of_ble_eq_true rfl) dX8_coverKeyword_2 (fun Hz lz hP hD hSz => ?_)
  have hP : va_P D vwCl (wM cI cZ cJ ad 0 x_buffered x_given x_isFolding x_work x_rebuilt x_streamed x_reports x_gapFrom x_gapSize x_elements x_wholeSize x_isLaid x_takenMany a_buffer a_length a_bytes a_weight a_live a_size a_list a_moved a_planned a_stream a_reportedEnd a_reportedKeyword a_starts a_keywordAt a_element a_long1 a_head a_tail a_next a_skip a_last a_whole a_edges a_covers a_weighs a_numbers a_takes a_takenAt) Hz := hP
  have hD : va_D Az (wM cI cZ cJ ad 0 x_buffered x_given x_isFolding x_work x_rebuilt x_streamed x_reports x_gapFrom x_gapSize x_elements x_wholeSize x_isLaid x_takenMany a_buffer a_length a_bytes a_weight a_live a_size a_list a_moved a_planned a_stream a_reportedEnd a_reportedKeyword a_starts a_keywordAt a_element a_long1 a_head a_tail a_next a_skip a_last a_whole a_edges a_covers a_weighs a_numbers a_takes a_takenAt) := hD
  refine lv_aload_n hx hb dX8_coverKeyword_5 rfl (lv_at hl 0 rfl) ?_
  obtain ⟨vz1, vz2, vz3, vz4, vz5, vz6, hcz, hs⟩ := bd6_some hs
  refine k_wVs (As := []) (rest := []) (st1 := []) (w1 := (wM cI cZ cJ ad 0 x_buffered x_given x_isFolding x_work x_rebuilt x_streamed x_reports x_gapFrom x_gapSize x_elements x_wholeSize x_isLaid x_takenMany a_buffer a_length a_bytes a_weight a_live a_size a_list a_moved a_planned a_stream a_reportedEnd a_reportedKeyword vz1 vz2 a_element a_long1 a_head a_tail a_next a_skip a_last a_whole a_edges vz3 vz4 vz5 vz6 a_takenAt)) ⟨hx, hb, hml, hown, hts⟩ hK hP hD hSz hA (c_X8_laysCover l D cI cZ cJ hcz) (cwV 0 hts gX8_coverKeyword_X8_laysCover rfl rfl rfl (by decide +kernel) ⟨Nat.le_of_ble_eq_true rfl, Nat.le_of_ble_eq_true rfl⟩) 0 rfl rfl rfl rfl rfl hl.1 rfl (lv_room (Nat.le_of_ble_eq_true rfl)) dX8_coverKeyword_6 ⟨Nat.zero_le _, Nat.zero_le _⟩ rfl (fun Hz lz hP hD hSz => ?_)
  have hP : va_P D vwCl (wM cI cZ cJ ad 0 x_buffered x_given x_isFolding x_work x_rebuilt x_streamed x_reports x_gapFrom x_gapSize x_elements x_wholeSize x_isLaid x_takenMany a_buffer a_length a_bytes a_weight a_live a_size a_list a_moved a_planned a_stream a_reportedEnd a_reportedKeyword vz1 vz2 a_element a_long1 a_head a_tail a_next a_skip a_last a_whole a_edges vz3 vz4 vz5 vz6 a_takenAt) Hz := hP
  have hD : va_D Az (wM cI cZ cJ ad 0 x_buffered x_given x_isFolding x_work x_rebuilt x_streamed x_reports x_gapFrom x_gapSize x_elements x_wholeSize x_isLaid x_takenMany a_buffer a_length a_bytes a_weight a_live a_size a_list a_moved a_planned a_stream a_reportedEnd a_reportedKeyword vz1 vz2 a_element a_long1 a_head a_tail a_next a_skip a_last a_whole a_edges vz3 vz4 vz5 vz6 a_takenAt) := hD
  refine lv_aload_n hx hb dX8_coverKeyword_9 rfl (lv_at hl 0 rfl) ?_
  refine lv_iload_n hx hb dX8_coverKeyword_10 rfl (lv_at hl 1 rfl) ?_
  refine k_iconst (n := 0) hx hb dX8_coverKeyword_11 ?_
  obtain ⟨vz7, vz8, vz9, hcz, hs⟩ := bd3_some hs
  refine k_wVs (As := [.int (iI pz1), .int (iI 0)]) (rest := []) (st1 := [.int (iI vz7)]) (w1 := (wM cI cZ cJ ad 0 x_buffered x_given x_isFolding x_work x_rebuilt x_streamed x_reports x_gapFrom x_gapSize x_elements x_wholeSize x_isLaid vz8 a_buffer a_length a_bytes a_weight a_live a_size a_list a_moved a_planned a_stream a_reportedEnd a_reportedKeyword vz1 vz2 a_element a_long1 a_head a_tail a_next a_skip a_last a_whole a_edges vz3 vz4 vz5 vz6 vz9)) ⟨hx, hb, hml, hown, hts⟩ hK hP hD hSz hA (c_X8_taken l D cI cZ cJ hcz) (cwV 2 hts gX8_coverKeyword_X8_taken rfl rfl rfl (by decide +kernel) ⟨Nat.le_of_ble_eq_true rfl, Nat.le_of_ble_eq_true rfl⟩) 0 rfl rfl rfl rfl rfl hl.1 rfl (lv_room (Nat.le_of_ble_eq_true rfl)) dX8_coverKeyword_12 ⟨Nat.zero_le _, Nat.zero_le _⟩ rfl (fun Hz lz hP hD hSz => ?_)
  have hP : va_P D vwCl (wM cI cZ cJ ad 0 x_buffered x_given x_isFolding x_work x_rebuilt x_streamed x_reports x_gapFrom x_gapSize x_elements x_wholeSize x_isLaid vz8 a_buffer a_length a_bytes a_weight a_live a_size a_list a_moved a_planned a_stream a_reportedEnd a_reportedKeyword vz1 vz2 a_element a_long1 a_head a_tail a_next a_skip a_last a_whole a_edges vz3 vz4 vz5 vz6 vz9) Hz := hP
  have hD : va_D Az (wM cI cZ cJ ad 0 x_buffered x_given x_isFolding x_work x_rebuilt x_streamed x_reports x_gapFrom x_gapSize x_elements x_wholeSize x_isLaid vz8 a_buffer a_length a_bytes a_weight a_live a_size a_list a_moved a_planned a_stream a_reportedEnd a_reportedKeyword vz1 vz2 a_element a_long1 a_head a_tail a_next a_skip a_last a_whole a_edges vz3 vz4 vz5 vz6 vz9) := hD
  cases hs
  exact k_iret_w hx hb hr hlk (by rw [hw1]; exact hP) hSz dX8_coverKeyword_15 rfl
