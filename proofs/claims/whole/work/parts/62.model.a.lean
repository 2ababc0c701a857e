/-! X8_isIn -/
set_option maxHeartbeats 4000000 in
set_option maxRecDepth 100000 in
theorem c_X8_isIn (l : Launch) (D : va_G) (cI cZ cJ : ClassId) {pz0 : Int} {pz2 : Int} {pz4 : Int} {r : Int} (hs : s_X8_isIn pz0 pz2 pz4 = some r) : Met l yX8_isIn wsX8_isIn rm_X8_isIn (PR D vwCl [(cI, .int), (cZ, .boolean), (cJ, .long)] [.long (iL pz0), .long (iL pz2), .long (iL pz4)] []) (QR (some (.int (iI r)))) 0 0 (fun _ => False) := by
  refine Met.ofW (cc := cX8_isIn) (maxL := 6) (ret := (some .boolean)) (by decide) rfl ?_
  intro p e s m args below meth c s₁ B hml hv
  obtain ⟨hav, hP, hK⟩ := hv
  have hx := B.exec
  have hb := B.bytes
  have hr := B.returns
  have hts := atoms_spec (ws := wsX8_isIn) B.pre
  have hown : s.vm.findClass RX8 = some m.cls := findClass_of_methodNamed B.named
  have hlk := B.notSynchronized
  have hl := lv_entry ([.long (iL pz0), .long (iL pz2), .long (iL pz4)]) (n := 6) (Nat.le_of_ble_eq_true rfl)
  rw [show entryFrame m args 6 = entryFrame m ([.long (iL pz0), .long (iL pz2), .long (iL pz4)] : List Value).toArray 6 from by rw [hav], lg_entry_eq]
  generalize (lg_sl ([.long (iL pz0), .long (iL pz2), .long (iL pz4)]) ++ List.replicate (6 - (lg_sl ([.long (iL pz0), .long (iL pz2), .long (iL pz4)])).length) Slot.unset).toArray = ls at hl ⊢
  have hl : lv_has ls 6 [(0, .long (iL pz0)), (2, .long (iL pz2)), (4, .long (iL pz4))] := hl
  unfold s_X8_isIn at hs
  refine lv_lload_n hx hb dX8_isIn_0 rfl (lv_at hl 0 rfl) ?_
  refine lv_lload_n hx hb dX8_isIn_1 rfl (lv_at hl 1 rfl) ?_
  refine k_lcmp_lt (tgt := 17) hx hb hs dX8_isIn_2 dX8_isIn_3 (by decide) (fun hs => ?_) (fun hs => ?_)
  · refine k_iconst (n := 0) hx hb dX8_isIn_17 ?_
    cases hs
    exact k_zret_r hx hb hr hlk rfl (by decide) dX8_isIn_18 rfl
  · refine lv_lload_n hx hb dX8_isIn_6 rfl (lv_at hl 0 rfl) ?_
    refine lv_lload hx hb dX8_isIn_7 (lv_at hl 2 rfl) ?_
    refine k_lcmp_gt (tgt := 17) hx hb hs dX8_isIn_9 dX8_isIn_10 (by decide) (fun hs => ?_) (fun hs => ?_)
    · refine k_iconst (n := 0) hx hb dX8_isIn_17 ?_
      cases hs
      exact k_zret_r hx hb hr hlk rfl (by decide) dX8_isIn_18 rfl
    · refine k_iconst (n := 1) hx hb dX8_isIn_13 ?_
      refine lv_goto (tgt := 18) hx hb dX8_isIn_14 (by decide) ?_
      cases hs
      exact k_zret_r hx hb hr hlk rfl (by decide) dX8_isIn_18 rfl
/-! X8_appendBytes -/
set_option maxHeartbeats 4000000 in
set_option maxRecDepth 100000 in
theorem c_X8_appendBytes (l : Launch) (D : va_G) (cI cZ cJ : ClassId) {ad : Nat → Nat} {x_thrown : Int} {x_buffered : Int} {x_given : Int} {x_isFolding : Int} {x_work : Int} {x_rebuilt : Int} {x_streamed : Int} {x_reports : Int} {x_gapFrom : Int} {x_gapSize : Int} {x_elements : Int} {x_wholeSize : Int} {x_isLaid : Int} {x_takenMany : Int} {a_buffer : (Int → Int)} {a_length : (Int → Int)} {a_bytes : (Int → Int)} {a_weight : (Int → Int)} {a_live : (Int → Int)} {a_size : (Int → Int)} {a_list : (Int → Int)} {a_moved : (Int → Int)} {a_planned : (Int → Int)} {a_stream : (Int → Int)} {a_reportedEnd : (Int → Int)} {a_reportedKeyword : (Int → Int)} {a_starts : (Int → Int)} {a_keywordAt : (Int → Int)} {a_element : (Int → Int)} {a_long1 : (Int → Int)} {a_head : (Int → Int)} {a_tail : (Int → Int)} {a_next : (Int → Int)} {a_skip : (Int → Int)} {a_last : (Int → Int)} {a_whole : (Int → Int)} {a_edges : (Int → Int)} {a_covers : (Int → Int)} {a_weighs : (Int → Int)} {a_numbers : (Int → Int)} {a_takes : (Int → Int)} {a_takenAt : (Int → Int)} {pz1 : Int} {pz2 : Int} {pz3 : Int} {pz4 : Int} {pz5 : Int} {r : Int} {y_x_thrown : Int} {y_x_buffered : Int} {y_a_buffer : (Int → Int)} {sz : Nat} (hs : s_X8_appendBytes x_thrown x_buffered a_buffer pz1 pz2 pz3 pz4 pz5 = some (r, y_x_thrown, y_x_buffered, y_a_buffer)) : Met l yX8_appendBytes wsX8_appendBytes rm_X8_appendBytes (PW D vwCl [(cI, .int), (cZ, .boolean), (cJ, .long)] [.ref (ad 0), .int (iI pz1), .int (iI pz2), .int (iI pz3), .int (iI pz4), .int (iI pz5)] (wM cI cZ cJ ad x_thrown x_buffered x_given x_isFolding x_work x_rebuilt x_streamed x_reports x_gapFrom x_gapSize x_elements x_wholeSize x_isLaid x_takenMany a_buffer a_length a_bytes a_weight a_live a_size a_list a_moved a_planned a_stream a_reportedEnd a_reportedKeyword a_starts a_keywordAt a_element a_long1 a_head a_tail a_next a_skip a_last a_whole a_edges a_covers a_weighs a_numbers a_takes a_takenAt) sz) (QW D vwCl (some (.int (iI r))) (wM cI cZ cJ ad y_x_thrown y_x_buffered x_given x_isFolding x_work x_rebuilt x_streamed x_reports x_gapFrom x_gapSize x_elements x_wholeSize x_isLaid x_takenMany y_a_buffer a_length a_bytes a_weight a_live a_size a_list a_moved a_planned a_stream a_reportedEnd a_reportedKeyword a_starts a_keywordAt a_element a_long1 a_head a_tail a_next a_skip a_last a_whole a_edges a_covers a_weighs a_numbers a_takes a_takenAt) (va_A (wM cI cZ cJ ad x_thrown x_buffered x_given x_isFolding x_work x_rebuilt x_streamed x_reports x_gapFrom x_gapSize x_elements x_wholeSize x_isLaid x_takenMany a_buffer a_length a_bytes a_weight a_live a_size a_list a_moved a_planned a_stream a_reportedEnd a_reportedKeyword a_starts a_keywordAt a_element a_long1 a_head a_tail a_next a_skip a_last a_whole a_edges a_covers a_weighs a_numbers a_takes a_takenAt) sz)) 0 0 (va_A (wM cI cZ cJ ad x_thrown x_buffered x_given x_isFolding x_work x_rebuilt x_streamed x_reports x_gapFrom x_gapSize x_elements x_wholeSize x_isLaid x_takenMany a_buffer a_length a_bytes a_weight a_live a_size a_list a_moved a_planned a_stream a_reportedEnd a_reportedKeyword a_starts a_keywordAt a_element a_long1 a_head a_tail a_next a_skip a_last a_whole a_edges a_covers a_weighs a_numbers a_takes a_takenAt) sz) := by
  refine Met.ofW (cc := cX8_appendBytes) (maxL := 8) (ret := (some .int)) (by decide) rfl ?_
  intro p e s m args below meth c s₁ B hml hv
  obtain ⟨hav, hsz, hP, hK, hD0⟩ := hv
  have hx := B.exec
  have hb := B.bytes
  have hr := B.returns
  have hts := atoms_spec (ws := wsX8_appendBytes) B.pre
  have hown : s.vm.findClass RX8 = some m.cls := findClass_of_methodNamed B.named
  have hlk := B.notSynchronized
  have hf1 : (Cond.fieldLink RX8 1 "KeywordMatcherModel" "thrown" "I").before args s = true := hts _ (List.mem_of_getElem? (i := 1) rfl)
  have hiX8 : ∀ w ∈ wsX80, w ∈ wsX8_appendBytes := fun w h => List.mem_cons_of_mem _ (List.mem_append_right _ h)
  have hf99 : (Cond.fieldLink RX8 99 "KeywordMatcherModel" "buffered" "I").before args s = true := hts _ (List.mem_of_getElem? (i := 2) rfl)
  have hf13 : (Cond.fieldLink RX8 13 "KeywordMatcherModel" "buffer" "[I").before args s = true := hts _ (List.mem_of_getElem? (i := 3) rfl)
  subst hsz
  have hD := hD0.self (sz := s.heap.size)
  generalize hAe : va_A (wM cI cZ cJ ad x_thrown x_buffered x_given x_isFolding x_work x_rebuilt x_streamed x_reports x_gapFrom x_gapSize x_elements x_wholeSize x_isLaid x_takenMany a_buffer a_length a_bytes a_weight a_live a_size a_list a_moved a_planned a_stream a_reportedEnd a_reportedKeyword a_starts a_keywordAt a_element a_long1 a_head a_tail a_next a_skip a_last a_whole a_edges a_covers a_weighs a_numbers a_takes a_takenAt) s.heap.size = Az at hD ⊢
  have hA : ∀ q : Nat, s.heap.size ≤ q → Az q := fun q h => by rw [← hAe]; exact Or.inr h
  clear hAe
  have hSz : va_S Az s.heap s.heap [] := va_S.rf
  obtain ⟨wz, hw1⟩ : ∃ z : va_W, z = (wM cI cZ cJ ad y_x_thrown y_x_buffered x_given x_isFolding x_work x_rebuilt x_streamed x_reports x_gapFrom x_gapSize x_elements x_wholeSize x_isLaid x_takenMany y_a_buffer a_length a_bytes a_weight a_live a_size a_list a_moved a_planned a_stream a_reportedEnd a_reportedKeyword a_starts a_keywordAt a_element a_long1 a_head a_tail a_next a_skip a_last a_whole a_edges a_covers a_weighs a_numbers a_takes a_takenAt) := ⟨_, rfl⟩
  rw [← hw1]
  have hl := lv_entry ([.ref (ad 0), .int (iI pz1), .int (iI pz2), .int (iI pz3), .int (iI pz4), .int (iI pz5)]) (n := 8) (Nat.le_of_ble_eq_true rfl)
  rw [show entryFrame m args 8 = entryFrame m ([.ref (ad 0), .int (iI pz1), .int (iI pz2), .int (iI pz3), .int (iI pz4), .int (iI pz5)] : List Value).toArray 8 from by rw [hav], lg_entry_eq]
  generalize (lg_sl ([.ref (ad 0), .int (iI pz1), .int (iI pz2), .int (iI pz3), .int (iI pz4), .int (iI pz5)]) ++ List.replicate (8 - (lg_sl ([.ref (ad 0), .int (iI pz1), .int (iI pz2), .int (iI pz3), .int (iI pz4), .int (iI pz5)])).length) Slot.unset).toArray = ls at hl ⊢
  have hl : lv_has ls 8 [(0, .ref (ad 0)), (1, .int (iI pz1)), (2, .int (iI pz2)), (3, .int (iI pz3)), (4, .int (iI pz4)), (5, .int (iI pz5))] := hl
  unfold s_X8_appendBytes at hs
  have Lz24 : ∀ (fu : Nat) (x_thrown : Int) (x_buffered : Int) (a_buffer : (Int → Int)) (l1 : Int) (l2 : Int) (l3 : Int) (l4 : Int) (l5 : Int) (l6 : Int) (y0 : Int) (y1 : (Int → Int)), s_X8_appendBytes_24 fu x_buffered a_buffer l1 l2 l3 l4 l5 l6 = some (y0, y1) → ∀ (Hz : Heap) (lz : List Loc), va_P D vwCl (wM cI cZ cJ ad x_thrown x_buffered x_given x_isFolding x_work x_rebuilt x_streamed x_reports x_gapFrom x_gapSize x_elements x_wholeSize x_isLaid x_takenMany a_buffer a_length a_bytes a_weight a_live a_size a_list a_moved a_planned a_stream a_reportedEnd a_reportedKeyword a_starts a_keywordAt a_element a_long1 a_head a_tail a_next a_skip a_last a_whole a_edges a_covers a_weighs a_numbers a_takes a_takenAt) Hz → va_D Az (wM cI cZ cJ ad x_thrown x_buffered x_given x_isFolding x_work x_rebuilt x_streamed x_reports x_gapFrom x_gapSize x_elements x_wholeSize x_isLaid x_takenMany a_buffer a_length a_bytes a_weight a_live a_size a_list a_moved a_planned a_stream a_reportedEnd a_reportedKeyword a_starts a_keywordAt a_element a_long1 a_head a_tail a_next a_skip a_last a_whole a_edges a_covers a_weighs a_numbers a_takes a_takenAt) → va_S Az s.heap Hz lz → ∀ ls : Array Slot, lv_has ls 8 [(0, .ref (ad 0)), (1, .int (iI l1)), (2, .int (iI l2)), (3, .int (iI l3)), (4, .int (iI l4)), (5, .int (iI l5)), (6, .int (iI l6))] → (∀ (Hz : Heap) (lz : List Loc), va_P D vwCl (wM cI cZ cJ ad x_thrown y0 x_given x_isFolding x_work x_rebuilt x_streamed x_reports x_gapFrom x_gapSize x_elements x_wholeSize x_isLaid x_takenMany y1 a_length a_bytes a_weight a_live a_size a_list a_moved a_planned a_stream a_reportedEnd a_reportedKeyword a_starts a_keywordAt a_element a_long1 a_head a_tail a_next a_skip a_last a_whole a_edges a_covers a_weighs a_numbers a_takes a_takenAt) Hz → va_D Az (wM cI cZ cJ ad x_thrown y0 x_given x_isFolding x_work x_rebuilt x_streamed x_reports x_gapFrom x_gapSize x_elements x_wholeSize x_isLaid x_takenMany y1 a_length a_bytes a_weight a_live a_size a_list a_moved a_planned a_stream a_reportedEnd a_reportedKeyword a_starts a_keywordAt a_element a_long1 a_head a_tail a_next a_skip a_last a_whole a_edges a_covers a_weighs a_numbers a_takes a_takenAt) → va_S Az s.heap Hz lz → ∀ ls : Array Slot, lv_has ls 8 [(0, .ref (ad 0))] → W p l e (headSpec wsX8_appendBytes rm_X8_appendBytes).room s m args below meth c Hz lz 0 0 (MQ below (QW D vwCl (some (.int (iI r))) wz Az) args s 0 0 Az) (F0 m 121 ls [])) → W p l e (headSpec wsX8_appendBytes rm_X8_appendBytes).room s m args below meth c Hz lz 0 0 (MQ below (QW D vwCl (some (.int (iI r))) wz Az) args s 0 0 Az) (F0 m 24 ls []) := by
    intro fu
    induction fu with
    | zero => intro x_thrown x_buffered a_buffer l1 l2 l3 l4 l5 l6 y0 y1 hs; cases hs
    | succ fu ih =>
      intro x_thrown x_buffered a_buffer l1 l2 l3 l4 l5 l6 y0 y1 hs Hz lz hP hD hSz ls hl kx
      rw [s_X8_appendBytes_24_s] at hs
      refine lv_iload hx hb dX8_appendBytes_24 (lv_at hl 6 rfl) ?_
      refine k_bipush (n := 20) hx hb (by decide) dX8_appendBytes_26 ?_
      refine k_icmp_ge (tgt := 121) hx hb hs dX8_appendBytes_28 (by decide) (fun hs => ?_) (fun hs => ?_)
      · refine lv_iload hx hb dX8_appendBytes_31 (lv_at hl 6 rfl) ?_
        refine k_iconst (n := 4) hx hb dX8_appendBytes_33 ?_
        refine k_icmp_ge (tgt := 41) hx hb hs dX8_appendBytes_34 (by decide) (fun hs => ?_) (fun hs => ?_)
        · refine lv_iload_n hx hb dX8_appendBytes_37 rfl (lv_at hl 1 rfl) ?_
          refine lv_goto (tgt := 77) hx hb dX8_appendBytes_38 (by decide) ?_
          refine lv_istore (lv' := [(7, .int (iI l1)), (0, .ref (ad 0)), (1, .int (iI l1)), (2, .int (iI l2)), (3, .int (iI l3)), (4, .int (iI l4)), (5, .int (iI l5)), (6, .int (iI l6))]) hx hb dX8_appendBytes_77 hl (by decide) rfl (fun ls hl => ?_)
          refine lv_aload_n hx hb dX8_appendBytes_79 rfl (lv_at hl 1 rfl) ?_
          refine va_get (ci := 8) (v := .ref (ad 1)) (C := RX8) (T := TX8) (N := 42) hx hb hts hiX8 hown hK hP 0 rfl rfl 1 (by decide) hf13 (fun _ h9 => h9) rfl dX8_appendBytes_80 ?_
          refine lv_aload_n hx hb dX8_appendBytes_83 rfl (lv_at hl 1 rfl) ?_
          refine va_get (ci := 8) (v := .int (iI x_buffered)) (C := RX8) (T := TX8) (N := 42) hx hb hts hiX8 hown hK hP 0 rfl rfl 2 (by decide) hf99 (fun _ h9 => h9) rfl dX8_appendBytes_84 ?_
          refine lv_iload hx hb dX8_appendBytes_87 (lv_at hl 0 rfl) ?_
          refine k_bipush (n := 24) hx hb (by decide) dX8_appendBytes_89 ?_
          refine k_bipush (n := 8) hx hb (by decide) dX8_appendBytes_91 ?_
          refine lv_iload hx hb dX8_appendBytes_93 (lv_at hl 7 rfl) ?_
          refine k_iconst (n := 4) hx hb dX8_appendBytes_95 ?_
          refine k_irem hx hb dX8_appendBytes_96 (by decide) ?_
          refine k_imul hx hb dX8_appendBytes_97 ?_
          refine k_isub hx hb dX8_appendBytes_98 ?_
          refine k_ishr hx hb dX8_appendBytes_99 ?_
          refine k_sipush (n := 255) hx hb (by decide) dX8_appendBytes_100 ?_
          refine k_iand hx hb dX8_appendBytes_103 ?_
          refine k_iast hx hb hK hP hD hSz 1 0 rfl rfl (Nat.le_of_ble_eq_true rfl) hs dX8_appendBytes_104 (fun Hz lz hP hD hSz hs => ?_)
          have hP : va_P D vwCl (wM cI cZ cJ ad x_thrown x_buffered x_given x_isFolding x_work x_rebuilt x_streamed x_reports x_gapFrom x_gapSize x_elements x_wholeSize x_isLaid x_takenMany (upA a_buffer x_buffered (iAnd (iShr l1 (24 - (8 * (iRem l6 4)))) 255)) a_length a_bytes a_weight a_live a_size a_list a_moved a_planned a_stream a_reportedEnd a_reportedKeyword a_starts a_keywordAt a_element a_long1 a_head a_tail a_next a_skip a_last a_whole a_edges a_covers a_weighs a_numbers a_takes a_takenAt) Hz := hP
          have hD : va_D Az (wM cI cZ cJ ad x_thrown x_buffered x_given x_isFolding x_work x_rebuilt x_streamed x_reports x_gapFrom x_gapSize x_elements x_wholeSize x_isLaid x_takenMany (upA a_buffer x_buffered (iAnd (iShr l1 (24 - (8 * (iRem l6 4)))) 255)) a_length a_bytes a_weight a_live a_size a_list a_moved a_planned a_stream a_reportedEnd a_reportedKeyword a_starts a_keywordAt a_element a_long1 a_head a_tail a_next a_skip a_last a_whole a_edges a_covers a_weighs a_numbers a_takes a_takenAt) := hD
          refine lv_aload_n hx hb dX8_appendBytes_105 rfl (lv_at hl 1 rfl) ?_
          refine lv_dup hx hb dX8_appendBytes_106 rfl ?_
          refine va_get (ci := 8) (v := .int (iI x_buffered)) (C := RX8) (T := TX8) (N := 42) hx hb hts hiX8 hown hK hP 0 rfl rfl 2 (by decide) hf99 (fun _ h9 => h9) rfl dX8_appendBytes_107 ?_
          refine k_iconst (n := 1) hx hb dX8_appendBytes_110 ?_
          refine k_iadd hx hb dX8_appendBytes_111 ?_
          refine va_put (ci := 8) (v := .int (iI (x_buffered + 1))) (ty := .int) (C := RX8) (T := TX8) (N := 42) hx hb hts hiX8 tyX8 tyX8_ok nmX8 hown hK hP hD hSz 0 rfl rfl 2 (by decide) hf99 (fun _ h9 => h9) rfl (by decide +kernel) rfl rfl (Nat.le_of_ble_eq_true rfl) dX8_appendBytes_112 (fun Hz lz hP hD hSz => ?_)
          have hP : va_P D vwCl (wM cI cZ cJ ad x_thrown (x_buffered + 1) x_given x_isFolding x_work x_rebuilt x_streamed x_reports x_gapFrom x_gapSize x_elements x_wholeSize x_isLaid x_takenMany (upA a_buffer x_buffered (iAnd (iShr l1 (24 - (8 * (iRem l6 4)))) 255)) a_length a_bytes a_weight a_live a_size a_list a_moved a_planned a_stream a_reportedEnd a_reportedKeyword a_starts a_keywordAt a_element a_long1 a_head a_tail a_next a_skip a_last a_whole a_edges a_covers a_weighs a_numbers a_takes a_takenAt) Hz := hP
          have hD : va_D Az (wM cI cZ cJ ad x_thrown (x_buffered + 1) x_given x_isFolding x_work x_rebuilt x_streamed x_reports x_gapFrom x_gapSize x_elements x_wholeSize x_isLaid x_takenMany (upA a_buffer x_buffered (iAnd (iShr l1 (24 - (8 * (iRem l6 4)))) 255)) a_length a_bytes a_weight a_live a_size a_list a_moved a_planned a_stream a_reportedEnd a_reportedKeyword a_starts a_keywordAt a_element a_long1 a_head a_tail a_next a_skip a_last a_whole a_edges a_covers a_weighs a_numbers a_takes a_takenAt) := hD
          refine k_iinc (x := l6) (k := 7) (lv' := [(6, .int (iI (l6 + 1))), (7, .int (iI l1)), (0, .ref (ad 0)), (1, .int (iI l1)), (2, .int (iI l2)), (3, .int (iI l3)), (4, .int (iI l4)), (5, .int (iI l5))]) hx hb dX8_appendBytes_115 hl rfl (by decide) rfl (fun ls hl => ?_)
          refine lv_goto (tgt := 24) hx hb dX8_appendBytes_118 (by decide) ?_
          exact ih x_thrown (x_buffered + 1) (upA a_buffer x_buffered (iAnd (iShr l1 (24 - (8 * (iRem l6 4)))) 255)) l1 l2 l3 l4 l5 (l6 + 1) y0 y1 hs Hz lz hP hD hSz ls (lv_sub hl [2, 3, 4, 5, 6, 7, 0] rfl) kx
        · refine lv_iload hx hb dX8_appendBytes_41 (lv_at hl 6 rfl) ?_
          refine k_bipush (n := 8) hx hb (by decide) dX8_appendBytes_43 ?_
          refine k_icmp_ge (tgt := 52) hx hb hs dX8_appendBytes_45 (by decide) (fun hs => ?_) (fun hs => ?_)
          · refine lv_iload_n hx hb dX8_appendBytes_48 rfl (lv_at hl 2 rfl) ?_
            refine lv_goto (tgt := 77) hx hb dX8_appendBytes_49 (by decide) ?_
            refine lv_istore (lv' := [(7, .int (iI l2)), (0, .ref (ad 0)), (1, .int (iI l1)), (2, .int (iI l2)), (3, .int (iI l3)), (4, .int (iI l4)), (5, .int (iI l5)), (6, .int (iI l6))]) hx hb dX8_appendBytes_77 hl (by decide) rfl (fun ls hl => ?_)
            refine lv_aload_n hx hb dX8_appendBytes_79 rfl (lv_at hl 1 rfl) ?_
            refine va_get (ci := 8) (v := .ref (ad 1)) (C := RX8) (T := TX8) (N := 42) hx hb hts hiX8 hown hK hP 0 rfl rfl 1 (by decide) hf13 (fun _ h9 => h9) rfl dX8_appendBytes_80 ?_
            refine lv_aload_n hx hb dX8_appendBytes_83 rfl (lv_at hl 1 rfl) ?_
            refine va_get (ci := 8) (v := .int (iI x_buffered)) (C := RX8) (T := TX8) (N := 42) hx hb hts hiX8 hown hK hP 0 rfl rfl 2 (by decide) hf99 (fun _ h9 => h9) rfl dX8_appendBytes_84 ?_
            refine lv_iload hx hb dX8_appendBytes_87 (lv_at hl 0 rfl) ?_
            refine k_bipush (n := 24) hx hb (by decide) dX8_appendBytes_89 ?_
            refine k_bipush (n := 8) hx hb (by decide) dX8_appendBytes_91 ?_
            refine lv_iload hx hb dX8_appendBytes_93 (lv_at hl 7 rfl) ?_
            refine k_iconst (n := 4) hx hb dX8_appendBytes_95 ?_
            refine k_irem hx hb dX8_appendBytes_96 (by decide) ?_
            refine k_imul hx hb dX8_appendBytes_97 ?_
            refine k_isub hx hb dX8_appendBytes_98 ?_
            refine k_ishr hx hb dX8_appendBytes_99 ?_
            refine k_sipush (n := 255) hx hb (by decide) dX8_appendBytes_100 ?_
            refine k_iand hx hb dX8_appendBytes_103 ?_
            refine k_iast hx hb hK hP hD hSz 1 0 rfl rfl (Nat.le_of_ble_eq_true rfl) hs dX8_appendBytes_104 (fun Hz lz hP hD hSz hs => ?_)
            have hP : va_P D vwCl (wM cI cZ cJ ad x_thrown x_buffered x_given x_isFolding x_work x_rebuilt x_streamed x_reports x_gapFrom x_gapSize x_elements x_wholeSize x_isLaid x_takenMany (upA a_buffer x_buffered (iAnd (iShr l2 (24 - (8 * (iRem l6 4)))) 255)) a_length a_bytes a_weight a_live a_size a_list a_moved a_planned a_stream a_reportedEnd a_reportedKeyword a_starts a_keywordAt a_element a_long1 a_head a_tail a_next a_skip a_last a_whole a_edges a_covers a_weighs a_numbers a_takes a_takenAt) Hz := hP
            have hD : va_D Az (wM cI cZ cJ ad x_thrown x_buffered x_given x_isFolding x_work x_rebuilt x_streamed x_reports x_gapFrom x_gapSize x_elements x_wholeSize x_isLaid x_takenMany (upA a_buffer x_buffered (iAnd (iShr l2 (24 - (8 * (iRem l6 4)))) 255)) a_length a_bytes a_weight a_live a_size a_list a_moved a_planned a_stream a_reportedEnd a_reportedKeyword a_starts a_keywordAt a_element a_long1 a_head a_tail a_next a_skip a_last a_whole a_edges a_covers a_weighs a_numbers a_takes a_takenAt) := hD
            refine lv_aload_n hx hb dX8_appendBytes_105 rfl (lv_at hl 1 rfl) ?_
            refine lv_dup hx hb dX8_appendBytes_106 rfl ?_
            refine va_get (ci := 8) (v := .int (iI x_buffered)) (C := RX8) (T := TX8) (N := 42) hx hb hts hiX8 hown hK hP 0 rfl rfl 2 (by decide) hf99 (fun _ h9 => h9) rfl dX8_appendBytes_107 ?_
            refine k_iconst (n := 1) hx hb dX8_appendBytes_110 ?_
            refine k_iadd hx hb dX8_appendBytes_111 ?_
            refine va_put (ci := 8) (v := .int (iI (x_buffered + 1))) (ty := .int) (C := RX8) (T := TX8) (N := 42) hx hb hts hiX8 tyX8 tyX8_ok nmX8 hown hK hP hD hSz 0 rfl rfl 2 (by decide) hf99 (fun _ h9 => h9) rfl (by decide +kernel) rfl rfl (Nat.le_of_ble_eq_true rfl) dX8_appendBytes_112 (fun Hz lz hP hD hSz => ?_)
            have hP : va_P D vwCl (wM cI cZ cJ ad x_thrown (x_buffered + 1) x_given x_isFolding x_work x_rebuilt x_streamed x_reports x_gapFrom x_gapSize x_elements x_wholeSize x_isLaid x_takenMany (upA a_buffer x_buffered (iAnd (iShr l2 (24 - (8 * (iRem l6 4)))) 255)) a_length a_bytes a_weight a_live a_size a_list a_moved a_planned a_stream a_reportedEnd a_reportedKeyword a_starts a_keywordAt a_element a_long1 a_head a_tail a_next a_skip a_last a_whole a_edges a_covers a_weighs a_numbers a_takes a_takenAt) Hz := hP
            have hD : va_D Az (wM cI cZ cJ ad x_thrown (x_buffered + 1) x_given x_isFolding x_work x_rebuilt x_streamed x_reports x_gapFrom x_gapSize x_elements x_wholeSize x_isLaid x_takenMany (upA a_buffer x_buffered (iAnd (iShr l2 (24 - (8 * (iRem l6 4)))) 255)) a_length a_bytes a_weight a_live a_size a_list a_moved a_planned a_stream a_reportedEnd a_reportedKeyword a_starts a_keywordAt a_element a_long1 a_head a_tail a_next a_skip a_last a_whole a_edges a_covers a_weighs a_numbers a_takes a_takenAt) := hD
            refine k_iinc (x := l6) (k := 7) (lv' := [(6, .int (iI (l6 + 1))), (7, .int (iI l2)), (0, .ref (ad 0)), (1, .int (iI l1)), (2, .int (iI l2)), (3, .int (iI l3)), (4, .int (iI l4)), (5, .int (iI l5))]) hx hb dX8_appendBytes_115 hl rfl (by decide) rfl (fun ls hl => ?_)
            refine lv_goto (tgt := 24) hx hb dX8_appendBytes_118 (by decide) ?_
            exact ih x_thrown (x_buffered + 1) (upA a_buffer x_buffered (iAnd (iShr l2 (24 - (8 * (iRem l6 4)))) 255)) l1 l2 l3 l4 l5 (l6 + 1) y0 y1 hs Hz lz hP hD hSz ls (lv_sub hl [2, 3, 4, 5, 6, 7, 0] rfl) kx
          · refine lv_iload hx hb dX8_appendBytes_52 (lv_at hl 6 rfl) ?_
            refine k_bipush (n := 12) hx hb (by decide) dX8_appendBytes_54 ?_
            refine k_icmp_ge (tgt := 63) hx hb hs dX8_appendBytes_56 (by decide) (fun hs => ?_) (fun hs => ?_)
            · refine lv_iload_n hx hb dX8_appendBytes_59 rfl (lv_at hl 3 rfl) ?_
              refine lv_goto (tgt := 77) hx hb dX8_appendBytes_60 (by decide) ?_
              refine lv_istore (lv' := [(7, .int (iI l3)), (0, .ref (ad 0)), (1, .int (iI l1)), (2, .int (iI l2)), (3, .int (iI l3)), (4, .int (iI l4)), (5, .int (iI l5)), (6, .int (iI l6))]) hx hb dX8_appendBytes_77 hl (by decide) rfl (fun ls hl => ?_)
              refine lv_aload_n hx hb dX8_appendBytes_79 rfl (lv_at hl 1 rfl) ?_
              refine va_get (ci := 8) (v := .ref (ad 1)) (C := RX8) (T := TX8) (N := 42) hx hb hts hiX8 hown hK hP 0 rfl rfl 1 (by decide) hf13 (fun _ h9 => h9) rfl dX8_appendBytes_80 ?_
              refine lv_aload_n hx hb dX8_appendBytes_83 rfl (lv_at hl 1 rfl) ?_
              refine va_get (ci := 8) (v := .int (iI x_buffered)) (C := RX8) (T := TX8) (N := 42) hx hb hts hiX8 hown hK hP 0 rfl rfl 2 (by decide) hf99 (fun _ h9 => h9) rfl dX8_appendBytes_84 ?_
              refine lv_iload hx hb dX8_appendBytes_87 (lv_at hl 0 rfl) ?_
              refine k_bipush (n := 24) hx hb (by decide) dX8_appendBytes_89 ?_
              refine k_bipush (n := 8) hx hb (by decide) dX8_appendBytes_91 ?_
              refine lv_iload hx hb dX8_appendBytes_93 (lv_at hl 7 rfl) ?_
              refine k_iconst (n := 4) hx hb dX8_appendBytes_95 ?_
              refine k_irem hx hb dX8_appendBytes_96 (by decide) ?_
              refine k_imul hx hb dX8_appendBytes_97 ?_
              refine k_isub hx hb dX8_appendBytes_98 ?_
              refine k_ishr hx hb dX8_appendBytes_99 ?_
              refine k_sipush (n := 255) hx hb (by decide) dX8_appendBytes_100 ?_
              refine k_iand hx hb dX8_appendBytes_103 ?_
              refine k_iast hx hb hK hP hD hSz 1 0 rfl rfl (Nat.le_of_ble_eq_true rfl) hs dX8_appendBytes_104 (fun Hz lz hP hD hSz hs => ?_)
              have hP : va_P D vwCl (wM cI cZ cJ ad x_thrown x_buffered x_given x_isFolding x_work x_rebuilt x_streamed x_reports x_gapFrom x_gapSize x_elements x_wholeSize x_isLaid x_takenMany (upA a_buffer x_buffered (iAnd (iShr l3 (24 - (8 * (iRem l6 4)))) 255)) a_length a_bytes a_weight a_live a_size a_list a_moved a_planned a_stream a_reportedEnd a_reportedKeyword a_starts a_keywordAt a_element a_long1 a_head a_tail a_next a_skip a_last a_whole a_edges a_covers a_weighs a_numbers a_takes a_takenAt) Hz := hP
              have hD : va_D Az (wM cI cZ cJ ad x_thrown x_buffered x_given x_isFolding x_work x_rebuilt x_streamed x_reports x_gapFrom x_gapSize x_elements x_wholeSize x_isLaid x_takenMany (upA a_buffer x_buffered (iAnd (iShr l3 (24 - (8 * (iRem l6 4)))) 255)) a_length a_bytes a_weight a_live a_size a_list a_moved a_planned a_stream a_reportedEnd a_reportedKeyword a_starts a_keywordAt a_element a_long1 a_head a_tail a_next a_skip a_last a_whole a_edges a_covers a_weighs a_numbers a_takes a_takenAt) := hD
              refine lv_aload_n hx hb dX8_appendBytes_105 rfl (lv_at hl 1 rfl) ?_
              refine lv_dup hx hb dX8_appendBytes_106 rfl ?_
              refine va_get (ci := 8) (v := .int (iI x_buffered)) (C := RX8) (T := TX8) (N := 42) hx hb hts hiX8 hown hK hP 0 rfl rfl 2 (by decide) hf99 (fun _ h9 => h9) rfl dX8_appendBytes_107 ?_
              refine k_iconst (n := 1) hx hb dX8_appendBytes_110 ?_
              refine k_iadd hx hb dX8_appendBytes_111 ?_
              refine va_put (ci := 8) (v := .int (iI (x_buffered + 1))) (ty := .int) (C := RX8) (T := TX8) (N := 42) hx hb hts hiX8 tyX8 tyX8_ok nmX8 hown hK hP hD hSz 0 rfl rfl 2 (by decide) hf99 (fun _ h9 => h9) rfl (by decide +kernel) rfl rfl (Nat.le_of_ble_eq_true rfl) dX8_appendBytes_112 (fun Hz lz hP hD hSz => ?_)
              have hP : va_P D vwCl (wM cI cZ cJ ad x_thrown (x_buffered + 1) x_given x_isFolding x_work x_rebuilt x_streamed x_reports x_gapFrom x_gapSize x_elements x_wholeSize x_isLaid x_takenMany (upA a_buffer x_buffered (iAnd (iShr l3 (24 - (8 * (iRem l6 4)))) 255)) a_length a_bytes a_weight a_live a_size a_list a_moved a_planned a_stream a_reportedEnd a_reportedKeyword a_starts a_keywordAt a_element a_long1 a_head a_tail a_next a_skip a_last a_whole a_edges a_covers a_weighs a_numbers a_takes a_takenAt) Hz := hP
              have hD : va_D Az (wM cI cZ cJ ad x_thrown (x_buffered + 1) x_given x_isFolding x_work x_rebuilt x_streamed x_reports x_gapFrom x_gapSize x_elements x_wholeSize x_isLaid x_takenMany (upA a_buffer x_buffered (iAnd (iShr l3 (24 - (8 * (iRem l6 4)))) 255)) a_length a_bytes a_weight a_live a_size a_list a_moved a_planned a_stream a_reportedEnd a_reportedKeyword a_starts a_keywordAt a_element a_long1 a_head a_tail a_next a_skip a_last a_whole a_edges a_covers a_weighs a_numbers a_takes a_takenAt) := hD
              refine k_iinc (x := l6) (k := 7) (lv' := [(6, .int (iI (l6 + 1))), (7, .int (iI l3)), (0, .ref (ad 0)), (1, .int (iI l1)), (2, .int (iI l2)), (3, .int (iI l3)), (4, .int (iI l4)), (5, .int (iI l5))]) hx hb dX8_appendBytes_115 hl rfl (by decide) rfl (fun ls hl => ?_)
              refine lv_goto (tgt := 24) hx hb dX8_appendBytes_118 (by decide) ?_
              exact ih x_thrown (x_buffered + 1) (upA a_buffer x_buffered (iAnd (iShr l3 (24 - (8 * (iRem l6 4)))) 255)) l1 l2 l3 l4 l5 (l6 + 1) y0 y1 hs Hz lz hP hD hSz ls (lv_sub hl [2, 3, 4, 5, 6, 7, 0] rfl) kx
            · refine lv_iload hx hb dX8_appendBytes_63 (lv_at hl 6 rfl) ?_
              refine k_bipush (n := 16) hx hb (by decide) dX8_appendBytes_65 ?_
              refine k_icmp_ge (tgt := 75) hx hb hs dX8_appendBytes_67 (by decide) (fun hs => ?_) (fun hs => ?_)
              · refine lv_iload hx hb dX8_appendBytes_70 (lv_at hl 4 rfl) ?_
                refine lv_goto (tgt := 77) hx hb dX8_appendBytes_72 (by decide) ?_
                refine lv_istore (lv' := [(7, .int (iI l4)), (0, .ref (ad 0)), (1, .int (iI l1)), (2, .int (iI l2)), (3, .int (iI l3)), (4, .int (iI l4)), (5, .int (iI l5)), (6, .int (iI l6))]) hx hb dX8_appendBytes_77 hl (by decide) rfl (fun ls hl => ?_)
                refine lv_aload_n hx hb dX8_appendBytes_79 rfl (lv_at hl 1 rfl) ?_
                refine va_get (ci := 8) (v := .ref (ad 1)) (C := RX8) (T := TX8) (N := 42) hx hb hts hiX8 hown hK hP 0 rfl rfl 1 (by decide) hf13 (fun _ h9 => h9) rfl dX8_appendBytes_80 ?_
                refine lv_aload_n hx hb dX8_appendBytes_83 rfl (lv_at hl 1 rfl) ?_
                refine va_get (ci := 8) (v := .int (iI x_buffered)) (C := RX8) (T := TX8) (N := 42) hx hb hts hiX8 hown hK hP 0 rfl rfl 2 (by decide) hf99 (fun _ h9 => h9) rfl dX8_appendBytes_84 ?_
                refine lv_iload hx hb dX8_appendBytes_87 (lv_at hl 0 rfl) ?_
                refine k_bipush (n := 24) hx hb (by decide) dX8_appendBytes_89 ?_
                refine k_bipush (n := 8) hx hb (by decide) dX8_appendBytes_91 ?_
                refine lv_iload hx hb dX8_appendBytes_93 (lv_at hl 7 rfl) ?_
                refine k_iconst (n := 4) hx hb dX8_appendBytes_95 ?_
                refine k_irem hx hb dX8_appendBytes_96 (by decide) ?_
                refine k_imul hx hb dX8_appendBytes_97 ?_
                refine k_isub hx hb dX8_appendBytes_98 ?_
                refine k_ishr hx hb dX8_appendBytes_99 ?_
                refine k_sipush (n := 255) hx hb (by decide) dX8_appendBytes_100 ?_
                refine k_iand hx hb dX8_appendBytes_103 ?_
                refine k_iast hx hb hK hP hD hSz 1 0 rfl rfl (Nat.le_of_ble_eq_true rfl) hs dX8_appendBytes_104 (fun Hz lz hP hD hSz hs => ?_)
                have hP : va_P D vwCl (wM cI cZ cJ ad x_thrown x_buffered x_given x_isFolding x_work x_rebuilt x_streamed x_reports x_gapFrom x_gapSize x_elements x_wholeSize x_isLaid x_takenMany (upA a_buffer x_buffered (iAnd (iShr l4 (24 - (8 * (iRem l6 4)))) 255)) a_length a_bytes a_weight a_live a_size a_list a_moved a_planned a_stream a_reportedEnd a_reportedKeyword a_starts a_keywordAt a_element a_long1 a_head a_tail a_next a_skip a_last a_whole a_edges a_covers a_weighs a_numbers a_takes a_takenAt) Hz := hP
                have hD : va_D Az (wM cI cZ cJ ad x_thrown x_buffered x_given x_isFolding x_work x_rebuilt x_streamed x_reports x_gapFrom x_gapSize x_elements x_wholeSize x_isLaid x_takenMany (upA a_buffer x_buffered (iAnd (iShr l4 (24 - (8 * (iRem l6 4)))) 255)) a_length a_bytes a_weight a_live a_size a_list a_moved a_planned a_stream a_reportedEnd a_reportedKeyword a_starts a_keywordAt a_element a_long1 a_head a_tail a_next a_skip a_last a_whole a_edges a_covers a_weighs a_numbers a_takes a_takenAt) := hD
                refine lv_aload_n hx hb dX8_appendBytes_105 rfl (lv_at hl 1 rfl) ?_
                refine lv_dup hx hb dX8_appendBytes_106 rfl ?_
                refine va_get (ci := 8) (v := .int (iI x_buffered)) (C := RX8) (T := TX8) (N := 42) hx hb hts hiX8 hown hK hP 0 rfl rfl 2 (by decide) hf99 (fun _ h9 => h9) rfl dX8_appendBytes_107 ?_
                refine k_iconst (n := 1) hx hb dX8_appendBytes_110 ?_
                refine k_iadd hx hb dX8_appendBytes_111 ?_
                refine va_put (ci := 8) (v := .int (iI (x_buffered + 1))) (ty := .int) (C := RX8) (T := TX8) (N := 42) hx hb hts hiX8 tyX8 tyX8_ok nmX8 hown hK hP hD hSz 0 rfl rfl 2 (by decide) hf99 (fun _ h9 => h9) rfl (by decide +kernel) rfl rfl (Nat.le_of_ble_eq_true rfl) dX8_appendBytes_112 (fun Hz lz hP hD hSz => ?_)
                have hP : va_P D vwCl (wM cI cZ cJ ad x_thrown (x_buffered + 1) x_given x_isFolding x_work x_rebuilt x_streamed x_reports x_gapFrom x_gapSize x_elements x_wholeSize x_isLaid x_takenMany (upA a_buffer x_buffered (iAnd (iShr l4 (24 - (8 * (iRem l6 4)))) 255)) a_length a_bytes a_weight a_live a_size a_list a_moved a_planned a_stream a_reportedEnd a_reportedKeyword a_starts a_keywordAt a_element a_long1 a_head a_tail a_next a_skip a_last a_whole a_edges a_covers a_weighs a_numbers a_takes a_takenAt) Hz := hP
                have hD : va_D Az (wM cI cZ cJ ad x_thrown (x_buffered + 1) x_given x_isFolding x_work x_rebuilt x_streamed x_reports x_gapFrom x_gapSize x_elements x_wholeSize x_isLaid x_takenMany (upA a_buffer x_buffered (iAnd (iShr l4 (24 - (8 * (iRem l6 4)))) 255)) a_length a_bytes a_weight a_live a_size a_list a_moved a_planned a_stream a_reportedEnd a_reportedKeyword a_starts a_keywordAt a_element a_long1 a_head a_tail a_next a_skip a_last a_whole a_edges a_covers a_weighs a_numbers a_takes a_takenAt) := hD
                refine k_iinc (x := l6) (k := 7) (lv' := [(6, .int (iI (l6 + 1))), (7, .int (iI l4)), (0, .ref (ad 0)), (1, .int (iI l1)), (2, .int (iI l2)), (3, .int (iI l3)), (4, .int (iI l4)), (5, .int (iI l5))]) hx hb dX8_appendBytes_115 hl rfl (by decide) rfl (fun ls hl => ?_)
                refine lv_goto (tgt := 24) hx hb dX8_appendBytes_118 (by decide) ?_
                exact ih x_thrown (x_buffered + 1) (upA a_buffer x_buffered (iAnd (iShr l4 (24 - (8 * (iRem l6 4)))) 255)) l1 l2 l3 l4 l5 (l6 + 1) y0 y1 hs Hz lz hP hD hSz ls (lv_sub hl [2, 3, 4, 5, 6, 7, 0] rfl) kx
              · refine lv_iload hx hb dX8_appendBytes_75 (lv_at hl 5 rfl) ?_
                refine lv_istore (lv' := [(7, .int (iI l5)), (0, .ref (ad 0)), (1, .int (iI l1)), (2, .int (iI l2)), (3, .int (iI l3)), (4, .int (iI l4)), (5, .int (iI l5)), (6, .int (iI l6))]) hx hb dX8_appendBytes_77 hl (by decide) rfl (fun ls hl => ?_)
                refine lv_aload_n hx hb dX8_appendBytes_79 rfl (lv_at hl 1 rfl) ?_
                refine va_get (ci := 8) (v := .ref (ad 1)) (C := RX8) (T := TX8) (N := 42) hx hb hts hiX8 hown hK hP 0 rfl rfl 1 (by decide) hf13 (fun _ h9 => h9) rfl dX8_appendBytes_80 ?_
                refine lv_aload_n hx hb dX8_appendBytes_83 rfl (lv_at hl 1 rfl) ?_
                refine va_get (ci := 8) (v := .int (iI x_buffered)) (C := RX8) (T := TX8) (N := 42) hx hb hts hiX8 hown hK hP 0 rfl rfl 2 (by decide) hf99 (fun _ h9 => h9) rfl dX8_appendBytes_84 ?_
                refine lv_iload hx hb dX8_appendBytes_87 (lv_at hl 0 rfl) ?_
                refine k_bipush (n := 24) hx hb (by decide) dX8_appendBytes_89 ?_
                refine k_bipush (n := 8) hx hb (by decide) dX8_appendBytes_91 ?_
                refine lv_iload hx hb dX8_appendBytes_93 (lv_at hl 7 rfl) ?_
                refine k_iconst (n := 4) hx hb dX8_appendBytes_95 ?_
                refine k_irem hx hb dX8_appendBytes_96 (by decide) ?_
                refine k_imul hx hb dX8_appendBytes_97 ?_
                refine k_isub hx hb dX8_appendBytes_98 ?_
                refine k_ishr hx hb dX8_appendBytes_99 ?_
                refine k_sipush (n := 255) hx hb (by decide) dX8_appendBytes_100 ?_
                refine k_iand hx hb dX8_appendBytes_103 ?_
                refine k_iast hx hb hK hP hD hSz 1 0 rfl rfl (Nat.le_of_ble_eq_true rfl) hs dX8_appendBytes_104 (fun Hz lz hP hD hSz hs => ?_)
                have hP : va_P D vwCl (wM cI cZ cJ ad x_thrown x_buffered x_given x_isFolding x_work x_rebuilt x_streamed x_reports x_gapFrom x_gapSize x_elements x_wholeSize x_isLaid x_takenMany (upA a_buffer x_buffered (iAnd (iShr l5 (24 - (8 * (iRem l6 4)))) 255)) a_length a_bytes a_weight a_live a_size a_list a_moved a_planned a_stream a_reportedEnd a_reportedKeyword a_starts a_keywordAt a_element a_long1 a_head a_tail a_next a_skip a_last a_whole a_edges a_covers a_weighs a_numbers a_takes a_takenAt) Hz := hP
                have hD : va_D Az (wM cI cZ cJ ad x_thrown x_buffered x_given x_isFolding x_work x_rebuilt x_streamed x_reports x_gapFrom x_gapSize x_elements x_wholeSize x_isLaid x_takenMany (upA a_buffer x_buffered (iAnd (iShr l5 (24 - (8 * (iRem l6 4)))) 255)) a_length a_bytes a_weight a_live a_size a_list a_moved a_planned a_stream a_reportedEnd a_reportedKeyword a_starts a_keywordAt a_element a_long1 a_head a_tail a_next a_skip a_last a_whole a_edges a_covers a_weighs a_numbers a_takes a_takenAt) := hD
                refine lv_aload_n hx hb dX8_appendBytes_105 rfl (lv_at hl 1 rfl) ?_
                refine lv_dup hx hb dX8_appendBytes_106 rfl ?_
                refine va_get (ci := 8) (v := .int (iI x_buffered)) (C := RX8) (T := TX8) (N := 42) hx hb hts hiX8 hown hK hP 0 rfl rfl 2 (by decide) hf99 (fun _ h9 => h9) rfl dX8_appendBytes_107 ?_
                refine k_iconst (n := 1) hx hb dX8_appendBytes_110 ?_
                refine k_iadd hx hb dX8_appendBytes_111 ?_
                refine va_put (ci := 8) (v := .int (iI (x_buffered + 1))) (ty := .int) (C := RX8) (T := TX8) (N := 42) hx hb hts hiX8 tyX8 tyX8_ok nmX8 hown hK hP hD hSz 0 rfl rfl 2 (by decide) hf99 (fun _ h9 => h9) rfl (by decide +kernel) rfl rfl (Nat.le_of_ble_eq_true rfl) dX8_appendBytes_112 (fun Hz lz hP hD hSz => ?_)
                have hP : va_P D vwCl (wM cI cZ cJ ad x_thrown (x_buffered + 1) x_given x_isFolding x_work x_rebuilt x_streamed x_reports x_gapFrom x_gapSize x_elements x_wholeSize x_isLaid x_takenMany (upA a_buffer x_buffered (iAnd (iShr l5 (24 - (8 * (iRem l6 4)))) 255)) a_length a_bytes a_weight a_live a_size a_list a_moved a_planned a_stream a_reportedEnd a_reportedKeyword a_starts a_keywordAt a_element a_long1 a_head a_tail a_next a_skip a_last a_whole a_edges a_covers a_weighs a_numbers a_takes a_takenAt) Hz := hP
                have hD : va_D Az (wM cI cZ cJ ad x_thrown (x_buffered + 1) x_given x_isFolding x_work x_rebuilt x_streamed x_reports x_gapFrom x_gapSize x_elements x_wholeSize x_isLaid x_takenMany (upA a_buffer x_buffered (iAnd (iShr l5 (24 - (8 * (iRem l6 4)))) 255)) a_length a_bytes a_weight a_live a_size a_list a_moved a_planned a_stream a_reportedEnd a_reportedKeyword a_starts a_keywordAt a_element a_long1 a_head a_tail a_next a_skip a_last a_whole a_edges a_covers a_weighs a_numbers a_takes a_takenAt) := hD
                refine k_iinc (x := l6) (k := 7) (lv' := [(6, .int (iI (l6 + 1))), (7, .int (iI l5)), (0, .ref (ad 0)), (1, .int (iI l1)), (2, .int (iI l2)), (3, .int (iI l3)), (4, .int (iI l4)), (5, .int (iI l5))]) hx hb dX8_appendBytes_115 hl rfl (by decide) rfl (fun ls hl => ?_)
                refine lv_goto (tgt := 24) hx hb dX8_appendBytes_118 (by decide) ?_
                exact ih x_thrown (x_buffered + 1) (upA a_buffer x_buffered (iAnd (iShr l5 (24 - (8 * (iRem l6 4)))) 255)) l1 l2 l3 l4 l5 (l6 + 1) y0 y1 hs Hz lz hP hD hSz ls (lv_sub hl [2, 3, 4, 5, 6, 7, 0] rfl) kx
      · cases hs
        exact kx Hz lz hP hD hSz ls (lv_sub hl [0] rfl)
  refine (?_ : ∀ (Hz : Heap) (lz : List Loc), va_P D vwCl (wM cI cZ cJ ad x_thrown x_buffered x_given x_isFolding x_work x_rebuilt x_streamed x_reports x_gapFrom x_gapSize x_elements x_wholeSize x_isLaid x_takenMany a_buffer a_length a_bytes a_weight a_live a_size a_list a_moved a_planned a_stream a_reportedEnd a_reportedKeyword a_starts a_keywordAt a_element a_long1 a_head a_tail a_next a_skip a_last a_whole a_edges a_covers a_weighs a_numbers a_takes a_takenAt) Hz → va_D Az (wM cI cZ cJ ad x_thrown x_buffered x_given x_isFolding x_work x_rebuilt x_streamed x_reports x_gapFrom x_gapSize x_elements x_wholeSize x_isLaid x_takenMany a_buffer a_length a_bytes a_weight a_live a_size a_list a_moved a_planned a_stream a_reportedEnd a_reportedKeyword a_starts a_keywordAt a_element a_long1 a_head a_tail a_next a_skip a_last a_whole a_edges a_covers a_weighs a_numbers a_takes a_takenAt) → va_S Az s.heap Hz lz → W p l e (headSpec wsX8_appendBytes rm_X8_appendBytes).room s m args below meth c Hz lz 0 0 (MQ below (QW D vwCl (some (.int (iI r))) wz Az) args s 0 0 Az) (F0 m 0 ls [])) s.heap [] hP hD hSz
  intro Hz lz hP hD hSz
  refine lv_aload_n hx hb dX8_appendBytes_0 rfl (lv_at hl 0 rfl) ?_
  refine k_iconst (n := 0) hx hb dX8_appendBytes_1 ?_
  refine va_put (ci := 8) (v := .int (iI 0)) (ty := .int) (C := RX8) (T := TX8) (N := 42) hx hb hts hiX8 tyX8 tyX8_ok nmX8 hown hK hP hD hSz 0 rfl rfl 0 (by decide) hf1 (fun _ h9 => h9) rfl (by decide +kernel) rfl rfl (Nat.le_of_ble_eq_true rfl) dX8_appendBytes_2 (fun Hz lz hP hD hSz => ?_)
  have hP : va_P D vwCl (wM cI cZ cJ ad 0 x_buffered x_given x_isFolding x_work x_rebuilt x_streamed x_reports x_gapFrom x_gapSize x_elements x_wholeSize x_isLaid x_takenMany a_buffer a_length a_bytes a_weight a_live a_size a_list a_moved a_planned a_stream a_reportedEnd a_reportedKeyword a_starts a_keywordAt a_element a_long1 a_head a_tail a_next a_skip a_last a_whole a_edges a_covers a_weighs a_numbers a_takes a_takenAt) Hz := hP
  have hD : va_D Az (wM cI cZ cJ ad 0 x_buffered x_given x_isFolding x_work x_rebuilt x_streamed x_reports x_gapFrom x_gapSize x_elements x_wholeSize x_isLaid x_takenMany a_buffer a_length a_bytes a_weight a_live a_size a_list a_moved a_planned a_stream a_reportedEnd a_reportedKeyword a_starts a_keywordAt a_element a_long1 a_head a_tail a_next a_skip a_last a_whole a_edges a_covers a_weighs a_numbers a_takes a_takenAt) := hD
  refine lv_aload_n hx hb dX8_appendBytes_5 rfl (lv_at hl 0 rfl) ?_
  refine va_get (ci := 8) (v := .int (iI x_buffered)) (C := RX8) (T := TX8) (N := 42) hx hb hts hiX8 hown hK hP 0 rfl rfl 2 (by decide) hf99 (fun _ h9 => h9) rfl dX8_appendBytes_6 ?_
  refine k_bipush (n := 20) hx hb (by decide) dX8_appendBytes_9 ?_
  refine k_iadd hx hb dX8_appendBytes_11 ?_
  refine k_sipush (n := 200) hx hb (by decide) dX8_appendBytes_12 ?_
  refine k_icmp_le (tgt := 21) hx hb hs dX8_appendBytes_15 (by decide) (fun hs => ?_) (fun hs => ?_)
  · refine k_bipush (n := (-6)) hx hb (by decide) dX8_appendBytes_18 ?_
    cases hs
    exact k_iret_w hx hb hr hlk (by rw [hw1]; exact hP) hSz dX8_appendBytes_20 rfl
  · refine k_iconst (n := 0) hx hb dX8_appendBytes_21 ?_
    refine lv_istore (lv' := [(6, .int (iI 0)), (0, .ref (ad 0)), (1, .int (iI pz1)), (2, .int (iI pz2)), (3, .int (iI pz3)), (4, .int (iI pz4)), (5, .int (iI pz5))]) hx hb dX8_appendBytes_22 hl (by decide) rfl (fun ls hl => ?_)
    obtain ⟨ez1, ez2, hq, hs⟩ := bd2_some hs
    refine Lz24 FU 0 x_buffered a_buffer pz1 pz2 pz3 pz4 pz5 0 ez1 ez2 hq Hz lz hP hD hSz ls (lv_sub hl [1, 2, 3, 4, 5, 6, 0] rfl) ?_
    intro Hz lz hP hD hSz ls hl
    refine lv_aload_n hx hb dX8_appendBytes_121 rfl (lv_at hl 0 rfl) ?_
    refine va_get (ci := 8) (v := .int (iI ez1)) (C := RX8) (T := TX8) (N := 42) hx hb hts hiX8 hown hK hP 0 rfl rfl 2 (by decide) hf99 (fun _ h9 => h9) rfl dX8_appendBytes_122 ?_
    cases hs
    exact k_iret_w hx hb hr hlk (by rw [hw1]; exact hP) hSz dX8_appendBytes_125 rfl
/-! X8_bufferLength -/
set_option maxHeartbeats 4000000 in
set_option maxRecDepth 100000 in
theorem c_X8_bufferLength (l : Launch) (D : va_G) (cI cZ cJ : ClassId) {ad : Nat → Nat} {x_thrown : Int} {x_buffered : Int} {x_given : Int} {x_isFolding : Int} {x_work : Int} {x_rebuilt : Int} {x_streamed : Int} {x_reports : Int} {x_gapFrom : Int} {x_gapSize : Int} {x_elements : Int} {x_wholeSize : Int} {x_isLaid : Int} {x_takenMany : Int} {a_buffer : (Int → Int)} {a_length : (Int → Int)} {a_bytes : (Int → Int)} {a_weight : (Int → Int)} {a_live : (Int → Int)} {a_size : (Int → Int)} {a_list : (Int → Int)} {a_moved : (Int → Int)} {a_planned : (Int → Int)} {a_stream : (Int → Int)} {a_reportedEnd : (Int → Int)} {a_reportedKeyword : (Int → Int)} {a_starts : (Int → Int)} {a_keywordAt : (Int → Int)} {a_element : (Int → Int)} {a_long1 : (Int → Int)} {a_head : (Int → Int)} {a_tail : (Int → Int)} {a_next : (Int → Int)} {a_skip : (Int → Int)} {a_last : (Int → Int)} {a_whole : (Int → Int)} {a_edges : (Int → Int)} {a_covers : (Int → Int)} {a_weighs : (Int → Int)} {a_numbers : (Int → Int)} {a_takes : (Int → Int)} {a_takenAt : (Int → Int)} {r : Int} {y_x_thrown : Int} {sz : Nat} (hs : s_X8_bufferLength x_thrown x_buffered = some (r, y_x_thrown)) : Met l yX8_bufferLength wsX8_bufferLength rm_X8_bufferLength (PW D vwCl [(cI, .int), (cZ, .boolean), (cJ, .long)] [.ref (ad 0)] (wM cI cZ cJ ad x_thrown x_buffered x_given x_isFolding x_work x_rebuilt x_streamed x_reports x_gapFrom x_gapSize x_elements x_wholeSize x_isLaid x_takenMany a_buffer a_length a_bytes a_weight a_live a_size a_list a_moved a_planned a_stream a_reportedEnd a_reportedKeyword a_starts a_keywordAt a_element a_long1 a_head a_tail a_next a_skip a_last a_whole a_edges a_covers a_weighs a_numbers a_takes a_takenAt) sz) (QW D vwCl (some (.int (iI r))) (wM cI cZ cJ ad y_x_thrown x_buffered x_given x_isFolding x_work x_rebuilt x_streamed x_reports x_gapFrom x_gapSize x_elements x_wholeSize x_isLaid x_takenMany a_buffer a_length a_bytes a_weight a_live a_size a_list a_moved a_planned a_stream a_reportedEnd a_reportedKeyword a_starts a_keywordAt a_element a_long1 a_head a_tail a_next a_skip a_last a_whole a_edges a_covers a_weighs a_numbers a_takes a_takenAt) (va_A (wM cI cZ cJ ad x_thrown x_buffered x_given x_isFolding x_work x_rebuilt x_streamed x_reports x_gapFrom x_gapSize x_elements x_wholeSize x_isLaid x_takenMany a_buffer a_length a_bytes a_weight a_live a_size a_list a_moved a_planned a_stream a_reportedEnd a_reportedKeyword a_starts a_keywordAt a_element a_long1 a_head a_tail a_next a_skip a_last a_whole a_edges a_covers a_weighs a_numbers a_takes a_takenAt) sz)) 0 0 (va_A (wM cI cZ cJ ad x_thrown x_buffered x_given x_isFolding x_work x_rebuilt x_streamed x_reports x_gapFrom x_gapSize x_elements x_wholeSize x_isLaid x_takenMany a_buffer a_length a_bytes a_weight a_live a_size a_list a_moved a_planned a_stream a_reportedEnd a_reportedKeyword a_starts a_keywordAt a_element a_long1 a_head a_tail a_next a_skip a_last a_whole a_edges a_covers a_weighs a_numbers a_takes a_takenAt) sz) := by
  refine Met.ofW (cc := cX8_bufferLength) (maxL := 1) (ret := (some .int)) (by decide) rfl ?_
  intro p e s m args below meth c s₁ B hml hv
  obtain ⟨hav, hsz, hP, hK, hD0⟩ := hv
  have hx := B.exec
  have hb := B.bytes
  have hr := B.returns
  have hts := atoms_spec (ws := wsX8_bufferLength) B.pre
  have hown : s.vm.findClass RX8 = some m.cls := findClass_of_methodNamed B.named
  have hlk := B.notSynchronized
  have hf1 : (Cond.fieldLink RX8 1 "KeywordMatcherModel" "thrown" "I").before args s = true := hts _ (List.mem_of_getElem? (i := 1) rfl)
  have hiX8 : ∀ w ∈ wsX80, w ∈ wsX8_bufferLength := fun w h => List.mem_cons_of_mem _ (List.mem_append_right _ h)
  have hf99 : (Cond.fieldLink RX8 99 "KeywordMatcherModel" "buffered" "I").before args s = true := hts _ (List.mem_of_getElem? (i := 2) rfl)
  subst hsz
  have hD := hD0.self (sz := s.heap.size)
  generalize hAe : va_A (wM cI cZ cJ ad x_thrown x_buffered x_given x_isFolding x_work x_rebuilt x_streamed x_reports x_gapFrom x_gapSize x_elements x_wholeSize x_isLaid x_takenMany a_buffer a_length a_bytes a_weight a_live a_size a_list a_moved a_planned a_stream a_reportedEnd a_reportedKeyword a_starts a_keywordAt a_element a_long1 a_head a_tail a_next a_skip a_last a_whole a_edges a_covers a_weighs a_numbers a_takes a_takenAt) s.heap.size = Az at hD ⊢
  have hA : ∀ q : Nat, s.heap.size ≤ q → Az q := fun q h => by rw [← hAe]; exact Or.inr h
  clear hAe
  have hSz : va_S Az s.heap s.heap [] := va_S.rf
  obtain ⟨wz, hw1⟩ : ∃ z : va_W, z = (wM cI cZ cJ ad y_x_thrown x_buffered x_given x_isFolding x_work x_rebuilt x_streamed x_reports x_gapFrom x_gapSize x_elements x_wholeSize x_isLaid x_takenMany a_buffer a_length a_bytes a_weight a_live a_size a_list a_moved a_planned a_stream a_reportedEnd a_reportedKeyword a_starts a_keywordAt a_element a_long1 a_head a_tail a_next a_skip a_last a_whole a_edges a_covers a_weighs a_numbers a_takes a_takenAt) := ⟨_, rfl⟩
  rw [← hw1]
  have hl := lv_entry ([.ref (ad 0)]) (n := 1) (Nat.le_of_ble_eq_true rfl)
  rw [show entryFrame m args 1 = entryFrame m ([.ref (ad 0)] : List Value).toArray 1 from by rw [hav], lg_entry_eq]
  generalize (lg_sl ([.ref (ad 0)]) ++ List.replicate (1 - (lg_sl ([.ref (ad 0)])).length) Slot.unset).toArray = ls at hl ⊢
  have hl : lv_has ls 1 [(0, .ref (ad 0))] := hl
  unfold s_X8_bufferLength at hs
  refine (?_ : ∀ (Hz : Heap) (lz : List Loc), va_P D vwCl (wM cI cZ cJ ad x_thrown x_buffered x_given x_isFolding x_work x_rebuilt x_streamed x_reports x_gapFrom x_gapSize x_elements x_wholeSize x_isLaid x_takenMany a_buffer a_length a_bytes a_weight a_live a_size a_list a_moved a_planned a_stream a_reportedEnd a_reportedKeyword a_starts a_keywordAt a_element a_long1 a_head a_tail a_next a_skip a_last a_whole a_edges a_covers a_weighs a_numbers a_takes a_takenAt) Hz → va_D Az (wM cI cZ cJ ad x_thrown x_buffered x_given x_isFolding x_work x_rebuilt x_streamed x_reports x_gapFrom x_gapSize x_elements x_wholeSize x_isLaid x_takenMany a_buffer a_length a_bytes a_weight a_live a_size a_list a_moved a_planned a_stream a_reportedEnd a_reportedKeyword a_starts a_keywordAt a_element a_long1 a_head a_tail a_next a_skip a_last a_whole a_edges a_covers a_weighs a_numbers a_takes a_takenAt) → va_S Az s.heap Hz lz → W p l e (headSpec wsX8_bufferLength rm_X8_bufferLength).room s m args below meth c Hz lz 0 0 (MQ below (QW D vwCl (some (.int (iI r))) wz Az) args s 0 0 Az) (F0 m 0 ls [])) s.heap [] hP hD hSz
  intro Hz lz hP hD hSz
  refine lv_aload_n hx hb dX8_bufferLength_0 rfl (lv_at hl 0 rfl) ?_
  refine k_iconst (n := 0) hx hb dX8_bufferLength_1 ?_
  refine va_put (ci := 8) (v := .int (iI 0)) (ty := .int) (C := RX8) (T := TX8) (N := 42) hx hb hts hiX8 tyX8 tyX8_ok nmX8 hown hK hP hD hSz 0 rfl rfl 0 (by decide) hf1 (fun _ h9 => h9) rfl (by decide +kernel) rfl rfl (Nat.le_of_ble_eq_true rfl) dX8_bufferLength_2 (fun Hz lz hP hD hSz => ?_)
  have hP : va_P D vwCl (wM cI cZ cJ ad 0 x_buffered x_given x_isFolding x_work x_rebuilt x_streamed x_reports x_gapFrom x_gapSize x_elements x_wholeSize x_isLaid x_takenMany a_buffer a_length a_bytes a_weight a_live a_size a_list a_moved a_planned a_stream a_reportedEnd a_reportedKeyword a_starts a_keywordAt a_element a_long1 a_head a_tail a_next a_skip a_last a_whole a_edges a_covers a_weighs a_numbers a_takes a_takenAt) Hz := hP
  have hD : va_D Az (wM cI cZ cJ ad 0 x_buffered x_given x_isFolding x_work x_rebuilt x_streamed x_reports x_gapFrom x_gapSize x_elements x_wholeSize x_isLaid x_takenMany a_buffer a_length a_bytes a_weight a_live a_size a_list a_moved a_planned a_stream a_reportedEnd a_reportedKeyword a_starts a_keywordAt a_element a_long1 a_head a_tail a_next a_skip a_last a_whole a_edges a_covers a_weighs a_numbers a_takes a_takenAt) := hD
  refine lv_aload_n hx hb dX8_bufferLength_5 rfl (lv_at hl 0 rfl) ?_
  refine va_get (ci := 8) (v := .int (iI x_buffered)) (C := RX8) (T := TX8) (N := 42) hx hb hts hiX8 hown hK hP 0 rfl rfl 2 (by decide) hf99 (fun _ h9 => h9) rfl dX8_bufferLength_6 ?_
  cases hs
  exact k_iret_w hx hb hr hlk (by rw [hw1]; exact hP) hSz dX8_bufferLength_9 rfl
/-! X8_isGiven -/
set_option maxHeartbeats 4000000 in
set_option maxRecDepth 100000 in
theorem c_X8_isGiven (l : Launch) (D : va_G) (cI cZ cJ : ClassId) {ad : Nat → Nat} {x_thrown : Int} {x_buffered : Int} {x_given : Int} {x_isFolding : Int} {x_work : Int} {x_rebuilt : Int} {x_streamed : Int} {x_reports : Int} {x_gapFrom : Int} {x_gapSize : Int} {x_elements : Int} {x_wholeSize : Int} {x_isLaid : Int} {x_takenMany : Int} {a_buffer : (Int → Int)} {a_length : (Int → Int)} {a_bytes : (Int → Int)} {a_weight : (Int → Int)} {a_live : (Int → Int)} {a_size : (Int → Int)} {a_list : (Int → Int)} {a_moved : (Int → Int)} {a_planned : (Int → Int)} {a_stream : (Int → Int)} {a_reportedEnd : (Int → Int)} {a_reportedKeyword : (Int → Int)} {a_starts : (Int → Int)} {a_keywordAt : (Int → Int)} {a_element : (Int → Int)} {a_long1 : (Int → Int)} {a_head : (Int → Int)} {a_tail : (Int → Int)} {a_next : (Int → Int)} {a_skip : (Int → Int)} {a_last : (Int → Int)} {a_whole : (Int → Int)} {a_edges : (Int → Int)} {a_covers : (Int → Int)} {a_weighs : (Int → Int)} {a_numbers : (Int → Int)} {a_takes : (Int → Int)} {a_takenAt : (Int → Int)} {pz1 : Int} {r : Int} (hs : s_X8_isGiven x_given pz1 = some r) : Met l yX8_isGiven wsX8_isGiven rm_X8_isGiven (PR D vwCl [(cI, .int), (cZ, .boolean), (cJ, .long)] [.ref (ad 0), .int (iI pz1)] (wM cI cZ cJ ad x_thrown x_buffered x_given x_isFolding x_work x_rebuilt x_streamed x_reports x_gapFrom x_gapSize x_elements x_wholeSize x_isLaid x_takenMany a_buffer a_length a_bytes a_weight a_live a_size a_list a_moved a_planned a_stream a_reportedEnd a_reportedKeyword a_starts a_keywordAt a_element a_long1 a_head a_tail a_next a_skip a_last a_whole a_edges a_covers a_weighs a_numbers a_takes a_takenAt)) (QR (some (.int (iI r)))) 0 0 (fun _ => False) := by
  refine Met.ofW (cc := cX8_isGiven) (maxL := 2) (ret := (some .boolean)) (by decide) rfl ?_
  intro p e s m args below meth c s₁ B hml hv
  obtain ⟨hav, hP, hK⟩ := hv
  have hx := B.exec
  have hb := B.bytes
  have hr := B.returns
  have hts := atoms_spec (ws := wsX8_isGiven) B.pre
  have hown : s.vm.findClass RX8 = some m.cls := findClass_of_methodNamed B.named
  have hlk := B.notSynchronized
  have hf102 : (Cond.fieldLink RX8 102 "KeywordMatcherModel" "given" "I").before args s = true := hts _ (List.mem_of_getElem? (i := 1) rfl)
  have hiX8 : ∀ w ∈ wsX80, w ∈ wsX8_isGiven := fun w h => List.mem_cons_of_mem _ (List.mem_append_right _ h)
  have hl := lv_entry ([.ref (ad 0), .int (iI pz1)]) (n := 2) (Nat.le_of_ble_eq_true rfl)
  rw [show entryFrame m args 2 = entryFrame m ([.ref (ad 0), .int (iI pz1)] : List Value).toArray 2 from by rw [hav], lg_entry_eq]
  generalize (lg_sl ([.ref (ad 0), .int (iI pz1)]) ++ List.replicate (2 - (lg_sl ([.ref (ad 0), .int (iI pz1)])).length) Slot.unset).toArray = ls at hl ⊢
  have hl : lv_has ls 2 [(0, .ref (ad 0)), (1, .int (iI pz1))] := hl
  unfold s_X8_isGiven at hs
  refine lv_iload_n hx hb dX8_isGiven_0 rfl (lv_at hl 1 rfl) ?_
  refine k_i2l hx hb hs dX8_isGiven_1 (fun hs => ?_)
  refine k_lconst (v := 0) hx hb (by decide) dX8_isGiven_2 ?_
  refine lv_aload_n hx hb dX8_isGiven_3 rfl (lv_at hl 0 rfl) ?_
  refine va_get (ci := 8) (v := .int (iI x_given)) (C := RX8) (T := TX8) (N := 42) hx hb hts hiX8 hown hK hP 0 rfl rfl 7 (by decide) hf102 (fun _ h9 => h9) rfl dX8_isGiven_4 ?_
  refine k_iconst (n := 1) hx hb dX8_isGiven_7 ?_
  refine k_isub hx hb dX8_isGiven_8 ?_
  refine k_i2l hx hb hs dX8_isGiven_9 (fun hs => ?_)
  obtain ⟨vz1, hcz, hs⟩ := bd1_some hs
  refine k_rS (As := [.long (iL pz1), .long (iL 0), .long (iL (x_given - 1))]) (rest := []) (st1 := [.int (iI vz1)]) ⟨hx, hb, hml, hown, hts⟩ hK (va_P_nil (D := D) (cl := vwCl)) (c_X8_isIn l D cI cZ cJ hcz) (va_cwS 3 hts gX8_isGiven_X8_isIn rfl rfl rfl (by decide +kernel) ⟨Nat.le_of_ble_eq_true rfl, Nat.le_of_ble_eq_true rfl⟩) rfl hl.1 rfl (lv_room (Nat.le_of_ble_eq_true rfl)) dX8_isGiven_10 ⟨Nat.zero_le _, Nat.zero_le _⟩ rfl ?_
  obtain ⟨hz, hs⟩ := cZ_some hs
  cases hs
  exact k_zret_r hx hb hr hlk rfl hz dX8_isGiven_13 rfl
/-! X8_isLiveOne -/
set_option maxHeartbeats 4000000 in
set_option maxRecDepth 100000 in
theorem c_X8_isLiveOne (l : Launch) (D : va_G) (cI cZ cJ : ClassId) {ad : Nat → Nat} {x_thrown : Int} {x_buffered : Int} {x_given : Int} {x_isFolding : Int} {x_work : Int} {x_rebuilt : Int} {x_streamed : Int} {x_reports : Int} {x_gapFrom : Int} {x_gapSize : Int} {x_elements : Int} {x_wholeSize : Int} {x_isLaid : Int} {x_takenMany : Int} {a_buffer : (Int → Int)} {a_length : (Int → Int)} {a_bytes : (Int → Int)} {a_weight : (Int → Int)} {a_live : (Int → Int)} {a_size : (Int → Int)} {a_list : (Int → Int)} {a_moved : (Int → Int)} {a_planned : (Int → Int)} {a_stream : (Int → Int)} {a_reportedEnd : (Int → Int)} {a_reportedKeyword : (Int → Int)} {a_starts : (Int → Int)} {a_keywordAt : (Int → Int)} {a_element : (Int → Int)} {a_long1 : (Int → Int)} {a_head : (Int → Int)} {a_tail : (Int → Int)} {a_next : (Int → Int)} {a_skip : (Int → Int)} {a_last : (Int → Int)} {a_whole : (Int → Int)} {a_edges : (Int → Int)} {a_covers : (Int → Int)} {a_weighs : (Int → Int)} {a_numbers : (Int → Int)} {a_takes : (Int → Int)} {a_takenAt : (Int → Int)} {pz1 : Int} {r : Int} (hs : s_X8_isLiveOne x_given a_live pz1 = some r) : Met l yX8_isLiveOne wsX8_isLiveOne rm_X8_isLiveOne (PR D vwCl [(cI, .int), (cZ, .boolean), (cJ, .long)] [.ref (ad 0), .int (iI pz1)] (wM cI cZ cJ ad x_thrown x_buffered x_given x_isFolding x_work x_rebuilt x_streamed x_reports x_gapFrom x_gapSize x_elements x_wholeSize x_isLaid x_takenMany a_buffer a_length a_bytes a_weight a_live a_size a_list a_moved a_planned a_stream a_reportedEnd a_reportedKeyword a_starts a_keywordAt a_element a_long1 a_head a_tail a_next a_skip a_last a_whole a_edges a_covers a_weighs a_numbers a_takes a_takenAt)) (QR (some (.int (iI r)))) 0 0 (fun _ => False) := by
  refine Met.ofW (cc := cX8_isLiveOne) (maxL := 2) (ret := (some .boolean)) (by decide) rfl ?_
  intro p e s m args below meth c s₁ B hml hv
  obtain ⟨hav, hP, hK⟩ := hv
  have hx := B.exec
  have hb := B.bytes
  have hr := B.returns
  have hts := atoms_spec (ws := wsX8_isLiveOne) B.pre
  have hown : s.vm.findClass RX8 = some m.cls := findClass_of_methodNamed B.named
  have hlk := B.notSynchronized
  have hf26 : (Cond.fieldLink RX8 26 "KeywordMatcherModel" "live" "[Z").before args s = true := hts _ (List.mem_of_getElem? (i := 1) rfl)
  have hiX8 : ∀ w ∈ wsX80, w ∈ wsX8_isLiveOne := fun w h => List.mem_cons_of_mem _ (List.mem_append_right _ h)
  have hl := lv_entry ([.ref (ad 0), .int (iI pz1)]) (n := 2) (Nat.le_of_ble_eq_true rfl)
  rw [show entryFrame m args 2 = entryFrame m ([.ref (ad 0), .int (iI pz1)] : List Value).toArray 2 from by rw [hav], lg_entry_eq]
  generalize (lg_sl ([.ref (ad 0), .int (iI pz1)]) ++ List.replicate (2 - (lg_sl ([.ref (ad 0), .int (iI pz1)])).length) Slot.unset).toArray = ls at hl ⊢
  have hl : lv_has ls 2 [(0, .ref (ad 0)), (1, .int (iI pz1))] := hl
  unfold s_X8_isLiveOne at hs
  refine lv_aload_n hx hb dX8_isLiveOne_0 rfl (lv_at hl 0 rfl) ?_
  refine lv_iload_n hx hb dX8_isLiveOne_1 rfl (lv_at hl 1 rfl) ?_
  obtain ⟨vz1, hcz, hs⟩ := bd1_some hs
  refine k_rV (As := [.int (iI pz1)]) (rest := []) (st1 := [.int (iI vz1)]) ⟨hx, hb, hml, hown, hts⟩ hK hP (c_X8_isGiven l D cI cZ cJ hcz) (cwV 1 hts gX8_isLiveOne_X8_isGiven rfl rfl rfl (by decide +kernel) ⟨Nat.le_of_ble_eq_true rfl, Nat.le_of_ble_eq_true rfl⟩) 0 rfl rfl rfl rfl hl.1 rfl (lv_room (Nat.le_of_ble_eq_true rfl)) dX8_isLiveOne_2 ⟨Nat.zero_le _, Nat.zero_le _⟩ rfl ?_
  refine k_if_eq (tgt := 21) hx hb hs dX8_isLiveOne_5 (by decide) (fun hs => ?_) (fun hs => ?_)
  · refine k_iconst (n := 0) hx hb dX8_isLiveOne_21 ?_
    cases hs
    exact k_zret_r hx hb hr hlk rfl (by decide) dX8_isLiveOne_22 rfl
  · refine lv_aload_n hx hb dX8_isLiveOne_8 rfl (lv_at hl 0 rfl) ?_
    refine va_get (ci := 8) (v := .ref (ad 5)) (C := RX8) (T := TX8) (N := 42) hx hb hts hiX8 hown hK hP 0 rfl rfl 6 (by decide) hf26 (fun _ h9 => h9) rfl dX8_isLiveOne_9 ?_
    refine lv_iload_n hx hb dX8_isLiveOne_12 rfl (lv_at hl 1 rfl) ?_
    refine k_zald hx hb hK hP 5 1 rfl rfl (Nat.le_of_ble_eq_true rfl) hs dX8_isLiveOne_13 (fun vz2 hs => ?_)
    refine k_if_eq (tgt := 21) hx hb hs dX8_isLiveOne_14 (by decide) (fun hs => ?_) (fun hs => ?_)
    · refine k_iconst (n := 0) hx hb dX8_isLiveOne_21 ?_
      cases hs
      exact k_zret_r hx hb hr hlk rfl (by decide) dX8_isLiveOne_22 rfl
    · refine k_iconst (n := 1) hx hb dX8_isLiveOne_17 ?_
      refine lv_goto (tgt := 22) hx hb dX8_isLiveOne_18 (by decide) ?_
      cases hs
      exact k_zret_r hx hb hr hlk rfl (by decide) dX8_isLiveOne_22 rfl
/-! X8_folded -/
set_option maxHeartbeats 4000000 in
set_option maxRecDepth 100000 in
theorem c_X8_folded (l : Launch) (D : va_G) (cI cZ cJ : ClassId) {ad : Nat → Nat} {x_thrown : Int} {x_buffered : Int} {x_given : Int} {x_isFolding : Int} {x_work : Int} {x_rebuilt : Int} {x_streamed : Int} {x_reports : Int} {x_gapFrom : Int} {x_gapSize : Int} {x_elements : Int} {x_wholeSize : Int} {x_isLaid : Int} {x_takenMany : Int} {a_buffer : (Int → Int)} {a_length : (Int → Int)} {a_bytes : (Int → Int)} {a_weight : (Int → Int)} {a_live : (Int → Int)} {a_size : (Int → Int)} {a_list : (Int → Int)} {a_moved : (Int → Int)} {a_planned : (Int → Int)} {a_stream : (Int → Int)} {a_reportedEnd : (Int → Int)} {a_reportedKeyword : (Int → Int)} {a_starts : (Int → Int)} {a_keywordAt : (Int → Int)} {a_element : (Int → Int)} {a_long1 : (Int → Int)} {a_head : (Int → Int)} {a_tail : (Int → Int)} {a_next : (Int → Int)} {a_skip : (Int → Int)} {a_last : (Int → Int)} {a_whole : (Int → Int)} {a_edges : (Int → Int)} {a_covers : (Int → Int)} {a_weighs : (Int → Int)} {a_numbers : (Int → Int)} {a_takes : (Int → Int)} {a_takenAt : (Int → Int)} {pz1 : Int} {r : Int} (hs : s_X8_folded x_isFolding pz1 = some r) : Met l yX8_folded wsX8_folded rm_X8_folded (PR D vwCl [(cI, .int), (cZ, .boolean), (cJ, .long)] [.ref (ad 0), .int (iI pz1)] (wM cI cZ cJ ad x_thrown x_buffered x_given x_isFolding x_work x_rebuilt x_streamed x_reports x_gapFrom x_gapSize x_elements x_wholeSize x_isLaid x_takenMany a_buffer a_length a_bytes a_weight a_live a_size a_list a_moved a_planned a_stream a_reportedEnd a_reportedKeyword a_starts a_keywordAt a_element a_long1 a_head a_tail a_next a_skip a_last a_whole a_edges a_covers a_weighs a_numbers a_takes a_takenAt)) (QR (some (.int (iI r)))) 0 0 (fun _ => False) := by
  refine Met.ofW (cc := cX8_folded) (maxL := 2) (ret := (some .int)) (by decide) rfl ?_
  intro p e s m args below meth c s₁ B hml hv
  obtain ⟨hav, hP, hK⟩ := hv
  have hx := B.exec
  have hb := B.bytes
  have hr := B.returns
  have hts := atoms_spec (ws := wsX8_folded) B.pre
  have hown : s.vm.findClass RX8 = some m.cls := findClass_of_methodNamed B.named
  have hlk := B.notSynchronized
  have hf113 : (Cond.fieldLink RX8 113 "KeywordMatcherModel" "isFolding" "Z").before args s = true := hts _ (List.mem_of_getElem? (i := 1) rfl)
  have hiX8 : ∀ w ∈ wsX80, w ∈ wsX8_folded := fun w h => List.mem_cons_of_mem _ (List.mem_append_right _ h)
  have hc117 : (Cond.constantLong RX8 117 (65)).before args s = true := hts _ (List.mem_of_getElem? (i := 2) rfl)
  have hc119 : (Cond.constantLong RX8 119 (90)).before args s = true := hts _ (List.mem_of_getElem? (i := 3) rfl)
  have hl := lv_entry ([.ref (ad 0), .int (iI pz1)]) (n := 2) (Nat.le_of_ble_eq_true rfl)
  rw [show entryFrame m args 2 = entryFrame m ([.ref (ad 0), .int (iI pz1)] : List Value).toArray 2 from by rw [hav], lg_entry_eq]
  generalize (lg_sl ([.ref (ad 0), .int (iI pz1)]) ++ List.replicate (2 - (lg_sl ([.ref (ad 0), .int (iI pz1)])).length) Slot.unset).toArray = ls at hl ⊢
  have hl : lv_has ls 2 [(0, .ref (ad 0)), (1, .int (iI pz1))] := hl
  unfold s_X8_folded at hs
  refine lv_aload_n hx hb dX8_folded_0 rfl (lv_at hl 0 rfl) ?_
  refine va_get (ci := 8) (v := .int (iI x_isFolding)) (C := RX8) (T := TX8) (N := 42) hx hb hts hiX8 hown hK hP 0 rfl rfl 8 (by decide) hf113 (fun _ h9 => h9) rfl dX8_folded_1 ?_
  refine k_if_eq (tgt := 28) hx hb hs dX8_folded_4 (by decide) (fun hs => ?_) (fun hs => ?_)
  · refine lv_iload_n hx hb dX8_folded_28 rfl (lv_at hl 1 rfl) ?_
    cases hs
    exact k_iret_r hx hb hr hlk rfl dX8_folded_29 rfl
  · refine lv_iload_n hx hb dX8_folded_7 rfl (lv_at hl 1 rfl) ?_
    refine k_i2l hx hb hs dX8_folded_8 (fun hs => ?_)
    refine k_ldc2 (n := 65) hx hb (by decide) hown hc117 dX8_folded_9 ?_
    refine k_ldc2 (n := 90) hx hb (by decide) hown hc119 dX8_folded_12 ?_
    obtain ⟨vz1, hcz, hs⟩ := bd1_some hs
    refine k_rS (As := [.long (iL pz1), .long (iL 65), .long (iL 90)]) (rest := []) (st1 := [.int (iI vz1)]) ⟨hx, hb, hml, hown, hts⟩ hK (va_P_nil (D := D) (cl := vwCl)) (c_X8_isIn l D cI cZ cJ hcz) (va_cwS 3 hts gX8_folded_X8_isIn rfl rfl rfl (by decide +kernel) ⟨Nat.le_of_ble_eq_true rfl, Nat.le_of_ble_eq_true rfl⟩) rfl hl.1 rfl (lv_room (Nat.le_of_ble_eq_true rfl)) dX8_folded_15 ⟨Nat.zero_le _, Nat.zero_le _⟩ rfl ?_
    refine k_if_eq (tgt := 28) hx hb hs dX8_folded_18 (by decide) (fun hs => ?_) (fun hs => ?_)
    · refine lv_iload_n hx hb dX8_folded_28 rfl (lv_at hl 1 rfl) ?_
      cases hs
      exact k_iret_r hx hb hr hlk rfl dX8_folded_29 rfl
    · refine lv_iload_n hx hb dX8_folded_21 rfl (lv_at hl 1 rfl) ?_
      refine k_bipush (n := 32) hx hb (by decide) dX8_folded_22 ?_
      refine k_iadd hx hb dX8_folded_24 ?_
      refine lv_goto (tgt := 29) hx hb dX8_folded_25 (by decide) ?_
      cases hs
      exact k_iret_r hx hb hr hlk rfl dX8_folded_29 rfl
/-! X8_like -/
set_option maxHeartbeats 4000000 in
set_option maxRecDepth 100000 in
theorem c_X8_like (l : Launch) (D : va_G) (cI cZ cJ : ClassId) {ad : Nat → Nat} {x_thrown : Int} {x_buffered : Int} {x_given : Int} {x_isFolding : Int} {x_work : Int} {x_rebuilt : Int} {x_streamed : Int} {x_reports : Int} {x_gapFrom : Int} {x_gapSize : Int} {x_elements : Int} {x_wholeSize : Int} {x_isLaid : Int} {x_takenMany : Int} {a_buffer : (Int → Int)} {a_length : (Int → Int)} {a_bytes : (Int → Int)} {a_weight : (Int → Int)} {a_live : (Int → Int)} {a_size : (Int → Int)} {a_list : (Int → Int)} {a_moved : (Int → Int)} {a_planned : (Int → Int)} {a_stream : (Int → Int)} {a_reportedEnd : (Int → Int)} {a_reportedKeyword : (Int → Int)} {a_starts : (Int → Int)} {a_keywordAt : (Int → Int)} {a_element : (Int → Int)} {a_long1 : (Int → Int)} {a_head : (Int → Int)} {a_tail : (Int → Int)} {a_next : (Int → Int)} {a_skip : (Int → Int)} {a_last : (Int → Int)} {a_whole : (Int → Int)} {a_edges : (Int → Int)} {a_covers : (Int → Int)} {a_weighs : (Int → Int)} {a_numbers : (Int → Int)} {a_takes : (Int → Int)} {a_takenAt : (Int → Int)} {pz1 : Int} {pz2 : Int} {r : Int} (hs : s_X8_like x_isFolding pz1 pz2 = some r) : Met l yX8_like wsX8_like rm_X8_like (PR D vwCl [(cI, .int), (cZ, .boolean), (cJ, .long)] [.ref (ad 0), .int (iI pz1), .int (iI pz2)] (wM cI cZ cJ ad x_thrown x_buffered x_given x_isFolding x_work x_rebuilt x_streamed x_reports x_gapFrom x_gapSize x_elements x_wholeSize x_isLaid x_takenMany a_buffer a_length a_bytes a_weight a_live a_size a_list a_moved a_planned a_stream a_reportedEnd a_reportedKeyword a_starts a_keywordAt a_element a_long1 a_head a_tail a_next a_skip a_last a_whole a_edges a_covers a_weighs a_numbers a_takes a_takenAt)) (QR (some (.int (iI r)))) 0 0 (fun _ => False) := by
  refine Met.ofW (cc := cX8_like) (maxL := 3) (ret := (some .boolean)) (by decide) rfl ?_
  intro p e s m args below meth c s₁ B hml hv
  obtain ⟨hav, hP, hK⟩ := hv
  have hx := B.exec
  have hb := B.bytes
  have hr := B.returns
  have hts := atoms_spec (ws := wsX8_like) B.pre
  have hown : s.vm.findClass RX8 = some m.cls := findClass_of_methodNamed B.named
  have hlk := B.notSynchronized
  have hl := lv_entry ([.ref (ad 0), .int (iI pz1), .int (iI pz2)]) (n := 3) (Nat.le_of_ble_eq_true rfl)
  rw [show entryFrame m args 3 = entryFrame m ([.ref (ad 0), .int (iI pz1), .int (iI pz2)] : List Value).toArray 3 from by rw [hav], lg_entry_eq]
  generalize (lg_sl ([.ref (ad 0), .int (iI pz1), .int (iI pz2)]) ++ List.replicate (3 - (lg_sl ([.ref (ad 0), .int (iI pz1), .int (iI pz2)])).length) Slot.unset).toArray = ls at hl ⊢
  have hl : lv_has ls 3 [(0, .ref (ad 0)), (1, .int (iI pz1)), (2, .int (iI pz2))] := hl
  unfold s_X8_like at hs
  refine lv_aload_n hx hb dX8_like_0 rfl (lv_at hl 0 rfl) ?_
  refine lv_iload_n hx hb dX8_like_1 rfl (lv_at hl 1 rfl) ?_
  obtain ⟨vz1, hcz, hs⟩ := bd1_some hs
  refine k_rV (As := [.int (iI pz1)]) (rest := []) (st1 := [.int (iI vz1)]) ⟨hx, hb, hml, hown, hts⟩ hK hP (c_X8_folded l D cI cZ cJ hcz) (cwV 1 hts gX8_like_X8_folded rfl rfl rfl (by decide +kernel) ⟨Nat.le_of_ble_eq_true rfl, Nat.le_of_ble_eq_true rfl⟩) 0 rfl rfl rfl rfl hl.1 rfl (lv_room (Nat.le_of_ble_eq_true rfl)) dX8_like_2 ⟨Nat.zero_le _, Nat.zero_le _⟩ rfl ?_
  refine lv_aload_n hx hb dX8_like_5 rfl (lv_at hl 0 rfl) ?_
  refine lv_iload_n hx hb dX8_like_6 rfl (lv_at hl 2 rfl) ?_
  obtain ⟨vz2, hcz, hs⟩ := bd1_some hs
  refine k_rV (As := [.int (iI pz2)]) (rest := [.int (iI vz1)]) (st1 := [.int (iI vz2), .int (iI vz1)]) ⟨hx, hb, hml, hown, hts⟩ hK hP (c_X8_folded l D cI cZ cJ hcz) (cwV 1 hts gX8_like_X8_folded rfl rfl rfl (by decide +kernel) ⟨Nat.le_of_ble_eq_true rfl, Nat.le_of_ble_eq_true rfl⟩) 0 rfl rfl rfl rfl hl.1 rfl (lv_room (Nat.le_of_ble_eq_true rfl)) dX8_like_7 ⟨Nat.zero_le _, Nat.zero_le _⟩ rfl ?_
  refine k_icmp_ne (tgt := 17) hx hb hs dX8_like_10 (by decide) (fun hs => ?_) (fun hs => ?_)
  · refine k_iconst (n := 1) hx hb dX8_like_13 ?_
    refine lv_goto (tgt := 18) hx hb dX8_like_14 (by decide) ?_
    cases hs
    exact k_zret_r hx hb hr hlk rfl (by decide) dX8_like_18 rfl
  · refine k_iconst (n := 0) hx hb dX8_like_17 ?_
    cases hs
    exact k_zret_r hx hb hr hlk rfl (by decide) dX8_like_18 rfl
/-! X8_byteOf -/
set_option maxHeartbeats 4000000 in
set_option maxRecDepth 100000 in
theorem c_X8_byteOf (l : Launch) (D : va_G) (cI cZ cJ : ClassId) {ad : Nat → Nat} {x_thrown : Int} {x_buffered : Int} {x_given : Int} {x_isFolding : Int} {x_work : Int} {x_rebuilt : Int} {x_streamed : Int} {x_reports : Int} {x_gapFrom : Int} {x_gapSize : Int} {x_elements : Int} {x_wholeSize : Int} {x_isLaid : Int} {x_takenMany : Int} {a_buffer : (Int → Int)} {a_length : (Int → Int)} {a_bytes : (Int → Int)} {a_weight : (Int → Int)} {a_live : (Int → Int)} {a_size : (Int → Int)} {a_list : (Int → Int)} {a_moved : (Int → Int)} {a_planned : (Int → Int)} {a_stream : (Int → Int)} {a_reportedEnd : (Int → Int)} {a_reportedKeyword : (Int → Int)} {a_starts : (Int → Int)} {a_keywordAt : (Int → Int)} {a_element : (Int → Int)} {a_long1 : (Int → Int)} {a_head : (Int → Int)} {a_tail : (Int → Int)} {a_next : (Int → Int)} {a_skip : (Int → Int)} {a_last : (Int → Int)} {a_whole : (Int → Int)} {a_edges : (Int → Int)} {a_covers : (Int → Int)} {a_weighs : (Int → Int)} {a_numbers : (Int → Int)} {a_takes : (Int → Int)} {a_takenAt : (Int → Int)} {pz1 : Int} {pz2 : Int} {r : Int} (hs : s_X8_byteOf a_bytes pz1 pz2 = some r) : Met l yX8_byteOf wsX8_byteOf rm_X8_byteOf (PR D vwCl [(cI, .int), (cZ, .boolean), (cJ, .long)] [.ref (ad 0), .int (iI pz1), .int (iI pz2)] (wM cI cZ cJ ad x_thrown x_buffered x_given x_isFolding x_work x_rebuilt x_streamed x_reports x_gapFrom x_gapSize x_elements x_wholeSize x_isLaid x_takenMany a_buffer a_length a_bytes a_weight a_live a_size a_list a_moved a_planned a_stream a_reportedEnd a_reportedKeyword a_starts a_keywordAt a_element a_long1 a_head a_tail a_next a_skip a_last a_whole a_edges a_covers a_weighs a_numbers a_takes a_takenAt)) (QR (some (.int (iI r)))) 0 0 (fun _ => False) := by
  refine Met.ofW (cc := cX8_byteOf) (maxL := 3) (ret := (some .int)) (by decide) rfl ?_
  intro p e s m args below meth c s₁ B hml hv
  obtain ⟨hav, hP, hK⟩ := hv
  have hx := B.exec
  have hb := B.bytes
  have hr := B.returns
  have hts := atoms_spec (ws := wsX8_byteOf) B.pre
  have hown : s.vm.findClass RX8 = some m.cls := findClass_of_methodNamed B.named
  have hlk := B.notSynchronized
  have hf20 : (Cond.fieldLink RX8 20 "KeywordMatcherModel" "bytes" "[I").before args s = true := hts _ (List.mem_of_getElem? (i := 1) rfl)
  have hiX8 : ∀ w ∈ wsX80, w ∈ wsX8_byteOf := fun w h => List.mem_cons_of_mem _ (List.mem_append_right _ h)
  have hl := lv_entry ([.ref (ad 0), .int (iI pz1), .int (iI pz2)]) (n := 3) (Nat.le_of_ble_eq_true rfl)
  rw [show entryFrame m args 3 = entryFrame m ([.ref (ad 0), .int (iI pz1), .int (iI pz2)] : List Value).toArray 3 from by rw [hav], lg_entry_eq]
  generalize (lg_sl ([.ref (ad 0), .int (iI pz1), .int (iI pz2)]) ++ List.replicate (3 - (lg_sl ([.ref (ad 0), .int (iI pz1), .int (iI pz2)])).length) Slot.unset).toArray = ls at hl ⊢
  have hl : lv_has ls 3 [(0, .ref (ad 0)), (1, .int (iI pz1)), (2, .int (iI pz2))] := hl
  unfold s_X8_byteOf at hs
  refine lv_aload_n hx hb dX8_byteOf_0 rfl (lv_at hl 0 rfl) ?_
  refine va_get (ci := 8) (v := .ref (ad 3)) (C := RX8) (T := TX8) (N := 42) hx hb hts hiX8 hown hK hP 0 rfl rfl 4 (by decide) hf20 (fun _ h9 => h9) rfl dX8_byteOf_1 ?_
  refine k_bipush (n := 16) hx hb (by decide) dX8_byteOf_4 ?_
  refine lv_iload_n hx hb dX8_byteOf_6 rfl (lv_at hl 1 rfl) ?_
  refine k_imul hx hb dX8_byteOf_7 ?_
  refine lv_iload_n hx hb dX8_byteOf_8 rfl (lv_at hl 2 rfl) ?_
  refine k_iadd hx hb dX8_byteOf_9 ?_
  refine k_iald hx hb hK hP 3 0 rfl rfl (Nat.le_of_ble_eq_true rfl) hs dX8_byteOf_10 (fun vz1 hs => ?_)
  cases hs
  exact k_iret_r hx hb hr hlk rfl dX8_byteOf_11 rfl
/-! X8_isBuffer -/
set_option maxHeartbeats 4000000 in
set_option maxRecDepth 100000 in
theorem c_X8_isBuffer (l : Launch) (D : va_G) (cI cZ cJ : ClassId) {ad : Nat → Nat} {x_thrown : Int} {x_buffered : Int} {x_given : Int} {x_isFolding : Int} {x_work : Int} {x_rebuilt : Int} {x_streamed : Int} {x_reports : Int} {x_gapFrom : Int} {x_gapSize : Int} {x_elements : Int} {x_wholeSize : Int} {x_isLaid : Int} {x_takenMany : Int} {a_buffer : (Int → Int)} {a_length : (Int → Int)} {a_bytes : (Int → Int)} {a_weight : (Int → Int)} {a_live : (Int → Int)} {a_size : (Int → Int)} {a_list : (Int → Int)} {a_moved : (Int → Int)} {a_planned : (Int → Int)} {a_stream : (Int → Int)} {a_reportedEnd : (Int → Int)} {a_reportedKeyword : (Int → Int)} {a_starts : (Int → Int)} {a_keywordAt : (Int → Int)} {a_element : (Int → Int)} {a_long1 : (Int → Int)} {a_head : (Int → Int)} {a_tail : (Int → Int)} {a_next : (Int → Int)} {a_skip : (Int → Int)} {a_last : (Int → Int)} {a_whole : (Int → Int)} {a_edges : (Int → Int)} {a_covers : (Int → Int)} {a_weighs : (Int → Int)} {a_numbers : (Int → Int)} {a_takes : (Int → Int)} {a_takenAt : (Int → Int)} {pz1 : Int} {pz2 : Int} {r : Int} (hs : s_X8_isBuffer x_isFolding a_buffer a_length a_bytes pz1 pz2 = some r) : Met l yX8_isBuffer wsX8_isBuffer rm_X8_isBuffer (PR D vwCl [(cI, .int), (cZ, .boolean), (cJ, .long)] [.ref (ad 0), .int (iI pz1), .int (iI pz2)] (wM cI cZ cJ ad x_thrown x_buffered x_given x_isFolding x_work x_rebuilt x_streamed x_reports x_gapFrom x_gapSize x_elements x_wholeSize x_isLaid x_takenMany a_buffer a_length a_bytes a_weight a_live a_size a_list a_moved a_planned a_stream a_reportedEnd a_reportedKeyword a_starts a_keywordAt a_element a_long1 a_head a_tail a_next a_skip a_last a_whole a_edges a_covers a_weighs a_numbers a_takes a_takenAt)) (QR (some (.int (iI r)))) 0 0 (fun _ => False) := by
  refine Met.ofW (cc := cX8_isBuffer) (maxL := 4) (ret := (some .boolean)) (by decide) rfl ?_
  intro p e s m args below meth c s₁ B hml hv
  obtain ⟨hav, hP, hK⟩ := hv
  have hx := B.exec
  have hb := B.bytes
  have hr := B.returns
  have hts := atoms_spec (ws := wsX8_isBuffer) B.pre
  have hown : s.vm.findClass RX8 = some m.cls := findClass_of_methodNamed B.named
  have hlk := B.notSynchronized
  have hf17 : (Cond.fieldLink RX8 17 "KeywordMatcherModel" "length" "[I").before args s = true := hts _ (List.mem_of_getElem? (i := 1) rfl)
  have hiX8 : ∀ w ∈ wsX80, w ∈ wsX8_isBuffer := fun w h => List.mem_cons_of_mem _ (List.mem_append_right _ h)
  have hf13 : (Cond.fieldLink RX8 13 "KeywordMatcherModel" "buffer" "[I").before args s = true := hts _ (List.mem_of_getElem? (i := 2) rfl)
  have hl := lv_entry ([.ref (ad 0), .int (iI pz1), .int (iI pz2)]) (n := 4) (Nat.le_of_ble_eq_true rfl)
  rw [show entryFrame m args 4 = entryFrame m ([.ref (ad 0), .int (iI pz1), .int (iI pz2)] : List Value).toArray 4 from by rw [hav], lg_entry_eq]
  generalize (lg_sl ([.ref (ad 0), .int (iI pz1), .int (iI pz2)]) ++ List.replicate (4 - (lg_sl ([.ref (ad 0), .int (iI pz1), .int (iI pz2)])).length) Slot.unset).toArray = ls at hl ⊢
  have hl : lv_has ls 4 [(0, .ref (ad 0)), (1, .int (iI pz1)), (2, .int (iI pz2))] := hl
  unfold s_X8_isBuffer at hs
  have Lz14 : ∀ (fu : Nat) (l1 : Int) (l2 : Int) (l3 : Int), s_X8_isBuffer_14 fu x_isFolding a_buffer a_bytes l1 l2 l3 = some r → ∀ ls : Array Slot, lv_has ls 4 [(0, .ref (ad 0)), (1, .int (iI l1)), (2, .int (iI l2)), (3, .int (iI l3))] → W p l e (headSpec wsX8_isBuffer rm_X8_isBuffer).room s m args below meth c s.heap [] 0 0 (MQ below (QR (some (.int (iI r)))) args s 0 0 (fun _ => False)) (F0 m 14 ls []) := by
    intro fu
    induction fu with
    | zero => intro l1 l2 l3 hs; cases hs
    | succ fu ih =>
      intro l1 l2 l3 hs ls hl
      rw [s_X8_isBuffer_14_s] at hs
      refine lv_iload_n hx hb dX8_isBuffer_14 rfl (lv_at hl 3 rfl) ?_
      refine lv_iload_n hx hb dX8_isBuffer_15 rfl (lv_at hl 2 rfl) ?_
      refine k_icmp_ge (tgt := 46) hx hb hs dX8_isBuffer_16 (by decide) (fun hs => ?_) (fun hs => ?_)
      · refine lv_aload_n hx hb dX8_isBuffer_19 rfl (lv_at hl 0 rfl) ?_
        refine lv_aload_n hx hb dX8_isBuffer_20 rfl (lv_at hl 0 rfl) ?_
        refine lv_iload_n hx hb dX8_isBuffer_21 rfl (lv_at hl 1 rfl) ?_
        refine lv_iload_n hx hb dX8_isBuffer_22 rfl (lv_at hl 3 rfl) ?_
        obtain ⟨vz2, hcz, hs⟩ := bd1_some hs
        refine k_rV (As := [.int (iI l1), .int (iI l3)]) (rest := [.ref (ad 0)]) (st1 := [.int (iI vz2), .ref (ad 0)]) ⟨hx, hb, hml, hown, hts⟩ hK hP (c_X8_byteOf l D cI cZ cJ hcz) (cwV 2 hts gX8_isBuffer_X8_byteOf rfl rfl rfl (by decide +kernel) ⟨Nat.le_of_ble_eq_true rfl, Nat.le_of_ble_eq_true rfl⟩) 0 rfl rfl rfl rfl hl.1 rfl (lv_room (Nat.le_of_ble_eq_true rfl)) dX8_isBuffer_23 ⟨Nat.zero_le _, Nat.zero_le _⟩ rfl ?_
        refine lv_aload_n hx hb dX8_isBuffer_26 rfl (lv_at hl 0 rfl) ?_
        refine va_get (ci := 8) (v := .ref (ad 1)) (C := RX8) (T := TX8) (N := 42) hx hb hts hiX8 hown hK hP 0 rfl rfl 1 (by decide) hf13 (fun _ h9 => h9) rfl dX8_isBuffer_27 ?_
        refine lv_iload_n hx hb dX8_isBuffer_30 rfl (lv_at hl 3 rfl) ?_
        refine k_iald hx hb hK hP 1 0 rfl rfl (Nat.le_of_ble_eq_true rfl) hs dX8_isBuffer_31 (fun vz3 hs => ?_)
        obtain ⟨vz4, hcz, hs⟩ := bd1_some hs
        refine k_rV (As := [.int (iI vz2), .int (iI vz3)]) (rest := []) (st1 := [.int (iI vz4)]) ⟨hx, hb, hml, hown, hts⟩ hK hP (c_X8_like l D cI cZ cJ hcz) (cwV 2 hts gX8_isBuffer_X8_like rfl rfl rfl (by decide +kernel) ⟨Nat.le_of_ble_eq_true rfl, Nat.le_of_ble_eq_true rfl⟩) 0 rfl rfl rfl rfl hl.1 rfl (lv_room (Nat.le_of_ble_eq_true rfl)) dX8_isBuffer_32 ⟨Nat.zero_le _, Nat.zero_le _⟩ rfl ?_
        refine k_if_ne (tgt := 40) hx hb hs dX8_isBuffer_35 (by decide) (fun hs => ?_) (fun hs => ?_)
        · refine k_iconst (n := 0) hx hb dX8_isBuffer_38 ?_
          cases hs
          exact k_zret_r hx hb hr hlk rfl (by decide) dX8_isBuffer_39 rfl
        · refine k_iinc (x := l3) (k := 3) (lv' := [(3, .int (iI (l3 + 1))), (0, .ref (ad 0)), (1, .int (iI l1)), (2, .int (iI l2))]) hx hb dX8_isBuffer_40 hl rfl (by decide) rfl (fun ls hl => ?_)
          refine lv_goto (tgt := 14) hx hb dX8_isBuffer_43 (by decide) ?_
          exact ih l1 l2 (l3 + 1)  hs ls (lv_sub hl [1, 2, 3, 0] rfl)
      · refine k_iconst (n := 1) hx hb dX8_isBuffer_46 ?_
        cases hs
        exact k_zret_r hx hb hr hlk rfl (by decide) dX8_isBuffer_47 rfl
  refine lv_aload_n hx hb dX8_isBuffer_0 rfl (lv_at hl 0 rfl) ?_
  refine va_get (ci := 8) (v := .ref (ad 2)) (C := RX8) (T := TX8) (N := 42) hx hb hts hiX8 hown hK hP 0 rfl rfl 3 (by decide) hf17 (fun _ h9 => h9) rfl dX8_isBuffer_1 ?_
  refine lv_iload_n hx hb dX8_isBuffer_4 rfl (lv_at hl 1 rfl) ?_
  refine k_iald hx hb hK hP 2 0 rfl rfl (Nat.le_of_ble_eq_true rfl) hs dX8_isBuffer_5 (fun vz1 hs => ?_)
  refine lv_iload_n hx hb dX8_isBuffer_6 rfl (lv_at hl 2 rfl) ?_
  refine k_icmp_eq (tgt := 12) hx hb hs dX8_isBuffer_7 (by decide) (fun hs => ?_) (fun hs => ?_)
  · refine k_iconst (n := 0) hx hb dX8_isBuffer_12 ?_
    refine lv_istore_n (lv' := [(3, .int (iI 0)), (0, .ref (ad 0)), (1, .int (iI pz1)), (2, .int (iI pz2))]) hx hb dX8_isBuffer_13 rfl hl (by decide) rfl (fun ls hl => ?_)
    exact Lz14 FU pz1 pz2 0 hs ls (lv_sub hl [1, 2, 3, 0] rfl)
  · refine k_iconst (n := 0) hx hb dX8_isBuffer_10 ?_
    cases hs
    exact k_zret_r hx hb hr hlk rfl (by decide) dX8_isBuffer_11 rfl
/-! X8_found -/
set_option maxHeartbeats 4000000 in
set_option maxRecDepth 100000 in
theorem c_X8_found (l : Launch) (D : va_G) (cI cZ cJ : ClassId) {ad : Nat → Nat} {x_thrown : Int} {x_buffered : Int} {x_given : Int} {x_isFolding : Int} {x_work : Int} {x_rebuilt : Int} {x_streamed : Int} {x_reports : Int} {x_gapFrom : Int} {x_gapSize : Int} {x_elements : Int} {x_wholeSize : Int} {x_isLaid : Int} {x_takenMany : Int} {a_buffer : (Int → Int)} {a_length : (Int → Int)} {a_bytes : (Int → Int)} {a_weight : (Int → Int)} {a_live : (Int → Int)} {a_size : (Int → Int)} {a_list : (Int → Int)} {a_moved : (Int → Int)} {a_planned : (Int → Int)} {a_stream : (Int → Int)} {a_reportedEnd : (Int → Int)} {a_reportedKeyword : (Int → Int)} {a_starts : (Int → Int)} {a_keywordAt : (Int → Int)} {a_element : (Int → Int)} {a_long1 : (Int → Int)} {a_head : (Int → Int)} {a_tail : (Int → Int)} {a_next : (Int → Int)} {a_skip : (Int → Int)} {a_last : (Int → Int)} {a_whole : (Int → Int)} {a_edges : (Int → Int)} {a_covers : (Int → Int)} {a_weighs : (Int → Int)} {a_numbers : (Int → Int)} {a_takes : (Int → Int)} {a_takenAt : (Int → Int)} {pz1 : Int} {r : Int} (hs : s_X8_found x_given x_isFolding a_buffer a_length a_bytes a_live pz1 = some r) : Met l yX8_found wsX8_found rm_X8_found (PR D vwCl [(cI, .int), (cZ, .boolean), (cJ, .long)] [.ref (ad 0), .int (iI pz1)] (wM cI cZ cJ ad x_thrown x_buffered x_given x_isFolding x_work x_rebuilt x_streamed x_reports x_gapFrom x_gapSize x_elements x_wholeSize x_isLaid x_takenMany a_buffer a_length a_bytes a_weight a_live a_size a_list a_moved a_planned a_stream a_reportedEnd a_reportedKeyword a_starts a_keywordAt a_element a_long1 a_head a_tail a_next a_skip a_last a_whole a_edges a_covers a_weighs a_numbers a_takes a_takenAt)) (QR (some (.int (iI r)))) 0 0 (fun _ => False) := by
  refine Met.ofW (cc := cX8_found) (maxL := 3) (ret := (some .int)) (by decide) rfl ?_
  intro p e s m args below meth c s₁ B hml hv
  obtain ⟨hav, hP, hK⟩ := hv
  have hx := B.exec
  have hb := B.bytes
  have hr := B.returns
  have hts := atoms_spec (ws := wsX8_found) B.pre
  have hown : s.vm.findClass RX8 = some m.cls := findClass_of_methodNamed B.named
  have hlk := B.notSynchronized
  have hf102 : (Cond.fieldLink RX8 102 "KeywordMatcherModel" "given" "I").before args s = true := hts _ (List.mem_of_getElem? (i := 1) rfl)
  have hiX8 : ∀ w ∈ wsX80, w ∈ wsX8_found := fun w h => List.mem_cons_of_mem _ (List.mem_append_right _ h)
  have hf26 : (Cond.fieldLink RX8 26 "KeywordMatcherModel" "live" "[Z").before args s = true := hts _ (List.mem_of_getElem? (i := 2) rfl)
  have hl := lv_entry ([.ref (ad 0), .int (iI pz1)]) (n := 3) (Nat.le_of_ble_eq_true rfl)
  rw [show entryFrame m args 3 = entryFrame m ([.ref (ad 0), .int (iI pz1)] : List Value).toArray 3 from by rw [hav], lg_entry_eq]
  generalize (lg_sl ([.ref (ad 0), .int (iI pz1)]) ++ List.replicate (3 - (lg_sl ([.ref (ad 0), .int (iI pz1)])).length) Slot.unset).toArray = ls at hl ⊢
  have hl : lv_has ls 3 [(0, .ref (ad 0)), (1, .int (iI pz1))] := hl
  unfold s_X8_found at hs
  have Lz2 : ∀ (fu : Nat) (l1 : Int) (l2 : Int), s_X8_found_2 fu x_given x_isFolding a_buffer a_length a_bytes a_live l1 l2 = some r → ∀ ls : Array Slot, lv_has ls 3 [(0, .ref (ad 0)), (1, .int (iI l1)), (2, .int (iI l2))] → W p l e (headSpec wsX8_found rm_X8_found).room s m args below meth c s.heap [] 0 0 (MQ below (QR (some (.int (iI r)))) args s 0 0 (fun _ => False)) (F0 m 2 ls []) := by
    intro fu
    induction fu with
    | zero => intro l1 l2 hs; cases hs
    | succ fu ih =>
      intro l1 l2 hs ls hl
      rw [s_X8_found_2_s] at hs
      refine lv_iload_n hx hb dX8_found_2 rfl (lv_at hl 2 rfl) ?_
      refine lv_aload_n hx hb dX8_found_3 rfl (lv_at hl 0 rfl) ?_
      refine va_get (ci := 8) (v := .int (iI x_given)) (C := RX8) (T := TX8) (N := 42) hx hb hts hiX8 hown hK hP 0 rfl rfl 7 (by decide) hf102 (fun _ h9 => h9) rfl dX8_found_4 ?_
      refine k_icmp_ge (tgt := 36) hx hb hs dX8_found_7 (by decide) (fun hs => ?_) (fun hs => ?_)
      · refine lv_aload_n hx hb dX8_found_10 rfl (lv_at hl 0 rfl) ?_
        refine va_get (ci := 8) (v := .ref (ad 5)) (C := RX8) (T := TX8) (N := 42) hx hb hts hiX8 hown hK hP 0 rfl rfl 6 (by decide) hf26 (fun _ h9 => h9) rfl dX8_found_11 ?_
        refine lv_iload_n hx hb dX8_found_14 rfl (lv_at hl 2 rfl) ?_
        refine k_zald hx hb hK hP 5 1 rfl rfl (Nat.le_of_ble_eq_true rfl) hs dX8_found_15 (fun vz1 hs => ?_)
        refine k_if_eq (tgt := 30) hx hb hs dX8_found_16 (by decide) (fun hs => ?_) (fun hs => ?_)
        · refine k_iinc (x := l2) (k := 2) (lv' := [(2, .int (iI (l2 + 1))), (0, .ref (ad 0)), (1, .int (iI l1))]) hx hb dX8_found_30 hl rfl (by decide) rfl (fun ls hl => ?_)
          refine lv_goto (tgt := 2) hx hb dX8_found_33 (by decide) ?_
          exact ih l1 (l2 + 1)  hs ls (lv_sub hl [1, 2, 0] rfl)
        · refine lv_aload_n hx hb dX8_found_19 rfl (lv_at hl 0 rfl) ?_
          refine lv_iload_n hx hb dX8_found_20 rfl (lv_at hl 2 rfl) ?_
          refine lv_iload_n hx hb dX8_found_21 rfl (lv_at hl 1 rfl) ?_
          obtain ⟨vz2, hcz, hs⟩ := bd1_some hs
          refine k_rV (As := [.int (iI l2), .int (iI l1)]) (rest := []) (st1 := [.int (iI vz2)]) ⟨hx, hb, hml, hown, hts⟩ hK hP (c_X8_isBuffer l D cI cZ cJ hcz) (cwV 2 hts gX8_found_X8_isBuffer rfl rfl rfl (by decide +kernel) ⟨Nat.le_of_ble_eq_true rfl, Nat.le_of_ble_eq_true rfl⟩) 0 rfl rfl rfl rfl hl.1 rfl (lv_room (Nat.le_of_ble_eq_true rfl)) dX8_found_22 ⟨Nat.zero_le _, Nat.zero_le _⟩ rfl ?_
          refine k_if_eq (tgt := 30) hx hb hs dX8_found_25 (by decide) (fun hs => ?_) (fun hs => ?_)
          · refine k_iinc (x := l2) (k := 2) (lv' := [(2, .int (iI (l2 + 1))), (0, .ref (ad 0)), (1, .int (iI l1))]) hx hb dX8_found_30 hl rfl (by decide) rfl (fun ls hl => ?_)
            refine lv_goto (tgt := 2) hx hb dX8_found_33 (by decide) ?_
            exact ih l1 (l2 + 1)  hs ls (lv_sub hl [1, 2, 0] rfl)
          · refine lv_iload_n hx hb dX8_found_28 rfl (lv_at hl 2 rfl) ?_
            cases hs
            exact k_iret_r hx hb hr hlk rfl dX8_found_29 rfl
      · refine k_iconst (n := (-1)) hx hb dX8_found_36 ?_
        cases hs
        exact k_iret_r hx hb hr hlk rfl dX8_found_37 rfl
  refine k_iconst (n := 0) hx hb dX8_found_0 ?_
  refine lv_istore_n (lv' := [(2, .int (iI 0)), (0, .ref (ad 0)), (1, .int (iI pz1))]) hx hb dX8_found_1 rfl hl (by decide) rfl (fun ls hl => ?_)
  exact Lz2 FU pz1 0 hs ls (lv_sub hl [1, 2, 0] rfl)
/-! X8_lives -/
set_option maxHeartbeats 4000000 in
set_option maxRecDepth 100000 in
theorem c_X8_lives (l : Launch) (D : va_G) (cI cZ cJ : ClassId) {ad : Nat → Nat} {x_thrown : Int} {x_buffered : Int} {x_given : Int} {x_isFolding : Int} {x_work : Int} {x_rebuilt : Int} {x_streamed : Int} {x_reports : Int} {x_gapFrom : Int} {x_gapSize : Int} {x_elements : Int} {x_wholeSize : Int} {x_isLaid : Int} {x_takenMany : Int} {a_buffer : (Int → Int)} {a_length : (Int → Int)} {a_bytes : (Int → Int)} {a_weight : (Int → Int)} {a_live : (Int → Int)} {a_size : (Int → Int)} {a_list : (Int → Int)} {a_moved : (Int → Int)} {a_planned : (Int → Int)} {a_stream : (Int → Int)} {a_reportedEnd : (Int → Int)} {a_reportedKeyword : (Int → Int)} {a_starts : (Int → Int)} {a_keywordAt : (Int → Int)} {a_element : (Int → Int)} {a_long1 : (Int → Int)} {a_head : (Int → Int)} {a_tail : (Int → Int)} {a_next : (Int → Int)} {a_skip : (Int → Int)} {a_last : (Int → Int)} {a_whole : (Int → Int)} {a_edges : (Int → Int)} {a_covers : (Int → Int)} {a_weighs : (Int → Int)} {a_numbers : (Int → Int)} {a_takes : (Int → Int)} {a_takenAt : (Int → Int)} {r : Int} (hs : s_X8_lives x_given a_live = some r) : Met l yX8_lives wsX8_lives rm_X8_lives (PR D vwCl [(cI, .int), (cZ, .boolean), (cJ, .long)] [.ref (ad 0)] (wM cI cZ cJ ad x_thrown x_buffered x_given x_isFolding x_work x_rebuilt x_streamed x_reports x_gapFrom x_gapSize x_elements x_wholeSize x_isLaid x_takenMany a_buffer a_length a_bytes a_weight a_live a_size a_list a_moved a_planned a_stream a_reportedEnd a_reportedKeyword a_starts a_keywordAt a_element a_long1 a_head a_tail a_next a_skip a_last a_whole a_edges a_covers a_weighs a_numbers a_takes a_takenAt)) (QR (some (.int (iI r)))) 0 0 (fun _ => False) := by
  refine Met.ofW (cc := cX8_lives) (maxL := 3) (ret := (some .int)) (by decide) rfl ?_
  intro p e s m args below meth c s₁ B hml hv
  obtain ⟨hav, hP, hK⟩ := hv
  have hx := B.exec
  have hb := B.bytes
  have hr := B.returns
  have hts := atoms_spec (ws := wsX8_lives) B.pre
  have hown : s.vm.findClass RX8 = some m.cls := findClass_of_methodNamed B.named
  have hlk := B.notSynchronized
  have hf102 : (Cond.fieldLink RX8 102 "KeywordMatcherModel" "given" "I").before args s = true := hts _ (List.mem_of_getElem? (i := 1) rfl)
  have hiX8 : ∀ w ∈ wsX80, w ∈ wsX8_lives := fun w h => List.mem_cons_of_mem _ (List.mem_append_right _ h)
  have hf26 : (Cond.fieldLink RX8 26 "KeywordMatcherModel" "live" "[Z").before args s = true := hts _ (List.mem_of_getElem? (i := 2) rfl)
  have hl := lv_entry ([.ref (ad 0)]) (n := 3) (Nat.le_of_ble_eq_true rfl)
  rw [show entryFrame m args 3 = entryFrame m ([.ref (ad 0)] : List Value).toArray 3 from by rw [hav], lg_entry_eq]
  generalize (lg_sl ([.ref (ad 0)]) ++ List.replicate (3 - (lg_sl ([.ref (ad 0)])).length) Slot.unset).toArray = ls at hl ⊢
  have hl : lv_has ls 3 [(0, .ref (ad 0))] := hl
  unfold s_X8_lives at hs
  have Lz4 : ∀ (fu : Nat) (l1 : Int) (l2 : Int) (y0 : Int), s_X8_lives_4 fu x_given a_live l1 l2 = some y0 → ∀ ls : Array Slot, lv_has ls 3 [(0, .ref (ad 0)), (1, .int (iI l1)), (2, .int (iI l2))] → (∀ ls : Array Slot, lv_has ls 3 [(1, .int (iI y0))] → W p l e (headSpec wsX8_lives rm_X8_lives).room s m args below meth c s.heap [] 0 0 (MQ below (QR (some (.int (iI r)))) args s 0 0 (fun _ => False)) (F0 m 35 ls [])) → W p l e (headSpec wsX8_lives rm_X8_lives).room s m args below meth c s.heap [] 0 0 (MQ below (QR (some (.int (iI r)))) args s 0 0 (fun _ => False)) (F0 m 4 ls []) := by
    intro fu
    induction fu with
    | zero => intro l1 l2 y0 hs; cases hs
    | succ fu ih =>
      intro l1 l2 y0 hs ls hl kx
      rw [s_X8_lives_4_s] at hs
      refine lv_iload_n hx hb dX8_lives_4 rfl (lv_at hl 2 rfl) ?_
      refine lv_aload_n hx hb dX8_lives_5 rfl (lv_at hl 0 rfl) ?_
      refine va_get (ci := 8) (v := .int (iI x_given)) (C := RX8) (T := TX8) (N := 42) hx hb hts hiX8 hown hK hP 0 rfl rfl 7 (by decide) hf102 (fun _ h9 => h9) rfl dX8_lives_6 ?_
      refine k_icmp_ge (tgt := 35) hx hb hs dX8_lives_9 (by decide) (fun hs => ?_) (fun hs => ?_)
      · refine lv_iload_n hx hb dX8_lives_12 rfl (lv_at hl 1 rfl) ?_
        refine lv_aload_n hx hb dX8_lives_13 rfl (lv_at hl 0 rfl) ?_
        refine va_get (ci := 8) (v := .ref (ad 5)) (C := RX8) (T := TX8) (N := 42) hx hb hts hiX8 hown hK hP 0 rfl rfl 6 (by decide) hf26 (fun _ h9 => h9) rfl dX8_lives_14 ?_
        refine lv_iload_n hx hb dX8_lives_17 rfl (lv_at hl 2 rfl) ?_
        refine k_zald hx hb hK hP 5 1 rfl rfl (Nat.le_of_ble_eq_true rfl) hs dX8_lives_18 (fun vz1 hs => ?_)
        refine k_if_eq (tgt := 26) hx hb hs dX8_lives_19 (by decide) (fun hs => ?_) (fun hs => ?_)
        · refine k_iconst (n := 0) hx hb dX8_lives_26 ?_
          refine k_iadd hx hb dX8_lives_27 ?_
          refine lv_istore_n (lv' := [(1, .int (iI (l1 + 0))), (0, .ref (ad 0)), (2, .int (iI l2))]) hx hb dX8_lives_28 rfl hl (by decide) rfl (fun ls hl => ?_)
          refine k_iinc (x := l2) (k := 2) (lv' := [(2, .int (iI (l2 + 1))), (1, .int (iI (l1 + 0))), (0, .ref (ad 0))]) hx hb dX8_lives_29 hl rfl (by decide) rfl (fun ls hl => ?_)
          refine lv_goto (tgt := 4) hx hb dX8_lives_32 (by decide) ?_
          exact ih (l1 + 0) (l2 + 1) y0 hs ls (lv_sub hl [2, 1, 0] rfl) kx
        · refine k_iconst (n := 1) hx hb dX8_lives_22 ?_
          refine lv_goto (tgt := 27) hx hb dX8_lives_23 (by decide) ?_
          refine k_iadd hx hb dX8_lives_27 ?_
          refine lv_istore_n (lv' := [(1, .int (iI (l1 + 1))), (0, .ref (ad 0)), (2, .int (iI l2))]) hx hb dX8_lives_28 rfl hl (by decide) rfl (fun ls hl => ?_)
          refine k_iinc (x := l2) (k := 2) (lv' := [(2, .int (iI (l2 + 1))), (1, .int (iI (l1 + 1))), (0, .ref (ad 0))]) hx hb dX8_lives_29 hl rfl (by decide) rfl (fun ls hl => ?_)
          refine lv_goto (tgt := 4) hx hb dX8_lives_32 (by decide) ?_
          exact ih (l1 + 1) (l2 + 1) y0 hs ls (lv_sub hl [2, 1, 0] rfl) kx
      · cases hs
        exact kx ls (lv_sub hl [1] rfl)
  refine k_iconst (n := 0) hx hb dX8_lives_0 ?_
  refine lv_istore_n (lv' := [(1, .int (iI 0)), (0, .ref (ad 0))]) hx hb dX8_lives_1 rfl hl (by decide) rfl (fun ls hl => ?_)
  refine k_iconst (n := 0) hx hb dX8_lives_2 ?_
  refine lv_istore_n (lv' := [(2, .int (iI 0)), (1, .int (iI 0)), (0, .ref (ad 0))]) hx hb dX8_lives_3 rfl hl (by decide) rfl (fun ls hl => ?_)
  obtain ⟨ez2, hq, hs⟩ := bd1_some hs
  refine Lz4 FU 0 0 ez2 hq ls (lv_sub hl [2, 1, 0] rfl) ?_
  intro ls hl
  refine lv_iload_n hx hb dX8_lives_35 rfl (lv_at hl 0 rfl) ?_
  cases hs
  exact k_iret_r hx hb hr hlk rfl dX8_lives_36 rfl
/-! X8_isText -/
set_option maxHeartbeats 4000000 in
set_option maxRecDepth 100000 in
theorem c_X8_isText (l : Launch) (D : va_G) (cI cZ cJ : ClassId) {ad : Nat → Nat} {x_thrown : Int} {x_buffered : Int} {x_given : Int} {x_isFolding : Int} {x_work : Int} {x_rebuilt : Int} {x_streamed : Int} {x_reports : Int} {x_gapFrom : Int} {x_gapSize : Int} {x_elements : Int} {x_wholeSize : Int} {x_isLaid : Int} {x_takenMany : Int} {a_buffer : (Int → Int)} {a_length : (Int → Int)} {a_bytes : (Int → Int)} {a_weight : (Int → Int)} {a_live : (Int → Int)} {a_size : (Int → Int)} {a_list : (Int → Int)} {a_moved : (Int → Int)} {a_planned : (Int → Int)} {a_stream : (Int → Int)} {a_reportedEnd : (Int → Int)} {a_reportedKeyword : (Int → Int)} {a_starts : (Int → Int)} {a_keywordAt : (Int → Int)} {a_element : (Int → Int)} {a_long1 : (Int → Int)} {a_head : (Int → Int)} {a_tail : (Int → Int)} {a_next : (Int → Int)} {a_skip : (Int → Int)} {a_last : (Int → Int)} {a_whole : (Int → Int)} {a_edges : (Int → Int)} {a_covers : (Int → Int)} {a_weighs : (Int → Int)} {a_numbers : (Int → Int)} {a_takes : (Int → Int)} {a_takenAt : (Int → Int)} {pz1 : Int} {r : Int} (hs : s_X8_isText a_buffer pz1 = some r) : Met l yX8_isText wsX8_isText rm_X8_isText (PR D vwCl [(cI, .int), (cZ, .boolean), (cJ, .long)] [.ref (ad 0), .int (iI pz1)] (wM cI cZ cJ ad x_thrown x_buffered x_given x_isFolding x_work x_rebuilt x_streamed x_reports x_gapFrom x_gapSize x_elements x_wholeSize x_isLaid x_takenMany a_buffer a_length a_bytes a_weight a_live a_size a_list a_moved a_planned a_stream a_reportedEnd a_reportedKeyword a_starts a_keywordAt a_element a_long1 a_head a_tail a_next a_skip a_last a_whole a_edges a_covers a_weighs a_numbers a_takes a_takenAt)) (QR (some (.int (iI r)))) 0 0 (fun _ => False) := by
  refine Met.ofW (cc := cX8_isText) (maxL := 4) (ret := (some .boolean)) (by decide) rfl ?_
  intro p e s m args below meth c s₁ B hml hv
  obtain ⟨hav, hP, hK⟩ := hv
  have hx := B.exec
  have hb := B.bytes
  have hr := B.returns
  have hts := atoms_spec (ws := wsX8_isText) B.pre
  have hown : s.vm.findClass RX8 = some m.cls := findClass_of_methodNamed B.named
  have hlk := B.notSynchronized
  have hc136 : (Cond.constantLong RX8 136 (16)).before args s = true := hts _ (List.mem_of_getElem? (i := 1) rfl)
  have hf13 : (Cond.fieldLink RX8 13 "KeywordMatcherModel" "buffer" "[I").before args s = true := hts _ (List.mem_of_getElem? (i := 2) rfl)
  have hiX8 : ∀ w ∈ wsX80, w ∈ wsX8_isText := fun w h => List.mem_cons_of_mem _ (List.mem_append_right _ h)
  have hc138 : (Cond.constantLong RX8 138 (33)).before args s = true := hts _ (List.mem_of_getElem? (i := 3) rfl)
  have hc140 : (Cond.constantLong RX8 140 (126)).before args s = true := hts _ (List.mem_of_getElem? (i := 4) rfl)
  have hl := lv_entry ([.ref (ad 0), .int (iI pz1)]) (n := 4) (Nat.le_of_ble_eq_true rfl)
  rw [show entryFrame m args 4 = entryFrame m ([.ref (ad 0), .int (iI pz1)] : List Value).toArray 4 from by rw [hav], lg_entry_eq]
  generalize (lg_sl ([.ref (ad 0), .int (iI pz1)]) ++ List.replicate (4 - (lg_sl ([.ref (ad 0), .int (iI pz1)])).length) Slot.unset).toArray = ls at hl ⊢
  have hl : lv_has ls 4 [(0, .ref (ad 0)), (1, .int (iI pz1))] := hl
  unfold s_X8_isText at hs
  have Lz12 : ∀ (fu : Nat) (l1 : Int) (l2 : Int) (l3 : Int) (y0 : Int), s_X8_isText_12 fu a_buffer l1 l2 l3 = some y0 → ∀ ls : Array Slot, lv_has ls 4 [(0, .ref (ad 0)), (1, .int (iI l1)), (2, .int (iI l2)), (3, .int (iI l3))] → (∀ ls : Array Slot, lv_has ls 4 [(2, .int (iI y0))] → W p l e (headSpec wsX8_isText rm_X8_isText).room s m args below meth c s.heap [] 0 0 (MQ below (QR (some (.int (iI r)))) args s 0 0 (fun _ => False)) (F0 m 44 ls [])) → W p l e (headSpec wsX8_isText rm_X8_isText).room s m args below meth c s.heap [] 0 0 (MQ below (QR (some (.int (iI r)))) args s 0 0 (fun _ => False)) (F0 m 12 ls []) := by
    intro fu
    induction fu with
    | zero => intro l1 l2 l3 y0 hs; cases hs
    | succ fu ih =>
      intro l1 l2 l3 y0 hs ls hl kx
      rw [s_X8_isText_12_s] at hs
      refine lv_iload_n hx hb dX8_isText_12 rfl (lv_at hl 3 rfl) ?_
      refine lv_iload_n hx hb dX8_isText_13 rfl (lv_at hl 1 rfl) ?_
      refine k_icmp_ge (tgt := 44) hx hb hs dX8_isText_14 (by decide) (fun hs => ?_) (fun hs => ?_)
      · refine lv_iload_n hx hb dX8_isText_17 rfl (lv_at hl 2 rfl) ?_
        refine k_if_eq (tgt := 44) hx hb hs dX8_isText_18 (by decide) (fun hs => ?_) (fun hs => ?_)
        · cases hs
          exact kx ls (lv_sub hl [2] rfl)
        · refine lv_aload_n hx hb dX8_isText_21 rfl (lv_at hl 0 rfl) ?_
          refine va_get (ci := 8) (v := .ref (ad 1)) (C := RX8) (T := TX8) (N := 42) hx hb hts hiX8 hown hK hP 0 rfl rfl 1 (by decide) hf13 (fun _ h9 => h9) rfl dX8_isText_22 ?_
          refine lv_iload_n hx hb dX8_isText_25 rfl (lv_at hl 3 rfl) ?_
          refine k_iald hx hb hK hP 1 0 rfl rfl (Nat.le_of_ble_eq_true rfl) hs dX8_isText_26 (fun vz2 hs => ?_)
          refine k_i2l hx hb hs dX8_isText_27 (fun hs => ?_)
          refine k_ldc2 (n := 33) hx hb (by decide) hown hc138 dX8_isText_28 ?_
          refine k_ldc2 (n := 126) hx hb (by decide) hown hc140 dX8_isText_31 ?_
          obtain ⟨vz3, hcz, hs⟩ := bd1_some hs
          refine k_rS (As := [.long (iL vz2), .long (iL 33), .long (iL 126)]) (rest := []) (st1 := [.int (iI vz3)]) ⟨hx, hb, hml, hown, hts⟩ hK (va_P_nil (D := D) (cl := vwCl)) (c_X8_isIn l D cI cZ cJ hcz) (va_cwS 3 hts gX8_isText_X8_isIn rfl rfl rfl (by decide +kernel) ⟨Nat.le_of_ble_eq_true rfl, Nat.le_of_ble_eq_true rfl⟩) rfl hl.1 rfl (lv_room (Nat.le_of_ble_eq_true rfl)) dX8_isText_34 ⟨Nat.zero_le _, Nat.zero_le _⟩ rfl ?_
          refine lv_istore_n (lv' := [(2, .int (iI vz3)), (0, .ref (ad 0)), (1, .int (iI l1)), (3, .int (iI l3))]) hx hb dX8_isText_37 rfl hl (by decide) rfl (fun ls hl => ?_)
          refine k_iinc (x := l3) (k := 3) (lv' := [(3, .int (iI (l3 + 1))), (2, .int (iI vz3)), (0, .ref (ad 0)), (1, .int (iI l1))]) hx hb dX8_isText_38 hl rfl (by decide) rfl (fun ls hl => ?_)
          refine lv_goto (tgt := 12) hx hb dX8_isText_41 (by decide) ?_
          exact ih l1 vz3 (l3 + 1) y0 hs ls (lv_sub hl [2, 3, 1, 0] rfl) kx
      · cases hs
        exact kx ls (lv_sub hl [2] rfl)
  refine lv_iload_n hx hb dX8_isText_0 rfl (lv_at hl 1 rfl) ?_
  refine k_i2l hx hb hs dX8_isText_1 (fun hs => ?_)
  refine k_lconst (v := 1) hx hb (by decide) dX8_isText_2 ?_
  refine k_ldc2 (n := 16) hx hb (by decide) hown hc136 dX8_isText_3 ?_
  obtain ⟨vz1, hcz, hs⟩ := bd1_some hs
  refine k_rS (As := [.long (iL pz1), .long (iL 1), .long (iL 16)]) (rest := []) (st1 := [.int (iI vz1)]) ⟨hx, hb, hml, hown, hts⟩ hK (va_P_nil (D := D) (cl := vwCl)) (c_X8_isIn l D cI cZ cJ hcz) (va_cwS 3 hts gX8_isText_X8_isIn rfl rfl rfl (by decide +kernel) ⟨Nat.le_of_ble_eq_true rfl, Nat.le_of_ble_eq_true rfl⟩) rfl hl.1 rfl (lv_room (Nat.le_of_ble_eq_true rfl)) dX8_isText_6 ⟨Nat.zero_le _, Nat.zero_le _⟩ rfl ?_
  refine lv_istore_n (lv' := [(2, .int (iI vz1)), (0, .ref (ad 0)), (1, .int (iI pz1))]) hx hb dX8_isText_9 rfl hl (by decide) rfl (fun ls hl => ?_)
  refine k_iconst (n := 0) hx hb dX8_isText_10 ?_
  refine lv_istore_n (lv' := [(3, .int (iI 0)), (2, .int (iI vz1)), (0, .ref (ad 0)), (1, .int (iI pz1))]) hx hb dX8_isText_11 rfl hl (by decide) rfl (fun ls hl => ?_)
  obtain ⟨ez4, hq, hs⟩ := bd1_some hs
  refine Lz12 FU pz1 vz1 0 ez4 hq ls (lv_sub hl [2, 3, 1, 0] rfl) ?_
  intro ls hl
  refine lv_iload_n hx hb dX8_isText_44 rfl (lv_at hl 0 rfl) ?_
  obtain ⟨hz, hs⟩ := cZ_some hs
  cases hs
  exact k_zret_r hx hb hr hlk rfl hz dX8_isText_45 rfl
/-! X8_inserts -/
set_option maxHeartbeats 4000000 in
set_option maxRecDepth 100000 in
theorem c_X8_inserts (l : Launch) (D : va_G) (cI cZ cJ : ClassId) {ad : Nat → Nat} {x_thrown : Int} {x_buffered : Int} {x_given : Int} {x_isFolding : Int} {x_work : Int} {x_rebuilt : Int} {x_streamed : Int} {x_reports : Int} {x_gapFrom : Int} {x_gapSize : Int} {x_elements : Int} {x_wholeSize : Int} {x_isLaid : Int} {x_takenMany : Int} {a_buffer : (Int → Int)} {a_length : (Int → Int)} {a_bytes : (Int → Int)} {a_weight : (Int → Int)} {a_live : (Int → Int)} {a_size : (Int → Int)} {a_list : (Int → Int)} {a_moved : (Int → Int)} {a_planned : (Int → Int)} {a_stream : (Int → Int)} {a_reportedEnd : (Int → Int)} {a_reportedKeyword : (Int → Int)} {a_starts : (Int → Int)} {a_keywordAt : (Int → Int)} {a_element : (Int → Int)} {a_long1 : (Int → Int)} {a_head : (Int → Int)} {a_tail : (Int → Int)} {a_next : (Int → Int)} {a_skip : (Int → Int)} {a_last : (Int → Int)} {a_whole : (Int → Int)} {a_edges : (Int → Int)} {a_covers : (Int → Int)} {a_weighs : (Int → Int)} {a_numbers : (Int → Int)} {a_takes : (Int → Int)} {a_takenAt : (Int → Int)} {pz1 : Int} {pz2 : Int} {y_x_work : Int} {y_a_size : (Int → Int)} {y_a_list : (Int → Int)} {y_a_moved : (Int → Int)} {sz : Nat} (hs : s_X8_inserts x_work a_size a_list a_moved pz1 pz2 = some (y_x_work, y_a_size, y_a_list, y_a_moved)) : Met l yX8_inserts wsX8_inserts rm_X8_inserts (PW D vwCl [(cI, .int), (cZ, .boolean), (cJ, .long)] [.ref (ad 0), .int (iI pz1), .int (iI pz2)] (wM cI cZ cJ ad x_thrown x_buffered x_given x_isFolding x_work x_rebuilt x_streamed x_reports x_gapFrom x_gapSize x_elements x_wholeSize x_isLaid x_takenMany a_buffer a_length a_bytes a_weight a_live a_size a_list a_moved a_planned a_stream a_reportedEnd a_reportedKeyword a_starts a_keywordAt a_element a_long1 a_head a_tail a_next a_skip a_last a_whole a_edges a_covers a_weighs a_numbers a_takes a_takenAt) sz) (QW D vwCl none (wM cI cZ cJ ad x_thrown x_buffered x_given x_isFolding y_x_work x_rebuilt x_streamed x_reports x_gapFrom x_gapSize x_elements x_wholeSize x_isLaid x_takenMany a_buffer a_length a_bytes a_weight a_live y_a_size y_a_list y_a_moved a_planned a_stream a_reportedEnd a_reportedKeyword a_starts a_keywordAt a_element a_long1 a_head a_tail a_next a_skip a_last a_whole a_edges a_covers a_weighs a_numbers a_takes a_takenAt) (va_A (wM cI cZ cJ ad x_thrown x_buffered x_given x_isFolding x_work x_rebuilt x_streamed x_reports x_gapFrom x_gapSize x_elements x_wholeSize x_isLaid x_takenMany a_buffer a_length a_bytes a_weight a_live a_size a_list a_moved a_planned a_stream a_reportedEnd a_reportedKeyword a_starts a_keywordAt a_element a_long1 a_head a_tail a_next a_skip a_last a_whole a_edges a_covers a_weighs a_numbers a_takes a_takenAt) sz)) 0 0 (va_A (wM cI cZ cJ ad x_thrown x_buffered x_given x_isFolding x_work x_rebuilt x_streamed x_reports x_gapFrom x_gapSize x_elements x_wholeSize x_isLaid x_takenMany a_buffer a_length a_bytes a_weight a_live a_size a_list a_moved a_planned a_stream a_reportedEnd a_reportedKeyword a_starts a_keywordAt a_element a_long1 a_head a_tail a_next a_skip a_last a_whole a_edges a_covers a_weighs a_numbers a_takes a_takenAt) sz) := by
  refine Met.ofW (cc := cX8_inserts) (maxL := 6) (ret := none) (by decide) rfl ?_
  intro p e s m args below meth c s₁ B hml hv
  obtain ⟨hav, hsz, hP, hK, hD0⟩ := hv
  have hx := B.exec
  have hb := B.bytes
  have hr := B.returns
  have hts := atoms_spec (ws := wsX8_inserts) B.pre
  have hown : s.vm.findClass RX8 = some m.cls := findClass_of_methodNamed B.named
  have hlk := B.notSynchronized
  have hf36 : (Cond.fieldLink RX8 36 "KeywordMatcherModel" "moved" "[I").before args s = true := hts _ (List.mem_of_getElem? (i := 1) rfl)
  have hiX8 : ∀ w ∈ wsX80, w ∈ wsX8_inserts := fun w h => List.mem_cons_of_mem _ (List.mem_append_right _ h)
  have hf30 : (Cond.fieldLink RX8 30 "KeywordMatcherModel" "size" "[I").before args s = true := hts _ (List.mem_of_getElem? (i := 2) rfl)
  have hf33 : (Cond.fieldLink RX8 33 "KeywordMatcherModel" "list" "[I").before args s = true := hts _ (List.mem_of_getElem? (i := 3) rfl)
  have hf173 : (Cond.fieldLink RX8 173 "KeywordMatcherModel" "work" "I").before args s = true := hts _ (List.mem_of_getElem? (i := 4) rfl)
  subst hsz
  have hD := hD0.self (sz := s.heap.size)
  generalize hAe : va_A (wM cI cZ cJ ad x_thrown x_buffered x_given x_isFolding x_work x_rebuilt x_streamed x_reports x_gapFrom x_gapSize x_elements x_wholeSize x_isLaid x_takenMany a_buffer a_length a_bytes a_weight a_live a_size a_list a_moved a_planned a_stream a_reportedEnd a_reportedKeyword a_starts a_keywordAt a_element a_long1 a_head a_tail a_next a_skip a_last a_whole a_edges a_covers a_weighs a_numbers a_takes a_takenAt) s.heap.size = Az at hD ⊢
  have hA : ∀ q : Nat, s.heap.size ≤ q → Az q := fun q h => by rw [← hAe]; exact Or.inr h
  clear hAe
  have hSz : va_S Az s.heap s.heap [] := va_S.rf
  obtain ⟨wz, hw1⟩ : ∃ z : va_W, z = (wM cI cZ cJ ad x_thrown x_buffered x_given x_isFolding y_x_work x_rebuilt x_streamed x_reports x_gapFrom x_gapSize x_elements x_wholeSize x_isLaid x_takenMany a_buffer a_length a_bytes a_weight a_live y_a_size y_a_list y_a_moved a_planned a_stream a_reportedEnd a_reportedKeyword a_starts a_keywordAt a_element a_long1 a_head a_tail a_next a_skip a_last a_whole a_edges a_covers a_weighs a_numbers a_takes a_takenAt) := ⟨_, rfl⟩
  rw [← hw1]
  have hl := lv_entry ([.ref (ad 0), .int (iI pz1), .int (iI pz2)]) (n := 6) (Nat.le_of_ble_eq_true rfl)
  rw [show entryFrame m args 6 = entryFrame m ([.ref (ad 0), .int (iI pz1), .int (iI pz2)] : List Value).toArray 6 from by rw [hav], lg_entry_eq]
  generalize (lg_sl ([.ref (ad 0), .int (iI pz1), .int (iI pz2)]) ++ List.replicate (6 - (lg_sl ([.ref (ad 0), .int (iI pz1), .int (iI pz2)])).length) Slot.unset).toArray = ls at hl ⊢
  have hl : lv_has ls 6 [(0, .ref (ad 0)), (1, .int (iI pz1)), (2, .int (iI pz2))] := hl
  unfold s_X8_inserts at hs
  have Lz25 : ∀ (fu : Nat) (x_work : Int) (a_size : (Int → Int)) (a_list : (Int → Int)) (a_moved : (Int → Int)) (l3 : Int) (l4 : Int) (l5 : Int) (y0 : (Int → Int)), s_X8_inserts_25 fu a_size a_list a_moved l3 l4 l5 = some y0 → ∀ (Hz : Heap) (lz : List Loc), va_P D vwCl (wM cI cZ cJ ad x_thrown x_buffered x_given x_isFolding x_work x_rebuilt x_streamed x_reports x_gapFrom x_gapSize x_elements x_wholeSize x_isLaid x_takenMany a_buffer a_length a_bytes a_weight a_live a_size a_list a_moved a_planned a_stream a_reportedEnd a_reportedKeyword a_starts a_keywordAt a_element a_long1 a_head a_tail a_next a_skip a_last a_whole a_edges a_covers a_weighs a_numbers a_takes a_takenAt) Hz → va_D Az (wM cI cZ cJ ad x_thrown x_buffered x_given x_isFolding x_work x_rebuilt x_streamed x_reports x_gapFrom x_gapSize x_elements x_wholeSize x_isLaid x_takenMany a_buffer a_length a_bytes a_weight a_live a_size a_list a_moved a_planned a_stream a_reportedEnd a_reportedKeyword a_starts a_keywordAt a_element a_long1 a_head a_tail a_next a_skip a_last a_whole a_edges a_covers a_weighs a_numbers a_takes a_takenAt) → va_S Az s.heap Hz lz → ∀ ls : Array Slot, lv_has ls 6 [(0, .ref (ad 0)), (3, .int (iI l3)), (4, .int (iI l4)), (5, .int (iI l5))] → (∀ (Hz : Heap) (lz : List Loc), va_P D vwCl (wM cI cZ cJ ad x_thrown x_buffered x_given x_isFolding x_work x_rebuilt x_streamed x_reports x_gapFrom x_gapSize x_elements x_wholeSize x_isLaid x_takenMany a_buffer a_length a_bytes a_weight a_live a_size a_list y0 a_planned a_stream a_reportedEnd a_reportedKeyword a_starts a_keywordAt a_element a_long1 a_head a_tail a_next a_skip a_last a_whole a_edges a_covers a_weighs a_numbers a_takes a_takenAt) Hz → va_D Az (wM cI cZ cJ ad x_thrown x_buffered x_given x_isFolding x_work x_rebuilt x_streamed x_reports x_gapFrom x_gapSize x_elements x_wholeSize x_isLaid x_takenMany a_buffer a_length a_bytes a_weight a_live a_size a_list y0 a_planned a_stream a_reportedEnd a_reportedKeyword a_starts a_keywordAt a_element a_long1 a_head a_tail a_next a_skip a_last a_whole a_edges a_covers a_weighs a_numbers a_takes a_takenAt) → va_S Az s.heap Hz lz → ∀ ls : Array Slot, lv_has ls 6 [(0, .ref (ad 0)), (3, .int (iI l3)), (4, .int (iI l4))] → W p l e (headSpec wsX8_inserts rm_X8_inserts).room s m args below meth c Hz lz 0 0 (MQ below (QW D vwCl none wz Az) args s 0 0 Az) (F0 m 66 ls [])) → W p l e (headSpec wsX8_inserts rm_X8_inserts).room s m args below meth c Hz lz 0 0 (MQ below (QW D vwCl none wz Az) args s 0 0 Az) (F0 m 25 ls []) := by
    intro fu
    induction fu with
    | zero => intro x_work a_size a_list a_moved l3 l4 l5 y0 hs; cases hs
    | succ fu ih =>
      intro x_work a_size a_list a_moved l3 l4 l5 y0 hs Hz lz hP hD hSz ls hl kx
      rw [s_X8_inserts_25_s] at hs
      refine lv_iload hx hb dX8_inserts_25 (lv_at hl 3 rfl) ?_
      refine lv_aload_n hx hb dX8_inserts_27 rfl (lv_at hl 0 rfl) ?_
      refine va_get (ci := 8) (v := .ref (ad 6)) (C := RX8) (T := TX8) (N := 42) hx hb hts hiX8 hown hK hP 0 rfl rfl 9 (by decide) hf30 (fun _ h9 => h9) rfl dX8_inserts_28 ?_
      refine lv_iload hx hb dX8_inserts_31 (lv_at hl 2 rfl) ?_
      refine k_iald hx hb hK hP 6 0 rfl rfl (Nat.le_of_ble_eq_true rfl) hs dX8_inserts_33 (fun vz2 hs => ?_)
      refine k_icmp_ge (tgt := 66) hx hb hs dX8_inserts_34 (by decide) (fun hs => ?_) (fun hs => ?_)
      · refine lv_aload_n hx hb dX8_inserts_37 rfl (lv_at hl 0 rfl) ?_
        refine va_get (ci := 8) (v := .ref (ad 8)) (C := RX8) (T := TX8) (N := 42) hx hb hts hiX8 hown hK hP 0 rfl rfl 11 (by decide) hf36 (fun _ h9 => h9) rfl dX8_inserts_38 ?_
        refine lv_iload_n hx hb dX8_inserts_41 rfl (lv_at hl 1 rfl) ?_
        refine lv_iload hx hb dX8_inserts_42 (lv_at hl 3 rfl) ?_
        refine k_iadd hx hb dX8_inserts_44 ?_
        refine lv_aload_n hx hb dX8_inserts_45 rfl (lv_at hl 0 rfl) ?_
        refine va_get (ci := 8) (v := .ref (ad 7)) (C := RX8) (T := TX8) (N := 42) hx hb hts hiX8 hown hK hP 0 rfl rfl 10 (by decide) hf33 (fun _ h9 => h9) rfl dX8_inserts_46 ?_
        refine k_sipush (n := 128) hx hb (by decide) dX8_inserts_49 ?_
        refine lv_iload hx hb dX8_inserts_52 (lv_at hl 2 rfl) ?_
        refine k_imul hx hb dX8_inserts_54 ?_
        refine lv_iload hx hb dX8_inserts_55 (lv_at hl 3 rfl) ?_
        refine k_iadd hx hb dX8_inserts_57 ?_
        refine k_iald hx hb hK hP 7 0 rfl rfl (Nat.le_of_ble_eq_true rfl) hs dX8_inserts_58 (fun vz3 hs => ?_)
        refine k_iast hx hb hK hP hD hSz 8 0 rfl rfl (Nat.le_of_ble_eq_true rfl) hs dX8_inserts_59 (fun Hz lz hP hD hSz hs => ?_)
        have hP : va_P D vwCl (wM cI cZ cJ ad x_thrown x_buffered x_given x_isFolding x_work x_rebuilt x_streamed x_reports x_gapFrom x_gapSize x_elements x_wholeSize x_isLaid x_takenMany a_buffer a_length a_bytes a_weight a_live a_size a_list (upA a_moved (l3 + l5) vz3) a_planned a_stream a_reportedEnd a_reportedKeyword a_starts a_keywordAt a_element a_long1 a_head a_tail a_next a_skip a_last a_whole a_edges a_covers a_weighs a_numbers a_takes a_takenAt) Hz := hP
        have hD : va_D Az (wM cI cZ cJ ad x_thrown x_buffered x_given x_isFolding x_work x_rebuilt x_streamed x_reports x_gapFrom x_gapSize x_elements x_wholeSize x_isLaid x_takenMany a_buffer a_length a_bytes a_weight a_live a_size a_list (upA a_moved (l3 + l5) vz3) a_planned a_stream a_reportedEnd a_reportedKeyword a_starts a_keywordAt a_element a_long1 a_head a_tail a_next a_skip a_last a_whole a_edges a_covers a_weighs a_numbers a_takes a_takenAt) := hD
        refine k_iinc (x := l5) (k := 3) (lv' := [(5, .int (iI (l5 + 1))), (0, .ref (ad 0)), (3, .int (iI l3)), (4, .int (iI l4))]) hx hb dX8_inserts_60 hl rfl (by decide) rfl (fun ls hl => ?_)
        refine lv_goto (tgt := 25) hx hb dX8_inserts_63 (by decide) ?_
        exact ih x_work a_size a_list (upA a_moved (l3 + l5) vz3) l3 l4 (l5 + 1) y0 hs Hz lz hP hD hSz ls (lv_sub hl [1, 2, 3, 0] rfl) kx
      · cases hs
        exact kx Hz lz hP hD hSz ls (lv_sub hl [0, 1, 2] rfl)
  have Lz12 : ∀ (fu : Nat) (x_work : Int) (a_size : (Int → Int)) (a_list : (Int → Int)) (a_moved : (Int → Int)) (l3 : Int) (l4 : Int) (y0 : (Int → Int)) (y1 : (Int → Int)) (y2 : Int) (y3 : Int), s_X8_inserts_12 fu a_size a_list a_moved l3 l4 = some (y0, y1, y2, y3) → ∀ (Hz : Heap) (lz : List Loc), va_P D vwCl (wM cI cZ cJ ad x_thrown x_buffered x_given x_isFolding x_work x_rebuilt x_streamed x_reports x_gapFrom x_gapSize x_elements x_wholeSize x_isLaid x_takenMany a_buffer a_length a_bytes a_weight a_live a_size a_list a_moved a_planned a_stream a_reportedEnd a_reportedKeyword a_starts a_keywordAt a_element a_long1 a_head a_tail a_next a_skip a_last a_whole a_edges a_covers a_weighs a_numbers a_takes a_takenAt) Hz → va_D Az (wM cI cZ cJ ad x_thrown x_buffered x_given x_isFolding x_work x_rebuilt x_streamed x_reports x_gapFrom x_gapSize x_elements x_wholeSize x_isLaid x_takenMany a_buffer a_length a_bytes a_weight a_live a_size a_list a_moved a_planned a_stream a_reportedEnd a_reportedKeyword a_starts a_keywordAt a_element a_long1 a_head a_tail a_next a_skip a_last a_whole a_edges a_covers a_weighs a_numbers a_takes a_takenAt) → va_S Az s.heap Hz lz → ∀ ls : Array Slot, lv_has ls 6 [(0, .ref (ad 0)), (3, .int (iI l3)), (4, .int (iI l4))] → (∀ (Hz : Heap) (lz : List Loc), va_P D vwCl (wM cI cZ cJ ad x_thrown x_buffered x_given x_isFolding x_work x_rebuilt x_streamed x_reports x_gapFrom x_gapSize x_elements x_wholeSize x_isLaid x_takenMany a_buffer a_length a_bytes a_weight a_live y0 a_list y1 a_planned a_stream a_reportedEnd a_reportedKeyword a_starts a_keywordAt a_element a_long1 a_head a_tail a_next a_skip a_last a_whole a_edges a_covers a_weighs a_numbers a_takes a_takenAt) Hz → va_D Az (wM cI cZ cJ ad x_thrown x_buffered x_given x_isFolding x_work x_rebuilt x_streamed x_reports x_gapFrom x_gapSize x_elements x_wholeSize x_isLaid x_takenMany a_buffer a_length a_bytes a_weight a_live y0 a_list y1 a_planned a_stream a_reportedEnd a_reportedKeyword a_starts a_keywordAt a_element a_long1 a_head a_tail a_next a_skip a_last a_whole a_edges a_covers a_weighs a_numbers a_takes a_takenAt) → va_S Az s.heap Hz lz → ∀ ls : Array Slot, lv_has ls 6 [(0, .ref (ad 0)), (3, .int (iI y2)), (4, .int (iI y3))] → W p l e (headSpec wsX8_inserts rm_X8_inserts).room s m args below meth c Hz lz 0 0 (MQ below (QW D vwCl none wz Az) args s 0 0 Az) (F0 m 90 ls [])) → W p l e (headSpec wsX8_inserts rm_X8_inserts).room s m args below meth c Hz lz 0 0 (MQ below (QW D vwCl none wz Az) args s 0 0 Az) (F0 m 12 ls []) := by
    intro fu
    induction fu with
    | zero => intro x_work a_size a_list a_moved l3 l4 y0 y1 y2 y3 hs; cases hs
    | succ fu ih =>
      intro x_work a_size a_list a_moved l3 l4 y0 y1 y2 y3 hs Hz lz hP hD hSz ls hl kx
      rw [s_X8_inserts_12_s] at hs
      refine lv_aload_n hx hb dX8_inserts_12 rfl (lv_at hl 0 rfl) ?_
      refine va_get (ci := 8) (v := .ref (ad 6)) (C := RX8) (T := TX8) (N := 42) hx hb hts hiX8 hown hK hP 0 rfl rfl 9 (by decide) hf30 (fun _ h9 => h9) rfl dX8_inserts_13 ?_
      refine lv_iload hx hb dX8_inserts_16 (lv_at hl 2 rfl) ?_
      refine k_iald hx hb hK hP 6 0 rfl rfl (Nat.le_of_ble_eq_true rfl) hs dX8_inserts_18 (fun vz1 hs => ?_)
      refine k_if_le (tgt := 90) hx hb hs dX8_inserts_19 (by decide) (fun hs => ?_) (fun hs => ?_)
      · refine k_iconst (n := 0) hx hb dX8_inserts_22 ?_
        refine lv_istore (lv' := [(5, .int (iI 0)), (0, .ref (ad 0)), (3, .int (iI l3)), (4, .int (iI l4))]) hx hb dX8_inserts_23 hl (by decide) rfl (fun ls hl => ?_)
        obtain ⟨ez4, hq, hs⟩ := bd1_some hs
        refine Lz25 FU x_work a_size a_list a_moved l3 l4 0 ez4 hq Hz lz hP hD hSz ls (lv_sub hl [1, 2, 3, 0] rfl) ?_
        intro Hz lz hP hD hSz ls hl
        refine lv_iload_n hx hb dX8_inserts_66 rfl (lv_at hl 1 rfl) ?_
        refine lv_aload_n hx hb dX8_inserts_67 rfl (lv_at hl 0 rfl) ?_
        refine va_get (ci := 8) (v := .ref (ad 6)) (C := RX8) (T := TX8) (N := 42) hx hb hts hiX8 hown hK hP 0 rfl rfl 9 (by decide) hf30 (fun _ h9 => h9) rfl dX8_inserts_68 ?_
        refine lv_iload hx hb dX8_inserts_71 (lv_at hl 2 rfl) ?_
        refine k_iald hx hb hK hP 6 0 rfl rfl (Nat.le_of_ble_eq_true rfl) hs dX8_inserts_73 (fun vz5 hs => ?_)
        refine k_iadd hx hb dX8_inserts_74 ?_
        refine lv_istore_n (lv' := [(3, .int (iI (l3 + vz5))), (0, .ref (ad 0)), (4, .int (iI l4))]) hx hb dX8_inserts_75 rfl hl (by decide) rfl (fun ls hl => ?_)
        refine lv_aload_n hx hb dX8_inserts_76 rfl (lv_at hl 1 rfl) ?_
        refine va_get (ci := 8) (v := .ref (ad 6)) (C := RX8) (T := TX8) (N := 42) hx hb hts hiX8 hown hK hP 0 rfl rfl 9 (by decide) hf30 (fun _ h9 => h9) rfl dX8_inserts_77 ?_
        refine lv_iload hx hb dX8_inserts_80 (lv_at hl 2 rfl) ?_
        refine k_iconst (n := 0) hx hb dX8_inserts_82 ?_
        refine k_iast hx hb hK hP hD hSz 6 0 rfl rfl (Nat.le_of_ble_eq_true rfl) hs dX8_inserts_83 (fun Hz lz hP hD hSz hs => ?_)
        have hP : va_P D vwCl (wM cI cZ cJ ad x_thrown x_buffered x_given x_isFolding x_work x_rebuilt x_streamed x_reports x_gapFrom x_gapSize x_elements x_wholeSize x_isLaid x_takenMany a_buffer a_length a_bytes a_weight a_live (upA a_size l4 0) a_list ez4 a_planned a_stream a_reportedEnd a_reportedKeyword a_starts a_keywordAt a_element a_long1 a_head a_tail a_next a_skip a_last a_whole a_edges a_covers a_weighs a_numbers a_takes a_takenAt) Hz := hP
        have hD : va_D Az (wM cI cZ cJ ad x_thrown x_buffered x_given x_isFolding x_work x_rebuilt x_streamed x_reports x_gapFrom x_gapSize x_elements x_wholeSize x_isLaid x_takenMany a_buffer a_length a_bytes a_weight a_live (upA a_size l4 0) a_list ez4 a_planned a_stream a_reportedEnd a_reportedKeyword a_starts a_keywordAt a_element a_long1 a_head a_tail a_next a_skip a_last a_whole a_edges a_covers a_weighs a_numbers a_takes a_takenAt) := hD
        refine k_iinc (x := l4) (k := 2) (lv' := [(4, .int (iI (l4 + 1))), (3, .int (iI (l3 + vz5))), (0, .ref (ad 0))]) hx hb dX8_inserts_84 hl rfl (by decide) rfl (fun ls hl => ?_)
        refine lv_goto (tgt := 12) hx hb dX8_inserts_87 (by decide) ?_
        exact ih x_work (upA a_size l4 0) a_list ez4 (l3 + vz5) (l4 + 1) y0 y1 y2 y3 hs Hz lz hP hD hSz ls (lv_sub hl [2, 1, 0] rfl) kx
      · cases hs
        exact kx Hz lz hP hD hSz ls (lv_sub hl [0, 1, 2] rfl)
  have Lz93 : ∀ (fu : Nat) (x_work : Int) (a_size : (Int → Int)) (a_list : (Int → Int)) (a_moved : (Int → Int)) (l3 : Int) (l4 : Int) (l5 : Int) (y0 : (Int → Int)), s_X8_inserts_93 fu a_list a_moved l3 l4 l5 = some y0 → ∀ (Hz : Heap) (lz : List Loc), va_P D vwCl (wM cI cZ cJ ad x_thrown x_buffered x_given x_isFolding x_work x_rebuilt x_streamed x_reports x_gapFrom x_gapSize x_elements x_wholeSize x_isLaid x_takenMany a_buffer a_length a_bytes a_weight a_live a_size a_list a_moved a_planned a_stream a_reportedEnd a_reportedKeyword a_starts a_keywordAt a_element a_long1 a_head a_tail a_next a_skip a_last a_whole a_edges a_covers a_weighs a_numbers a_takes a_takenAt) Hz → va_D Az (wM cI cZ cJ ad x_thrown x_buffered x_given x_isFolding x_work x_rebuilt x_streamed x_reports x_gapFrom x_gapSize x_elements x_wholeSize x_isLaid x_takenMany a_buffer a_length a_bytes a_weight a_live a_size a_list a_moved a_planned a_stream a_reportedEnd a_reportedKeyword a_starts a_keywordAt a_element a_long1 a_head a_tail a_next a_skip a_last a_whole a_edges a_covers a_weighs a_numbers a_takes a_takenAt) → va_S Az s.heap Hz lz → ∀ ls : Array Slot, lv_has ls 6 [(0, .ref (ad 0)), (3, .int (iI l3)), (4, .int (iI l4)), (5, .int (iI l5))] → (∀ (Hz : Heap) (lz : List Loc), va_P D vwCl (wM cI cZ cJ ad x_thrown x_buffered x_given x_isFolding x_work x_rebuilt x_streamed x_reports x_gapFrom x_gapSize x_elements x_wholeSize x_isLaid x_takenMany a_buffer a_length a_bytes a_weight a_live a_size y0 a_moved a_planned a_stream a_reportedEnd a_reportedKeyword a_starts a_keywordAt a_element a_long1 a_head a_tail a_next a_skip a_last a_whole a_edges a_covers a_weighs a_numbers a_takes a_takenAt) Hz → va_D Az (wM cI cZ cJ ad x_thrown x_buffered x_given x_isFolding x_work x_rebuilt x_streamed x_reports x_gapFrom x_gapSize x_elements x_wholeSize x_isLaid x_takenMany a_buffer a_length a_bytes a_weight a_live a_size y0 a_moved a_planned a_stream a_reportedEnd a_reportedKeyword a_starts a_keywordAt a_element a_long1 a_head a_tail a_next a_skip a_last a_whole a_edges a_covers a_weighs a_numbers a_takes a_takenAt) → va_S Az s.heap Hz lz → ∀ ls : Array Slot, lv_has ls 6 [(0, .ref (ad 0)), (3, .int (iI l3)), (4, .int (iI l4))] → W p l e (headSpec wsX8_inserts rm_X8_inserts).room s m args below meth c Hz lz 0 0 (MQ below (QW D vwCl none wz Az) args s 0 0 Az) (F0 m 126 ls [])) → W p l e (headSpec wsX8_inserts rm_X8_inserts).room s m args below meth c Hz lz 0 0 (MQ below (QW D vwCl none wz Az) args s 0 0 Az) (F0 m 93 ls []) := by
    intro fu
    induction fu with
    | zero => intro x_work a_size a_list a_moved l3 l4 l5 y0 hs; cases hs
    | succ fu ih =>
      intro x_work a_size a_list a_moved l3 l4 l5 y0 hs Hz lz hP hD hSz ls hl kx
      rw [s_X8_inserts_93_s] at hs
      refine lv_iload hx hb dX8_inserts_93 (lv_at hl 3 rfl) ?_
      refine lv_iload_n hx hb dX8_inserts_95 rfl (lv_at hl 1 rfl) ?_
      refine k_icmp_ge (tgt := 126) hx hb hs dX8_inserts_96 (by decide) (fun hs => ?_) (fun hs => ?_)
      · refine lv_aload_n hx hb dX8_inserts_99 rfl (lv_at hl 0 rfl) ?_
        refine va_get (ci := 8) (v := .ref (ad 7)) (C := RX8) (T := TX8) (N := 42) hx hb hts hiX8 hown hK hP 0 rfl rfl 10 (by decide) hf33 (fun _ h9 => h9) rfl dX8_inserts_100 ?_
        refine k_sipush (n := 128) hx hb (by decide) dX8_inserts_103 ?_
        refine lv_iload hx hb dX8_inserts_106 (lv_at hl 2 rfl) ?_
        refine k_imul hx hb dX8_inserts_108 ?_
        refine lv_iload hx hb dX8_inserts_109 (lv_at hl 3 rfl) ?_
        refine k_iadd hx hb dX8_inserts_111 ?_
        refine lv_aload_n hx hb dX8_inserts_112 rfl (lv_at hl 0 rfl) ?_
        refine va_get (ci := 8) (v := .ref (ad 8)) (C := RX8) (T := TX8) (N := 42) hx hb hts hiX8 hown hK hP 0 rfl rfl 11 (by decide) hf36 (fun _ h9 => h9) rfl dX8_inserts_113 ?_
        refine lv_iload hx hb dX8_inserts_116 (lv_at hl 3 rfl) ?_
        refine k_iald hx hb hK hP 8 0 rfl rfl (Nat.le_of_ble_eq_true rfl) hs dX8_inserts_118 (fun vz10 hs => ?_)
        refine k_iast hx hb hK hP hD hSz 7 0 rfl rfl (Nat.le_of_ble_eq_true rfl) hs dX8_inserts_119 (fun Hz lz hP hD hSz hs => ?_)
        have hP : va_P D vwCl (wM cI cZ cJ ad x_thrown x_buffered x_given x_isFolding x_work x_rebuilt x_streamed x_reports x_gapFrom x_gapSize x_elements x_wholeSize x_isLaid x_takenMany a_buffer a_length a_bytes a_weight a_live a_size (upA a_list ((128 * l4) + l5) vz10) a_moved a_planned a_stream a_reportedEnd a_reportedKeyword a_starts a_keywordAt a_element a_long1 a_head a_tail a_next a_skip a_last a_whole a_edges a_covers a_weighs a_numbers a_takes a_takenAt) Hz := hP
        have hD : va_D Az (wM cI cZ cJ ad x_thrown x_buffered x_given x_isFolding x_work x_rebuilt x_streamed x_reports x_gapFrom x_gapSize x_elements x_wholeSize x_isLaid x_takenMany a_buffer a_length a_bytes a_weight a_live a_size (upA a_list ((128 * l4) + l5) vz10) a_moved a_planned a_stream a_reportedEnd a_reportedKeyword a_starts a_keywordAt a_element a_long1 a_head a_tail a_next a_skip a_last a_whole a_edges a_covers a_weighs a_numbers a_takes a_takenAt) := hD
        refine k_iinc (x := l5) (k := 3) (lv' := [(5, .int (iI (l5 + 1))), (0, .ref (ad 0)), (3, .int (iI l3)), (4, .int (iI l4))]) hx hb dX8_inserts_120 hl rfl (by decide) rfl (fun ls hl => ?_)
        refine lv_goto (tgt := 93) hx hb dX8_inserts_123 (by decide) ?_
        exact ih x_work a_size (upA a_list ((128 * l4) + l5) vz10) a_moved l3 l4 (l5 + 1) y0 hs Hz lz hP hD hSz ls (lv_sub hl [1, 2, 3, 0] rfl) kx
      · cases hs
        exact kx Hz lz hP hD hSz ls (lv_sub hl [0, 1, 2] rfl)
  refine (?_ : ∀ (Hz : Heap) (lz : List Loc), va_P D vwCl (wM cI cZ cJ ad x_thrown x_buffered x_given x_isFolding x_work x_rebuilt x_streamed x_reports x_gapFrom x_gapSize x_elements x_wholeSize x_isLaid x_takenMany a_buffer a_length a_bytes a_weight a_live a_size a_list a_moved a_planned a_stream a_reportedEnd a_reportedKeyword a_starts a_keywordAt a_element a_long1 a_head a_tail a_next a_skip a_last a_whole a_edges a_covers a_weighs a_numbers a_takes a_takenAt) Hz → va_D Az (wM cI cZ cJ ad x_thrown x_buffered x_given x_isFolding x_work x_rebuilt x_streamed x_reports x_gapFrom x_gapSize x_elements x_wholeSize x_isLaid x_takenMany a_buffer a_length a_bytes a_weight a_live a_size a_list a_moved a_planned a_stream a_reportedEnd a_reportedKeyword a_starts a_keywordAt a_element a_long1 a_head a_tail a_next a_skip a_last a_whole a_edges a_covers a_weighs a_numbers a_takes a_takenAt) → va_S Az s.heap Hz lz → W p l e (headSpec wsX8_inserts rm_X8_inserts).room s m args below meth c Hz lz 0 0 (MQ below (QW D vwCl none wz Az) args s 0 0 Az) (F0 m 0 ls [])) s.heap [] hP hD hSz
  intro Hz lz hP hD hSz
  refine k_iconst (n := 1) hx hb dX8_inserts_0 ?_
  refine lv_istore_n (lv' := [(3, .int (iI 1)), (0, .ref (ad 0)), (1, .int (iI pz1)), (2, .int (iI pz2))]) hx hb dX8_inserts_1 rfl hl (by decide) rfl (fun ls hl => ?_)
  refine lv_aload_n hx hb dX8_inserts_2 rfl (lv_at hl 1 rfl) ?_
  refine va_get (ci := 8) (v := .ref (ad 8)) (C := RX8) (T := TX8) (N := 42) hx hb hts hiX8 hown hK hP 0 rfl rfl 11 (by decide) hf36 (fun _ h9 => h9) rfl dX8_inserts_3 ?_
  refine k_iconst (n := 0) hx hb dX8_inserts_6 ?_
  refine lv_iload_n hx hb dX8_inserts_7 rfl (lv_at hl 3 rfl) ?_
  refine k_iast hx hb hK hP hD hSz 8 0 rfl rfl (Nat.le_of_ble_eq_true rfl) hs dX8_inserts_8 (fun Hz lz hP hD hSz hs => ?_)
  have hP : va_P D vwCl (wM cI cZ cJ ad x_thrown x_buffered x_given x_isFolding x_work x_rebuilt x_streamed x_reports x_gapFrom x_gapSize x_elements x_wholeSize x_isLaid x_takenMany a_buffer a_length a_bytes a_weight a_live a_size a_list (upA a_moved 0 pz2) a_planned a_stream a_reportedEnd a_reportedKeyword a_starts a_keywordAt a_element a_long1 a_head a_tail a_next a_skip a_last a_whole a_edges a_covers a_weighs a_numbers a_takes a_takenAt) Hz := hP
  have hD : va_D Az (wM cI cZ cJ ad x_thrown x_buffered x_given x_isFolding x_work x_rebuilt x_streamed x_reports x_gapFrom x_gapSize x_elements x_wholeSize x_isLaid x_takenMany a_buffer a_length a_bytes a_weight a_live a_size a_list (upA a_moved 0 pz2) a_planned a_stream a_reportedEnd a_reportedKeyword a_starts a_keywordAt a_element a_long1 a_head a_tail a_next a_skip a_last a_whole a_edges a_covers a_weighs a_numbers a_takes a_takenAt) := hD
  refine lv_iload_n hx hb dX8_inserts_9 rfl (lv_at hl 2 rfl) ?_
  refine lv_istore (lv' := [(4, .int (iI pz1)), (3, .int (iI 1)), (0, .ref (ad 0)), (1, .int (iI pz1)), (2, .int (iI pz2))]) hx hb dX8_inserts_10 hl (by decide) rfl (fun ls hl => ?_)
  obtain ⟨ez6, ez7, ez8, ez9, hq, hs⟩ := bd4_some hs
  refine Lz12 FU x_work a_size a_list (upA a_moved 0 pz2) 1 pz1 ez6 ez7 ez8 ez9 hq Hz lz hP hD hSz ls (lv_sub hl [2, 1, 0] rfl) ?_
  intro Hz lz hP hD hSz ls hl
  refine k_iconst (n := 0) hx hb dX8_inserts_90 ?_
  refine lv_istore (lv' := [(5, .int (iI 0)), (0, .ref (ad 0)), (3, .int (iI ez8)), (4, .int (iI ez9))]) hx hb dX8_inserts_91 hl (by decide) rfl (fun ls hl => ?_)
  obtain ⟨ez11, hq, hs⟩ := bd1_some hs
  refine Lz93 FU x_work ez6 a_list ez7 ez8 ez9 0 ez11 hq Hz lz hP hD hSz ls (lv_sub hl [1, 2, 3, 0] rfl) ?_
  intro Hz lz hP hD hSz ls hl
  refine lv_aload_n hx hb dX8_inserts_126 rfl (lv_at hl 0 rfl) ?_
  refine va_get (ci := 8) (v := .ref (ad 6)) (C := RX8) (T := TX8) (N := 42) hx hb hts hiX8 hown hK hP 0 rfl rfl 9 (by decide) hf30 (fun _ h9 => h9) rfl dX8_inserts_127 ?_
  refine lv_iload hx hb dX8_inserts_130 (lv_at hl 2 rfl) ?_
  refine lv_iload_n hx hb dX8_inserts_132 rfl (lv_at hl 1 rfl) ?_
  refine k_iast hx hb hK hP hD hSz 6 0 rfl rfl (Nat.le_of_ble_eq_true rfl) hs dX8_inserts_133 (fun Hz lz hP hD hSz hs => ?_)
  have hP : va_P D vwCl (wM cI cZ cJ ad x_thrown x_buffered x_given x_isFolding x_work x_rebuilt x_streamed x_reports x_gapFrom x_gapSize x_elements x_wholeSize x_isLaid x_takenMany a_buffer a_length a_bytes a_weight a_live (upA ez6 ez9 ez8) ez11 ez7 a_planned a_stream a_reportedEnd a_reportedKeyword a_starts a_keywordAt a_element a_long1 a_head a_tail a_next a_skip a_last a_whole a_edges a_covers a_weighs a_numbers a_takes a_takenAt) Hz := hP
  have hD : va_D Az (wM cI cZ cJ ad x_thrown x_buffered x_given x_isFolding x_work x_rebuilt x_streamed x_reports x_gapFrom x_gapSize x_elements x_wholeSize x_isLaid x_takenMany a_buffer a_length a_bytes a_weight a_live (upA ez6 ez9 ez8) ez11 ez7 a_planned a_stream a_reportedEnd a_reportedKeyword a_starts a_keywordAt a_element a_long1 a_head a_tail a_next a_skip a_last a_whole a_edges a_covers a_weighs a_numbers a_takes a_takenAt) := hD
  refine lv_aload_n hx hb dX8_inserts_134 rfl (lv_at hl 0 rfl) ?_
  refine lv_dup hx hb dX8_inserts_135 rfl ?_
  refine va_get (ci := 8) (v := .int (iI x_work)) (C := RX8) (T := TX8) (N := 42) hx hb hts hiX8 hown hK hP 0 rfl rfl 12 (by decide) hf173 (fun _ h9 => h9) rfl dX8_inserts_136 ?_
  refine lv_iload_n hx hb dX8_inserts_139 rfl (lv_at hl 1 rfl) ?_
  refine k_iadd hx hb dX8_inserts_140 ?_
  refine va_put (ci := 8) (v := .int (iI (x_work + ez8))) (ty := .int) (C := RX8) (T := TX8) (N := 42) hx hb hts hiX8 tyX8 tyX8_ok nmX8 hown hK hP hD hSz 0 rfl rfl 12 (by decide) hf173 (fun _ h9 => h9) rfl (by decide +kernel) rfl rfl (Nat.le_of_ble_eq_true rfl) dX8_inserts_141 (fun Hz lz hP hD hSz => ?_)
  have hP : va_P D vwCl (wM cI cZ cJ ad x_thrown x_buffered x_given x_isFolding (x_work + ez8) x_rebuilt x_streamed x_reports x_gapFrom x_gapSize x_elements x_wholeSize x_isLaid x_takenMany a_buffer a_length a_bytes a_weight a_live (upA ez6 ez9 ez8) ez11 ez7 a_planned a_stream a_reportedEnd a_reportedKeyword a_starts a_keywordAt a_element a_long1 a_head a_tail a_next a_skip a_last a_whole a_edges a_covers a_weighs a_numbers a_takes a_takenAt) Hz := hP
  have hD : va_D Az (wM cI cZ cJ ad x_thrown x_buffered x_given x_isFolding (x_work + ez8) x_rebuilt x_streamed x_reports x_gapFrom x_gapSize x_elements x_wholeSize x_isLaid x_takenMany a_buffer a_length a_bytes a_weight a_live (upA ez6 ez9 ez8) ez11 ez7 a_planned a_stream a_reportedEnd a_reportedKeyword a_starts a_keywordAt a_element a_long1 a_head a_tail a_next a_skip a_last a_whole a_edges a_covers a_weighs a_numbers a_takes a_takenAt) := hD
  cases hs
  exact k_vret_w hx hb hr hlk (by rw [hw1]; exact hP) hSz dX8_inserts_144 rfl
/-! X8_addKeyword -/
set_option maxHeartbeats 4000000 in
set_option maxRecDepth 100000 in
theorem c_X8_addKeyword (l : Launch) (D : va_G) (cI cZ cJ : ClassId) {ad : Nat → Nat} {x_thrown : Int} {x_buffered : Int} {x_given : Int} {x_isFolding : Int} {x_work : Int} {x_rebuilt : Int} {x_streamed : Int} {x_reports : Int} {x_gapFrom : Int} {x_gapSize : Int} {x_elements : Int} {x_wholeSize : Int} {x_isLaid : Int} {x_takenMany : Int} {a_buffer : (Int → Int)} {a_length : (Int → Int)} {a_bytes : (Int → Int)} {a_weight : (Int → Int)} {a_live : (Int → Int)} {a_size : (Int → Int)} {a_list : (Int → Int)} {a_moved : (Int → Int)} {a_planned : (Int → Int)} {a_stream : (Int → Int)} {a_reportedEnd : (Int → Int)} {a_reportedKeyword : (Int → Int)} {a_starts : (Int → Int)} {a_keywordAt : (Int → Int)} {a_element : (Int → Int)} {a_long1 : (Int → Int)} {a_head : (Int → Int)} {a_tail : (Int → Int)} {a_next : (Int → Int)} {a_skip : (Int → Int)} {a_last : (Int → Int)} {a_whole : (Int → Int)} {a_edges : (Int → Int)} {a_covers : (Int → Int)} {a_weighs : (Int → Int)} {a_numbers : (Int → Int)} {a_takes : (Int → Int)} {a_takenAt : (Int → Int)} {pz1 : Int} {pz2 : Int} {r : Int} {y_x_thrown : Int} {y_x_buffered : Int} {y_x_given : Int} {y_x_work : Int} {y_x_isLaid : Int} {y_a_length : (Int → Int)} {y_a_bytes : (Int → Int)} {y_a_weight : (Int → Int)} {y_a_live : (Int → Int)} {y_a_size : (Int → Int)} {y_a_list : (Int → Int)} {y_a_moved : (Int → Int)} {sz : Nat} (hs : s_X8_addKeyword x_thrown x_buffered x_given x_isFolding x_work x_isLaid a_buffer a_length a_bytes a_weight a_live a_size a_list a_moved pz1 pz2 = some (r, y_x_thrown, y_x_buffered, y_x_given, y_x_work, y_x_isLaid, y_a_length, y_a_bytes, y_a_weight, y_a_live, y_a_size, y_a_list, y_a_moved)) : Met l yX8_addKeyword wsX8_addKeyword rm_X8_addKeyword (PW D vwCl [(cI, .int), (cZ, .boolean), (cJ, .long)] [.ref (ad 0), .int (iI pz1), .int (iI pz2)] (wM cI cZ cJ ad x_thrown x_buffered x_given x_isFolding x_work x_rebuilt x_streamed x_reports x_gapFrom x_gapSize x_elements x_wholeSize x_isLaid x_takenMany a_buffer a_length a_bytes a_weight a_live a_size a_list a_moved a_planned a_stream a_reportedEnd a_reportedKeyword a_starts a_keywordAt a_element a_long1 a_head a_tail a_next a_skip a_last a_whole a_edges a_covers a_weighs a_numbers a_takes a_takenAt) sz) (QW D vwCl (some (.int (iI r))) (wM cI cZ cJ ad y_x_thrown y_x_buffered y_x_given x_isFolding y_x_work x_rebuilt x_streamed x_reports x_gapFrom x_gapSize x_elements x_wholeSize y_x_isLaid x_takenMany a_buffer y_a_length y_a_bytes y_a_weight y_a_live y_a_size y_a_list y_a_moved a_planned a_stream a_reportedEnd a_reportedKeyword a_starts a_keywordAt a_element a_long1 a_head a_tail a_next a_skip a_last a_whole a_edges a_covers a_weighs a_numbers a_takes a_takenAt) (va_A (wM cI cZ cJ ad x_thrown x_buffered x_given x_isFolding x_work x_rebuilt x_streamed x_reports x_gapFrom x_gapSize x_elements x_wholeSize x_isLaid x_takenMany a_buffer a_length a_bytes a_weight a_live a_size a_list a_moved a_planned a_stream a_reportedEnd a_reportedKeyword a_starts a_keywordAt a_element a_long1 a_head a_tail a_next a_skip a_last a_whole a_edges a_covers a_weighs a_numbers a_takes a_takenAt) sz)) 0 0 (va_A (wM cI cZ cJ ad x_thrown x_buffered x_given x_isFolding x_work x_rebuilt x_streamed x_reports x_gapFrom x_gapSize x_elements x_wholeSize x_isLaid x_takenMany a_buffer a_length a_bytes a_weight a_live a_size a_list a_moved a_planned a_stream a_reportedEnd a_reportedKeyword a_starts a_keywordAt a_element a_long1 a_head a_tail a_next a_skip a_last a_whole a_edges a_covers a_weighs a_numbers a_takes a_takenAt) sz) := by
  refine Met.ofW (cc := cX8_addKeyword) (maxL := 4) (ret := (some .int)) (by decide) rfl ?_
  intro p e s m args below meth c s₁ B hml hv
  obtain ⟨hav, hsz, hP, hK, hD0⟩ := hv
  have hx := B.exec
  have hb := B.bytes
  have hr := B.returns
  have hts := atoms_spec (ws := wsX8_addKeyword) B.pre
  have hown : s.vm.findClass RX8 = some m.cls := findClass_of_methodNamed B.named
  have hlk := B.notSynchronized
  have hf1 : (Cond.fieldLink RX8 1 "KeywordMatcherModel" "thrown" "I").before args s = true := hts _ (List.mem_of_getElem? (i := 1) rfl)
  have hiX8 : ∀ w ∈ wsX80, w ∈ wsX8_addKeyword := fun w h => List.mem_cons_of_mem _ (List.mem_append_right _ h)
  have hf99 : (Cond.fieldLink RX8 99 "KeywordMatcherModel" "buffered" "I").before args s = true := hts _ (List.mem_of_getElem? (i := 2) rfl)
  have hc142 : (Cond.constantLong RX8 142 (99)).before args s = true := hts _ (List.mem_of_getElem? (i := 3) rfl)
  have hf102 : (Cond.fieldLink RX8 102 "KeywordMatcherModel" "given" "I").before args s = true := hts _ (List.mem_of_getElem? (i := 4) rfl)
  have hf17 : (Cond.fieldLink RX8 17 "KeywordMatcherModel" "length" "[I").before args s = true := hts _ (List.mem_of_getElem? (i := 5) rfl)
  have hf23 : (Cond.fieldLink RX8 23 "KeywordMatcherModel" "weight" "[I").before args s = true := hts _ (List.mem_of_getElem? (i := 6) rfl)
  have hf26 : (Cond.fieldLink RX8 26 "KeywordMatcherModel" "live" "[Z").before args s = true := hts _ (List.mem_of_getElem? (i := 7) rfl)
  have hf20 : (Cond.fieldLink RX8 20 "KeywordMatcherModel" "bytes" "[I").before args s = true := hts _ (List.mem_of_getElem? (i := 8) rfl)
  have hf13 : (Cond.fieldLink RX8 13 "KeywordMatcherModel" "buffer" "[I").before args s = true := hts _ (List.mem_of_getElem? (i := 9) rfl)
  have hf154 : (Cond.fieldLink RX8 154 "KeywordMatcherModel" "isLaid" "Z").before args s = true := hts _ (List.mem_of_getElem? (i := 10) rfl)
  subst hsz
  have hD := hD0.self (sz := s.heap.size)
  generalize hAe : va_A (wM cI cZ cJ ad x_thrown x_buffered x_given x_isFolding x_work x_rebuilt x_streamed x_reports x_gapFrom x_gapSize x_elements x_wholeSize x_isLaid x_takenMany a_buffer a_length a_bytes a_weight a_live a_size a_list a_moved a_planned a_stream a_reportedEnd a_reportedKeyword a_starts a_keywordAt a_element a_long1 a_head a_tail a_next a_skip a_last a_whole a_edges a_covers a_weighs a_numbers a_takes a_takenAt) s.heap.size = Az at hD ⊢
  have hA : ∀ q : Nat, s.heap.size ≤ q → Az q := fun q h => by rw [← hAe]; exact Or.inr h
  clear hAe
  have hSz : va_S Az s.heap s.heap [] := va_S.rf
  obtain ⟨wz, hw1⟩ : ∃ z : va_W, z = (wM cI cZ cJ ad y_x_thrown y_x_buffered y_x_given x_isFolding y_x_work x_rebuilt x_streamed x_reports x_gapFrom x_gapSize x_elements x_wholeSize y_x_isLaid x_takenMany a_buffer y_a_length y_a_bytes y_a_weight y_a_live y_a_size y_a_list y_a_moved a_planned a_stream a_reportedEnd a_reportedKeyword a_starts a_keywordAt a_element a_long1 a_head a_tail a_next a_skip a_last a_whole a_edges a_covers a_weighs a_numbers a_takes a_takenAt) := ⟨_, rfl⟩
  rw [← hw1]
  have hl := lv_entry ([.ref (ad 0), .int (iI pz1), .int (iI pz2)]) (n := 4) (Nat.le_of_ble_eq_true rfl)
  rw [show entryFrame m args 4 = entryFrame m ([.ref (ad 0), .int (iI pz1), .int (iI pz2)] : List Value).toArray 4 from by rw [hav], lg_entry_eq]
  generalize (lg_sl ([.ref (ad 0), .int (iI pz1), .int (iI pz2)]) ++ List.replicate (4 - (lg_sl ([.ref (ad 0), .int (iI pz1), .int (iI pz2)])).length) Slot.unset).toArray = ls at hl ⊢
  have hl : lv_has ls 4 [(0, .ref (ad 0)), (1, .int (iI pz1)), (2, .int (iI pz2))] := hl
  unfold s_X8_addKeyword at hs
  have Lz115 : ∀ (fu : Nat) (x_thrown : Int) (x_buffered : Int) (x_given : Int) (x_work : Int) (x_isLaid : Int) (a_length : (Int → Int)) (a_bytes : (Int → Int)) (a_weight : (Int → Int)) (a_live : (Int → Int)) (a_size : (Int → Int)) (a_list : (Int → Int)) (a_moved : (Int → Int)) (l1 : Int) (l3 : Int) (y0 : (Int → Int)), s_X8_addKeyword_115 fu x_given a_buffer a_bytes l1 l3 = some y0 → ∀ (Hz : Heap) (lz : List Loc), va_P D vwCl (wM cI cZ cJ ad x_thrown x_buffered x_given x_isFolding x_work x_rebuilt x_streamed x_reports x_gapFrom x_gapSize x_elements x_wholeSize x_isLaid x_takenMany a_buffer a_length a_bytes a_weight a_live a_size a_list a_moved a_planned a_stream a_reportedEnd a_reportedKeyword a_starts a_keywordAt a_element a_long1 a_head a_tail a_next a_skip a_last a_whole a_edges a_covers a_weighs a_numbers a_takes a_takenAt) Hz → va_D Az (wM cI cZ cJ ad x_thrown x_buffered x_given x_isFolding x_work x_rebuilt x_streamed x_reports x_gapFrom x_gapSize x_elements x_wholeSize x_isLaid x_takenMany a_buffer a_length a_bytes a_weight a_live a_size a_list a_moved a_planned a_stream a_reportedEnd a_reportedKeyword a_starts a_keywordAt a_element a_long1 a_head a_tail a_next a_skip a_last a_whole a_edges a_covers a_weighs a_numbers a_takes a_takenAt) → va_S Az s.heap Hz lz → ∀ ls : Array Slot, lv_has ls 4 [(0, .ref (ad 0)), (1, .int (iI l1)), (3, .int (iI l3))] → (∀ (Hz : Heap) (lz : List Loc), va_P D vwCl (wM cI cZ cJ ad x_thrown x_buffered x_given x_isFolding x_work x_rebuilt x_streamed x_reports x_gapFrom x_gapSize x_elements x_wholeSize x_isLaid x_takenMany a_buffer a_length y0 a_weight a_live a_size a_list a_moved a_planned a_stream a_reportedEnd a_reportedKeyword a_starts a_keywordAt a_element a_long1 a_head a_tail a_next a_skip a_last a_whole a_edges a_covers a_weighs a_numbers a_takes a_takenAt) Hz → va_D Az (wM cI cZ cJ ad x_thrown x_buffered x_given x_isFolding x_work x_rebuilt x_streamed x_reports x_gapFrom x_gapSize x_elements x_wholeSize x_isLaid x_takenMany a_buffer a_length y0 a_weight a_live a_size a_list a_moved a_planned a_stream a_reportedEnd a_reportedKeyword a_starts a_keywordAt a_element a_long1 a_head a_tail a_next a_skip a_last a_whole a_edges a_covers a_weighs a_numbers a_takes a_takenAt) → va_S Az s.heap Hz lz → ∀ ls : Array Slot, lv_has ls 4 [(0, .ref (ad 0))] → W p l e (headSpec wsX8_addKeyword rm_X8_addKeyword).room s m args below meth c Hz lz 0 0 (MQ below (QW D vwCl (some (.int (iI r))) wz Az) args s 0 0 Az) (F0 m 146 ls [])) → W p l e (headSpec wsX8_addKeyword rm_X8_addKeyword).room s m args below meth c Hz lz 0 0 (MQ below (QW D vwCl (some (.int (iI r))) wz Az) args s 0 0 Az) (F0 m 115 ls []) := by
    intro fu
    induction fu with
    | zero => intro x_thrown x_buffered x_given x_work x_isLaid a_length a_bytes a_weight a_live a_size a_list a_moved l1 l3 y0 hs; cases hs
    | succ fu ih =>
      intro x_thrown x_buffered x_given x_work x_isLaid a_length a_bytes a_weight a_live a_size a_list a_moved l1 l3 y0 hs Hz lz hP hD hSz ls hl kx
      rw [s_X8_addKeyword_115_s] at hs
      refine lv_iload_n hx hb dX8_addKeyword_115 rfl (lv_at hl 2 rfl) ?_
      refine lv_iload_n hx hb dX8_addKeyword_116 rfl (lv_at hl 1 rfl) ?_
      refine k_icmp_ge (tgt := 146) hx hb hs dX8_addKeyword_117 (by decide) (fun hs => ?_) (fun hs => ?_)
      · refine lv_aload_n hx hb dX8_addKeyword_120 rfl (lv_at hl 0 rfl) ?_
        refine va_get (ci := 8) (v := .ref (ad 3)) (C := RX8) (T := TX8) (N := 42) hx hb hts hiX8 hown hK hP 0 rfl rfl 4 (by decide) hf20 (fun _ h9 => h9) rfl dX8_addKeyword_121 ?_
        refine k_bipush (n := 16) hx hb (by decide) dX8_addKeyword_124 ?_
        refine lv_aload_n hx hb dX8_addKeyword_126 rfl (lv_at hl 0 rfl) ?_
        refine va_get (ci := 8) (v := .int (iI x_given)) (C := RX8) (T := TX8) (N := 42) hx hb hts hiX8 hown hK hP 0 rfl rfl 7 (by decide) hf102 (fun _ h9 => h9) rfl dX8_addKeyword_127 ?_
        refine k_imul hx hb dX8_addKeyword_130 ?_
        refine lv_iload_n hx hb dX8_addKeyword_131 rfl (lv_at hl 2 rfl) ?_
        refine k_iadd hx hb dX8_addKeyword_132 ?_
        refine lv_aload_n hx hb dX8_addKeyword_133 rfl (lv_at hl 0 rfl) ?_
        refine va_get (ci := 8) (v := .ref (ad 1)) (C := RX8) (T := TX8) (N := 42) hx hb hts hiX8 hown hK hP 0 rfl rfl 1 (by decide) hf13 (fun _ h9 => h9) rfl dX8_addKeyword_134 ?_
        refine lv_iload_n hx hb dX8_addKeyword_137 rfl (lv_at hl 2 rfl) ?_
        refine k_iald hx hb hK hP 1 0 rfl rfl (Nat.le_of_ble_eq_true rfl) hs dX8_addKeyword_138 (fun vz6 hs => ?_)
        refine k_iast hx hb hK hP hD hSz 3 0 rfl rfl (Nat.le_of_ble_eq_true rfl) hs dX8_addKeyword_139 (fun Hz lz hP hD hSz hs => ?_)
        have hP : va_P D vwCl (wM cI cZ cJ ad x_thrown x_buffered x_given x_isFolding x_work x_rebuilt x_streamed x_reports x_gapFrom x_gapSize x_elements x_wholeSize x_isLaid x_takenMany a_buffer a_length (upA a_bytes ((16 * x_given) + l3) vz6) a_weight a_live a_size a_list a_moved a_planned a_stream a_reportedEnd a_reportedKeyword a_starts a_keywordAt a_element a_long1 a_head a_tail a_next a_skip a_last a_whole a_edges a_covers a_weighs a_numbers a_takes a_takenAt) Hz := hP
        have hD : va_D Az (wM cI cZ cJ ad x_thrown x_buffered x_given x_isFolding x_work x_rebuilt x_streamed x_reports x_gapFrom x_gapSize x_elements x_wholeSize x_isLaid x_takenMany a_buffer a_length (upA a_bytes ((16 * x_given) + l3) vz6) a_weight a_live a_size a_list a_moved a_planned a_stream a_reportedEnd a_reportedKeyword a_starts a_keywordAt a_element a_long1 a_head a_tail a_next a_skip a_last a_whole a_edges a_covers a_weighs a_numbers a_takes a_takenAt) := hD
        refine k_iinc (x := l3) (k := 2) (lv' := [(3, .int (iI (l3 + 1))), (0, .ref (ad 0)), (1, .int (iI l1))]) hx hb dX8_addKeyword_140 hl rfl (by decide) rfl (fun ls hl => ?_)
        refine lv_goto (tgt := 115) hx hb dX8_addKeyword_143 (by decide) ?_
        exact ih x_thrown x_buffered x_given x_work x_isLaid a_length (upA a_bytes ((16 * x_given) + l3) vz6) a_weight a_live a_size a_list a_moved l1 (l3 + 1) y0 hs Hz lz hP hD hSz ls (lv_sub hl [1, 2, 0] rfl) kx
      · cases hs
        exact kx Hz lz hP hD hSz ls (lv_sub hl [0] rfl)
  refine (?_ : ∀ (Hz : Heap) (lz : List Loc), va_P D vwCl (wM cI cZ cJ ad x_thrown x_buffered x_given x_isFolding x_work x_rebuilt x_streamed x_reports x_gapFrom x_gapSize x_elements x_wholeSize x_isLaid x_takenMany a_buffer a_length a_bytes a_weight a_live a_size a_list a_moved a_planned a_stream a_reportedEnd a_reportedKeyword a_starts a_keywordAt a_element a_long1 a_head a_tail a_next a_skip a_last a_whole a_edges a_covers a_weighs a_numbers a_takes a_takenAt) Hz → va_D Az (wM cI cZ cJ ad x_thrown x_buffered x_given x_isFolding x_work x_rebuilt x_streamed x_reports x_gapFrom x_gapSize x_elements x_wholeSize x_isLaid x_takenMany a_buffer a_length a_bytes a_weight a_live a_size a_list a_moved a_planned a_stream a_reportedEnd a_reportedKeyword a_starts a_keywordAt a_element a_long1 a_head a_tail a_next a_skip a_last a_whole a_edges a_covers a_weighs a_numbers a_takes a_takenAt) → va_S Az s.heap Hz lz → W p l e (headSpec wsX8_addKeyword rm_X8_addKeyword).room s m args below meth c Hz lz 0 0 (MQ below (QW D vwCl (some (.int (iI r))) wz Az) args s 0 0 Az) (F0 m 0 ls [])) s.heap [] hP hD hSz
  intro Hz lz hP hD hSz
  refine lv_aload_n hx hb dX8_addKeyword_0 rfl (lv_at hl 0 rfl) ?_
  refine k_iconst (n := 0) hx hb dX8_addKeyword_1 ?_
  refine va_put (ci := 8) (v := .int (iI 0)) (ty := .int) (C := RX8) (T := TX8) (N := 42) hx hb hts hiX8 tyX8 tyX8_ok nmX8 hown hK hP hD hSz 0 rfl rfl 0 (by decide) hf1 (fun _ h9 => h9) rfl (by decide +kernel) rfl rfl (Nat.le_of_ble_eq_true rfl) dX8_addKeyword_2 (fun Hz lz hP hD hSz => ?_)
  have hP : va_P D vwCl (wM cI cZ cJ ad 0 x_buffered x_given x_isFolding x_work x_rebuilt x_streamed x_reports x_gapFrom x_gapSize x_elements x_wholeSize x_isLaid x_takenMany a_buffer a_length a_bytes a_weight a_live a_size a_list a_moved a_planned a_stream a_reportedEnd a_reportedKeyword a_starts a_keywordAt a_element a_long1 a_head a_tail a_next a_skip a_last a_whole a_edges a_covers a_weighs a_numbers a_takes a_takenAt) Hz := hP
  have hD : va_D Az (wM cI cZ cJ ad 0 x_buffered x_given x_isFolding x_work x_rebuilt x_streamed x_reports x_gapFrom x_gapSize x_elements x_wholeSize x_isLaid x_takenMany a_buffer a_length a_bytes a_weight a_live a_size a_list a_moved a_planned a_stream a_reportedEnd a_reportedKeyword a_starts a_keywordAt a_element a_long1 a_head a_tail a_next a_skip a_last a_whole a_edges a_covers a_weighs a_numbers a_takes a_takenAt) := hD
  refine lv_iload_n hx hb dX8_addKeyword_5 rfl (lv_at hl 1 rfl) ?_
  refine k_i2l hx hb hs dX8_addKeyword_6 (fun hs => ?_)
  refine k_lconst (v := 0) hx hb (by decide) dX8_addKeyword_7 ?_
  refine lv_aload_n hx hb dX8_addKeyword_8 rfl (lv_at hl 0 rfl) ?_
  refine va_get (ci := 8) (v := .int (iI x_buffered)) (C := RX8) (T := TX8) (N := 42) hx hb hts hiX8 hown hK hP 0 rfl rfl 2 (by decide) hf99 (fun _ h9 => h9) rfl dX8_addKeyword_9 ?_
  refine k_i2l hx hb hs dX8_addKeyword_12 (fun hs => ?_)
  obtain ⟨vz1, hcz, hs⟩ := bd1_some hs
  refine k_rS (As := [.long (iL pz1), .long (iL 0), .long (iL x_buffered)]) (rest := []) (st1 := [.int (iI vz1)]) ⟨hx, hb, hml, hown, hts⟩ hK (va_P_nil (D := D) (cl := vwCl)) (c_X8_isIn l D cI cZ cJ hcz) (va_cwS 3 hts gX8_addKeyword_X8_isIn rfl rfl rfl (by decide +kernel) ⟨Nat.le_of_ble_eq_true rfl, Nat.le_of_ble_eq_true rfl⟩) rfl hl.1 rfl (lv_room (Nat.le_of_ble_eq_true rfl)) dX8_addKeyword_13 ⟨Nat.zero_le _, Nat.zero_le _⟩ rfl ?_
  refine k_if_eq (tgt := 31) hx hb hs dX8_addKeyword_16 (by decide) (fun hs => ?_) (fun hs => ?_)
  · refine k_bipush (n := (-3)) hx hb (by decide) dX8_addKeyword_31 ?_
    cases hs
    exact k_iret_w hx hb hr hlk (by rw [hw1]; exact hP) hSz dX8_addKeyword_33 rfl
  · refine lv_iload_n hx hb dX8_addKeyword_19 rfl (lv_at hl 2 rfl) ?_
    refine k_i2l hx hb hs dX8_addKeyword_20 (fun hs => ?_)
    refine k_lconst (v := 1) hx hb (by decide) dX8_addKeyword_21 ?_
    refine k_ldc2 (n := 99) hx hb (by decide) hown hc142 dX8_addKeyword_22 ?_
    obtain ⟨vz2, hcz, hs⟩ := bd1_some hs
    refine k_rS (As := [.long (iL pz2), .long (iL 1), .long (iL 99)]) (rest := []) (st1 := [.int (iI vz2)]) ⟨hx, hb, hml, hown, hts⟩ hK (va_P_nil (D := D) (cl := vwCl)) (c_X8_isIn l D cI cZ cJ hcz) (va_cwS 3 hts gX8_addKeyword_X8_isIn rfl rfl rfl (by decide +kernel) ⟨Nat.le_of_ble_eq_true rfl, Nat.le_of_ble_eq_true rfl⟩) rfl hl.1 rfl (lv_room (Nat.le_of_ble_eq_true rfl)) dX8_addKeyword_25 ⟨Nat.zero_le _, Nat.zero_le _⟩ rfl ?_
    refine k_if_ne (tgt := 34) hx hb hs dX8_addKeyword_28 (by decide) (fun hs => ?_) (fun hs => ?_)
    · refine k_bipush (n := (-3)) hx hb (by decide) dX8_addKeyword_31 ?_
      cases hs
      exact k_iret_w hx hb hr hlk (by rw [hw1]; exact hP) hSz dX8_addKeyword_33 rfl
    · refine lv_aload_n hx hb dX8_addKeyword_34 rfl (lv_at hl 0 rfl) ?_
      refine k_iconst (n := 0) hx hb dX8_addKeyword_35 ?_
      refine va_put (ci := 8) (v := .int (iI 0)) (ty := .int) (C := RX8) (T := TX8) (N := 42) hx hb hts hiX8 tyX8 tyX8_ok nmX8 hown hK hP hD hSz 0 rfl rfl 2 (by decide) hf99 (fun _ h9 => h9) rfl (by decide +kernel) rfl rfl (Nat.le_of_ble_eq_true rfl) dX8_addKeyword_36 (fun Hz lz hP hD hSz => ?_)
      have hP : va_P D vwCl (wM cI cZ cJ ad 0 0 x_given x_isFolding x_work x_rebuilt x_streamed x_reports x_gapFrom x_gapSize x_elements x_wholeSize x_isLaid x_takenMany a_buffer a_length a_bytes a_weight a_live a_size a_list a_moved a_planned a_stream a_reportedEnd a_reportedKeyword a_starts a_keywordAt a_element a_long1 a_head a_tail a_next a_skip a_last a_whole a_edges a_covers a_weighs a_numbers a_takes a_takenAt) Hz := hP
      have hD : va_D Az (wM cI cZ cJ ad 0 0 x_given x_isFolding x_work x_rebuilt x_streamed x_reports x_gapFrom x_gapSize x_elements x_wholeSize x_isLaid x_takenMany a_buffer a_length a_bytes a_weight a_live a_size a_list a_moved a_planned a_stream a_reportedEnd a_reportedKeyword a_starts a_keywordAt a_element a_long1 a_head a_tail a_next a_skip a_last a_whole a_edges a_covers a_weighs a_numbers a_takes a_takenAt) := hD
      refine lv_aload_n hx hb dX8_addKeyword_39 rfl (lv_at hl 0 rfl) ?_
      refine lv_iload_n hx hb dX8_addKeyword_40 rfl (lv_at hl 1 rfl) ?_
      obtain ⟨vz3, hcz, hs⟩ := bd1_some hs
      refine k_rV (As := [.int (iI pz1)]) (rest := []) (st1 := [.int (iI vz3)]) ⟨hx, hb, hml, hown, hts⟩ hK hP (c_X8_isText l D cI cZ cJ hcz) (cwV 1 hts gX8_addKeyword_X8_isText rfl rfl rfl (by decide +kernel) ⟨Nat.le_of_ble_eq_true rfl, Nat.le_of_ble_eq_true rfl⟩) 0 rfl rfl rfl rfl hl.1 rfl (lv_room (Nat.le_of_ble_eq_true rfl)) dX8_addKeyword_41 ⟨Nat.zero_le _, Nat.zero_le _⟩ rfl ?_
      refine k_if_ne (tgt := 50) hx hb hs dX8_addKeyword_44 (by decide) (fun hs => ?_) (fun hs => ?_)
      · refine k_bipush (n := (-4)) hx hb (by decide) dX8_addKeyword_47 ?_
        cases hs
        exact k_iret_w hx hb hr hlk (by rw [hw1]; exact hP) hSz dX8_addKeyword_49 rfl
      · refine lv_aload_n hx hb dX8_addKeyword_50 rfl (lv_at hl 0 rfl) ?_
        refine lv_iload_n hx hb dX8_addKeyword_51 rfl (lv_at hl 1 rfl) ?_
        obtain ⟨vz4, hcz, hs⟩ := bd1_some hs
        refine k_rV (As := [.int (iI pz1)]) (rest := []) (st1 := [.int (iI vz4)]) ⟨hx, hb, hml, hown, hts⟩ hK hP (c_X8_found l D cI cZ cJ hcz) (cwV 1 hts gX8_addKeyword_X8_found rfl rfl rfl (by decide +kernel) ⟨Nat.le_of_ble_eq_true rfl, Nat.le_of_ble_eq_true rfl⟩) 0 rfl rfl rfl rfl hl.1 rfl (lv_room (Nat.le_of_ble_eq_true rfl)) dX8_addKeyword_52 ⟨Nat.zero_le _, Nat.zero_le _⟩ rfl ?_
        refine k_iconst (n := (-1)) hx hb dX8_addKeyword_55 ?_
        refine k_icmp_eq (tgt := 62) hx hb hs dX8_addKeyword_56 (by decide) (fun hs => ?_) (fun hs => ?_)
        · refine lv_aload_n hx hb dX8_addKeyword_62 rfl (lv_at hl 0 rfl) ?_
          obtain ⟨vz5, hcz, hs⟩ := bd1_some hs
          refine k_rV (As := []) (rest := []) (st1 := [.int (iI vz5)]) ⟨hx, hb, hml, hown, hts⟩ hK hP (c_X8_lives l D cI cZ cJ hcz) (cwV 0 hts gX8_addKeyword_X8_lives rfl rfl rfl (by decide +kernel) ⟨Nat.le_of_ble_eq_true rfl, Nat.le_of_ble_eq_true rfl⟩) 0 rfl rfl rfl rfl hl.1 rfl (lv_room (Nat.le_of_ble_eq_true rfl)) dX8_addKeyword_63 ⟨Nat.zero_le _, Nat.zero_le _⟩ rfl ?_
          refine k_bipush (n := 40) hx hb (by decide) dX8_addKeyword_66 ?_
          refine k_icmp_eq (tgt := 80) hx hb hs dX8_addKeyword_68 (by decide) (fun hs => ?_) (fun hs => ?_)
          · refine k_bipush (n := (-6)) hx hb (by decide) dX8_addKeyword_80 ?_
            cases hs
            exact k_iret_w hx hb hr hlk (by rw [hw1]; exact hP) hSz dX8_addKeyword_82 rfl
          · refine lv_aload_n hx hb dX8_addKeyword_71 rfl (lv_at hl 0 rfl) ?_
            refine va_get (ci := 8) (v := .int (iI x_given)) (C := RX8) (T := TX8) (N := 42) hx hb hts hiX8 hown hK hP 0 rfl rfl 7 (by decide) hf102 (fun _ h9 => h9) rfl dX8_addKeyword_72 ?_
            refine k_bipush (n := 120) hx hb (by decide) dX8_addKeyword_75 ?_
            refine k_icmp_ne (tgt := 83) hx hb hs dX8_addKeyword_77 (by decide) (fun hs => ?_) (fun hs => ?_)
            · refine k_bipush (n := (-6)) hx hb (by decide) dX8_addKeyword_80 ?_
              cases hs
              exact k_iret_w hx hb hr hlk (by rw [hw1]; exact hP) hSz dX8_addKeyword_82 rfl
            · refine lv_aload_n hx hb dX8_addKeyword_83 rfl (lv_at hl 0 rfl) ?_
              refine va_get (ci := 8) (v := .ref (ad 2)) (C := RX8) (T := TX8) (N := 42) hx hb hts hiX8 hown hK hP 0 rfl rfl 3 (by decide) hf17 (fun _ h9 => h9) rfl dX8_addKeyword_84 ?_
              refine lv_aload_n hx hb dX8_addKeyword_87 rfl (lv_at hl 0 rfl) ?_
              refine va_get (ci := 8) (v := .int (iI x_given)) (C := RX8) (T := TX8) (N := 42) hx hb hts hiX8 hown hK hP 0 rfl rfl 7 (by decide) hf102 (fun _ h9 => h9) rfl dX8_addKeyword_88 ?_
              refine lv_iload_n hx hb dX8_addKeyword_91 rfl (lv_at hl 1 rfl) ?_
              refine k_iast hx hb hK hP hD hSz 2 0 rfl rfl (Nat.le_of_ble_eq_true rfl) hs dX8_addKeyword_92 (fun Hz lz hP hD hSz hs => ?_)
              have hP : va_P D vwCl (wM cI cZ cJ ad 0 0 x_given x_isFolding x_work x_rebuilt x_streamed x_reports x_gapFrom x_gapSize x_elements x_wholeSize x_isLaid x_takenMany a_buffer (upA a_length x_given pz1) a_bytes a_weight a_live a_size a_list a_moved a_planned a_stream a_reportedEnd a_reportedKeyword a_starts a_keywordAt a_element a_long1 a_head a_tail a_next a_skip a_last a_whole a_edges a_covers a_weighs a_numbers a_takes a_takenAt) Hz := hP
              have hD : va_D Az (wM cI cZ cJ ad 0 0 x_given x_isFolding x_work x_rebuilt x_streamed x_reports x_gapFrom x_gapSize x_elements x_wholeSize x_isLaid x_takenMany a_buffer (upA a_length x_given pz1) a_bytes a_weight a_live a_size a_list a_moved a_planned a_stream a_reportedEnd a_reportedKeyword a_starts a_keywordAt a_element a_long1 a_head a_tail a_next a_skip a_last a_whole a_edges a_covers a_weighs a_numbers a_takes a_takenAt) := hD
              refine lv_aload_n hx hb dX8_addKeyword_93 rfl (lv_at hl 0 rfl) ?_
              refine va_get (ci := 8) (v := .ref (ad 4)) (C := RX8) (T := TX8) (N := 42) hx hb hts hiX8 hown hK hP 0 rfl rfl 5 (by decide) hf23 (fun _ h9 => h9) rfl dX8_addKeyword_94 ?_
              refine lv_aload_n hx hb dX8_addKeyword_97 rfl (lv_at hl 0 rfl) ?_
              refine va_get (ci := 8) (v := .int (iI x_given)) (C := RX8) (T := TX8) (N := 42) hx hb hts hiX8 hown hK hP 0 rfl rfl 7 (by decide) hf102 (fun _ h9 => h9) rfl dX8_addKeyword_98 ?_
              refine lv_iload_n hx hb dX8_addKeyword_101 rfl (lv_at hl 2 rfl) ?_
              refine k_iast hx hb hK hP hD hSz 4 0 rfl rfl (Nat.le_of_ble_eq_true rfl) hs dX8_addKeyword_102 (fun Hz lz hP hD hSz hs => ?_)
              have hP : va_P D vwCl (wM cI cZ cJ ad 0 0 x_given x_isFolding x_work x_rebuilt x_streamed x_reports x_gapFrom x_gapSize x_elements x_wholeSize x_isLaid x_takenMany a_buffer (upA a_length x_given pz1) a_bytes (upA a_weight x_given pz2) a_live a_size a_list a_moved a_planned a_stream a_reportedEnd a_reportedKeyword a_starts a_keywordAt a_element a_long1 a_head a_tail a_next a_skip a_last a_whole a_edges a_covers a_weighs a_numbers a_takes a_takenAt) Hz := hP
              have hD : va_D Az (wM cI cZ cJ ad 0 0 x_given x_isFolding x_work x_rebuilt x_streamed x_reports x_gapFrom x_gapSize x_elements x_wholeSize x_isLaid x_takenMany a_buffer (upA a_length x_given pz1) a_bytes (upA a_weight x_given pz2) a_live a_size a_list a_moved a_planned a_stream a_reportedEnd a_reportedKeyword a_starts a_keywordAt a_element a_long1 a_head a_tail a_next a_skip a_last a_whole a_edges a_covers a_weighs a_numbers a_takes a_takenAt) := hD
              refine lv_aload_n hx hb dX8_addKeyword_103 rfl (lv_at hl 0 rfl) ?_
              refine va_get (ci := 8) (v := .ref (ad 5)) (C := RX8) (T := TX8) (N := 42) hx hb hts hiX8 hown hK hP 0 rfl rfl 6 (by decide) hf26 (fun _ h9 => h9) rfl dX8_addKeyword_104 ?_
              refine lv_aload_n hx hb dX8_addKeyword_107 rfl (lv_at hl 0 rfl) ?_
              refine va_get (ci := 8) (v := .int (iI x_given)) (C := RX8) (T := TX8) (N := 42) hx hb hts hiX8 hown hK hP 0 rfl rfl 7 (by decide) hf102 (fun _ h9 => h9) rfl dX8_addKeyword_108 ?_
              refine k_iconst (n := 1) hx hb dX8_addKeyword_111 ?_
              refine k_zast hx hb hK hP hD hSz 5 1 rfl rfl (Nat.le_of_ble_eq_true rfl) (by decide) hs dX8_addKeyword_112 (fun Hz lz hP hD hSz hs => ?_)
              have hP : va_P D vwCl (wM cI cZ cJ ad 0 0 x_given x_isFolding x_work x_rebuilt x_streamed x_reports x_gapFrom x_gapSize x_elements x_wholeSize x_isLaid x_takenMany a_buffer (upA a_length x_given pz1) a_bytes (upA a_weight x_given pz2) (upA a_live x_given 1) a_size a_list a_moved a_planned a_stream a_reportedEnd a_reportedKeyword a_starts a_keywordAt a_element a_long1 a_head a_tail a_next a_skip a_last a_whole a_edges a_covers a_weighs a_numbers a_takes a_takenAt) Hz := hP
              have hD : va_D Az (wM cI cZ cJ ad 0 0 x_given x_isFolding x_work x_rebuilt x_streamed x_reports x_gapFrom x_gapSize x_elements x_wholeSize x_isLaid x_takenMany a_buffer (upA a_length x_given pz1) a_bytes (upA a_weight x_given pz2) (upA a_live x_given 1) a_size a_list a_moved a_planned a_stream a_reportedEnd a_reportedKeyword a_starts a_keywordAt a_element a_long1 a_head a_tail a_next a_skip a_last a_whole a_edges a_covers a_weighs a_numbers a_takes a_takenAt) := hD
              refine k_iconst (n := 0) hx hb dX8_addKeyword_113 ?_
              refine lv_istore_n (lv' := [(3, .int (iI 0)), (0, .ref (ad 0)), (1, .int (iI pz1)), (2, .int (iI pz2))]) hx hb dX8_addKeyword_114 rfl hl (by decide) rfl (fun ls hl => ?_)
              obtain ⟨ez7, hq, hs⟩ := bd1_some hs
              refine Lz115 FU 0 0 x_given x_work x_isLaid (upA a_length x_given pz1) a_bytes (upA a_weight x_given pz2) (upA a_live x_given 1) a_size a_list a_moved pz1 0 ez7 hq Hz lz hP hD hSz ls (lv_sub hl [1, 2, 0] rfl) ?_
              intro Hz lz hP hD hSz ls hl
              refine lv_aload_n hx hb dX8_addKeyword_146 rfl (lv_at hl 0 rfl) ?_
              refine lv_dup hx hb dX8_addKeyword_147 rfl ?_
              refine va_get (ci := 8) (v := .int (iI x_given)) (C := RX8) (T := TX8) (N := 42) hx hb hts hiX8 hown hK hP 0 rfl rfl 7 (by decide) hf102 (fun _ h9 => h9) rfl dX8_addKeyword_148 ?_
              refine k_iconst (n := 1) hx hb dX8_addKeyword_151 ?_
              refine k_iadd hx hb dX8_addKeyword_152 ?_
              refine va_put (ci := 8) (v := .int (iI (x_given + 1))) (ty := .int) (C := RX8) (T := TX8) (N := 42) hx hb hts hiX8 tyX8 tyX8_ok nmX8 hown hK hP hD hSz 0 rfl rfl 7 (by decide) hf102 (fun _ h9 => h9) rfl (by decide +kernel) rfl rfl (Nat.le_of_ble_eq_true rfl) dX8_addKeyword_153 (fun Hz lz hP hD hSz => ?_)
              have hP : va_P D vwCl (wM cI cZ cJ ad 0 0 (x_given + 1) x_isFolding x_work x_rebuilt x_streamed x_reports x_gapFrom x_gapSize x_elements x_wholeSize x_isLaid x_takenMany a_buffer (upA a_length x_given pz1) ez7 (upA a_weight x_given pz2) (upA a_live x_given 1) a_size a_list a_moved a_planned a_stream a_reportedEnd a_reportedKeyword a_starts a_keywordAt a_element a_long1 a_head a_tail a_next a_skip a_last a_whole a_edges a_covers a_weighs a_numbers a_takes a_takenAt) Hz := hP
              have hD : va_D Az (wM cI cZ cJ ad 0 0 (x_given + 1) x_isFolding x_work x_rebuilt x_streamed x_reports x_gapFrom x_gapSize x_elements x_wholeSize x_isLaid x_takenMany a_buffer (upA a_length x_given pz1) ez7 (upA a_weight x_given pz2) (upA a_live x_given 1) a_size a_list a_moved a_planned a_stream a_reportedEnd a_reportedKeyword a_starts a_keywordAt a_element a_long1 a_head a_tail a_next a_skip a_last a_whole a_edges a_covers a_weighs a_numbers a_takes a_takenAt) := hD
              refine lv_aload_n hx hb dX8_addKeyword_156 rfl (lv_at hl 0 rfl) ?_
              refine k_iconst (n := 0) hx hb dX8_addKeyword_157 ?_
              refine va_put (ci := 8) (v := .int (iI 0)) (ty := .boolean) (C := RX8) (T := TX8) (N := 42) hx hb hts hiX8 tyX8 tyX8_ok nmX8 hown hK hP hD hSz 0 rfl rfl 34 (by decide) hf154 (fun _ h9 => h9) rfl (by decide +kernel) (narZ (by decide)) rfl (Nat.le_of_ble_eq_true rfl) dX8_addKeyword_158 (fun Hz lz hP hD hSz => ?_)
              have hP : va_P D vwCl (wM cI cZ cJ ad 0 0 (x_given + 1) x_isFolding x_work x_rebuilt x_streamed x_reports x_gapFrom x_gapSize x_elements x_wholeSize 0 x_takenMany a_buffer (upA a_length x_given pz1) ez7 (upA a_weight x_given pz2) (upA a_live x_given 1) a_size a_list a_moved a_planned a_stream a_reportedEnd a_reportedKeyword a_starts a_keywordAt a_element a_long1 a_head a_tail a_next a_skip a_last a_whole a_edges a_covers a_weighs a_numbers a_takes a_takenAt) Hz := hP
              have hD : va_D Az (wM cI cZ cJ ad 0 0 (x_given + 1) x_isFolding x_work x_rebuilt x_streamed x_reports x_gapFrom x_gapSize x_elements x_wholeSize 0 x_takenMany a_buffer (upA a_length x_given pz1) ez7 (upA a_weight x_given pz2) (upA a_live x_given 1) a_size a_list a_moved a_planned a_stream a_reportedEnd a_reportedKeyword a_starts a_keywordAt a_element a_long1 a_head a_tail a_next a_skip a_last a_whole a_edges a_covers a_weighs a_numbers a_takes a_takenAt) := hD
              refine lv_aload_n hx hb dX8_addKeyword_161 rfl (lv_at hl 0 rfl) ?_
              refine k_iconst (n := 0) hx hb dX8_addKeyword_162 ?_
              refine lv_aload_n hx hb dX8_addKeyword_163 rfl (lv_at hl 0 rfl) ?_
              refine va_get (ci := 8) (v := .int (iI (x_given + 1))) (C := RX8) (T := TX8) (N := 42) hx hb hts hiX8 hown hK hP 0 rfl rfl 7 (by decide) hf102 (fun _ h9 => h9) rfl dX8_addKeyword_164 ?_
              refine k_iconst (n := 1) hx hb dX8_addKeyword_167 ?_
              refine k_isub hx hb dX8_addKeyword_168 ?_
              obtain ⟨vz8, vz9, vz10, vz11, hcz, hs⟩ := bd4_some hs
              refine k_wVs (As := [.int (iI 0), .int (iI ((x_given + 1) - 1))]) (rest := []) (st1 := []) (w1 := (wM cI cZ cJ ad 0 0 (x_given + 1) x_isFolding vz8 x_rebuilt x_streamed x_reports x_gapFrom x_gapSize x_elements x_wholeSize 0 x_takenMany a_buffer (upA a_length x_given pz1) ez7 (upA a_weight x_given pz2) (upA a_live x_given 1) vz9 vz10 vz11 a_planned a_stream a_reportedEnd a_reportedKeyword a_starts a_keywordAt a_element a_long1 a_head a_tail a_next a_skip a_last a_whole a_edges a_covers a_weighs a_numbers a_takes a_takenAt)) ⟨hx, hb, hml, hown, hts⟩ hK hP hD hSz hA (c_X8_inserts l D cI cZ cJ hcz) (cwV 2 hts gX8_addKeyword_X8_inserts rfl rfl rfl (by decide +kernel) ⟨Nat.le_of_ble_eq_true rfl, Nat.le_of_ble_eq_true rfl⟩) 0 rfl rfl rfl rfl rfl hl.1 rfl (lv_room (Nat.le_of_ble_eq_true rfl)) dX8_addKeyword_169 ⟨Nat.zero_le _, Nat.zero_le _⟩ rfl (fun Hz lz hP hD hSz => ?_)
              have hP : va_P D vwCl (wM cI cZ cJ ad 0 0 (x_given + 1) x_isFolding vz8 x_rebuilt x_streamed x_reports x_gapFrom x_gapSize x_elements x_wholeSize 0 x_takenMany a_buffer (upA a_length x_given pz1) ez7 (upA a_weight x_given pz2) (upA a_live x_given 1) vz9 vz10 vz11 a_planned a_stream a_reportedEnd a_reportedKeyword a_starts a_keywordAt a_element a_long1 a_head a_tail a_next a_skip a_last a_whole a_edges a_covers a_weighs a_numbers a_takes a_takenAt) Hz := hP
              have hD : va_D Az (wM cI cZ cJ ad 0 0 (x_given + 1) x_isFolding vz8 x_rebuilt x_streamed x_reports x_gapFrom x_gapSize x_elements x_wholeSize 0 x_takenMany a_buffer (upA a_length x_given pz1) ez7 (upA a_weight x_given pz2) (upA a_live x_given 1) vz9 vz10 vz11 a_planned a_stream a_reportedEnd a_reportedKeyword a_starts a_keywordAt a_element a_long1 a_head a_tail a_next a_skip a_last a_whole a_edges a_covers a_weighs a_numbers a_takes a_takenAt) := hD
              refine lv_aload_n hx hb dX8_addKeyword_172 rfl (lv_at hl 0 rfl) ?_
              refine va_get (ci := 8) (v := .int (iI (x_given + 1))) (C := RX8) (T := TX8) (N := 42) hx hb hts hiX8 hown hK hP 0 rfl rfl 7 (by decide) hf102 (fun _ h9 => h9) rfl dX8_addKeyword_173 ?_
              refine k_iconst (n := 1) hx hb dX8_addKeyword_176 ?_
              refine k_isub hx hb dX8_addKeyword_177 ?_
              cases hs
              exact k_iret_w hx hb hr hlk (by rw [hw1]; exact hP) hSz dX8_addKeyword_178 rfl
        · refine k_bipush (n := (-5)) hx hb (by decide) dX8_addKeyword_59 ?_
          cases hs
          exact k_iret_w hx hb hr hlk (by rw [hw1]; exact hP) hSz dX8_addKeyword_61 rfl
