/-! X8_joins -/
set_option maxHeartbeats 4000000 in
set_option maxRecDepth 100000 in
theorem c_X8_joins (l : Launch) (D : va_G) (cI cZ cJ : ClassId) {ad : Nat → Nat} {x_thrown : Int} {x_buffered : Int} {x_given : Int} {x_isFolding : Int} {x_work : Int} {x_rebuilt : Int} {x_streamed : Int} {x_reports : Int} {x_gapFrom : Int} {x_gapSize : Int} {x_elements : Int} {x_wholeSize : Int} {x_isLaid : Int} {x_takenMany : Int} {a_buffer : (Int → Int)} {a_length : (Int → Int)} {a_bytes : (Int → Int)} {a_weight : (Int → Int)} {a_live : (Int → Int)} {a_size : (Int → Int)} {a_list : (Int → Int)} {a_moved : (Int → Int)} {a_planned : (Int → Int)} {a_stream : (Int → Int)} {a_reportedEnd : (Int → Int)} {a_reportedKeyword : (Int → Int)} {a_starts : (Int → Int)} {a_keywordAt : (Int → Int)} {a_element : (Int → Int)} {a_long1 : (Int → Int)} {a_head : (Int → Int)} {a_tail : (Int → Int)} {a_next : (Int → Int)} {a_skip : (Int → Int)} {a_last : (Int → Int)} {a_whole : (Int → Int)} {a_edges : (Int → Int)} {a_covers : (Int → Int)} {a_weighs : (Int → Int)} {a_numbers : (Int → Int)} {a_takes : (Int → Int)} {a_takenAt : (Int → Int)} {pz1 : Int} {pz2 : Int} {pz3 : Int} {y_a_long1 : (Int → Int)} {y_a_head : (Int → Int)} {y_a_tail : (Int → Int)} {y_a_next : (Int → Int)} {y_a_skip : (Int → Int)} {y_a_last : (Int → Int)} {y_a_edges : (Int → Int)} {sz : Nat} (hs : s_X8_joins a_long1 a_head a_tail a_next a_skip a_last a_edges pz1 pz2 pz3 = some (y_a_long1, y_a_head, y_a_tail, y_a_next, y_a_skip, y_a_last, y_a_edges)) : Met l yX8_joins wsX8_joins rm_X8_joins (PW D vwCl [(cI, .int), (cZ, .boolean), (cJ, .long)] [.ref (ad 0), .int (iI pz1), .int (iI pz2), .int (iI pz3)] (wM cI cZ cJ ad x_thrown x_buffered x_given x_isFolding x_work x_rebuilt x_streamed x_reports x_gapFrom x_gapSize x_elements x_wholeSize x_isLaid x_takenMany a_buffer a_length a_bytes a_weight a_live a_size a_list a_moved a_planned a_stream a_reportedEnd a_reportedKeyword a_starts a_keywordAt a_element a_long1 a_head a_tail a_next a_skip a_last a_whole a_edges a_covers a_weighs a_numbers a_takes a_takenAt) sz) (QW D vwCl none (wM cI cZ cJ ad x_thrown x_buffered x_given x_isFolding x_work x_rebuilt x_streamed x_reports x_gapFrom x_gapSize x_elements x_wholeSize x_isLaid x_takenMany a_buffer a_length a_bytes a_weight a_live a_size a_list a_moved a_planned a_stream a_reportedEnd a_reportedKeyword a_starts a_keywordAt a_element y_a_long1 y_a_head y_a_tail y_a_next y_a_skip y_a_last a_whole y_a_edges a_covers a_weighs a_numbers a_takes a_takenAt) (va_A (wM cI cZ cJ ad x_thrown x_buffered x_given x_isFolding x_work x_rebuilt x_streamed x_reports x_gapFrom x_gapSize x_elements x_wholeSize x_isLaid x_takenMany a_buffer a_length a_bytes a_weight a_live a_size a_list a_moved a_planned a_stream a_reportedEnd a_reportedKeyword a_starts a_keywordAt a_element a_long1 a_head a_tail a_next a_skip a_last a_whole a_edges a_covers a_weighs a_numbers a_takes a_takenAt) sz)) 0 0 (va_A (wM cI cZ cJ ad x_thrown x_buffered x_given x_isFolding x_work x_rebuilt x_streamed x_reports x_gapFrom x_gapSize x_elements x_wholeSize x_isLaid x_takenMany a_buffer a_length a_bytes a_weight a_live a_size a_list a_moved a_planned a_stream a_reportedEnd a_reportedKeyword a_starts a_keywordAt a_element a_long1 a_head a_tail a_next a_skip a_last a_whole a_edges a_covers a_weighs a_numbers a_takes a_takenAt) sz) := by
  refine Met.ofW (cc := cX8_joins) (maxL := 10) (ret := none) (by decide) rfl ?_
  intro p e s m args below meth c s₁ B hml hv
  obtain ⟨hav, hsz, hP, hK, hD0⟩ := hv
  have hx := B.exec
  have hb := B.bytes
  have hr := B.returns
  have hts := atoms_spec (ws := wsX8_joins) B.pre
  have hown : s.vm.findClass RX8 = some m.cls := findClass_of_methodNamed B.named
  have hlk := B.notSynchronized
  have hf60 : (Cond.fieldLink RX8 60 "KeywordMatcherModel" "long1" "[I").before args s = true := hts _ (List.mem_of_getElem? (i := 1) rfl)
  have hiX8 : ∀ w ∈ wsX80, w ∈ wsX8_joins := fun w h => List.mem_cons_of_mem _ (List.mem_append_right _ h)
  have hf63 : (Cond.fieldLink RX8 63 "KeywordMatcherModel" "head" "[I").before args s = true := hts _ (List.mem_of_getElem? (i := 2) rfl)
  have hf81 : (Cond.fieldLink RX8 81 "KeywordMatcherModel" "edges" "[I").before args s = true := hts _ (List.mem_of_getElem? (i := 3) rfl)
  have hf66 : (Cond.fieldLink RX8 66 "KeywordMatcherModel" "tail" "[I").before args s = true := hts _ (List.mem_of_getElem? (i := 4) rfl)
  have hf69 : (Cond.fieldLink RX8 69 "KeywordMatcherModel" "next" "[I").before args s = true := hts _ (List.mem_of_getElem? (i := 5) rfl)
  have hf75 : (Cond.fieldLink RX8 75 "KeywordMatcherModel" "last" "[I").before args s = true := hts _ (List.mem_of_getElem? (i := 6) rfl)
  have hf72 : (Cond.fieldLink RX8 72 "KeywordMatcherModel" "skip" "[I").before args s = true := hts _ (List.mem_of_getElem? (i := 7) rfl)
  subst hsz
  have hD := hD0.self (sz := s.heap.size)
  generalize hAe : va_A (wM cI cZ cJ ad x_thrown x_buffered x_given x_isFolding x_work x_rebuilt x_streamed x_reports x_gapFrom x_gapSize x_elements x_wholeSize x_isLaid x_takenMany a_buffer a_length a_bytes a_weight a_live a_size a_list a_moved a_planned a_stream a_reportedEnd a_reportedKeyword a_starts a_keywordAt a_element a_long1 a_head a_tail a_next a_skip a_last a_whole a_edges a_covers a_weighs a_numbers a_takes a_takenAt) s.heap.size = Az at hD ⊢
  have hA : ∀ q : Nat, s.heap.size ≤ q → Az q := fun q h => by rw [← hAe]; exact Or.inr h
  clear hAe
  have hSz : va_S Az s.heap s.heap [] := va_S.rf
  obtain ⟨wz, hw1⟩ : ∃ z : va_W, z = (wM cI cZ cJ ad x_thrown x_buffered x_given x_isFolding x_work x_rebuilt x_streamed x_reports x_gapFrom x_gapSize x_elements x_wholeSize x_isLaid x_takenMany a_buffer a_length a_bytes a_weight a_live a_size a_list a_moved a_planned a_stream a_reportedEnd a_reportedKeyword a_starts a_keywordAt a_element y_a_long1 y_a_head y_a_tail y_a_next y_a_skip y_a_last a_whole y_a_edges a_covers a_weighs a_numbers a_takes a_takenAt) := ⟨_, rfl⟩
  rw [← hw1]
  have hl := lv_entry ([.ref (ad 0), .int (iI pz1), .int (iI pz2), .int (iI pz3)]) (n := 10) (Nat.le_of_ble_eq_true rfl)
  rw [show entryFrame m args 10 = entryFrame m ([.ref (ad 0), .int (iI pz1), .int (iI pz2), .int (iI pz3)] : List Value).toArray 10 from by rw [hav], lg_entry_eq]
  generalize (lg_sl ([.ref (ad 0), .int (iI pz1), .int (iI pz2), .int (iI pz3)]) ++ List.replicate (10 - (lg_sl ([.ref (ad 0), .int (iI pz1), .int (iI pz2), .int (iI pz3)])).length) Slot.unset).toArray = ls at hl ⊢
  have hl : lv_has ls 10 [(0, .ref (ad 0)), (1, .int (iI pz1)), (2, .int (iI pz2)), (3, .int (iI pz3))] := hl
  unfold s_X8_joins at hs
  have Lz18 : ∀ (fu : Nat) (a_long1 : (Int → Int)) (a_head : (Int → Int)) (a_tail : (Int → Int)) (a_next : (Int → Int)) (a_skip : (Int → Int)) (a_last : (Int → Int)) (a_edges : (Int → Int)) (l1 : Int) (l2 : Int) (l3 : Int) (l4 : Int) (l5 : Int) (l6 : Int) (y0 : (Int → Int)), s_X8_joins_18 fu a_long1 a_head l1 l2 l3 l4 l5 l6 = some y0 → ∀ (Hz : Heap) (lz : List Loc), va_P D vwCl (wM cI cZ cJ ad x_thrown x_buffered x_given x_isFolding x_work x_rebuilt x_streamed x_reports x_gapFrom x_gapSize x_elements x_wholeSize x_isLaid x_takenMany a_buffer a_length a_bytes a_weight a_live a_size a_list a_moved a_planned a_stream a_reportedEnd a_reportedKeyword a_starts a_keywordAt a_element a_long1 a_head a_tail a_next a_skip a_last a_whole a_edges a_covers a_weighs a_numbers a_takes a_takenAt) Hz → va_D Az (wM cI cZ cJ ad x_thrown x_buffered x_given x_isFolding x_work x_rebuilt x_streamed x_reports x_gapFrom x_gapSize x_elements x_wholeSize x_isLaid x_takenMany a_buffer a_length a_bytes a_weight a_live a_size a_list a_moved a_planned a_stream a_reportedEnd a_reportedKeyword a_starts a_keywordAt a_element a_long1 a_head a_tail a_next a_skip a_last a_whole a_edges a_covers a_weighs a_numbers a_takes a_takenAt) → va_S Az s.heap Hz lz → ∀ ls : Array Slot, lv_has ls 10 [(0, .ref (ad 0)), (1, .int (iI l1)), (2, .int (iI l2)), (3, .int (iI l3)), (4, .int (iI l4)), (5, .int (iI l5)), (6, .int (iI l6))] → (∀ (Hz : Heap) (lz : List Loc), va_P D vwCl (wM cI cZ cJ ad x_thrown x_buffered x_given x_isFolding x_work x_rebuilt x_streamed x_reports x_gapFrom x_gapSize x_elements x_wholeSize x_isLaid x_takenMany a_buffer a_length a_bytes a_weight a_live a_size a_list a_moved a_planned a_stream a_reportedEnd a_reportedKeyword a_starts a_keywordAt a_element a_long1 y0 a_tail a_next a_skip a_last a_whole a_edges a_covers a_weighs a_numbers a_takes a_takenAt) Hz → va_D Az (wM cI cZ cJ ad x_thrown x_buffered x_given x_isFolding x_work x_rebuilt x_streamed x_reports x_gapFrom x_gapSize x_elements x_wholeSize x_isLaid x_takenMany a_buffer a_length a_bytes a_weight a_live a_size a_list a_moved a_planned a_stream a_reportedEnd a_reportedKeyword a_starts a_keywordAt a_element a_long1 y0 a_tail a_next a_skip a_last a_whole a_edges a_covers a_weighs a_numbers a_takes a_takenAt) → va_S Az s.heap Hz lz → ∀ ls : Array Slot, lv_has ls 10 [(0, .ref (ad 0)), (1, .int (iI l1)), (2, .int (iI l2)), (3, .int (iI l3)), (4, .int (iI l4)), (5, .int (iI l5))] → W p l e (headSpec wsX8_joins rm_X8_joins).room s m args below meth c Hz lz 0 0 (MQ below (QW D vwCl none wz Az) args s 0 0 Az) (F0 m 83 ls [])) → W p l e (headSpec wsX8_joins rm_X8_joins).room s m args below meth c Hz lz 0 0 (MQ below (QW D vwCl none wz Az) args s 0 0 Az) (F0 m 18 ls []) := by
    intro fu
    induction fu with
    | zero => intro a_long1 a_head a_tail a_next a_skip a_last a_edges l1 l2 l3 l4 l5 l6 y0 hs; cases hs
    | succ fu ih =>
      intro a_long1 a_head a_tail a_next a_skip a_last a_edges l1 l2 l3 l4 l5 l6 y0 hs Hz lz hP hD hSz ls hl kx
      rw [s_X8_joins_18_s] at hs
      refine lv_iload hx hb dX8_joins_18 (lv_at hl 6 rfl) ?_
      refine k_bipush (n := 15) hx hb (by decide) dX8_joins_20 ?_
      refine k_icmp_ge (tgt := 83) hx hb hs dX8_joins_22 (by decide) (fun hs => ?_) (fun hs => ?_)
      · refine lv_iload hx hb dX8_joins_25 (lv_at hl 6 rfl) ?_
        refine lv_iload hx hb dX8_joins_27 (lv_at hl 4 rfl) ?_
        refine k_isub hx hb dX8_joins_29 ?_
        refine lv_iload_n hx hb dX8_joins_30 rfl (lv_at hl 3 rfl) ?_
        refine k_iadd hx hb dX8_joins_31 ?_
        refine lv_iload hx hb dX8_joins_32 (lv_at hl 5 rfl) ?_
        refine k_icmp_ge (tgt := 83) hx hb hs dX8_joins_34 (by decide) (fun hs => ?_) (fun hs => ?_)
        · refine lv_aload_n hx hb dX8_joins_37 rfl (lv_at hl 0 rfl) ?_
          refine va_get (ci := 8) (v := .ref (ad 16)) (C := RX8) (T := TX8) (N := 42) hx hb hts hiX8 hown hK hP 0 rfl rfl 25 (by decide) hf60 (fun _ h9 => h9) rfl dX8_joins_38 ?_
          refine lv_iload_n hx hb dX8_joins_41 rfl (lv_at hl 1 rfl) ?_
          refine k_iald hx hb hK hP 16 0 rfl rfl (Nat.le_of_ble_eq_true rfl) hs dX8_joins_42 (fun vz3 hs => ?_)
          refine k_bipush (n := 15) hx hb (by decide) dX8_joins_43 ?_
          refine k_icmp_ge (tgt := 83) hx hb hs dX8_joins_45 (by decide) (fun hs => ?_) (fun hs => ?_)
          · refine lv_aload_n hx hb dX8_joins_48 rfl (lv_at hl 0 rfl) ?_
            refine va_get (ci := 8) (v := .ref (ad 17)) (C := RX8) (T := TX8) (N := 42) hx hb hts hiX8 hown hK hP 0 rfl rfl 26 (by decide) hf63 (fun _ h9 => h9) rfl dX8_joins_49 ?_
            refine k_bipush (n := 15) hx hb (by decide) dX8_joins_52 ?_
            refine lv_iload_n hx hb dX8_joins_54 rfl (lv_at hl 1 rfl) ?_
            refine k_imul hx hb dX8_joins_55 ?_
            refine lv_iload hx hb dX8_joins_56 (lv_at hl 6 rfl) ?_
            refine k_iadd hx hb dX8_joins_58 ?_
            refine lv_aload_n hx hb dX8_joins_59 rfl (lv_at hl 0 rfl) ?_
            refine va_get (ci := 8) (v := .ref (ad 17)) (C := RX8) (T := TX8) (N := 42) hx hb hts hiX8 hown hK hP 0 rfl rfl 26 (by decide) hf63 (fun _ h9 => h9) rfl dX8_joins_60 ?_
            refine k_bipush (n := 15) hx hb (by decide) dX8_joins_63 ?_
            refine lv_iload_n hx hb dX8_joins_65 rfl (lv_at hl 2 rfl) ?_
            refine k_imul hx hb dX8_joins_66 ?_
            refine lv_iload hx hb dX8_joins_67 (lv_at hl 6 rfl) ?_
            refine k_iadd hx hb dX8_joins_69 ?_
            refine lv_iload hx hb dX8_joins_70 (lv_at hl 4 rfl) ?_
            refine k_isub hx hb dX8_joins_72 ?_
            refine lv_iload_n hx hb dX8_joins_73 rfl (lv_at hl 3 rfl) ?_
            refine k_iadd hx hb dX8_joins_74 ?_
            refine k_iald hx hb hK hP 17 0 rfl rfl (Nat.le_of_ble_eq_true rfl) hs dX8_joins_75 (fun vz4 hs => ?_)
            refine k_iast hx hb hK hP hD hSz 17 0 rfl rfl (Nat.le_of_ble_eq_true rfl) hs dX8_joins_76 (fun Hz lz hP hD hSz hs => ?_)
            have hP : va_P D vwCl (wM cI cZ cJ ad x_thrown x_buffered x_given x_isFolding x_work x_rebuilt x_streamed x_reports x_gapFrom x_gapSize x_elements x_wholeSize x_isLaid x_takenMany a_buffer a_length a_bytes a_weight a_live a_size a_list a_moved a_planned a_stream a_reportedEnd a_reportedKeyword a_starts a_keywordAt a_element a_long1 (upA a_head ((15 * l1) + l6) vz4) a_tail a_next a_skip a_last a_whole a_edges a_covers a_weighs a_numbers a_takes a_takenAt) Hz := hP
            have hD : va_D Az (wM cI cZ cJ ad x_thrown x_buffered x_given x_isFolding x_work x_rebuilt x_streamed x_reports x_gapFrom x_gapSize x_elements x_wholeSize x_isLaid x_takenMany a_buffer a_length a_bytes a_weight a_live a_size a_list a_moved a_planned a_stream a_reportedEnd a_reportedKeyword a_starts a_keywordAt a_element a_long1 (upA a_head ((15 * l1) + l6) vz4) a_tail a_next a_skip a_last a_whole a_edges a_covers a_weighs a_numbers a_takes a_takenAt) := hD
            refine k_iinc (x := l6) (k := 6) (lv' := [(6, .int (iI (l6 + 1))), (0, .ref (ad 0)), (1, .int (iI l1)), (2, .int (iI l2)), (3, .int (iI l3)), (4, .int (iI l4)), (5, .int (iI l5))]) hx hb dX8_joins_77 hl rfl (by decide) rfl (fun ls hl => ?_)
            refine lv_goto (tgt := 18) hx hb dX8_joins_80 (by decide) ?_
            exact ih a_long1 (upA a_head ((15 * l1) + l6) vz4) a_tail a_next a_skip a_last a_edges l1 l2 l3 l4 l5 (l6 + 1) y0 hs Hz lz hP hD hSz ls (lv_sub hl [1, 2, 3, 4, 5, 6, 0] rfl) kx
          · cases hs
            exact kx Hz lz hP hD hSz ls (lv_sub hl [0, 1, 2, 3, 4, 5] rfl)
        · cases hs
          exact kx Hz lz hP hD hSz ls (lv_sub hl [0, 1, 2, 3, 4, 5] rfl)
      · cases hs
        exact kx Hz lz hP hD hSz ls (lv_sub hl [0, 1, 2, 3, 4, 5] rfl)
  have Lz112 : ∀ (fu : Nat) (a_long1 : (Int → Int)) (a_head : (Int → Int)) (a_tail : (Int → Int)) (a_next : (Int → Int)) (a_skip : (Int → Int)) (a_last : (Int → Int)) (a_edges : (Int → Int)) (l1 : Int) (l2 : Int) (l3 : Int) (l4 : Int) (l5 : Int) (l6 : Int) (l7 : Int) (l8 : Int) (y0 : (Int → Int)), s_X8_joins_112 fu a_tail a_edges l1 l2 l3 l4 l5 l6 l7 l8 = some y0 → ∀ (Hz : Heap) (lz : List Loc), va_P D vwCl (wM cI cZ cJ ad x_thrown x_buffered x_given x_isFolding x_work x_rebuilt x_streamed x_reports x_gapFrom x_gapSize x_elements x_wholeSize x_isLaid x_takenMany a_buffer a_length a_bytes a_weight a_live a_size a_list a_moved a_planned a_stream a_reportedEnd a_reportedKeyword a_starts a_keywordAt a_element a_long1 a_head a_tail a_next a_skip a_last a_whole a_edges a_covers a_weighs a_numbers a_takes a_takenAt) Hz → va_D Az (wM cI cZ cJ ad x_thrown x_buffered x_given x_isFolding x_work x_rebuilt x_streamed x_reports x_gapFrom x_gapSize x_elements x_wholeSize x_isLaid x_takenMany a_buffer a_length a_bytes a_weight a_live a_size a_list a_moved a_planned a_stream a_reportedEnd a_reportedKeyword a_starts a_keywordAt a_element a_long1 a_head a_tail a_next a_skip a_last a_whole a_edges a_covers a_weighs a_numbers a_takes a_takenAt) → va_S Az s.heap Hz lz → ∀ ls : Array Slot, lv_has ls 10 [(0, .ref (ad 0)), (1, .int (iI l1)), (2, .int (iI l2)), (3, .int (iI l3)), (4, .int (iI l4)), (5, .int (iI l5)), (6, .int (iI l6)), (7, .int (iI l7)), (8, .int (iI l8))] → (∀ (Hz : Heap) (lz : List Loc), va_P D vwCl (wM cI cZ cJ ad x_thrown x_buffered x_given x_isFolding x_work x_rebuilt x_streamed x_reports x_gapFrom x_gapSize x_elements x_wholeSize x_isLaid x_takenMany a_buffer a_length a_bytes a_weight a_live a_size a_list a_moved a_planned a_stream a_reportedEnd a_reportedKeyword a_starts a_keywordAt a_element a_long1 a_head a_tail a_next a_skip a_last a_whole y0 a_covers a_weighs a_numbers a_takes a_takenAt) Hz → va_D Az (wM cI cZ cJ ad x_thrown x_buffered x_given x_isFolding x_work x_rebuilt x_streamed x_reports x_gapFrom x_gapSize x_elements x_wholeSize x_isLaid x_takenMany a_buffer a_length a_bytes a_weight a_live a_size a_list a_moved a_planned a_stream a_reportedEnd a_reportedKeyword a_starts a_keywordAt a_element a_long1 a_head a_tail a_next a_skip a_last a_whole y0 a_covers a_weighs a_numbers a_takes a_takenAt) → va_S Az s.heap Hz lz → ∀ ls : Array Slot, lv_has ls 10 [(0, .ref (ad 0)), (1, .int (iI l1)), (2, .int (iI l2)), (3, .int (iI l3)), (4, .int (iI l4)), (5, .int (iI l5)), (6, .int (iI l6)), (7, .int (iI l7))] → W p l e (headSpec wsX8_joins rm_X8_joins).room s m args below meth c Hz lz 0 0 (MQ below (QW D vwCl none wz Az) args s 0 0 Az) (F0 m 144 ls [])) → W p l e (headSpec wsX8_joins rm_X8_joins).room s m args below meth c Hz lz 0 0 (MQ below (QW D vwCl none wz Az) args s 0 0 Az) (F0 m 112 ls []) := by
    intro fu
    induction fu with
    | zero => intro a_long1 a_head a_tail a_next a_skip a_last a_edges l1 l2 l3 l4 l5 l6 l7 l8 y0 hs; cases hs
    | succ fu ih =>
      intro a_long1 a_head a_tail a_next a_skip a_last a_edges l1 l2 l3 l4 l5 l6 l7 l8 y0 hs Hz lz hP hD hSz ls hl kx
      rw [s_X8_joins_112_s] at hs
      refine lv_iload hx hb dX8_joins_112 (lv_at hl 8 rfl) ?_
      refine lv_iload hx hb dX8_joins_114 (lv_at hl 4 rfl) ?_
      refine k_icmp_ge (tgt := 144) hx hb hs dX8_joins_116 (by decide) (fun hs => ?_) (fun hs => ?_)
      · refine lv_aload_n hx hb dX8_joins_119 rfl (lv_at hl 0 rfl) ?_
        refine va_get (ci := 8) (v := .ref (ad 23)) (C := RX8) (T := TX8) (N := 42) hx hb hts hiX8 hown hK hP 0 rfl rfl 35 (by decide) hf81 (fun _ h9 => h9) rfl dX8_joins_120 ?_
        refine lv_iload hx hb dX8_joins_123 (lv_at hl 8 rfl) ?_
        refine lv_aload_n hx hb dX8_joins_125 rfl (lv_at hl 0 rfl) ?_
        refine va_get (ci := 8) (v := .ref (ad 18)) (C := RX8) (T := TX8) (N := 42) hx hb hts hiX8 hown hK hP 0 rfl rfl 27 (by decide) hf66 (fun _ h9 => h9) rfl dX8_joins_126 ?_
        refine k_bipush (n := 15) hx hb (by decide) dX8_joins_129 ?_
        refine lv_iload_n hx hb dX8_joins_131 rfl (lv_at hl 1 rfl) ?_
        refine k_imul hx hb dX8_joins_132 ?_
        refine lv_iload hx hb dX8_joins_133 (lv_at hl 8 rfl) ?_
        refine k_iadd hx hb dX8_joins_135 ?_
        refine k_iald hx hb hK hP 18 0 rfl rfl (Nat.le_of_ble_eq_true rfl) hs dX8_joins_136 (fun vz7 hs => ?_)
        refine k_iast hx hb hK hP hD hSz 23 0 rfl rfl (Nat.le_of_ble_eq_true rfl) hs dX8_joins_137 (fun Hz lz hP hD hSz hs => ?_)
        have hP : va_P D vwCl (wM cI cZ cJ ad x_thrown x_buffered x_given x_isFolding x_work x_rebuilt x_streamed x_reports x_gapFrom x_gapSize x_elements x_wholeSize x_isLaid x_takenMany a_buffer a_length a_bytes a_weight a_live a_size a_list a_moved a_planned a_stream a_reportedEnd a_reportedKeyword a_starts a_keywordAt a_element a_long1 a_head a_tail a_next a_skip a_last a_whole (upA a_edges l8 vz7) a_covers a_weighs a_numbers a_takes a_takenAt) Hz := hP
        have hD : va_D Az (wM cI cZ cJ ad x_thrown x_buffered x_given x_isFolding x_work x_rebuilt x_streamed x_reports x_gapFrom x_gapSize x_elements x_wholeSize x_isLaid x_takenMany a_buffer a_length a_bytes a_weight a_live a_size a_list a_moved a_planned a_stream a_reportedEnd a_reportedKeyword a_starts a_keywordAt a_element a_long1 a_head a_tail a_next a_skip a_last a_whole (upA a_edges l8 vz7) a_covers a_weighs a_numbers a_takes a_takenAt) := hD
        refine k_iinc (x := l8) (k := 8) (lv' := [(8, .int (iI (l8 + 1))), (0, .ref (ad 0)), (1, .int (iI l1)), (2, .int (iI l2)), (3, .int (iI l3)), (4, .int (iI l4)), (5, .int (iI l5)), (6, .int (iI l6)), (7, .int (iI l7))]) hx hb dX8_joins_138 hl rfl (by decide) rfl (fun ls hl => ?_)
        refine lv_goto (tgt := 112) hx hb dX8_joins_141 (by decide) ?_
        exact ih a_long1 a_head a_tail a_next a_skip a_last (upA a_edges l8 vz7) l1 l2 l3 l4 l5 l6 l7 (l8 + 1) y0 hs Hz lz hP hD hSz ls (lv_sub hl [1, 2, 3, 4, 5, 6, 7, 8, 0] rfl) kx
      · cases hs
        exact kx Hz lz hP hD hSz ls (lv_sub hl [0, 1, 2, 3, 4, 5, 6, 7] rfl)
  have Lz147 : ∀ (fu : Nat) (a_long1 : (Int → Int)) (a_head : (Int → Int)) (a_tail : (Int → Int)) (a_next : (Int → Int)) (a_skip : (Int → Int)) (a_last : (Int → Int)) (a_edges : (Int → Int)) (l1 : Int) (l2 : Int) (l3 : Int) (l4 : Int) (l5 : Int) (l6 : Int) (l7 : Int) (l8 : Int) (y0 : (Int → Int)), s_X8_joins_147 fu a_tail a_edges l1 l2 l3 l4 l5 l6 l7 l8 = some y0 → ∀ (Hz : Heap) (lz : List Loc), va_P D vwCl (wM cI cZ cJ ad x_thrown x_buffered x_given x_isFolding x_work x_rebuilt x_streamed x_reports x_gapFrom x_gapSize x_elements x_wholeSize x_isLaid x_takenMany a_buffer a_length a_bytes a_weight a_live a_size a_list a_moved a_planned a_stream a_reportedEnd a_reportedKeyword a_starts a_keywordAt a_element a_long1 a_head a_tail a_next a_skip a_last a_whole a_edges a_covers a_weighs a_numbers a_takes a_takenAt) Hz → va_D Az (wM cI cZ cJ ad x_thrown x_buffered x_given x_isFolding x_work x_rebuilt x_streamed x_reports x_gapFrom x_gapSize x_elements x_wholeSize x_isLaid x_takenMany a_buffer a_length a_bytes a_weight a_live a_size a_list a_moved a_planned a_stream a_reportedEnd a_reportedKeyword a_starts a_keywordAt a_element a_long1 a_head a_tail a_next a_skip a_last a_whole a_edges a_covers a_weighs a_numbers a_takes a_takenAt) → va_S Az s.heap Hz lz → ∀ ls : Array Slot, lv_has ls 10 [(0, .ref (ad 0)), (1, .int (iI l1)), (2, .int (iI l2)), (3, .int (iI l3)), (4, .int (iI l4)), (5, .int (iI l5)), (6, .int (iI l6)), (7, .int (iI l7)), (8, .int (iI l8))] → (∀ (Hz : Heap) (lz : List Loc), va_P D vwCl (wM cI cZ cJ ad x_thrown x_buffered x_given x_isFolding x_work x_rebuilt x_streamed x_reports x_gapFrom x_gapSize x_elements x_wholeSize x_isLaid x_takenMany a_buffer a_length a_bytes a_weight a_live a_size a_list a_moved a_planned a_stream a_reportedEnd a_reportedKeyword a_starts a_keywordAt a_element a_long1 a_head a_tail a_next a_skip a_last a_whole y0 a_covers a_weighs a_numbers a_takes a_takenAt) Hz → va_D Az (wM cI cZ cJ ad x_thrown x_buffered x_given x_isFolding x_work x_rebuilt x_streamed x_reports x_gapFrom x_gapSize x_elements x_wholeSize x_isLaid x_takenMany a_buffer a_length a_bytes a_weight a_live a_size a_list a_moved a_planned a_stream a_reportedEnd a_reportedKeyword a_starts a_keywordAt a_element a_long1 a_head a_tail a_next a_skip a_last a_whole y0 a_covers a_weighs a_numbers a_takes a_takenAt) → va_S Az s.heap Hz lz → ∀ ls : Array Slot, lv_has ls 10 [(0, .ref (ad 0)), (1, .int (iI l1)), (2, .int (iI l2)), (3, .int (iI l3)), (4, .int (iI l4)), (6, .int (iI l6)), (7, .int (iI l7))] → W p l e (headSpec wsX8_joins rm_X8_joins).room s m args below meth c Hz lz 0 0 (MQ below (QW D vwCl none wz Az) args s 0 0 Az) (F0 m 188 ls [])) → W p l e (headSpec wsX8_joins rm_X8_joins).room s m args below meth c Hz lz 0 0 (MQ below (QW D vwCl none wz Az) args s 0 0 Az) (F0 m 147 ls []) := by
    intro fu
    induction fu with
    | zero => intro a_long1 a_head a_tail a_next a_skip a_last a_edges l1 l2 l3 l4 l5 l6 l7 l8 y0 hs; cases hs
    | succ fu ih =>
      intro a_long1 a_head a_tail a_next a_skip a_last a_edges l1 l2 l3 l4 l5 l6 l7 l8 y0 hs Hz lz hP hD hSz ls hl kx
      rw [s_X8_joins_147_s] at hs
      refine lv_iload hx hb dX8_joins_147 (lv_at hl 8 rfl) ?_
      refine lv_iload hx hb dX8_joins_149 (lv_at hl 7 rfl) ?_
      refine k_icmp_ge (tgt := 188) hx hb hs dX8_joins_151 (by decide) (fun hs => ?_) (fun hs => ?_)
      · refine lv_aload_n hx hb dX8_joins_154 rfl (lv_at hl 0 rfl) ?_
        refine va_get (ci := 8) (v := .ref (ad 23)) (C := RX8) (T := TX8) (N := 42) hx hb hts hiX8 hown hK hP 0 rfl rfl 35 (by decide) hf81 (fun _ h9 => h9) rfl dX8_joins_155 ?_
        refine lv_iload hx hb dX8_joins_158 (lv_at hl 4 rfl) ?_
        refine lv_iload hx hb dX8_joins_160 (lv_at hl 8 rfl) ?_
        refine k_iadd hx hb dX8_joins_162 ?_
        refine lv_aload_n hx hb dX8_joins_163 rfl (lv_at hl 0 rfl) ?_
        refine va_get (ci := 8) (v := .ref (ad 18)) (C := RX8) (T := TX8) (N := 42) hx hb hts hiX8 hown hK hP 0 rfl rfl 27 (by decide) hf66 (fun _ h9 => h9) rfl dX8_joins_164 ?_
        refine k_bipush (n := 15) hx hb (by decide) dX8_joins_167 ?_
        refine lv_iload_n hx hb dX8_joins_169 rfl (lv_at hl 2 rfl) ?_
        refine k_imul hx hb dX8_joins_170 ?_
        refine lv_iload hx hb dX8_joins_171 (lv_at hl 5 rfl) ?_
        refine k_iadd hx hb dX8_joins_173 ?_
        refine lv_iload hx hb dX8_joins_174 (lv_at hl 7 rfl) ?_
        refine k_isub hx hb dX8_joins_176 ?_
        refine lv_iload hx hb dX8_joins_177 (lv_at hl 8 rfl) ?_
        refine k_iadd hx hb dX8_joins_179 ?_
        refine k_iald hx hb hK hP 18 0 rfl rfl (Nat.le_of_ble_eq_true rfl) hs dX8_joins_180 (fun vz9 hs => ?_)
        refine k_iast hx hb hK hP hD hSz 23 0 rfl rfl (Nat.le_of_ble_eq_true rfl) hs dX8_joins_181 (fun Hz lz hP hD hSz hs => ?_)
        have hP : va_P D vwCl (wM cI cZ cJ ad x_thrown x_buffered x_given x_isFolding x_work x_rebuilt x_streamed x_reports x_gapFrom x_gapSize x_elements x_wholeSize x_isLaid x_takenMany a_buffer a_length a_bytes a_weight a_live a_size a_list a_moved a_planned a_stream a_reportedEnd a_reportedKeyword a_starts a_keywordAt a_element a_long1 a_head a_tail a_next a_skip a_last a_whole (upA a_edges (l4 + l8) vz9) a_covers a_weighs a_numbers a_takes a_takenAt) Hz := hP
        have hD : va_D Az (wM cI cZ cJ ad x_thrown x_buffered x_given x_isFolding x_work x_rebuilt x_streamed x_reports x_gapFrom x_gapSize x_elements x_wholeSize x_isLaid x_takenMany a_buffer a_length a_bytes a_weight a_live a_size a_list a_moved a_planned a_stream a_reportedEnd a_reportedKeyword a_starts a_keywordAt a_element a_long1 a_head a_tail a_next a_skip a_last a_whole (upA a_edges (l4 + l8) vz9) a_covers a_weighs a_numbers a_takes a_takenAt) := hD
        refine k_iinc (x := l8) (k := 8) (lv' := [(8, .int (iI (l8 + 1))), (0, .ref (ad 0)), (1, .int (iI l1)), (2, .int (iI l2)), (3, .int (iI l3)), (4, .int (iI l4)), (5, .int (iI l5)), (6, .int (iI l6)), (7, .int (iI l7))]) hx hb dX8_joins_182 hl rfl (by decide) rfl (fun ls hl => ?_)
        refine lv_goto (tgt := 147) hx hb dX8_joins_185 (by decide) ?_
        exact ih a_long1 a_head a_tail a_next a_skip a_last (upA a_edges (l4 + l8) vz9) l1 l2 l3 l4 l5 l6 l7 (l8 + 1) y0 hs Hz lz hP hD hSz ls (lv_sub hl [1, 2, 3, 4, 5, 6, 7, 8, 0] rfl) kx
      · cases hs
        exact kx Hz lz hP hD hSz ls (lv_sub hl [0, 1, 2, 3, 4, 6, 7] rfl)
  have Lz209 : ∀ (fu : Nat) (a_long1 : (Int → Int)) (a_head : (Int → Int)) (a_tail : (Int → Int)) (a_next : (Int → Int)) (a_skip : (Int → Int)) (a_last : (Int → Int)) (a_edges : (Int → Int)) (l1 : Int) (l2 : Int) (l3 : Int) (l4 : Int) (l7 : Int) (l8 : Int) (l9 : Int) (y0 : (Int → Int)), s_X8_joins_209 fu a_tail a_edges l1 l2 l3 l4 l7 l8 l9 = some y0 → ∀ (Hz : Heap) (lz : List Loc), va_P D vwCl (wM cI cZ cJ ad x_thrown x_buffered x_given x_isFolding x_work x_rebuilt x_streamed x_reports x_gapFrom x_gapSize x_elements x_wholeSize x_isLaid x_takenMany a_buffer a_length a_bytes a_weight a_live a_size a_list a_moved a_planned a_stream a_reportedEnd a_reportedKeyword a_starts a_keywordAt a_element a_long1 a_head a_tail a_next a_skip a_last a_whole a_edges a_covers a_weighs a_numbers a_takes a_takenAt) Hz → va_D Az (wM cI cZ cJ ad x_thrown x_buffered x_given x_isFolding x_work x_rebuilt x_streamed x_reports x_gapFrom x_gapSize x_elements x_wholeSize x_isLaid x_takenMany a_buffer a_length a_bytes a_weight a_live a_size a_list a_moved a_planned a_stream a_reportedEnd a_reportedKeyword a_starts a_keywordAt a_element a_long1 a_head a_tail a_next a_skip a_last a_whole a_edges a_covers a_weighs a_numbers a_takes a_takenAt) → va_S Az s.heap Hz lz → ∀ ls : Array Slot, lv_has ls 10 [(0, .ref (ad 0)), (1, .int (iI l1)), (2, .int (iI l2)), (3, .int (iI l3)), (4, .int (iI l4)), (7, .int (iI l7)), (8, .int (iI l8)), (9, .int (iI l9))] → (∀ (Hz : Heap) (lz : List Loc), va_P D vwCl (wM cI cZ cJ ad x_thrown x_buffered x_given x_isFolding x_work x_rebuilt x_streamed x_reports x_gapFrom x_gapSize x_elements x_wholeSize x_isLaid x_takenMany a_buffer a_length a_bytes a_weight a_live a_size a_list a_moved a_planned a_stream a_reportedEnd a_reportedKeyword a_starts a_keywordAt a_element a_long1 a_head y0 a_next a_skip a_last a_whole a_edges a_covers a_weighs a_numbers a_takes a_takenAt) Hz → va_D Az (wM cI cZ cJ ad x_thrown x_buffered x_given x_isFolding x_work x_rebuilt x_streamed x_reports x_gapFrom x_gapSize x_elements x_wholeSize x_isLaid x_takenMany a_buffer a_length a_bytes a_weight a_live a_size a_list a_moved a_planned a_stream a_reportedEnd a_reportedKeyword a_starts a_keywordAt a_element a_long1 a_head y0 a_next a_skip a_last a_whole a_edges a_covers a_weighs a_numbers a_takes a_takenAt) → va_S Az s.heap Hz lz → ∀ ls : Array Slot, lv_has ls 10 [(0, .ref (ad 0)), (1, .int (iI l1)), (2, .int (iI l2)), (3, .int (iI l3))] → W p l e (headSpec wsX8_joins rm_X8_joins).room s m args below meth c Hz lz 0 0 (MQ below (QW D vwCl none wz Az) args s 0 0 Az) (F0 m 250 ls [])) → W p l e (headSpec wsX8_joins rm_X8_joins).room s m args below meth c Hz lz 0 0 (MQ below (QW D vwCl none wz Az) args s 0 0 Az) (F0 m 209 ls []) := by
    intro fu
    induction fu with
    | zero => intro a_long1 a_head a_tail a_next a_skip a_last a_edges l1 l2 l3 l4 l7 l8 l9 y0 hs; cases hs
    | succ fu ih =>
      intro a_long1 a_head a_tail a_next a_skip a_last a_edges l1 l2 l3 l4 l7 l8 l9 y0 hs Hz lz hP hD hSz ls hl kx
      rw [s_X8_joins_209_s] at hs
      refine lv_iload hx hb dX8_joins_209 (lv_at hl 7 rfl) ?_
      refine lv_iload hx hb dX8_joins_211 (lv_at hl 6 rfl) ?_
      refine k_icmp_ge (tgt := 250) hx hb hs dX8_joins_213 (by decide) (fun hs => ?_) (fun hs => ?_)
      · refine lv_aload_n hx hb dX8_joins_216 rfl (lv_at hl 0 rfl) ?_
        refine va_get (ci := 8) (v := .ref (ad 18)) (C := RX8) (T := TX8) (N := 42) hx hb hts hiX8 hown hK hP 0 rfl rfl 27 (by decide) hf66 (fun _ h9 => h9) rfl dX8_joins_217 ?_
        refine k_bipush (n := 15) hx hb (by decide) dX8_joins_220 ?_
        refine lv_iload_n hx hb dX8_joins_222 rfl (lv_at hl 1 rfl) ?_
        refine k_imul hx hb dX8_joins_223 ?_
        refine lv_iload hx hb dX8_joins_224 (lv_at hl 7 rfl) ?_
        refine k_iadd hx hb dX8_joins_226 ?_
        refine lv_aload_n hx hb dX8_joins_227 rfl (lv_at hl 0 rfl) ?_
        refine va_get (ci := 8) (v := .ref (ad 23)) (C := RX8) (T := TX8) (N := 42) hx hb hts hiX8 hown hK hP 0 rfl rfl 35 (by decide) hf81 (fun _ h9 => h9) rfl dX8_joins_228 ?_
        refine lv_iload hx hb dX8_joins_231 (lv_at hl 4 rfl) ?_
        refine lv_iload hx hb dX8_joins_233 (lv_at hl 5 rfl) ?_
        refine k_iadd hx hb dX8_joins_235 ?_
        refine lv_iload hx hb dX8_joins_236 (lv_at hl 6 rfl) ?_
        refine k_isub hx hb dX8_joins_238 ?_
        refine lv_iload hx hb dX8_joins_239 (lv_at hl 7 rfl) ?_
        refine k_iadd hx hb dX8_joins_241 ?_
        refine k_iald hx hb hK hP 23 0 rfl rfl (Nat.le_of_ble_eq_true rfl) hs dX8_joins_242 (fun vz13 hs => ?_)
        refine k_iast hx hb hK hP hD hSz 18 0 rfl rfl (Nat.le_of_ble_eq_true rfl) hs dX8_joins_243 (fun Hz lz hP hD hSz hs => ?_)
        have hP : va_P D vwCl (wM cI cZ cJ ad x_thrown x_buffered x_given x_isFolding x_work x_rebuilt x_streamed x_reports x_gapFrom x_gapSize x_elements x_wholeSize x_isLaid x_takenMany a_buffer a_length a_bytes a_weight a_live a_size a_list a_moved a_planned a_stream a_reportedEnd a_reportedKeyword a_starts a_keywordAt a_element a_long1 a_head (upA a_tail ((15 * l1) + l9) vz13) a_next a_skip a_last a_whole a_edges a_covers a_weighs a_numbers a_takes a_takenAt) Hz := hP
        have hD : va_D Az (wM cI cZ cJ ad x_thrown x_buffered x_given x_isFolding x_work x_rebuilt x_streamed x_reports x_gapFrom x_gapSize x_elements x_wholeSize x_isLaid x_takenMany a_buffer a_length a_bytes a_weight a_live a_size a_list a_moved a_planned a_stream a_reportedEnd a_reportedKeyword a_starts a_keywordAt a_element a_long1 a_head (upA a_tail ((15 * l1) + l9) vz13) a_next a_skip a_last a_whole a_edges a_covers a_weighs a_numbers a_takes a_takenAt) := hD
        refine k_iinc (x := l9) (k := 7) (lv' := [(9, .int (iI (l9 + 1))), (0, .ref (ad 0)), (1, .int (iI l1)), (2, .int (iI l2)), (3, .int (iI l3)), (4, .int (iI l4)), (7, .int (iI l7)), (8, .int (iI l8))]) hx hb dX8_joins_244 hl rfl (by decide) rfl (fun ls hl => ?_)
        refine lv_goto (tgt := 209) hx hb dX8_joins_247 (by decide) ?_
        exact ih a_long1 a_head (upA a_tail ((15 * l1) + l9) vz13) a_next a_skip a_last a_edges l1 l2 l3 l4 l7 l8 (l9 + 1) y0 hs Hz lz hP hD hSz ls (lv_sub hl [1, 2, 3, 4, 5, 6, 7, 0] rfl) kx
      · cases hs
        exact kx Hz lz hP hD hSz ls (lv_sub hl [0, 1, 2, 3] rfl)
  refine (?_ : ∀ (Hz : Heap) (lz : List Loc), va_P D vwCl (wM cI cZ cJ ad x_thrown x_buffered x_given x_isFolding x_work x_rebuilt x_streamed x_reports x_gapFrom x_gapSize x_elements x_wholeSize x_isLaid x_takenMany a_buffer a_length a_bytes a_weight a_live a_size a_list a_moved a_planned a_stream a_reportedEnd a_reportedKeyword a_starts a_keywordAt a_element a_long1 a_head a_tail a_next a_skip a_last a_whole a_edges a_covers a_weighs a_numbers a_takes a_takenAt) Hz → va_D Az (wM cI cZ cJ ad x_thrown x_buffered x_given x_isFolding x_work x_rebuilt x_streamed x_reports x_gapFrom x_gapSize x_elements x_wholeSize x_isLaid x_takenMany a_buffer a_length a_bytes a_weight a_live a_size a_list a_moved a_planned a_stream a_reportedEnd a_reportedKeyword a_starts a_keywordAt a_element a_long1 a_head a_tail a_next a_skip a_last a_whole a_edges a_covers a_weighs a_numbers a_takes a_takenAt) → va_S Az s.heap Hz lz → W p l e (headSpec wsX8_joins rm_X8_joins).room s m args below meth c Hz lz 0 0 (MQ below (QW D vwCl none wz Az) args s 0 0 Az) (F0 m 0 ls [])) s.heap [] hP hD hSz
  intro Hz lz hP hD hSz
  refine lv_aload_n hx hb dX8_joins_0 rfl (lv_at hl 0 rfl) ?_
  refine lv_iload_n hx hb dX8_joins_1 rfl (lv_at hl 1 rfl) ?_
  obtain ⟨vz1, hcz, hs⟩ := bd1_some hs
  refine k_rV (As := [.int (iI pz1)]) (rest := []) (st1 := [.int (iI vz1)]) ⟨hx, hb, hml, hown, hts⟩ hK hP (c_X8_edgeOf l D cI cZ cJ hcz) (cwV 1 hts gX8_joins_X8_edgeOf rfl rfl rfl (by decide +kernel) ⟨Nat.le_of_ble_eq_true rfl, Nat.le_of_ble_eq_true rfl⟩) 0 rfl rfl rfl rfl hl.1 rfl (lv_room (Nat.le_of_ble_eq_true rfl)) dX8_joins_2 ⟨Nat.zero_le _, Nat.zero_le _⟩ rfl ?_
  refine lv_istore (lv' := [(4, .int (iI vz1)), (0, .ref (ad 0)), (1, .int (iI pz1)), (2, .int (iI pz2)), (3, .int (iI pz3))]) hx hb dX8_joins_5 hl (by decide) rfl (fun ls hl => ?_)
  refine lv_aload_n hx hb dX8_joins_7 rfl (lv_at hl 1 rfl) ?_
  refine lv_iload_n hx hb dX8_joins_8 rfl (lv_at hl 3 rfl) ?_
  obtain ⟨vz2, hcz, hs⟩ := bd1_some hs
  refine k_rV (As := [.int (iI pz2)]) (rest := []) (st1 := [.int (iI vz2)]) ⟨hx, hb, hml, hown, hts⟩ hK hP (c_X8_edgeOf l D cI cZ cJ hcz) (cwV 1 hts gX8_joins_X8_edgeOf rfl rfl rfl (by decide +kernel) ⟨Nat.le_of_ble_eq_true rfl, Nat.le_of_ble_eq_true rfl⟩) 0 rfl rfl rfl rfl hl.1 rfl (lv_room (Nat.le_of_ble_eq_true rfl)) dX8_joins_9 ⟨Nat.zero_le _, Nat.zero_le _⟩ rfl ?_
  refine lv_istore (lv' := [(5, .int (iI vz2)), (4, .int (iI vz1)), (0, .ref (ad 0)), (1, .int (iI pz1)), (2, .int (iI pz2)), (3, .int (iI pz3))]) hx hb dX8_joins_12 hl (by decide) rfl (fun ls hl => ?_)
  refine lv_iload hx hb dX8_joins_14 (lv_at hl 1 rfl) ?_
  refine lv_istore (lv' := [(6, .int (iI vz1)), (5, .int (iI vz2)), (4, .int (iI vz1)), (0, .ref (ad 0)), (1, .int (iI pz1)), (2, .int (iI pz2)), (3, .int (iI pz3))]) hx hb dX8_joins_16 hl (by decide) rfl (fun ls hl => ?_)
  obtain ⟨ez5, hq, hs⟩ := bd1_some hs
  refine Lz18 FU a_long1 a_head a_tail a_next a_skip a_last a_edges pz1 pz2 pz3 vz1 vz2 vz1 ez5 hq Hz lz hP hD hSz ls (lv_sub hl [3, 4, 5, 6, 2, 1, 0] rfl) ?_
  intro Hz lz hP hD hSz ls hl
  refine lv_aload_n hx hb dX8_joins_83 rfl (lv_at hl 0 rfl) ?_
  refine va_get (ci := 8) (v := .ref (ad 16)) (C := RX8) (T := TX8) (N := 42) hx hb hts hiX8 hown hK hP 0 rfl rfl 25 (by decide) hf60 (fun _ h9 => h9) rfl dX8_joins_84 ?_
  refine lv_iload_n hx hb dX8_joins_87 rfl (lv_at hl 2 rfl) ?_
  refine k_iald hx hb hK hP 16 0 rfl rfl (Nat.le_of_ble_eq_true rfl) hs dX8_joins_88 (fun vz6 hs => ?_)
  refine lv_iload_n hx hb dX8_joins_89 rfl (lv_at hl 3 rfl) ?_
  refine k_isub hx hb dX8_joins_90 ?_
  refine lv_istore (lv' := [(6, .int (iI (vz6 - pz3))), (0, .ref (ad 0)), (1, .int (iI pz1)), (2, .int (iI pz2)), (3, .int (iI pz3)), (4, .int (iI vz1)), (5, .int (iI vz2))]) hx hb dX8_joins_91 hl (by decide) rfl (fun ls hl => ?_)
  refine lv_iload hx hb dX8_joins_93 (lv_at hl 0 rfl) ?_
  refine lv_iload hx hb dX8_joins_95 (lv_at hl 6 rfl) ?_
  refine k_icmp_ge (tgt := 105) hx hb hs dX8_joins_97 (by decide) (fun hs => ?_) (fun hs => ?_)
  · refine lv_iload hx hb dX8_joins_100 (lv_at hl 0 rfl) ?_
    refine lv_goto (tgt := 107) hx hb dX8_joins_102 (by decide) ?_
    refine lv_istore (lv' := [(7, .int (iI (vz6 - pz3))), (6, .int (iI (vz6 - pz3))), (0, .ref (ad 0)), (1, .int (iI pz1)), (2, .int (iI pz2)), (3, .int (iI pz3)), (4, .int (iI vz1)), (5, .int (iI vz2))]) hx hb dX8_joins_107 hl (by decide) rfl (fun ls hl => ?_)
    refine k_iconst (n := 0) hx hb dX8_joins_109 ?_
    refine lv_istore (lv' := [(8, .int (iI 0)), (7, .int (iI (vz6 - pz3))), (6, .int (iI (vz6 - pz3))), (0, .ref (ad 0)), (1, .int (iI pz1)), (2, .int (iI pz2)), (3, .int (iI pz3)), (4, .int (iI vz1)), (5, .int (iI vz2))]) hx hb dX8_joins_110 hl (by decide) rfl (fun ls hl => ?_)
    obtain ⟨ez8, hq, hs⟩ := bd1_some hs
    refine Lz112 FU a_long1 ez5 a_tail a_next a_skip a_last a_edges pz1 pz2 pz3 vz1 vz2 (vz6 - pz3) (vz6 - pz3) 0 ez8 hq Hz lz hP hD hSz ls (lv_sub hl [3, 4, 5, 6, 7, 8, 2, 1, 0] rfl) ?_
    intro Hz lz hP hD hSz ls hl
    refine k_iconst (n := 0) hx hb dX8_joins_144 ?_
    refine lv_istore (lv' := [(8, .int (iI 0)), (0, .ref (ad 0)), (1, .int (iI pz1)), (2, .int (iI pz2)), (3, .int (iI pz3)), (4, .int (iI vz1)), (5, .int (iI vz2)), (6, .int (iI (vz6 - pz3))), (7, .int (iI (vz6 - pz3)))]) hx hb dX8_joins_145 hl (by decide) rfl (fun ls hl => ?_)
    obtain ⟨ez10, hq, hs⟩ := bd1_some hs
    refine Lz147 FU a_long1 ez5 a_tail a_next a_skip a_last ez8 pz1 pz2 pz3 vz1 vz2 (vz6 - pz3) (vz6 - pz3) 0 ez10 hq Hz lz hP hD hSz ls (lv_sub hl [1, 2, 3, 4, 5, 6, 7, 8, 0] rfl) ?_
    intro Hz lz hP hD hSz ls hl
    refine lv_aload_n hx hb dX8_joins_188 rfl (lv_at hl 0 rfl) ?_
    refine va_get (ci := 8) (v := .ref (ad 16)) (C := RX8) (T := TX8) (N := 42) hx hb hts hiX8 hown hK hP 0 rfl rfl 25 (by decide) hf60 (fun _ h9 => h9) rfl dX8_joins_189 ?_
    refine lv_iload_n hx hb dX8_joins_192 rfl (lv_at hl 1 rfl) ?_
    refine lv_dup2_11 hx hb dX8_joins_193 rfl rfl ?_
    refine k_iald hx hb hK hP 16 0 rfl rfl (Nat.le_of_ble_eq_true rfl) hs dX8_joins_194 (fun vz11 hs => ?_)
    refine lv_iload hx hb dX8_joins_195 (lv_at hl 5 rfl) ?_
    refine k_iadd hx hb dX8_joins_197 ?_
    refine k_iast hx hb hK hP hD hSz 16 0 rfl rfl (Nat.le_of_ble_eq_true rfl) hs dX8_joins_198 (fun Hz lz hP hD hSz hs => ?_)
    have hP : va_P D vwCl (wM cI cZ cJ ad x_thrown x_buffered x_given x_isFolding x_work x_rebuilt x_streamed x_reports x_gapFrom x_gapSize x_elements x_wholeSize x_isLaid x_takenMany a_buffer a_length a_bytes a_weight a_live a_size a_list a_moved a_planned a_stream a_reportedEnd a_reportedKeyword a_starts a_keywordAt a_element (upA a_long1 pz1 (vz11 + (vz6 - pz3))) ez5 a_tail a_next a_skip a_last a_whole ez10 a_covers a_weighs a_numbers a_takes a_takenAt) Hz := hP
    have hD : va_D Az (wM cI cZ cJ ad x_thrown x_buffered x_given x_isFolding x_work x_rebuilt x_streamed x_reports x_gapFrom x_gapSize x_elements x_wholeSize x_isLaid x_takenMany a_buffer a_length a_bytes a_weight a_live a_size a_list a_moved a_planned a_stream a_reportedEnd a_reportedKeyword a_starts a_keywordAt a_element (upA a_long1 pz1 (vz11 + (vz6 - pz3))) ez5 a_tail a_next a_skip a_last a_whole ez10 a_covers a_weighs a_numbers a_takes a_takenAt) := hD
    refine lv_aload_n hx hb dX8_joins_199 rfl (lv_at hl 0 rfl) ?_
    refine lv_iload_n hx hb dX8_joins_200 rfl (lv_at hl 1 rfl) ?_
    obtain ⟨vz12, hcz, hs⟩ := bd1_some hs
    refine k_rV (As := [.int (iI pz1)]) (rest := []) (st1 := [.int (iI vz12)]) ⟨hx, hb, hml, hown, hts⟩ hK hP (c_X8_edgeOf l D cI cZ cJ hcz) (cwV 1 hts gX8_joins_X8_edgeOf rfl rfl rfl (by decide +kernel) ⟨Nat.le_of_ble_eq_true rfl, Nat.le_of_ble_eq_true rfl⟩) 0 rfl rfl rfl rfl hl.1 rfl (lv_room (Nat.le_of_ble_eq_true rfl)) dX8_joins_201 ⟨Nat.zero_le _, Nat.zero_le _⟩ rfl ?_
    refine lv_istore (lv' := [(8, .int (iI vz12)), (0, .ref (ad 0)), (1, .int (iI pz1)), (2, .int (iI pz2)), (3, .int (iI pz3)), (4, .int (iI vz1)), (6, .int (iI (vz6 - pz3))), (7, .int (iI (vz6 - pz3)))]) hx hb dX8_joins_204 hl (by decide) rfl (fun ls hl => ?_)
    refine k_iconst (n := 0) hx hb dX8_joins_206 ?_
    refine lv_istore (lv' := [(9, .int (iI 0)), (8, .int (iI vz12)), (0, .ref (ad 0)), (1, .int (iI pz1)), (2, .int (iI pz2)), (3, .int (iI pz3)), (4, .int (iI vz1)), (6, .int (iI (vz6 - pz3))), (7, .int (iI (vz6 - pz3)))]) hx hb dX8_joins_207 hl (by decide) rfl (fun ls hl => ?_)
    obtain ⟨ez14, hq, hs⟩ := bd1_some hs
    refine Lz209 FU (upA a_long1 pz1 (vz11 + (vz6 - pz3))) ez5 a_tail a_next a_skip a_last ez10 pz1 pz2 pz3 vz1 (vz6 - pz3) vz12 0 ez14 hq Hz lz hP hD hSz ls (lv_sub hl [2, 3, 4, 5, 6, 8, 1, 0] rfl) ?_
    intro Hz lz hP hD hSz ls hl
    refine lv_aload_n hx hb dX8_joins_250 rfl (lv_at hl 0 rfl) ?_
    refine va_get (ci := 8) (v := .ref (ad 19)) (C := RX8) (T := TX8) (N := 42) hx hb hts hiX8 hown hK hP 0 rfl rfl 28 (by decide) hf69 (fun _ h9 => h9) rfl dX8_joins_251 ?_
    refine lv_aload_n hx hb dX8_joins_254 rfl (lv_at hl 0 rfl) ?_
    refine va_get (ci := 8) (v := .ref (ad 21)) (C := RX8) (T := TX8) (N := 42) hx hb hts hiX8 hown hK hP 0 rfl rfl 30 (by decide) hf75 (fun _ h9 => h9) rfl dX8_joins_255 ?_
    refine lv_iload_n hx hb dX8_joins_258 rfl (lv_at hl 1 rfl) ?_
    refine k_iald hx hb hK hP 21 0 rfl rfl (Nat.le_of_ble_eq_true rfl) hs dX8_joins_259 (fun vz15 hs => ?_)
    refine lv_iload_n hx hb dX8_joins_260 rfl (lv_at hl 2 rfl) ?_
    refine k_iast hx hb hK hP hD hSz 19 0 rfl rfl (Nat.le_of_ble_eq_true rfl) hs dX8_joins_261 (fun Hz lz hP hD hSz hs => ?_)
    have hP : va_P D vwCl (wM cI cZ cJ ad x_thrown x_buffered x_given x_isFolding x_work x_rebuilt x_streamed x_reports x_gapFrom x_gapSize x_elements x_wholeSize x_isLaid x_takenMany a_buffer a_length a_bytes a_weight a_live a_size a_list a_moved a_planned a_stream a_reportedEnd a_reportedKeyword a_starts a_keywordAt a_element (upA a_long1 pz1 (vz11 + (vz6 - pz3))) ez5 ez14 (upA a_next vz15 pz2) a_skip a_last a_whole ez10 a_covers a_weighs a_numbers a_takes a_takenAt) Hz := hP
    have hD : va_D Az (wM cI cZ cJ ad x_thrown x_buffered x_given x_isFolding x_work x_rebuilt x_streamed x_reports x_gapFrom x_gapSize x_elements x_wholeSize x_isLaid x_takenMany a_buffer a_length a_bytes a_weight a_live a_size a_list a_moved a_planned a_stream a_reportedEnd a_reportedKeyword a_starts a_keywordAt a_element (upA a_long1 pz1 (vz11 + (vz6 - pz3))) ez5 ez14 (upA a_next vz15 pz2) a_skip a_last a_whole ez10 a_covers a_weighs a_numbers a_takes a_takenAt) := hD
    refine lv_aload_n hx hb dX8_joins_262 rfl (lv_at hl 0 rfl) ?_
    refine va_get (ci := 8) (v := .ref (ad 20)) (C := RX8) (T := TX8) (N := 42) hx hb hts hiX8 hown hK hP 0 rfl rfl 29 (by decide) hf72 (fun _ h9 => h9) rfl dX8_joins_263 ?_
    refine lv_iload_n hx hb dX8_joins_266 rfl (lv_at hl 2 rfl) ?_
    refine lv_iload_n hx hb dX8_joins_267 rfl (lv_at hl 3 rfl) ?_
    refine k_iast hx hb hK hP hD hSz 20 0 rfl rfl (Nat.le_of_ble_eq_true rfl) hs dX8_joins_268 (fun Hz lz hP hD hSz hs => ?_)
    have hP : va_P D vwCl (wM cI cZ cJ ad x_thrown x_buffered x_given x_isFolding x_work x_rebuilt x_streamed x_reports x_gapFrom x_gapSize x_elements x_wholeSize x_isLaid x_takenMany a_buffer a_length a_bytes a_weight a_live a_size a_list a_moved a_planned a_stream a_reportedEnd a_reportedKeyword a_starts a_keywordAt a_element (upA a_long1 pz1 (vz11 + (vz6 - pz3))) ez5 ez14 (upA a_next vz15 pz2) (upA a_skip pz2 pz3) a_last a_whole ez10 a_covers a_weighs a_numbers a_takes a_takenAt) Hz := hP
    have hD : va_D Az (wM cI cZ cJ ad x_thrown x_buffered x_given x_isFolding x_work x_rebuilt x_streamed x_reports x_gapFrom x_gapSize x_elements x_wholeSize x_isLaid x_takenMany a_buffer a_length a_bytes a_weight a_live a_size a_list a_moved a_planned a_stream a_reportedEnd a_reportedKeyword a_starts a_keywordAt a_element (upA a_long1 pz1 (vz11 + (vz6 - pz3))) ez5 ez14 (upA a_next vz15 pz2) (upA a_skip pz2 pz3) a_last a_whole ez10 a_covers a_weighs a_numbers a_takes a_takenAt) := hD
    refine lv_aload_n hx hb dX8_joins_269 rfl (lv_at hl 0 rfl) ?_
    refine va_get (ci := 8) (v := .ref (ad 21)) (C := RX8) (T := TX8) (N := 42) hx hb hts hiX8 hown hK hP 0 rfl rfl 30 (by decide) hf75 (fun _ h9 => h9) rfl dX8_joins_270 ?_
    refine lv_iload_n hx hb dX8_joins_273 rfl (lv_at hl 1 rfl) ?_
    refine lv_aload_n hx hb dX8_joins_274 rfl (lv_at hl 0 rfl) ?_
    refine va_get (ci := 8) (v := .ref (ad 21)) (C := RX8) (T := TX8) (N := 42) hx hb hts hiX8 hown hK hP 0 rfl rfl 30 (by decide) hf75 (fun _ h9 => h9) rfl dX8_joins_275 ?_
    refine lv_iload_n hx hb dX8_joins_278 rfl (lv_at hl 2 rfl) ?_
    refine k_iald hx hb hK hP 21 0 rfl rfl (Nat.le_of_ble_eq_true rfl) hs dX8_joins_279 (fun vz16 hs => ?_)
    refine k_iast hx hb hK hP hD hSz 21 0 rfl rfl (Nat.le_of_ble_eq_true rfl) hs dX8_joins_280 (fun Hz lz hP hD hSz hs => ?_)
    have hP : va_P D vwCl (wM cI cZ cJ ad x_thrown x_buffered x_given x_isFolding x_work x_rebuilt x_streamed x_reports x_gapFrom x_gapSize x_elements x_wholeSize x_isLaid x_takenMany a_buffer a_length a_bytes a_weight a_live a_size a_list a_moved a_planned a_stream a_reportedEnd a_reportedKeyword a_starts a_keywordAt a_element (upA a_long1 pz1 (vz11 + (vz6 - pz3))) ez5 ez14 (upA a_next vz15 pz2) (upA a_skip pz2 pz3) (upA a_last pz1 vz16) a_whole ez10 a_covers a_weighs a_numbers a_takes a_takenAt) Hz := hP
    have hD : va_D Az (wM cI cZ cJ ad x_thrown x_buffered x_given x_isFolding x_work x_rebuilt x_streamed x_reports x_gapFrom x_gapSize x_elements x_wholeSize x_isLaid x_takenMany a_buffer a_length a_bytes a_weight a_live a_size a_list a_moved a_planned a_stream a_reportedEnd a_reportedKeyword a_starts a_keywordAt a_element (upA a_long1 pz1 (vz11 + (vz6 - pz3))) ez5 ez14 (upA a_next vz15 pz2) (upA a_skip pz2 pz3) (upA a_last pz1 vz16) a_whole ez10 a_covers a_weighs a_numbers a_takes a_takenAt) := hD
    cases hs
    exact k_vret_w hx hb hr hlk (by rw [hw1]; exact hP) hSz dX8_joins_281 rfl
  · refine lv_iload hx hb dX8_joins_105 (lv_at hl 6 rfl) ?_
    refine lv_istore (lv' := [(7, .int (iI vz2)), (6, .int (iI (vz6 - pz3))), (0, .ref (ad 0)), (1, .int (iI pz1)), (2, .int (iI pz2)), (3, .int (iI pz3)), (4, .int (iI vz1)), (5, .int (iI vz2))]) hx hb dX8_joins_107 hl (by decide) rfl (fun ls hl => ?_)
    refine k_iconst (n := 0) hx hb dX8_joins_109 ?_
    refine lv_istore (lv' := [(8, .int (iI 0)), (7, .int (iI vz2)), (6, .int (iI (vz6 - pz3))), (0, .ref (ad 0)), (1, .int (iI pz1)), (2, .int (iI pz2)), (3, .int (iI pz3)), (4, .int (iI vz1)), (5, .int (iI vz2))]) hx hb dX8_joins_110 hl (by decide) rfl (fun ls hl => ?_)
    obtain ⟨ez17, hq, hs⟩ := bd1_some hs
    refine Lz112 FU a_long1 ez5 a_tail a_next a_skip a_last a_edges pz1 pz2 pz3 vz1 vz2 (vz6 - pz3) vz2 0 ez17 hq Hz lz hP hD hSz ls (lv_sub hl [3, 4, 5, 6, 7, 8, 2, 1, 0] rfl) ?_
    intro Hz lz hP hD hSz ls hl
    refine k_iconst (n := 0) hx hb dX8_joins_144 ?_
    refine lv_istore (lv' := [(8, .int (iI 0)), (0, .ref (ad 0)), (1, .int (iI pz1)), (2, .int (iI pz2)), (3, .int (iI pz3)), (4, .int (iI vz1)), (5, .int (iI vz2)), (6, .int (iI (vz6 - pz3))), (7, .int (iI vz2))]) hx hb dX8_joins_145 hl (by decide) rfl (fun ls hl => ?_)
    obtain ⟨ez18, hq, hs⟩ := bd1_some hs
    refine Lz147 FU a_long1 ez5 a_tail a_next a_skip a_last ez17 pz1 pz2 pz3 vz1 vz2 (vz6 - pz3) vz2 0 ez18 hq Hz lz hP hD hSz ls (lv_sub hl [1, 2, 3, 4, 5, 6, 7, 8, 0] rfl) ?_
    intro Hz lz hP hD hSz ls hl
    refine lv_aload_n hx hb dX8_joins_188 rfl (lv_at hl 0 rfl) ?_
    refine va_get (ci := 8) (v := .ref (ad 16)) (C := RX8) (T := TX8) (N := 42) hx hb hts hiX8 hown hK hP 0 rfl rfl 25 (by decide) hf60 (fun _ h9 => h9) rfl dX8_joins_189 ?_
    refine lv_iload_n hx hb dX8_joins_192 rfl (lv_at hl 1 rfl) ?_
    refine lv_dup2_11 hx hb dX8_joins_193 rfl rfl ?_
    refine k_iald hx hb hK hP 16 0 rfl rfl (Nat.le_of_ble_eq_true rfl) hs dX8_joins_194 (fun vz19 hs => ?_)
    refine lv_iload hx hb dX8_joins_195 (lv_at hl 5 rfl) ?_
    refine k_iadd hx hb dX8_joins_197 ?_
    refine k_iast hx hb hK hP hD hSz 16 0 rfl rfl (Nat.le_of_ble_eq_true rfl) hs dX8_joins_198 (fun Hz lz hP hD hSz hs => ?_)
    have hP : va_P D vwCl (wM cI cZ cJ ad x_thrown x_buffered x_given x_isFolding x_work x_rebuilt x_streamed x_reports x_gapFrom x_gapSize x_elements x_wholeSize x_isLaid x_takenMany a_buffer a_length a_bytes a_weight a_live a_size a_list a_moved a_planned a_stream a_reportedEnd a_reportedKeyword a_starts a_keywordAt a_element (upA a_long1 pz1 (vz19 + (vz6 - pz3))) ez5 a_tail a_next a_skip a_last a_whole ez18 a_covers a_weighs a_numbers a_takes a_takenAt) Hz := hP
    have hD : va_D Az (wM cI cZ cJ ad x_thrown x_buffered x_given x_isFolding x_work x_rebuilt x_streamed x_reports x_gapFrom x_gapSize x_elements x_wholeSize x_isLaid x_takenMany a_buffer a_length a_bytes a_weight a_live a_size a_list a_moved a_planned a_stream a_reportedEnd a_reportedKeyword a_starts a_keywordAt a_element (upA a_long1 pz1 (vz19 + (vz6 - pz3))) ez5 a_tail a_next a_skip a_last a_whole ez18 a_covers a_weighs a_numbers a_takes a_takenAt) := hD
    refine lv_aload_n hx hb dX8_joins_199 rfl (lv_at hl 0 rfl) ?_
    refine lv_iload_n hx hb dX8_joins_200 rfl (lv_at hl 1 rfl) ?_
    obtain ⟨vz20, hcz, hs⟩ := bd1_some hs
    refine k_rV (As := [.int (iI pz1)]) (rest := []) (st1 := [.int (iI vz20)]) ⟨hx, hb, hml, hown, hts⟩ hK hP (c_X8_edgeOf l D cI cZ cJ hcz) (cwV 1 hts gX8_joins_X8_edgeOf rfl rfl rfl (by decide +kernel) ⟨Nat.le_of_ble_eq_true rfl, Nat.le_of_ble_eq_true rfl⟩) 0 rfl rfl rfl rfl hl.1 rfl (lv_room (Nat.le_of_ble_eq_true rfl)) dX8_joins_201 ⟨Nat.zero_le _, Nat.zero_le _⟩ rfl ?_
    refine lv_istore (lv' := [(8, .int (iI vz20)), (0, .ref (ad 0)), (1, .int (iI pz1)), (2, .int (iI pz2)), (3, .int (iI pz3)), (4, .int (iI vz1)), (6, .int (iI (vz6 - pz3))), (7, .int (iI vz2))]) hx hb dX8_joins_204 hl (by decide) rfl (fun ls hl => ?_)
    refine k_iconst (n := 0) hx hb dX8_joins_206 ?_
    refine lv_istore (lv' := [(9, .int (iI 0)), (8, .int (iI vz20)), (0, .ref (ad 0)), (1, .int (iI pz1)), (2, .int (iI pz2)), (3, .int (iI pz3)), (4, .int (iI vz1)), (6, .int (iI (vz6 - pz3))), (7, .int (iI vz2))]) hx hb dX8_joins_207 hl (by decide) rfl (fun ls hl => ?_)
    obtain ⟨ez21, hq, hs⟩ := bd1_some hs
    refine Lz209 FU (upA a_long1 pz1 (vz19 + (vz6 - pz3))) ez5 a_tail a_next a_skip a_last ez18 pz1 pz2 pz3 vz1 vz2 vz20 0 ez21 hq Hz lz hP hD hSz ls (lv_sub hl [2, 3, 4, 5, 6, 8, 1, 0] rfl) ?_
    intro Hz lz hP hD hSz ls hl
    refine lv_aload_n hx hb dX8_joins_250 rfl (lv_at hl 0 rfl) ?_
    refine va_get (ci := 8) (v := .ref (ad 19)) (C := RX8) (T := TX8) (N := 42) hx hb hts hiX8 hown hK hP 0 rfl rfl 28 (by decide) hf69 (fun _ h9 => h9) rfl dX8_joins_251 ?_
    refine lv_aload_n hx hb dX8_joins_254 rfl (lv_at hl 0 rfl) ?_
    refine va_get (ci := 8) (v := .ref (ad 21)) (C := RX8) (T := TX8) (N := 42) hx hb hts hiX8 hown hK hP 0 rfl rfl 30 (by decide) hf75 (fun _ h9 => h9) rfl dX8_joins_255 ?_
    refine lv_iload_n hx hb dX8_joins_258 rfl (lv_at hl 1 rfl) ?_
    refine k_iald hx hb hK hP 21 0 rfl rfl (Nat.le_of_ble_eq_true rfl) hs dX8_joins_259 (fun vz22 hs => ?_)
    refine lv_iload_n hx hb dX8_joins_260 rfl (lv_at hl 2 rfl) ?_
    refine k_iast hx hb hK hP hD hSz 19 0 rfl rfl (Nat.le_of_ble_eq_true rfl) hs dX8_joins_261 (fun Hz lz hP hD hSz hs => ?_)
    have hP : va_P D vwCl (wM cI cZ cJ ad x_thrown x_buffered x_given x_isFolding x_work x_rebuilt x_streamed x_reports x_gapFrom x_gapSize x_elements x_wholeSize x_isLaid x_takenMany a_buffer a_length a_bytes a_weight a_live a_size a_list a_moved a_planned a_stream a_reportedEnd a_reportedKeyword a_starts a_keywordAt a_element (upA a_long1 pz1 (vz19 + (vz6 - pz3))) ez5 ez21 (upA a_next vz22 pz2) a_skip a_last a_whole ez18 a_covers a_weighs a_numbers a_takes a_takenAt) Hz := hP
    have hD : va_D Az (wM cI cZ cJ ad x_thrown x_buffered x_given x_isFolding x_work x_rebuilt x_streamed x_reports x_gapFrom x_gapSize x_elements x_wholeSize x_isLaid x_takenMany a_buffer a_length a_bytes a_weight a_live a_size a_list a_moved a_planned a_stream a_reportedEnd a_reportedKeyword a_starts a_keywordAt a_element (upA a_long1 pz1 (vz19 + (vz6 - pz3))) ez5 ez21 (upA a_next vz22 pz2) a_skip a_last a_whole ez18 a_covers a_weighs a_numbers a_takes a_takenAt) := hD
    refine lv_aload_n hx hb dX8_joins_262 rfl (lv_at hl 0 rfl) ?_
    refine va_get (ci := 8) (v := .ref (ad 20)) (C := RX8) (T := TX8) (N := 42) hx hb hts hiX8 hown hK hP 0 rfl rfl 29 (by decide) hf72 (fun _ h9 => h9) rfl dX8_joins_263 ?_
    refine lv_iload_n hx hb dX8_joins_266 rfl (lv_at hl 2 rfl) ?_
    refine lv_iload_n hx hb dX8_joins_267 rfl (lv_at hl 3 rfl) ?_
    refine k_iast hx hb hK hP hD hSz 20 0 rfl rfl (Nat.le_of_ble_eq_true rfl) hs dX8_joins_268 (fun Hz lz hP hD hSz hs => ?_)
    have hP : va_P D vwCl (wM cI cZ cJ ad x_thrown x_buffered x_given x_isFolding x_work x_rebuilt x_streamed x_reports x_gapFrom x_gapSize x_elements x_wholeSize x_isLaid x_takenMany a_buffer a_length a_bytes a_weight a_live a_size a_list a_moved a_planned a_stream a_reportedEnd a_reportedKeyword a_starts a_keywordAt a_element (upA a_long1 pz1 (vz19 + (vz6 - pz3))) ez5 ez21 (upA a_next vz22 pz2) (upA a_skip pz2 pz3) a_last a_whole ez18 a_covers a_weighs a_numbers a_takes a_takenAt) Hz := hP
    have hD : va_D Az (wM cI cZ cJ ad x_thrown x_buffered x_given x_isFolding x_work x_rebuilt x_streamed x_reports x_gapFrom x_gapSize x_elements x_wholeSize x_isLaid x_takenMany a_buffer a_length a_bytes a_weight a_live a_size a_list a_moved a_planned a_stream a_reportedEnd a_reportedKeyword a_starts a_keywordAt a_element (upA a_long1 pz1 (vz19 + (vz6 - pz3))) ez5 ez21 (upA a_next vz22 pz2) (upA a_skip pz2 pz3) a_last a_whole ez18 a_covers a_weighs a_numbers a_takes a_takenAt) := hD
    refine lv_aload_n hx hb dX8_joins_269 rfl (lv_at hl 0 rfl) ?_
    refine va_get (ci := 8) (v := .ref (ad 21)) (C := RX8) (T := TX8) (N := 42) hx hb hts hiX8 hown hK hP 0 rfl rfl 30 (by decide) hf75 (fun _ h9 => h9) rfl dX8_joins_270 ?_
    refine lv_iload_n hx hb dX8_joins_273 rfl (lv_at hl 1 rfl) ?_
    refine lv_aload_n hx hb dX8_joins_274 rfl (lv_at hl 0 rfl) ?_
    refine va_get (ci := 8) (v := .ref (ad 21)) (C := RX8) (T := TX8) (N := 42) hx hb hts hiX8 hown hK hP 0 rfl rfl 30 (by decide) hf75 (fun _ h9 => h9) rfl dX8_joins_275 ?_
    refine lv_iload_n hx hb dX8_joins_278 rfl (lv_at hl 2 rfl) ?_
    refine k_iald hx hb hK hP 21 0 rfl rfl (Nat.le_of_ble_eq_true rfl) hs dX8_joins_279 (fun vz23 hs => ?_)
    refine k_iast hx hb hK hP hD hSz 21 0 rfl rfl (Nat.le_of_ble_eq_true rfl) hs dX8_joins_280 (fun Hz lz hP hD hSz hs => ?_)
    have hP : va_P D vwCl (wM cI cZ cJ ad x_thrown x_buffered x_given x_isFolding x_work x_rebuilt x_streamed x_reports x_gapFrom x_gapSize x_elements x_wholeSize x_isLaid x_takenMany a_buffer a_length a_bytes a_weight a_live a_size a_list a_moved a_planned a_stream a_reportedEnd a_reportedKeyword a_starts a_keywordAt a_element (upA a_long1 pz1 (vz19 + (vz6 - pz3))) ez5 ez21 (upA a_next vz22 pz2) (upA a_skip pz2 pz3) (upA a_last pz1 vz23) a_whole ez18 a_covers a_weighs a_numbers a_takes a_takenAt) Hz := hP
    have hD : va_D Az (wM cI cZ cJ ad x_thrown x_buffered x_given x_isFolding x_work x_rebuilt x_streamed x_reports x_gapFrom x_gapSize x_elements x_wholeSize x_isLaid x_takenMany a_buffer a_length a_bytes a_weight a_live a_size a_list a_moved a_planned a_stream a_reportedEnd a_reportedKeyword a_starts a_keywordAt a_element (upA a_long1 pz1 (vz19 + (vz6 - pz3))) ez5 ez21 (upA a_next vz22 pz2) (upA a_skip pz2 pz3) (upA a_last pz1 vz23) a_whole ez18 a_covers a_weighs a_numbers a_takes a_takenAt) := hD
    cases hs
    exact k_vret_w hx hb hr hlk (by rw [hw1]; exact hP) hSz dX8_joins_281 rfl
/-! X8_joinsBest -/
set_option maxHeartbeats 4000000 in
set_option maxRecDepth 100000 in
theorem c_X8_joinsBest (l : Launch) (D : va_G) (cI cZ cJ : ClassId) {ad : Nat → Nat} {x_thrown : Int} {x_buffered : Int} {x_given : Int} {x_isFolding : Int} {x_work : Int} {x_rebuilt : Int} {x_streamed : Int} {x_reports : Int} {x_gapFrom : Int} {x_gapSize : Int} {x_elements : Int} {x_wholeSize : Int} {x_isLaid : Int} {x_takenMany : Int} {a_buffer : (Int → Int)} {a_length : (Int → Int)} {a_bytes : (Int → Int)} {a_weight : (Int → Int)} {a_live : (Int → Int)} {a_size : (Int → Int)} {a_list : (Int → Int)} {a_moved : (Int → Int)} {a_planned : (Int → Int)} {a_stream : (Int → Int)} {a_reportedEnd : (Int → Int)} {a_reportedKeyword : (Int → Int)} {a_starts : (Int → Int)} {a_keywordAt : (Int → Int)} {a_element : (Int → Int)} {a_long1 : (Int → Int)} {a_head : (Int → Int)} {a_tail : (Int → Int)} {a_next : (Int → Int)} {a_skip : (Int → Int)} {a_last : (Int → Int)} {a_whole : (Int → Int)} {a_edges : (Int → Int)} {a_covers : (Int → Int)} {a_weighs : (Int → Int)} {a_numbers : (Int → Int)} {a_takes : (Int → Int)} {a_takenAt : (Int → Int)} {y_x_elements : Int} {y_a_element : (Int → Int)} {y_a_long1 : (Int → Int)} {y_a_head : (Int → Int)} {y_a_tail : (Int → Int)} {y_a_next : (Int → Int)} {y_a_skip : (Int → Int)} {y_a_last : (Int → Int)} {y_a_edges : (Int → Int)} {sz : Nat} (hs : s_X8_joinsBest x_isFolding x_elements a_element a_long1 a_head a_tail a_next a_skip a_last a_edges = some (y_x_elements, y_a_element, y_a_long1, y_a_head, y_a_tail, y_a_next, y_a_skip, y_a_last, y_a_edges)) : Met l yX8_joinsBest wsX8_joinsBest rm_X8_joinsBest (PW D vwCl [(cI, .int), (cZ, .boolean), (cJ, .long)] [.ref (ad 0)] (wM cI cZ cJ ad x_thrown x_buffered x_given x_isFolding x_work x_rebuilt x_streamed x_reports x_gapFrom x_gapSize x_elements x_wholeSize x_isLaid x_takenMany a_buffer a_length a_bytes a_weight a_live a_size a_list a_moved a_planned a_stream a_reportedEnd a_reportedKeyword a_starts a_keywordAt a_element a_long1 a_head a_tail a_next a_skip a_last a_whole a_edges a_covers a_weighs a_numbers a_takes a_takenAt) sz) (QW D vwCl none (wM cI cZ cJ ad x_thrown x_buffered x_given x_isFolding x_work x_rebuilt x_streamed x_reports x_gapFrom x_gapSize y_x_elements x_wholeSize x_isLaid x_takenMany a_buffer a_length a_bytes a_weight a_live a_size a_list a_moved a_planned a_stream a_reportedEnd a_reportedKeyword a_starts a_keywordAt y_a_element y_a_long1 y_a_head y_a_tail y_a_next y_a_skip y_a_last a_whole y_a_edges a_covers a_weighs a_numbers a_takes a_takenAt) (va_A (wM cI cZ cJ ad x_thrown x_buffered x_given x_isFolding x_work x_rebuilt x_streamed x_reports x_gapFrom x_gapSize x_elements x_wholeSize x_isLaid x_takenMany a_buffer a_length a_bytes a_weight a_live a_size a_list a_moved a_planned a_stream a_reportedEnd a_reportedKeyword a_starts a_keywordAt a_element a_long1 a_head a_tail a_next a_skip a_last a_whole a_edges a_covers a_weighs a_numbers a_takes a_takenAt) sz)) 0 0 (va_A (wM cI cZ cJ ad x_thrown x_buffered x_given x_isFolding x_work x_rebuilt x_streamed x_reports x_gapFrom x_gapSize x_elements x_wholeSize x_isLaid x_takenMany a_buffer a_length a_bytes a_weight a_live a_size a_list a_moved a_planned a_stream a_reportedEnd a_reportedKeyword a_starts a_keywordAt a_element a_long1 a_head a_tail a_next a_skip a_last a_whole a_edges a_covers a_weighs a_numbers a_takes a_takenAt) sz) := by
  refine Met.ofW (cc := cX8_joinsBest) (maxL := 7) (ret := none) (by decide) rfl ?_
  intro p e s m args below meth c s₁ B hml hv
  obtain ⟨hav, hsz, hP, hK, hD0⟩ := hv
  have hx := B.exec
  have hb := B.bytes
  have hr := B.returns
  have hts := atoms_spec (ws := wsX8_joinsBest) B.pre
  have hown : s.vm.findClass RX8 = some m.cls := findClass_of_methodNamed B.named
  have hlk := B.notSynchronized
  have hf241 : (Cond.fieldLink RX8 241 "KeywordMatcherModel" "elements" "I").before args s = true := hts _ (List.mem_of_getElem? (i := 1) rfl)
  have hiX8 : ∀ w ∈ wsX80, w ∈ wsX8_joinsBest := fun w h => List.mem_cons_of_mem _ (List.mem_append_right _ h)
  have hf57 : (Cond.fieldLink RX8 57 "KeywordMatcherModel" "element" "[I").before args s = true := hts _ (List.mem_of_getElem? (i := 2) rfl)
  subst hsz
  have hD := hD0.self (sz := s.heap.size)
  generalize hAe : va_A (wM cI cZ cJ ad x_thrown x_buffered x_given x_isFolding x_work x_rebuilt x_streamed x_reports x_gapFrom x_gapSize x_elements x_wholeSize x_isLaid x_takenMany a_buffer a_length a_bytes a_weight a_live a_size a_list a_moved a_planned a_stream a_reportedEnd a_reportedKeyword a_starts a_keywordAt a_element a_long1 a_head a_tail a_next a_skip a_last a_whole a_edges a_covers a_weighs a_numbers a_takes a_takenAt) s.heap.size = Az at hD ⊢
  have hA : ∀ q : Nat, s.heap.size ≤ q → Az q := fun q h => by rw [← hAe]; exact Or.inr h
  clear hAe
  have hSz : va_S Az s.heap s.heap [] := va_S.rf
  obtain ⟨wz, hw1⟩ : ∃ z : va_W, z = (wM cI cZ cJ ad x_thrown x_buffered x_given x_isFolding x_work x_rebuilt x_streamed x_reports x_gapFrom x_gapSize y_x_elements x_wholeSize x_isLaid x_takenMany a_buffer a_length a_bytes a_weight a_live a_size a_list a_moved a_planned a_stream a_reportedEnd a_reportedKeyword a_starts a_keywordAt y_a_element y_a_long1 y_a_head y_a_tail y_a_next y_a_skip y_a_last a_whole y_a_edges a_covers a_weighs a_numbers a_takes a_takenAt) := ⟨_, rfl⟩
  rw [← hw1]
  have hl := lv_entry ([.ref (ad 0)]) (n := 7) (Nat.le_of_ble_eq_true rfl)
  rw [show entryFrame m args 7 = entryFrame m ([.ref (ad 0)] : List Value).toArray 7 from by rw [hav], lg_entry_eq]
  generalize (lg_sl ([.ref (ad 0)]) ++ List.replicate (7 - (lg_sl ([.ref (ad 0)])).length) Slot.unset).toArray = ls at hl ⊢
  have hl : lv_has ls 7 [(0, .ref (ad 0))] := hl
  unfold s_X8_joinsBest at hs
  have Lz21 : ∀ (fu : Nat) (x_elements : Int) (a_element : (Int → Int)) (a_long1 : (Int → Int)) (a_head : (Int → Int)) (a_tail : (Int → Int)) (a_next : (Int → Int)) (a_skip : (Int → Int)) (a_last : (Int → Int)) (a_edges : (Int → Int)) (l1 : Int) (l2 : Int) (l3 : Int) (l4 : Int) (l5 : Int) (y0 : Int) (y1 : Int) (y2 : Int), s_X8_joinsBest_21 fu x_isFolding x_elements a_element a_long1 a_head a_tail l1 l2 l3 l4 l5 = some (y0, y1, y2) → ∀ (Hz : Heap) (lz : List Loc), va_P D vwCl (wM cI cZ cJ ad x_thrown x_buffered x_given x_isFolding x_work x_rebuilt x_streamed x_reports x_gapFrom x_gapSize x_elements x_wholeSize x_isLaid x_takenMany a_buffer a_length a_bytes a_weight a_live a_size a_list a_moved a_planned a_stream a_reportedEnd a_reportedKeyword a_starts a_keywordAt a_element a_long1 a_head a_tail a_next a_skip a_last a_whole a_edges a_covers a_weighs a_numbers a_takes a_takenAt) Hz → va_D Az (wM cI cZ cJ ad x_thrown x_buffered x_given x_isFolding x_work x_rebuilt x_streamed x_reports x_gapFrom x_gapSize x_elements x_wholeSize x_isLaid x_takenMany a_buffer a_length a_bytes a_weight a_live a_size a_list a_moved a_planned a_stream a_reportedEnd a_reportedKeyword a_starts a_keywordAt a_element a_long1 a_head a_tail a_next a_skip a_last a_whole a_edges a_covers a_weighs a_numbers a_takes a_takenAt) → va_S Az s.heap Hz lz → ∀ ls : Array Slot, lv_has ls 7 [(0, .ref (ad 0)), (1, .int (iI l1)), (2, .int (iI l2)), (3, .int (iI l3)), (4, .int (iI l4)), (5, .int (iI l5))] → (∀ (Hz : Heap) (lz : List Loc), va_P D vwCl (wM cI cZ cJ ad x_thrown x_buffered x_given x_isFolding x_work x_rebuilt x_streamed x_reports x_gapFrom x_gapSize x_elements x_wholeSize x_isLaid x_takenMany a_buffer a_length a_bytes a_weight a_live a_size a_list a_moved a_planned a_stream a_reportedEnd a_reportedKeyword a_starts a_keywordAt a_element a_long1 a_head a_tail a_next a_skip a_last a_whole a_edges a_covers a_weighs a_numbers a_takes a_takenAt) Hz → va_D Az (wM cI cZ cJ ad x_thrown x_buffered x_given x_isFolding x_work x_rebuilt x_streamed x_reports x_gapFrom x_gapSize x_elements x_wholeSize x_isLaid x_takenMany a_buffer a_length a_bytes a_weight a_live a_size a_list a_moved a_planned a_stream a_reportedEnd a_reportedKeyword a_starts a_keywordAt a_element a_long1 a_head a_tail a_next a_skip a_last a_whole a_edges a_covers a_weighs a_numbers a_takes a_takenAt) → va_S Az s.heap Hz lz → ∀ ls : Array Slot, lv_has ls 7 [(0, .ref (ad 0)), (1, .int (iI y0)), (2, .int (iI y1)), (3, .int (iI y2)), (4, .int (iI l4))] → W p l e (headSpec wsX8_joinsBest rm_X8_joinsBest).room s m args below meth c Hz lz 0 0 (MQ below (QW D vwCl none wz Az) args s 0 0 Az) (F0 m 85 ls [])) → W p l e (headSpec wsX8_joinsBest rm_X8_joinsBest).room s m args below meth c Hz lz 0 0 (MQ below (QW D vwCl none wz Az) args s 0 0 Az) (F0 m 21 ls []) := by
    intro fu
    induction fu with
    | zero => intro x_elements a_element a_long1 a_head a_tail a_next a_skip a_last a_edges l1 l2 l3 l4 l5 y0 y1 y2 hs; cases hs
    | succ fu ih =>
      intro x_elements a_element a_long1 a_head a_tail a_next a_skip a_last a_edges l1 l2 l3 l4 l5 y0 y1 y2 hs Hz lz hP hD hSz ls hl kx
      rw [s_X8_joinsBest_21_s] at hs
      refine lv_iload hx hb dX8_joinsBest_21 (lv_at hl 5 rfl) ?_
      refine lv_aload_n hx hb dX8_joinsBest_23 rfl (lv_at hl 0 rfl) ?_
      refine va_get (ci := 8) (v := .int (iI x_elements)) (C := RX8) (T := TX8) (N := 42) hx hb hts hiX8 hown hK hP 0 rfl rfl 32 (by decide) hf241 (fun _ h9 => h9) rfl dX8_joinsBest_24 ?_
      refine k_icmp_ge (tgt := 85) hx hb hs dX8_joinsBest_27 (by decide) (fun hs => ?_) (fun hs => ?_)
      · refine lv_iload hx hb dX8_joinsBest_30 (lv_at hl 4 rfl) ?_
        refine lv_iload hx hb dX8_joinsBest_32 (lv_at hl 5 rfl) ?_
        refine k_icmp_ne (tgt := 41) hx hb hs dX8_joinsBest_34 (by decide) (fun hs => ?_) (fun hs => ?_)
        · refine k_iconst (n := (-1)) hx hb dX8_joinsBest_37 ?_
          refine lv_goto (tgt := 59) hx hb dX8_joinsBest_38 (by decide) ?_
          refine lv_istore (lv' := [(6, .int (iI (-1))), (0, .ref (ad 0)), (1, .int (iI l1)), (2, .int (iI l2)), (3, .int (iI l3)), (4, .int (iI l4)), (5, .int (iI l5))]) hx hb dX8_joinsBest_59 hl (by decide) rfl (fun ls hl => ?_)
          refine lv_iload hx hb dX8_joinsBest_61 (lv_at hl 0 rfl) ?_
          refine lv_iload_n hx hb dX8_joinsBest_63 rfl (lv_at hl 4 rfl) ?_
          refine k_icmp_gt (tgt := 70) hx hb hs dX8_joinsBest_64 (by decide) (fun hs => ?_) (fun hs => ?_)
          · refine lv_iload hx hb dX8_joinsBest_70 (lv_at hl 0 rfl) ?_
            refine lv_istore_n (lv' := [(3, .int (iI (-1))), (6, .int (iI (-1))), (0, .ref (ad 0)), (1, .int (iI l1)), (2, .int (iI l2)), (4, .int (iI l4)), (5, .int (iI l5))]) hx hb dX8_joinsBest_72 rfl hl (by decide) rfl (fun ls hl => ?_)
            refine lv_iload hx hb dX8_joinsBest_73 (lv_at hl 5 rfl) ?_
            refine lv_istore_n (lv' := [(1, .int (iI l4)), (3, .int (iI (-1))), (6, .int (iI (-1))), (0, .ref (ad 0)), (2, .int (iI l2)), (4, .int (iI l4)), (5, .int (iI l5))]) hx hb dX8_joinsBest_75 rfl hl (by decide) rfl (fun ls hl => ?_)
            refine lv_iload hx hb dX8_joinsBest_76 (lv_at hl 6 rfl) ?_
            refine lv_istore_n (lv' := [(2, .int (iI l5)), (1, .int (iI l4)), (3, .int (iI (-1))), (6, .int (iI (-1))), (0, .ref (ad 0)), (4, .int (iI l4)), (5, .int (iI l5))]) hx hb dX8_joinsBest_78 rfl hl (by decide) rfl (fun ls hl => ?_)
            refine k_iinc (x := l5) (k := 6) (lv' := [(5, .int (iI (l5 + 1))), (2, .int (iI l5)), (1, .int (iI l4)), (3, .int (iI (-1))), (6, .int (iI (-1))), (0, .ref (ad 0)), (4, .int (iI l4))]) hx hb dX8_joinsBest_79 hl rfl (by decide) rfl (fun ls hl => ?_)
            refine lv_goto (tgt := 21) hx hb dX8_joinsBest_82 (by decide) ?_
            exact ih x_elements a_element a_long1 a_head a_tail a_next a_skip a_last a_edges l4 l5 (-1) l4 (l5 + 1) y0 y1 y2 hs Hz lz hP hD hSz ls (lv_sub hl [5, 2, 1, 3, 6, 0] rfl) kx
          · refine lv_goto (tgt := 79) hx hb dX8_joinsBest_67 (by decide) ?_
            refine k_iinc (x := l5) (k := 6) (lv' := [(5, .int (iI (l5 + 1))), (6, .int (iI (-1))), (0, .ref (ad 0)), (1, .int (iI l1)), (2, .int (iI l2)), (3, .int (iI l3)), (4, .int (iI l4))]) hx hb dX8_joinsBest_79 hl rfl (by decide) rfl (fun ls hl => ?_)
            refine lv_goto (tgt := 21) hx hb dX8_joinsBest_82 (by decide) ?_
            exact ih x_elements a_element a_long1 a_head a_tail a_next a_skip a_last a_edges l1 l2 l3 l4 (l5 + 1) y0 y1 y2 hs Hz lz hP hD hSz ls (lv_sub hl [2, 3, 4, 5, 6, 0] rfl) kx
        · refine lv_aload_n hx hb dX8_joinsBest_41 rfl (lv_at hl 0 rfl) ?_
          refine lv_aload_n hx hb dX8_joinsBest_42 rfl (lv_at hl 0 rfl) ?_
          refine va_get (ci := 8) (v := .ref (ad 15)) (C := RX8) (T := TX8) (N := 42) hx hb hts hiX8 hown hK hP 0 rfl rfl 24 (by decide) hf57 (fun _ h9 => h9) rfl dX8_joinsBest_43 ?_
          refine lv_iload hx hb dX8_joinsBest_46 (lv_at hl 4 rfl) ?_
          refine k_iald hx hb hK hP 15 0 rfl rfl (Nat.le_of_ble_eq_true rfl) hs dX8_joinsBest_48 (fun vz1 hs => ?_)
          refine lv_aload_n hx hb dX8_joinsBest_49 rfl (lv_at hl 0 rfl) ?_
          refine va_get (ci := 8) (v := .ref (ad 15)) (C := RX8) (T := TX8) (N := 42) hx hb hts hiX8 hown hK hP 0 rfl rfl 24 (by decide) hf57 (fun _ h9 => h9) rfl dX8_joinsBest_50 ?_
          refine lv_iload hx hb dX8_joinsBest_53 (lv_at hl 5 rfl) ?_
          refine k_iald hx hb hK hP 15 0 rfl rfl (Nat.le_of_ble_eq_true rfl) hs dX8_joinsBest_55 (fun vz2 hs => ?_)
          obtain ⟨vz3, hcz, hs⟩ := bd1_some hs
          refine k_rV (As := [.int (iI vz1), .int (iI vz2)]) (rest := []) (st1 := [.int (iI vz3)]) ⟨hx, hb, hml, hown, hts⟩ hK hP (c_X8_overlap l D cI cZ cJ hcz) (cwV 2 hts gX8_joinsBest_X8_overlap rfl rfl rfl (by decide +kernel) ⟨Nat.le_of_ble_eq_true rfl, Nat.le_of_ble_eq_true rfl⟩) 0 rfl rfl rfl rfl hl.1 rfl (lv_room (Nat.le_of_ble_eq_true rfl)) dX8_joinsBest_56 ⟨Nat.zero_le _, Nat.zero_le _⟩ rfl ?_
          refine lv_istore (lv' := [(6, .int (iI vz3)), (0, .ref (ad 0)), (1, .int (iI l1)), (2, .int (iI l2)), (3, .int (iI l3)), (4, .int (iI l4)), (5, .int (iI l5))]) hx hb dX8_joinsBest_59 hl (by decide) rfl (fun ls hl => ?_)
          refine lv_iload hx hb dX8_joinsBest_61 (lv_at hl 0 rfl) ?_
          refine lv_iload_n hx hb dX8_joinsBest_63 rfl (lv_at hl 4 rfl) ?_
          refine k_icmp_gt (tgt := 70) hx hb hs dX8_joinsBest_64 (by decide) (fun hs => ?_) (fun hs => ?_)
          · refine lv_iload hx hb dX8_joinsBest_70 (lv_at hl 0 rfl) ?_
            refine lv_istore_n (lv' := [(3, .int (iI vz3)), (6, .int (iI vz3)), (0, .ref (ad 0)), (1, .int (iI l1)), (2, .int (iI l2)), (4, .int (iI l4)), (5, .int (iI l5))]) hx hb dX8_joinsBest_72 rfl hl (by decide) rfl (fun ls hl => ?_)
            refine lv_iload hx hb dX8_joinsBest_73 (lv_at hl 5 rfl) ?_
            refine lv_istore_n (lv' := [(1, .int (iI l4)), (3, .int (iI vz3)), (6, .int (iI vz3)), (0, .ref (ad 0)), (2, .int (iI l2)), (4, .int (iI l4)), (5, .int (iI l5))]) hx hb dX8_joinsBest_75 rfl hl (by decide) rfl (fun ls hl => ?_)
            refine lv_iload hx hb dX8_joinsBest_76 (lv_at hl 6 rfl) ?_
            refine lv_istore_n (lv' := [(2, .int (iI l5)), (1, .int (iI l4)), (3, .int (iI vz3)), (6, .int (iI vz3)), (0, .ref (ad 0)), (4, .int (iI l4)), (5, .int (iI l5))]) hx hb dX8_joinsBest_78 rfl hl (by decide) rfl (fun ls hl => ?_)
            refine k_iinc (x := l5) (k := 6) (lv' := [(5, .int (iI (l5 + 1))), (2, .int (iI l5)), (1, .int (iI l4)), (3, .int (iI vz3)), (6, .int (iI vz3)), (0, .ref (ad 0)), (4, .int (iI l4))]) hx hb dX8_joinsBest_79 hl rfl (by decide) rfl (fun ls hl => ?_)
            refine lv_goto (tgt := 21) hx hb dX8_joinsBest_82 (by decide) ?_
            exact ih x_elements a_element a_long1 a_head a_tail a_next a_skip a_last a_edges l4 l5 vz3 l4 (l5 + 1) y0 y1 y2 hs Hz lz hP hD hSz ls (lv_sub hl [5, 2, 1, 3, 6, 0] rfl) kx
          · refine lv_goto (tgt := 79) hx hb dX8_joinsBest_67 (by decide) ?_
            refine k_iinc (x := l5) (k := 6) (lv' := [(5, .int (iI (l5 + 1))), (6, .int (iI vz3)), (0, .ref (ad 0)), (1, .int (iI l1)), (2, .int (iI l2)), (3, .int (iI l3)), (4, .int (iI l4))]) hx hb dX8_joinsBest_79 hl rfl (by decide) rfl (fun ls hl => ?_)
            refine lv_goto (tgt := 21) hx hb dX8_joinsBest_82 (by decide) ?_
            exact ih x_elements a_element a_long1 a_head a_tail a_next a_skip a_last a_edges l1 l2 l3 l4 (l5 + 1) y0 y1 y2 hs Hz lz hP hD hSz ls (lv_sub hl [2, 3, 4, 5, 6, 0] rfl) kx
      · cases hs
        exact kx Hz lz hP hD hSz ls (lv_sub hl [0, 1, 2, 3, 4] rfl)
  have Lz9 : ∀ (fu : Nat) (x_elements : Int) (a_element : (Int → Int)) (a_long1 : (Int → Int)) (a_head : (Int → Int)) (a_tail : (Int → Int)) (a_next : (Int → Int)) (a_skip : (Int → Int)) (a_last : (Int → Int)) (a_edges : (Int → Int)) (l1 : Int) (l2 : Int) (l3 : Int) (l4 : Int) (y0 : Int) (y1 : Int) (y2 : Int), s_X8_joinsBest_9 fu x_isFolding x_elements a_element a_long1 a_head a_tail l1 l2 l3 l4 = some (y0, y1, y2) → ∀ (Hz : Heap) (lz : List Loc), va_P D vwCl (wM cI cZ cJ ad x_thrown x_buffered x_given x_isFolding x_work x_rebuilt x_streamed x_reports x_gapFrom x_gapSize x_elements x_wholeSize x_isLaid x_takenMany a_buffer a_length a_bytes a_weight a_live a_size a_list a_moved a_planned a_stream a_reportedEnd a_reportedKeyword a_starts a_keywordAt a_element a_long1 a_head a_tail a_next a_skip a_last a_whole a_edges a_covers a_weighs a_numbers a_takes a_takenAt) Hz → va_D Az (wM cI cZ cJ ad x_thrown x_buffered x_given x_isFolding x_work x_rebuilt x_streamed x_reports x_gapFrom x_gapSize x_elements x_wholeSize x_isLaid x_takenMany a_buffer a_length a_bytes a_weight a_live a_size a_list a_moved a_planned a_stream a_reportedEnd a_reportedKeyword a_starts a_keywordAt a_element a_long1 a_head a_tail a_next a_skip a_last a_whole a_edges a_covers a_weighs a_numbers a_takes a_takenAt) → va_S Az s.heap Hz lz → ∀ ls : Array Slot, lv_has ls 7 [(0, .ref (ad 0)), (1, .int (iI l1)), (2, .int (iI l2)), (3, .int (iI l3)), (4, .int (iI l4))] → (∀ (Hz : Heap) (lz : List Loc), va_P D vwCl (wM cI cZ cJ ad x_thrown x_buffered x_given x_isFolding x_work x_rebuilt x_streamed x_reports x_gapFrom x_gapSize x_elements x_wholeSize x_isLaid x_takenMany a_buffer a_length a_bytes a_weight a_live a_size a_list a_moved a_planned a_stream a_reportedEnd a_reportedKeyword a_starts a_keywordAt a_element a_long1 a_head a_tail a_next a_skip a_last a_whole a_edges a_covers a_weighs a_numbers a_takes a_takenAt) Hz → va_D Az (wM cI cZ cJ ad x_thrown x_buffered x_given x_isFolding x_work x_rebuilt x_streamed x_reports x_gapFrom x_gapSize x_elements x_wholeSize x_isLaid x_takenMany a_buffer a_length a_bytes a_weight a_live a_size a_list a_moved a_planned a_stream a_reportedEnd a_reportedKeyword a_starts a_keywordAt a_element a_long1 a_head a_tail a_next a_skip a_last a_whole a_edges a_covers a_weighs a_numbers a_takes a_takenAt) → va_S Az s.heap Hz lz → ∀ ls : Array Slot, lv_has ls 7 [(0, .ref (ad 0)), (1, .int (iI y0)), (2, .int (iI y1)), (3, .int (iI y2))] → W p l e (headSpec wsX8_joinsBest rm_X8_joinsBest).room s m args below meth c Hz lz 0 0 (MQ below (QW D vwCl none wz Az) args s 0 0 Az) (F0 m 91 ls [])) → W p l e (headSpec wsX8_joinsBest rm_X8_joinsBest).room s m args below meth c Hz lz 0 0 (MQ below (QW D vwCl none wz Az) args s 0 0 Az) (F0 m 9 ls []) := by
    intro fu
    induction fu with
    | zero => intro x_elements a_element a_long1 a_head a_tail a_next a_skip a_last a_edges l1 l2 l3 l4 y0 y1 y2 hs; cases hs
    | succ fu ih =>
      intro x_elements a_element a_long1 a_head a_tail a_next a_skip a_last a_edges l1 l2 l3 l4 y0 y1 y2 hs Hz lz hP hD hSz ls hl kx
      rw [s_X8_joinsBest_9_s] at hs
      refine lv_iload hx hb dX8_joinsBest_9 (lv_at hl 4 rfl) ?_
      refine lv_aload_n hx hb dX8_joinsBest_11 rfl (lv_at hl 0 rfl) ?_
      refine va_get (ci := 8) (v := .int (iI x_elements)) (C := RX8) (T := TX8) (N := 42) hx hb hts hiX8 hown hK hP 0 rfl rfl 32 (by decide) hf241 (fun _ h9 => h9) rfl dX8_joinsBest_12 ?_
      refine k_icmp_ge (tgt := 91) hx hb hs dX8_joinsBest_15 (by decide) (fun hs => ?_) (fun hs => ?_)
      · refine k_iconst (n := 0) hx hb dX8_joinsBest_18 ?_
        refine lv_istore (lv' := [(5, .int (iI 0)), (0, .ref (ad 0)), (1, .int (iI l1)), (2, .int (iI l2)), (3, .int (iI l3)), (4, .int (iI l4))]) hx hb dX8_joinsBest_19 hl (by decide) rfl (fun ls hl => ?_)
        obtain ⟨ez4, ez5, ez6, hq, hs⟩ := bd3_some hs
        refine Lz21 FU x_elements a_element a_long1 a_head a_tail a_next a_skip a_last a_edges l1 l2 l3 l4 0 ez4 ez5 ez6 hq Hz lz hP hD hSz ls (lv_sub hl [1, 2, 3, 4, 5, 0] rfl) ?_
        intro Hz lz hP hD hSz ls hl
        refine k_iinc (x := l4) (k := 4) (lv' := [(4, .int (iI (l4 + 1))), (0, .ref (ad 0)), (1, .int (iI ez4)), (2, .int (iI ez5)), (3, .int (iI ez6))]) hx hb dX8_joinsBest_85 hl rfl (by decide) rfl (fun ls hl => ?_)
        refine lv_goto (tgt := 9) hx hb dX8_joinsBest_88 (by decide) ?_
        exact ih x_elements a_element a_long1 a_head a_tail a_next a_skip a_last a_edges ez4 ez5 ez6 (l4 + 1) y0 y1 y2 hs Hz lz hP hD hSz ls (lv_sub hl [1, 2, 3, 4, 0] rfl) kx
      · cases hs
        exact kx Hz lz hP hD hSz ls (lv_sub hl [0, 1, 2, 3] rfl)
  have Lz121 : ∀ (fu : Nat) (x_elements : Int) (a_element : (Int → Int)) (a_long1 : (Int → Int)) (a_head : (Int → Int)) (a_tail : (Int → Int)) (a_next : (Int → Int)) (a_skip : (Int → Int)) (a_last : (Int → Int)) (a_edges : (Int → Int)) (l4 : Int) (y0 : (Int → Int)), s_X8_joinsBest_121 fu x_elements a_element l4 = some y0 → ∀ (Hz : Heap) (lz : List Loc), va_P D vwCl (wM cI cZ cJ ad x_thrown x_buffered x_given x_isFolding x_work x_rebuilt x_streamed x_reports x_gapFrom x_gapSize x_elements x_wholeSize x_isLaid x_takenMany a_buffer a_length a_bytes a_weight a_live a_size a_list a_moved a_planned a_stream a_reportedEnd a_reportedKeyword a_starts a_keywordAt a_element a_long1 a_head a_tail a_next a_skip a_last a_whole a_edges a_covers a_weighs a_numbers a_takes a_takenAt) Hz → va_D Az (wM cI cZ cJ ad x_thrown x_buffered x_given x_isFolding x_work x_rebuilt x_streamed x_reports x_gapFrom x_gapSize x_elements x_wholeSize x_isLaid x_takenMany a_buffer a_length a_bytes a_weight a_live a_size a_list a_moved a_planned a_stream a_reportedEnd a_reportedKeyword a_starts a_keywordAt a_element a_long1 a_head a_tail a_next a_skip a_last a_whole a_edges a_covers a_weighs a_numbers a_takes a_takenAt) → va_S Az s.heap Hz lz → ∀ ls : Array Slot, lv_has ls 7 [(0, .ref (ad 0)), (4, .int (iI l4))] → (∀ (Hz : Heap) (lz : List Loc), va_P D vwCl (wM cI cZ cJ ad x_thrown x_buffered x_given x_isFolding x_work x_rebuilt x_streamed x_reports x_gapFrom x_gapSize x_elements x_wholeSize x_isLaid x_takenMany a_buffer a_length a_bytes a_weight a_live a_size a_list a_moved a_planned a_stream a_reportedEnd a_reportedKeyword a_starts a_keywordAt y0 a_long1 a_head a_tail a_next a_skip a_last a_whole a_edges a_covers a_weighs a_numbers a_takes a_takenAt) Hz → va_D Az (wM cI cZ cJ ad x_thrown x_buffered x_given x_isFolding x_work x_rebuilt x_streamed x_reports x_gapFrom x_gapSize x_elements x_wholeSize x_isLaid x_takenMany a_buffer a_length a_bytes a_weight a_live a_size a_list a_moved a_planned a_stream a_reportedEnd a_reportedKeyword a_starts a_keywordAt y0 a_long1 a_head a_tail a_next a_skip a_last a_whole a_edges a_covers a_weighs a_numbers a_takes a_takenAt) → va_S Az s.heap Hz lz → ∀ ls : Array Slot, lv_has ls 7 [] → W p l e (headSpec wsX8_joinsBest rm_X8_joinsBest).room s m args below meth c Hz lz 0 0 (MQ below (QW D vwCl none wz Az) args s 0 0 Az) (F0 m 152 ls [])) → W p l e (headSpec wsX8_joinsBest rm_X8_joinsBest).room s m args below meth c Hz lz 0 0 (MQ below (QW D vwCl none wz Az) args s 0 0 Az) (F0 m 121 ls []) := by
    intro fu
    induction fu with
    | zero => intro x_elements a_element a_long1 a_head a_tail a_next a_skip a_last a_edges l4 y0 hs; cases hs
    | succ fu ih =>
      intro x_elements a_element a_long1 a_head a_tail a_next a_skip a_last a_edges l4 y0 hs Hz lz hP hD hSz ls hl kx
      rw [s_X8_joinsBest_121_s] at hs
      refine lv_iload hx hb dX8_joinsBest_121 (lv_at hl 1 rfl) ?_
      refine lv_aload_n hx hb dX8_joinsBest_123 rfl (lv_at hl 0 rfl) ?_
      refine va_get (ci := 8) (v := .int (iI x_elements)) (C := RX8) (T := TX8) (N := 42) hx hb hts hiX8 hown hK hP 0 rfl rfl 32 (by decide) hf241 (fun _ h9 => h9) rfl dX8_joinsBest_124 ?_
      refine k_icmp_ge (tgt := 152) hx hb hs dX8_joinsBest_127 (by decide) (fun hs => ?_) (fun hs => ?_)
      · refine lv_aload_n hx hb dX8_joinsBest_130 rfl (lv_at hl 0 rfl) ?_
        refine va_get (ci := 8) (v := .ref (ad 15)) (C := RX8) (T := TX8) (N := 42) hx hb hts hiX8 hown hK hP 0 rfl rfl 24 (by decide) hf57 (fun _ h9 => h9) rfl dX8_joinsBest_131 ?_
        refine lv_iload hx hb dX8_joinsBest_134 (lv_at hl 1 rfl) ?_
        refine lv_aload_n hx hb dX8_joinsBest_136 rfl (lv_at hl 0 rfl) ?_
        refine va_get (ci := 8) (v := .ref (ad 15)) (C := RX8) (T := TX8) (N := 42) hx hb hts hiX8 hown hK hP 0 rfl rfl 24 (by decide) hf57 (fun _ h9 => h9) rfl dX8_joinsBest_137 ?_
        refine lv_iload hx hb dX8_joinsBest_140 (lv_at hl 1 rfl) ?_
        refine k_iconst (n := 1) hx hb dX8_joinsBest_142 ?_
        refine k_iadd hx hb dX8_joinsBest_143 ?_
        refine k_iald hx hb hK hP 15 0 rfl rfl (Nat.le_of_ble_eq_true rfl) hs dX8_joinsBest_144 (fun vz19 hs => ?_)
        refine k_iast hx hb hK hP hD hSz 15 0 rfl rfl (Nat.le_of_ble_eq_true rfl) hs dX8_joinsBest_145 (fun Hz lz hP hD hSz hs => ?_)
        have hP : va_P D vwCl (wM cI cZ cJ ad x_thrown x_buffered x_given x_isFolding x_work x_rebuilt x_streamed x_reports x_gapFrom x_gapSize x_elements x_wholeSize x_isLaid x_takenMany a_buffer a_length a_bytes a_weight a_live a_size a_list a_moved a_planned a_stream a_reportedEnd a_reportedKeyword a_starts a_keywordAt (upA a_element l4 vz19) a_long1 a_head a_tail a_next a_skip a_last a_whole a_edges a_covers a_weighs a_numbers a_takes a_takenAt) Hz := hP
        have hD : va_D Az (wM cI cZ cJ ad x_thrown x_buffered x_given x_isFolding x_work x_rebuilt x_streamed x_reports x_gapFrom x_gapSize x_elements x_wholeSize x_isLaid x_takenMany a_buffer a_length a_bytes a_weight a_live a_size a_list a_moved a_planned a_stream a_reportedEnd a_reportedKeyword a_starts a_keywordAt (upA a_element l4 vz19) a_long1 a_head a_tail a_next a_skip a_last a_whole a_edges a_covers a_weighs a_numbers a_takes a_takenAt) := hD
        refine k_iinc (x := l4) (k := 1) (lv' := [(4, .int (iI (l4 + 1))), (0, .ref (ad 0))]) hx hb dX8_joinsBest_146 hl rfl (by decide) rfl (fun ls hl => ?_)
        refine lv_goto (tgt := 121) hx hb dX8_joinsBest_149 (by decide) ?_
        exact ih x_elements (upA a_element l4 vz19) a_long1 a_head a_tail a_next a_skip a_last a_edges (l4 + 1) y0 hs Hz lz hP hD hSz ls (lv_sub hl [1, 0] rfl) kx
      · cases hs
        exact kx Hz lz hP hD hSz ls (lv_sub hl [] rfl)
  refine (?_ : ∀ (Hz : Heap) (lz : List Loc), va_P D vwCl (wM cI cZ cJ ad x_thrown x_buffered x_given x_isFolding x_work x_rebuilt x_streamed x_reports x_gapFrom x_gapSize x_elements x_wholeSize x_isLaid x_takenMany a_buffer a_length a_bytes a_weight a_live a_size a_list a_moved a_planned a_stream a_reportedEnd a_reportedKeyword a_starts a_keywordAt a_element a_long1 a_head a_tail a_next a_skip a_last a_whole a_edges a_covers a_weighs a_numbers a_takes a_takenAt) Hz → va_D Az (wM cI cZ cJ ad x_thrown x_buffered x_given x_isFolding x_work x_rebuilt x_streamed x_reports x_gapFrom x_gapSize x_elements x_wholeSize x_isLaid x_takenMany a_buffer a_length a_bytes a_weight a_live a_size a_list a_moved a_planned a_stream a_reportedEnd a_reportedKeyword a_starts a_keywordAt a_element a_long1 a_head a_tail a_next a_skip a_last a_whole a_edges a_covers a_weighs a_numbers a_takes a_takenAt) → va_S Az s.heap Hz lz → W p l e (headSpec wsX8_joinsBest rm_X8_joinsBest).room s m args below meth c Hz lz 0 0 (MQ below (QW D vwCl none wz Az) args s 0 0 Az) (F0 m 0 ls [])) s.heap [] hP hD hSz
  intro Hz lz hP hD hSz
  refine k_iconst (n := (-1)) hx hb dX8_joinsBest_0 ?_
  refine lv_istore_n (lv' := [(1, .int (iI (-1))), (0, .ref (ad 0))]) hx hb dX8_joinsBest_1 rfl hl (by decide) rfl (fun ls hl => ?_)
  refine k_iconst (n := (-1)) hx hb dX8_joinsBest_2 ?_
  refine lv_istore_n (lv' := [(2, .int (iI (-1))), (1, .int (iI (-1))), (0, .ref (ad 0))]) hx hb dX8_joinsBest_3 rfl hl (by decide) rfl (fun ls hl => ?_)
  refine k_iconst (n := (-1)) hx hb dX8_joinsBest_4 ?_
  refine lv_istore_n (lv' := [(3, .int (iI (-1))), (2, .int (iI (-1))), (1, .int (iI (-1))), (0, .ref (ad 0))]) hx hb dX8_joinsBest_5 rfl hl (by decide) rfl (fun ls hl => ?_)
  refine k_iconst (n := 0) hx hb dX8_joinsBest_6 ?_
  refine lv_istore (lv' := [(4, .int (iI 0)), (3, .int (iI (-1))), (2, .int (iI (-1))), (1, .int (iI (-1))), (0, .ref (ad 0))]) hx hb dX8_joinsBest_7 hl (by decide) rfl (fun ls hl => ?_)
  obtain ⟨ez7, ez8, ez9, hq, hs⟩ := bd3_some hs
  refine Lz9 FU x_elements a_element a_long1 a_head a_tail a_next a_skip a_last a_edges (-1) (-1) (-1) 0 ez7 ez8 ez9 hq Hz lz hP hD hSz ls (lv_sub hl [4, 3, 2, 1, 0] rfl) ?_
  intro Hz lz hP hD hSz ls hl
  refine lv_aload_n hx hb dX8_joinsBest_91 rfl (lv_at hl 0 rfl) ?_
  refine lv_aload_n hx hb dX8_joinsBest_92 rfl (lv_at hl 0 rfl) ?_
  refine va_get (ci := 8) (v := .ref (ad 15)) (C := RX8) (T := TX8) (N := 42) hx hb hts hiX8 hown hK hP 0 rfl rfl 24 (by decide) hf57 (fun _ h9 => h9) rfl dX8_joinsBest_93 ?_
  refine lv_iload_n hx hb dX8_joinsBest_96 rfl (lv_at hl 1 rfl) ?_
  refine k_iald hx hb hK hP 15 0 rfl rfl (Nat.le_of_ble_eq_true rfl) hs dX8_joinsBest_97 (fun vz10 hs => ?_)
  refine lv_aload_n hx hb dX8_joinsBest_98 rfl (lv_at hl 0 rfl) ?_
  refine va_get (ci := 8) (v := .ref (ad 15)) (C := RX8) (T := TX8) (N := 42) hx hb hts hiX8 hown hK hP 0 rfl rfl 24 (by decide) hf57 (fun _ h9 => h9) rfl dX8_joinsBest_99 ?_
  refine lv_iload_n hx hb dX8_joinsBest_102 rfl (lv_at hl 2 rfl) ?_
  refine k_iald hx hb hK hP 15 0 rfl rfl (Nat.le_of_ble_eq_true rfl) hs dX8_joinsBest_103 (fun vz11 hs => ?_)
  refine lv_iload_n hx hb dX8_joinsBest_104 rfl (lv_at hl 3 rfl) ?_
  obtain ⟨vz12, vz13, vz14, vz15, vz16, vz17, vz18, hcz, hs⟩ := bd7_some hs
  refine k_wVs (As := [.int (iI vz10), .int (iI vz11), .int (iI ez9)]) (rest := []) (st1 := []) (w1 := (wM cI cZ cJ ad x_thrown x_buffered x_given x_isFolding x_work x_rebuilt x_streamed x_reports x_gapFrom x_gapSize x_elements x_wholeSize x_isLaid x_takenMany a_buffer a_length a_bytes a_weight a_live a_size a_list a_moved a_planned a_stream a_reportedEnd a_reportedKeyword a_starts a_keywordAt a_element vz12 vz13 vz14 vz15 vz16 vz17 a_whole vz18 a_covers a_weighs a_numbers a_takes a_takenAt)) ⟨hx, hb, hml, hown, hts⟩ hK hP hD hSz hA (c_X8_joins l D cI cZ cJ hcz) (cwV 3 hts gX8_joinsBest_X8_joins rfl rfl rfl (by decide +kernel) ⟨Nat.le_of_ble_eq_true rfl, Nat.le_of_ble_eq_true rfl⟩) 0 rfl rfl rfl rfl rfl hl.1 rfl (lv_room (Nat.le_of_ble_eq_true rfl)) dX8_joinsBest_105 ⟨Nat.zero_le _, Nat.zero_le _⟩ rfl (fun Hz lz hP hD hSz => ?_)
  have hP : va_P D vwCl (wM cI cZ cJ ad x_thrown x_buffered x_given x_isFolding x_work x_rebuilt x_streamed x_reports x_gapFrom x_gapSize x_elements x_wholeSize x_isLaid x_takenMany a_buffer a_length a_bytes a_weight a_live a_size a_list a_moved a_planned a_stream a_reportedEnd a_reportedKeyword a_starts a_keywordAt a_element vz12 vz13 vz14 vz15 vz16 vz17 a_whole vz18 a_covers a_weighs a_numbers a_takes a_takenAt) Hz := hP
  have hD : va_D Az (wM cI cZ cJ ad x_thrown x_buffered x_given x_isFolding x_work x_rebuilt x_streamed x_reports x_gapFrom x_gapSize x_elements x_wholeSize x_isLaid x_takenMany a_buffer a_length a_bytes a_weight a_live a_size a_list a_moved a_planned a_stream a_reportedEnd a_reportedKeyword a_starts a_keywordAt a_element vz12 vz13 vz14 vz15 vz16 vz17 a_whole vz18 a_covers a_weighs a_numbers a_takes a_takenAt) := hD
  refine lv_aload_n hx hb dX8_joinsBest_108 rfl (lv_at hl 0 rfl) ?_
  refine lv_dup hx hb dX8_joinsBest_109 rfl ?_
  refine va_get (ci := 8) (v := .int (iI x_elements)) (C := RX8) (T := TX8) (N := 42) hx hb hts hiX8 hown hK hP 0 rfl rfl 32 (by decide) hf241 (fun _ h9 => h9) rfl dX8_joinsBest_110 ?_
  refine k_iconst (n := 1) hx hb dX8_joinsBest_113 ?_
  refine k_isub hx hb dX8_joinsBest_114 ?_
  refine va_put (ci := 8) (v := .int (iI (x_elements - 1))) (ty := .int) (C := RX8) (T := TX8) (N := 42) hx hb hts hiX8 tyX8 tyX8_ok nmX8 hown hK hP hD hSz 0 rfl rfl 32 (by decide) hf241 (fun _ h9 => h9) rfl (by decide +kernel) rfl rfl (Nat.le_of_ble_eq_true rfl) dX8_joinsBest_115 (fun Hz lz hP hD hSz => ?_)
  have hP : va_P D vwCl (wM cI cZ cJ ad x_thrown x_buffered x_given x_isFolding x_work x_rebuilt x_streamed x_reports x_gapFrom x_gapSize (x_elements - 1) x_wholeSize x_isLaid x_takenMany a_buffer a_length a_bytes a_weight a_live a_size a_list a_moved a_planned a_stream a_reportedEnd a_reportedKeyword a_starts a_keywordAt a_element vz12 vz13 vz14 vz15 vz16 vz17 a_whole vz18 a_covers a_weighs a_numbers a_takes a_takenAt) Hz := hP
  have hD : va_D Az (wM cI cZ cJ ad x_thrown x_buffered x_given x_isFolding x_work x_rebuilt x_streamed x_reports x_gapFrom x_gapSize (x_elements - 1) x_wholeSize x_isLaid x_takenMany a_buffer a_length a_bytes a_weight a_live a_size a_list a_moved a_planned a_stream a_reportedEnd a_reportedKeyword a_starts a_keywordAt a_element vz12 vz13 vz14 vz15 vz16 vz17 a_whole vz18 a_covers a_weighs a_numbers a_takes a_takenAt) := hD
  refine lv_iload_n hx hb dX8_joinsBest_118 rfl (lv_at hl 2 rfl) ?_
  refine lv_istore (lv' := [(4, .int (iI ez8)), (0, .ref (ad 0)), (1, .int (iI ez7)), (2, .int (iI ez8)), (3, .int (iI ez9))]) hx hb dX8_joinsBest_119 hl (by decide) rfl (fun ls hl => ?_)
  obtain ⟨ez20, hq, hs⟩ := bd1_some hs
  refine Lz121 FU (x_elements - 1) a_element vz12 vz13 vz14 vz15 vz16 vz17 vz18 ez8 ez20 hq Hz lz hP hD hSz ls (lv_sub hl [1, 0] rfl) ?_
  intro Hz lz hP hD hSz ls hl
  cases hs
  exact k_vret_w hx hb hr hlk (by rw [hw1]; exact hP) hSz dX8_joinsBest_152 rfl
/-! X8_laysWhole -/
set_option maxHeartbeats 4000000 in
set_option maxRecDepth 100000 in
theorem c_X8_laysWhole (l : Launch) (D : va_G) (cI cZ cJ : ClassId) {ad : Nat → Nat} {x_thrown : Int} {x_buffered : Int} {x_given : Int} {x_isFolding : Int} {x_work : Int} {x_rebuilt : Int} {x_streamed : Int} {x_reports : Int} {x_gapFrom : Int} {x_gapSize : Int} {x_elements : Int} {x_wholeSize : Int} {x_isLaid : Int} {x_takenMany : Int} {a_buffer : (Int → Int)} {a_length : (Int → Int)} {a_bytes : (Int → Int)} {a_weight : (Int → Int)} {a_live : (Int → Int)} {a_size : (Int → Int)} {a_list : (Int → Int)} {a_moved : (Int → Int)} {a_planned : (Int → Int)} {a_stream : (Int → Int)} {a_reportedEnd : (Int → Int)} {a_reportedKeyword : (Int → Int)} {a_starts : (Int → Int)} {a_keywordAt : (Int → Int)} {a_element : (Int → Int)} {a_long1 : (Int → Int)} {a_head : (Int → Int)} {a_tail : (Int → Int)} {a_next : (Int → Int)} {a_skip : (Int → Int)} {a_last : (Int → Int)} {a_whole : (Int → Int)} {a_edges : (Int → Int)} {a_covers : (Int → Int)} {a_weighs : (Int → Int)} {a_numbers : (Int → Int)} {a_takes : (Int → Int)} {a_takenAt : (Int → Int)} {y_x_elements : Int} {y_x_wholeSize : Int} {y_x_isLaid : Int} {y_a_element : (Int → Int)} {y_a_long1 : (Int → Int)} {y_a_head : (Int → Int)} {y_a_tail : (Int → Int)} {y_a_next : (Int → Int)} {y_a_skip : (Int → Int)} {y_a_last : (Int → Int)} {y_a_whole : (Int → Int)} {y_a_edges : (Int → Int)} {sz : Nat} (hs : s_X8_laysWhole x_given x_isFolding x_elements x_wholeSize x_isLaid a_length a_bytes a_live a_element a_long1 a_head a_tail a_next a_skip a_last a_whole a_edges = some (y_x_elements, y_x_wholeSize, y_x_isLaid, y_a_element, y_a_long1, y_a_head, y_a_tail, y_a_next, y_a_skip, y_a_last, y_a_whole, y_a_edges)) : Met l yX8_laysWhole wsX8_laysWhole rm_X8_laysWhole (PW D vwCl [(cI, .int), (cZ, .boolean), (cJ, .long)] [.ref (ad 0)] (wM cI cZ cJ ad x_thrown x_buffered x_given x_isFolding x_work x_rebuilt x_streamed x_reports x_gapFrom x_gapSize x_elements x_wholeSize x_isLaid x_takenMany a_buffer a_length a_bytes a_weight a_live a_size a_list a_moved a_planned a_stream a_reportedEnd a_reportedKeyword a_starts a_keywordAt a_element a_long1 a_head a_tail a_next a_skip a_last a_whole a_edges a_covers a_weighs a_numbers a_takes a_takenAt) sz) (QW D vwCl none (wM cI cZ cJ ad x_thrown x_buffered x_given x_isFolding x_work x_rebuilt x_streamed x_reports x_gapFrom x_gapSize y_x_elements y_x_wholeSize y_x_isLaid x_takenMany a_buffer a_length a_bytes a_weight a_live a_size a_list a_moved a_planned a_stream a_reportedEnd a_reportedKeyword a_starts a_keywordAt y_a_element y_a_long1 y_a_head y_a_tail y_a_next y_a_skip y_a_last y_a_whole y_a_edges a_covers a_weighs a_numbers a_takes a_takenAt) (va_A (wM cI cZ cJ ad x_thrown x_buffered x_given x_isFolding x_work x_rebuilt x_streamed x_reports x_gapFrom x_gapSize x_elements x_wholeSize x_isLaid x_takenMany a_buffer a_length a_bytes a_weight a_live a_size a_list a_moved a_planned a_stream a_reportedEnd a_reportedKeyword a_starts a_keywordAt a_element a_long1 a_head a_tail a_next a_skip a_last a_whole a_edges a_covers a_weighs a_numbers a_takes a_takenAt) sz)) 0 0 (va_A (wM cI cZ cJ ad x_thrown x_buffered x_given x_isFolding x_work x_rebuilt x_streamed x_reports x_gapFrom x_gapSize x_elements x_wholeSize x_isLaid x_takenMany a_buffer a_length a_bytes a_weight a_live a_size a_list a_moved a_planned a_stream a_reportedEnd a_reportedKeyword a_starts a_keywordAt a_element a_long1 a_head a_tail a_next a_skip a_last a_whole a_edges a_covers a_weighs a_numbers a_takes a_takenAt) sz) := by
  refine Met.ofW (cc := cX8_laysWhole) (maxL := 4) (ret := none) (by decide) rfl ?_
  intro p e s m args below meth c s₁ B hml hv
  obtain ⟨hav, hsz, hP, hK, hD0⟩ := hv
  have hx := B.exec
  have hb := B.bytes
  have hr := B.returns
  have hts := atoms_spec (ws := wsX8_laysWhole) B.pre
  have hown : s.vm.findClass RX8 = some m.cls := findClass_of_methodNamed B.named
  have hlk := B.notSynchronized
  have hf154 : (Cond.fieldLink RX8 154 "KeywordMatcherModel" "isLaid" "Z").before args s = true := hts _ (List.mem_of_getElem? (i := 1) rfl)
  have hiX8 : ∀ w ∈ wsX80, w ∈ wsX8_laysWhole := fun w h => List.mem_cons_of_mem _ (List.mem_append_right _ h)
  have hf263 : (Cond.fieldLink RX8 263 "KeywordMatcherModel" "wholeSize" "I").before args s = true := hts _ (List.mem_of_getElem? (i := 2) rfl)
  have hf241 : (Cond.fieldLink RX8 241 "KeywordMatcherModel" "elements" "I").before args s = true := hts _ (List.mem_of_getElem? (i := 3) rfl)
  have hf57 : (Cond.fieldLink RX8 57 "KeywordMatcherModel" "element" "[I").before args s = true := hts _ (List.mem_of_getElem? (i := 4) rfl)
  have hf17 : (Cond.fieldLink RX8 17 "KeywordMatcherModel" "length" "[I").before args s = true := hts _ (List.mem_of_getElem? (i := 5) rfl)
  have hf78 : (Cond.fieldLink RX8 78 "KeywordMatcherModel" "whole" "[I").before args s = true := hts _ (List.mem_of_getElem? (i := 6) rfl)
  have hf69 : (Cond.fieldLink RX8 69 "KeywordMatcherModel" "next" "[I").before args s = true := hts _ (List.mem_of_getElem? (i := 7) rfl)
  have hf72 : (Cond.fieldLink RX8 72 "KeywordMatcherModel" "skip" "[I").before args s = true := hts _ (List.mem_of_getElem? (i := 8) rfl)
  subst hsz
  have hD := hD0.self (sz := s.heap.size)
  generalize hAe : va_A (wM cI cZ cJ ad x_thrown x_buffered x_given x_isFolding x_work x_rebuilt x_streamed x_reports x_gapFrom x_gapSize x_elements x_wholeSize x_isLaid x_takenMany a_buffer a_length a_bytes a_weight a_live a_size a_list a_moved a_planned a_stream a_reportedEnd a_reportedKeyword a_starts a_keywordAt a_element a_long1 a_head a_tail a_next a_skip a_last a_whole a_edges a_covers a_weighs a_numbers a_takes a_takenAt) s.heap.size = Az at hD ⊢
  have hA : ∀ q : Nat, s.heap.size ≤ q → Az q := fun q h => by rw [← hAe]; exact Or.inr h
  clear hAe
  have hSz : va_S Az s.heap s.heap [] := va_S.rf
  obtain ⟨wz, hw1⟩ : ∃ z : va_W, z = (wM cI cZ cJ ad x_thrown x_buffered x_given x_isFolding x_work x_rebuilt x_streamed x_reports x_gapFrom x_gapSize y_x_elements y_x_wholeSize y_x_isLaid x_takenMany a_buffer a_length a_bytes a_weight a_live a_size a_list a_moved a_planned a_stream a_reportedEnd a_reportedKeyword a_starts a_keywordAt y_a_element y_a_long1 y_a_head y_a_tail y_a_next y_a_skip y_a_last y_a_whole y_a_edges a_covers a_weighs a_numbers a_takes a_takenAt) := ⟨_, rfl⟩
  rw [← hw1]
  have hl := lv_entry ([.ref (ad 0)]) (n := 4) (Nat.le_of_ble_eq_true rfl)
  rw [show entryFrame m args 4 = entryFrame m ([.ref (ad 0)] : List Value).toArray 4 from by rw [hav], lg_entry_eq]
  generalize (lg_sl ([.ref (ad 0)]) ++ List.replicate (4 - (lg_sl ([.ref (ad 0)])).length) Slot.unset).toArray = ls at hl ⊢
  have hl : lv_has ls 4 [(0, .ref (ad 0))] := hl
  unfold s_X8_laysWhole at hs
  have Lz22 : ∀ (fu : Nat) (x_elements : Int) (x_wholeSize : Int) (x_isLaid : Int) (a_element : (Int → Int)) (a_long1 : (Int → Int)) (a_head : (Int → Int)) (a_tail : (Int → Int)) (a_next : (Int → Int)) (a_skip : (Int → Int)) (a_last : (Int → Int)) (a_whole : (Int → Int)) (a_edges : (Int → Int)) (y0 : Int) (y1 : (Int → Int)) (y2 : (Int → Int)) (y3 : (Int → Int)) (y4 : (Int → Int)) (y5 : (Int → Int)) (y6 : (Int → Int)) (y7 : (Int → Int)) (y8 : (Int → Int)), s_X8_laysWhole_22 fu x_isFolding x_elements a_element a_long1 a_head a_tail a_next a_skip a_last a_edges = some (y0, y1, y2, y3, y4, y5, y6, y7, y8) → ∀ (Hz : Heap) (lz : List Loc), va_P D vwCl (wM cI cZ cJ ad x_thrown x_buffered x_given x_isFolding x_work x_rebuilt x_streamed x_reports x_gapFrom x_gapSize x_elements x_wholeSize x_isLaid x_takenMany a_buffer a_length a_bytes a_weight a_live a_size a_list a_moved a_planned a_stream a_reportedEnd a_reportedKeyword a_starts a_keywordAt a_element a_long1 a_head a_tail a_next a_skip a_last a_whole a_edges a_covers a_weighs a_numbers a_takes a_takenAt) Hz → va_D Az (wM cI cZ cJ ad x_thrown x_buffered x_given x_isFolding x_work x_rebuilt x_streamed x_reports x_gapFrom x_gapSize x_elements x_wholeSize x_isLaid x_takenMany a_buffer a_length a_bytes a_weight a_live a_size a_list a_moved a_planned a_stream a_reportedEnd a_reportedKeyword a_starts a_keywordAt a_element a_long1 a_head a_tail a_next a_skip a_last a_whole a_edges a_covers a_weighs a_numbers a_takes a_takenAt) → va_S Az s.heap Hz lz → ∀ ls : Array Slot, lv_has ls 4 [(0, .ref (ad 0))] → (∀ (Hz : Heap) (lz : List Loc), va_P D vwCl (wM cI cZ cJ ad x_thrown x_buffered x_given x_isFolding x_work x_rebuilt x_streamed x_reports x_gapFrom x_gapSize y0 x_wholeSize x_isLaid x_takenMany a_buffer a_length a_bytes a_weight a_live a_size a_list a_moved a_planned a_stream a_reportedEnd a_reportedKeyword a_starts a_keywordAt y1 y2 y3 y4 y5 y6 y7 a_whole y8 a_covers a_weighs a_numbers a_takes a_takenAt) Hz → va_D Az (wM cI cZ cJ ad x_thrown x_buffered x_given x_isFolding x_work x_rebuilt x_streamed x_reports x_gapFrom x_gapSize y0 x_wholeSize x_isLaid x_takenMany a_buffer a_length a_bytes a_weight a_live a_size a_list a_moved a_planned a_stream a_reportedEnd a_reportedKeyword a_starts a_keywordAt y1 y2 y3 y4 y5 y6 y7 a_whole y8 a_covers a_weighs a_numbers a_takes a_takenAt) → va_S Az s.heap Hz lz → ∀ ls : Array Slot, lv_has ls 4 [(0, .ref (ad 0))] → W p l e (headSpec wsX8_laysWhole rm_X8_laysWhole).room s m args below meth c Hz lz 0 0 (MQ below (QW D vwCl none wz Az) args s 0 0 Az) (F0 m 37 ls [])) → W p l e (headSpec wsX8_laysWhole rm_X8_laysWhole).room s m args below meth c Hz lz 0 0 (MQ below (QW D vwCl none wz Az) args s 0 0 Az) (F0 m 22 ls []) := by
    intro fu
    induction fu with
    | zero => intro x_elements x_wholeSize x_isLaid a_element a_long1 a_head a_tail a_next a_skip a_last a_whole a_edges y0 y1 y2 y3 y4 y5 y6 y7 y8 hs; cases hs
    | succ fu ih =>
      intro x_elements x_wholeSize x_isLaid a_element a_long1 a_head a_tail a_next a_skip a_last a_whole a_edges y0 y1 y2 y3 y4 y5 y6 y7 y8 hs Hz lz hP hD hSz ls hl kx
      rw [s_X8_laysWhole_22_s] at hs
      refine lv_aload_n hx hb dX8_laysWhole_22 rfl (lv_at hl 0 rfl) ?_
      refine va_get (ci := 8) (v := .int (iI x_elements)) (C := RX8) (T := TX8) (N := 42) hx hb hts hiX8 hown hK hP 0 rfl rfl 32 (by decide) hf241 (fun _ h9 => h9) rfl dX8_laysWhole_23 ?_
      refine k_iconst (n := 1) hx hb dX8_laysWhole_26 ?_
      refine k_icmp_le (tgt := 37) hx hb hs dX8_laysWhole_27 (by decide) (fun hs => ?_) (fun hs => ?_)
      · refine lv_aload_n hx hb dX8_laysWhole_30 rfl (lv_at hl 0 rfl) ?_
        obtain ⟨vz8, vz9, vz10, vz11, vz12, vz13, vz14, vz15, vz16, hcz, hs⟩ := bd9_some hs
        refine k_wVs (As := []) (rest := []) (st1 := []) (w1 := (wM cI cZ cJ ad x_thrown x_buffered x_given x_isFolding x_work x_rebuilt x_streamed x_reports x_gapFrom x_gapSize vz8 x_wholeSize x_isLaid x_takenMany a_buffer a_length a_bytes a_weight a_live a_size a_list a_moved a_planned a_stream a_reportedEnd a_reportedKeyword a_starts a_keywordAt vz9 vz10 vz11 vz12 vz13 vz14 vz15 a_whole vz16 a_covers a_weighs a_numbers a_takes a_takenAt)) ⟨hx, hb, hml, hown, hts⟩ hK hP hD hSz hA (c_X8_joinsBest l D cI cZ cJ hcz) (cwV 0 hts gX8_laysWhole_X8_joinsBest rfl rfl rfl (by decide +kernel) ⟨Nat.le_of_ble_eq_true rfl, Nat.le_of_ble_eq_true rfl⟩) 0 rfl rfl rfl rfl rfl hl.1 rfl (lv_room (Nat.le_of_ble_eq_true rfl)) dX8_laysWhole_31 ⟨Nat.zero_le _, Nat.zero_le _⟩ rfl (fun Hz lz hP hD hSz => ?_)
        have hP : va_P D vwCl (wM cI cZ cJ ad x_thrown x_buffered x_given x_isFolding x_work x_rebuilt x_streamed x_reports x_gapFrom x_gapSize vz8 x_wholeSize x_isLaid x_takenMany a_buffer a_length a_bytes a_weight a_live a_size a_list a_moved a_planned a_stream a_reportedEnd a_reportedKeyword a_starts a_keywordAt vz9 vz10 vz11 vz12 vz13 vz14 vz15 a_whole vz16 a_covers a_weighs a_numbers a_takes a_takenAt) Hz := hP
        have hD : va_D Az (wM cI cZ cJ ad x_thrown x_buffered x_given x_isFolding x_work x_rebuilt x_streamed x_reports x_gapFrom x_gapSize vz8 x_wholeSize x_isLaid x_takenMany a_buffer a_length a_bytes a_weight a_live a_size a_list a_moved a_planned a_stream a_reportedEnd a_reportedKeyword a_starts a_keywordAt vz9 vz10 vz11 vz12 vz13 vz14 vz15 a_whole vz16 a_covers a_weighs a_numbers a_takes a_takenAt) := hD
        refine lv_goto (tgt := 22) hx hb dX8_laysWhole_34 (by decide) ?_
        exact ih vz8 x_wholeSize x_isLaid vz9 vz10 vz11 vz12 vz13 vz14 vz15 a_whole vz16 y0 y1 y2 y3 y4 y5 y6 y7 y8 hs Hz lz hP hD hSz ls (lv_sub hl [0] rfl) kx
      · cases hs
        exact kx Hz lz hP hD hSz ls (lv_sub hl [0] rfl)
  have Lz61 : ∀ (fu : Nat) (x_elements : Int) (x_wholeSize : Int) (x_isLaid : Int) (a_element : (Int → Int)) (a_long1 : (Int → Int)) (a_head : (Int → Int)) (a_tail : (Int → Int)) (a_next : (Int → Int)) (a_skip : (Int → Int)) (a_last : (Int → Int)) (a_whole : (Int → Int)) (a_edges : (Int → Int)) (l1 : Int) (l2 : Int) (l3 : Int) (y0 : Int) (y1 : (Int → Int)), s_X8_laysWhole_61 fu x_wholeSize a_length a_bytes a_whole l1 l2 l3 = some (y0, y1) → ∀ (Hz : Heap) (lz : List Loc), va_P D vwCl (wM cI cZ cJ ad x_thrown x_buffered x_given x_isFolding x_work x_rebuilt x_streamed x_reports x_gapFrom x_gapSize x_elements x_wholeSize x_isLaid x_takenMany a_buffer a_length a_bytes a_weight a_live a_size a_list a_moved a_planned a_stream a_reportedEnd a_reportedKeyword a_starts a_keywordAt a_element a_long1 a_head a_tail a_next a_skip a_last a_whole a_edges a_covers a_weighs a_numbers a_takes a_takenAt) Hz → va_D Az (wM cI cZ cJ ad x_thrown x_buffered x_given x_isFolding x_work x_rebuilt x_streamed x_reports x_gapFrom x_gapSize x_elements x_wholeSize x_isLaid x_takenMany a_buffer a_length a_bytes a_weight a_live a_size a_list a_moved a_planned a_stream a_reportedEnd a_reportedKeyword a_starts a_keywordAt a_element a_long1 a_head a_tail a_next a_skip a_last a_whole a_edges a_covers a_weighs a_numbers a_takes a_takenAt) → va_S Az s.heap Hz lz → ∀ ls : Array Slot, lv_has ls 4 [(0, .ref (ad 0)), (1, .int (iI l1)), (2, .int (iI l2)), (3, .int (iI l3))] → (∀ (Hz : Heap) (lz : List Loc), va_P D vwCl (wM cI cZ cJ ad x_thrown x_buffered x_given x_isFolding x_work x_rebuilt x_streamed x_reports x_gapFrom x_gapSize x_elements y0 x_isLaid x_takenMany a_buffer a_length a_bytes a_weight a_live a_size a_list a_moved a_planned a_stream a_reportedEnd a_reportedKeyword a_starts a_keywordAt a_element a_long1 a_head a_tail a_next a_skip a_last y1 a_edges a_covers a_weighs a_numbers a_takes a_takenAt) Hz → va_D Az (wM cI cZ cJ ad x_thrown x_buffered x_given x_isFolding x_work x_rebuilt x_streamed x_reports x_gapFrom x_gapSize x_elements y0 x_isLaid x_takenMany a_buffer a_length a_bytes a_weight a_live a_size a_list a_moved a_planned a_stream a_reportedEnd a_reportedKeyword a_starts a_keywordAt a_element a_long1 a_head a_tail a_next a_skip a_last y1 a_edges a_covers a_weighs a_numbers a_takes a_takenAt) → va_S Az s.heap Hz lz → ∀ ls : Array Slot, lv_has ls 4 [(0, .ref (ad 0)), (1, .int (iI l1)), (2, .int (iI l2))] → W p l e (headSpec wsX8_laysWhole rm_X8_laysWhole).room s m args below meth c Hz lz 0 0 (MQ below (QW D vwCl none wz Az) args s 0 0 Az) (F0 m 102 ls [])) → W p l e (headSpec wsX8_laysWhole rm_X8_laysWhole).room s m args below meth c Hz lz 0 0 (MQ below (QW D vwCl none wz Az) args s 0 0 Az) (F0 m 61 ls []) := by
    intro fu
    induction fu with
    | zero => intro x_elements x_wholeSize x_isLaid a_element a_long1 a_head a_tail a_next a_skip a_last a_whole a_edges l1 l2 l3 y0 y1 hs; cases hs
    | succ fu ih =>
      intro x_elements x_wholeSize x_isLaid a_element a_long1 a_head a_tail a_next a_skip a_last a_whole a_edges l1 l2 l3 y0 y1 hs Hz lz hP hD hSz ls hl kx
      rw [s_X8_laysWhole_61_s] at hs
      refine lv_iload_n hx hb dX8_laysWhole_61 rfl (lv_at hl 3 rfl) ?_
      refine lv_aload_n hx hb dX8_laysWhole_62 rfl (lv_at hl 0 rfl) ?_
      refine va_get (ci := 8) (v := .ref (ad 2)) (C := RX8) (T := TX8) (N := 42) hx hb hts hiX8 hown hK hP 0 rfl rfl 3 (by decide) hf17 (fun _ h9 => h9) rfl dX8_laysWhole_63 ?_
      refine lv_iload_n hx hb dX8_laysWhole_66 rfl (lv_at hl 2 rfl) ?_
      refine k_iald hx hb hK hP 2 0 rfl rfl (Nat.le_of_ble_eq_true rfl) hs dX8_laysWhole_67 (fun vz27 hs => ?_)
      refine k_icmp_ge (tgt := 102) hx hb hs dX8_laysWhole_68 (by decide) (fun hs => ?_) (fun hs => ?_)
      · refine lv_aload_n hx hb dX8_laysWhole_71 rfl (lv_at hl 0 rfl) ?_
        refine va_get (ci := 8) (v := .ref (ad 22)) (C := RX8) (T := TX8) (N := 42) hx hb hts hiX8 hown hK hP 0 rfl rfl 31 (by decide) hf78 (fun _ h9 => h9) rfl dX8_laysWhole_72 ?_
        refine lv_aload_n hx hb dX8_laysWhole_75 rfl (lv_at hl 0 rfl) ?_
        refine va_get (ci := 8) (v := .int (iI x_wholeSize)) (C := RX8) (T := TX8) (N := 42) hx hb hts hiX8 hown hK hP 0 rfl rfl 33 (by decide) hf263 (fun _ h9 => h9) rfl dX8_laysWhole_76 ?_
        refine lv_aload_n hx hb dX8_laysWhole_79 rfl (lv_at hl 0 rfl) ?_
        refine lv_iload_n hx hb dX8_laysWhole_80 rfl (lv_at hl 2 rfl) ?_
        refine lv_iload_n hx hb dX8_laysWhole_81 rfl (lv_at hl 3 rfl) ?_
        obtain ⟨vz28, hcz, hs⟩ := bd1_some hs
        refine k_rV (As := [.int (iI l2), .int (iI l3)]) (rest := [.int (iI x_wholeSize), .ref (ad 22)]) (st1 := [.int (iI vz28), .int (iI x_wholeSize), .ref (ad 22)]) ⟨hx, hb, hml, hown, hts⟩ hK hP (c_X8_byteOf l D cI cZ cJ hcz) (cwV 2 hts gX8_laysWhole_X8_byteOf rfl rfl rfl (by decide +kernel) ⟨Nat.le_of_ble_eq_true rfl, Nat.le_of_ble_eq_true rfl⟩) 0 rfl rfl rfl rfl hl.1 rfl (lv_room (Nat.le_of_ble_eq_true rfl)) dX8_laysWhole_82 ⟨Nat.zero_le _, Nat.zero_le _⟩ rfl ?_
        refine k_iast hx hb hK hP hD hSz 22 0 rfl rfl (Nat.le_of_ble_eq_true rfl) hs dX8_laysWhole_85 (fun Hz lz hP hD hSz hs => ?_)
        have hP : va_P D vwCl (wM cI cZ cJ ad x_thrown x_buffered x_given x_isFolding x_work x_rebuilt x_streamed x_reports x_gapFrom x_gapSize x_elements x_wholeSize x_isLaid x_takenMany a_buffer a_length a_bytes a_weight a_live a_size a_list a_moved a_planned a_stream a_reportedEnd a_reportedKeyword a_starts a_keywordAt a_element a_long1 a_head a_tail a_next a_skip a_last (upA a_whole x_wholeSize vz28) a_edges a_covers a_weighs a_numbers a_takes a_takenAt) Hz := hP
        have hD : va_D Az (wM cI cZ cJ ad x_thrown x_buffered x_given x_isFolding x_work x_rebuilt x_streamed x_reports x_gapFrom x_gapSize x_elements x_wholeSize x_isLaid x_takenMany a_buffer a_length a_bytes a_weight a_live a_size a_list a_moved a_planned a_stream a_reportedEnd a_reportedKeyword a_starts a_keywordAt a_element a_long1 a_head a_tail a_next a_skip a_last (upA a_whole x_wholeSize vz28) a_edges a_covers a_weighs a_numbers a_takes a_takenAt) := hD
        refine lv_aload_n hx hb dX8_laysWhole_86 rfl (lv_at hl 0 rfl) ?_
        refine lv_dup hx hb dX8_laysWhole_87 rfl ?_
        refine va_get (ci := 8) (v := .int (iI x_wholeSize)) (C := RX8) (T := TX8) (N := 42) hx hb hts hiX8 hown hK hP 0 rfl rfl 33 (by decide) hf263 (fun _ h9 => h9) rfl dX8_laysWhole_88 ?_
        refine k_iconst (n := 1) hx hb dX8_laysWhole_91 ?_
        refine k_iadd hx hb dX8_laysWhole_92 ?_
        refine va_put (ci := 8) (v := .int (iI (x_wholeSize + 1))) (ty := .int) (C := RX8) (T := TX8) (N := 42) hx hb hts hiX8 tyX8 tyX8_ok nmX8 hown hK hP hD hSz 0 rfl rfl 33 (by decide) hf263 (fun _ h9 => h9) rfl (by decide +kernel) rfl rfl (Nat.le_of_ble_eq_true rfl) dX8_laysWhole_93 (fun Hz lz hP hD hSz => ?_)
        have hP : va_P D vwCl (wM cI cZ cJ ad x_thrown x_buffered x_given x_isFolding x_work x_rebuilt x_streamed x_reports x_gapFrom x_gapSize x_elements (x_wholeSize + 1) x_isLaid x_takenMany a_buffer a_length a_bytes a_weight a_live a_size a_list a_moved a_planned a_stream a_reportedEnd a_reportedKeyword a_starts a_keywordAt a_element a_long1 a_head a_tail a_next a_skip a_last (upA a_whole x_wholeSize vz28) a_edges a_covers a_weighs a_numbers a_takes a_takenAt) Hz := hP
        have hD : va_D Az (wM cI cZ cJ ad x_thrown x_buffered x_given x_isFolding x_work x_rebuilt x_streamed x_reports x_gapFrom x_gapSize x_elements (x_wholeSize + 1) x_isLaid x_takenMany a_buffer a_length a_bytes a_weight a_live a_size a_list a_moved a_planned a_stream a_reportedEnd a_reportedKeyword a_starts a_keywordAt a_element a_long1 a_head a_tail a_next a_skip a_last (upA a_whole x_wholeSize vz28) a_edges a_covers a_weighs a_numbers a_takes a_takenAt) := hD
        refine k_iinc (x := l3) (k := 3) (lv' := [(3, .int (iI (l3 + 1))), (0, .ref (ad 0)), (1, .int (iI l1)), (2, .int (iI l2))]) hx hb dX8_laysWhole_96 hl rfl (by decide) rfl (fun ls hl => ?_)
        refine lv_goto (tgt := 61) hx hb dX8_laysWhole_99 (by decide) ?_
        exact ih x_elements (x_wholeSize + 1) x_isLaid a_element a_long1 a_head a_tail a_next a_skip a_last (upA a_whole x_wholeSize vz28) a_edges l1 l2 (l3 + 1) y0 y1 hs Hz lz hP hD hSz ls (lv_sub hl [1, 2, 3, 0] rfl) kx
      · cases hs
        exact kx Hz lz hP hD hSz ls (lv_sub hl [0, 1, 2] rfl)
  have Lz54 : ∀ (fu : Nat) (x_elements : Int) (x_wholeSize : Int) (x_isLaid : Int) (a_element : (Int → Int)) (a_long1 : (Int → Int)) (a_head : (Int → Int)) (a_tail : (Int → Int)) (a_next : (Int → Int)) (a_skip : (Int → Int)) (a_last : (Int → Int)) (a_whole : (Int → Int)) (a_edges : (Int → Int)) (l1 : Int) (l2 : Int) (y0 : Int) (y1 : (Int → Int)), s_X8_laysWhole_54 fu x_wholeSize a_length a_bytes a_next a_skip a_whole l1 l2 = some (y0, y1) → ∀ (Hz : Heap) (lz : List Loc), va_P D vwCl (wM cI cZ cJ ad x_thrown x_buffered x_given x_isFolding x_work x_rebuilt x_streamed x_reports x_gapFrom x_gapSize x_elements x_wholeSize x_isLaid x_takenMany a_buffer a_length a_bytes a_weight a_live a_size a_list a_moved a_planned a_stream a_reportedEnd a_reportedKeyword a_starts a_keywordAt a_element a_long1 a_head a_tail a_next a_skip a_last a_whole a_edges a_covers a_weighs a_numbers a_takes a_takenAt) Hz → va_D Az (wM cI cZ cJ ad x_thrown x_buffered x_given x_isFolding x_work x_rebuilt x_streamed x_reports x_gapFrom x_gapSize x_elements x_wholeSize x_isLaid x_takenMany a_buffer a_length a_bytes a_weight a_live a_size a_list a_moved a_planned a_stream a_reportedEnd a_reportedKeyword a_starts a_keywordAt a_element a_long1 a_head a_tail a_next a_skip a_last a_whole a_edges a_covers a_weighs a_numbers a_takes a_takenAt) → va_S Az s.heap Hz lz → ∀ ls : Array Slot, lv_has ls 4 [(0, .ref (ad 0)), (1, .int (iI l1)), (2, .int (iI l2))] → (∀ (Hz : Heap) (lz : List Loc), va_P D vwCl (wM cI cZ cJ ad x_thrown x_buffered x_given x_isFolding x_work x_rebuilt x_streamed x_reports x_gapFrom x_gapSize x_elements y0 x_isLaid x_takenMany a_buffer a_length a_bytes a_weight a_live a_size a_list a_moved a_planned a_stream a_reportedEnd a_reportedKeyword a_starts a_keywordAt a_element a_long1 a_head a_tail a_next a_skip a_last y1 a_edges a_covers a_weighs a_numbers a_takes a_takenAt) Hz → va_D Az (wM cI cZ cJ ad x_thrown x_buffered x_given x_isFolding x_work x_rebuilt x_streamed x_reports x_gapFrom x_gapSize x_elements y0 x_isLaid x_takenMany a_buffer a_length a_bytes a_weight a_live a_size a_list a_moved a_planned a_stream a_reportedEnd a_reportedKeyword a_starts a_keywordAt a_element a_long1 a_head a_tail a_next a_skip a_last y1 a_edges a_covers a_weighs a_numbers a_takes a_takenAt) → va_S Az s.heap Hz lz → ∀ ls : Array Slot, lv_has ls 4 [] → W p l e (headSpec wsX8_laysWhole rm_X8_laysWhole).room s m args below meth c Hz lz 0 0 (MQ below (QW D vwCl none wz Az) args s 0 0 Az) (F0 m 163 ls [])) → W p l e (headSpec wsX8_laysWhole rm_X8_laysWhole).room s m args below meth c Hz lz 0 0 (MQ below (QW D vwCl none wz Az) args s 0 0 Az) (F0 m 54 ls []) := by
    intro fu
    induction fu with
    | zero => intro x_elements x_wholeSize x_isLaid a_element a_long1 a_head a_tail a_next a_skip a_last a_whole a_edges l1 l2 y0 y1 hs; cases hs
    | succ fu ih =>
      intro x_elements x_wholeSize x_isLaid a_element a_long1 a_head a_tail a_next a_skip a_last a_whole a_edges l1 l2 y0 y1 hs Hz lz hP hD hSz ls hl kx
      rw [s_X8_laysWhole_54_s] at hs
      refine lv_iload_n hx hb dX8_laysWhole_54 rfl (lv_at hl 2 rfl) ?_
      refine k_iconst (n := (-1)) hx hb dX8_laysWhole_55 ?_
      refine k_icmp_eq (tgt := 163) hx hb hs dX8_laysWhole_56 (by decide) (fun hs => ?_) (fun hs => ?_)
      · cases hs
        exact kx Hz lz hP hD hSz ls (lv_sub hl [] rfl)
      · refine lv_iload_n hx hb dX8_laysWhole_59 rfl (lv_at hl 1 rfl) ?_
        refine lv_istore_n (lv' := [(3, .int (iI l1)), (0, .ref (ad 0)), (1, .int (iI l1)), (2, .int (iI l2))]) hx hb dX8_laysWhole_60 rfl hl (by decide) rfl (fun ls hl => ?_)
        obtain ⟨ez29, ez30, hq, hs⟩ := bd2_some hs
        refine Lz61 FU x_elements x_wholeSize x_isLaid a_element a_long1 a_head a_tail a_next a_skip a_last a_whole a_edges l1 l2 l1 ez29 ez30 hq Hz lz hP hD hSz ls (lv_sub hl [1, 2, 3, 0] rfl) ?_
        intro Hz lz hP hD hSz ls hl
        refine lv_iload_n hx hb dX8_laysWhole_102 rfl (lv_at hl 1 rfl) ?_
        refine lv_aload_n hx hb dX8_laysWhole_103 rfl (lv_at hl 0 rfl) ?_
        refine va_get (ci := 8) (v := .ref (ad 2)) (C := RX8) (T := TX8) (N := 42) hx hb hts hiX8 hown hK hP 0 rfl rfl 3 (by decide) hf17 (fun _ h9 => h9) rfl dX8_laysWhole_104 ?_
        refine lv_iload_n hx hb dX8_laysWhole_107 rfl (lv_at hl 2 rfl) ?_
        refine k_iald hx hb hK hP 2 0 rfl rfl (Nat.le_of_ble_eq_true rfl) hs dX8_laysWhole_108 (fun vz31 hs => ?_)
        refine k_icmp_le (tgt := 123) hx hb hs dX8_laysWhole_109 (by decide) (fun hs => ?_) (fun hs => ?_)
        · refine lv_iload_n hx hb dX8_laysWhole_112 rfl (lv_at hl 1 rfl) ?_
          refine lv_aload_n hx hb dX8_laysWhole_113 rfl (lv_at hl 0 rfl) ?_
          refine va_get (ci := 8) (v := .ref (ad 2)) (C := RX8) (T := TX8) (N := 42) hx hb hts hiX8 hown hK hP 0 rfl rfl 3 (by decide) hf17 (fun _ h9 => h9) rfl dX8_laysWhole_114 ?_
          refine lv_iload_n hx hb dX8_laysWhole_117 rfl (lv_at hl 2 rfl) ?_
          refine k_iald hx hb hK hP 2 0 rfl rfl (Nat.le_of_ble_eq_true rfl) hs dX8_laysWhole_118 (fun vz32 hs => ?_)
          refine k_isub hx hb dX8_laysWhole_119 ?_
          refine lv_goto (tgt := 124) hx hb dX8_laysWhole_120 (by decide) ?_
          refine lv_istore_n (lv' := [(3, .int (iI (l1 - vz32))), (0, .ref (ad 0)), (1, .int (iI l1)), (2, .int (iI l2))]) hx hb dX8_laysWhole_124 rfl hl (by decide) rfl (fun ls hl => ?_)
          refine lv_aload_n hx hb dX8_laysWhole_125 rfl (lv_at hl 1 rfl) ?_
          refine va_get (ci := 8) (v := .ref (ad 19)) (C := RX8) (T := TX8) (N := 42) hx hb hts hiX8 hown hK hP 0 rfl rfl 28 (by decide) hf69 (fun _ h9 => h9) rfl dX8_laysWhole_126 ?_
          refine lv_iload_n hx hb dX8_laysWhole_129 rfl (lv_at hl 3 rfl) ?_
          refine k_iald hx hb hK hP 19 0 rfl rfl (Nat.le_of_ble_eq_true rfl) hs dX8_laysWhole_130 (fun vz33 hs => ?_)
          refine k_iconst (n := (-1)) hx hb dX8_laysWhole_131 ?_
          refine k_icmp_ne (tgt := 139) hx hb hs dX8_laysWhole_132 (by decide) (fun hs => ?_) (fun hs => ?_)
          · refine k_iconst (n := 0) hx hb dX8_laysWhole_135 ?_
            refine lv_goto (tgt := 152) hx hb dX8_laysWhole_136 (by decide) ?_
            refine lv_istore_n (lv' := [(1, .int (iI 0)), (3, .int (iI (l1 - vz32))), (0, .ref (ad 0)), (2, .int (iI l2))]) hx hb dX8_laysWhole_152 rfl hl (by decide) rfl (fun ls hl => ?_)
            refine lv_aload_n hx hb dX8_laysWhole_153 rfl (lv_at hl 2 rfl) ?_
            refine va_get (ci := 8) (v := .ref (ad 19)) (C := RX8) (T := TX8) (N := 42) hx hb hts hiX8 hown hK hP 0 rfl rfl 28 (by decide) hf69 (fun _ h9 => h9) rfl dX8_laysWhole_154 ?_
            refine lv_iload_n hx hb dX8_laysWhole_157 rfl (lv_at hl 3 rfl) ?_
            refine k_iald hx hb hK hP 19 0 rfl rfl (Nat.le_of_ble_eq_true rfl) hs dX8_laysWhole_158 (fun vz34 hs => ?_)
            refine lv_istore_n (lv' := [(2, .int (iI vz34)), (1, .int (iI 0)), (3, .int (iI (l1 - vz32))), (0, .ref (ad 0))]) hx hb dX8_laysWhole_159 rfl hl (by decide) rfl (fun ls hl => ?_)
            refine lv_goto (tgt := 54) hx hb dX8_laysWhole_160 (by decide) ?_
            exact ih x_elements ez29 x_isLaid a_element a_long1 a_head a_tail a_next a_skip a_last ez30 a_edges 0 vz34 y0 y1 hs Hz lz hP hD hSz ls (lv_sub hl [3, 1, 0] rfl) kx
          · refine lv_aload_n hx hb dX8_laysWhole_139 rfl (lv_at hl 1 rfl) ?_
            refine va_get (ci := 8) (v := .ref (ad 20)) (C := RX8) (T := TX8) (N := 42) hx hb hts hiX8 hown hK hP 0 rfl rfl 29 (by decide) hf72 (fun _ h9 => h9) rfl dX8_laysWhole_140 ?_
            refine lv_aload_n hx hb dX8_laysWhole_143 rfl (lv_at hl 1 rfl) ?_
            refine va_get (ci := 8) (v := .ref (ad 19)) (C := RX8) (T := TX8) (N := 42) hx hb hts hiX8 hown hK hP 0 rfl rfl 28 (by decide) hf69 (fun _ h9 => h9) rfl dX8_laysWhole_144 ?_
            refine lv_iload_n hx hb dX8_laysWhole_147 rfl (lv_at hl 3 rfl) ?_
            refine k_iald hx hb hK hP 19 0 rfl rfl (Nat.le_of_ble_eq_true rfl) hs dX8_laysWhole_148 (fun vz35 hs => ?_)
            refine k_iald hx hb hK hP 20 0 rfl rfl (Nat.le_of_ble_eq_true rfl) hs dX8_laysWhole_149 (fun vz36 hs => ?_)
            refine lv_iload_n hx hb dX8_laysWhole_150 rfl (lv_at hl 0 rfl) ?_
            refine k_iadd hx hb dX8_laysWhole_151 ?_
            refine lv_istore_n (lv' := [(1, .int (iI (vz36 + (l1 - vz32)))), (3, .int (iI (l1 - vz32))), (0, .ref (ad 0)), (2, .int (iI l2))]) hx hb dX8_laysWhole_152 rfl hl (by decide) rfl (fun ls hl => ?_)
            refine lv_aload_n hx hb dX8_laysWhole_153 rfl (lv_at hl 2 rfl) ?_
            refine va_get (ci := 8) (v := .ref (ad 19)) (C := RX8) (T := TX8) (N := 42) hx hb hts hiX8 hown hK hP 0 rfl rfl 28 (by decide) hf69 (fun _ h9 => h9) rfl dX8_laysWhole_154 ?_
            refine lv_iload_n hx hb dX8_laysWhole_157 rfl (lv_at hl 3 rfl) ?_
            refine k_iald hx hb hK hP 19 0 rfl rfl (Nat.le_of_ble_eq_true rfl) hs dX8_laysWhole_158 (fun vz37 hs => ?_)
            refine lv_istore_n (lv' := [(2, .int (iI vz37)), (1, .int (iI (vz36 + (l1 - vz32)))), (3, .int (iI (l1 - vz32))), (0, .ref (ad 0))]) hx hb dX8_laysWhole_159 rfl hl (by decide) rfl (fun ls hl => ?_)
            refine lv_goto (tgt := 54) hx hb dX8_laysWhole_160 (by decide) ?_
            exact ih x_elements ez29 x_isLaid a_element a_long1 a_head a_tail a_next a_skip a_last ez30 a_edges (vz36 + (l1 - vz32)) vz37 y0 y1 hs Hz lz hP hD hSz ls (lv_sub hl [3, 1, 0] rfl) kx
        · refine k_iconst (n := 0) hx hb dX8_laysWhole_123 ?_
          refine lv_istore_n (lv' := [(3, .int (iI 0)), (0, .ref (ad 0)), (1, .int (iI l1)), (2, .int (iI l2))]) hx hb dX8_laysWhole_124 rfl hl (by decide) rfl (fun ls hl => ?_)
          refine lv_aload_n hx hb dX8_laysWhole_125 rfl (lv_at hl 1 rfl) ?_
          refine va_get (ci := 8) (v := .ref (ad 19)) (C := RX8) (T := TX8) (N := 42) hx hb hts hiX8 hown hK hP 0 rfl rfl 28 (by decide) hf69 (fun _ h9 => h9) rfl dX8_laysWhole_126 ?_
          refine lv_iload_n hx hb dX8_laysWhole_129 rfl (lv_at hl 3 rfl) ?_
          refine k_iald hx hb hK hP 19 0 rfl rfl (Nat.le_of_ble_eq_true rfl) hs dX8_laysWhole_130 (fun vz38 hs => ?_)
          refine k_iconst (n := (-1)) hx hb dX8_laysWhole_131 ?_
          refine k_icmp_ne (tgt := 139) hx hb hs dX8_laysWhole_132 (by decide) (fun hs => ?_) (fun hs => ?_)
          · refine k_iconst (n := 0) hx hb dX8_laysWhole_135 ?_
            refine lv_goto (tgt := 152) hx hb dX8_laysWhole_136 (by decide) ?_
            refine lv_istore_n (lv' := [(1, .int (iI 0)), (3, .int (iI 0)), (0, .ref (ad 0)), (2, .int (iI l2))]) hx hb dX8_laysWhole_152 rfl hl (by decide) rfl (fun ls hl => ?_)
            refine lv_aload_n hx hb dX8_laysWhole_153 rfl (lv_at hl 2 rfl) ?_
            refine va_get (ci := 8) (v := .ref (ad 19)) (C := RX8) (T := TX8) (N := 42) hx hb hts hiX8 hown hK hP 0 rfl rfl 28 (by decide) hf69 (fun _ h9 => h9) rfl dX8_laysWhole_154 ?_
            refine lv_iload_n hx hb dX8_laysWhole_157 rfl (lv_at hl 3 rfl) ?_
            refine k_iald hx hb hK hP 19 0 rfl rfl (Nat.le_of_ble_eq_true rfl) hs dX8_laysWhole_158 (fun vz39 hs => ?_)
            refine lv_istore_n (lv' := [(2, .int (iI vz39)), (1, .int (iI 0)), (3, .int (iI 0)), (0, .ref (ad 0))]) hx hb dX8_laysWhole_159 rfl hl (by decide) rfl (fun ls hl => ?_)
            refine lv_goto (tgt := 54) hx hb dX8_laysWhole_160 (by decide) ?_
            exact ih x_elements ez29 x_isLaid a_element a_long1 a_head a_tail a_next a_skip a_last ez30 a_edges 0 vz39 y0 y1 hs Hz lz hP hD hSz ls (lv_sub hl [3, 1, 0] rfl) kx
          · refine lv_aload_n hx hb dX8_laysWhole_139 rfl (lv_at hl 1 rfl) ?_
            refine va_get (ci := 8) (v := .ref (ad 20)) (C := RX8) (T := TX8) (N := 42) hx hb hts hiX8 hown hK hP 0 rfl rfl 29 (by decide) hf72 (fun _ h9 => h9) rfl dX8_laysWhole_140 ?_
            refine lv_aload_n hx hb dX8_laysWhole_143 rfl (lv_at hl 1 rfl) ?_
            refine va_get (ci := 8) (v := .ref (ad 19)) (C := RX8) (T := TX8) (N := 42) hx hb hts hiX8 hown hK hP 0 rfl rfl 28 (by decide) hf69 (fun _ h9 => h9) rfl dX8_laysWhole_144 ?_
            refine lv_iload_n hx hb dX8_laysWhole_147 rfl (lv_at hl 3 rfl) ?_
            refine k_iald hx hb hK hP 19 0 rfl rfl (Nat.le_of_ble_eq_true rfl) hs dX8_laysWhole_148 (fun vz40 hs => ?_)
            refine k_iald hx hb hK hP 20 0 rfl rfl (Nat.le_of_ble_eq_true rfl) hs dX8_laysWhole_149 (fun vz41 hs => ?_)
            refine lv_iload_n hx hb dX8_laysWhole_150 rfl (lv_at hl 0 rfl) ?_
            refine k_iadd hx hb dX8_laysWhole_151 ?_
            refine lv_istore_n (lv' := [(1, .int (iI (vz41 + 0))), (3, .int (iI 0)), (0, .ref (ad 0)), (2, .int (iI l2))]) hx hb dX8_laysWhole_152 rfl hl (by decide) rfl (fun ls hl => ?_)
            refine lv_aload_n hx hb dX8_laysWhole_153 rfl (lv_at hl 2 rfl) ?_
            refine va_get (ci := 8) (v := .ref (ad 19)) (C := RX8) (T := TX8) (N := 42) hx hb hts hiX8 hown hK hP 0 rfl rfl 28 (by decide) hf69 (fun _ h9 => h9) rfl dX8_laysWhole_154 ?_
            refine lv_iload_n hx hb dX8_laysWhole_157 rfl (lv_at hl 3 rfl) ?_
            refine k_iald hx hb hK hP 19 0 rfl rfl (Nat.le_of_ble_eq_true rfl) hs dX8_laysWhole_158 (fun vz42 hs => ?_)
            refine lv_istore_n (lv' := [(2, .int (iI vz42)), (1, .int (iI (vz41 + 0))), (3, .int (iI 0)), (0, .ref (ad 0))]) hx hb dX8_laysWhole_159 rfl hl (by decide) rfl (fun ls hl => ?_)
            refine lv_goto (tgt := 54) hx hb dX8_laysWhole_160 (by decide) ?_
            exact ih x_elements ez29 x_isLaid a_element a_long1 a_head a_tail a_next a_skip a_last ez30 a_edges (vz41 + 0) vz42 y0 y1 hs Hz lz hP hD hSz ls (lv_sub hl [3, 1, 0] rfl) kx
  refine (?_ : ∀ (Hz : Heap) (lz : List Loc), va_P D vwCl (wM cI cZ cJ ad x_thrown x_buffered x_given x_isFolding x_work x_rebuilt x_streamed x_reports x_gapFrom x_gapSize x_elements x_wholeSize x_isLaid x_takenMany a_buffer a_length a_bytes a_weight a_live a_size a_list a_moved a_planned a_stream a_reportedEnd a_reportedKeyword a_starts a_keywordAt a_element a_long1 a_head a_tail a_next a_skip a_last a_whole a_edges a_covers a_weighs a_numbers a_takes a_takenAt) Hz → va_D Az (wM cI cZ cJ ad x_thrown x_buffered x_given x_isFolding x_work x_rebuilt x_streamed x_reports x_gapFrom x_gapSize x_elements x_wholeSize x_isLaid x_takenMany a_buffer a_length a_bytes a_weight a_live a_size a_list a_moved a_planned a_stream a_reportedEnd a_reportedKeyword a_starts a_keywordAt a_element a_long1 a_head a_tail a_next a_skip a_last a_whole a_edges a_covers a_weighs a_numbers a_takes a_takenAt) → va_S Az s.heap Hz lz → W p l e (headSpec wsX8_laysWhole rm_X8_laysWhole).room s m args below meth c Hz lz 0 0 (MQ below (QW D vwCl none wz Az) args s 0 0 Az) (F0 m 0 ls [])) s.heap [] hP hD hSz
  intro Hz lz hP hD hSz
  refine lv_aload_n hx hb dX8_laysWhole_0 rfl (lv_at hl 0 rfl) ?_
  refine va_get (ci := 8) (v := .int (iI x_isLaid)) (C := RX8) (T := TX8) (N := 42) hx hb hts hiX8 hown hK hP 0 rfl rfl 34 (by decide) hf154 (fun _ h9 => h9) rfl dX8_laysWhole_1 ?_
  refine k_if_eq (tgt := 8) hx hb hs dX8_laysWhole_4 (by decide) (fun hs => ?_) (fun hs => ?_)
  · refine lv_aload_n hx hb dX8_laysWhole_8 rfl (lv_at hl 0 rfl) ?_
    refine k_iconst (n := 1) hx hb dX8_laysWhole_9 ?_
    refine va_put (ci := 8) (v := .int (iI 1)) (ty := .boolean) (C := RX8) (T := TX8) (N := 42) hx hb hts hiX8 tyX8 tyX8_ok nmX8 hown hK hP hD hSz 0 rfl rfl 34 (by decide) hf154 (fun _ h9 => h9) rfl (by decide +kernel) (narZ (by decide)) rfl (Nat.le_of_ble_eq_true rfl) dX8_laysWhole_10 (fun Hz lz hP hD hSz => ?_)
    have hP : va_P D vwCl (wM cI cZ cJ ad x_thrown x_buffered x_given x_isFolding x_work x_rebuilt x_streamed x_reports x_gapFrom x_gapSize x_elements x_wholeSize 1 x_takenMany a_buffer a_length a_bytes a_weight a_live a_size a_list a_moved a_planned a_stream a_reportedEnd a_reportedKeyword a_starts a_keywordAt a_element a_long1 a_head a_tail a_next a_skip a_last a_whole a_edges a_covers a_weighs a_numbers a_takes a_takenAt) Hz := hP
    have hD : va_D Az (wM cI cZ cJ ad x_thrown x_buffered x_given x_isFolding x_work x_rebuilt x_streamed x_reports x_gapFrom x_gapSize x_elements x_wholeSize 1 x_takenMany a_buffer a_length a_bytes a_weight a_live a_size a_list a_moved a_planned a_stream a_reportedEnd a_reportedKeyword a_starts a_keywordAt a_element a_long1 a_head a_tail a_next a_skip a_last a_whole a_edges a_covers a_weighs a_numbers a_takes a_takenAt) := hD
    refine lv_aload_n hx hb dX8_laysWhole_13 rfl (lv_at hl 0 rfl) ?_
    obtain ⟨vz1, vz2, vz3, vz4, vz5, vz6, vz7, hcz, hs⟩ := bd7_some hs
    refine k_wVs (As := []) (rest := []) (st1 := []) (w1 := (wM cI cZ cJ ad x_thrown x_buffered x_given x_isFolding x_work x_rebuilt x_streamed x_reports x_gapFrom x_gapSize vz1 x_wholeSize 1 x_takenMany a_buffer a_length a_bytes a_weight a_live a_size a_list a_moved a_planned a_stream a_reportedEnd a_reportedKeyword a_starts a_keywordAt vz2 vz3 vz4 vz5 vz6 a_skip vz7 a_whole a_edges a_covers a_weighs a_numbers a_takes a_takenAt)) ⟨hx, hb, hml, hown, hts⟩ hK hP hD hSz hA (c_X8_laysElements l D cI cZ cJ hcz) (cwV 0 hts gX8_laysWhole_X8_laysElements rfl rfl rfl (by decide +kernel) ⟨Nat.le_of_ble_eq_true rfl, Nat.le_of_ble_eq_true rfl⟩) 0 rfl rfl rfl rfl rfl hl.1 rfl (lv_room (Nat.le_of_ble_eq_true rfl)) dX8_laysWhole_14 ⟨Nat.zero_le _, Nat.zero_le _⟩ rfl (fun Hz lz hP hD hSz => ?_)
    have hP : va_P D vwCl (wM cI cZ cJ ad x_thrown x_buffered x_given x_isFolding x_work x_rebuilt x_streamed x_reports x_gapFrom x_gapSize vz1 x_wholeSize 1 x_takenMany a_buffer a_length a_bytes a_weight a_live a_size a_list a_moved a_planned a_stream a_reportedEnd a_reportedKeyword a_starts a_keywordAt vz2 vz3 vz4 vz5 vz6 a_skip vz7 a_whole a_edges a_covers a_weighs a_numbers a_takes a_takenAt) Hz := hP
    have hD : va_D Az (wM cI cZ cJ ad x_thrown x_buffered x_given x_isFolding x_work x_rebuilt x_streamed x_reports x_gapFrom x_gapSize vz1 x_wholeSize 1 x_takenMany a_buffer a_length a_bytes a_weight a_live a_size a_list a_moved a_planned a_stream a_reportedEnd a_reportedKeyword a_starts a_keywordAt vz2 vz3 vz4 vz5 vz6 a_skip vz7 a_whole a_edges a_covers a_weighs a_numbers a_takes a_takenAt) := hD
    refine lv_aload_n hx hb dX8_laysWhole_17 rfl (lv_at hl 0 rfl) ?_
    refine k_iconst (n := 0) hx hb dX8_laysWhole_18 ?_
    refine va_put (ci := 8) (v := .int (iI 0)) (ty := .int) (C := RX8) (T := TX8) (N := 42) hx hb hts hiX8 tyX8 tyX8_ok nmX8 hown hK hP hD hSz 0 rfl rfl 33 (by decide) hf263 (fun _ h9 => h9) rfl (by decide +kernel) rfl rfl (Nat.le_of_ble_eq_true rfl) dX8_laysWhole_19 (fun Hz lz hP hD hSz => ?_)
    have hP : va_P D vwCl (wM cI cZ cJ ad x_thrown x_buffered x_given x_isFolding x_work x_rebuilt x_streamed x_reports x_gapFrom x_gapSize vz1 0 1 x_takenMany a_buffer a_length a_bytes a_weight a_live a_size a_list a_moved a_planned a_stream a_reportedEnd a_reportedKeyword a_starts a_keywordAt vz2 vz3 vz4 vz5 vz6 a_skip vz7 a_whole a_edges a_covers a_weighs a_numbers a_takes a_takenAt) Hz := hP
    have hD : va_D Az (wM cI cZ cJ ad x_thrown x_buffered x_given x_isFolding x_work x_rebuilt x_streamed x_reports x_gapFrom x_gapSize vz1 0 1 x_takenMany a_buffer a_length a_bytes a_weight a_live a_size a_list a_moved a_planned a_stream a_reportedEnd a_reportedKeyword a_starts a_keywordAt vz2 vz3 vz4 vz5 vz6 a_skip vz7 a_whole a_edges a_covers a_weighs a_numbers a_takes a_takenAt) := hD
    obtain ⟨ez17, ez18, ez19, ez20, ez21, ez22, ez23, ez24, ez25, hq, hs⟩ := bd9_some hs
    refine Lz22 FU vz1 0 1 vz2 vz3 vz4 vz5 vz6 a_skip vz7 a_whole a_edges ez17 ez18 ez19 ez20 ez21 ez22 ez23 ez24 ez25 hq Hz lz hP hD hSz ls (lv_sub hl [0] rfl) ?_
    intro Hz lz hP hD hSz ls hl
    refine lv_aload_n hx hb dX8_laysWhole_37 rfl (lv_at hl 0 rfl) ?_
    refine va_get (ci := 8) (v := .int (iI ez17)) (C := RX8) (T := TX8) (N := 42) hx hb hts hiX8 hown hK hP 0 rfl rfl 32 (by decide) hf241 (fun _ h9 => h9) rfl dX8_laysWhole_38 ?_
    refine k_if_ne (tgt := 45) hx hb hs dX8_laysWhole_41 (by decide) (fun hs => ?_) (fun hs => ?_)
    · cases hs
      exact k_vret_w hx hb hr hlk (by rw [hw1]; exact hP) hSz dX8_laysWhole_44 rfl
    · refine k_iconst (n := 0) hx hb dX8_laysWhole_45 ?_
      refine lv_istore_n (lv' := [(1, .int (iI 0)), (0, .ref (ad 0))]) hx hb dX8_laysWhole_46 rfl hl (by decide) rfl (fun ls hl => ?_)
      refine lv_aload_n hx hb dX8_laysWhole_47 rfl (lv_at hl 1 rfl) ?_
      refine va_get (ci := 8) (v := .ref (ad 15)) (C := RX8) (T := TX8) (N := 42) hx hb hts hiX8 hown hK hP 0 rfl rfl 24 (by decide) hf57 (fun _ h9 => h9) rfl dX8_laysWhole_48 ?_
      refine k_iconst (n := 0) hx hb dX8_laysWhole_51 ?_
      refine k_iald hx hb hK hP 15 0 rfl rfl (Nat.le_of_ble_eq_true rfl) hs dX8_laysWhole_52 (fun vz26 hs => ?_)
      refine lv_istore_n (lv' := [(2, .int (iI vz26)), (1, .int (iI 0)), (0, .ref (ad 0))]) hx hb dX8_laysWhole_53 rfl hl (by decide) rfl (fun ls hl => ?_)
      obtain ⟨ez43, ez44, hq, hs⟩ := bd2_some hs
      refine Lz54 FU ez17 0 1 ez18 ez19 ez20 ez21 ez22 ez23 ez24 a_whole ez25 0 vz26 ez43 ez44 hq Hz lz hP hD hSz ls (lv_sub hl [2, 1, 0] rfl) ?_
      intro Hz lz hP hD hSz ls hl
      cases hs
      exact k_vret_w hx hb hr hlk (by rw [hw1]; exact hP) hSz dX8_laysWhole_163 rfl
  · cases hs
    exact k_vret_w hx hb hr hlk (by rw [hw1]; exact hP) hSz dX8_laysWhole_7 rfl
/-! X8_superstringLength -/
set_option maxHeartbeats 4000000 in
set_option maxRecDepth 100000 in
theorem c_X8_superstringLength (l : Launch) (D : va_G) (cI cZ cJ : ClassId) {ad : Nat → Nat} {x_thrown : Int} {x_buffered : Int} {x_given : Int} {x_isFolding : Int} {x_work : Int} {x_rebuilt : Int} {x_streamed : Int} {x_reports : Int} {x_gapFrom : Int} {x_gapSize : Int} {x_elements : Int} {x_wholeSize : Int} {x_isLaid : Int} {x_takenMany : Int} {a_buffer : (Int → Int)} {a_length : (Int → Int)} {a_bytes : (Int → Int)} {a_weight : (Int → Int)} {a_live : (Int → Int)} {a_size : (Int → Int)} {a_list : (Int → Int)} {a_moved : (Int → Int)} {a_planned : (Int → Int)} {a_stream : (Int → Int)} {a_reportedEnd : (Int → Int)} {a_reportedKeyword : (Int → Int)} {a_starts : (Int → Int)} {a_keywordAt : (Int → Int)} {a_element : (Int → Int)} {a_long1 : (Int → Int)} {a_head : (Int → Int)} {a_tail : (Int → Int)} {a_next : (Int → Int)} {a_skip : (Int → Int)} {a_last : (Int → Int)} {a_whole : (Int → Int)} {a_edges : (Int → Int)} {a_covers : (Int → Int)} {a_weighs : (Int → Int)} {a_numbers : (Int → Int)} {a_takes : (Int → Int)} {a_takenAt : (Int → Int)} {r : Int} {y_x_thrown : Int} {y_x_elements : Int} {y_x_wholeSize : Int} {y_x_isLaid : Int} {y_a_element : (Int → Int)} {y_a_long1 : (Int → Int)} {y_a_head : (Int → Int)} {y_a_tail : (Int → Int)} {y_a_next : (Int → Int)} {y_a_skip : (Int → Int)} {y_a_last : (Int → Int)} {y_a_whole : (Int → Int)} {y_a_edges : (Int → Int)} {sz : Nat} (hs : s_X8_superstringLength x_thrown x_given x_isFolding x_elements x_wholeSize x_isLaid a_length a_bytes a_live a_element a_long1 a_head a_tail a_next a_skip a_last a_whole a_edges = some (r, y_x_thrown, y_x_elements, y_x_wholeSize, y_x_isLaid, y_a_element, y_a_long1, y_a_head, y_a_tail, y_a_next, y_a_skip, y_a_last, y_a_whole, y_a_edges)) : Met l yX8_superstringLength wsX8_superstringLength rm_X8_superstringLength (PW D vwCl [(cI, .int), (cZ, .boolean), (cJ, .long)] [.ref (ad 0)] (wM cI cZ cJ ad x_thrown x_buffered x_given x_isFolding x_work x_rebuilt x_streamed x_reports x_gapFrom x_gapSize x_elements x_wholeSize x_isLaid x_takenMany a_buffer a_length a_bytes a_weight a_live a_size a_list a_moved a_planned a_stream a_reportedEnd a_reportedKeyword a_starts a_keywordAt a_element a_long1 a_head a_tail a_next a_skip a_last a_whole a_edges a_covers a_weighs a_numbers a_takes a_takenAt) sz) (QW D vwCl (some (.int (iI r))) (wM cI cZ cJ ad y_x_thrown x_buffered x_given x_isFolding x_work x_rebuilt x_streamed x_reports x_gapFrom x_gapSize y_x_elements y_x_wholeSize y_x_isLaid x_takenMany a_buffer a_length a_bytes a_weight a_live a_size a_list a_moved a_planned a_stream a_reportedEnd a_reportedKeyword a_starts a_keywordAt y_a_element y_a_long1 y_a_head y_a_tail y_a_next y_a_skip y_a_last y_a_whole y_a_edges a_covers a_weighs a_numbers a_takes a_takenAt) (va_A (wM cI cZ cJ ad x_thrown x_buffered x_given x_isFolding x_work x_rebuilt x_streamed x_reports x_gapFrom x_gapSize x_elements x_wholeSize x_isLaid x_takenMany a_buffer a_length a_bytes a_weight a_live a_size a_list a_moved a_planned a_stream a_reportedEnd a_reportedKeyword a_starts a_keywordAt a_element a_long1 a_head a_tail a_next a_skip a_last a_whole a_edges a_covers a_weighs a_numbers a_takes a_takenAt) sz)) 0 0 (va_A (wM cI cZ cJ ad x_thrown x_buffered x_given x_isFolding x_work x_rebuilt x_streamed x_reports x_gapFrom x_gapSize x_elements x_wholeSize x_isLaid x_takenMany a_buffer a_length a_bytes a_weight a_live a_size a_list a_moved a_planned a_stream a_reportedEnd a_reportedKeyword a_starts a_keywordAt a_element a_long1 a_head a_tail a_next a_skip a_last a_whole a_edges a_covers a_weighs a_numbers a_takes a_takenAt) sz) := by
  refine Met.ofW (cc := cX8_superstringLength) (maxL := 1) (ret := (some .int)) (by decide) rfl ?_
  intro p e s m args below meth c s₁ B hml hv
  obtain ⟨hav, hsz, hP, hK, hD0⟩ := hv
  have hx := B.exec
  have hb := B.bytes
  have hr := B.returns
  have hts := atoms_spec (ws := wsX8_superstringLength) B.pre
  have hown : s.vm.findClass RX8 = some m.cls := findClass_of_methodNamed B.named
  have hlk := B.notSynchronized
  have hf1 : (Cond.fieldLink RX8 1 "KeywordMatcherModel" "thrown" "I").before args s = true := hts _ (List.mem_of_getElem? (i := 1) rfl)
  have hiX8 : ∀ w ∈ wsX80, w ∈ wsX8_superstringLength := fun w h => List.mem_cons_of_mem _ (List.mem_append_right _ h)
  have hf263 : (Cond.fieldLink RX8 263 "KeywordMatcherModel" "wholeSize" "I").before args s = true := hts _ (List.mem_of_getElem? (i := 2) rfl)
  subst hsz
  have hD := hD0.self (sz := s.heap.size)
  generalize hAe : va_A (wM cI cZ cJ ad x_thrown x_buffered x_given x_isFolding x_work x_rebuilt x_streamed x_reports x_gapFrom x_gapSize x_elements x_wholeSize x_isLaid x_takenMany a_buffer a_length a_bytes a_weight a_live a_size a_list a_moved a_planned a_stream a_reportedEnd a_reportedKeyword a_starts a_keywordAt a_element a_long1 a_head a_tail a_next a_skip a_last a_whole a_edges a_covers a_weighs a_numbers a_takes a_takenAt) s.heap.size = Az at hD ⊢
  have hA : ∀ q : Nat, s.heap.size ≤ q → Az q := fun q h => by rw [← hAe]; exact Or.inr h
  clear hAe
  have hSz : va_S Az s.heap s.heap [] := va_S.rf
  obtain ⟨wz, hw1⟩ : ∃ z : va_W, z = (wM cI cZ cJ ad y_x_thrown x_buffered x_given x_isFolding x_work x_rebuilt x_streamed x_reports x_gapFrom x_gapSize y_x_elements y_x_wholeSize y_x_isLaid x_takenMany a_buffer a_length a_bytes a_weight a_live a_size a_list a_moved a_planned a_stream a_reportedEnd a_reportedKeyword a_starts a_keywordAt y_a_element y_a_long1 y_a_head y_a_tail y_a_next y_a_skip y_a_last y_a_whole y_a_edges a_covers a_weighs a_numbers a_takes a_takenAt) := ⟨_, rfl⟩
  rw [← hw1]
  have hl := lv_entry ([.ref (ad 0)]) (n := 1) (Nat.le_of_ble_eq_true rfl)
  rw [show entryFrame m args 1 = entryFrame m ([.ref (ad 0)] : List Value).toArray 1 from by rw [hav], lg_entry_eq]
  generalize (lg_sl ([.ref (ad 0)]) ++ List.replicate (1 - (lg_sl ([.ref (ad 0)])).length) Slot.unset).toArray = ls at hl ⊢
  have hl : lv_has ls 1 [(0, .ref (ad 0))] := hl
  unfold s_X8_superstringLength at hs
  refine (?_ : ∀ (Hz : Heap) (lz : List Loc), va_P D vwCl (wM cI cZ cJ ad x_thrown x_buffered x_given x_isFolding x_work x_rebuilt x_streamed x_reports x_gapFrom x_gapSize x_elements x_wholeSize x_isLaid x_takenMany a_buffer a_length a_bytes a_weight a_live a_size a_list a_moved a_planned a_stream a_reportedEnd a_reportedKeyword a_starts a_keywordAt a_element a_long1 a_head a_tail a_next a_skip a_last a_whole a_edges a_covers a_weighs a_numbers a_takes a_takenAt) Hz → va_D Az (wM cI cZ cJ ad x_thrown x_buffered x_given x_isFolding x_work x_rebuilt x_streamed x_reports x_gapFrom x_gapSize x_elements x_wholeSize x_isLaid x_takenMany a_buffer a_length a_bytes a_weight a_live a_size a_list a_moved a_planned a_stream a_reportedEnd a_reportedKeyword a_starts a_keywordAt a_element a_long1 a_head a_tail a_next a_skip a_last a_whole a_edges a_covers a_weighs a_numbers a_takes a_takenAt) → va_S Az s.heap Hz lz → W p l e (headSpec wsX8_superstringLength rm_X8_superstringLength).room s m args below meth c Hz lz 0 0 (MQ below (QW D vwCl (some (.int (iI r))) wz Az) args s 0 0 Az) (F0 m 0 ls [])) s.heap [] hP hD hSz
  intro Hz lz hP hD hSz
  refine lv_aload_n hx hb dX8_superstringLength_0 rfl (lv_at hl 0 rfl) ?_
  refine k_iconst (n := 0) hx hb dX8_superstringLength_1 ?_
  refine va_put (ci := 8) (v := .int (iI 0)) (ty := .int) (C := RX8) (T := TX8) (N := 42) hx hb hts hiX8 tyX8 tyX8_ok nmX8 hown hK hP hD hSz 0 rfl rfl 0 (by decide) hf1 (fun _ h9 => h9) rfl (by decide +kernel) rfl rfl (Nat.le_of_ble_eq_true rfl) dX8_superstringLength_2 (fun Hz lz hP hD hSz => ?_)
  have hP : va_P D vwCl (wM cI cZ cJ ad 0 x_buffered x_given x_isFolding x_work x_rebuilt x_streamed x_reports x_gapFrom x_gapSize x_elements x_wholeSize x_isLaid x_takenMany a_buffer a_length a_bytes a_weight a_live a_size a_list a_moved a_planned a_stream a_reportedEnd a_reportedKeyword a_starts a_keywordAt a_element a_long1 a_head a_tail a_next a_skip a_last a_whole a_edges a_covers a_weighs a_numbers a_takes a_takenAt) Hz := hP
  have hD : va_D Az (wM cI cZ cJ ad 0 x_buffered x_given x_isFolding x_work x_rebuilt x_streamed x_reports x_gapFrom x_gapSize x_elements x_wholeSize x_isLaid x_takenMany a_buffer a_length a_bytes a_weight a_live a_size a_list a_moved a_planned a_stream a_reportedEnd a_reportedKeyword a_starts a_keywordAt a_element a_long1 a_head a_tail a_next a_skip a_last a_whole a_edges a_covers a_weighs a_numbers a_takes a_takenAt) := hD
  refine lv_aload_n hx hb dX8_superstringLength_5 rfl (lv_at hl 0 rfl) ?_
  obtain ⟨vz1, vz2, vz3, vz4, vz5, vz6, vz7, vz8, vz9, vz10, vz11, vz12, hcz, hs⟩ := bd12_some hs
  refine k_wVs (As := []) (rest := []) (st1 := []) (w1 := (wM cI cZ cJ ad 0 x_buffered x_given x_isFolding x_work x_rebuilt x_streamed x_reports x_gapFrom x_gapSize vz1 vz2 vz3 x_takenMany a_buffer a_length a_bytes a_weight a_live a_size a_list a_moved a_planned a_stream a_reportedEnd a_reportedKeyword a_starts a_keywordAt vz4 vz5 vz6 vz7 vz8 vz9 vz10 vz11 vz12 a_covers a_weighs a_numbers a_takes a_takenAt)) ⟨hx, hb, hml, hown, hts⟩ hK hP hD hSz hA (c_X8_laysWhole l D cI cZ cJ hcz) (cwV 0 hts gX8_superstringLength_X8_laysWhole rfl rfl rfl (by decide +kernel) ⟨Nat.le_of_ble_eq_true rfl, Nat.le_of_ble_eq_true rfl⟩) 0 rfl rfl rfl rfl rfl hl.1 rfl (lv_room (Nat.le_of_ble_eq_true rfl)) dX8_superstringLength_6 ⟨Nat.zero_le _, Nat.zero_le _⟩ rfl (fun Hz lz hP hD hSz => ?_)
  have hP : va_P D vwCl (wM cI cZ cJ ad 0 x_buffered x_given x_isFolding x_work x_rebuilt x_streamed x_reports x_gapFrom x_gapSize vz1 vz2 vz3 x_takenMany a_buffer a_length a_bytes a_weight a_live a_size a_list a_moved a_planned a_stream a_reportedEnd a_reportedKeyword a_starts a_keywordAt vz4 vz5 vz6 vz7 vz8 vz9 vz10 vz11 vz12 a_covers a_weighs a_numbers a_takes a_takenAt) Hz := hP
  have hD : va_D Az (wM cI cZ cJ ad 0 x_buffered x_given x_isFolding x_work x_rebuilt x_streamed x_reports x_gapFrom x_gapSize vz1 vz2 vz3 x_takenMany a_buffer a_length a_bytes a_weight a_live a_size a_list a_moved a_planned a_stream a_reportedEnd a_reportedKeyword a_starts a_keywordAt vz4 vz5 vz6 vz7 vz8 vz9 vz10 vz11 vz12 a_covers a_weighs a_numbers a_takes a_takenAt) := hD
  refine lv_aload_n hx hb dX8_superstringLength_9 rfl (lv_at hl 0 rfl) ?_
  refine va_get (ci := 8) (v := .int (iI vz2)) (C := RX8) (T := TX8) (N := 42) hx hb hts hiX8 hown hK hP 0 rfl rfl 33 (by decide) hf263 (fun _ h9 => h9) rfl dX8_superstringLength_10 ?_
  cases hs
  exact k_iret_w hx hb hr hlk (by rw [hw1]; exact hP) hSz dX8_superstringLength_13 rfl
/-! X8_superstringByte -/
set_option maxHeartbeats 4000000 in
set_option maxRecDepth 100000 in
theorem c_X8_superstringByte (l : Launch) (D : va_G) (cI cZ cJ : ClassId) {ad : Nat → Nat} {x_thrown : Int} {x_buffered : Int} {x_given : Int} {x_isFolding : Int} {x_work : Int} {x_rebuilt : Int} {x_streamed : Int} {x_reports : Int} {x_gapFrom : Int} {x_gapSize : Int} {x_elements : Int} {x_wholeSize : Int} {x_isLaid : Int} {x_takenMany : Int} {a_buffer : (Int → Int)} {a_length : (Int → Int)} {a_bytes : (Int → Int)} {a_weight : (Int → Int)} {a_live : (Int → Int)} {a_size : (Int → Int)} {a_list : (Int → Int)} {a_moved : (Int → Int)} {a_planned : (Int → Int)} {a_stream : (Int → Int)} {a_reportedEnd : (Int → Int)} {a_reportedKeyword : (Int → Int)} {a_starts : (Int → Int)} {a_keywordAt : (Int → Int)} {a_element : (Int → Int)} {a_long1 : (Int → Int)} {a_head : (Int → Int)} {a_tail : (Int → Int)} {a_next : (Int → Int)} {a_skip : (Int → Int)} {a_last : (Int → Int)} {a_whole : (Int → Int)} {a_edges : (Int → Int)} {a_covers : (Int → Int)} {a_weighs : (Int → Int)} {a_numbers : (Int → Int)} {a_takes : (Int → Int)} {a_takenAt : (Int → Int)} {pz1 : Int} {r : Int} {y_x_thrown : Int} {y_x_elements : Int} {y_x_wholeSize : Int} {y_x_isLaid : Int} {y_a_element : (Int → Int)} {y_a_long1 : (Int → Int)} {y_a_head : (Int → Int)} {y_a_tail : (Int → Int)} {y_a_next : (Int → Int)} {y_a_skip : (Int → Int)} {y_a_last : (Int → Int)} {y_a_whole : (Int → Int)} {y_a_edges : (Int → Int)} {sz : Nat} (hs : s_X8_superstringByte x_thrown x_given x_isFolding x_elements x_wholeSize x_isLaid a_length a_bytes a_live a_element a_long1 a_head a_tail a_next a_skip a_last a_whole a_edges pz1 = some (r, y_x_thrown, y_x_elements, y_x_wholeSize, y_x_isLaid, y_a_element, y_a_long1, y_a_head, y_a_tail, y_a_next, y_a_skip, y_a_last, y_a_whole, y_a_edges)) : Met l yX8_superstringByte wsX8_superstringByte rm_X8_superstringByte (PW D vwCl [(cI, .int), (cZ, .boolean), (cJ, .long)] [.ref (ad 0), .int (iI pz1)] (wM cI cZ cJ ad x_thrown x_buffered x_given x_isFolding x_work x_rebuilt x_streamed x_reports x_gapFrom x_gapSize x_elements x_wholeSize x_isLaid x_takenMany a_buffer a_length a_bytes a_weight a_live a_size a_list a_moved a_planned a_stream a_reportedEnd a_reportedKeyword a_starts a_keywordAt a_element a_long1 a_head a_tail a_next a_skip a_last a_whole a_edges a_covers a_weighs a_numbers a_takes a_takenAt) sz) (QW D vwCl (some (.int (iI r))) (wM cI cZ cJ ad y_x_thrown x_buffered x_given x_isFolding x_work x_rebuilt x_streamed x_reports x_gapFrom x_gapSize y_x_elements y_x_wholeSize y_x_isLaid x_takenMany a_buffer a_length a_bytes a_weight a_live a_size a_list a_moved a_planned a_stream a_reportedEnd a_reportedKeyword a_starts a_keywordAt y_a_element y_a_long1 y_a_head y_a_tail y_a_next y_a_skip y_a_last y_a_whole y_a_edges a_covers a_weighs a_numbers a_takes a_takenAt) (va_A (wM cI cZ cJ ad x_thrown x_buffered x_given x_isFolding x_work x_rebuilt x_streamed x_reports x_gapFrom x_gapSize x_elements x_wholeSize x_isLaid x_takenMany a_buffer a_length a_bytes a_weight a_live a_size a_list a_moved a_planned a_stream a_reportedEnd a_reportedKeyword a_starts a_keywordAt a_element a_long1 a_head a_tail a_next a_skip a_last a_whole a_edges a_covers a_weighs a_numbers a_takes a_takenAt) sz)) 0 0 (va_A (wM cI cZ cJ ad x_thrown x_buffered x_given x_isFolding x_work x_rebuilt x_streamed x_reports x_gapFrom x_gapSize x_elements x_wholeSize x_isLaid x_takenMany a_buffer a_length a_bytes a_weight a_live a_size a_list a_moved a_planned a_stream a_reportedEnd a_reportedKeyword a_starts a_keywordAt a_element a_long1 a_head a_tail a_next a_skip a_last a_whole a_edges a_covers a_weighs a_numbers a_takes a_takenAt) sz) := by
  refine Met.ofW (cc := cX8_superstringByte) (maxL := 2) (ret := (some .int)) (by decide) rfl ?_
  intro p e s m args below meth c s₁ B hml hv
  obtain ⟨hav, hsz, hP, hK, hD0⟩ := hv
  have hx := B.exec
  have hb := B.bytes
  have hr := B.returns
  have hts := atoms_spec (ws := wsX8_superstringByte) B.pre
  have hown : s.vm.findClass RX8 = some m.cls := findClass_of_methodNamed B.named
  have hlk := B.notSynchronized
  have hf1 : (Cond.fieldLink RX8 1 "KeywordMatcherModel" "thrown" "I").before args s = true := hts _ (List.mem_of_getElem? (i := 1) rfl)
  have hiX8 : ∀ w ∈ wsX80, w ∈ wsX8_superstringByte := fun w h => List.mem_cons_of_mem _ (List.mem_append_right _ h)
  have hf263 : (Cond.fieldLink RX8 263 "KeywordMatcherModel" "wholeSize" "I").before args s = true := hts _ (List.mem_of_getElem? (i := 2) rfl)
  have hf78 : (Cond.fieldLink RX8 78 "KeywordMatcherModel" "whole" "[I").before args s = true := hts _ (List.mem_of_getElem? (i := 3) rfl)
  subst hsz
  have hD := hD0.self (sz := s.heap.size)
  generalize hAe : va_A (wM cI cZ cJ ad x_thrown x_buffered x_given x_isFolding x_work x_rebuilt x_streamed x_reports x_gapFrom x_gapSize x_elements x_wholeSize x_isLaid x_takenMany a_buffer a_length a_bytes a_weight a_live a_size a_list a_moved a_planned a_stream a_reportedEnd a_reportedKeyword a_starts a_keywordAt a_element a_long1 a_head a_tail a_next a_skip a_last a_whole a_edges a_covers a_weighs a_numbers a_takes a_takenAt) s.heap.size = Az at hD ⊢
  have hA : ∀ q : Nat, s.heap.size ≤ q → Az q := fun q h => by rw [← hAe]; exact Or.inr h
  clear hAe
  have hSz : va_S Az s.heap s.heap [] := va_S.rf
  obtain ⟨wz, hw1⟩ : ∃ z : va_W, z = (wM cI cZ cJ ad y_x_thrown x_buffered x_given x_isFolding x_work x_rebuilt x_streamed x_reports x_gapFrom x_gapSize y_x_elements y_x_wholeSize y_x_isLaid x_takenMany a_buffer a_length a_bytes a_weight a_live a_size a_list a_moved a_planned a_stream a_reportedEnd a_reportedKeyword a_starts a_keywordAt y_a_element y_a_long1 y_a_head y_a_tail y_a_next y_a_skip y_a_last y_a_whole y_a_edges a_covers a_weighs a_numbers a_takes a_takenAt) := ⟨_, rfl⟩
  rw [← hw1]
  have hl := lv_entry ([.ref (ad 0), .int (iI pz1)]) (n := 2) (Nat.le_of_ble_eq_true rfl)
  rw [show entryFrame m args 2 = entryFrame m ([.ref (ad 0), .int (iI pz1)] : List Value).toArray 2 from by rw [hav], lg_entry_eq]
  generalize (lg_sl ([.ref (ad 0), .int (iI pz1)]) ++ List.replicate (2 - (lg_sl ([.ref (ad 0), .int (iI pz1)])).length) Slot.unset).toArray = ls at hl ⊢
  have hl : lv_has ls 2 [(0, .ref (ad 0)), (1, .int (iI pz1))] := hl
  unfold s_X8_superstringByte at hs
  refine (?_ : ∀ (Hz : Heap) (lz : List Loc), va_P D vwCl (wM cI cZ cJ ad x_thrown x_buffered x_given x_isFolding x_work x_rebuilt x_streamed x_reports x_gapFrom x_gapSize x_elements x_wholeSize x_isLaid x_takenMany a_buffer a_length a_bytes a_weight a_live a_size a_list a_moved a_planned a_stream a_reportedEnd a_reportedKeyword a_starts a_keywordAt a_element a_long1 a_head a_tail a_next a_skip a_last a_whole a_edges a_covers a_weighs a_numbers a_takes a_takenAt) Hz → va_D Az (wM cI cZ cJ ad x_thrown x_buffered x_given x_isFolding x_work x_rebuilt x_streamed x_reports x_gapFrom x_gapSize x_elements x_wholeSize x_isLaid x_takenMany a_buffer a_length a_bytes a_weight a_live a_size a_list a_moved a_planned a_stream a_reportedEnd a_reportedKeyword a_starts a_keywordAt a_element a_long1 a_head a_tail a_next a_skip a_last a_whole a_edges a_covers a_weighs a_numbers a_takes a_takenAt) → va_S Az s.heap Hz lz → W p l e (headSpec wsX8_superstringByte rm_X8_superstringByte).room s m args below meth c Hz lz 0 0 (MQ below (QW D vwCl (some (.int (iI r))) wz Az) args s 0 0 Az) (F0 m 0 ls [])) s.heap [] hP hD hSz
  intro Hz lz hP hD hSz
  refine lv_aload_n hx hb dX8_superstringByte_0 rfl (lv_at hl 0 rfl) ?_
  refine k_iconst (n := 0) hx hb dX8_superstringByte_1 ?_
  refine va_put (ci := 8) (v := .int (iI 0)) (ty := .int) (C := RX8) (T := TX8) (N := 42) hx hb hts hiX8 tyX8 tyX8_ok nmX8 hown hK hP hD hSz 0 rfl rfl 0 (by decide) hf1 (fun _ h9 => h9) rfl (by decide +kernel) rfl rfl (Nat.le_of_ble_eq_true rfl) dX8_superstringByte_2 (fun Hz lz hP hD hSz => ?_)
  have hP : va_P D vwCl (wM cI cZ cJ ad 0 x_buffered x_given x_isFolding x_work x_rebuilt x_streamed x_reports x_gapFrom x_gapSize x_elements x_wholeSize x_isLaid x_takenMany a_buffer a_length a_bytes a_weight a_live a_size a_list a_moved a_planned a_stream a_reportedEnd a_reportedKeyword a_starts a_keywordAt a_element a_long1 a_head a_tail a_next a_skip a_last a_whole a_edges a_covers a_weighs a_numbers a_takes a_takenAt) Hz := hP
  have hD : va_D Az (wM cI cZ cJ ad 0 x_buffered x_given x_isFolding x_work x_rebuilt x_streamed x_reports x_gapFrom x_gapSize x_elements x_wholeSize x_isLaid x_takenMany a_buffer a_length a_bytes a_weight a_live a_size a_list a_moved a_planned a_stream a_reportedEnd a_reportedKeyword a_starts a_keywordAt a_element a_long1 a_head a_tail a_next a_skip a_last a_whole a_edges a_covers a_weighs a_numbers a_takes a_takenAt) := hD
  refine lv_iload_n hx hb dX8_superstringByte_5 rfl (lv_at hl 1 rfl) ?_
  refine k_if_ge (tgt := 12) hx hb hs dX8_superstringByte_6 (by decide) (fun hs => ?_) (fun hs => ?_)
  · refine k_bipush (n := (-3)) hx hb (by decide) dX8_superstringByte_9 ?_
    cases hs
    exact k_iret_w hx hb hr hlk (by rw [hw1]; exact hP) hSz dX8_superstringByte_11 rfl
  · refine lv_aload_n hx hb dX8_superstringByte_12 rfl (lv_at hl 0 rfl) ?_
    obtain ⟨vz1, vz2, vz3, vz4, vz5, vz6, vz7, vz8, vz9, vz10, vz11, vz12, hcz, hs⟩ := bd12_some hs
    refine k_wVs (As := []) (rest := []) (st1 := []) (w1 := (wM cI cZ cJ ad 0 x_buffered x_given x_isFolding x_work x_rebuilt x_streamed x_reports x_gapFrom x_gapSize vz1 vz2 vz3 x_takenMany a_buffer a_length a_bytes a_weight a_live a_size a_list a_moved a_planned a_stream a_reportedEnd a_reportedKeyword a_starts a_keywordAt vz4 vz5 vz6 vz7 vz8 vz9 vz10 vz11 vz12 a_covers a_weighs a_numbers a_takes a_takenAt)) ⟨hx, hb, hml, hown, hts⟩ hK hP hD hSz hA (c_X8_laysWhole l D cI cZ cJ hcz) (cwV 0 hts gX8_superstringByte_X8_laysWhole rfl rfl rfl (by decide +kernel) ⟨Nat.le_of_ble_eq_true rfl, Nat.le_of_ble_eq_true rfl⟩) 0 rfl rfl rfl rfl rfl hl.1 rfl (lv_room (Nat.le_of_ble_eq_true rfl)) dX8_superstringByte_13 ⟨Nat.zero_le _, Nat.zero_le _⟩ rfl (fun Hz lz hP hD hSz => ?_)
    have hP : va_P D vwCl (wM cI cZ cJ ad 0 x_buffered x_given x_isFolding x_work x_rebuilt x_streamed x_reports x_gapFrom x_gapSize vz1 vz2 vz3 x_takenMany a_buffer a_length a_bytes a_weight a_live a_size a_list a_moved a_planned a_stream a_reportedEnd a_reportedKeyword a_starts a_keywordAt vz4 vz5 vz6 vz7 vz8 vz9 vz10 vz11 vz12 a_covers a_weighs a_numbers a_takes a_takenAt) Hz := hP
    have hD : va_D Az (wM cI cZ cJ ad 0 x_buffered x_given x_isFolding x_work x_rebuilt x_streamed x_reports x_gapFrom x_gapSize vz1 vz2 vz3 x_takenMany a_buffer a_length a_bytes a_weight a_live a_size a_list a_moved a_planned a_stream a_reportedEnd a_reportedKeyword a_starts a_keywordAt vz4 vz5 vz6 vz7 vz8 vz9 vz10 vz11 vz12 a_covers a_weighs a_numbers a_takes a_takenAt) := hD
    refine lv_iload_n hx hb dX8_superstringByte_16 rfl (lv_at hl 1 rfl) ?_
    refine lv_aload_n hx hb dX8_superstringByte_17 rfl (lv_at hl 0 rfl) ?_
    refine va_get (ci := 8) (v := .int (iI vz2)) (C := RX8) (T := TX8) (N := 42) hx hb hts hiX8 hown hK hP 0 rfl rfl 33 (by decide) hf263 (fun _ h9 => h9) rfl dX8_superstringByte_18 ?_
    refine k_icmp_ge (tgt := 33) hx hb hs dX8_superstringByte_21 (by decide) (fun hs => ?_) (fun hs => ?_)
    · refine lv_aload_n hx hb dX8_superstringByte_24 rfl (lv_at hl 0 rfl) ?_
      refine va_get (ci := 8) (v := .ref (ad 22)) (C := RX8) (T := TX8) (N := 42) hx hb hts hiX8 hown hK hP 0 rfl rfl 31 (by decide) hf78 (fun _ h9 => h9) rfl dX8_superstringByte_25 ?_
      refine lv_iload_n hx hb dX8_superstringByte_28 rfl (lv_at hl 1 rfl) ?_
      refine k_iald hx hb hK hP 22 0 rfl rfl (Nat.le_of_ble_eq_true rfl) hs dX8_superstringByte_29 (fun vz13 hs => ?_)
      refine lv_goto (tgt := 34) hx hb dX8_superstringByte_30 (by decide) ?_
      cases hs
      exact k_iret_w hx hb hr hlk (by rw [hw1]; exact hP) hSz dX8_superstringByte_34 rfl
    · refine k_iconst (n := (-1)) hx hb dX8_superstringByte_33 ?_
      cases hs
      exact k_iret_w hx hb hr hlk (by rw [hw1]; exact hP) hSz dX8_superstringByte_34 rfl
/-! X8_isInWhole -/
set_option maxHeartbeats 4000000 in
set_option maxRecDepth 100000 in
theorem c_X8_isInWhole (l : Launch) (D : va_G) (cI cZ cJ : ClassId) {ad : Nat → Nat} {x_thrown : Int} {x_buffered : Int} {x_given : Int} {x_isFolding : Int} {x_work : Int} {x_rebuilt : Int} {x_streamed : Int} {x_reports : Int} {x_gapFrom : Int} {x_gapSize : Int} {x_elements : Int} {x_wholeSize : Int} {x_isLaid : Int} {x_takenMany : Int} {a_buffer : (Int → Int)} {a_length : (Int → Int)} {a_bytes : (Int → Int)} {a_weight : (Int → Int)} {a_live : (Int → Int)} {a_size : (Int → Int)} {a_list : (Int → Int)} {a_moved : (Int → Int)} {a_planned : (Int → Int)} {a_stream : (Int → Int)} {a_reportedEnd : (Int → Int)} {a_reportedKeyword : (Int → Int)} {a_starts : (Int → Int)} {a_keywordAt : (Int → Int)} {a_element : (Int → Int)} {a_long1 : (Int → Int)} {a_head : (Int → Int)} {a_tail : (Int → Int)} {a_next : (Int → Int)} {a_skip : (Int → Int)} {a_last : (Int → Int)} {a_whole : (Int → Int)} {a_edges : (Int → Int)} {a_covers : (Int → Int)} {a_weighs : (Int → Int)} {a_numbers : (Int → Int)} {a_takes : (Int → Int)} {a_takenAt : (Int → Int)} {pz1 : Int} {pz2 : Int} {r : Int} (hs : s_X8_isInWhole x_isFolding a_length a_bytes a_whole pz1 pz2 = some r) : Met l yX8_isInWhole wsX8_isInWhole rm_X8_isInWhole (PR D vwCl [(cI, .int), (cZ, .boolean), (cJ, .long)] [.ref (ad 0), .int (iI pz1), .int (iI pz2)] (wM cI cZ cJ ad x_thrown x_buffered x_given x_isFolding x_work x_rebuilt x_streamed x_reports x_gapFrom x_gapSize x_elements x_wholeSize x_isLaid x_takenMany a_buffer a_length a_bytes a_weight a_live a_size a_list a_moved a_planned a_stream a_reportedEnd a_reportedKeyword a_starts a_keywordAt a_element a_long1 a_head a_tail a_next a_skip a_last a_whole a_edges a_covers a_weighs a_numbers a_takes a_takenAt)) (QR (some (.int (iI r)))) 0 0 (fun _ => False) := by
  refine Met.ofW (cc := cX8_isInWhole) (maxL := 4) (ret := (some .boolean)) (by decide) rfl ?_
  intro p e s m args below meth c s₁ B hml hv
  obtain ⟨hav, hP, hK⟩ := hv
  have hx := B.exec
  have hb := B.bytes
  have hr := B.returns
  have hts := atoms_spec (ws := wsX8_isInWhole) B.pre
  have hown : s.vm.findClass RX8 = some m.cls := findClass_of_methodNamed B.named
  have hlk := B.notSynchronized
  have hf17 : (Cond.fieldLink RX8 17 "KeywordMatcherModel" "length" "[I").before args s = true := hts _ (List.mem_of_getElem? (i := 1) rfl)
  have hiX8 : ∀ w ∈ wsX80, w ∈ wsX8_isInWhole := fun w h => List.mem_cons_of_mem _ (List.mem_append_right _ h)
  have hf78 : (Cond.fieldLink RX8 78 "KeywordMatcherModel" "whole" "[I").before args s = true := hts _ (List.mem_of_getElem? (i := 2) rfl)
  have hl := lv_entry ([.ref (ad 0), .int (iI pz1), .int (iI pz2)]) (n := 4) (Nat.le_of_ble_eq_true rfl)
  rw [show entryFrame m args 4 = entryFrame m ([.ref (ad 0), .int (iI pz1), .int (iI pz2)] : List Value).toArray 4 from by rw [hav], lg_entry_eq]
  generalize (lg_sl ([.ref (ad 0), .int (iI pz1), .int (iI pz2)]) ++ List.replicate (4 - (lg_sl ([.ref (ad 0), .int (iI pz1), .int (iI pz2)])).length) Slot.unset).toArray = ls at hl ⊢
  have hl : lv_has ls 4 [(0, .ref (ad 0)), (1, .int (iI pz1)), (2, .int (iI pz2))] := hl
  unfold s_X8_isInWhole at hs
  have Lz2 : ∀ (fu : Nat) (l1 : Int) (l2 : Int) (l3 : Int), s_X8_isInWhole_2 fu x_isFolding a_length a_bytes a_whole l1 l2 l3 = some r → ∀ ls : Array Slot, lv_has ls 4 [(0, .ref (ad 0)), (1, .int (iI l1)), (2, .int (iI l2)), (3, .int (iI l3))] → W p l e (headSpec wsX8_isInWhole rm_X8_isInWhole).room s m args below meth c s.heap [] 0 0 (MQ below (QR (some (.int (iI r)))) args s 0 0 (fun _ => False)) (F0 m 2 ls []) := by
    intro fu
    induction fu with
    | zero => intro l1 l2 l3 hs; cases hs
    | succ fu ih =>
      intro l1 l2 l3 hs ls hl
      rw [s_X8_isInWhole_2_s] at hs
      refine lv_iload_n hx hb dX8_isInWhole_2 rfl (lv_at hl 3 rfl) ?_
      refine lv_aload_n hx hb dX8_isInWhole_3 rfl (lv_at hl 0 rfl) ?_
      refine va_get (ci := 8) (v := .ref (ad 2)) (C := RX8) (T := TX8) (N := 42) hx hb hts hiX8 hown hK hP 0 rfl rfl 3 (by decide) hf17 (fun _ h9 => h9) rfl dX8_isInWhole_4 ?_
      refine lv_iload_n hx hb dX8_isInWhole_7 rfl (lv_at hl 1 rfl) ?_
      refine k_iald hx hb hK hP 2 0 rfl rfl (Nat.le_of_ble_eq_true rfl) hs dX8_isInWhole_8 (fun vz1 hs => ?_)
      refine k_icmp_ge (tgt := 41) hx hb hs dX8_isInWhole_9 (by decide) (fun hs => ?_) (fun hs => ?_)
      · refine lv_aload_n hx hb dX8_isInWhole_12 rfl (lv_at hl 0 rfl) ?_
        refine lv_aload_n hx hb dX8_isInWhole_13 rfl (lv_at hl 0 rfl) ?_
        refine lv_iload_n hx hb dX8_isInWhole_14 rfl (lv_at hl 1 rfl) ?_
        refine lv_iload_n hx hb dX8_isInWhole_15 rfl (lv_at hl 3 rfl) ?_
        obtain ⟨vz2, hcz, hs⟩ := bd1_some hs
        refine k_rV (As := [.int (iI l1), .int (iI l3)]) (rest := [.ref (ad 0)]) (st1 := [.int (iI vz2), .ref (ad 0)]) ⟨hx, hb, hml, hown, hts⟩ hK hP (c_X8_byteOf l D cI cZ cJ hcz) (cwV 2 hts gX8_isInWhole_X8_byteOf rfl rfl rfl (by decide +kernel) ⟨Nat.le_of_ble_eq_true rfl, Nat.le_of_ble_eq_true rfl⟩) 0 rfl rfl rfl rfl hl.1 rfl (lv_room (Nat.le_of_ble_eq_true rfl)) dX8_isInWhole_16 ⟨Nat.zero_le _, Nat.zero_le _⟩ rfl ?_
        refine lv_aload_n hx hb dX8_isInWhole_19 rfl (lv_at hl 0 rfl) ?_
        refine va_get (ci := 8) (v := .ref (ad 22)) (C := RX8) (T := TX8) (N := 42) hx hb hts hiX8 hown hK hP 0 rfl rfl 31 (by decide) hf78 (fun _ h9 => h9) rfl dX8_isInWhole_20 ?_
        refine lv_iload_n hx hb dX8_isInWhole_23 rfl (lv_at hl 2 rfl) ?_
        refine lv_iload_n hx hb dX8_isInWhole_24 rfl (lv_at hl 3 rfl) ?_
        refine k_iadd hx hb dX8_isInWhole_25 ?_
        refine k_iald hx hb hK hP 22 0 rfl rfl (Nat.le_of_ble_eq_true rfl) hs dX8_isInWhole_26 (fun vz3 hs => ?_)
        obtain ⟨vz4, hcz, hs⟩ := bd1_some hs
        refine k_rV (As := [.int (iI vz2), .int (iI vz3)]) (rest := []) (st1 := [.int (iI vz4)]) ⟨hx, hb, hml, hown, hts⟩ hK hP (c_X8_like l D cI cZ cJ hcz) (cwV 2 hts gX8_isInWhole_X8_like rfl rfl rfl (by decide +kernel) ⟨Nat.le_of_ble_eq_true rfl, Nat.le_of_ble_eq_true rfl⟩) 0 rfl rfl rfl rfl hl.1 rfl (lv_room (Nat.le_of_ble_eq_true rfl)) dX8_isInWhole_27 ⟨Nat.zero_le _, Nat.zero_le _⟩ rfl ?_
        refine k_if_ne (tgt := 35) hx hb hs dX8_isInWhole_30 (by decide) (fun hs => ?_) (fun hs => ?_)
        · refine k_iconst (n := 0) hx hb dX8_isInWhole_33 ?_
          cases hs
          exact k_zret_r hx hb hr hlk rfl (by decide) dX8_isInWhole_34 rfl
        · refine k_iinc (x := l3) (k := 3) (lv' := [(3, .int (iI (l3 + 1))), (0, .ref (ad 0)), (1, .int (iI l1)), (2, .int (iI l2))]) hx hb dX8_isInWhole_35 hl rfl (by decide) rfl (fun ls hl => ?_)
          refine lv_goto (tgt := 2) hx hb dX8_isInWhole_38 (by decide) ?_
          exact ih l1 l2 (l3 + 1)  hs ls (lv_sub hl [1, 2, 3, 0] rfl)
      · refine k_iconst (n := 1) hx hb dX8_isInWhole_41 ?_
        cases hs
        exact k_zret_r hx hb hr hlk rfl (by decide) dX8_isInWhole_42 rfl
  refine k_iconst (n := 0) hx hb dX8_isInWhole_0 ?_
  refine lv_istore_n (lv' := [(3, .int (iI 0)), (0, .ref (ad 0)), (1, .int (iI pz1)), (2, .int (iI pz2))]) hx hb dX8_isInWhole_1 rfl hl (by decide) rfl (fun ls hl => ?_)
  exact Lz2 FU pz1 pz2 0 hs ls (lv_sub hl [1, 2, 3, 0] rfl)
